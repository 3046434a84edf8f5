set_option maxHeartbeats 4000000 in
set_option maxRecDepth 100000 in
theorem vX8_sure {l : Launch} (hfl : l.stackTraces = false) {E : EV} {a : Nat → Nat → Nat} {u0 : HS} {x1 : Int32} {x2 : Int32} {out : (Nat × Int32 × HS)} (h : mX8_sure u0 x1 x2 = some out) : CtX l E yX8_sure cX8_sure 4 (some .int) 7 111 2 12 a u0 [.ref (a 8 0), .int x1, .int x2] out.1 (some (.int out.2.1)) out.2.2 := by
  refine CtX.start (by decide) (Nat.le_of_ble_eq_true rfl) ?_
  intro p e s m args below meth c ls hT0 C hr hR hS hl
  have C : Cx E p s m args meth c cX8_sure 4 RX8 := C
  have hl : lv_has ls 4 [(0, .ref (a 8 0)), (1, .int x1), (2, .int x2)] := hl
  have hx := C.1
  have hb := C.2.1
  unfold mX8_sure at h
  refine lv_aload_n hx hb dX8_sure_0 rfl (lv_at hl 0 rfl) ?_
  refine lv_iload_n hx hb dX8_sure_1 rfl (lv_at hl 1 rfl) ?_
  obtain ⟨t101, hc101, h⟩ := ob h
  refine r_callXV (Qc := QX E a out.1 (some (.int out.2.1)) out.2.2) (mc0 := 2) (ms0 := 12) (As := [.int x1]) (rest := []) (r := 8) (i := 0) C hT0 (vX8_requireLooker hfl hc101) hR hS (lv0 (by decide) (by decide)) (by decide) ml_X8_199 mw_X8_requireLooker rfl ⟨Nat.le_of_ble_eq_true rfl, Nat.le_of_ble_eq_true rfl, Nat.le_of_ble_eq_true rfl, Nat.le_of_ble_eq_true rfl⟩ ⟨Nat.le_of_ble_eq_true rfl, Nat.le_of_ble_eq_true rfl⟩ hl.1 rfl (Nat.le_of_ble_eq_true rfl) dX8_sure_2 (fun hk => ?_) (fun hk H locs hR hS => ?_)
  · rw [xq_ne hk] at h
    cases h
    exact fun _ q => q
  rw [xq_0 hk] at h
  refine lv_iload_n hx hb dX8_sure_5 rfl (lv_at hl 2 rfl) ?_
  obtain ⟨x102, hz, h⟩ := ob h
  have Kj103 : ∀ (H : Heap) (locs : List Loc) (ls : Array Slot), Rel E a u0 H → va_S (AE E) s.heap H locs → lv_has ls 4 [(0, .ref (a 8 0)), (1, .int x1), (2, .int x2)] → W p l e { frames := 7, cells := 2, slots := 12, locals := 111 } s m args below meth c H locs 1 6 (vx_MQ below (QX E a out.1 (some (.int out.2.1)) out.2.2) (XW E a out.1 out.2.2) args s 2 12 (AE E)) (F0 m 20 ls [.int x102]) := by
    intro H locs ls hR hS hl
    clear hz
    obtain ⟨t104, hc104, h⟩ := ob h
    refine r_callXS (Qc := QX E a out.1 (some (.int out.2.1)) out.2.2) (mc0 := 2) (ms0 := 12) (As := [.int x102]) (rest := []) C hT0 (vX8_require hfl hc104) hR hS ml_X8_105 ms_X8_require rfl ⟨Nat.le_of_ble_eq_true rfl, Nat.le_of_ble_eq_true rfl, Nat.le_of_ble_eq_true rfl, Nat.le_of_ble_eq_true rfl⟩ ⟨Nat.le_of_ble_eq_true rfl, Nat.le_of_ble_eq_true rfl⟩ hl.1 rfl (Nat.le_of_ble_eq_true rfl) dX8_sure_20 (fun hk => ?_) (fun hk H locs hR hS => ?_)
    · rw [xq_ne hk] at h
      cases h
      exact fun _ q => q
    rw [xq_0 hk] at h
    refine lv_aload_n hx hb dX8_sure_23 rfl (lv_at hl 0 rfl) ?_
    refine r_get C hR 8 0 8 (v := .ref (a 0 0)) (lv0 (by decide) (by decide)) (by decide) (by decide) rfl fl_X8_56 dX8_sure_24 ?_
    refine r_get C hR 0 0 6 (v := .ref (a 24 0)) (lv0 (by decide) (by decide)) (by decide) (by decide) rfl fl_X8_286 dX8_sure_27 ?_
    refine lv_iload_n hx hb dX8_sure_30 rfl (lv_at hl 1 rfl) ?_
    obtain ⟨k105, hk105, h⟩ := ob h
    refine r_ald C hR 24 0 (lv0 (by decide) (by decide)) (by decide) rfl (fun _ => rfl) rfl hk105 dX8_sure_31 ?_
    refine lv_topi (fun x106 ex106 => ?_)
    replace h := bd_x ex106 h
    refine lv_istore_n (lv' := [(3, .int x106), (0, .ref (a 8 0)), (1, .int x1), (2, .int x2)]) hx hb dX8_sure_32 rfl hl (by decide) rfl (fun ls hl => ?_)
    refine lv_aload_n hx hb dX8_sure_33 rfl (lv_at hl 1 rfl) ?_
    refine r_get C hR 8 0 8 (v := .ref (a 0 0)) (lv0 (by decide) (by decide)) (by decide) (by decide) rfl fl_X8_56 dX8_sure_34 ?_
    refine r_get C hR 0 0 6 (v := .ref (a 24 0)) (lv0 (by decide) (by decide)) (by decide) (by decide) rfl fl_X8_286 dX8_sure_37 ?_
    refine lv_iload_n hx hb dX8_sure_40 rfl (lv_at hl 2 rfl) ?_
    refine lv_iload_n hx hb dX8_sure_41 rfl (lv_at hl 3 rfl) ?_
    obtain ⟨k107, hk107, h⟩ := ob h
    refine r_ast C hR hS 24 0 (lv0 (by decide) (by decide)) (by decide) rfl (fun _ _ => rfl) rfl hk107 dX8_sure_42 (fun H locs hR hS => ?_)
    obtain ⟨u108, eu108⟩ : ∃ z : HS, z = wI u0 24 0 k107 x2 := ⟨_, rfl⟩
    rw [← eu108] at hR
    replace h := bd_x eu108 h
    clear eu108
    refine lv_iload_n hx hb dX8_sure_43 rfl (lv_at hl 0 rfl) ?_
    cases h
    exact x_ret (e_iret C hr hR hS (Nat.le_of_ble_eq_true rfl) (Nat.le_of_ble_eq_true rfl) dX8_sure_44)
  clear h
  have h := hz
  clear hz
  refine jp_cut h (fun j109 hj109 h => ?_)
  have Kj109 : ∀  (H : Heap) (locs : List Loc) (ls : Array Slot), j109 = some x102 → Rel E a u0 H → va_S (AE E) s.heap H locs → lv_has ls 4 [(0, .ref (a 8 0)), (1, .int x1), (2, .int x2)] → W p l e { frames := 7, cells := 2, slots := 12, locals := 111 } s m args below meth c H locs 1 6 (vx_MQ below (QX E a out.1 (some (.int out.2.1)) out.2.2) (XW E a out.1 out.2.2) args s 2 12 (AE E)) (F0 m 19 ls []) := by
    intro  H locs ls h hR hS hl
    replace h := jx0 hj109 h
    refine lv_iconst (v := 0) hx hb dX8_sure_19 (by decide) ?_
    cases h
    exact Kj103 _ _ _ hR hS (lv_sub hl [0, 1, 2] rfl)
  refine lv_if_lt (tgt := 19) hx hb dX8_sure_6 (by decide) (fun c_110 => ?_) (fun c_110 => ?_)
  · rw [if_pos c_110] at h
    exact Kj109  _ _ _ h hR hS (lv_sub hl [0, 1, 2] rfl)
  · rw [if_neg c_110] at h
    refine lv_iload_n hx hb dX8_sure_9 rfl (lv_at hl 2 rfl) ?_
    refine lv_bipush (v := 100) hx hb dX8_sure_10 (by decide) ?_
    refine lv_icmp_gt (tgt := 19) hx hb dX8_sure_12 (by decide) (fun c_111 => ?_) (fun c_111 => ?_)
    · rw [if_pos c_111] at h
      exact Kj109  _ _ _ h hR hS (lv_sub hl [0, 1, 2] rfl)
    · rw [if_neg c_111] at h
      refine lv_iconst (v := 1) hx hb dX8_sure_15 (by decide) ?_
      refine lv_goto (tgt := 20) hx hb dX8_sure_16 (by decide) ?_
      cases h
      exact Kj103 _ _ _ hR hS (lv_sub hl [0, 1, 2] rfl)
set_option maxHeartbeats 4000000 in
set_option maxRecDepth 100000 in
theorem vX8_share {l : Launch} (hfl : l.stackTraces = false) {E : EV} {a : Nat → Nat → Nat} {u0 : HS} {x1 : Int32} {x2 : Int32} {x3 : Int32} {x4 : Int32} {out : (Nat × Int32 × HS)} (h : mX8_share u0 x1 x2 x3 x4 = some out) : CtX l E yX8_share cX8_share 8 (some .int) 7 111 3 18 a u0 [.ref (a 8 0), .int x1, .int x2, .int x3, .int x4] out.1 (some (.int out.2.1)) out.2.2 := by
  refine CtX.start (by decide) (Nat.le_of_ble_eq_true rfl) ?_
  intro p e s m args below meth c ls hT0 C hr hR hS hl
  have C : Cx E p s m args meth c cX8_share 8 RX8 := C
  have hl : lv_has ls 8 [(0, .ref (a 8 0)), (1, .int x1), (2, .int x2), (3, .int x3), (4, .int x4)] := hl
  have hx := C.1
  have hb := C.2.1
  unfold mX8_share at h
  refine lv_aload_n hx hb dX8_share_0 rfl (lv_at hl 0 rfl) ?_
  refine lv_iload_n hx hb dX8_share_1 rfl (lv_at hl 1 rfl) ?_
  obtain ⟨t101, hc101, h⟩ := ob h
  refine r_callXV (Qc := QX E a out.1 (some (.int out.2.1)) out.2.2) (mc0 := 3) (ms0 := 18) (As := [.int x1]) (rest := []) (r := 8) (i := 0) C hT0 (vX8_requireScene hfl hc101) hR hS (lv0 (by decide) (by decide)) (by decide) ml_X8_128 mw_X8_requireScene rfl ⟨Nat.le_of_ble_eq_true rfl, Nat.le_of_ble_eq_true rfl, Nat.le_of_ble_eq_true rfl, Nat.le_of_ble_eq_true rfl⟩ ⟨Nat.le_of_ble_eq_true rfl, Nat.le_of_ble_eq_true rfl⟩ hl.1 rfl (Nat.le_of_ble_eq_true rfl) dX8_share_2 (fun hk => ?_) (fun hk H locs hR hS => ?_)
  · rw [xq_ne hk] at h
    cases h
    exact fun _ q => q
  rw [xq_0 hk] at h
  refine lv_aload_n hx hb dX8_share_5 rfl (lv_at hl 0 rfl) ?_
  refine lv_iload_n hx hb dX8_share_6 rfl (lv_at hl 2 rfl) ?_
  obtain ⟨t102, hc102, h⟩ := ob h
  refine r_callXV (Qc := QX E a out.1 (some (.int out.2.1)) out.2.2) (mc0 := 3) (ms0 := 18) (As := [.int x2]) (rest := []) (r := 8) (i := 0) C hT0 (vX8_requireTask hfl hc102) hR hS (lv0 (by decide) (by decide)) (by decide) ml_X8_170 mw_X8_requireTask rfl ⟨Nat.le_of_ble_eq_true rfl, Nat.le_of_ble_eq_true rfl, Nat.le_of_ble_eq_true rfl, Nat.le_of_ble_eq_true rfl⟩ ⟨Nat.le_of_ble_eq_true rfl, Nat.le_of_ble_eq_true rfl⟩ hl.1 rfl (Nat.le_of_ble_eq_true rfl) dX8_share_7 (fun hk => ?_) (fun hk H locs hR hS => ?_)
  · rw [xq_ne hk] at h
    cases h
    exact fun _ q => q
  rw [xq_0 hk] at h
  refine lv_iload_n hx hb dX8_share_10 rfl (lv_at hl 3 rfl) ?_
  obtain ⟨x104, hc103, h⟩ := ob h
  refine r_callS1 (As := [.int x3]) (rest := []) C (vX8_isAsking hc103) hR hS ml_X8_247 ms_X8_isAsking rfl ⟨Nat.le_of_ble_eq_true rfl, Nat.le_of_ble_eq_true rfl, Nat.le_of_ble_eq_true rfl, Nat.le_of_ble_eq_true rfl⟩ hl.1 rfl (Nat.le_of_ble_eq_true rfl) dX8_share_11 (fun H locs hR hS => ?_)
  obtain ⟨x105, hz, h⟩ := ob h
  have Kj106 : ∀ (H : Heap) (locs : List Loc) (ls : Array Slot), Rel E a u0 H → va_S (AE E) s.heap H locs → lv_has ls 8 [(0, .ref (a 8 0)), (1, .int x1), (2, .int x2), (3, .int x3), (4, .int x4)] → W p l e { frames := 7, cells := 3, slots := 18, locals := 111 } s m args below meth c H locs 2 12 (vx_MQ below (QX E a out.1 (some (.int out.2.1)) out.2.2) (XW E a out.1 out.2.2) args s 3 18 (AE E)) (F0 m 33 ls [.int x105]) := by
    intro H locs ls hR hS hl
    clear hz
    obtain ⟨t107, hc107, h⟩ := ob h
    refine r_callXS (Qc := QX E a out.1 (some (.int out.2.1)) out.2.2) (mc0 := 3) (ms0 := 18) (As := [.int x105]) (rest := []) C hT0 (vX8_require hfl hc107) hR hS ml_X8_105 ms_X8_require rfl ⟨Nat.le_of_ble_eq_true rfl, Nat.le_of_ble_eq_true rfl, Nat.le_of_ble_eq_true rfl, Nat.le_of_ble_eq_true rfl⟩ ⟨Nat.le_of_ble_eq_true rfl, Nat.le_of_ble_eq_true rfl⟩ hl.1 rfl (Nat.le_of_ble_eq_true rfl) dX8_share_33 (fun hk => ?_) (fun hk H locs hR hS => ?_)
    · rw [xq_ne hk] at h
      cases h
      exact fun _ q => q
    rw [xq_0 hk] at h
    refine lv_aload_n hx hb dX8_share_36 rfl (lv_at hl 0 rfl) ?_
    refine r_get C hR 8 0 8 (v := .ref (a 0 0)) (lv0 (by decide) (by decide)) (by decide) (by decide) rfl fl_X8_56 dX8_share_37 ?_
    refine lv_iload_n hx hb dX8_share_40 rfl (lv_at hl 1 rfl) ?_
    refine lv_iload_n hx hb dX8_share_41 rfl (lv_at hl 2 rfl) ?_
    refine lv_iload_n hx hb dX8_share_42 rfl (lv_at hl 3 rfl) ?_
    obtain ⟨x109, hc108, h⟩ := ob h
    refine r_callV1 (As := [.int x1, .int x2, .int x3]) (rest := []) (r := 0) (i := 0) C (vX0_askedOf (by decide) hc108) hR hS (lv0 (by decide) (by decide)) (by decide) ml_X8_289 mw_X0_askedOf rfl ⟨Nat.le_of_ble_eq_true rfl, Nat.le_of_ble_eq_true rfl, Nat.le_of_ble_eq_true rfl, Nat.le_of_ble_eq_true rfl⟩ hl.1 rfl (Nat.le_of_ble_eq_true rfl) dX8_share_43 (fun H locs hR hS => ?_)
    refine lv_istore (lv' := [(5, .int x109), (0, .ref (a 8 0)), (1, .int x1), (2, .int x2), (3, .int x3), (4, .int x4)]) hx hb dX8_share_46 hl (by decide) rfl (fun ls hl => ?_)
    refine lv_aload_n hx hb dX8_share_48 rfl (lv_at hl 1 rfl) ?_
    refine r_get C hR 8 0 8 (v := .ref (a 0 0)) (lv0 (by decide) (by decide)) (by decide) (by decide) rfl fl_X8_56 dX8_share_49 ?_
    refine lv_iload_n hx hb dX8_share_52 rfl (lv_at hl 2 rfl) ?_
    refine lv_iload_n hx hb dX8_share_53 rfl (lv_at hl 3 rfl) ?_
    refine lv_iload_n hx hb dX8_share_54 rfl (lv_at hl 4 rfl) ?_
    obtain ⟨x111, hc110, h⟩ := ob h
    refine r_callV1 (As := [.int x1, .int x2, .int x3]) (rest := []) (r := 0) (i := 0) C (vX0_yesOf (by decide) hc110) hR hS (lv0 (by decide) (by decide)) (by decide) ml_X8_292 mw_X0_yesOf rfl ⟨Nat.le_of_ble_eq_true rfl, Nat.le_of_ble_eq_true rfl, Nat.le_of_ble_eq_true rfl, Nat.le_of_ble_eq_true rfl⟩ hl.1 rfl (Nat.le_of_ble_eq_true rfl) dX8_share_55 (fun H locs hR hS => ?_)
    refine lv_istore (lv' := [(6, .int x111), (5, .int x109), (0, .ref (a 8 0)), (1, .int x1), (2, .int x2), (3, .int x3), (4, .int x4)]) hx hb dX8_share_58 hl (by decide) rfl (fun ls hl => ?_)
    refine lv_iconst (v := 1) hx hb dX8_share_60 (by decide) ?_
    refine lv_iload hx hb dX8_share_61 (lv_at hl 0 rfl) ?_
    obtain ⟨x113, hc112, h⟩ := ob h
    refine r_callS1 (As := [.int x111]) (rest := [.int 1]) C (vX8_root hc112) hR hS ml_X8_295 ms_X8_root rfl ⟨Nat.le_of_ble_eq_true rfl, Nat.le_of_ble_eq_true rfl, Nat.le_of_ble_eq_true rfl, Nat.le_of_ble_eq_true rfl⟩ hl.1 rfl (Nat.le_of_ble_eq_true rfl) dX8_share_63 (fun H locs hR hS => ?_)
    refine lv_iadd hx hb dX8_share_66 ?_
    refine lv_topi (fun x114 ex114 => ?_)
    replace h := bd_x ex114 h
    refine lv_istore (lv' := [(7, .int x114), (6, .int x111), (5, .int x109), (0, .ref (a 8 0)), (1, .int x1), (2, .int x2), (3, .int x3), (4, .int x4)]) hx hb dX8_share_67 hl (by decide) rfl (fun ls hl => ?_)
    refine lv_iload hx hb dX8_share_69 (lv_at hl 7 rfl) ?_
    by_cases c_115 : x4 = 0
    · rw [if_pos c_115] at h
      refine sw_in c_115 hx hb dX8_share_71 (by decide) (by decide) rfl (by decide) (tgt := 96) ?_
      refine lv_iload hx hb dX8_share_96 (lv_at hl 2 rfl) ?_
      cases h
      exact x_ret (e_iret C hr hR hS (Nat.le_of_ble_eq_true rfl) (Nat.le_of_ble_eq_true rfl) dX8_share_98)
    rw [if_neg c_115] at h
    by_cases c_116 : x4 = 1
    · rw [if_pos c_116] at h
      refine sw_in c_116 hx hb dX8_share_71 (by decide) (by decide) rfl (by decide) (tgt := 99) ?_
      refine lv_iload hx hb dX8_share_99 (lv_at hl 1 rfl) ?_
      cases h
      exact x_ret (e_iret C hr hR hS (Nat.le_of_ble_eq_true rfl) (Nat.le_of_ble_eq_true rfl) dX8_share_101)
    rw [if_neg c_116] at h
    by_cases c_117 : x4 = 2
    · rw [if_pos c_117] at h
      refine sw_in c_117 hx hb dX8_share_71 (by decide) (by decide) rfl (by decide) (tgt := 102) ?_
      refine lv_iconst (v := 0) hx hb dX8_share_102 (by decide) ?_
      refine lv_iload hx hb dX8_share_103 (lv_at hl 1 rfl) ?_
      refine lv_iload hx hb dX8_share_105 (lv_at hl 0 rfl) ?_
      refine lv_isub hx hb dX8_share_107 ?_
      refine r_max C hl.1 ml_X8_298 (Nat.le_of_ble_eq_true rfl) (Nat.le_of_ble_eq_true rfl) (Nat.le_of_ble_eq_true rfl) (Nat.le_of_ble_eq_true rfl) dX8_share_108 ?_
      refine lv_topi (fun x118 ex118 => ?_)
      replace h := bd_x ex118 h
      cases h
      exact x_ret (e_iret C hr hR hS (Nat.le_of_ble_eq_true rfl) (Nat.le_of_ble_eq_true rfl) dX8_share_111)
    rw [if_neg c_117] at h
    refine lv_tableOut (tgt := 112) hx hb dX8_share_71 (by have z0 := sw_ne (k := 0) c_115 rfl; have z1 := sw_ne (k := 1) c_116 rfl; have z2 := sw_ne (k := 2) c_117 rfl; omega) (by decide) ?_
    refine lv_iload hx hb dX8_share_112 (lv_at hl 2 rfl) ?_
    refine lv_iload hx hb dX8_share_114 (lv_at hl 1 rfl) ?_
    refine lv_iload hx hb dX8_share_116 (lv_at hl 0 rfl) ?_
    refine lv_iadd hx hb dX8_share_118 ?_
    refine r_min C hl.1 ml_X8_303 (Nat.le_of_ble_eq_true rfl) (Nat.le_of_ble_eq_true rfl) (Nat.le_of_ble_eq_true rfl) (Nat.le_of_ble_eq_true rfl) dX8_share_119 ?_
    refine lv_topi (fun x119 ex119 => ?_)
    replace h := bd_x ex119 h
    cases h
    exact x_ret (e_iret C hr hR hS (Nat.le_of_ble_eq_true rfl) (Nat.le_of_ble_eq_true rfl) dX8_share_122)
  clear h
  have h := hz
  clear hz
  refine jp_cut h (fun j120 hj120 h => ?_)
  have Kj120 : ∀  (H : Heap) (locs : List Loc) (ls : Array Slot), j120 = some x105 → Rel E a u0 H → va_S (AE E) s.heap H locs → lv_has ls 8 [(0, .ref (a 8 0)), (1, .int x1), (2, .int x2), (3, .int x3), (4, .int x4)] → W p l e { frames := 7, cells := 3, slots := 18, locals := 111 } s m args below meth c H locs 2 12 (vx_MQ below (QX E a out.1 (some (.int out.2.1)) out.2.2) (XW E a out.1 out.2.2) args s 3 18 (AE E)) (F0 m 32 ls []) := by
    intro  H locs ls h hR hS hl
    replace h := jx0 hj120 h
    refine lv_iconst (v := 0) hx hb dX8_share_32 (by decide) ?_
    cases h
    exact Kj106 _ _ _ hR hS (lv_sub hl [0, 1, 2, 3, 4] rfl)
  refine lv_if_eq (tgt := 32) hx hb dX8_share_14 (by decide) (fun c_121 => ?_) (fun c_121 => ?_)
  · rw [if_pos c_121] at h
    exact Kj120  _ _ _ h hR hS (lv_sub hl [0, 1, 2, 3, 4] rfl)
  · rw [if_neg c_121] at h
    refine lv_iload hx hb dX8_share_17 (lv_at hl 4 rfl) ?_
    refine lv_if_lt (tgt := 32) hx hb dX8_share_19 (by decide) (fun c_122 => ?_) (fun c_122 => ?_)
    · rw [if_pos c_122] at h
      exact Kj120  _ _ _ h hR hS (lv_sub hl [0, 1, 2, 3, 4] rfl)
    · rw [if_neg c_122] at h
      refine lv_iload hx hb dX8_share_22 (lv_at hl 4 rfl) ?_
      refine lv_iconst (v := 3) hx hb dX8_share_24 (by decide) ?_
      refine lv_icmp_gt (tgt := 32) hx hb dX8_share_25 (by decide) (fun c_123 => ?_) (fun c_123 => ?_)
      · rw [if_pos c_123] at h
        exact Kj120  _ _ _ h hR hS (lv_sub hl [0, 1, 2, 3, 4] rfl)
      · rw [if_neg c_123] at h
        refine lv_iconst (v := 1) hx hb dX8_share_28 (by decide) ?_
        refine lv_goto (tgt := 33) hx hb dX8_share_29 (by decide) ?_
        cases h
        exact Kj106 _ _ _ hR hS (lv_sub hl [0, 1, 2, 3, 4] rfl)
set_option maxHeartbeats 4000000 in
set_option maxRecDepth 100000 in
theorem vX8_guessed {l : Launch} (hfl : l.stackTraces = false) {E : EV} {a : Nat → Nat → Nat} {u0 : HS} {x1 : Int32} {x2 : Int32} {x3 : Int32} {x4 : Int32} {out : (Nat × Int32 × HS)} (h : mX8_guessed u0 x1 x2 x3 x4 = some out) : CtX l E yX8_guessed cX8_guessed 10 (some .int) 7 111 4 24 a u0 [.ref (a 8 0), .int x1, .int x2, .int x3, .int x4] out.1 (some (.int out.2.1)) out.2.2 := by
  refine CtX.start (by decide) (Nat.le_of_ble_eq_true rfl) ?_
  intro p e s m args below meth c ls hT0 C hr hR hS hl
  have C : Cx E p s m args meth c cX8_guessed 10 RX8 := C
  have hl : lv_has ls 10 [(0, .ref (a 8 0)), (1, .int x1), (2, .int x2), (3, .int x3), (4, .int x4)] := hl
  have hx := C.1
  have hb := C.2.1
  unfold mX8_guessed at h
  refine lv_aload_n hx hb dX8_guessed_0 rfl (lv_at hl 0 rfl) ?_
  refine lv_iload_n hx hb dX8_guessed_1 rfl (lv_at hl 1 rfl) ?_
  obtain ⟨t101, hc101, h⟩ := ob h
  refine r_callXV (Qc := QX E a out.1 (some (.int out.2.1)) out.2.2) (mc0 := 4) (ms0 := 24) (As := [.int x1]) (rest := []) (r := 8) (i := 0) C hT0 (vX8_requireScene hfl hc101) hR hS (lv0 (by decide) (by decide)) (by decide) ml_X8_128 mw_X8_requireScene rfl ⟨Nat.le_of_ble_eq_true rfl, Nat.le_of_ble_eq_true rfl, Nat.le_of_ble_eq_true rfl, Nat.le_of_ble_eq_true rfl⟩ ⟨Nat.le_of_ble_eq_true rfl, Nat.le_of_ble_eq_true rfl⟩ hl.1 rfl (Nat.le_of_ble_eq_true rfl) dX8_guessed_2 (fun hk => ?_) (fun hk H locs hR hS => ?_)
  · rw [xq_ne hk] at h
    cases h
    exact fun _ q => q
  rw [xq_0 hk] at h
  refine lv_aload_n hx hb dX8_guessed_5 rfl (lv_at hl 0 rfl) ?_
  refine lv_iload_n hx hb dX8_guessed_6 rfl (lv_at hl 2 rfl) ?_
  obtain ⟨t102, hc102, h⟩ := ob h
  refine r_callXV (Qc := QX E a out.1 (some (.int out.2.1)) out.2.2) (mc0 := 4) (ms0 := 24) (As := [.int x2]) (rest := []) (r := 8) (i := 0) C hT0 (vX8_requireScene hfl hc102) hR hS (lv0 (by decide) (by decide)) (by decide) ml_X8_128 mw_X8_requireScene rfl ⟨Nat.le_of_ble_eq_true rfl, Nat.le_of_ble_eq_true rfl, Nat.le_of_ble_eq_true rfl, Nat.le_of_ble_eq_true rfl⟩ ⟨Nat.le_of_ble_eq_true rfl, Nat.le_of_ble_eq_true rfl⟩ hl.1 rfl (Nat.le_of_ble_eq_true rfl) dX8_guessed_7 (fun hk => ?_) (fun hk H locs hR hS => ?_)
  · rw [xq_ne hk] at h
    cases h
    exact fun _ q => q
  rw [xq_0 hk] at h
  refine lv_aload_n hx hb dX8_guessed_10 rfl (lv_at hl 0 rfl) ?_
  refine lv_iload_n hx hb dX8_guessed_11 rfl (lv_at hl 3 rfl) ?_
  obtain ⟨t103, hc103, h⟩ := ob h
  refine r_callXV (Qc := QX E a out.1 (some (.int out.2.1)) out.2.2) (mc0 := 4) (ms0 := 24) (As := [.int x3]) (rest := []) (r := 8) (i := 0) C hT0 (vX8_requireTask hfl hc103) hR hS (lv0 (by decide) (by decide)) (by decide) ml_X8_170 mw_X8_requireTask rfl ⟨Nat.le_of_ble_eq_true rfl, Nat.le_of_ble_eq_true rfl, Nat.le_of_ble_eq_true rfl, Nat.le_of_ble_eq_true rfl⟩ ⟨Nat.le_of_ble_eq_true rfl, Nat.le_of_ble_eq_true rfl⟩ hl.1 rfl (Nat.le_of_ble_eq_true rfl) dX8_guessed_12 (fun hk => ?_) (fun hk H locs hR hS => ?_)
  · rw [xq_ne hk] at h
    cases h
    exact fun _ q => q
  rw [xq_0 hk] at h
  refine lv_iload hx hb dX8_guessed_15 (lv_at hl 4 rfl) ?_
  obtain ⟨x105, hc104, h⟩ := ob h
  refine r_callS1 (As := [.int x4]) (rest := []) C (vX8_isAsking hc104) hR hS ml_X8_247 ms_X8_isAsking rfl ⟨Nat.le_of_ble_eq_true rfl, Nat.le_of_ble_eq_true rfl, Nat.le_of_ble_eq_true rfl, Nat.le_of_ble_eq_true rfl⟩ hl.1 rfl (Nat.le_of_ble_eq_true rfl) dX8_guessed_17 (fun H locs hR hS => ?_)
  obtain ⟨t106, hc106, h⟩ := ob h
  refine r_callXS (Qc := QX E a out.1 (some (.int out.2.1)) out.2.2) (mc0 := 4) (ms0 := 24) (As := [.int x105]) (rest := []) C hT0 (vX8_require hfl hc106) hR hS ml_X8_105 ms_X8_require rfl ⟨Nat.le_of_ble_eq_true rfl, Nat.le_of_ble_eq_true rfl, Nat.le_of_ble_eq_true rfl, Nat.le_of_ble_eq_true rfl⟩ ⟨Nat.le_of_ble_eq_true rfl, Nat.le_of_ble_eq_true rfl⟩ hl.1 rfl (Nat.le_of_ble_eq_true rfl) dX8_guessed_20 (fun hk => ?_) (fun hk H locs hR hS => ?_)
  · rw [xq_ne hk] at h
    cases h
    exact fun _ q => q
  rw [xq_0 hk] at h
  refine lv_aload_n hx hb dX8_guessed_23 rfl (lv_at hl 0 rfl) ?_
  refine r_get C hR 8 0 8 (v := .ref (a 0 0)) (lv0 (by decide) (by decide)) (by decide) (by decide) rfl fl_X8_56 dX8_guessed_24 ?_
  refine lv_iload_n hx hb dX8_guessed_27 rfl (lv_at hl 1 rfl) ?_
  refine lv_iload_n hx hb dX8_guessed_28 rfl (lv_at hl 3 rfl) ?_
  refine lv_iload hx hb dX8_guessed_29 (lv_at hl 4 rfl) ?_
  obtain ⟨x108, hc107, h⟩ := ob h
  refine r_callV1 (As := [.int x1, .int x3, .int x4]) (rest := []) (r := 0) (i := 0) C (vX0_askedOf (by decide) hc107) hR hS (lv0 (by decide) (by decide)) (by decide) ml_X8_289 mw_X0_askedOf rfl ⟨Nat.le_of_ble_eq_true rfl, Nat.le_of_ble_eq_true rfl, Nat.le_of_ble_eq_true rfl, Nat.le_of_ble_eq_true rfl⟩ hl.1 rfl (Nat.le_of_ble_eq_true rfl) dX8_guessed_31 (fun H locs hR hS => ?_)
  refine lv_istore (lv' := [(5, .int x108), (0, .ref (a 8 0)), (1, .int x1), (2, .int x2), (3, .int x3), (4, .int x4)]) hx hb dX8_guessed_34 hl (by decide) rfl (fun ls hl => ?_)
  refine lv_aload_n hx hb dX8_guessed_36 rfl (lv_at hl 1 rfl) ?_
  refine r_get C hR 8 0 8 (v := .ref (a 0 0)) (lv0 (by decide) (by decide)) (by decide) (by decide) rfl fl_X8_56 dX8_guessed_37 ?_
  refine lv_iload_n hx hb dX8_guessed_40 rfl (lv_at hl 2 rfl) ?_
  refine lv_iload_n hx hb dX8_guessed_41 rfl (lv_at hl 4 rfl) ?_
  refine lv_iload hx hb dX8_guessed_42 (lv_at hl 5 rfl) ?_
  obtain ⟨x110, hc109, h⟩ := ob h
  refine r_callV1 (As := [.int x1, .int x3, .int x4]) (rest := []) (r := 0) (i := 0) C (vX0_yesOf (by decide) hc109) hR hS (lv0 (by decide) (by decide)) (by decide) ml_X8_292 mw_X0_yesOf rfl ⟨Nat.le_of_ble_eq_true rfl, Nat.le_of_ble_eq_true rfl, Nat.le_of_ble_eq_true rfl, Nat.le_of_ble_eq_true rfl⟩ hl.1 rfl (Nat.le_of_ble_eq_true rfl) dX8_guessed_44 (fun H locs hR hS => ?_)
  refine lv_istore (lv' := [(6, .int x110), (5, .int x108), (0, .ref (a 8 0)), (1, .int x1), (2, .int x2), (3, .int x3), (4, .int x4)]) hx hb dX8_guessed_47 hl (by decide) rfl (fun ls hl => ?_)
  refine lv_aload_n hx hb dX8_guessed_49 rfl (lv_at hl 2 rfl) ?_
  refine r_get C hR 8 0 8 (v := .ref (a 0 0)) (lv0 (by decide) (by decide)) (by decide) (by decide) rfl fl_X8_56 dX8_guessed_50 ?_
  refine lv_iload_n hx hb dX8_guessed_53 rfl (lv_at hl 4 rfl) ?_
  refine lv_iload_n hx hb dX8_guessed_54 rfl (lv_at hl 5 rfl) ?_
  refine lv_iload hx hb dX8_guessed_55 (lv_at hl 6 rfl) ?_
  obtain ⟨x112, hc111, h⟩ := ob h
  refine r_callV1 (As := [.int x2, .int x3, .int x4]) (rest := []) (r := 0) (i := 0) C (vX0_askedOf (by decide) hc111) hR hS (lv0 (by decide) (by decide)) (by decide) ml_X8_289 mw_X0_askedOf rfl ⟨Nat.le_of_ble_eq_true rfl, Nat.le_of_ble_eq_true rfl, Nat.le_of_ble_eq_true rfl, Nat.le_of_ble_eq_true rfl⟩ hl.1 rfl (Nat.le_of_ble_eq_true rfl) dX8_guessed_57 (fun H locs hR hS => ?_)
  refine lv_istore (lv' := [(7, .int x112), (6, .int x110), (5, .int x108), (0, .ref (a 8 0)), (1, .int x1), (2, .int x2), (3, .int x3), (4, .int x4)]) hx hb dX8_guessed_60 hl (by decide) rfl (fun ls hl => ?_)
  refine lv_aload_n hx hb dX8_guessed_62 rfl (lv_at hl 3 rfl) ?_
  refine r_get C hR 8 0 8 (v := .ref (a 0 0)) (lv0 (by decide) (by decide)) (by decide) (by decide) rfl fl_X8_56 dX8_guessed_63 ?_
  refine lv_iload_n hx hb dX8_guessed_66 rfl (lv_at hl 5 rfl) ?_
  refine lv_iload_n hx hb dX8_guessed_67 rfl (lv_at hl 6 rfl) ?_
  refine lv_iload hx hb dX8_guessed_68 (lv_at hl 7 rfl) ?_
  obtain ⟨x114, hc113, h⟩ := ob h
  refine r_callV1 (As := [.int x2, .int x3, .int x4]) (rest := []) (r := 0) (i := 0) C (vX0_yesOf (by decide) hc113) hR hS (lv0 (by decide) (by decide)) (by decide) ml_X8_292 mw_X0_yesOf rfl ⟨Nat.le_of_ble_eq_true rfl, Nat.le_of_ble_eq_true rfl, Nat.le_of_ble_eq_true rfl, Nat.le_of_ble_eq_true rfl⟩ hl.1 rfl (Nat.le_of_ble_eq_true rfl) dX8_guessed_70 (fun H locs hR hS => ?_)
  refine lv_istore (lv' := [(8, .int x114), (7, .int x112), (6, .int x110), (5, .int x108), (0, .ref (a 8 0)), (1, .int x1), (2, .int x2), (3, .int x3), (4, .int x4)]) hx hb dX8_guessed_73 hl (by decide) rfl (fun ls hl => ?_)
  refine lv_iload hx hb dX8_guessed_75 (lv_at hl 3 rfl) ?_
  refine lv_iload hx hb dX8_guessed_77 (lv_at hl 1 rfl) ?_
  refine lv_iload hx hb dX8_guessed_79 (lv_at hl 0 rfl) ?_
  refine lv_isub hx hb dX8_guessed_81 ?_
  refine lv_imul hx hb dX8_guessed_82 ?_
  refine lv_topi (fun x115 ex115 => ?_)
  replace h := bd_x ex115 h
  refine lv_istore (lv' := [(9, .int x115), (8, .int x114), (7, .int x112), (6, .int x110), (5, .int x108), (0, .ref (a 8 0)), (1, .int x1), (2, .int x2), (3, .int x3), (4, .int x4)]) hx hb dX8_guessed_83 hl (by decide) rfl (fun ls hl => ?_)
  refine lv_iload hx hb dX8_guessed_85 (lv_at hl 0 rfl) ?_
  refine lv_if_ne (tgt := 92) hx hb dX8_guessed_87 (by decide) (fun c_116 => ?_) (fun c_116 => ?_)
  · rw [if_neg c_116] at h
    refine lv_iconst (v := 0) hx hb dX8_guessed_92 (by decide) ?_
    refine lv_sipush (v := 1000) hx hb dX8_guessed_93 (by decide) ?_
    refine lv_iload hx hb dX8_guessed_96 (lv_at hl 3 rfl) ?_
    refine lv_iload hx hb dX8_guessed_98 (lv_at hl 2 rfl) ?_
    refine lv_imul hx hb dX8_guessed_100 ?_
    refine lv_iload hx hb dX8_guessed_101 (lv_at hl 1 rfl) ?_
    refine lv_iload hx hb dX8_guessed_103 (lv_at hl 4 rfl) ?_
    refine lv_imul hx hb dX8_guessed_105 ?_
    refine lv_isub hx hb dX8_guessed_106 ?_
    refine lv_imul hx hb dX8_guessed_107 ?_
    refine lv_iload hx hb dX8_guessed_108 (lv_at hl 0 rfl) ?_
    obtain ⟨_, hn117, h⟩ := ob h
    refine lv_idiv hx hb dX8_guessed_110 (nz_ne hn117) ?_
    refine r_max C hl.1 ml_X8_298 (Nat.le_of_ble_eq_true rfl) (Nat.le_of_ble_eq_true rfl) (Nat.le_of_ble_eq_true rfl) (Nat.le_of_ble_eq_true rfl) dX8_guessed_111 ?_
    refine lv_topi (fun x118 ex118 => ?_)
    replace h := bd_x ex118 h
    cases h
    exact x_ret (e_iret C hr hR hS (Nat.le_of_ble_eq_true rfl) (Nat.le_of_ble_eq_true rfl) dX8_guessed_114)
  · rw [if_pos c_116] at h
    refine lv_iconst (v := (-1)) hx hb dX8_guessed_90 (by decide) ?_
    cases h
    exact x_ret (e_iret C hr hR hS (Nat.le_of_ble_eq_true rfl) (Nat.le_of_ble_eq_true rfl) dX8_guessed_91)
set_option maxHeartbeats 4000000 in
set_option maxRecDepth 100000 in
theorem vX8_apart {l : Launch} (hfl : l.stackTraces = false) {E : EV} {a : Nat → Nat → Nat} {u0 : HS} {x1 : Int32} {x2 : Int32} {x3 : Int32} {x4 : Int32} {x5 : Int32} {x6 : Int32} {out : (Nat × Int32 × HS)} (h : mX8_apart u0 x1 x2 x3 x4 x5 x6 = some out) : CtX l E yX8_apart cX8_apart 11 (some .int) 7 111 5 30 a u0 [.ref (a 8 0), .int x1, .int x2, .int x3, .int x4, .int x5, .int x6] out.1 (some (.int out.2.1)) out.2.2 := by
  refine CtX.start (by decide) (Nat.le_of_ble_eq_true rfl) ?_
  intro p e s m args below meth c ls hT0 C hr hR hS hl
  have C : Cx E p s m args meth c cX8_apart 11 RX8 := C
  have hl : lv_has ls 11 [(0, .ref (a 8 0)), (1, .int x1), (2, .int x2), (3, .int x3), (4, .int x4), (5, .int x5), (6, .int x6)] := hl
  have hx := C.1
  have hb := C.2.1
  unfold mX8_apart at h
  refine lv_aload_n hx hb dX8_apart_0 rfl (lv_at hl 0 rfl) ?_
  refine lv_iload_n hx hb dX8_apart_1 rfl (lv_at hl 1 rfl) ?_
  obtain ⟨t101, hc101, h⟩ := ob h
  refine r_callXV (Qc := QX E a out.1 (some (.int out.2.1)) out.2.2) (mc0 := 5) (ms0 := 30) (As := [.int x1]) (rest := []) (r := 8) (i := 0) C hT0 (vX8_requireScene hfl hc101) hR hS (lv0 (by decide) (by decide)) (by decide) ml_X8_128 mw_X8_requireScene rfl ⟨Nat.le_of_ble_eq_true rfl, Nat.le_of_ble_eq_true rfl, Nat.le_of_ble_eq_true rfl, Nat.le_of_ble_eq_true rfl⟩ ⟨Nat.le_of_ble_eq_true rfl, Nat.le_of_ble_eq_true rfl⟩ hl.1 rfl (Nat.le_of_ble_eq_true rfl) dX8_apart_2 (fun hk => ?_) (fun hk H locs hR hS => ?_)
  · rw [xq_ne hk] at h
    cases h
    exact fun _ q => q
  rw [xq_0 hk] at h
  refine lv_aload_n hx hb dX8_apart_5 rfl (lv_at hl 0 rfl) ?_
  refine lv_iload_n hx hb dX8_apart_6 rfl (lv_at hl 3 rfl) ?_
  obtain ⟨t102, hc102, h⟩ := ob h
  refine r_callXV (Qc := QX E a out.1 (some (.int out.2.1)) out.2.2) (mc0 := 5) (ms0 := 30) (As := [.int x3]) (rest := []) (r := 8) (i := 0) C hT0 (vX8_requireScene hfl hc102) hR hS (lv0 (by decide) (by decide)) (by decide) ml_X8_128 mw_X8_requireScene rfl ⟨Nat.le_of_ble_eq_true rfl, Nat.le_of_ble_eq_true rfl, Nat.le_of_ble_eq_true rfl, Nat.le_of_ble_eq_true rfl⟩ ⟨Nat.le_of_ble_eq_true rfl, Nat.le_of_ble_eq_true rfl⟩ hl.1 rfl (Nat.le_of_ble_eq_true rfl) dX8_apart_7 (fun hk => ?_) (fun hk H locs hR hS => ?_)
  · rw [xq_ne hk] at h
    cases h
    exact fun _ q => q
  rw [xq_0 hk] at h
  refine lv_aload_n hx hb dX8_apart_10 rfl (lv_at hl 0 rfl) ?_
  refine lv_iload_n hx hb dX8_apart_11 rfl (lv_at hl 2 rfl) ?_
  obtain ⟨t103, hc103, h⟩ := ob h
  refine r_callXV (Qc := QX E a out.1 (some (.int out.2.1)) out.2.2) (mc0 := 5) (ms0 := 30) (As := [.int x2]) (rest := []) (r := 8) (i := 0) C hT0 (vX8_requireTask hfl hc103) hR hS (lv0 (by decide) (by decide)) (by decide) ml_X8_170 mw_X8_requireTask rfl ⟨Nat.le_of_ble_eq_true rfl, Nat.le_of_ble_eq_true rfl, Nat.le_of_ble_eq_true rfl, Nat.le_of_ble_eq_true rfl⟩ ⟨Nat.le_of_ble_eq_true rfl, Nat.le_of_ble_eq_true rfl⟩ hl.1 rfl (Nat.le_of_ble_eq_true rfl) dX8_apart_12 (fun hk => ?_) (fun hk H locs hR hS => ?_)
  · rw [xq_ne hk] at h
    cases h
    exact fun _ q => q
  rw [xq_0 hk] at h
  refine lv_aload_n hx hb dX8_apart_15 rfl (lv_at hl 0 rfl) ?_
  refine lv_iload hx hb dX8_apart_16 (lv_at hl 4 rfl) ?_
  obtain ⟨t104, hc104, h⟩ := ob h
  refine r_callXV (Qc := QX E a out.1 (some (.int out.2.1)) out.2.2) (mc0 := 5) (ms0 := 30) (As := [.int x4]) (rest := []) (r := 8) (i := 0) C hT0 (vX8_requireTask hfl hc104) hR hS (lv0 (by decide) (by decide)) (by decide) ml_X8_170 mw_X8_requireTask rfl ⟨Nat.le_of_ble_eq_true rfl, Nat.le_of_ble_eq_true rfl, Nat.le_of_ble_eq_true rfl, Nat.le_of_ble_eq_true rfl⟩ ⟨Nat.le_of_ble_eq_true rfl, Nat.le_of_ble_eq_true rfl⟩ hl.1 rfl (Nat.le_of_ble_eq_true rfl) dX8_apart_18 (fun hk => ?_) (fun hk H locs hR hS => ?_)
  · rw [xq_ne hk] at h
    cases h
    exact fun _ q => q
  rw [xq_0 hk] at h
  refine lv_iload hx hb dX8_apart_21 (lv_at hl 5 rfl) ?_
  obtain ⟨x106, hc105, h⟩ := ob h
  refine r_callS1 (As := [.int x5]) (rest := []) C (vX8_isAsking hc105) hR hS ml_X8_247 ms_X8_isAsking rfl ⟨Nat.le_of_ble_eq_true rfl, Nat.le_of_ble_eq_true rfl, Nat.le_of_ble_eq_true rfl, Nat.le_of_ble_eq_true rfl⟩ hl.1 rfl (Nat.le_of_ble_eq_true rfl) dX8_apart_23 (fun H locs hR hS => ?_)
  obtain ⟨x107, hz, h⟩ := ob h
  have Kj108 : ∀ (H : Heap) (locs : List Loc) (ls : Array Slot), Rel E a u0 H → va_S (AE E) s.heap H locs → lv_has ls 11 [(0, .ref (a 8 0)), (1, .int x1), (2, .int x2), (3, .int x3), (4, .int x4), (5, .int x5), (6, .int x6)] → W p l e { frames := 7, cells := 5, slots := 30, locals := 111 } s m args below meth c H locs 4 24 (vx_MQ below (QX E a out.1 (some (.int out.2.1)) out.2.2) (XW E a out.1 out.2.2) args s 5 30 (AE E)) (F0 m 45 ls [.int x107]) := by
    intro H locs ls hR hS hl
    clear hz
    obtain ⟨t109, hc109, h⟩ := ob h
    refine r_callXS (Qc := QX E a out.1 (some (.int out.2.1)) out.2.2) (mc0 := 5) (ms0 := 30) (As := [.int x107]) (rest := []) C hT0 (vX8_require hfl hc109) hR hS ml_X8_105 ms_X8_require rfl ⟨Nat.le_of_ble_eq_true rfl, Nat.le_of_ble_eq_true rfl, Nat.le_of_ble_eq_true rfl, Nat.le_of_ble_eq_true rfl⟩ ⟨Nat.le_of_ble_eq_true rfl, Nat.le_of_ble_eq_true rfl⟩ hl.1 rfl (Nat.le_of_ble_eq_true rfl) dX8_apart_45 (fun hk => ?_) (fun hk H locs hR hS => ?_)
    · rw [xq_ne hk] at h
      cases h
      exact fun _ q => q
    rw [xq_0 hk] at h
    refine lv_aload_n hx hb dX8_apart_48 rfl (lv_at hl 0 rfl) ?_
    refine r_get C hR 8 0 8 (v := .ref (a 0 0)) (lv0 (by decide) (by decide)) (by decide) (by decide) rfl fl_X8_56 dX8_apart_49 ?_
    refine lv_iload_n hx hb dX8_apart_52 rfl (lv_at hl 1 rfl) ?_
    refine lv_iload_n hx hb dX8_apart_53 rfl (lv_at hl 2 rfl) ?_
    refine lv_iload hx hb dX8_apart_54 (lv_at hl 5 rfl) ?_
    obtain ⟨x111, hc110, h⟩ := ob h
    refine r_callV1 (As := [.int x1, .int x2, .int x5]) (rest := []) (r := 0) (i := 0) C (vX0_askedOf (by decide) hc110) hR hS (lv0 (by decide) (by decide)) (by decide) ml_X8_289 mw_X0_askedOf rfl ⟨Nat.le_of_ble_eq_true rfl, Nat.le_of_ble_eq_true rfl, Nat.le_of_ble_eq_true rfl, Nat.le_of_ble_eq_true rfl⟩ hl.1 rfl (Nat.le_of_ble_eq_true rfl) dX8_apart_56 (fun H locs hR hS => ?_)
    refine lv_istore (lv' := [(7, .int x111), (0, .ref (a 8 0)), (1, .int x1), (2, .int x2), (3, .int x3), (4, .int x4), (5, .int x5), (6, .int x6)]) hx hb dX8_apart_59 hl (by decide) rfl (fun ls hl => ?_)
    refine lv_aload_n hx hb dX8_apart_61 rfl (lv_at hl 1 rfl) ?_
    refine r_get C hR 8 0 8 (v := .ref (a 0 0)) (lv0 (by decide) (by decide)) (by decide) (by decide) rfl fl_X8_56 dX8_apart_62 ?_
    refine lv_iload_n hx hb dX8_apart_65 rfl (lv_at hl 2 rfl) ?_
    refine lv_iload_n hx hb dX8_apart_66 rfl (lv_at hl 3 rfl) ?_
    refine lv_iload hx hb dX8_apart_67 (lv_at hl 6 rfl) ?_
    obtain ⟨x113, hc112, h⟩ := ob h
    refine r_callV1 (As := [.int x1, .int x2, .int x5]) (rest := []) (r := 0) (i := 0) C (vX0_yesOf (by decide) hc112) hR hS (lv0 (by decide) (by decide)) (by decide) ml_X8_292 mw_X0_yesOf rfl ⟨Nat.le_of_ble_eq_true rfl, Nat.le_of_ble_eq_true rfl, Nat.le_of_ble_eq_true rfl, Nat.le_of_ble_eq_true rfl⟩ hl.1 rfl (Nat.le_of_ble_eq_true rfl) dX8_apart_69 (fun H locs hR hS => ?_)
    refine lv_istore (lv' := [(8, .int x113), (7, .int x111), (0, .ref (a 8 0)), (1, .int x1), (2, .int x2), (3, .int x3), (4, .int x4), (5, .int x5), (6, .int x6)]) hx hb dX8_apart_72 hl (by decide) rfl (fun ls hl => ?_)
    refine lv_aload_n hx hb dX8_apart_74 rfl (lv_at hl 2 rfl) ?_
    refine r_get C hR 8 0 8 (v := .ref (a 0 0)) (lv0 (by decide) (by decide)) (by decide) (by decide) rfl fl_X8_56 dX8_apart_75 ?_
    refine lv_iload_n hx hb dX8_apart_78 rfl (lv_at hl 5 rfl) ?_
    refine lv_iload hx hb dX8_apart_79 (lv_at hl 6 rfl) ?_
    refine lv_iload hx hb dX8_apart_81 (lv_at hl 7 rfl) ?_
    obtain ⟨x115, hc114, h⟩ := ob h
    refine r_callV1 (As := [.int x3, .int x4, .int x5]) (rest := []) (r := 0) (i := 0) C (vX0_askedOf (by decide) hc114) hR hS (lv0 (by decide) (by decide)) (by decide) ml_X8_289 mw_X0_askedOf rfl ⟨Nat.le_of_ble_eq_true rfl, Nat.le_of_ble_eq_true rfl, Nat.le_of_ble_eq_true rfl, Nat.le_of_ble_eq_true rfl⟩ hl.1 rfl (Nat.le_of_ble_eq_true rfl) dX8_apart_83 (fun H locs hR hS => ?_)
    refine lv_istore (lv' := [(9, .int x115), (8, .int x113), (7, .int x111), (0, .ref (a 8 0)), (1, .int x1), (2, .int x2), (3, .int x3), (4, .int x4), (5, .int x5), (6, .int x6)]) hx hb dX8_apart_86 hl (by decide) rfl (fun ls hl => ?_)
    refine lv_aload_n hx hb dX8_apart_88 rfl (lv_at hl 3 rfl) ?_
    refine r_get C hR 8 0 8 (v := .ref (a 0 0)) (lv0 (by decide) (by decide)) (by decide) (by decide) rfl fl_X8_56 dX8_apart_89 ?_
    refine lv_iload_n hx hb dX8_apart_92 rfl (lv_at hl 6 rfl) ?_
    refine lv_iload hx hb dX8_apart_93 (lv_at hl 7 rfl) ?_
    refine lv_iload hx hb dX8_apart_95 (lv_at hl 8 rfl) ?_
    obtain ⟨x117, hc116, h⟩ := ob h
    refine r_callV1 (As := [.int x3, .int x4, .int x5]) (rest := []) (r := 0) (i := 0) C (vX0_yesOf (by decide) hc116) hR hS (lv0 (by decide) (by decide)) (by decide) ml_X8_292 mw_X0_yesOf rfl ⟨Nat.le_of_ble_eq_true rfl, Nat.le_of_ble_eq_true rfl, Nat.le_of_ble_eq_true rfl, Nat.le_of_ble_eq_true rfl⟩ hl.1 rfl (Nat.le_of_ble_eq_true rfl) dX8_apart_97 (fun H locs hR hS => ?_)
    refine lv_istore (lv' := [(10, .int x117), (9, .int x115), (8, .int x113), (7, .int x111), (0, .ref (a 8 0)), (1, .int x1), (2, .int x2), (3, .int x3), (4, .int x4), (5, .int x5), (6, .int x6)]) hx hb dX8_apart_100 hl (by decide) rfl (fun ls hl => ?_)
    refine lv_iload hx hb dX8_apart_102 (lv_at hl 10 rfl) ?_
    by_cases c_118 : x6 = 0
    · rw [if_pos c_118] at h
      refine sl_in c_118 hx hb dX8_apart_104 (by decide) (by decide) (by decide) (tgt := 132) (off := 28) ?_
      refine lv_iload hx hb dX8_apart_132 (lv_at hl 2 rfl) ?_
      refine lv_iload hx hb dX8_apart_134 (lv_at hl 1 rfl) ?_
      refine lv_imul hx hb dX8_apart_136 ?_
      refine lv_iload hx hb dX8_apart_137 (lv_at hl 0 rfl) ?_
      refine lv_iload hx hb dX8_apart_139 (lv_at hl 3 rfl) ?_
      refine lv_imul hx hb dX8_apart_141 ?_
      refine lv_isub hx hb dX8_apart_142 ?_
      cases h
      exact x_ret (e_iret C hr hR hS (Nat.le_of_ble_eq_true rfl) (Nat.le_of_ble_eq_true rfl) dX8_apart_143)
    rw [if_neg c_118] at h
    by_cases c_119 : x6 = 1
    · rw [if_pos c_119] at h
      refine sl_in c_119 hx hb dX8_apart_104 (by decide) (by decide) (by decide) (tgt := 144) (off := 40) ?_
      refine lv_iload hx hb dX8_apart_144 (lv_at hl 3 rfl) ?_
      refine lv_iload hx hb dX8_apart_146 (lv_at hl 2 rfl) ?_
      refine lv_iload hx hb dX8_apart_148 (lv_at hl 1 rfl) ?_
      refine lv_iload hx hb dX8_apart_150 (lv_at hl 0 rfl) ?_
      obtain ⟨x121, hc120, h⟩ := ob h
      refine r_callS1 (As := [.int x111, .int x113, .int x115, .int x117]) (rest := []) C (vX8_waysOf hc120) hR hS ml_X8_306 ms_X8_waysOf rfl ⟨Nat.le_of_ble_eq_true rfl, Nat.le_of_ble_eq_true rfl, Nat.le_of_ble_eq_true rfl, Nat.le_of_ble_eq_true rfl⟩ hl.1 rfl (Nat.le_of_ble_eq_true rfl) dX8_apart_152 (fun H locs hR hS => ?_)
      cases h
      exact x_ret (e_iret C hr hR hS (Nat.le_of_ble_eq_true rfl) (Nat.le_of_ble_eq_true rfl) dX8_apart_155)
    rw [if_neg c_119] at h
    refine lv_lookup (tgt := 156) (off := 52) hx hb dX8_apart_104 (by decide) (sl_ne2 c_118 c_119) (by decide) ?_
    refine lv_iload hx hb dX8_apart_156 (lv_at hl 3 rfl) ?_
    refine lv_iload hx hb dX8_apart_158 (lv_at hl 1 rfl) ?_
    refine lv_iadd hx hb dX8_apart_160 ?_
    refine lv_iload hx hb dX8_apart_161 (lv_at hl 3 rfl) ?_
    obtain ⟨x123, hc122, h⟩ := ob h
    refine r_callS1 (As := [.int (x111 + x115), .int x111]) (rest := []) C (vX8_choose hc122) hR hS ml_X8_310 ms_X8_choose rfl ⟨Nat.le_of_ble_eq_true rfl, Nat.le_of_ble_eq_true rfl, Nat.le_of_ble_eq_true rfl, Nat.le_of_ble_eq_true rfl⟩ hl.1 rfl (Nat.le_of_ble_eq_true rfl) dX8_apart_163 (fun H locs hR hS => ?_)
    cases h
    exact x_ret (e_iret C hr hR hS (Nat.le_of_ble_eq_true rfl) (Nat.le_of_ble_eq_true rfl) dX8_apart_166)
  clear h
  have h := hz
  clear hz
  refine jp_cut h (fun j124 hj124 h => ?_)
  have Kj124 : ∀  (H : Heap) (locs : List Loc) (ls : Array Slot), j124 = some x107 → Rel E a u0 H → va_S (AE E) s.heap H locs → lv_has ls 11 [(0, .ref (a 8 0)), (1, .int x1), (2, .int x2), (3, .int x3), (4, .int x4), (5, .int x5), (6, .int x6)] → W p l e { frames := 7, cells := 5, slots := 30, locals := 111 } s m args below meth c H locs 4 24 (vx_MQ below (QX E a out.1 (some (.int out.2.1)) out.2.2) (XW E a out.1 out.2.2) args s 5 30 (AE E)) (F0 m 44 ls []) := by
    intro  H locs ls h hR hS hl
    replace h := jx0 hj124 h
    refine lv_iconst (v := 0) hx hb dX8_apart_44 (by decide) ?_
    cases h
    exact Kj108 _ _ _ hR hS (lv_sub hl [0, 1, 2, 3, 4, 5, 6] rfl)
  refine lv_if_eq (tgt := 44) hx hb dX8_apart_26 (by decide) (fun c_125 => ?_) (fun c_125 => ?_)
  · rw [if_pos c_125] at h
    exact Kj124  _ _ _ h hR hS (lv_sub hl [0, 1, 2, 3, 4, 5, 6] rfl)
  · rw [if_neg c_125] at h
    refine lv_iload hx hb dX8_apart_29 (lv_at hl 6 rfl) ?_
    refine lv_if_lt (tgt := 44) hx hb dX8_apart_31 (by decide) (fun c_126 => ?_) (fun c_126 => ?_)
    · rw [if_pos c_126] at h
      exact Kj124  _ _ _ h hR hS (lv_sub hl [0, 1, 2, 3, 4, 5, 6] rfl)
    · rw [if_neg c_126] at h
      refine lv_iload hx hb dX8_apart_34 (lv_at hl 6 rfl) ?_
      refine lv_iconst (v := 2) hx hb dX8_apart_36 (by decide) ?_
      refine lv_icmp_gt (tgt := 44) hx hb dX8_apart_37 (by decide) (fun c_127 => ?_) (fun c_127 => ?_)
      · rw [if_pos c_127] at h
        exact Kj124  _ _ _ h hR hS (lv_sub hl [0, 1, 2, 3, 4, 5, 6] rfl)
      · rw [if_neg c_127] at h
        refine lv_iconst (v := 1) hx hb dX8_apart_40 (by decide) ?_
        refine lv_goto (tgt := 45) hx hb dX8_apart_41 (by decide) ?_
        cases h
        exact Kj108 _ _ _ hR hS (lv_sub hl [0, 1, 2, 3, 4, 5, 6] rfl)
set_option maxHeartbeats 4000000 in
set_option maxRecDepth 100000 in
theorem vX8_gone {l : Launch} (hfl : l.stackTraces = false) {E : EV} {a : Nat → Nat → Nat} {u0 : HS} {x1 : Int32} {x2 : Int32} {x3 : Int32} {out : (Nat × Int32 × HS)} (h : mX8_gone u0 x1 x2 x3 = some out) : CtX l E yX8_gone cX8_gone 6 (some .int) 7 111 3 18 a u0 [.ref (a 8 0), .int x1, .int x2, .int x3] out.1 (some (.int out.2.1)) out.2.2 := by
  refine CtX.start (by decide) (Nat.le_of_ble_eq_true rfl) ?_
  intro p e s m args below meth c ls hT0 C hr hR hS hl
  have C : Cx E p s m args meth c cX8_gone 6 RX8 := C
  have hl : lv_has ls 6 [(0, .ref (a 8 0)), (1, .int x1), (2, .int x2), (3, .int x3)] := hl
  have hx := C.1
  have hb := C.2.1
  unfold mX8_gone at h
  refine lv_aload_n hx hb dX8_gone_0 rfl (lv_at hl 0 rfl) ?_
  refine lv_iload_n hx hb dX8_gone_1 rfl (lv_at hl 1 rfl) ?_
  obtain ⟨t101, hc101, h⟩ := ob h
  refine r_callXV (Qc := QX E a out.1 (some (.int out.2.1)) out.2.2) (mc0 := 3) (ms0 := 18) (As := [.int x1]) (rest := []) (r := 8) (i := 0) C hT0 (vX8_requireScene hfl hc101) hR hS (lv0 (by decide) (by decide)) (by decide) ml_X8_128 mw_X8_requireScene rfl ⟨Nat.le_of_ble_eq_true rfl, Nat.le_of_ble_eq_true rfl, Nat.le_of_ble_eq_true rfl, Nat.le_of_ble_eq_true rfl⟩ ⟨Nat.le_of_ble_eq_true rfl, Nat.le_of_ble_eq_true rfl⟩ hl.1 rfl (Nat.le_of_ble_eq_true rfl) dX8_gone_2 (fun hk => ?_) (fun hk H locs hR hS => ?_)
  · rw [xq_ne hk] at h
    cases h
    exact fun _ q => q
  rw [xq_0 hk] at h
  refine lv_aload_n hx hb dX8_gone_5 rfl (lv_at hl 0 rfl) ?_
  refine lv_iload_n hx hb dX8_gone_6 rfl (lv_at hl 2 rfl) ?_
  obtain ⟨t102, hc102, h⟩ := ob h
  refine r_callXV (Qc := QX E a out.1 (some (.int out.2.1)) out.2.2) (mc0 := 3) (ms0 := 18) (As := [.int x2]) (rest := []) (r := 8) (i := 0) C hT0 (vX8_requireTask hfl hc102) hR hS (lv0 (by decide) (by decide)) (by decide) ml_X8_170 mw_X8_requireTask rfl ⟨Nat.le_of_ble_eq_true rfl, Nat.le_of_ble_eq_true rfl, Nat.le_of_ble_eq_true rfl, Nat.le_of_ble_eq_true rfl⟩ ⟨Nat.le_of_ble_eq_true rfl, Nat.le_of_ble_eq_true rfl⟩ hl.1 rfl (Nat.le_of_ble_eq_true rfl) dX8_gone_7 (fun hk => ?_) (fun hk H locs hR hS => ?_)
  · rw [xq_ne hk] at h
    cases h
    exact fun _ q => q
  rw [xq_0 hk] at h
  refine lv_iload_n hx hb dX8_gone_10 rfl (lv_at hl 3 rfl) ?_
  obtain ⟨x103, hz, h⟩ := ob h
  have Kj104 : ∀ (H : Heap) (locs : List Loc) (ls : Array Slot), Rel E a u0 H → va_S (AE E) s.heap H locs → lv_has ls 6 [(0, .ref (a 8 0)), (1, .int x1), (2, .int x2), (3, .int x3)] → W p l e { frames := 7, cells := 3, slots := 18, locals := 111 } s m args below meth c H locs 2 12 (vx_MQ below (QX E a out.1 (some (.int out.2.1)) out.2.2) (XW E a out.1 out.2.2) args s 3 18 (AE E)) (F0 m 24 ls [.int x103]) := by
    intro H locs ls hR hS hl
    clear hz
    obtain ⟨t105, hc105, h⟩ := ob h
    refine r_callXS (Qc := QX E a out.1 (some (.int out.2.1)) out.2.2) (mc0 := 3) (ms0 := 18) (As := [.int x103]) (rest := []) C hT0 (vX8_require hfl hc105) hR hS ml_X8_105 ms_X8_require rfl ⟨Nat.le_of_ble_eq_true rfl, Nat.le_of_ble_eq_true rfl, Nat.le_of_ble_eq_true rfl, Nat.le_of_ble_eq_true rfl⟩ ⟨Nat.le_of_ble_eq_true rfl, Nat.le_of_ble_eq_true rfl⟩ hl.1 rfl (Nat.le_of_ble_eq_true rfl) dX8_gone_24 (fun hk => ?_) (fun hk H locs hR hS => ?_)
    · rw [xq_ne hk] at h
      cases h
      exact fun _ q => q
    rw [xq_0 hk] at h
    refine lv_iconst (v := 0) hx hb dX8_gone_27 (by decide) ?_
    refine lv_istore (lv' := [(4, .int 0), (0, .ref (a 8 0)), (1, .int x1), (2, .int x2), (3, .int x3)]) hx hb dX8_gone_28 hl (by decide) rfl (fun ls hl => ?_)
    refine lv_iconst (v := 0) hx hb dX8_gone_30 (by decide) ?_
    refine lv_istore (lv' := [(5, .int 0), (4, .int 0), (0, .ref (a 8 0)), (1, .int x1), (2, .int x2), (3, .int x3)]) hx hb dX8_gone_31 hl (by decide) rfl (fun ls hl => ?_)
    refine jp_cut h (fun w109 hw109 h => ?_)
    have Kw109 : ∀ (x108 : Int32) (H : Heap) (locs : List Loc) (ls : Array Slot), w109 x108 = some out → Rel E a u0 H → va_S (AE E) s.heap H locs → lv_has ls 6 [(4, .int x108)] → W p l e { frames := 7, cells := 3, slots := 18, locals := 111 } s m args below meth c H locs 3 18 (vx_MQ below (QX E a out.1 (some (.int out.2.1)) out.2.2) (XW E a out.1 out.2.2) args s 3 18 (AE E)) (F0 m 94 ls []) := by
      intro x108 H locs ls h hR hS hl
      replace h := jx1 hw109 h
      refine lv_iload hx hb dX8_gone_94 (lv_at hl 0 rfl) ?_
      cases h
      exact x_ret (e_iret C hr hR hS (Nat.le_of_ble_eq_true rfl) (Nat.le_of_ble_eq_true rfl) dX8_gone_96)
    have LP : ∀ (fu : Nat) (x106 : Int32) (x107 : Int32) (H : Heap) (locs : List Loc) (ls : Array Slot), mX8_gone_L33 u0 x1 x2 x3 w109 fu x106 x107 = some out → Rel E a u0 H → va_S (AE E) s.heap H locs → lv_has ls 6 [(0, .ref (a 8 0)), (1, .int x1), (2, .int x2), (3, .int x3), (4, .int x106), (5, .int x107)] → W p l e { frames := 7, cells := 3, slots := 18, locals := 111 } s m args below meth c H locs 3 18 (vx_MQ below (QX E a out.1 (some (.int out.2.1)) out.2.2) (XW E a out.1 out.2.2) args s 3 18 (AE E)) (F0 m 33 ls []) := by
      intro fu
      induction fu with
      | zero =>
        intro x106 x107 H locs ls h
        have h2 : (none : Option (Nat × Int32 × HS)) = some out := h
        cases h2
      | succ fu ih =>
        intro x106 x107 H locs ls h hR hS hl
        rw [mX8_gone_L33.eq_2] at h
        refine lv_iload hx hb dX8_gone_33 (lv_at hl 5 rfl) ?_
        refine lv_aload_n hx hb dX8_gone_35 rfl (lv_at hl 0 rfl) ?_
        refine r_get C hR 8 0 8 (v := .ref (a 0 0)) (lv0 (by decide) (by decide)) (by decide) (by decide) rfl fl_X8_56 dX8_gone_36 ?_
        refine r_get C hR 0 0 0 (v := .int (gI u0 0 0 0)) (lv0 (by decide) (by decide)) (by decide) (by decide) rfl fl_X8_268 dX8_gone_39 ?_
        refine lv_icmp_ge (tgt := 94) hx hb dX8_gone_42 (by decide) (fun c_110 => ?_) (fun c_110 => ?_)
        · rw [if_pos c_110] at h
          exact Kw109 _ _ _ _ h hR hS (lv_sub hl [4] rfl)
        · rw [if_neg c_110] at h
          refine lv_aload_n hx hb dX8_gone_45 rfl (lv_at hl 0 rfl) ?_
          refine r_get C hR 8 0 8 (v := .ref (a 0 0)) (lv0 (by decide) (by decide)) (by decide) (by decide) rfl fl_X8_56 dX8_gone_46 ?_
          refine lv_iload hx hb dX8_gone_49 (lv_at hl 5 rfl) ?_
          refine lv_iload_n hx hb dX8_gone_51 rfl (lv_at hl 1 rfl) ?_
          refine lv_iload_n hx hb dX8_gone_52 rfl (lv_at hl 2 rfl) ?_
          obtain ⟨x112, hc111, h⟩ := ob h
          refine r_callV1 (As := [.int x107, .int x1, .int x2]) (rest := []) (r := 0) (i := 0) C (vX0_repliedAll (by decide) hc111) hR hS (lv0 (by decide) (by decide)) (by decide) ml_X8_313 mw_X0_repliedAll rfl ⟨Nat.le_of_ble_eq_true rfl, Nat.le_of_ble_eq_true rfl, Nat.le_of_ble_eq_true rfl, Nat.le_of_ble_eq_true rfl⟩ hl.1 rfl (Nat.le_of_ble_eq_true rfl) dX8_gone_53 (fun H locs hR hS => ?_)
          obtain ⟨x113, hz, h⟩ := ob h
          have Kj114 : ∀ (H : Heap) (locs : List Loc) (ls : Array Slot), Rel E a u0 H → va_S (AE E) s.heap H locs → lv_has ls 6 [(0, .ref (a 8 0)), (1, .int x1), (2, .int x2), (3, .int x3), (4, .int x113), (5, .int x107)] → W p l e { frames := 7, cells := 3, slots := 18, locals := 111 } s m args below meth c H locs 3 18 (vx_MQ below (QX E a out.1 (some (.int out.2.1)) out.2.2) (XW E a out.1 out.2.2) args s 3 18 (AE E)) (F0 m 88 ls []) := by
            intro H locs ls hR hS hl
            clear hz
            obtain ⟨x115, ex115⟩ : ∃ z : Int32, z = x107 + 1 := ⟨_, rfl⟩
            replace h := bd_x ex115 h
            refine lv_iinc (v := x115) (lv' := [(5, .int x115), (0, .ref (a 8 0)), (1, .int x1), (2, .int x2), (3, .int x3), (4, .int x113)]) hx hb dX8_gone_88 hl (k := 5) rfl (by rw [ex115]; rfl) (by decide) rfl (fun ls hl => ?_)
            refine lv_goto (tgt := 33) hx hb dX8_gone_91 (by decide) ?_
            exact ih _ _ _ _ _ h hR hS (lv_sub hl [1, 2, 3, 4, 5, 0] rfl)
          clear h
          have h := hz
          clear hz
          refine lv_if_eq (tgt := 88) hx hb dX8_gone_56 (by decide) (fun c_116 => ?_) (fun c_116 => ?_)
          · rw [if_pos c_116] at h
            cases h
            exact Kj114 _ _ _ hR hS (lv_sub hl [0, 1, 2, 3, 4, 5] rfl)
          · rw [if_neg c_116] at h
            refine lv_iload_n hx hb dX8_gone_59 rfl (lv_at hl 3 rfl) ?_
            refine lv_iconst (v := 2) hx hb dX8_gone_60 (by decide) ?_
            refine jp_cut h (fun j117 hj117 h => ?_)
            have Kj117 : ∀  (H : Heap) (locs : List Loc) (ls : Array Slot), j117 = some x113 → Rel E a u0 H → va_S (AE E) s.heap H locs → lv_has ls 6 [(0, .ref (a 8 0)), (1, .int x1), (2, .int x2), (3, .int x3), (4, .int x106), (5, .int x107)] → W p l e { frames := 7, cells := 3, slots := 18, locals := 111 } s m args below meth c H locs 3 18 (vx_MQ below (QX E a out.1 (some (.int out.2.1)) out.2.2) (XW E a out.1 out.2.2) args s 3 18 (AE E)) (F0 m 85 ls []) := by
              intro  H locs ls h hR hS hl
              replace h := jx0 hj117 h
              obtain ⟨x118, ex118⟩ : ∃ z : Int32, z = x106 + 1 := ⟨_, rfl⟩
              replace h := bd_x ex118 h
              refine lv_iinc (v := x118) (lv' := [(4, .int x118), (0, .ref (a 8 0)), (1, .int x1), (2, .int x2), (3, .int x3), (5, .int x107)]) hx hb dX8_gone_85 hl (k := 4) rfl (by rw [ex118]; rfl) (by decide) rfl (fun ls hl => ?_)
              cases h
              exact Kj114 _ _ _ hR hS (lv_sub hl [1, 2, 3, 4, 0, 5] rfl)
            refine lv_icmp_eq (tgt := 85) hx hb dX8_gone_61 (by decide) (fun c_119 => ?_) (fun c_119 => ?_)
            · rw [if_pos c_119] at h
              exact Kj117  _ _ _ h hR hS (lv_sub hl [0, 1, 2, 3, 4, 5] rfl)
            · rw [if_neg c_119] at h
              refine lv_aload_n hx hb dX8_gone_64 rfl (lv_at hl 0 rfl) ?_
              refine r_get C hR 8 0 8 (v := .ref (a 0 0)) (lv0 (by decide) (by decide)) (by decide) (by decide) rfl fl_X8_56 dX8_gone_65 ?_
              refine lv_iload hx hb dX8_gone_68 (lv_at hl 5 rfl) ?_
              refine lv_iload_n hx hb dX8_gone_70 rfl (lv_at hl 3 rfl) ?_
              obtain ⟨x120, hz, h⟩ := ob h
              have Kj121 : ∀ (H : Heap) (locs : List Loc) (ls : Array Slot), Rel E a u0 H → va_S (AE E) s.heap H locs → lv_has ls 6 [(0, .ref (a 8 0)), (1, .int x1), (2, .int x2), (3, .int x3), (4, .int x106), (5, .int x107)] → W p l e { frames := 7, cells := 3, slots := 18, locals := 111 } s m args below meth c H locs 3 18 (vx_MQ below (QX E a out.1 (some (.int out.2.1)) out.2.2) (XW E a out.1 out.2.2) args s 3 18 (AE E)) (F0 m 79 ls [.int x120, .int x107, .ref (a 0 0)]) := by
                intro H locs ls hR hS hl
                clear hz
                obtain ⟨x123, hc122, h⟩ := ob h
                refine r_callV1 (As := [.int x107, .int x120]) (rest := []) (r := 0) (i := 0) C (vX0_isLostTo (by decide) hc122) hR hS (lv0 (by decide) (by decide)) (by decide) ml_X8_317 mw_X0_isLostTo rfl ⟨Nat.le_of_ble_eq_true rfl, Nat.le_of_ble_eq_true rfl, Nat.le_of_ble_eq_true rfl, Nat.le_of_ble_eq_true rfl⟩ hl.1 rfl (Nat.le_of_ble_eq_true rfl) dX8_gone_79 (fun H locs hR hS => ?_)
                refine lv_if_eq (tgt := 88) hx hb dX8_gone_82 (by decide) (fun c_124 => ?_) (fun c_124 => ?_)
                · rw [if_pos c_124] at h
                  cases h
                  exact Kj114 _ _ _ hR hS (lv_sub hl [0, 1, 2, 3, 4, 5] rfl)
                · rw [if_neg c_124] at h
                  exact Kj117  _ _ _ h hR hS (lv_sub hl [0, 1, 2, 3, 4, 5] rfl)
              clear h
              have h := hz
              clear hz
              refine lv_if_ne (tgt := 78) hx hb dX8_gone_71 (by decide) (fun c_125 => ?_) (fun c_125 => ?_)
              · rw [if_neg c_125] at h
                refine lv_iconst (v := 0) hx hb dX8_gone_78 (by decide) ?_
                cases h
                exact Kj121 _ _ _ hR hS (lv_sub hl [0, 1, 2, 3, 4, 5] rfl)
              · rw [if_pos c_125] at h
                refine lv_iconst (v := 1) hx hb dX8_gone_74 (by decide) ?_
                refine lv_goto (tgt := 79) hx hb dX8_gone_75 (by decide) ?_
                cases h
                exact Kj121 _ _ _ hR hS (lv_sub hl [0, 1, 2, 3, 4, 5] rfl)
    exact LP FU _ _ _ _ _ h hR hS (lv_sub hl [2, 3, 4, 5, 1, 0] rfl)
  clear h
  have h := hz
  clear hz
  refine jp_cut h (fun j126 hj126 h => ?_)
  have Kj126 : ∀  (H : Heap) (locs : List Loc) (ls : Array Slot), j126 = some x103 → Rel E a u0 H → va_S (AE E) s.heap H locs → lv_has ls 6 [(0, .ref (a 8 0)), (1, .int x1), (2, .int x2), (3, .int x3)] → W p l e { frames := 7, cells := 3, slots := 18, locals := 111 } s m args below meth c H locs 2 12 (vx_MQ below (QX E a out.1 (some (.int out.2.1)) out.2.2) (XW E a out.1 out.2.2) args s 3 18 (AE E)) (F0 m 23 ls []) := by
    intro  H locs ls h hR hS hl
    replace h := jx0 hj126 h
    refine lv_iconst (v := 0) hx hb dX8_gone_23 (by decide) ?_
    cases h
    exact Kj104 _ _ _ hR hS (lv_sub hl [0, 1, 2, 3] rfl)
  refine lv_if_lt (tgt := 23) hx hb dX8_gone_11 (by decide) (fun c_127 => ?_) (fun c_127 => ?_)
  · rw [if_pos c_127] at h
    exact Kj126  _ _ _ h hR hS (lv_sub hl [0, 1, 2, 3] rfl)
  · rw [if_neg c_127] at h
    refine lv_iload_n hx hb dX8_gone_14 rfl (lv_at hl 3 rfl) ?_
    refine lv_iconst (v := 2) hx hb dX8_gone_15 (by decide) ?_
    refine lv_icmp_gt (tgt := 23) hx hb dX8_gone_16 (by decide) (fun c_128 => ?_) (fun c_128 => ?_)
    · rw [if_pos c_128] at h
      exact Kj126  _ _ _ h hR hS (lv_sub hl [0, 1, 2, 3] rfl)
    · rw [if_neg c_128] at h
      refine lv_iconst (v := 1) hx hb dX8_gone_19 (by decide) ?_
      refine lv_goto (tgt := 24) hx hb dX8_gone_20 (by decide) ?_
      cases h
      exact Kj104 _ _ _ hR hS (lv_sub hl [0, 1, 2, 3] rfl)
set_option maxHeartbeats 4000000 in
set_option maxRecDepth 100000 in
theorem vX8_lost {l : Launch} (hfl : l.stackTraces = false) {E : EV} {a : Nat → Nat → Nat} {u0 : HS} {x1 : Int32} {out : (Nat × Int32 × HS)} (h : mX8_lost u0 x1 = some out) : CtX l E yX8_lost cX8_lost 2 (some .int) 7 111 1 6 a u0 [.ref (a 8 0), .int x1] out.1 (some (.int out.2.1)) out.2.2 := by
  refine CtX.start (by decide) (Nat.le_of_ble_eq_true rfl) ?_
  intro p e s m args below meth c ls hT0 C hr hR hS hl
  have C : Cx E p s m args meth c cX8_lost 2 RX8 := C
  have hl : lv_has ls 2 [(0, .ref (a 8 0)), (1, .int x1)] := hl
  have hx := C.1
  have hb := C.2.1
  unfold mX8_lost at h
  refine lv_aload_n hx hb dX8_lost_0 rfl (lv_at hl 0 rfl) ?_
  refine lv_iload_n hx hb dX8_lost_1 rfl (lv_at hl 1 rfl) ?_
  obtain ⟨t101, hc101, h⟩ := ob h
  refine r_callXV (Qc := QX E a out.1 (some (.int out.2.1)) out.2.2) (mc0 := 1) (ms0 := 6) (As := [.int x1]) (rest := []) (r := 8) (i := 0) C hT0 (vX8_requireLooker hfl hc101) hR hS (lv0 (by decide) (by decide)) (by decide) ml_X8_199 mw_X8_requireLooker rfl ⟨Nat.le_of_ble_eq_true rfl, Nat.le_of_ble_eq_true rfl, Nat.le_of_ble_eq_true rfl, Nat.le_of_ble_eq_true rfl⟩ ⟨Nat.le_of_ble_eq_true rfl, Nat.le_of_ble_eq_true rfl⟩ hl.1 rfl (Nat.le_of_ble_eq_true rfl) dX8_lost_2 (fun hk => ?_) (fun hk H locs hR hS => ?_)
  · rw [xq_ne hk] at h
    cases h
    exact fun _ q => q
  rw [xq_0 hk] at h
  refine lv_aload_n hx hb dX8_lost_5 rfl (lv_at hl 0 rfl) ?_
  refine lv_iload_n hx hb dX8_lost_6 rfl (lv_at hl 1 rfl) ?_
  obtain ⟨x103, hc102, h⟩ := ob h
  refine r_callV1 (As := [.int x1]) (rest := []) (r := 8) (i := 0) C (vX8_lostBy hc102) hR hS (lv0 (by decide) (by decide)) (by decide) ml_X8_321 mw_X8_lostBy rfl ⟨Nat.le_of_ble_eq_true rfl, Nat.le_of_ble_eq_true rfl, Nat.le_of_ble_eq_true rfl, Nat.le_of_ble_eq_true rfl⟩ hl.1 rfl (Nat.le_of_ble_eq_true rfl) dX8_lost_7 (fun H locs hR hS => ?_)
  cases h
  exact x_ret (e_iret C hr hR hS (Nat.le_of_ble_eq_true rfl) (Nat.le_of_ble_eq_true rfl) dX8_lost_10)
set_option maxHeartbeats 4000000 in
set_option maxRecDepth 100000 in
theorem vX8_cost {l : Launch} (hfl : l.stackTraces = false) {E : EV} {a : Nat → Nat → Nat} {u0 : HS} {x1 : Int32} {x2 : Int32} {x3 : Int32} {out : (Nat × Int32 × HS)} (h : mX8_cost u0 x1 x2 x3 = some out) : CtX l E yX8_cost cX8_cost 4 (some .int) 7 111 3 18 a u0 [.ref (a 8 0), .int x1, .int x2, .int x3] out.1 (some (.int out.2.1)) out.2.2 := by
  refine CtX.start (by decide) (Nat.le_of_ble_eq_true rfl) ?_
  intro p e s m args below meth c ls hT0 C hr hR hS hl
  have C : Cx E p s m args meth c cX8_cost 4 RX8 := C
  have hl : lv_has ls 4 [(0, .ref (a 8 0)), (1, .int x1), (2, .int x2), (3, .int x3)] := hl
  have hx := C.1
  have hb := C.2.1
  unfold mX8_cost at h
  refine lv_aload_n hx hb dX8_cost_0 rfl (lv_at hl 0 rfl) ?_
  refine lv_iload_n hx hb dX8_cost_1 rfl (lv_at hl 1 rfl) ?_
  obtain ⟨t101, hc101, h⟩ := ob h
  refine r_callXV (Qc := QX E a out.1 (some (.int out.2.1)) out.2.2) (mc0 := 3) (ms0 := 18) (As := [.int x1]) (rest := []) (r := 8) (i := 0) C hT0 (vX8_requireScene hfl hc101) hR hS (lv0 (by decide) (by decide)) (by decide) ml_X8_128 mw_X8_requireScene rfl ⟨Nat.le_of_ble_eq_true rfl, Nat.le_of_ble_eq_true rfl, Nat.le_of_ble_eq_true rfl, Nat.le_of_ble_eq_true rfl⟩ ⟨Nat.le_of_ble_eq_true rfl, Nat.le_of_ble_eq_true rfl⟩ hl.1 rfl (Nat.le_of_ble_eq_true rfl) dX8_cost_2 (fun hk => ?_) (fun hk H locs hR hS => ?_)
  · rw [xq_ne hk] at h
    cases h
    exact fun _ q => q
  rw [xq_0 hk] at h
  refine lv_aload_n hx hb dX8_cost_5 rfl (lv_at hl 0 rfl) ?_
  refine lv_iload_n hx hb dX8_cost_6 rfl (lv_at hl 2 rfl) ?_
  obtain ⟨t102, hc102, h⟩ := ob h
  refine r_callXV (Qc := QX E a out.1 (some (.int out.2.1)) out.2.2) (mc0 := 3) (ms0 := 18) (As := [.int x2]) (rest := []) (r := 8) (i := 0) C hT0 (vX8_requireTask hfl hc102) hR hS (lv0 (by decide) (by decide)) (by decide) ml_X8_170 mw_X8_requireTask rfl ⟨Nat.le_of_ble_eq_true rfl, Nat.le_of_ble_eq_true rfl, Nat.le_of_ble_eq_true rfl, Nat.le_of_ble_eq_true rfl⟩ ⟨Nat.le_of_ble_eq_true rfl, Nat.le_of_ble_eq_true rfl⟩ hl.1 rfl (Nat.le_of_ble_eq_true rfl) dX8_cost_7 (fun hk => ?_) (fun hk H locs hR hS => ?_)
  · rw [xq_ne hk] at h
    cases h
    exact fun _ q => q
  rw [xq_0 hk] at h
  refine lv_aload_n hx hb dX8_cost_10 rfl (lv_at hl 0 rfl) ?_
  refine lv_iload_n hx hb dX8_cost_11 rfl (lv_at hl 3 rfl) ?_
  obtain ⟨t103, hc103, h⟩ := ob h
  refine r_callXV (Qc := QX E a out.1 (some (.int out.2.1)) out.2.2) (mc0 := 3) (ms0 := 18) (As := [.int x3]) (rest := []) (r := 8) (i := 0) C hT0 (vX8_requireTask hfl hc103) hR hS (lv0 (by decide) (by decide)) (by decide) ml_X8_170 mw_X8_requireTask rfl ⟨Nat.le_of_ble_eq_true rfl, Nat.le_of_ble_eq_true rfl, Nat.le_of_ble_eq_true rfl, Nat.le_of_ble_eq_true rfl⟩ ⟨Nat.le_of_ble_eq_true rfl, Nat.le_of_ble_eq_true rfl⟩ hl.1 rfl (Nat.le_of_ble_eq_true rfl) dX8_cost_12 (fun hk => ?_) (fun hk H locs hR hS => ?_)
  · rw [xq_ne hk] at h
    cases h
    exact fun _ q => q
  rw [xq_0 hk] at h
  refine lv_aload_n hx hb dX8_cost_15 rfl (lv_at hl 0 rfl) ?_
  refine r_get C hR 8 0 3 (v := .ref (a 51 0)) (lv0 (by decide) (by decide)) (by decide) (by decide) rfl fl_X8_28 dX8_cost_16 ?_
  refine lv_iload_n hx hb dX8_cost_19 rfl (lv_at hl 2 rfl) ?_
  obtain ⟨k104, hk104, h⟩ := ob h
  have hLk104 : k104 < cntS 6 := by have q1 := (ck_in hk104).2.2; have q2 : cntS 6 = 7 := rfl; omega
  refine r_aald C hR 51 0 6 0 3 (lv0 (by decide) (by decide)) (by decide) rfl rfl rfl (fun _ => rfl) rfl hk104 dX8_cost_20 ?_
  refine r_get C hR 6 k104 2 (v := .int (gI u0 6 k104 2)) (lv0 hLk104 (by decide)) (by decide) (by decide) rfl fl_X8_179 dX8_cost_21 ?_
  refine lv_iconst (v := (-1)) hx hb dX8_cost_24 (by decide) ?_
  refine lv_icmp_eq (tgt := 41) hx hb dX8_cost_25 (by decide) (fun c_105 => ?_) (fun c_105 => ?_)
  · rw [if_pos c_105] at h
    refine lv_iconst (v := 0) hx hb dX8_cost_41 (by decide) ?_
    cases h
    exact x_ret (e_iret C hr hR hS (Nat.le_of_ble_eq_true rfl) (Nat.le_of_ble_eq_true rfl) dX8_cost_42)
  · rw [if_neg c_105] at h
    refine lv_aload_n hx hb dX8_cost_28 rfl (lv_at hl 0 rfl) ?_
    refine r_get C hR 8 0 3 (v := .ref (a 51 0)) (lv0 (by decide) (by decide)) (by decide) (by decide) rfl fl_X8_28 dX8_cost_29 ?_
    refine lv_iload_n hx hb dX8_cost_32 rfl (lv_at hl 3 rfl) ?_
    obtain ⟨k106, hk106, h⟩ := ob h
    have hLk106 : k106 < cntS 6 := by have q1 := (ck_in hk106).2.2; have q2 : cntS 6 = 7 := rfl; omega
    refine r_aald C hR 51 0 6 0 3 (lv0 (by decide) (by decide)) (by decide) rfl rfl rfl (fun _ => rfl) rfl hk106 dX8_cost_33 ?_
    refine r_get C hR 6 k106 2 (v := .int (gI u0 6 k106 2)) (lv0 hLk106 (by decide)) (by decide) (by decide) rfl fl_X8_179 dX8_cost_34 ?_
    refine lv_iconst (v := (-1)) hx hb dX8_cost_37 (by decide) ?_
    refine lv_icmp_ne (tgt := 43) hx hb dX8_cost_38 (by decide) (fun c_107 => ?_) (fun c_107 => ?_)
    · rw [if_neg c_107] at h
      refine lv_aload_n hx hb dX8_cost_43 rfl (lv_at hl 0 rfl) ?_
      refine lv_iload_n hx hb dX8_cost_44 rfl (lv_at hl 1 rfl) ?_
      refine lv_iload_n hx hb dX8_cost_45 rfl (lv_at hl 2 rfl) ?_
      obtain ⟨x109, hc108, h⟩ := ob h
      refine r_callV1 (As := [.int x1, .int x2]) (rest := []) (r := 8) (i := 0) C (vX8_lostTogether hc108) hR hS (lv0 (by decide) (by decide)) (by decide) ml_X8_324 mw_X8_lostTogether rfl ⟨Nat.le_of_ble_eq_true rfl, Nat.le_of_ble_eq_true rfl, Nat.le_of_ble_eq_true rfl, Nat.le_of_ble_eq_true rfl⟩ hl.1 rfl (Nat.le_of_ble_eq_true rfl) dX8_cost_46 (fun H locs hR hS => ?_)
      refine lv_aload_n hx hb dX8_cost_49 rfl (lv_at hl 0 rfl) ?_
      refine r_get C hR 8 0 8 (v := .ref (a 0 0)) (lv0 (by decide) (by decide)) (by decide) (by decide) rfl fl_X8_56 dX8_cost_50 ?_
      refine lv_iload_n hx hb dX8_cost_53 rfl (lv_at hl 1 rfl) ?_
      refine lv_iload_n hx hb dX8_cost_54 rfl (lv_at hl 3 rfl) ?_
      obtain ⟨x111, hc110, h⟩ := ob h
      refine r_callV1 (As := [.int x1, .int x3]) (rest := [.int x109]) (r := 0) (i := 0) C (vX0_talliedOf (by decide) hc110) hR hS (lv0 (by decide) (by decide)) (by decide) ml_X8_327 mw_X0_talliedOf rfl ⟨Nat.le_of_ble_eq_true rfl, Nat.le_of_ble_eq_true rfl, Nat.le_of_ble_eq_true rfl, Nat.le_of_ble_eq_true rfl⟩ hl.1 rfl (Nat.le_of_ble_eq_true rfl) dX8_cost_55 (fun H locs hR hS => ?_)
      refine lv_imul hx hb dX8_cost_58 ?_
      refine lv_aload_n hx hb dX8_cost_59 rfl (lv_at hl 0 rfl) ?_
      refine lv_iload_n hx hb dX8_cost_60 rfl (lv_at hl 1 rfl) ?_
      refine lv_iload_n hx hb dX8_cost_61 rfl (lv_at hl 3 rfl) ?_
      obtain ⟨x113, hc112, h⟩ := ob h
      refine r_callV1 (As := [.int x1, .int x3]) (rest := [.int (x109 * x111)]) (r := 8) (i := 0) C (vX8_lostTogether hc112) hR hS (lv0 (by decide) (by decide)) (by decide) ml_X8_324 mw_X8_lostTogether rfl ⟨Nat.le_of_ble_eq_true rfl, Nat.le_of_ble_eq_true rfl, Nat.le_of_ble_eq_true rfl, Nat.le_of_ble_eq_true rfl⟩ hl.1 rfl (Nat.le_of_ble_eq_true rfl) dX8_cost_62 (fun H locs hR hS => ?_)
      refine lv_aload_n hx hb dX8_cost_65 rfl (lv_at hl 0 rfl) ?_
      refine r_get C hR 8 0 8 (v := .ref (a 0 0)) (lv0 (by decide) (by decide)) (by decide) (by decide) rfl fl_X8_56 dX8_cost_66 ?_
      refine lv_iload_n hx hb dX8_cost_69 rfl (lv_at hl 1 rfl) ?_
      refine lv_iload_n hx hb dX8_cost_70 rfl (lv_at hl 2 rfl) ?_
      obtain ⟨x115, hc114, h⟩ := ob h
      refine r_callV1 (As := [.int x1, .int x2]) (rest := [.int x113, .int (x109 * x111)]) (r := 0) (i := 0) C (vX0_talliedOf (by decide) hc114) hR hS (lv0 (by decide) (by decide)) (by decide) ml_X8_327 mw_X0_talliedOf rfl ⟨Nat.le_of_ble_eq_true rfl, Nat.le_of_ble_eq_true rfl, Nat.le_of_ble_eq_true rfl, Nat.le_of_ble_eq_true rfl⟩ hl.1 rfl (Nat.le_of_ble_eq_true rfl) dX8_cost_71 (fun H locs hR hS => ?_)
      refine lv_imul hx hb dX8_cost_74 ?_
      refine lv_isub hx hb dX8_cost_75 ?_
      cases h
      exact x_ret (e_iret C hr hR hS (Nat.le_of_ble_eq_true rfl) (Nat.le_of_ble_eq_true rfl) dX8_cost_76)
    · rw [if_pos c_107] at h
      refine lv_iconst (v := 0) hx hb dX8_cost_41 (by decide) ?_
      cases h
      exact x_ret (e_iret C hr hR hS (Nat.le_of_ble_eq_true rfl) (Nat.le_of_ble_eq_true rfl) dX8_cost_42)
set_option maxHeartbeats 4000000 in
set_option maxRecDepth 100000 in
theorem vX8_off {l : Launch} (hfl : l.stackTraces = false) {E : EV} {a : Nat → Nat → Nat} {u0 : HS} {x1 : Int32} {x2 : Int32} {x3 : Int32} {out : (Nat × Int32 × HS)} (h : mX8_off u0 x1 x2 x3 = some out) : CtX l E yX8_off cX8_off 8 (some .int) 7 111 3 18 a u0 [.ref (a 8 0), .int x1, .int x2, .int x3] out.1 (some (.int out.2.1)) out.2.2 := by
  refine CtX.start (by decide) (Nat.le_of_ble_eq_true rfl) ?_
  intro p e s m args below meth c ls hT0 C hr hR hS hl
  have C : Cx E p s m args meth c cX8_off 8 RX8 := C
  have hl : lv_has ls 8 [(0, .ref (a 8 0)), (1, .int x1), (2, .int x2), (3, .int x3)] := hl
  have hx := C.1
  have hb := C.2.1
  unfold mX8_off at h
  refine lv_aload_n hx hb dX8_off_0 rfl (lv_at hl 0 rfl) ?_
  refine lv_iload_n hx hb dX8_off_1 rfl (lv_at hl 1 rfl) ?_
  obtain ⟨t101, hc101, h⟩ := ob h
  refine r_callXV (Qc := QX E a out.1 (some (.int out.2.1)) out.2.2) (mc0 := 3) (ms0 := 18) (As := [.int x1]) (rest := []) (r := 8) (i := 0) C hT0 (vX8_requireScene hfl hc101) hR hS (lv0 (by decide) (by decide)) (by decide) ml_X8_128 mw_X8_requireScene rfl ⟨Nat.le_of_ble_eq_true rfl, Nat.le_of_ble_eq_true rfl, Nat.le_of_ble_eq_true rfl, Nat.le_of_ble_eq_true rfl⟩ ⟨Nat.le_of_ble_eq_true rfl, Nat.le_of_ble_eq_true rfl⟩ hl.1 rfl (Nat.le_of_ble_eq_true rfl) dX8_off_2 (fun hk => ?_) (fun hk H locs hR hS => ?_)
  · rw [xq_ne hk] at h
    cases h
    exact fun _ q => q
  rw [xq_0 hk] at h
  refine lv_aload_n hx hb dX8_off_5 rfl (lv_at hl 0 rfl) ?_
  refine lv_iload_n hx hb dX8_off_6 rfl (lv_at hl 2 rfl) ?_
  obtain ⟨t102, hc102, h⟩ := ob h
  refine r_callXV (Qc := QX E a out.1 (some (.int out.2.1)) out.2.2) (mc0 := 3) (ms0 := 18) (As := [.int x2]) (rest := []) (r := 8) (i := 0) C hT0 (vX8_requireTask hfl hc102) hR hS (lv0 (by decide) (by decide)) (by decide) ml_X8_170 mw_X8_requireTask rfl ⟨Nat.le_of_ble_eq_true rfl, Nat.le_of_ble_eq_true rfl, Nat.le_of_ble_eq_true rfl, Nat.le_of_ble_eq_true rfl⟩ ⟨Nat.le_of_ble_eq_true rfl, Nat.le_of_ble_eq_true rfl⟩ hl.1 rfl (Nat.le_of_ble_eq_true rfl) dX8_off_7 (fun hk => ?_) (fun hk H locs hR hS => ?_)
  · rw [xq_ne hk] at h
    cases h
    exact fun _ q => q
  rw [xq_0 hk] at h
  refine lv_iload_n hx hb dX8_off_10 rfl (lv_at hl 3 rfl) ?_
  obtain ⟨x103, hz, h⟩ := ob h
  have Kj104 : ∀ (H : Heap) (locs : List Loc) (ls : Array Slot), Rel E a u0 H → va_S (AE E) s.heap H locs → lv_has ls 8 [(0, .ref (a 8 0)), (1, .int x1), (2, .int x2), (3, .int x3)] → W p l e { frames := 7, cells := 3, slots := 18, locals := 111 } s m args below meth c H locs 2 12 (vx_MQ below (QX E a out.1 (some (.int out.2.1)) out.2.2) (XW E a out.1 out.2.2) args s 3 18 (AE E)) (F0 m 24 ls [.int x103]) := by
    intro H locs ls hR hS hl
    clear hz
    obtain ⟨t105, hc105, h⟩ := ob h
    refine r_callXS (Qc := QX E a out.1 (some (.int out.2.1)) out.2.2) (mc0 := 3) (ms0 := 18) (As := [.int x103]) (rest := []) C hT0 (vX8_require hfl hc105) hR hS ml_X8_105 ms_X8_require rfl ⟨Nat.le_of_ble_eq_true rfl, Nat.le_of_ble_eq_true rfl, Nat.le_of_ble_eq_true rfl, Nat.le_of_ble_eq_true rfl⟩ ⟨Nat.le_of_ble_eq_true rfl, Nat.le_of_ble_eq_true rfl⟩ hl.1 rfl (Nat.le_of_ble_eq_true rfl) dX8_off_24 (fun hk => ?_) (fun hk H locs hR hS => ?_)
    · rw [xq_ne hk] at h
      cases h
      exact fun _ q => q
    rw [xq_0 hk] at h
    refine lv_iconst (v := 0) hx hb dX8_off_27 (by decide) ?_
    refine lv_istore (lv' := [(4, .int 0), (0, .ref (a 8 0)), (1, .int x1), (2, .int x2), (3, .int x3)]) hx hb dX8_off_28 hl (by decide) rfl (fun ls hl => ?_)
    refine lv_iconst (v := 0) hx hb dX8_off_30 (by decide) ?_
    refine lv_istore (lv' := [(5, .int 0), (4, .int 0), (0, .ref (a 8 0)), (1, .int x1), (2, .int x2), (3, .int x3)]) hx hb dX8_off_31 hl (by decide) rfl (fun ls hl => ?_)
    refine lv_iconst (v := 0) hx hb dX8_off_33 (by decide) ?_
    refine lv_istore (lv' := [(6, .int 0), (5, .int 0), (4, .int 0), (0, .ref (a 8 0)), (1, .int x1), (2, .int x2), (3, .int x3)]) hx hb dX8_off_34 hl (by decide) rfl (fun ls hl => ?_)
    refine jp_cut h (fun w111 hw111 h => ?_)
    have Kw111 : ∀ (x109 : Int32) (x110 : Int32) (H : Heap) (locs : List Loc) (ls : Array Slot), w111 x109 x110 = some out → Rel E a u0 H → va_S (AE E) s.heap H locs → lv_has ls 8 [(3, .int x3), (4, .int x109), (5, .int x110)] → W p l e { frames := 7, cells := 3, slots := 18, locals := 111 } s m args below meth c H locs 3 18 (vx_MQ below (QX E a out.1 (some (.int out.2.1)) out.2.2) (XW E a out.1 out.2.2) args s 3 18 (AE E)) (F0 m 146 ls []) := by
      intro x109 x110 H locs ls h hR hS hl
      replace h := jx2 hw111 h
      refine lv_iload_n hx hb dX8_off_146 rfl (lv_at hl 0 rfl) ?_
      refine lv_if_ne (tgt := 155) hx hb dX8_off_147 (by decide) (fun c_112 => ?_) (fun c_112 => ?_)
      · rw [if_neg c_112] at h
        refine lv_iload hx hb dX8_off_155 (lv_at hl 2 rfl) ?_
        cases h
        exact x_ret (e_iret C hr hR hS (Nat.le_of_ble_eq_true rfl) (Nat.le_of_ble_eq_true rfl) dX8_off_157)
      · rw [if_pos c_112] at h
        refine lv_iload hx hb dX8_off_150 (lv_at hl 1 rfl) ?_
        refine lv_goto (tgt := 157) hx hb dX8_off_152 (by decide) ?_
        cases h
        exact x_ret (e_iret C hr hR hS (Nat.le_of_ble_eq_true rfl) (Nat.le_of_ble_eq_true rfl) dX8_off_157)
    have LP : ∀ (fu : Nat) (x106 : Int32) (x107 : Int32) (x108 : Int32) (H : Heap) (locs : List Loc) (ls : Array Slot), mX8_off_L36 u0 x1 x2 w111 fu x106 x107 x108 = some out → Rel E a u0 H → va_S (AE E) s.heap H locs → lv_has ls 8 [(0, .ref (a 8 0)), (1, .int x1), (2, .int x2), (3, .int x3), (4, .int x106), (5, .int x107), (6, .int x108)] → W p l e { frames := 7, cells := 3, slots := 18, locals := 111 } s m args below meth c H locs 3 18 (vx_MQ below (QX E a out.1 (some (.int out.2.1)) out.2.2) (XW E a out.1 out.2.2) args s 3 18 (AE E)) (F0 m 36 ls []) := by
      intro fu
      induction fu with
      | zero =>
        intro x106 x107 x108 H locs ls h
        have h2 : (none : Option (Nat × Int32 × HS)) = some out := h
        cases h2
      | succ fu ih =>
        intro x106 x107 x108 H locs ls h hR hS hl
        rw [mX8_off_L36.eq_2] at h
        refine lv_iload hx hb dX8_off_36 (lv_at hl 6 rfl) ?_
        refine lv_aload_n hx hb dX8_off_38 rfl (lv_at hl 0 rfl) ?_
        refine r_get C hR 8 0 8 (v := .ref (a 0 0)) (lv0 (by decide) (by decide)) (by decide) (by decide) rfl fl_X8_56 dX8_off_39 ?_
        refine r_get C hR 0 0 0 (v := .int (gI u0 0 0 0)) (lv0 (by decide) (by decide)) (by decide) (by decide) rfl fl_X8_268 dX8_off_42 ?_
        refine lv_icmp_ge (tgt := 146) hx hb dX8_off_45 (by decide) (fun c_113 => ?_) (fun c_113 => ?_)
        · rw [if_pos c_113] at h
          exact Kw111 _ _ _ _ _ h hR hS (lv_sub hl [3, 4, 5] rfl)
        · rw [if_neg c_113] at h
          refine lv_aload_n hx hb dX8_off_48 rfl (lv_at hl 0 rfl) ?_
          refine r_get C hR 8 0 8 (v := .ref (a 0 0)) (lv0 (by decide) (by decide)) (by decide) (by decide) rfl fl_X8_56 dX8_off_49 ?_
          refine lv_iload hx hb dX8_off_52 (lv_at hl 6 rfl) ?_
          refine lv_iload_n hx hb dX8_off_54 rfl (lv_at hl 1 rfl) ?_
          refine lv_iload_n hx hb dX8_off_55 rfl (lv_at hl 2 rfl) ?_
          refine lv_iconst (v := 0) hx hb dX8_off_56 (by decide) ?_
          obtain ⟨x115, hc114, h⟩ := ob h
          refine r_callV1 (As := [.int x108, .int x1, .int x2, .int 0]) (rest := []) (r := 0) (i := 0) C (vX0_inGroup (by decide) hc114) hR hS (lv0 (by decide) (by decide)) (by decide) ml_X8_330 mw_X0_inGroup rfl ⟨Nat.le_of_ble_eq_true rfl, Nat.le_of_ble_eq_true rfl, Nat.le_of_ble_eq_true rfl, Nat.le_of_ble_eq_true rfl⟩ hl.1 rfl (Nat.le_of_ble_eq_true rfl) dX8_off_57 (fun H locs hR hS => ?_)
          refine jp_cut h (fun j118 hj118 h => ?_)
          have Kj118 : ∀ (x116 : Int32) (x117 : Int32) (H : Heap) (locs : List Loc) (ls : Array Slot), j118 x116 x117 = some out → Rel E a u0 H → va_S (AE E) s.heap H locs → lv_has ls 8 [(0, .ref (a 8 0)), (1, .int x1), (2, .int x2), (3, .int x3), (4, .int x116), (5, .int x117), (6, .int x108)] → W p l e { frames := 7, cells := 3, slots := 18, locals := 111 } s m args below meth c H locs 3 18 (vx_MQ below (QX E a out.1 (some (.int out.2.1)) out.2.2) (XW E a out.1 out.2.2) args s 3 18 (AE E)) (F0 m 140 ls []) := by
            intro x116 x117 H locs ls h hR hS hl
            replace h := jx2 hj118 h
            obtain ⟨x119, ex119⟩ : ∃ z : Int32, z = x108 + 1 := ⟨_, rfl⟩
            replace h := bd_x ex119 h
            refine lv_iinc (v := x119) (lv' := [(6, .int x119), (0, .ref (a 8 0)), (1, .int x1), (2, .int x2), (3, .int x3), (4, .int x116), (5, .int x117)]) hx hb dX8_off_140 hl (k := 6) rfl (by rw [ex119]; rfl) (by decide) rfl (fun ls hl => ?_)
            refine lv_goto (tgt := 36) hx hb dX8_off_143 (by decide) ?_
            exact ih _ _ _ _ _ _ h hR hS (lv_sub hl [1, 2, 3, 4, 5, 6, 0] rfl)
          refine lv_if_eq (tgt := 140) hx hb dX8_off_60 (by decide) (fun c_120 => ?_) (fun c_120 => ?_)
          · rw [if_pos c_120] at h
            exact Kj118 _ _ _ _ _ h hR hS (lv_sub hl [0, 1, 2, 3, 4, 5, 6] rfl)
          · rw [if_neg c_120] at h
            refine lv_aload_n hx hb dX8_off_63 rfl (lv_at hl 0 rfl) ?_
            refine r_get C hR 8 0 8 (v := .ref (a 0 0)) (lv0 (by decide) (by decide)) (by decide) (by decide) rfl fl_X8_56 dX8_off_64 ?_
            refine r_get C hR 0 0 6 (v := .ref (a 24 0)) (lv0 (by decide) (by decide)) (by decide) (by decide) rfl fl_X8_286 dX8_off_67 ?_
            refine lv_iload hx hb dX8_off_70 (lv_at hl 6 rfl) ?_
            obtain ⟨k121, hk121, h⟩ := ob h
            refine r_ald C hR 24 0 (lv0 (by decide) (by decide)) (by decide) rfl (fun _ => rfl) rfl hk121 dX8_off_72 ?_
            refine lv_iconst (v := (-1)) hx hb dX8_off_73 (by decide) ?_
            refine lv_icmp_eq (tgt := 140) hx hb dX8_off_74 (by decide) (fun c_122 => ?_) (fun c_122 => ?_)
            · rw [if_pos c_122] at h
              exact Kj118 _ _ _ _ _ h hR hS (lv_sub hl [0, 1, 2, 3, 4, 5, 6] rfl)
            · rw [if_neg c_122] at h
              refine lv_aload_n hx hb dX8_off_77 rfl (lv_at hl 0 rfl) ?_
              refine r_get C hR 8 0 8 (v := .ref (a 0 0)) (lv0 (by decide) (by decide)) (by decide) (by decide) rfl fl_X8_56 dX8_off_78 ?_
              refine lv_iload hx hb dX8_off_81 (lv_at hl 6 rfl) ?_
              refine lv_iconst (v := 0) hx hb dX8_off_83 (by decide) ?_
              obtain ⟨x124, hc123, h⟩ := ob h
              refine r_callV1 (As := [.int x108, .int 0]) (rest := []) (r := 0) (i := 0) C (vX0_reply (by decide) hc123) hR hS (lv0 (by decide) (by decide)) (by decide) ml_X8_277 mw_X0_reply rfl ⟨Nat.le_of_ble_eq_true rfl, Nat.le_of_ble_eq_true rfl, Nat.le_of_ble_eq_true rfl, Nat.le_of_ble_eq_true rfl⟩ hl.1 rfl (Nat.le_of_ble_eq_true rfl) dX8_off_84 (fun H locs hR hS => ?_)
              refine lv_istore (lv' := [(7, .int x124), (0, .ref (a 8 0)), (1, .int x1), (2, .int x2), (3, .int x3), (4, .int x106), (5, .int x107), (6, .int x108)]) hx hb dX8_off_87 hl (by decide) rfl (fun ls hl => ?_)
              refine lv_iload hx hb dX8_off_89 (lv_at hl 5 rfl) ?_
              refine lv_aload_n hx hb dX8_off_91 rfl (lv_at hl 1 rfl) ?_
              refine r_get C hR 8 0 8 (v := .ref (a 0 0)) (lv0 (by decide) (by decide)) (by decide) (by decide) rfl fl_X8_56 dX8_off_92 ?_
              refine r_get C hR 0 0 6 (v := .ref (a 24 0)) (lv0 (by decide) (by decide)) (by decide) (by decide) rfl fl_X8_286 dX8_off_95 ?_
              refine lv_iload hx hb dX8_off_98 (lv_at hl 7 rfl) ?_
              obtain ⟨k125, hk125, h⟩ := ob h
              refine r_ald C hR 24 0 (lv0 (by decide) (by decide)) (by decide) rfl (fun _ => rfl) rfl hk125 dX8_off_100 ?_
              refine lv_bipush (v := 100) hx hb dX8_off_101 (by decide) ?_
              refine lv_iload hx hb dX8_off_103 (lv_at hl 0 rfl) ?_
              refine lv_imul hx hb dX8_off_105 ?_
              refine lv_isub hx hb dX8_off_106 ?_
              refine lv_iadd hx hb dX8_off_107 ?_
              refine lv_topi (fun x126 ex126 => ?_)
              replace h := bd_x ex126 h
              refine lv_istore (lv' := [(4, .int x126), (7, .int x124), (0, .ref (a 8 0)), (1, .int x1), (2, .int x2), (3, .int x3), (5, .int x107), (6, .int x108)]) hx hb dX8_off_108 hl (by decide) rfl (fun ls hl => ?_)
              refine lv_iload hx hb dX8_off_110 (lv_at hl 6 rfl) ?_
              refine lv_aload_n hx hb dX8_off_112 rfl (lv_at hl 2 rfl) ?_
              refine r_get C hR 8 0 8 (v := .ref (a 0 0)) (lv0 (by decide) (by decide)) (by decide) (by decide) rfl fl_X8_56 dX8_off_113 ?_
              refine r_get C hR 0 0 6 (v := .ref (a 24 0)) (lv0 (by decide) (by decide)) (by decide) (by decide) rfl fl_X8_286 dX8_off_116 ?_
              refine lv_iload hx hb dX8_off_119 (lv_at hl 7 rfl) ?_
              obtain ⟨k127, hk127, h⟩ := ob h
              refine r_ald C hR 24 0 (lv0 (by decide) (by decide)) (by decide) rfl (fun _ => rfl) rfl hk127 dX8_off_121 ?_
              refine lv_bipush (v := 50) hx hb dX8_off_122 (by decide) ?_
              obtain ⟨x128, hz, h⟩ := ob h
              have Kj129 : ∀ (H : Heap) (locs : List Loc) (ls : Array Slot), Rel E a u0 H → va_S (AE E) s.heap H locs → lv_has ls 8 [(0, .ref (a 8 0)), (1, .int x1), (2, .int x2), (3, .int x3), (4, .int x126), (6, .int x108)] → W p l e { frames := 7, cells := 3, slots := 18, locals := 111 } s m args below meth c H locs 3 18 (vx_MQ below (QX E a out.1 (some (.int out.2.1)) out.2.2) (XW E a out.1 out.2.2) args s 3 18 (AE E)) (F0 m 137 ls [.int x128, .int x107]) := by
                intro H locs ls hR hS hl
                clear hz
                refine lv_iadd hx hb dX8_off_137 ?_
                refine lv_topi (fun x130 ex130 => ?_)
                replace h := bd_x ex130 h
                refine lv_istore (lv' := [(5, .int x130), (0, .ref (a 8 0)), (1, .int x1), (2, .int x2), (3, .int x3), (4, .int x126), (6, .int x108)]) hx hb dX8_off_138 hl (by decide) rfl (fun ls hl => ?_)
                exact Kj118 _ _ _ _ _ h hR hS (lv_sub hl [1, 2, 3, 4, 5, 0, 6] rfl)
              clear h
              have h := hz
              clear hz
              refine jp_cut h (fun j131 hj131 h => ?_)
              have Kj131 : ∀  (H : Heap) (locs : List Loc) (ls : Array Slot), j131 = some x128 → Rel E a u0 H → va_S (AE E) s.heap H locs → lv_has ls 8 [(0, .ref (a 8 0)), (1, .int x1), (2, .int x2), (3, .int x3), (4, .int x126), (6, .int x108)] → W p l e { frames := 7, cells := 3, slots := 18, locals := 111 } s m args below meth c H locs 3 18 (vx_MQ below (QX E a out.1 (some (.int out.2.1)) out.2.2) (XW E a out.1 out.2.2) args s 3 18 (AE E)) (F0 m 136 ls [.int x107]) := by
                intro  H locs ls h hR hS hl
                replace h := jx0 hj131 h
                refine lv_iconst (v := 0) hx hb dX8_off_136 (by decide) ?_
                cases h
                exact Kj129 _ _ _ hR hS (lv_sub hl [0, 1, 2, 3, 4, 5] rfl)
              refine lv_icmp_lt (tgt := 136) hx hb dX8_off_124 (by decide) (fun c_132 => ?_) (fun c_132 => ?_)
              · rw [if_pos c_132] at h
                exact Kj131  _ _ _ h hR hS (lv_sub hl [2, 3, 4, 5, 0, 7] rfl)
              · rw [if_neg c_132] at h
                refine lv_iload hx hb dX8_off_127 (lv_at hl 1 rfl) ?_
                refine lv_if_ne (tgt := 136) hx hb dX8_off_129 (by decide) (fun c_133 => ?_) (fun c_133 => ?_)
                · rw [if_neg c_133] at h
                  exact Kj131  _ _ _ h hR hS (lv_sub hl [2, 3, 4, 5, 0, 7] rfl)
                · rw [if_pos c_133] at h
                  refine lv_iconst (v := 1) hx hb dX8_off_132 (by decide) ?_
                  refine lv_goto (tgt := 137) hx hb dX8_off_133 (by decide) ?_
                  cases h
                  exact Kj129 _ _ _ hR hS (lv_sub hl [2, 3, 4, 5, 0, 7] rfl)
    exact LP FU _ _ _ _ _ _ h hR hS (lv_sub hl [3, 4, 5, 6, 2, 1, 0] rfl)
  clear h
  have h := hz
  clear hz
  refine jp_cut h (fun j134 hj134 h => ?_)
  have Kj134 : ∀  (H : Heap) (locs : List Loc) (ls : Array Slot), j134 = some x103 → Rel E a u0 H → va_S (AE E) s.heap H locs → lv_has ls 8 [(0, .ref (a 8 0)), (1, .int x1), (2, .int x2), (3, .int x3)] → W p l e { frames := 7, cells := 3, slots := 18, locals := 111 } s m args below meth c H locs 2 12 (vx_MQ below (QX E a out.1 (some (.int out.2.1)) out.2.2) (XW E a out.1 out.2.2) args s 3 18 (AE E)) (F0 m 19 ls []) := by
    intro  H locs ls h hR hS hl
    replace h := jx0 hj134 h
    refine lv_iconst (v := 1) hx hb dX8_off_19 (by decide) ?_
    refine lv_goto (tgt := 24) hx hb dX8_off_20 (by decide) ?_
    cases h
    exact Kj104 _ _ _ hR hS (lv_sub hl [0, 1, 2, 3] rfl)
  refine lv_if_eq (tgt := 19) hx hb dX8_off_11 (by decide) (fun c_135 => ?_) (fun c_135 => ?_)
  · rw [if_pos c_135] at h
    exact Kj134  _ _ _ h hR hS (lv_sub hl [0, 1, 2, 3] rfl)
  · rw [if_neg c_135] at h
    refine lv_iload_n hx hb dX8_off_14 rfl (lv_at hl 3 rfl) ?_
    refine lv_iconst (v := 1) hx hb dX8_off_15 (by decide) ?_
    refine lv_icmp_ne (tgt := 23) hx hb dX8_off_16 (by decide) (fun c_136 => ?_) (fun c_136 => ?_)
    · rw [if_neg c_136] at h
      refine lv_iconst (v := 0) hx hb dX8_off_23 (by decide) ?_
      cases h
      exact Kj104 _ _ _ hR hS (lv_sub hl [0, 1, 2, 3] rfl)
    · rw [if_pos c_136] at h
      exact Kj134  _ _ _ h hR hS (lv_sub hl [0, 1, 2, 3] rfl)
set_option maxHeartbeats 4000000 in
set_option maxRecDepth 100000 in
theorem vX8_weigh {l : Launch} (hfl : l.stackTraces = false) {E : EV} {a : Nat → Nat → Nat} {u0 : HS} {x1 : Int32} {x2 : Int32} {out : (Nat × Int32 × HS)} (h : mX8_weigh u0 x1 x2 = some out) : CtX l E yX8_weigh cX8_weigh 4 (some .int) 7 111 2 12 a u0 [.ref (a 8 0), .int x1, .int x2] out.1 (some (.int out.2.1)) out.2.2 := by
  refine CtX.start (by decide) (Nat.le_of_ble_eq_true rfl) ?_
  intro p e s m args below meth c ls hT0 C hr hR hS hl
  have C : Cx E p s m args meth c cX8_weigh 4 RX8 := C
  have hl : lv_has ls 4 [(0, .ref (a 8 0)), (1, .int x1), (2, .int x2)] := hl
  have hx := C.1
  have hb := C.2.1
  unfold mX8_weigh at h
  refine lv_aload_n hx hb dX8_weigh_0 rfl (lv_at hl 0 rfl) ?_
  refine lv_iload_n hx hb dX8_weigh_1 rfl (lv_at hl 1 rfl) ?_
  obtain ⟨t101, hc101, h⟩ := ob h
  refine r_callXV (Qc := QX E a out.1 (some (.int out.2.1)) out.2.2) (mc0 := 2) (ms0 := 12) (As := [.int x1]) (rest := []) (r := 8) (i := 0) C hT0 (vX8_requireLaw hfl hc101) hR hS (lv0 (by decide) (by decide)) (by decide) ml_X8_229 mw_X8_requireLaw rfl ⟨Nat.le_of_ble_eq_true rfl, Nat.le_of_ble_eq_true rfl, Nat.le_of_ble_eq_true rfl, Nat.le_of_ble_eq_true rfl⟩ ⟨Nat.le_of_ble_eq_true rfl, Nat.le_of_ble_eq_true rfl⟩ hl.1 rfl (Nat.le_of_ble_eq_true rfl) dX8_weigh_2 (fun hk => ?_) (fun hk H locs hR hS => ?_)
  · rw [xq_ne hk] at h
    cases h
    exact fun _ q => q
  rw [xq_0 hk] at h
  refine lv_iload_n hx hb dX8_weigh_5 rfl (lv_at hl 2 rfl) ?_
  refine lv_iconst (v := 1) hx hb dX8_weigh_6 (by decide) ?_
  obtain ⟨x102, hz, h⟩ := ob h
  have Kj103 : ∀ (H : Heap) (locs : List Loc) (ls : Array Slot), Rel E a u0 H → va_S (AE E) s.heap H locs → lv_has ls 4 [(0, .ref (a 8 0)), (1, .int x1), (2, .int x2)] → W p l e { frames := 7, cells := 2, slots := 12, locals := 111 } s m args below meth c H locs 1 6 (vx_MQ below (QX E a out.1 (some (.int out.2.1)) out.2.2) (XW E a out.1 out.2.2) args s 2 12 (AE E)) (F0 m 21 ls [.int x102]) := by
    intro H locs ls hR hS hl
    clear hz
    obtain ⟨t104, hc104, h⟩ := ob h
    refine r_callXS (Qc := QX E a out.1 (some (.int out.2.1)) out.2.2) (mc0 := 2) (ms0 := 12) (As := [.int x102]) (rest := []) C hT0 (vX8_require hfl hc104) hR hS ml_X8_105 ms_X8_require rfl ⟨Nat.le_of_ble_eq_true rfl, Nat.le_of_ble_eq_true rfl, Nat.le_of_ble_eq_true rfl, Nat.le_of_ble_eq_true rfl⟩ ⟨Nat.le_of_ble_eq_true rfl, Nat.le_of_ble_eq_true rfl⟩ hl.1 rfl (Nat.le_of_ble_eq_true rfl) dX8_weigh_21 (fun hk => ?_) (fun hk H locs hR hS => ?_)
    · rw [xq_ne hk] at h
      cases h
      exact fun _ q => q
    rw [xq_0 hk] at h
    refine lv_aload_n hx hb dX8_weigh_24 rfl (lv_at hl 0 rfl) ?_
    refine r_get C hR 8 0 8 (v := .ref (a 0 0)) (lv0 (by decide) (by decide)) (by decide) (by decide) rfl fl_X8_56 dX8_weigh_25 ?_
    refine r_get C hR 0 0 15 (v := .ref (a 31 0)) (lv0 (by decide) (by decide)) (by decide) (by decide) rfl fl_X8_334 dX8_weigh_28 ?_
    refine lv_iload_n hx hb dX8_weigh_31 rfl (lv_at hl 1 rfl) ?_
    obtain ⟨k105, hk105, h⟩ := ob h
    refine r_ald C hR 31 0 (lv0 (by decide) (by decide)) (by decide) rfl (fun _ => rfl) rfl hk105 dX8_weigh_32 ?_
    refine lv_topi (fun x106 ex106 => ?_)
    replace h := bd_x ex106 h
    refine lv_istore_n (lv' := [(3, .int x106), (0, .ref (a 8 0)), (1, .int x1), (2, .int x2)]) hx hb dX8_weigh_33 rfl hl (by decide) rfl (fun ls hl => ?_)
    refine lv_aload_n hx hb dX8_weigh_34 rfl (lv_at hl 1 rfl) ?_
    refine r_get C hR 8 0 8 (v := .ref (a 0 0)) (lv0 (by decide) (by decide)) (by decide) (by decide) rfl fl_X8_56 dX8_weigh_35 ?_
    refine r_get C hR 0 0 15 (v := .ref (a 31 0)) (lv0 (by decide) (by decide)) (by decide) (by decide) rfl fl_X8_334 dX8_weigh_38 ?_
    refine lv_iload_n hx hb dX8_weigh_41 rfl (lv_at hl 2 rfl) ?_
    refine lv_iload_n hx hb dX8_weigh_42 rfl (lv_at hl 3 rfl) ?_
    obtain ⟨k107, hk107, h⟩ := ob h
    refine r_ast C hR hS 31 0 (lv0 (by decide) (by decide)) (by decide) rfl (fun _ _ => rfl) rfl hk107 dX8_weigh_43 (fun H locs hR hS => ?_)
    obtain ⟨u108, eu108⟩ : ∃ z : HS, z = wI u0 31 0 k107 x2 := ⟨_, rfl⟩
    rw [← eu108] at hR
    replace h := bd_x eu108 h
    clear eu108
    refine lv_iload_n hx hb dX8_weigh_44 rfl (lv_at hl 0 rfl) ?_
    cases h
    exact x_ret (e_iret C hr hR hS (Nat.le_of_ble_eq_true rfl) (Nat.le_of_ble_eq_true rfl) dX8_weigh_45)
  clear h
  have h := hz
  clear hz
  refine jp_cut h (fun j109 hj109 h => ?_)
  have Kj109 : ∀  (H : Heap) (locs : List Loc) (ls : Array Slot), j109 = some x102 → Rel E a u0 H → va_S (AE E) s.heap H locs → lv_has ls 4 [(0, .ref (a 8 0)), (1, .int x1), (2, .int x2)] → W p l e { frames := 7, cells := 2, slots := 12, locals := 111 } s m args below meth c H locs 1 6 (vx_MQ below (QX E a out.1 (some (.int out.2.1)) out.2.2) (XW E a out.1 out.2.2) args s 2 12 (AE E)) (F0 m 20 ls []) := by
    intro  H locs ls h hR hS hl
    replace h := jx0 hj109 h
    refine lv_iconst (v := 0) hx hb dX8_weigh_20 (by decide) ?_
    cases h
    exact Kj103 _ _ _ hR hS (lv_sub hl [0, 1, 2] rfl)
  refine lv_icmp_lt (tgt := 20) hx hb dX8_weigh_7 (by decide) (fun c_110 => ?_) (fun c_110 => ?_)
  · rw [if_pos c_110] at h
    exact Kj109  _ _ _ h hR hS (lv_sub hl [0, 1, 2] rfl)
  · rw [if_neg c_110] at h
    refine lv_iload_n hx hb dX8_weigh_10 rfl (lv_at hl 2 rfl) ?_
    refine lv_bipush (v := 9) hx hb dX8_weigh_11 (by decide) ?_
    refine lv_icmp_gt (tgt := 20) hx hb dX8_weigh_13 (by decide) (fun c_111 => ?_) (fun c_111 => ?_)
    · rw [if_pos c_111] at h
      exact Kj109  _ _ _ h hR hS (lv_sub hl [0, 1, 2] rfl)
    · rw [if_neg c_111] at h
      refine lv_iconst (v := 1) hx hb dX8_weigh_16 (by decide) ?_
      refine lv_goto (tgt := 21) hx hb dX8_weigh_17 (by decide) ?_
      cases h
      exact Kj103 _ _ _ hR hS (lv_sub hl [0, 1, 2] rfl)
set_option maxHeartbeats 4000000 in
set_option maxRecDepth 100000 in
theorem vX8_wrong {l : Launch} (hfl : l.stackTraces = false) {E : EV} {a : Nat → Nat → Nat} {u0 : HS} {x1 : Int32} {out : (Nat × Int32 × HS)} (h : mX8_wrong u0 x1 = some out) : CtX l E yX8_wrong cX8_wrong 3 (some .int) 7 110 1 6 a u0 [.ref (a 8 0), .int x1] out.1 (some (.int out.2.1)) out.2.2 := by
  refine CtX.start (by decide) (Nat.le_of_ble_eq_true rfl) ?_
  intro p e s m args below meth c ls hT0 C hr hR hS hl
  have C : Cx E p s m args meth c cX8_wrong 3 RX8 := C
  have hl : lv_has ls 3 [(0, .ref (a 8 0)), (1, .int x1)] := hl
  have hx := C.1
  have hb := C.2.1
  unfold mX8_wrong at h
  refine lv_iload_n hx hb dX8_wrong_0 rfl (lv_at hl 1 rfl) ?_
  refine lv_iconst (v := 1) hx hb dX8_wrong_1 (by decide) ?_
  obtain ⟨x101, hz, h⟩ := ob h
  have Kj102 : ∀ (H : Heap) (locs : List Loc) (ls : Array Slot), Rel E a u0 H → va_S (AE E) s.heap H locs → lv_has ls 3 [(0, .ref (a 8 0)), (1, .int x1)] → W p l e { frames := 7, cells := 1, slots := 6, locals := 110 } s m args below meth c H locs 0 0 (vx_MQ below (QX E a out.1 (some (.int out.2.1)) out.2.2) (XW E a out.1 out.2.2) args s 1 6 (AE E)) (F0 m 16 ls [.int x101]) := by
    intro H locs ls hR hS hl
    clear hz
    obtain ⟨t103, hc103, h⟩ := ob h
    refine r_callXS (Qc := QX E a out.1 (some (.int out.2.1)) out.2.2) (mc0 := 1) (ms0 := 6) (As := [.int x101]) (rest := []) C hT0 (vX8_require hfl hc103) hR hS ml_X8_105 ms_X8_require rfl ⟨Nat.le_of_ble_eq_true rfl, Nat.le_of_ble_eq_true rfl, Nat.le_of_ble_eq_true rfl, Nat.le_of_ble_eq_true rfl⟩ ⟨Nat.le_of_ble_eq_true rfl, Nat.le_of_ble_eq_true rfl⟩ hl.1 rfl (Nat.le_of_ble_eq_true rfl) dX8_wrong_16 (fun hk => ?_) (fun hk H locs hR hS => ?_)
    · rw [xq_ne hk] at h
      cases h
      exact fun _ q => q
    rw [xq_0 hk] at h
    refine lv_aload_n hx hb dX8_wrong_19 rfl (lv_at hl 0 rfl) ?_
    refine r_get C hR 8 0 8 (v := .ref (a 0 0)) (lv0 (by decide) (by decide)) (by decide) (by decide) rfl fl_X8_56 dX8_wrong_20 ?_
    refine r_get C hR 0 0 16 (v := .int (gI u0 0 0 16)) (lv0 (by decide) (by decide)) (by decide) (by decide) rfl fl_X8_337 dX8_wrong_23 ?_
    refine lv_topi (fun x104 ex104 => ?_)
    replace h := bd_x ex104 h
    refine lv_istore_n (lv' := [(2, .int x104), (0, .ref (a 8 0)), (1, .int x1)]) hx hb dX8_wrong_26 rfl hl (by decide) rfl (fun ls hl => ?_)
    refine lv_aload_n hx hb dX8_wrong_27 rfl (lv_at hl 1 rfl) ?_
    refine r_get C hR 8 0 8 (v := .ref (a 0 0)) (lv0 (by decide) (by decide)) (by decide) (by decide) rfl fl_X8_56 dX8_wrong_28 ?_
    refine lv_iload_n hx hb dX8_wrong_31 rfl (lv_at hl 2 rfl) ?_
    refine r_putI (ty := .int) C hR hS 0 0 16 (lv0 (by decide) (by decide)) (by decide) (by decide) (fun _ => rfl) fl_X8_337 (by decide) (by decide +kernel) rfl rfl dX8_wrong_32 (fun H locs hR hS => ?_)
    obtain ⟨u105, eu105⟩ : ∃ z : HS, z = wI u0 0 0 16 x1 := ⟨_, rfl⟩
    rw [← eu105] at hR
    replace h := bd_x eu105 h
    clear eu105
    refine lv_iload_n hx hb dX8_wrong_35 rfl (lv_at hl 0 rfl) ?_
    cases h
    exact x_ret (e_iret C hr hR hS (Nat.le_of_ble_eq_true rfl) (Nat.le_of_ble_eq_true rfl) dX8_wrong_36)
  clear h
  have h := hz
  clear hz
  refine jp_cut h (fun j106 hj106 h => ?_)
  have Kj106 : ∀  (H : Heap) (locs : List Loc) (ls : Array Slot), j106 = some x101 → Rel E a u0 H → va_S (AE E) s.heap H locs → lv_has ls 3 [(0, .ref (a 8 0)), (1, .int x1)] → W p l e { frames := 7, cells := 1, slots := 6, locals := 110 } s m args below meth c H locs 0 0 (vx_MQ below (QX E a out.1 (some (.int out.2.1)) out.2.2) (XW E a out.1 out.2.2) args s 1 6 (AE E)) (F0 m 15 ls []) := by
    intro  H locs ls h hR hS hl
    replace h := jx0 hj106 h
    refine lv_iconst (v := 0) hx hb dX8_wrong_15 (by decide) ?_
    cases h
    exact Kj102 _ _ _ hR hS (lv_sub hl [0, 1] rfl)
  refine lv_icmp_lt (tgt := 15) hx hb dX8_wrong_2 (by decide) (fun c_107 => ?_) (fun c_107 => ?_)
  · rw [if_pos c_107] at h
    exact Kj106  _ _ _ h hR hS (lv_sub hl [0, 1] rfl)
  · rw [if_neg c_107] at h
    refine lv_iload_n hx hb dX8_wrong_5 rfl (lv_at hl 1 rfl) ?_
    refine lv_bipush (v := 8) hx hb dX8_wrong_6 (by decide) ?_
    refine lv_icmp_gt (tgt := 15) hx hb dX8_wrong_8 (by decide) (fun c_108 => ?_) (fun c_108 => ?_)
    · rw [if_pos c_108] at h
      exact Kj106  _ _ _ h hR hS (lv_sub hl [0, 1] rfl)
    · rw [if_neg c_108] at h
      refine lv_iconst (v := 1) hx hb dX8_wrong_11 (by decide) ?_
      refine lv_goto (tgt := 16) hx hb dX8_wrong_12 (by decide) ?_
      cases h
      exact Kj102 _ _ _ hR hS (lv_sub hl [0, 1] rfl)
set_option maxHeartbeats 4000000 in
set_option maxRecDepth 100000 in
theorem vX8_odds {l : Launch} (hfl : l.stackTraces = false) {E : EV} {a : Nat → Nat → Nat} {u0 : HS} {x1 : Int32} {out : (Nat × Int64 × HS)} (h : mX8_odds u0 x1 = some out) : CtX l E yX8_odds cX8_odds 2 (some .long) 7 170 1 6 a u0 [.ref (a 8 0), .int x1] out.1 (some (.long out.2.1)) out.2.2 := by
  refine CtX.start (by decide) (Nat.le_of_ble_eq_true rfl) ?_
  intro p e s m args below meth c ls hT0 C hr hR hS hl
  have C : Cx E p s m args meth c cX8_odds 2 RX8 := C
  have hl : lv_has ls 2 [(0, .ref (a 8 0)), (1, .int x1)] := hl
  have hx := C.1
  have hb := C.2.1
  unfold mX8_odds at h
  refine lv_aload_n hx hb dX8_odds_0 rfl (lv_at hl 0 rfl) ?_
  refine lv_iload_n hx hb dX8_odds_1 rfl (lv_at hl 1 rfl) ?_
  obtain ⟨t101, hc101, h⟩ := ob h
  refine r_callXV (Qc := QX E a out.1 (some (.long out.2.1)) out.2.2) (mc0 := 1) (ms0 := 6) (As := [.int x1]) (rest := []) (r := 8) (i := 0) C hT0 (vX8_requireLaw hfl hc101) hR hS (lv0 (by decide) (by decide)) (by decide) ml_X8_229 mw_X8_requireLaw rfl ⟨Nat.le_of_ble_eq_true rfl, Nat.le_of_ble_eq_true rfl, Nat.le_of_ble_eq_true rfl, Nat.le_of_ble_eq_true rfl⟩ ⟨Nat.le_of_ble_eq_true rfl, Nat.le_of_ble_eq_true rfl⟩ hl.1 rfl (Nat.le_of_ble_eq_true rfl) dX8_odds_2 (fun hk => ?_) (fun hk H locs hR hS => ?_)
  · rw [xq_ne hk] at h
    cases h
    exact fun _ q => q
  rw [xq_0 hk] at h
  refine lv_aload_n hx hb dX8_odds_5 rfl (lv_at hl 0 rfl) ?_
  refine lv_iload_n hx hb dX8_odds_6 rfl (lv_at hl 1 rfl) ?_
  obtain ⟨⟨y103, u104⟩, hc102, h⟩ := ob h
  replace h := bd_x (x := y103) rfl h
  replace h := bd_x (x := u104) rfl h
  refine r_callV1 (As := [.int x1]) (rest := []) (r := 8) (i := 0) C (vX8_oddsOf hc102) hR hS (lv0 (by decide) (by decide)) (by decide) ml_X8_340 mw_X8_oddsOf rfl ⟨Nat.le_of_ble_eq_true rfl, Nat.le_of_ble_eq_true rfl, Nat.le_of_ble_eq_true rfl, Nat.le_of_ble_eq_true rfl⟩ hl.1 rfl (Nat.le_of_ble_eq_true rfl) dX8_odds_7 (fun H locs hR hS => ?_)
  cases h
  exact x_ret (e_lret C hr hR hS (Nat.le_of_ble_eq_true rfl) (Nat.le_of_ble_eq_true rfl) dX8_odds_10)
set_option maxHeartbeats 4000000 in
set_option maxRecDepth 100000 in
theorem vX8_fits {l : Launch} (hfl : l.stackTraces = false) {E : EV} {a : Nat → Nat → Nat} {u0 : HS} {x1 : Int32} {out : (Nat × Int32 × HS)} (h : mX8_fits u0 x1 = some out) : CtX l E yX8_fits cX8_fits 2 (some .int) 7 170 1 6 a u0 [.ref (a 8 0), .int x1] out.1 (some (.int out.2.1)) out.2.2 := by
  refine CtX.start (by decide) (Nat.le_of_ble_eq_true rfl) ?_
  intro p e s m args below meth c ls hT0 C hr hR hS hl
  have C : Cx E p s m args meth c cX8_fits 2 RX8 := C
  have hl : lv_has ls 2 [(0, .ref (a 8 0)), (1, .int x1)] := hl
  have hx := C.1
  have hb := C.2.1
  unfold mX8_fits at h
  refine lv_iload_n hx hb dX8_fits_0 rfl (lv_at hl 1 rfl) ?_
  obtain ⟨x102, hc101, h⟩ := ob h
  refine r_callS1 (As := [.int x1]) (rest := []) C (vX8_isFit hc101) hR hS ml_X8_344 ms_X8_isFit rfl ⟨Nat.le_of_ble_eq_true rfl, Nat.le_of_ble_eq_true rfl, Nat.le_of_ble_eq_true rfl, Nat.le_of_ble_eq_true rfl⟩ hl.1 rfl (Nat.le_of_ble_eq_true rfl) dX8_fits_1 (fun H locs hR hS => ?_)
  obtain ⟨t103, hc103, h⟩ := ob h
  refine r_callXS (Qc := QX E a out.1 (some (.int out.2.1)) out.2.2) (mc0 := 1) (ms0 := 6) (As := [.int x102]) (rest := []) C hT0 (vX8_require hfl hc103) hR hS ml_X8_105 ms_X8_require rfl ⟨Nat.le_of_ble_eq_true rfl, Nat.le_of_ble_eq_true rfl, Nat.le_of_ble_eq_true rfl, Nat.le_of_ble_eq_true rfl⟩ ⟨Nat.le_of_ble_eq_true rfl, Nat.le_of_ble_eq_true rfl⟩ hl.1 rfl (Nat.le_of_ble_eq_true rfl) dX8_fits_4 (fun hk => ?_) (fun hk H locs hR hS => ?_)
  · rw [xq_ne hk] at h
    cases h
    exact fun _ q => q
  rw [xq_0 hk] at h
  refine lv_aload_n hx hb dX8_fits_7 rfl (lv_at hl 0 rfl) ?_
  refine lv_iload_n hx hb dX8_fits_8 rfl (lv_at hl 1 rfl) ?_
  obtain ⟨⟨x105, u106⟩, hc104, h⟩ := ob h
  replace h := bd_x (x := x105) rfl h
  replace h := bd_x (x := u106) rfl h
  refine r_callV1 (As := [.int x1]) (rest := []) (r := 8) (i := 0) C (vX8_fitting hc104) hR hS (lv0 (by decide) (by decide)) (by decide) ml_X8_347 mw_X8_fitting rfl ⟨Nat.le_of_ble_eq_true rfl, Nat.le_of_ble_eq_true rfl, Nat.le_of_ble_eq_true rfl, Nat.le_of_ble_eq_true rfl⟩ hl.1 rfl (Nat.le_of_ble_eq_true rfl) dX8_fits_9 (fun H locs hR hS => ?_)
  cases h
  exact x_ret (e_iret C hr hR hS (Nat.le_of_ble_eq_true rfl) (Nat.le_of_ble_eq_true rfl) dX8_fits_12)
set_option maxHeartbeats 4000000 in
set_option maxRecDepth 100000 in
theorem vX8_knowing {l : Launch} (hfl : l.stackTraces = false) {E : EV} {a : Nat → Nat → Nat} {u0 : HS} {x1 : Int32} {x2 : Int32} {out : (Nat × Int32 × HS)} (h : mX8_knowing u0 x1 x2 = some out) : CtX l E yX8_knowing cX8_knowing 5 (some .int) 7 145 2 12 a u0 [.ref (a 8 0), .int x1, .int x2] out.1 (some (.int out.2.1)) out.2.2 := by
  refine CtX.start (by decide) (Nat.le_of_ble_eq_true rfl) ?_
  intro p e s m args below meth c ls hT0 C hr hR hS hl
  have C : Cx E p s m args meth c cX8_knowing 5 RX8 := C
  have hl : lv_has ls 5 [(0, .ref (a 8 0)), (1, .int x1), (2, .int x2)] := hl
  have hx := C.1
  have hb := C.2.1
  unfold mX8_knowing at h
  refine lv_aload_n hx hb dX8_knowing_0 rfl (lv_at hl 0 rfl) ?_
  refine lv_iload_n hx hb dX8_knowing_1 rfl (lv_at hl 1 rfl) ?_
  obtain ⟨t101, hc101, h⟩ := ob h
  refine r_callXV (Qc := QX E a out.1 (some (.int out.2.1)) out.2.2) (mc0 := 2) (ms0 := 12) (As := [.int x1]) (rest := []) (r := 8) (i := 0) C hT0 (vX8_requireLaw hfl hc101) hR hS (lv0 (by decide) (by decide)) (by decide) ml_X8_229 mw_X8_requireLaw rfl ⟨Nat.le_of_ble_eq_true rfl, Nat.le_of_ble_eq_true rfl, Nat.le_of_ble_eq_true rfl, Nat.le_of_ble_eq_true rfl⟩ ⟨Nat.le_of_ble_eq_true rfl, Nat.le_of_ble_eq_true rfl⟩ hl.1 rfl (Nat.le_of_ble_eq_true rfl) dX8_knowing_2 (fun hk => ?_) (fun hk H locs hR hS => ?_)
  · rw [xq_ne hk] at h
    cases h
    exact fun _ q => q
  rw [xq_0 hk] at h
  refine lv_iload_n hx hb dX8_knowing_5 rfl (lv_at hl 2 rfl) ?_
  obtain ⟨x102, hz, h⟩ := ob h
  have Kj103 : ∀ (H : Heap) (locs : List Loc) (ls : Array Slot), Rel E a u0 H → va_S (AE E) s.heap H locs → lv_has ls 5 [(0, .ref (a 8 0)), (1, .int x1), (2, .int x2)] → W p l e { frames := 7, cells := 2, slots := 12, locals := 145 } s m args below meth c H locs 1 6 (vx_MQ below (QX E a out.1 (some (.int out.2.1)) out.2.2) (XW E a out.1 out.2.2) args s 2 12 (AE E)) (F0 m 19 ls [.int x102]) := by
    intro H locs ls hR hS hl
    clear hz
    obtain ⟨t104, hc104, h⟩ := ob h
    refine r_callXS (Qc := QX E a out.1 (some (.int out.2.1)) out.2.2) (mc0 := 2) (ms0 := 12) (As := [.int x102]) (rest := []) C hT0 (vX8_require hfl hc104) hR hS ml_X8_105 ms_X8_require rfl ⟨Nat.le_of_ble_eq_true rfl, Nat.le_of_ble_eq_true rfl, Nat.le_of_ble_eq_true rfl, Nat.le_of_ble_eq_true rfl⟩ ⟨Nat.le_of_ble_eq_true rfl, Nat.le_of_ble_eq_true rfl⟩ hl.1 rfl (Nat.le_of_ble_eq_true rfl) dX8_knowing_19 (fun hk => ?_) (fun hk H locs hR hS => ?_)
    · rw [xq_ne hk] at h
      cases h
      exact fun _ q => q
    rw [xq_0 hk] at h
    refine lv_iconst (v := 0) hx hb dX8_knowing_22 (by decide) ?_
    refine lv_istore_n (lv' := [(3, .int 0), (0, .ref (a 8 0)), (1, .int x1), (2, .int x2)]) hx hb dX8_knowing_23 rfl hl (by decide) rfl (fun ls hl => ?_)
    refine lv_iconst (v := 0) hx hb dX8_knowing_24 (by decide) ?_
    refine lv_istore (lv' := [(4, .int 0), (3, .int 0), (0, .ref (a 8 0)), (1, .int x1), (2, .int x2)]) hx hb dX8_knowing_25 hl (by decide) rfl (fun ls hl => ?_)
    refine jp_cut h (fun w110 hw110 h => ?_)
    have Kw110 : ∀ (x108 : Int32) (u109 : HS) (H : Heap) (locs : List Loc) (ls : Array Slot), w110 x108 u109 = some out → Rel E a u109 H → va_S (AE E) s.heap H locs → lv_has ls 5 [(3, .int x108)] → W p l e { frames := 7, cells := 2, slots := 12, locals := 145 } s m args below meth c H locs 2 12 (vx_MQ below (QX E a out.1 (some (.int out.2.1)) out.2.2) (XW E a out.1 out.2.2) args s 2 12 (AE E)) (F0 m 94 ls []) := by
      intro x108 u109 H locs ls h hR hS hl
      replace h := jx2 hw110 h
      refine lv_iload_n hx hb dX8_knowing_94 rfl (lv_at hl 0 rfl) ?_
      cases h
      exact x_ret (e_iret C hr hR hS (Nat.le_of_ble_eq_true rfl) (Nat.le_of_ble_eq_true rfl) dX8_knowing_95)
    have LP : ∀ (fu : Nat) (x105 : Int32) (x106 : Int32) (u107 : HS) (H : Heap) (locs : List Loc) (ls : Array Slot), mX8_knowing_L27 x2 x1 w110 fu x105 x106 u107 = some out → Rel E a u107 H → va_S (AE E) s.heap H locs → lv_has ls 5 [(0, .ref (a 8 0)), (1, .int x1), (2, .int x2), (3, .int x105), (4, .int x106)] → W p l e { frames := 7, cells := 2, slots := 12, locals := 145 } s m args below meth c H locs 2 12 (vx_MQ below (QX E a out.1 (some (.int out.2.1)) out.2.2) (XW E a out.1 out.2.2) args s 2 12 (AE E)) (F0 m 27 ls []) := by
      intro fu
      induction fu with
      | zero =>
        intro x105 x106 u107 H locs ls h
        have h2 : (none : Option (Nat × Int32 × HS)) = some out := h
        cases h2
      | succ fu ih =>
        intro x105 x106 u107 H locs ls h hR hS hl
        rw [mX8_knowing_L27.eq_2] at h
        refine lv_iload hx hb dX8_knowing_27 (lv_at hl 4 rfl) ?_
        refine lv_aload_n hx hb dX8_knowing_29 rfl (lv_at hl 0 rfl) ?_
        refine r_get C hR 8 0 8 (v := .ref (a 0 0)) (lv0 (by decide) (by decide)) (by decide) (by decide) rfl fl_X8_56 dX8_knowing_30 ?_
        refine r_get C hR 0 0 0 (v := .int (gI u107 0 0 0)) (lv0 (by decide) (by decide)) (by decide) (by decide) rfl fl_X8_268 dX8_knowing_33 ?_
        refine lv_icmp_ge (tgt := 94) hx hb dX8_knowing_36 (by decide) (fun c_111 => ?_) (fun c_111 => ?_)
        · rw [if_pos c_111] at h
          exact Kw110 _ _ _ _ _ h hR hS (lv_sub hl [3] rfl)
        · rw [if_neg c_111] at h
          refine lv_aload_n hx hb dX8_knowing_39 rfl (lv_at hl 0 rfl) ?_
          refine r_get C hR 8 0 8 (v := .ref (a 0 0)) (lv0 (by decide) (by decide)) (by decide) (by decide) rfl fl_X8_56 dX8_knowing_40 ?_
          refine lv_iload hx hb dX8_knowing_43 (lv_at hl 4 rfl) ?_
          obtain ⟨x113, hc112, h⟩ := ob h
          refine r_callV1 (As := [.int x106]) (rest := []) (r := 0) (i := 0) C (vX0_isKnowing (by decide) hc112) hR hS (lv0 (by decide) (by decide)) (by decide) ml_X8_256 mw_X0_isKnowing rfl ⟨Nat.le_of_ble_eq_true rfl, Nat.le_of_ble_eq_true rfl, Nat.le_of_ble_eq_true rfl, Nat.le_of_ble_eq_true rfl⟩ hl.1 rfl (Nat.le_of_ble_eq_true rfl) dX8_knowing_45 (fun H locs hR hS => ?_)
          refine jp_cut h (fun j116 hj116 h => ?_)
          have Kj116 : ∀ (x114 : Int32) (u115 : HS) (H : Heap) (locs : List Loc) (ls : Array Slot), j116 x114 u115 = some out → Rel E a u115 H → va_S (AE E) s.heap H locs → lv_has ls 5 [(0, .ref (a 8 0)), (1, .int x1), (2, .int x2), (3, .int x114), (4, .int x106)] → W p l e { frames := 7, cells := 2, slots := 12, locals := 145 } s m args below meth c H locs 2 12 (vx_MQ below (QX E a out.1 (some (.int out.2.1)) out.2.2) (XW E a out.1 out.2.2) args s 2 12 (AE E)) (F0 m 88 ls []) := by
            intro x114 u115 H locs ls h hR hS hl
            replace h := jx2 hj116 h
            obtain ⟨x117, ex117⟩ : ∃ z : Int32, z = x106 + 1 := ⟨_, rfl⟩
            replace h := bd_x ex117 h
            refine lv_iinc (v := x117) (lv' := [(4, .int x117), (0, .ref (a 8 0)), (1, .int x1), (2, .int x2), (3, .int x114)]) hx hb dX8_knowing_88 hl (k := 4) rfl (by rw [ex117]; rfl) (by decide) rfl (fun ls hl => ?_)
            refine lv_goto (tgt := 27) hx hb dX8_knowing_91 (by decide) ?_
            exact ih _ _ _ _ _ _ h hR hS (lv_sub hl [1, 2, 3, 4, 0] rfl)
          refine lv_if_eq (tgt := 88) hx hb dX8_knowing_48 (by decide) (fun c_118 => ?_) (fun c_118 => ?_)
          · rw [if_pos c_118] at h
            exact Kj116 _ _ _ _ _ h hR hS (lv_sub hl [0, 1, 2, 3, 4] rfl)
          · rw [if_neg c_118] at h
            refine lv_iload_n hx hb dX8_knowing_51 rfl (lv_at hl 2 rfl) ?_
            refine jp_cut h (fun j120 hj120 h => ?_)
            have Kj120 : ∀ (u119 : HS) (H : Heap) (locs : List Loc) (ls : Array Slot), j120 u119 = some out → Rel E a u119 H → va_S (AE E) s.heap H locs → lv_has ls 5 [(0, .ref (a 8 0)), (1, .int x1), (2, .int x2), (3, .int x105), (4, .int x106)] → W p l e { frames := 7, cells := 2, slots := 12, locals := 145 } s m args below meth c H locs 2 12 (vx_MQ below (QX E a out.1 (some (.int out.2.1)) out.2.2) (XW E a out.1 out.2.2) args s 2 12 (AE E)) (F0 m 69 ls []) := by
              intro u119 H locs ls h hR hS hl
              replace h := jx1 hj120 h
              refine lv_iload_n hx hb dX8_knowing_69 rfl (lv_at hl 2 rfl) ?_
              refine lv_iconst (v := 2) hx hb dX8_knowing_70 (by decide) ?_
              refine jp_cut h (fun j122 hj122 h => ?_)
              have Kj122 : ∀ (u121 : HS) (H : Heap) (locs : List Loc) (ls : Array Slot), j122 u121 = some out → Rel E a u121 H → va_S (AE E) s.heap H locs → lv_has ls 5 [(0, .ref (a 8 0)), (1, .int x1), (2, .int x2), (3, .int x105), (4, .int x106)] → W p l e { frames := 7, cells := 2, slots := 12, locals := 145 } s m args below meth c H locs 2 12 (vx_MQ below (QX E a out.1 (some (.int out.2.1)) out.2.2) (XW E a out.1 out.2.2) args s 2 12 (AE E)) (F0 m 85 ls []) := by
                intro u121 H locs ls h hR hS hl
                replace h := jx1 hj122 h
                obtain ⟨x123, ex123⟩ : ∃ z : Int32, z = x105 + 1 := ⟨_, rfl⟩
                replace h := bd_x ex123 h
                refine lv_iinc (v := x123) (lv' := [(3, .int x123), (0, .ref (a 8 0)), (1, .int x1), (2, .int x2), (4, .int x106)]) hx hb dX8_knowing_85 hl (k := 3) rfl (by rw [ex123]; rfl) (by decide) rfl (fun ls hl => ?_)
                exact Kj116 _ _ _ _ _ h hR hS (lv_sub hl [1, 2, 3, 0, 4] rfl)
              refine lv_icmp_lt (tgt := 85) hx hb dX8_knowing_71 (by decide) (fun c_124 => ?_) (fun c_124 => ?_)
              · rw [if_pos c_124] at h
                exact Kj122 _ _ _ _ h hR hS (lv_sub hl [0, 1, 2, 3, 4] rfl)
              · rw [if_neg c_124] at h
                refine lv_aload_n hx hb dX8_knowing_74 rfl (lv_at hl 0 rfl) ?_
                refine lv_iload_n hx hb dX8_knowing_75 rfl (lv_at hl 1 rfl) ?_
                refine lv_iload hx hb dX8_knowing_76 (lv_at hl 4 rfl) ?_
                obtain ⟨⟨x126, u127⟩, hc125, h⟩ := ob h
                replace h := bd_x (x := x126) rfl h
                replace h := bd_x (x := u127) rfl h
                refine r_callV1 (As := [.int x1, .int x106]) (rest := []) (r := 8) (i := 0) C (vX8_changeSeen hc125) hR hS (lv0 (by decide) (by decide)) (by decide) ml_X8_265 mw_X8_changeSeen rfl ⟨Nat.le_of_ble_eq_true rfl, Nat.le_of_ble_eq_true rfl, Nat.le_of_ble_eq_true rfl, Nat.le_of_ble_eq_true rfl⟩ hl.1 rfl (Nat.le_of_ble_eq_true rfl) dX8_knowing_78 (fun H locs hR hS => ?_)
                refine lv_iconst (v := (-1)) hx hb dX8_knowing_81 (by decide) ?_
                refine lv_icmp_ne (tgt := 88) hx hb dX8_knowing_82 (by decide) (fun c_128 => ?_) (fun c_128 => ?_)
                · rw [if_neg c_128] at h
                  exact Kj116 _ _ _ _ _ h hR hS (lv_sub hl [0, 1, 2, 3, 4] rfl)
                · rw [if_pos c_128] at h
                  exact Kj122 _ _ _ _ h hR hS (lv_sub hl [0, 1, 2, 3, 4] rfl)
            refine lv_if_eq (tgt := 69) hx hb dX8_knowing_52 (by decide) (fun c_129 => ?_) (fun c_129 => ?_)
            · rw [if_pos c_129] at h
              exact Kj120 _ _ _ _ h hR hS (lv_sub hl [0, 1, 2, 3, 4] rfl)
            · rw [if_neg c_129] at h
              refine lv_aload_n hx hb dX8_knowing_55 rfl (lv_at hl 0 rfl) ?_
              refine lv_iload_n hx hb dX8_knowing_56 rfl (lv_at hl 1 rfl) ?_
              refine lv_iload hx hb dX8_knowing_57 (lv_at hl 4 rfl) ?_
              obtain ⟨⟨x131, u132⟩, hc130, h⟩ := ob h
              replace h := bd_x (x := x131) rfl h
              replace h := bd_x (x := u132) rfl h
              refine r_callV1 (As := [.int x1, .int x106]) (rest := []) (r := 8) (i := 0) C (vX8_stateOf hc130) hR hS (lv0 (by decide) (by decide)) (by decide) ml_X8_250 mw_X8_stateOf rfl ⟨Nat.le_of_ble_eq_true rfl, Nat.le_of_ble_eq_true rfl, Nat.le_of_ble_eq_true rfl, Nat.le_of_ble_eq_true rfl⟩ hl.1 rfl (Nat.le_of_ble_eq_true rfl) dX8_knowing_59 (fun H locs hR hS => ?_)
              refine lv_iconst (v := 0) hx hb dX8_knowing_62 (by decide) ?_
              obtain ⟨x134, hc133, h⟩ := ob h
              refine r_callS1 (As := [.int x131, .int 0]) (rest := []) C (vX8_isYes hc133) hR hS ml_X8_253 ms_X8_isYes rfl ⟨Nat.le_of_ble_eq_true rfl, Nat.le_of_ble_eq_true rfl, Nat.le_of_ble_eq_true rfl, Nat.le_of_ble_eq_true rfl⟩ hl.1 rfl (Nat.le_of_ble_eq_true rfl) dX8_knowing_63 (fun H locs hR hS => ?_)
              refine lv_if_eq (tgt := 88) hx hb dX8_knowing_66 (by decide) (fun c_135 => ?_) (fun c_135 => ?_)
              · rw [if_pos c_135] at h
                exact Kj116 _ _ _ _ _ h hR hS (lv_sub hl [0, 1, 2, 3, 4] rfl)
              · rw [if_neg c_135] at h
                exact Kj120 _ _ _ _ h hR hS (lv_sub hl [0, 1, 2, 3, 4] rfl)
    exact LP FU _ _ _ _ _ _ h hR hS (lv_sub hl [2, 3, 4, 1, 0] rfl)
  clear h
  have h := hz
  clear hz
  refine jp_cut h (fun j136 hj136 h => ?_)
  have Kj136 : ∀  (H : Heap) (locs : List Loc) (ls : Array Slot), j136 = some x102 → Rel E a u0 H → va_S (AE E) s.heap H locs → lv_has ls 5 [(0, .ref (a 8 0)), (1, .int x1), (2, .int x2)] → W p l e { frames := 7, cells := 2, slots := 12, locals := 145 } s m args below meth c H locs 1 6 (vx_MQ below (QX E a out.1 (some (.int out.2.1)) out.2.2) (XW E a out.1 out.2.2) args s 2 12 (AE E)) (F0 m 18 ls []) := by
    intro  H locs ls h hR hS hl
    replace h := jx0 hj136 h
    refine lv_iconst (v := 0) hx hb dX8_knowing_18 (by decide) ?_
    cases h
    exact Kj103 _ _ _ hR hS (lv_sub hl [0, 1, 2] rfl)
  refine lv_if_lt (tgt := 18) hx hb dX8_knowing_6 (by decide) (fun c_137 => ?_) (fun c_137 => ?_)
  · rw [if_pos c_137] at h
    exact Kj136  _ _ _ h hR hS (lv_sub hl [0, 1, 2] rfl)
  · rw [if_neg c_137] at h
    refine lv_iload_n hx hb dX8_knowing_9 rfl (lv_at hl 2 rfl) ?_
    refine lv_iconst (v := 2) hx hb dX8_knowing_10 (by decide) ?_
    refine lv_icmp_gt (tgt := 18) hx hb dX8_knowing_11 (by decide) (fun c_138 => ?_) (fun c_138 => ?_)
    · rw [if_pos c_138] at h
      exact Kj136  _ _ _ h hR hS (lv_sub hl [0, 1, 2] rfl)
    · rw [if_neg c_138] at h
      refine lv_iconst (v := 1) hx hb dX8_knowing_14 (by decide) ?_
      refine lv_goto (tgt := 19) hx hb dX8_knowing_15 (by decide) ?_
      cases h
      exact Kj103 _ _ _ hR hS (lv_sub hl [0, 1, 2] rfl)
set_option maxHeartbeats 4000000 in
set_option maxRecDepth 100000 in
theorem vX8_crossing {l : Launch} (hfl : l.stackTraces = false) {E : EV} {a : Nat → Nat → Nat} {u0 : HS} {x1 : Int32} {x2 : Int32} {x3 : Int32} {x4 : Int32} {out : (Nat × Int32 × HS)} (h : mX8_crossing u0 x1 x2 x3 x4 = some out) : CtX l E yX8_crossing cX8_crossing 8 (some .int) 7 170 3 18 a u0 [.ref (a 8 0), .int x1, .int x2, .int x3, .int x4] out.1 (some (.int out.2.1)) out.2.2 := by
  refine CtX.start (by decide) (Nat.le_of_ble_eq_true rfl) ?_
  intro p e s m args below meth c ls hT0 C hr hR hS hl
  have C : Cx E p s m args meth c cX8_crossing 8 RX8 := C
  have hl : lv_has ls 8 [(0, .ref (a 8 0)), (1, .int x1), (2, .int x2), (3, .int x3), (4, .int x4)] := hl
  have hx := C.1
  have hb := C.2.1
  unfold mX8_crossing at h
  refine lv_aload_n hx hb dX8_crossing_0 rfl (lv_at hl 0 rfl) ?_
  refine lv_iload_n hx hb dX8_crossing_1 rfl (lv_at hl 1 rfl) ?_
  obtain ⟨t101, hc101, h⟩ := ob h
  refine r_callXV (Qc := QX E a out.1 (some (.int out.2.1)) out.2.2) (mc0 := 3) (ms0 := 18) (As := [.int x1]) (rest := []) (r := 8) (i := 0) C hT0 (vX8_requireScene hfl hc101) hR hS (lv0 (by decide) (by decide)) (by decide) ml_X8_128 mw_X8_requireScene rfl ⟨Nat.le_of_ble_eq_true rfl, Nat.le_of_ble_eq_true rfl, Nat.le_of_ble_eq_true rfl, Nat.le_of_ble_eq_true rfl⟩ ⟨Nat.le_of_ble_eq_true rfl, Nat.le_of_ble_eq_true rfl⟩ hl.1 rfl (Nat.le_of_ble_eq_true rfl) dX8_crossing_2 (fun hk => ?_) (fun hk H locs hR hS => ?_)
  · rw [xq_ne hk] at h
    cases h
    exact fun _ q => q
  rw [xq_0 hk] at h
  refine lv_aload_n hx hb dX8_crossing_5 rfl (lv_at hl 0 rfl) ?_
  refine lv_iload_n hx hb dX8_crossing_6 rfl (lv_at hl 2 rfl) ?_
  obtain ⟨t102, hc102, h⟩ := ob h
  refine r_callXV (Qc := QX E a out.1 (some (.int out.2.1)) out.2.2) (mc0 := 3) (ms0 := 18) (As := [.int x2]) (rest := []) (r := 8) (i := 0) C hT0 (vX8_requireTask hfl hc102) hR hS (lv0 (by decide) (by decide)) (by decide) ml_X8_170 mw_X8_requireTask rfl ⟨Nat.le_of_ble_eq_true rfl, Nat.le_of_ble_eq_true rfl, Nat.le_of_ble_eq_true rfl, Nat.le_of_ble_eq_true rfl⟩ ⟨Nat.le_of_ble_eq_true rfl, Nat.le_of_ble_eq_true rfl⟩ hl.1 rfl (Nat.le_of_ble_eq_true rfl) dX8_crossing_7 (fun hk => ?_) (fun hk H locs hR hS => ?_)
  · rw [xq_ne hk] at h
    cases h
    exact fun _ q => q
  rw [xq_0 hk] at h
  refine lv_iload_n hx hb dX8_crossing_10 rfl (lv_at hl 3 rfl) ?_
  obtain ⟨x104, hc103, h⟩ := ob h
  refine r_callS1 (As := [.int x3]) (rest := []) C (vX8_isAsking hc103) hR hS ml_X8_247 ms_X8_isAsking rfl ⟨Nat.le_of_ble_eq_true rfl, Nat.le_of_ble_eq_true rfl, Nat.le_of_ble_eq_true rfl, Nat.le_of_ble_eq_true rfl⟩ hl.1 rfl (Nat.le_of_ble_eq_true rfl) dX8_crossing_11 (fun H locs hR hS => ?_)
  obtain ⟨x105, hz, h⟩ := ob h
  have Kj106 : ∀ (H : Heap) (locs : List Loc) (ls : Array Slot), Rel E a u0 H → va_S (AE E) s.heap H locs → lv_has ls 8 [(0, .ref (a 8 0)), (1, .int x1), (2, .int x2), (3, .int x3), (4, .int x4)] → W p l e { frames := 7, cells := 3, slots := 18, locals := 170 } s m args below meth c H locs 2 12 (vx_MQ below (QX E a out.1 (some (.int out.2.1)) out.2.2) (XW E a out.1 out.2.2) args s 3 18 (AE E)) (F0 m 30 ls [.int x105]) := by
    intro H locs ls hR hS hl
    clear hz
    obtain ⟨t107, hc107, h⟩ := ob h
    refine r_callXS (Qc := QX E a out.1 (some (.int out.2.1)) out.2.2) (mc0 := 3) (ms0 := 18) (As := [.int x105]) (rest := []) C hT0 (vX8_require hfl hc107) hR hS ml_X8_105 ms_X8_require rfl ⟨Nat.le_of_ble_eq_true rfl, Nat.le_of_ble_eq_true rfl, Nat.le_of_ble_eq_true rfl, Nat.le_of_ble_eq_true rfl⟩ ⟨Nat.le_of_ble_eq_true rfl, Nat.le_of_ble_eq_true rfl⟩ hl.1 rfl (Nat.le_of_ble_eq_true rfl) dX8_crossing_30 (fun hk => ?_) (fun hk H locs hR hS => ?_)
    · rw [xq_ne hk] at h
      cases h
      exact fun _ q => q
    rw [xq_0 hk] at h
    refine lv_aload_n hx hb dX8_crossing_33 rfl (lv_at hl 0 rfl) ?_
    refine lv_iload hx hb dX8_crossing_34 (lv_at hl 4 rfl) ?_
    obtain ⟨⟨x109, u110⟩, hc108, h⟩ := ob h
    replace h := bd_x (x := x109) rfl h
    replace h := bd_x (x := u110) rfl h
    refine r_callV1 (As := [.int x4]) (rest := []) (r := 8) (i := 0) C (vX8_fitting hc108) hR hS (lv0 (by decide) (by decide)) (by decide) ml_X8_347 mw_X8_fitting rfl ⟨Nat.le_of_ble_eq_true rfl, Nat.le_of_ble_eq_true rfl, Nat.le_of_ble_eq_true rfl, Nat.le_of_ble_eq_true rfl⟩ hl.1 rfl (Nat.le_of_ble_eq_true rfl) dX8_crossing_36 (fun H locs hR hS => ?_)
    refine lv_istore (lv' := [(5, .int x109), (0, .ref (a 8 0)), (1, .int x1), (2, .int x2), (3, .int x3), (4, .int x4)]) hx hb dX8_crossing_39 hl (by decide) rfl (fun ls hl => ?_)
    refine lv_iconst (v := 0) hx hb dX8_crossing_41 (by decide) ?_
    refine lv_istore (lv' := [(6, .int 0), (5, .int x109), (0, .ref (a 8 0)), (1, .int x1), (2, .int x2), (3, .int x3), (4, .int x4)]) hx hb dX8_crossing_42 hl (by decide) rfl (fun ls hl => ?_)
    refine lv_iconst (v := 0) hx hb dX8_crossing_44 (by decide) ?_
    refine lv_istore (lv' := [(7, .int 0), (6, .int 0), (5, .int x109), (0, .ref (a 8 0)), (1, .int x1), (2, .int x2), (3, .int x3), (4, .int x4)]) hx hb dX8_crossing_45 hl (by decide) rfl (fun ls hl => ?_)
    refine jp_cut h (fun w116 hw116 h => ?_)
    have Kw116 : ∀ (x114 : Int32) (u115 : HS) (H : Heap) (locs : List Loc) (ls : Array Slot), w116 x114 u115 = some out → Rel E a u115 H → va_S (AE E) s.heap H locs → lv_has ls 8 [(6, .int x114)] → W p l e { frames := 7, cells := 3, slots := 18, locals := 170 } s m args below meth c H locs 3 18 (vx_MQ below (QX E a out.1 (some (.int out.2.1)) out.2.2) (XW E a out.1 out.2.2) args s 3 18 (AE E)) (F0 m 97 ls []) := by
      intro x114 u115 H locs ls h hR hS hl
      replace h := jx2 hw116 h
      refine lv_iload hx hb dX8_crossing_97 (lv_at hl 0 rfl) ?_
      cases h
      exact x_ret (e_iret C hr hR hS (Nat.le_of_ble_eq_true rfl) (Nat.le_of_ble_eq_true rfl) dX8_crossing_99)
    have LP : ∀ (fu : Nat) (x111 : Int32) (x112 : Int32) (u113 : HS) (H : Heap) (locs : List Loc) (ls : Array Slot), mX8_crossing_L47 x109 x1 x2 x3 w116 fu x111 x112 u113 = some out → Rel E a u113 H → va_S (AE E) s.heap H locs → lv_has ls 8 [(0, .ref (a 8 0)), (1, .int x1), (2, .int x2), (3, .int x3), (5, .int x109), (6, .int x111), (7, .int x112)] → W p l e { frames := 7, cells := 3, slots := 18, locals := 170 } s m args below meth c H locs 3 18 (vx_MQ below (QX E a out.1 (some (.int out.2.1)) out.2.2) (XW E a out.1 out.2.2) args s 3 18 (AE E)) (F0 m 47 ls []) := by
      intro fu
      induction fu with
      | zero =>
        intro x111 x112 u113 H locs ls h
        have h2 : (none : Option (Nat × Int32 × HS)) = some out := h
        cases h2
      | succ fu ih =>
        intro x111 x112 u113 H locs ls h hR hS hl
        rw [mX8_crossing_L47.eq_2] at h
        refine lv_iload hx hb dX8_crossing_47 (lv_at hl 6 rfl) ?_
        refine lv_aload_n hx hb dX8_crossing_49 rfl (lv_at hl 0 rfl) ?_
        refine r_get C hR 8 0 6 (v := .int (gI u113 8 0 6)) (lv0 (by decide) (by decide)) (by decide) (by decide) rfl fl_X8_41 dX8_crossing_50 ?_
        refine lv_icmp_ge (tgt := 97) hx hb dX8_crossing_53 (by decide) (fun c_117 => ?_) (fun c_117 => ?_)
        · rw [if_pos c_117] at h
          exact Kw116 _ _ _ _ _ h hR hS (lv_sub hl [5] rfl)
        · rw [if_neg c_117] at h
          refine lv_iload hx hb dX8_crossing_56 (lv_at hl 4 rfl) ?_
          refine lv_iload hx hb dX8_crossing_58 (lv_at hl 6 rfl) ?_
          refine lv_ishr hx hb dX8_crossing_60 ?_
          refine lv_iconst (v := 1) hx hb dX8_crossing_61 (by decide) ?_
          refine lv_iand hx hb dX8_crossing_62 ?_
          refine jp_cut h (fun j120 hj120 h => ?_)
          have Kj120 : ∀ (x118 : Int32) (u119 : HS) (H : Heap) (locs : List Loc) (ls : Array Slot), j120 x118 u119 = some out → Rel E a u119 H → va_S (AE E) s.heap H locs → lv_has ls 8 [(0, .ref (a 8 0)), (1, .int x1), (2, .int x2), (3, .int x3), (5, .int x109), (6, .int x118), (7, .int x112)] → W p l e { frames := 7, cells := 3, slots := 18, locals := 170 } s m args below meth c H locs 3 18 (vx_MQ below (QX E a out.1 (some (.int out.2.1)) out.2.2) (XW E a out.1 out.2.2) args s 3 18 (AE E)) (F0 m 91 ls []) := by
            intro x118 u119 H locs ls h hR hS hl
            replace h := jx2 hj120 h
            obtain ⟨x121, ex121⟩ : ∃ z : Int32, z = x112 + 1 := ⟨_, rfl⟩
            replace h := bd_x ex121 h
            refine lv_iinc (v := x121) (lv' := [(7, .int x121), (0, .ref (a 8 0)), (1, .int x1), (2, .int x2), (3, .int x3), (5, .int x109), (6, .int x118)]) hx hb dX8_crossing_91 hl (k := 6) rfl (by rw [ex121]; rfl) (by decide) rfl (fun ls hl => ?_)
            refine lv_goto (tgt := 47) hx hb dX8_crossing_94 (by decide) ?_
            exact ih _ _ _ _ _ _ h hR hS (lv_sub hl [1, 2, 3, 4, 5, 6, 0] rfl)
          refine lv_if_eq (tgt := 91) hx hb dX8_crossing_63 (by decide) (fun c_122 => ?_) (fun c_122 => ?_)
          · rw [if_pos c_122] at h
            exact Kj120 _ _ _ _ _ h hR hS (lv_sub hl [0, 1, 2, 3, 4, 5, 6] rfl)
          · rw [if_neg c_122] at h
            refine lv_iload hx hb dX8_crossing_66 (lv_at hl 5 rfl) ?_
            refine lv_aload_n hx hb dX8_crossing_68 rfl (lv_at hl 0 rfl) ?_
            refine lv_iload hx hb dX8_crossing_69 (lv_at hl 6 rfl) ?_
            refine lv_iload_n hx hb dX8_crossing_71 rfl (lv_at hl 1 rfl) ?_
            refine lv_iload_n hx hb dX8_crossing_72 rfl (lv_at hl 2 rfl) ?_
            obtain ⟨⟨x124, u125⟩, hc123, h⟩ := ob h
            replace h := bd_x (x := x124) rfl h
            replace h := bd_x (x := u125) rfl h
            refine r_callV1 (As := [.int x112, .int x1, .int x2]) (rest := [.int x111]) (r := 8) (i := 0) C (vX8_stateOfNew hc123) hR hS (lv0 (by decide) (by decide)) (by decide) ml_X8_354 mw_X8_stateOfNew rfl ⟨Nat.le_of_ble_eq_true rfl, Nat.le_of_ble_eq_true rfl, Nat.le_of_ble_eq_true rfl, Nat.le_of_ble_eq_true rfl⟩ hl.1 rfl (Nat.le_of_ble_eq_true rfl) dX8_crossing_73 (fun H locs hR hS => ?_)
            refine lv_iload_n hx hb dX8_crossing_76 rfl (lv_at hl 3 rfl) ?_
            obtain ⟨x127, hc126, h⟩ := ob h
            refine r_callS1 (As := [.int x124, .int x3]) (rest := [.int x111]) C (vX8_isYes hc126) hR hS ml_X8_253 ms_X8_isYes rfl ⟨Nat.le_of_ble_eq_true rfl, Nat.le_of_ble_eq_true rfl, Nat.le_of_ble_eq_true rfl, Nat.le_of_ble_eq_true rfl⟩ hl.1 rfl (Nat.le_of_ble_eq_true rfl) dX8_crossing_77 (fun H locs hR hS => ?_)
            obtain ⟨x128, hz, h⟩ := ob h
            have Kj129 : ∀ (H : Heap) (locs : List Loc) (ls : Array Slot), Rel E a u125 H → va_S (AE E) s.heap H locs → lv_has ls 8 [(0, .ref (a 8 0)), (1, .int x1), (2, .int x2), (3, .int x3), (5, .int x109), (7, .int x112)] → W p l e { frames := 7, cells := 3, slots := 18, locals := 170 } s m args below meth c H locs 3 18 (vx_MQ below (QX E a out.1 (some (.int out.2.1)) out.2.2) (XW E a out.1 out.2.2) args s 3 18 (AE E)) (F0 m 88 ls [.int x128, .int x111]) := by
              intro H locs ls hR hS hl
              clear hz
              refine lv_ior hx hb dX8_crossing_88 ?_
              refine lv_topi (fun x130 ex130 => ?_)
              replace h := bd_x ex130 h
              refine lv_istore (lv' := [(6, .int x130), (0, .ref (a 8 0)), (1, .int x1), (2, .int x2), (3, .int x3), (5, .int x109), (7, .int x112)]) hx hb dX8_crossing_89 hl (by decide) rfl (fun ls hl => ?_)
              exact Kj120 _ _ _ _ _ h hR hS (lv_sub hl [1, 2, 3, 4, 5, 0, 6] rfl)
            clear h
            have h := hz
            clear hz
            refine lv_if_eq (tgt := 87) hx hb dX8_crossing_80 (by decide) (fun c_131 => ?_) (fun c_131 => ?_)
            · rw [if_pos c_131] at h
              refine lv_iconst (v := 1) hx hb dX8_crossing_87 (by decide) ?_
              cases h
              exact Kj129 _ _ _ hR hS (lv_sub hl [0, 1, 2, 3, 4, 6] rfl)
            · rw [if_neg c_131] at h
              refine lv_iconst (v := 2) hx hb dX8_crossing_83 (by decide) ?_
              refine lv_goto (tgt := 88) hx hb dX8_crossing_84 (by decide) ?_
              cases h
              exact Kj129 _ _ _ hR hS (lv_sub hl [0, 1, 2, 3, 4, 6] rfl)
    exact LP FU _ _ _ _ _ _ h hR hS (lv_sub hl [3, 4, 5, 6, 2, 1, 0] rfl)
  clear h
  have h := hz
  clear hz
  refine jp_cut h (fun j132 hj132 h => ?_)
  have Kj132 : ∀  (H : Heap) (locs : List Loc) (ls : Array Slot), j132 = some x105 → Rel E a u0 H → va_S (AE E) s.heap H locs → lv_has ls 8 [(0, .ref (a 8 0)), (1, .int x1), (2, .int x2), (3, .int x3), (4, .int x4)] → W p l e { frames := 7, cells := 3, slots := 18, locals := 170 } s m args below meth c H locs 2 12 (vx_MQ below (QX E a out.1 (some (.int out.2.1)) out.2.2) (XW E a out.1 out.2.2) args s 3 18 (AE E)) (F0 m 29 ls []) := by
    intro  H locs ls h hR hS hl
    replace h := jx0 hj132 h
    refine lv_iconst (v := 0) hx hb dX8_crossing_29 (by decide) ?_
    cases h
    exact Kj106 _ _ _ hR hS (lv_sub hl [0, 1, 2, 3, 4] rfl)
  refine lv_if_eq (tgt := 29) hx hb dX8_crossing_14 (by decide) (fun c_133 => ?_) (fun c_133 => ?_)
  · rw [if_pos c_133] at h
    exact Kj132  _ _ _ h hR hS (lv_sub hl [0, 1, 2, 3, 4] rfl)
  · rw [if_neg c_133] at h
    refine lv_iload hx hb dX8_crossing_17 (lv_at hl 4 rfl) ?_
    obtain ⟨x135, hc134, h⟩ := ob h
    refine r_callS1 (As := [.int x4]) (rest := []) C (vX8_isFit hc134) hR hS ml_X8_344 ms_X8_isFit rfl ⟨Nat.le_of_ble_eq_true rfl, Nat.le_of_ble_eq_true rfl, Nat.le_of_ble_eq_true rfl, Nat.le_of_ble_eq_true rfl⟩ hl.1 rfl (Nat.le_of_ble_eq_true rfl) dX8_crossing_19 (fun H locs hR hS => ?_)
    refine lv_if_eq (tgt := 29) hx hb dX8_crossing_22 (by decide) (fun c_136 => ?_) (fun c_136 => ?_)
    · rw [if_pos c_136] at h
      exact Kj132  _ _ _ h hR hS (lv_sub hl [0, 1, 2, 3, 4] rfl)
    · rw [if_neg c_136] at h
      refine lv_iconst (v := 1) hx hb dX8_crossing_25 (by decide) ?_
      refine lv_goto (tgt := 30) hx hb dX8_crossing_26 (by decide) ?_
      cases h
      exact Kj106 _ _ _ hR hS (lv_sub hl [0, 1, 2, 3, 4] rfl)
