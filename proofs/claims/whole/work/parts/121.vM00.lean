set_option maxHeartbeats 4000000 in
set_option maxRecDepth 100000 in
theorem vX9_thrown {l : Launch} {E : EV} {a : Nat → Nat → Nat} {u0 : HS}  {out : Int32} (h : mX9_thrown u0 = some out) : Ct l E yX9_thrown cX9_thrown 1 (some .int) 0 0 0 0 a u0 [.ref (a 9 0)] (some (.int out)) u0 := by
  refine Ct.start (by decide) (Nat.le_of_ble_eq_true rfl) ?_
  intro p e s m args below meth c ls C hr hR hS hl
  have C : Cx E p s m args meth c cX9_thrown 1 RX9 := C
  have hl : lv_has ls 1 [(0, .ref (a 9 0))] := hl
  have hx := C.1
  have hb := C.2.1
  unfold mX9_thrown at h
  refine lv_aload_n hx hb dX9_thrown_0 rfl (lv_at hl 0 rfl) ?_
  refine r_get C hR 9 0 0 (v := .int (gI u0 9 0 0)) (lv0 (by decide) (by decide)) (by decide) (by decide) rfl fl_X9_76 dX9_thrown_1 ?_
  cases h
  exact e_iret C hr hR hS (Nat.le_of_ble_eq_true rfl) (Nat.le_of_ble_eq_true rfl) dX9_thrown_4
set_option maxHeartbeats 4000000 in
set_option maxRecDepth 100000 in
theorem vX9_bad {l : Launch} {E : EV} {a : Nat → Nat → Nat} {u0 : HS} {x1 : Int32} {x2 : Int32} {out : (Int32 × HS)} (h : mX9_bad u0 x1 x2 = some out) : Ct l E yX9_bad cX9_bad 3 (some .boolean) 0 0 0 0 a u0 [.ref (a 9 0), .int x1, .int x2] (some (.int out.1)) out.2 := by
  refine Ct.start (by decide) (Nat.le_of_ble_eq_true rfl) ?_
  intro p e s m args below meth c ls C hr hR hS hl
  have C : Cx E p s m args meth c cX9_bad 3 RX9 := C
  have hl : lv_has ls 3 [(0, .ref (a 9 0)), (1, .int x1), (2, .int x2)] := hl
  have hx := C.1
  have hb := C.2.1
  unfold mX9_bad at h
  refine lv_iload_n hx hb dX9_bad_0 rfl (lv_at hl 1 rfl) ?_
  obtain ⟨u101, hz, h⟩ := ob h
  have Kj102 : ∀ (H : Heap) (locs : List Loc) (ls : Array Slot), Rel E a u101 H → va_S (AE E) s.heap H locs → lv_has ls 3 [(0, .ref (a 9 0))] → W p l e { frames := 0, cells := 0, slots := 0, locals := 0 } s m args below meth c H locs 0 0 (MQ below (QW E a (some (.int out.1)) out.2) args s 0 0 (AE E)) (F0 m 16 ls []) := by
    intro H locs ls hR hS hl
    clear hz
    refine lv_aload_n hx hb dX9_bad_16 rfl (lv_at hl 0 rfl) ?_
    refine r_get C hR 9 0 0 (v := .int (gI u101 9 0 0)) (lv0 (by decide) (by decide)) (by decide) (by decide) rfl fl_X9_76 dX9_bad_17 ?_
    refine lv_if_eq (tgt := 27) hx hb dX9_bad_20 (by decide) (fun c_103 => ?_) (fun c_103 => ?_)
    · rw [if_pos c_103] at h
      refine lv_iconst (v := 0) hx hb dX9_bad_27 (by decide) ?_
      cases h
      exact e_zret (v := 0) C hr rfl hR hS (Nat.le_of_ble_eq_true rfl) (Nat.le_of_ble_eq_true rfl) dX9_bad_28
    · rw [if_neg c_103] at h
      refine lv_iconst (v := 1) hx hb dX9_bad_23 (by decide) ?_
      refine lv_goto (tgt := 28) hx hb dX9_bad_24 (by decide) ?_
      cases h
      exact e_zret (v := 1) C hr rfl hR hS (Nat.le_of_ble_eq_true rfl) (Nat.le_of_ble_eq_true rfl) dX9_bad_28
  clear h
  have h := hz
  clear hz
  refine lv_if_eq (tgt := 16) hx hb dX9_bad_1 (by decide) (fun c_104 => ?_) (fun c_104 => ?_)
  · rw [if_pos c_104] at h
    cases h
    exact Kj102 _ _ _ hR hS (lv_sub hl [0] rfl)
  · rw [if_neg c_104] at h
    refine lv_aload_n hx hb dX9_bad_4 rfl (lv_at hl 0 rfl) ?_
    refine r_get C hR 9 0 0 (v := .int (gI u0 9 0 0)) (lv0 (by decide) (by decide)) (by decide) (by decide) rfl fl_X9_76 dX9_bad_5 ?_
    refine lv_if_ne (tgt := 16) hx hb dX9_bad_8 (by decide) (fun c_105 => ?_) (fun c_105 => ?_)
    · rw [if_neg c_105] at h
      cases h
      exact Kj102 _ _ _ hR hS (lv_sub hl [0] rfl)
    · rw [if_pos c_105] at h
      refine lv_aload_n hx hb dX9_bad_11 rfl (lv_at hl 0 rfl) ?_
      refine lv_iload_n hx hb dX9_bad_12 rfl (lv_at hl 2 rfl) ?_
      refine r_putI (ty := .int) C hR hS 9 0 0 (lv0 (by decide) (by decide)) (by decide) (by decide) (fun _ => rfl) fl_X9_76 (by decide) (by decide +kernel) rfl rfl dX9_bad_13 (fun H locs hR hS => ?_)
      obtain ⟨u106, eu106⟩ : ∃ z : HS, z = wI u0 9 0 0 x2 := ⟨_, rfl⟩
      rw [← eu106] at hR
      replace h := bd_x eu106 h
      clear eu106
      cases h
      exact Kj102 _ _ _ hR hS (lv_sub hl [0] rfl)
set_option maxHeartbeats 4000000 in
set_option maxRecDepth 100000 in
theorem vX9_in {l : Launch} {E : EV} {a : Nat → Nat → Nat} {u0 : HS} {x0 : Int32} {x1 : Int32} {x2 : Int32} {out : Int32} (h : mX9_in x0 x1 x2 = some out) : Ct l E yX9_in cX9_in 3 (some .boolean) 0 0 0 0 a u0 [.int x0, .int x1, .int x2] (some (.int out)) u0 := by
  refine Ct.start (by decide) (Nat.le_of_ble_eq_true rfl) ?_
  intro p e s m args below meth c ls C hr hR hS hl
  have C : Cx E p s m args meth c cX9_in 3 RX9 := C
  have hl : lv_has ls 3 [(0, .int x0), (1, .int x1), (2, .int x2)] := hl
  have hx := C.1
  have hb := C.2.1
  unfold mX9_in at h
  refine lv_iload_n hx hb dX9_in_0 rfl (lv_at hl 0 rfl) ?_
  refine lv_iload_n hx hb dX9_in_1 rfl (lv_at hl 1 rfl) ?_
  refine lv_icmp_lt (tgt := 14) hx hb dX9_in_2 (by decide) (fun c_101 => ?_) (fun c_101 => ?_)
  · rw [if_pos c_101] at h
    refine lv_iconst (v := 0) hx hb dX9_in_14 (by decide) ?_
    cases h
    exact e_zret (v := 0) C hr rfl hR hS (Nat.le_of_ble_eq_true rfl) (Nat.le_of_ble_eq_true rfl) dX9_in_15
  · rw [if_neg c_101] at h
    refine lv_iload_n hx hb dX9_in_5 rfl (lv_at hl 0 rfl) ?_
    refine lv_iload_n hx hb dX9_in_6 rfl (lv_at hl 2 rfl) ?_
    refine lv_icmp_gt (tgt := 14) hx hb dX9_in_7 (by decide) (fun c_102 => ?_) (fun c_102 => ?_)
    · rw [if_pos c_102] at h
      refine lv_iconst (v := 0) hx hb dX9_in_14 (by decide) ?_
      cases h
      exact e_zret (v := 0) C hr rfl hR hS (Nat.le_of_ble_eq_true rfl) (Nat.le_of_ble_eq_true rfl) dX9_in_15
    · rw [if_neg c_102] at h
      refine lv_iconst (v := 1) hx hb dX9_in_10 (by decide) ?_
      refine lv_goto (tgt := 15) hx hb dX9_in_11 (by decide) ?_
      cases h
      exact e_zret (v := 1) C hr rfl hR hS (Nat.le_of_ble_eq_true rfl) (Nat.le_of_ble_eq_true rfl) dX9_in_15
set_option maxHeartbeats 4000000 in
set_option maxRecDepth 100000 in
theorem vX9_within {l : Launch} {E : EV} {a : Nat → Nat → Nat} {u0 : HS} {x0 : Int32} {x1 : Int32} {x2 : Int32} {out : Int32} (h : mX9_within x0 x1 x2 = some out) : Ct l E yX9_within cX9_within 3 (some .int) 0 0 0 0 a u0 [.int x0, .int x1, .int x2] (some (.int out)) u0 := by
  refine Ct.start (by decide) (Nat.le_of_ble_eq_true rfl) ?_
  intro p e s m args below meth c ls C hr hR hS hl
  have C : Cx E p s m args meth c cX9_within 3 RX9 := C
  have hl : lv_has ls 3 [(0, .int x0), (1, .int x1), (2, .int x2)] := hl
  have hx := C.1
  have hb := C.2.1
  unfold mX9_within at h
  refine lv_iload_n hx hb dX9_within_0 rfl (lv_at hl 0 rfl) ?_
  refine lv_iload_n hx hb dX9_within_1 rfl (lv_at hl 1 rfl) ?_
  refine lv_icmp_ge (tgt := 9) hx hb dX9_within_2 (by decide) (fun c_101 => ?_) (fun c_101 => ?_)
  · rw [if_pos c_101] at h
    refine lv_iload_n hx hb dX9_within_9 rfl (lv_at hl 0 rfl) ?_
    refine lv_iload_n hx hb dX9_within_10 rfl (lv_at hl 2 rfl) ?_
    refine lv_icmp_le (tgt := 18) hx hb dX9_within_11 (by decide) (fun c_102 => ?_) (fun c_102 => ?_)
    · rw [if_pos c_102] at h
      refine lv_iload_n hx hb dX9_within_18 rfl (lv_at hl 0 rfl) ?_
      cases h
      exact e_iret C hr hR hS (Nat.le_of_ble_eq_true rfl) (Nat.le_of_ble_eq_true rfl) dX9_within_19
    · rw [if_neg c_102] at h
      refine lv_iload_n hx hb dX9_within_14 rfl (lv_at hl 2 rfl) ?_
      refine lv_goto (tgt := 19) hx hb dX9_within_15 (by decide) ?_
      cases h
      exact e_iret C hr hR hS (Nat.le_of_ble_eq_true rfl) (Nat.le_of_ble_eq_true rfl) dX9_within_19
  · rw [if_neg c_101] at h
    refine lv_iload_n hx hb dX9_within_5 rfl (lv_at hl 1 rfl) ?_
    refine lv_goto (tgt := 19) hx hb dX9_within_6 (by decide) ?_
    cases h
    exact e_iret C hr hR hS (Nat.le_of_ble_eq_true rfl) (Nat.le_of_ble_eq_true rfl) dX9_within_19
set_option maxHeartbeats 4000000 in
set_option maxRecDepth 100000 in
theorem vX9_more {l : Launch} {E : EV} {a : Nat → Nat → Nat} {u0 : HS} {x0 : Int32} {x1 : Int32} {out : Int32} (h : mX9_more x0 x1 = some out) : Ct l E yX9_more cX9_more 2 (some .int) 0 0 0 0 a u0 [.int x0, .int x1] (some (.int out)) u0 := by
  refine Ct.start (by decide) (Nat.le_of_ble_eq_true rfl) ?_
  intro p e s m args below meth c ls C hr hR hS hl
  have C : Cx E p s m args meth c cX9_more 2 RX9 := C
  have hl : lv_has ls 2 [(0, .int x0), (1, .int x1)] := hl
  have hx := C.1
  have hb := C.2.1
  unfold mX9_more at h
  refine lv_iload_n hx hb dX9_more_0 rfl (lv_at hl 0 rfl) ?_
  refine lv_iload_n hx hb dX9_more_1 rfl (lv_at hl 1 rfl) ?_
  refine lv_icmp_le (tgt := 9) hx hb dX9_more_2 (by decide) (fun c_101 => ?_) (fun c_101 => ?_)
  · rw [if_pos c_101] at h
    refine lv_iload_n hx hb dX9_more_9 rfl (lv_at hl 1 rfl) ?_
    cases h
    exact e_iret C hr hR hS (Nat.le_of_ble_eq_true rfl) (Nat.le_of_ble_eq_true rfl) dX9_more_10
  · rw [if_neg c_101] at h
    refine lv_iload_n hx hb dX9_more_5 rfl (lv_at hl 0 rfl) ?_
    refine lv_goto (tgt := 10) hx hb dX9_more_6 (by decide) ?_
    cases h
    exact e_iret C hr hR hS (Nat.le_of_ble_eq_true rfl) (Nat.le_of_ble_eq_true rfl) dX9_more_10
set_option maxHeartbeats 4000000 in
set_option maxRecDepth 100000 in
theorem vX9_less {l : Launch} {E : EV} {a : Nat → Nat → Nat} {u0 : HS} {x0 : Int32} {x1 : Int32} {out : Int32} (h : mX9_less x0 x1 = some out) : Ct l E yX9_less cX9_less 2 (some .int) 0 0 0 0 a u0 [.int x0, .int x1] (some (.int out)) u0 := by
  refine Ct.start (by decide) (Nat.le_of_ble_eq_true rfl) ?_
  intro p e s m args below meth c ls C hr hR hS hl
  have C : Cx E p s m args meth c cX9_less 2 RX9 := C
  have hl : lv_has ls 2 [(0, .int x0), (1, .int x1)] := hl
  have hx := C.1
  have hb := C.2.1
  unfold mX9_less at h
  refine lv_iload_n hx hb dX9_less_0 rfl (lv_at hl 0 rfl) ?_
  refine lv_iload_n hx hb dX9_less_1 rfl (lv_at hl 1 rfl) ?_
  refine lv_icmp_ge (tgt := 9) hx hb dX9_less_2 (by decide) (fun c_101 => ?_) (fun c_101 => ?_)
  · rw [if_pos c_101] at h
    refine lv_iload_n hx hb dX9_less_9 rfl (lv_at hl 1 rfl) ?_
    cases h
    exact e_iret C hr hR hS (Nat.le_of_ble_eq_true rfl) (Nat.le_of_ble_eq_true rfl) dX9_less_10
  · rw [if_neg c_101] at h
    refine lv_iload_n hx hb dX9_less_5 rfl (lv_at hl 0 rfl) ?_
    refine lv_goto (tgt := 10) hx hb dX9_less_6 (by decide) ?_
    cases h
    exact e_iret C hr hR hS (Nat.le_of_ble_eq_true rfl) (Nat.le_of_ble_eq_true rfl) dX9_less_10
set_option maxHeartbeats 4000000 in
set_option maxRecDepth 100000 in
theorem vX9_amount {l : Launch} {E : EV} {a : Nat → Nat → Nat} {u0 : HS} {x0 : Int32} {out : Int32} (h : mX9_amount x0 = some out) : Ct l E yX9_amount cX9_amount 1 (some .int) 0 0 0 0 a u0 [.int x0] (some (.int out)) u0 := by
  refine Ct.start (by decide) (Nat.le_of_ble_eq_true rfl) ?_
  intro p e s m args below meth c ls C hr hR hS hl
  have C : Cx E p s m args meth c cX9_amount 1 RX9 := C
  have hl : lv_has ls 1 [(0, .int x0)] := hl
  have hx := C.1
  have hb := C.2.1
  unfold mX9_amount at h
  refine lv_iload_n hx hb dX9_amount_0 rfl (lv_at hl 0 rfl) ?_
  refine lv_if_ge (tgt := 9) hx hb dX9_amount_1 (by decide) (fun c_101 => ?_) (fun c_101 => ?_)
  · rw [if_pos c_101] at h
    refine lv_iload_n hx hb dX9_amount_9 rfl (lv_at hl 0 rfl) ?_
    cases h
    exact e_iret C hr hR hS (Nat.le_of_ble_eq_true rfl) (Nat.le_of_ble_eq_true rfl) dX9_amount_10
  · rw [if_neg c_101] at h
    refine lv_iload_n hx hb dX9_amount_4 rfl (lv_at hl 0 rfl) ?_
    refine lv_ineg hx hb dX9_amount_5 ?_
    refine lv_goto (tgt := 10) hx hb dX9_amount_6 (by decide) ?_
    cases h
    exact e_iret C hr hR hS (Nat.le_of_ble_eq_true rfl) (Nat.le_of_ble_eq_true rfl) dX9_amount_10
set_option maxHeartbeats 4000000 in
set_option maxRecDepth 100000 in
theorem vX9_feed {l : Launch} {E : EV} {a : Nat → Nat → Nat} {u0 : HS} {x1 : Int32} {x2 : Int32} {x3 : Int32} {x4 : Int32} {x5 : Int32} {out : (Int32 × HS)} (h : mX9_feed u0 x1 x2 x3 x4 x5 = some out) : Ct l E yX9_feed cX9_feed 8 (some .int) 0 0 0 0 a u0 [.ref (a 9 0), .int x1, .int x2, .int x3, .int x4, .int x5] (some (.int out.1)) out.2 := by
  refine Ct.start (by decide) (Nat.le_of_ble_eq_true rfl) ?_
  intro p e s m args below meth c ls C hr hR hS hl
  have C : Cx E p s m args meth c cX9_feed 8 RX9 := C
  have hl : lv_has ls 8 [(0, .ref (a 9 0)), (1, .int x1), (2, .int x2), (3, .int x3), (4, .int x4), (5, .int x5)] := hl
  have hx := C.1
  have hb := C.2.1
  unfold mX9_feed at h
  refine lv_aload_n hx hb dX9_feed_0 rfl (lv_at hl 0 rfl) ?_
  refine lv_iconst (v := 0) hx hb dX9_feed_1 (by decide) ?_
  refine r_putI (ty := .int) C hR hS 9 0 0 (lv0 (by decide) (by decide)) (by decide) (by decide) (fun _ => rfl) fl_X9_76 (by decide) (by decide +kernel) rfl rfl dX9_feed_2 (fun H locs hR hS => ?_)
  obtain ⟨u101, eu101⟩ : ∃ z : HS, z = wI u0 9 0 0 0 := ⟨_, rfl⟩
  rw [← eu101] at hR
  replace h := bd_x eu101 h
  clear eu101
  refine lv_aload_n hx hb dX9_feed_5 rfl (lv_at hl 0 rfl) ?_
  refine r_get C hR 9 0 1 (v := .int (gI u101 9 0 1)) (lv0 (by decide) (by decide)) (by decide) (by decide) rfl fl_X9_79 dX9_feed_6 ?_
  refine lv_bipush (v := 20) hx hb dX9_feed_9 (by decide) ?_
  refine lv_iadd hx hb dX9_feed_11 ?_
  refine lv_sipush (v := 400) hx hb dX9_feed_12 (by decide) ?_
  refine lv_icmp_le (tgt := 20) hx hb dX9_feed_15 (by decide) (fun c_102 => ?_) (fun c_102 => ?_)
  · rw [if_pos c_102] at h
    refine lv_iconst (v := 0) hx hb dX9_feed_20 (by decide) ?_
    refine lv_istore (lv' := [(6, .int 0), (0, .ref (a 9 0)), (1, .int x1), (2, .int x2), (3, .int x3), (4, .int x4), (5, .int x5)]) hx hb dX9_feed_21 hl (by decide) rfl (fun ls hl => ?_)
    refine jp_cut h (fun w106 hw106 h => ?_)
    have Kw106 : ∀ (u105 : HS) (H : Heap) (locs : List Loc) (ls : Array Slot), w106 u105 = some out → Rel E a u105 H → va_S (AE E) s.heap H locs → lv_has ls 8 [(0, .ref (a 9 0))] → W p l e { frames := 0, cells := 0, slots := 0, locals := 0 } s m args below meth c H locs 0 0 (MQ below (QW E a (some (.int out.1)) out.2) args s 0 0 (AE E)) (F0 m 120 ls []) := by
      intro u105 H locs ls h hR hS hl
      replace h := jx1 hw106 h
      refine lv_aload_n hx hb dX9_feed_120 rfl (lv_at hl 0 rfl) ?_
      refine r_get C hR 9 0 1 (v := .int (gI u105 9 0 1)) (lv0 (by decide) (by decide)) (by decide) (by decide) rfl fl_X9_79 dX9_feed_121 ?_
      cases h
      exact e_iret C hr hR hS (Nat.le_of_ble_eq_true rfl) (Nat.le_of_ble_eq_true rfl) dX9_feed_124
    have LP : ∀ (fu : Nat) (x103 : Int32) (u104 : HS) (H : Heap) (locs : List Loc) (ls : Array Slot), mX9_feed_L23 x5 x4 x3 x2 x1 w106 fu x103 u104 = some out → Rel E a u104 H → va_S (AE E) s.heap H locs → lv_has ls 8 [(0, .ref (a 9 0)), (1, .int x1), (2, .int x2), (3, .int x3), (4, .int x4), (5, .int x5), (6, .int x103)] → W p l e { frames := 0, cells := 0, slots := 0, locals := 0 } s m args below meth c H locs 0 0 (MQ below (QW E a (some (.int out.1)) out.2) args s 0 0 (AE E)) (F0 m 23 ls []) := by
      intro fu
      induction fu with
      | zero =>
        intro x103 u104 H locs ls h
        have h2 : (none : Option (Int32 × HS)) = some out := h
        cases h2
      | succ fu ih =>
        intro x103 u104 H locs ls h hR hS hl
        rw [mX9_feed_L23.eq_2] at h
        refine lv_iload hx hb dX9_feed_23 (lv_at hl 6 rfl) ?_
        refine lv_bipush (v := 20) hx hb dX9_feed_25 (by decide) ?_
        refine lv_icmp_ge (tgt := 120) hx hb dX9_feed_27 (by decide) (fun c_107 => ?_) (fun c_107 => ?_)
        · rw [if_pos c_107] at h
          exact Kw106 _ _ _ _ h hR hS (lv_sub hl [0] rfl)
        · rw [if_neg c_107] at h
          refine lv_iload hx hb dX9_feed_30 (lv_at hl 6 rfl) ?_
          refine lv_iconst (v := 4) hx hb dX9_feed_32 (by decide) ?_
          obtain ⟨x108, hz, h⟩ := ob h
          have Kj109 : ∀ (H : Heap) (locs : List Loc) (ls : Array Slot), Rel E a u104 H → va_S (AE E) s.heap H locs → lv_has ls 8 [(0, .ref (a 9 0)), (1, .int x1), (2, .int x2), (3, .int x3), (4, .int x4), (5, .int x5), (6, .int x103)] → W p l e { frames := 0, cells := 0, slots := 0, locals := 0 } s m args below meth c H locs 0 0 (MQ below (QW E a (some (.int out.1)) out.2) args s 0 0 (AE E)) (F0 m 76 ls [.int x108]) := by
            intro H locs ls hR hS hl
            clear hz
            refine lv_istore (lv' := [(7, .int x108), (0, .ref (a 9 0)), (1, .int x1), (2, .int x2), (3, .int x3), (4, .int x4), (5, .int x5), (6, .int x103)]) hx hb dX9_feed_76 hl (by decide) rfl (fun ls hl => ?_)
            refine lv_aload_n hx hb dX9_feed_78 rfl (lv_at hl 1 rfl) ?_
            refine r_get C hR 9 0 11 (v := .ref (a 60 0)) (lv0 (by decide) (by decide)) (by decide) (by decide) rfl fl_X9_13 dX9_feed_79 ?_
            refine lv_aload_n hx hb dX9_feed_82 rfl (lv_at hl 1 rfl) ?_
            refine r_get C hR 9 0 1 (v := .int (gI u104 9 0 1)) (lv0 (by decide) (by decide)) (by decide) (by decide) rfl fl_X9_79 dX9_feed_83 ?_
            refine lv_iload hx hb dX9_feed_86 (lv_at hl 0 rfl) ?_
            refine lv_bipush (v := 24) hx hb dX9_feed_88 (by decide) ?_
            refine lv_bipush (v := 8) hx hb dX9_feed_90 (by decide) ?_
            refine lv_iload hx hb dX9_feed_92 (lv_at hl 7 rfl) ?_
            refine lv_iconst (v := 4) hx hb dX9_feed_94 (by decide) ?_
            refine lv_irem hx hb dX9_feed_95 (by decide) ?_
            refine lv_imul hx hb dX9_feed_96 ?_
            refine lv_isub hx hb dX9_feed_97 ?_
            refine lv_ishr hx hb dX9_feed_98 ?_
            refine lv_sipush (v := 255) hx hb dX9_feed_99 (by decide) ?_
            refine lv_iand hx hb dX9_feed_102 ?_
            obtain ⟨k110, hk110, h⟩ := ob h
            refine r_ast C hR hS 60 0 (lv0 (by decide) (by decide)) (by decide) rfl (fun _ _ => rfl) rfl hk110 dX9_feed_103 (fun H locs hR hS => ?_)
            obtain ⟨u111, eu111⟩ : ∃ z : HS, z = wI u104 60 0 k110 ((x108 >>> ((24 - (8 * (x103 - x103 / 4 * 4))) &&& 31)) &&& 255) := ⟨_, rfl⟩
            rw [← eu111] at hR
            replace h := bd_x eu111 h
            clear eu111
            refine lv_aload_n hx hb dX9_feed_104 rfl (lv_at hl 1 rfl) ?_
            refine lv_dup hx hb dX9_feed_105 rfl ?_
            refine r_get C hR 9 0 1 (v := .int (gI u111 9 0 1)) (lv0 (by decide) (by decide)) (by decide) (by decide) rfl fl_X9_79 dX9_feed_106 ?_
            refine lv_iconst (v := 1) hx hb dX9_feed_109 (by decide) ?_
            refine lv_iadd hx hb dX9_feed_110 ?_
            refine r_putI (ty := .int) C hR hS 9 0 1 (lv0 (by decide) (by decide)) (by decide) (by decide) (fun _ => rfl) fl_X9_79 (by decide) (by decide +kernel) rfl rfl dX9_feed_111 (fun H locs hR hS => ?_)
            obtain ⟨u112, eu112⟩ : ∃ z : HS, z = wI u111 9 0 1 ((gI u111 9 0 1) + 1) := ⟨_, rfl⟩
            rw [← eu112] at hR
            replace h := bd_x eu112 h
            clear eu112
            obtain ⟨x113, ex113⟩ : ∃ z : Int32, z = x103 + 1 := ⟨_, rfl⟩
            replace h := bd_x ex113 h
            refine lv_iinc (v := x113) (lv' := [(6, .int x113), (7, .int x108), (0, .ref (a 9 0)), (1, .int x1), (2, .int x2), (3, .int x3), (4, .int x4), (5, .int x5)]) hx hb dX9_feed_114 hl (k := 7) rfl (by rw [ex113]; rfl) (by decide) rfl (fun ls hl => ?_)
            refine lv_goto (tgt := 23) hx hb dX9_feed_117 (by decide) ?_
            exact ih _ _ _ _ _ h hR hS (lv_sub hl [2, 3, 4, 5, 6, 7, 0] rfl)
          clear h
          have h := hz
          clear hz
          refine lv_icmp_ge (tgt := 40) hx hb dX9_feed_33 (by decide) (fun c_114 => ?_) (fun c_114 => ?_)
          · rw [if_pos c_114] at h
            refine lv_iload hx hb dX9_feed_40 (lv_at hl 6 rfl) ?_
            refine lv_bipush (v := 8) hx hb dX9_feed_42 (by decide) ?_
            refine lv_icmp_ge (tgt := 51) hx hb dX9_feed_44 (by decide) (fun c_115 => ?_) (fun c_115 => ?_)
            · rw [if_pos c_115] at h
              refine lv_iload hx hb dX9_feed_51 (lv_at hl 6 rfl) ?_
              refine lv_bipush (v := 12) hx hb dX9_feed_53 (by decide) ?_
              refine lv_icmp_ge (tgt := 62) hx hb dX9_feed_55 (by decide) (fun c_116 => ?_) (fun c_116 => ?_)
              · rw [if_pos c_116] at h
                refine lv_iload hx hb dX9_feed_62 (lv_at hl 6 rfl) ?_
                refine lv_bipush (v := 16) hx hb dX9_feed_64 (by decide) ?_
                refine lv_icmp_ge (tgt := 74) hx hb dX9_feed_66 (by decide) (fun c_117 => ?_) (fun c_117 => ?_)
                · rw [if_pos c_117] at h
                  refine lv_iload hx hb dX9_feed_74 (lv_at hl 5 rfl) ?_
                  cases h
                  exact Kj109 _ _ _ hR hS (lv_sub hl [0, 1, 2, 3, 4, 5, 6] rfl)
                · rw [if_neg c_117] at h
                  refine lv_iload hx hb dX9_feed_69 (lv_at hl 4 rfl) ?_
                  refine lv_goto (tgt := 76) hx hb dX9_feed_71 (by decide) ?_
                  cases h
                  exact Kj109 _ _ _ hR hS (lv_sub hl [0, 1, 2, 3, 4, 5, 6] rfl)
              · rw [if_neg c_116] at h
                refine lv_iload_n hx hb dX9_feed_58 rfl (lv_at hl 3 rfl) ?_
                refine lv_goto (tgt := 76) hx hb dX9_feed_59 (by decide) ?_
                cases h
                exact Kj109 _ _ _ hR hS (lv_sub hl [0, 1, 2, 3, 4, 5, 6] rfl)
            · rw [if_neg c_115] at h
              refine lv_iload_n hx hb dX9_feed_47 rfl (lv_at hl 2 rfl) ?_
              refine lv_goto (tgt := 76) hx hb dX9_feed_48 (by decide) ?_
              cases h
              exact Kj109 _ _ _ hR hS (lv_sub hl [0, 1, 2, 3, 4, 5, 6] rfl)
          · rw [if_neg c_114] at h
            refine lv_iload_n hx hb dX9_feed_36 rfl (lv_at hl 1 rfl) ?_
            refine lv_goto (tgt := 76) hx hb dX9_feed_37 (by decide) ?_
            cases h
            exact Kj109 _ _ _ hR hS (lv_sub hl [0, 1, 2, 3, 4, 5, 6] rfl)
    exact LP FU _ _ _ _ _ h hR hS (lv_sub hl [1, 2, 3, 4, 5, 6, 0] rfl)
  · rw [if_neg c_102] at h
    refine lv_iconst (v := (-1)) hx hb dX9_feed_18 (by decide) ?_
    cases h
    exact e_iret C hr hR hS (Nat.le_of_ble_eq_true rfl) (Nat.le_of_ble_eq_true rfl) dX9_feed_19
set_option maxHeartbeats 4000000 in
set_option maxRecDepth 100000 in
theorem vX9_byteAt {l : Launch} {E : EV} {a : Nat → Nat → Nat} {u0 : HS} {x1 : Int32} {out : Int32} (h : mX9_byteAt u0 x1 = some out) : Ct l E yX9_byteAt cX9_byteAt 2 (some .int) 0 0 0 0 a u0 [.ref (a 9 0), .int x1] (some (.int out)) u0 := by
  refine Ct.start (by decide) (Nat.le_of_ble_eq_true rfl) ?_
  intro p e s m args below meth c ls C hr hR hS hl
  have C : Cx E p s m args meth c cX9_byteAt 2 RX9 := C
  have hl : lv_has ls 2 [(0, .ref (a 9 0)), (1, .int x1)] := hl
  have hx := C.1
  have hb := C.2.1
  unfold mX9_byteAt at h
  refine lv_iload_n hx hb dX9_byteAt_0 rfl (lv_at hl 1 rfl) ?_
  refine lv_aload_n hx hb dX9_byteAt_1 rfl (lv_at hl 0 rfl) ?_
  refine r_get C hR 9 0 2 (v := .int (gI u0 9 0 2)) (lv0 (by decide) (by decide)) (by decide) (by decide) rfl fl_X9_82 dX9_byteAt_2 ?_
  refine lv_icmp_lt (tgt := 12) hx hb dX9_byteAt_5 (by decide) (fun c_101 => ?_) (fun c_101 => ?_)
  · rw [if_pos c_101] at h
    refine lv_aload_n hx hb dX9_byteAt_12 rfl (lv_at hl 0 rfl) ?_
    refine r_get C hR 9 0 11 (v := .ref (a 60 0)) (lv0 (by decide) (by decide)) (by decide) (by decide) rfl fl_X9_13 dX9_byteAt_13 ?_
    refine lv_iload_n hx hb dX9_byteAt_16 rfl (lv_at hl 1 rfl) ?_
    obtain ⟨k102, hk102, h⟩ := ob h
    refine r_ald C hR 60 0 (lv0 (by decide) (by decide)) (by decide) rfl (fun _ => rfl) rfl hk102 dX9_byteAt_17 ?_
    cases h
    exact e_iret C hr hR hS (Nat.le_of_ble_eq_true rfl) (Nat.le_of_ble_eq_true rfl) dX9_byteAt_18
  · rw [if_neg c_101] at h
    refine lv_iconst (v := (-1)) hx hb dX9_byteAt_8 (by decide) ?_
    refine lv_goto (tgt := 18) hx hb dX9_byteAt_9 (by decide) ?_
    cases h
    exact e_iret C hr hR hS (Nat.le_of_ble_eq_true rfl) (Nat.le_of_ble_eq_true rfl) dX9_byteAt_18
set_option maxHeartbeats 4000000 in
set_option maxRecDepth 100000 in
theorem vX9_blanks {l : Launch} {E : EV} {a : Nat → Nat → Nat} {u0 : HS}  {out : HS} (h : mX9_blanks u0 = some out) : Ct l E yX9_blanks cX9_blanks 1 none 1 21 0 0 a u0 [.ref (a 9 0)] none out := by
  refine Ct.start (by decide) (Nat.le_of_ble_eq_true rfl) ?_
  intro p e s m args below meth c ls C hr hR hS hl
  have C : Cx E p s m args meth c cX9_blanks 1 RX9 := C
  have hl : lv_has ls 1 [(0, .ref (a 9 0))] := hl
  have hx := C.1
  have hb := C.2.1
  unfold mX9_blanks at h
  refine jp_cut h (fun w103 hw103 h => ?_)
  have Kw103 : ∀ (u102 : HS) (H : Heap) (locs : List Loc) (ls : Array Slot), w103 u102 = some out → Rel E a u102 H → va_S (AE E) s.heap H locs → lv_has ls 1 [] → W p l e { frames := 1, cells := 0, slots := 0, locals := 21 } s m args below meth c H locs 0 0 (MQ below (QW E a none out) args s 0 0 (AE E)) (F0 m 26 ls []) := by
    intro u102 H locs ls h hR hS hl
    replace h := jx1 hw103 h
    cases h
    exact e_vret C hr hR hS (Nat.le_of_ble_eq_true rfl) (Nat.le_of_ble_eq_true rfl) dX9_blanks_26
  have LP : ∀ (fu : Nat) (u101 : HS) (H : Heap) (locs : List Loc) (ls : Array Slot), mX9_blanks_L0  w103 fu u101 = some out → Rel E a u101 H → va_S (AE E) s.heap H locs → lv_has ls 1 [(0, .ref (a 9 0))] → W p l e { frames := 1, cells := 0, slots := 0, locals := 21 } s m args below meth c H locs 0 0 (MQ below (QW E a none out) args s 0 0 (AE E)) (F0 m 0 ls []) := by
    intro fu
    induction fu with
    | zero =>
      intro u101 H locs ls h
      have h2 : (none : Option HS) = some out := h
      cases h2
    | succ fu ih =>
      intro u101 H locs ls h hR hS hl
      rw [mX9_blanks_L0.eq_2] at h
      refine lv_aload_n hx hb dX9_blanks_0 rfl (lv_at hl 0 rfl) ?_
      refine lv_aload_n hx hb dX9_blanks_1 rfl (lv_at hl 0 rfl) ?_
      refine r_get C hR 9 0 4 (v := .int (gI u101 9 0 4)) (lv0 (by decide) (by decide)) (by decide) (by decide) rfl fl_X9_85 dX9_blanks_2 ?_
      obtain ⟨x105, hc104, h⟩ := ob h
      refine r_callV1 (As := [.int (gI u101 9 0 4)]) (rest := []) (r := 9) (i := 0) C (vX9_byteAt hc104) hR hS (lv0 (by decide) (by decide)) (by decide) ml_X9_88 mw_X9_byteAt rfl ⟨Nat.le_of_ble_eq_true rfl, Nat.le_of_ble_eq_true rfl, Nat.le_of_ble_eq_true rfl, Nat.le_of_ble_eq_true rfl⟩ hl.1 rfl (Nat.le_of_ble_eq_true rfl) dX9_blanks_5 (fun H locs hR hS => ?_)
      refine lv_bipush (v := 32) hx hb dX9_blanks_8 (by decide) ?_
      refine lv_icmp_ne (tgt := 26) hx hb dX9_blanks_10 (by decide) (fun c_106 => ?_) (fun c_106 => ?_)
      · rw [if_neg c_106] at h
        exact Kw103 _ _ _ _ h hR hS (lv_sub hl [] rfl)
      · rw [if_pos c_106] at h
        refine lv_aload_n hx hb dX9_blanks_13 rfl (lv_at hl 0 rfl) ?_
        refine lv_dup hx hb dX9_blanks_14 rfl ?_
        refine r_get C hR 9 0 4 (v := .int (gI u101 9 0 4)) (lv0 (by decide) (by decide)) (by decide) (by decide) rfl fl_X9_85 dX9_blanks_15 ?_
        refine lv_iconst (v := 1) hx hb dX9_blanks_18 (by decide) ?_
        refine lv_iadd hx hb dX9_blanks_19 ?_
        refine r_putI (ty := .int) C hR hS 9 0 4 (lv0 (by decide) (by decide)) (by decide) (by decide) (fun _ => rfl) fl_X9_85 (by decide) (by decide +kernel) rfl rfl dX9_blanks_20 (fun H locs hR hS => ?_)
        obtain ⟨u107, eu107⟩ : ∃ z : HS, z = wI u101 9 0 4 ((gI u101 9 0 4) + 1) := ⟨_, rfl⟩
        rw [← eu107] at hR
        replace h := bd_x eu107 h
        clear eu107
        refine lv_goto (tgt := 0) hx hb dX9_blanks_23 (by decide) ?_
        exact ih _ _ _ _ h hR hS (lv_sub hl [0] rfl)
  exact LP FU _ _ _ _ h hR hS (lv_sub hl [0] rfl)
set_option maxHeartbeats 4000000 in
set_option maxRecDepth 100000 in
theorem vX9_wrongAt {l : Launch} {E : EV} {a : Nat → Nat → Nat} {u0 : HS} {x1 : Int32} {x2 : Int32} {out : HS} (h : mX9_wrongAt u0 x1 x2 = some out) : Ct l E yX9_wrongAt cX9_wrongAt 3 none 0 0 0 0 a u0 [.ref (a 9 0), .int x1, .int x2] none out := by
  refine Ct.start (by decide) (Nat.le_of_ble_eq_true rfl) ?_
  intro p e s m args below meth c ls C hr hR hS hl
  have C : Cx E p s m args meth c cX9_wrongAt 3 RX9 := C
  have hl : lv_has ls 3 [(0, .ref (a 9 0)), (1, .int x1), (2, .int x2)] := hl
  have hx := C.1
  have hb := C.2.1
  unfold mX9_wrongAt at h
  refine lv_aload_n hx hb dX9_wrongAt_0 rfl (lv_at hl 0 rfl) ?_
  refine r_get C hR 9 0 6 (v := .int (gI u0 9 0 6)) (lv0 (by decide) (by decide)) (by decide) (by decide) rfl fl_X9_92 dX9_wrongAt_1 ?_
  refine lv_if_ne (tgt := 17) hx hb dX9_wrongAt_4 (by decide) (fun c_101 => ?_) (fun c_101 => ?_)
  · rw [if_neg c_101] at h
    cases h
    exact e_vret C hr hR hS (Nat.le_of_ble_eq_true rfl) (Nat.le_of_ble_eq_true rfl) dX9_wrongAt_17
  · rw [if_pos c_101] at h
    refine lv_aload_n hx hb dX9_wrongAt_7 rfl (lv_at hl 0 rfl) ?_
    refine lv_iload_n hx hb dX9_wrongAt_8 rfl (lv_at hl 1 rfl) ?_
    refine r_putI (ty := .int) C hR hS 9 0 6 (lv0 (by decide) (by decide)) (by decide) (by decide) (fun _ => rfl) fl_X9_92 (by decide) (by decide +kernel) rfl rfl dX9_wrongAt_9 (fun H locs hR hS => ?_)
    obtain ⟨u102, eu102⟩ : ∃ z : HS, z = wI u0 9 0 6 x1 := ⟨_, rfl⟩
    rw [← eu102] at hR
    replace h := bd_x eu102 h
    clear eu102
    refine lv_aload_n hx hb dX9_wrongAt_12 rfl (lv_at hl 0 rfl) ?_
    refine lv_iload_n hx hb dX9_wrongAt_13 rfl (lv_at hl 2 rfl) ?_
    refine r_putI (ty := .int) C hR hS 9 0 7 (lv0 (by decide) (by decide)) (by decide) (by decide) (fun _ => rfl) fl_X9_95 (by decide) (by decide +kernel) rfl rfl dX9_wrongAt_14 (fun H locs hR hS => ?_)
    obtain ⟨u103, eu103⟩ : ∃ z : HS, z = wI u102 9 0 7 x2 := ⟨_, rfl⟩
    rw [← eu103] at hR
    replace h := bd_x eu103 h
    clear eu103
    cases h
    exact e_vret C hr hR hS (Nat.le_of_ble_eq_true rfl) (Nat.le_of_ble_eq_true rfl) dX9_wrongAt_17
set_option maxHeartbeats 4000000 in
set_option maxRecDepth 100000 in
theorem vX9_tells {l : Launch} {E : EV} {a : Nat → Nat → Nat} {u0 : HS} {x1 : Int32} {out : HS} (h : mX9_tells u0 x1 = some out) : Ct l E yX9_tells cX9_tells 2 none 0 0 0 0 a u0 [.ref (a 9 0), .int x1] none out := by
  refine Ct.start (by decide) (Nat.le_of_ble_eq_true rfl) ?_
  intro p e s m args below meth c ls C hr hR hS hl
  have C : Cx E p s m args meth c cX9_tells 2 RX9 := C
  have hl : lv_has ls 2 [(0, .ref (a 9 0)), (1, .int x1)] := hl
  have hx := C.1
  have hb := C.2.1
  unfold mX9_tells at h
  refine lv_aload_n hx hb dX9_tells_0 rfl (lv_at hl 0 rfl) ?_
  refine r_get C hR 9 0 6 (v := .int (gI u0 9 0 6)) (lv0 (by decide) (by decide)) (by decide) (by decide) rfl fl_X9_92 dX9_tells_1 ?_
  refine lv_if_eq (tgt := 8) hx hb dX9_tells_4 (by decide) (fun c_101 => ?_) (fun c_101 => ?_)
  · rw [if_pos c_101] at h
    refine lv_aload_n hx hb dX9_tells_8 rfl (lv_at hl 0 rfl) ?_
    refine r_get C hR 9 0 12 (v := .ref (a 61 0)) (lv0 (by decide) (by decide)) (by decide) (by decide) rfl fl_X9_17 dX9_tells_9 ?_
    refine lv_aload_n hx hb dX9_tells_12 rfl (lv_at hl 0 rfl) ?_
    refine r_get C hR 9 0 8 (v := .int (gI u0 9 0 8)) (lv0 (by decide) (by decide)) (by decide) (by decide) rfl fl_X9_98 dX9_tells_13 ?_
    refine lv_iload_n hx hb dX9_tells_16 rfl (lv_at hl 1 rfl) ?_
    obtain ⟨k102, hk102, h⟩ := ob h
    refine r_ast C hR hS 61 0 (lv0 (by decide) (by decide)) (by decide) rfl (fun _ _ => rfl) rfl hk102 dX9_tells_17 (fun H locs hR hS => ?_)
    obtain ⟨u103, eu103⟩ : ∃ z : HS, z = wI u0 61 0 k102 x1 := ⟨_, rfl⟩
    rw [← eu103] at hR
    replace h := bd_x eu103 h
    clear eu103
    refine lv_aload_n hx hb dX9_tells_18 rfl (lv_at hl 0 rfl) ?_
    refine lv_dup hx hb dX9_tells_19 rfl ?_
    refine r_get C hR 9 0 8 (v := .int (gI u103 9 0 8)) (lv0 (by decide) (by decide)) (by decide) (by decide) rfl fl_X9_98 dX9_tells_20 ?_
    refine lv_iconst (v := 1) hx hb dX9_tells_23 (by decide) ?_
    refine lv_iadd hx hb dX9_tells_24 ?_
    refine r_putI (ty := .int) C hR hS 9 0 8 (lv0 (by decide) (by decide)) (by decide) (by decide) (fun _ => rfl) fl_X9_98 (by decide) (by decide +kernel) rfl rfl dX9_tells_25 (fun H locs hR hS => ?_)
    obtain ⟨u104, eu104⟩ : ∃ z : HS, z = wI u103 9 0 8 ((gI u103 9 0 8) + 1) := ⟨_, rfl⟩
    rw [← eu104] at hR
    replace h := bd_x eu104 h
    clear eu104
    cases h
    exact e_vret C hr hR hS (Nat.le_of_ble_eq_true rfl) (Nat.le_of_ble_eq_true rfl) dX9_tells_28
  · rw [if_neg c_101] at h
    cases h
    exact e_vret C hr hR hS (Nat.le_of_ble_eq_true rfl) (Nat.le_of_ble_eq_true rfl) dX9_tells_7
set_option maxHeartbeats 4000000 in
set_option maxRecDepth 100000 in
theorem vX9_isDigit {l : Launch} {E : EV} {a : Nat → Nat → Nat} {u0 : HS} {x0 : Int32} {out : Int32} (h : mX9_isDigit x0 = some out) : Ct l E yX9_isDigit cX9_isDigit 1 (some .boolean) 0 0 0 0 a u0 [.int x0] (some (.int out)) u0 := by
  refine Ct.start (by decide) (Nat.le_of_ble_eq_true rfl) ?_
  intro p e s m args below meth c ls C hr hR hS hl
  have C : Cx E p s m args meth c cX9_isDigit 1 RX9 := C
  have hl : lv_has ls 1 [(0, .int x0)] := hl
  have hx := C.1
  have hb := C.2.1
  unfold mX9_isDigit at h
  refine lv_iload_n hx hb dX9_isDigit_0 rfl (lv_at hl 0 rfl) ?_
  refine lv_bipush (v := 48) hx hb dX9_isDigit_1 (by decide) ?_
  refine lv_icmp_lt (tgt := 16) hx hb dX9_isDigit_3 (by decide) (fun c_101 => ?_) (fun c_101 => ?_)
  · rw [if_pos c_101] at h
    refine lv_iconst (v := 0) hx hb dX9_isDigit_16 (by decide) ?_
    cases h
    exact e_zret (v := 0) C hr rfl hR hS (Nat.le_of_ble_eq_true rfl) (Nat.le_of_ble_eq_true rfl) dX9_isDigit_17
  · rw [if_neg c_101] at h
    refine lv_iload_n hx hb dX9_isDigit_6 rfl (lv_at hl 0 rfl) ?_
    refine lv_bipush (v := 57) hx hb dX9_isDigit_7 (by decide) ?_
    refine lv_icmp_gt (tgt := 16) hx hb dX9_isDigit_9 (by decide) (fun c_102 => ?_) (fun c_102 => ?_)
    · rw [if_pos c_102] at h
      refine lv_iconst (v := 0) hx hb dX9_isDigit_16 (by decide) ?_
      cases h
      exact e_zret (v := 0) C hr rfl hR hS (Nat.le_of_ble_eq_true rfl) (Nat.le_of_ble_eq_true rfl) dX9_isDigit_17
    · rw [if_neg c_102] at h
      refine lv_iconst (v := 1) hx hb dX9_isDigit_12 (by decide) ?_
      refine lv_goto (tgt := 17) hx hb dX9_isDigit_13 (by decide) ?_
      cases h
      exact e_zret (v := 1) C hr rfl hR hS (Nat.le_of_ble_eq_true rfl) (Nat.le_of_ble_eq_true rfl) dX9_isDigit_17
set_option maxHeartbeats 4000000 in
set_option maxRecDepth 100000 in
theorem vX9_number {l : Launch} {E : EV} {a : Nat → Nat → Nat} {u0 : HS} {x1 : Int32} {x2 : Int32} {x3 : Int32} {out : (Int32 × HS)} (h : mX9_number u0 x1 x2 x3 = some out) : Ct l E yX9_number cX9_number 6 (some .int) 2 41 0 0 a u0 [.ref (a 9 0), .int x1, .int x2, .int x3] (some (.int out.1)) out.2 := by
  refine Ct.start (by decide) (Nat.le_of_ble_eq_true rfl) ?_
  intro p e s m args below meth c ls C hr hR hS hl
  have C : Cx E p s m args meth c cX9_number 6 RX9 := C
  have hl : lv_has ls 6 [(0, .ref (a 9 0)), (1, .int x1), (2, .int x2), (3, .int x3)] := hl
  have hx := C.1
  have hb := C.2.1
  unfold mX9_number at h
  refine lv_aload_n hx hb dX9_number_0 rfl (lv_at hl 0 rfl) ?_
  refine r_get C hR 9 0 6 (v := .int (gI u0 9 0 6)) (lv0 (by decide) (by decide)) (by decide) (by decide) rfl fl_X9_92 dX9_number_1 ?_
  refine lv_if_eq (tgt := 9) hx hb dX9_number_4 (by decide) (fun c_101 => ?_) (fun c_101 => ?_)
  · rw [if_pos c_101] at h
    refine lv_aload_n hx hb dX9_number_9 rfl (lv_at hl 0 rfl) ?_
    obtain ⟨u103, hc102, h⟩ := ob h
    refine r_callV0 (As := []) (rest := []) (r := 9) (i := 0) C (vX9_blanks hc102) hR hS (lv0 (by decide) (by decide)) (by decide) ml_X9_101 mw_X9_blanks rfl ⟨Nat.le_of_ble_eq_true rfl, Nat.le_of_ble_eq_true rfl, Nat.le_of_ble_eq_true rfl, Nat.le_of_ble_eq_true rfl⟩ hl.1 rfl (Nat.le_of_ble_eq_true rfl) dX9_number_10 (fun H locs hR hS => ?_)
    refine lv_aload_n hx hb dX9_number_13 rfl (lv_at hl 0 rfl) ?_
    refine r_get C hR 9 0 4 (v := .int (gI u103 9 0 4)) (lv0 (by decide) (by decide)) (by decide) (by decide) rfl fl_X9_85 dX9_number_14 ?_
    refine lv_topi (fun x104 ex104 => ?_)
    replace h := bd_x ex104 h
    refine lv_istore (lv' := [(4, .int x104), (0, .ref (a 9 0)), (1, .int x1), (2, .int x2), (3, .int x3)]) hx hb dX9_number_17 hl (by decide) rfl (fun ls hl => ?_)
    refine lv_iconst (v := 0) hx hb dX9_number_19 (by decide) ?_
    refine lv_istore (lv' := [(5, .int 0), (4, .int x104), (0, .ref (a 9 0)), (1, .int x1), (2, .int x2), (3, .int x3)]) hx hb dX9_number_20 hl (by decide) rfl (fun ls hl => ?_)
    refine lv_aload_n hx hb dX9_number_22 rfl (lv_at hl 2 rfl) ?_
    refine lv_aload_n hx hb dX9_number_23 rfl (lv_at hl 2 rfl) ?_
    refine r_get C hR 9 0 4 (v := .int (gI u103 9 0 4)) (lv0 (by decide) (by decide)) (by decide) (by decide) rfl fl_X9_85 dX9_number_24 ?_
    obtain ⟨x106, hc105, h⟩ := ob h
    refine r_callV1 (As := [.int (gI u103 9 0 4)]) (rest := []) (r := 9) (i := 0) C (vX9_byteAt hc105) hR hS (lv0 (by decide) (by decide)) (by decide) ml_X9_88 mw_X9_byteAt rfl ⟨Nat.le_of_ble_eq_true rfl, Nat.le_of_ble_eq_true rfl, Nat.le_of_ble_eq_true rfl, Nat.le_of_ble_eq_true rfl⟩ hl.1 rfl (Nat.le_of_ble_eq_true rfl) dX9_number_27 (fun H locs hR hS => ?_)
    obtain ⟨x108, hc107, h⟩ := ob h
    refine r_callS1 (As := [.int x106]) (rest := []) C (vX9_isDigit hc107) hR hS ml_X9_104 ms_X9_isDigit rfl ⟨Nat.le_of_ble_eq_true rfl, Nat.le_of_ble_eq_true rfl, Nat.le_of_ble_eq_true rfl, Nat.le_of_ble_eq_true rfl⟩ hl.1 rfl (Nat.le_of_ble_eq_true rfl) dX9_number_30 (fun H locs hR hS => ?_)
    refine jp_cut h (fun j110 hj110 h => ?_)
    have Kj110 : ∀ (u109 : HS) (H : Heap) (locs : List Loc) (ls : Array Slot), j110 u109 = some out → Rel E a u109 H → va_S (AE E) s.heap H locs → lv_has ls 6 [(0, .ref (a 9 0)), (1, .int x1), (2, .int x2), (3, .int x3), (4, .int x104), (5, .int 0)] → W p l e { frames := 2, cells := 0, slots := 0, locals := 41 } s m args below meth c H locs 0 0 (MQ below (QW E a (some (.int out.1)) out.2) args s 0 0 (AE E)) (F0 m 45 ls []) := by
      intro u109 H locs ls h hR hS hl
      replace h := jx1 hj110 h
      refine jp_cut h (fun w115 hw115 h => ?_)
      have Kw115 : ∀ (x113 : Int32) (u114 : HS) (H : Heap) (locs : List Loc) (ls : Array Slot), w115 x113 u114 = some out → Rel E a u114 H → va_S (AE E) s.heap H locs → lv_has ls 6 [(0, .ref (a 9 0)), (1, .int x1), (2, .int x2), (3, .int x3), (4, .int x104), (5, .int x113)] → W p l e { frames := 2, cells := 0, slots := 0, locals := 41 } s m args below meth c H locs 0 0 (MQ below (QW E a (some (.int out.1)) out.2) args s 0 0 (AE E)) (F0 m 107 ls []) := by
        intro x113 u114 H locs ls h hR hS hl
        replace h := jx2 hw115 h
        refine lv_iload hx hb dX9_number_107 (lv_at hl 5 rfl) ?_
        refine lv_iload_n hx hb dX9_number_109 rfl (lv_at hl 1 rfl) ?_
        refine lv_iload_n hx hb dX9_number_110 rfl (lv_at hl 2 rfl) ?_
        obtain ⟨x117, hc116, h⟩ := ob h
        refine r_callS1 (As := [.int x113, .int x1, .int x2]) (rest := []) C (vX9_in hc116) hR hS ml_X9_113 ms_X9_in rfl ⟨Nat.le_of_ble_eq_true rfl, Nat.le_of_ble_eq_true rfl, Nat.le_of_ble_eq_true rfl, Nat.le_of_ble_eq_true rfl⟩ hl.1 rfl (Nat.le_of_ble_eq_true rfl) dX9_number_111 (fun H locs hR hS => ?_)
        refine jp_cut h (fun j118 hj118 h => ?_)
        have Kj118 : ∀  (H : Heap) (locs : List Loc) (ls : Array Slot), j118 = some out → Rel E a u114 H → va_S (AE E) s.heap H locs → lv_has ls 6 [(0, .ref (a 9 0)), (4, .int x104), (5, .int x113)] → W p l e { frames := 2, cells := 0, slots := 0, locals := 41 } s m args below meth c H locs 0 0 (MQ below (QW E a (some (.int out.1)) out.2) args s 0 0 (AE E)) (F0 m 123 ls []) := by
          intro  H locs ls h hR hS hl
          replace h := jx0 hj118 h
          refine lv_aload_n hx hb dX9_number_123 rfl (lv_at hl 0 rfl) ?_
          refine lv_iconst (v := 2) hx hb dX9_number_124 (by decide) ?_
          refine lv_iload hx hb dX9_number_125 (lv_at hl 1 rfl) ?_
          obtain ⟨u120, hc119, h⟩ := ob h
          refine r_callV0 (As := [.int 2, .int x104]) (rest := []) (r := 9) (i := 0) C (vX9_wrongAt hc119) hR hS (lv0 (by decide) (by decide)) (by decide) ml_X9_108 mw_X9_wrongAt rfl ⟨Nat.le_of_ble_eq_true rfl, Nat.le_of_ble_eq_true rfl, Nat.le_of_ble_eq_true rfl, Nat.le_of_ble_eq_true rfl⟩ hl.1 rfl (Nat.le_of_ble_eq_true rfl) dX9_number_127 (fun H locs hR hS => ?_)
          refine lv_iload hx hb dX9_number_130 (lv_at hl 2 rfl) ?_
          cases h
          exact e_iret C hr hR hS (Nat.le_of_ble_eq_true rfl) (Nat.le_of_ble_eq_true rfl) dX9_number_132
        refine lv_if_eq (tgt := 123) hx hb dX9_number_114 (by decide) (fun c_121 => ?_) (fun c_121 => ?_)
        · rw [if_pos c_121] at h
          exact Kj118  _ _ _ h hR hS (lv_sub hl [0, 4, 5] rfl)
        · rw [if_neg c_121] at h
          refine lv_iload hx hb dX9_number_117 (lv_at hl 5 rfl) ?_
          refine lv_iload_n hx hb dX9_number_119 rfl (lv_at hl 3 rfl) ?_
          refine lv_icmp_ne (tgt := 130) hx hb dX9_number_120 (by decide) (fun c_122 => ?_) (fun c_122 => ?_)
          · rw [if_neg c_122] at h
            refine lv_iload hx hb dX9_number_130 (lv_at hl 5 rfl) ?_
            cases h
            exact e_iret C hr hR hS (Nat.le_of_ble_eq_true rfl) (Nat.le_of_ble_eq_true rfl) dX9_number_132
          · rw [if_pos c_122] at h
            exact Kj118  _ _ _ h hR hS (lv_sub hl [0, 4, 5] rfl)
      have LP : ∀ (fu : Nat) (x111 : Int32) (u112 : HS) (H : Heap) (locs : List Loc) (ls : Array Slot), mX9_number_L45  w115 fu x111 u112 = some out → Rel E a u112 H → va_S (AE E) s.heap H locs → lv_has ls 6 [(0, .ref (a 9 0)), (1, .int x1), (2, .int x2), (3, .int x3), (4, .int x104), (5, .int x111)] → W p l e { frames := 2, cells := 0, slots := 0, locals := 41 } s m args below meth c H locs 0 0 (MQ below (QW E a (some (.int out.1)) out.2) args s 0 0 (AE E)) (F0 m 45 ls []) := by
        intro fu
        induction fu with
        | zero =>
          intro x111 u112 H locs ls h
          have h2 : (none : Option (Int32 × HS)) = some out := h
          cases h2
        | succ fu ih =>
          intro x111 u112 H locs ls h hR hS hl
          rw [mX9_number_L45.eq_2] at h
          refine lv_aload_n hx hb dX9_number_45 rfl (lv_at hl 0 rfl) ?_
          refine lv_aload_n hx hb dX9_number_46 rfl (lv_at hl 0 rfl) ?_
          refine r_get C hR 9 0 4 (v := .int (gI u112 9 0 4)) (lv0 (by decide) (by decide)) (by decide) (by decide) rfl fl_X9_85 dX9_number_47 ?_
          obtain ⟨x124, hc123, h⟩ := ob h
          refine r_callV1 (As := [.int (gI u112 9 0 4)]) (rest := []) (r := 9) (i := 0) C (vX9_byteAt hc123) hR hS (lv0 (by decide) (by decide)) (by decide) ml_X9_88 mw_X9_byteAt rfl ⟨Nat.le_of_ble_eq_true rfl, Nat.le_of_ble_eq_true rfl, Nat.le_of_ble_eq_true rfl, Nat.le_of_ble_eq_true rfl⟩ hl.1 rfl (Nat.le_of_ble_eq_true rfl) dX9_number_50 (fun H locs hR hS => ?_)
          obtain ⟨x126, hc125, h⟩ := ob h
          refine r_callS1 (As := [.int x124]) (rest := []) C (vX9_isDigit hc125) hR hS ml_X9_104 ms_X9_isDigit rfl ⟨Nat.le_of_ble_eq_true rfl, Nat.le_of_ble_eq_true rfl, Nat.le_of_ble_eq_true rfl, Nat.le_of_ble_eq_true rfl⟩ hl.1 rfl (Nat.le_of_ble_eq_true rfl) dX9_number_53 (fun H locs hR hS => ?_)
          refine lv_if_eq (tgt := 107) hx hb dX9_number_56 (by decide) (fun c_127 => ?_) (fun c_127 => ?_)
          · rw [if_pos c_127] at h
            exact Kw115 _ _ _ _ _ h hR hS (lv_sub hl [0, 1, 2, 3, 4, 5] rfl)
          · rw [if_neg c_127] at h
            refine lv_bipush (v := 10) hx hb dX9_number_59 (by decide) ?_
            refine lv_iload hx hb dX9_number_61 (lv_at hl 5 rfl) ?_
            refine lv_imul hx hb dX9_number_63 ?_
            refine lv_aload_n hx hb dX9_number_64 rfl (lv_at hl 0 rfl) ?_
            refine lv_aload_n hx hb dX9_number_65 rfl (lv_at hl 0 rfl) ?_
            refine r_get C hR 9 0 4 (v := .int (gI u112 9 0 4)) (lv0 (by decide) (by decide)) (by decide) (by decide) rfl fl_X9_85 dX9_number_66 ?_
            obtain ⟨x129, hc128, h⟩ := ob h
            refine r_callV1 (As := [.int (gI u112 9 0 4)]) (rest := [.int (10 * x111)]) (r := 9) (i := 0) C (vX9_byteAt hc128) hR hS (lv0 (by decide) (by decide)) (by decide) ml_X9_88 mw_X9_byteAt rfl ⟨Nat.le_of_ble_eq_true rfl, Nat.le_of_ble_eq_true rfl, Nat.le_of_ble_eq_true rfl, Nat.le_of_ble_eq_true rfl⟩ hl.1 rfl (Nat.le_of_ble_eq_true rfl) dX9_number_69 (fun H locs hR hS => ?_)
            refine lv_iadd hx hb dX9_number_72 ?_
            refine lv_bipush (v := 48) hx hb dX9_number_73 (by decide) ?_
            refine lv_isub hx hb dX9_number_75 ?_
            refine lv_topi (fun x130 ex130 => ?_)
            replace h := bd_x ex130 h
            refine lv_istore (lv' := [(5, .int x130), (0, .ref (a 9 0)), (1, .int x1), (2, .int x2), (3, .int x3), (4, .int x104)]) hx hb dX9_number_76 hl (by decide) rfl (fun ls hl => ?_)
            refine lv_iload hx hb dX9_number_78 (lv_at hl 0 rfl) ?_
            refine lv_ldc (own := RX9) (v := 100000) hx hb C.2.2.2.1 (C.2.2.2.2.1 _ cst_X9_112) dX9_number_80 ?_
            obtain ⟨x131, hz, h⟩ := ob h
            have Kj132 : ∀ (H : Heap) (locs : List Loc) (ls : Array Slot), Rel E a u112 H → va_S (AE E) s.heap H locs → lv_has ls 6 [(0, .ref (a 9 0)), (1, .int x1), (2, .int x2), (3, .int x3), (4, .int x104)] → W p l e { frames := 2, cells := 0, slots := 0, locals := 41 } s m args below meth c H locs 0 0 (MQ below (QW E a (some (.int out.1)) out.2) args s 0 0 (AE E)) (F0 m 92 ls [.int x131]) := by
              intro H locs ls hR hS hl
              clear hz
              refine lv_istore (lv' := [(5, .int x131), (0, .ref (a 9 0)), (1, .int x1), (2, .int x2), (3, .int x3), (4, .int x104)]) hx hb dX9_number_92 hl (by decide) rfl (fun ls hl => ?_)
              refine lv_aload_n hx hb dX9_number_94 rfl (lv_at hl 1 rfl) ?_
              refine lv_dup hx hb dX9_number_95 rfl ?_
              refine r_get C hR 9 0 4 (v := .int (gI u112 9 0 4)) (lv0 (by decide) (by decide)) (by decide) (by decide) rfl fl_X9_85 dX9_number_96 ?_
              refine lv_iconst (v := 1) hx hb dX9_number_99 (by decide) ?_
              refine lv_iadd hx hb dX9_number_100 ?_
              refine r_putI (ty := .int) C hR hS 9 0 4 (lv0 (by decide) (by decide)) (by decide) (by decide) (fun _ => rfl) fl_X9_85 (by decide) (by decide +kernel) rfl rfl dX9_number_101 (fun H locs hR hS => ?_)
              obtain ⟨u133, eu133⟩ : ∃ z : HS, z = wI u112 9 0 4 ((gI u112 9 0 4) + 1) := ⟨_, rfl⟩
              rw [← eu133] at hR
              replace h := bd_x eu133 h
              clear eu133
              refine lv_goto (tgt := 45) hx hb dX9_number_104 (by decide) ?_
              exact ih _ _ _ _ _ h hR hS (lv_sub hl [1, 2, 3, 4, 5, 0] rfl)
            clear h
            have h := hz
            clear hz
            refine lv_icmp_le (tgt := 90) hx hb dX9_number_82 (by decide) (fun c_134 => ?_) (fun c_134 => ?_)
            · rw [if_pos c_134] at h
              refine lv_iload hx hb dX9_number_90 (lv_at hl 0 rfl) ?_
              cases h
              exact Kj132 _ _ _ hR hS (lv_sub hl [1, 2, 3, 4, 5] rfl)
            · rw [if_neg c_134] at h
              refine lv_ldc (own := RX9) (v := 100000) hx hb C.2.2.2.1 (C.2.2.2.2.1 _ cst_X9_112) dX9_number_85 ?_
              refine lv_goto (tgt := 92) hx hb dX9_number_87 (by decide) ?_
              cases h
              exact Kj132 _ _ _ hR hS (lv_sub hl [1, 2, 3, 4, 5] rfl)
      exact LP FU _ _ _ _ _ h hR hS (lv_sub hl [0, 1, 2, 3, 4, 5] rfl)
    refine lv_if_ne (tgt := 45) hx hb dX9_number_33 (by decide) (fun c_135 => ?_) (fun c_135 => ?_)
    · rw [if_neg c_135] at h
      exact Kj110 _ _ _ _ h hR hS (lv_sub hl [2, 3, 4, 5, 1, 0] rfl)
    · rw [if_pos c_135] at h
      refine lv_aload_n hx hb dX9_number_36 rfl (lv_at hl 2 rfl) ?_
      refine lv_iconst (v := 1) hx hb dX9_number_37 (by decide) ?_
      refine lv_aload_n hx hb dX9_number_38 rfl (lv_at hl 2 rfl) ?_
      refine r_get C hR 9 0 4 (v := .int (gI u103 9 0 4)) (lv0 (by decide) (by decide)) (by decide) (by decide) rfl fl_X9_85 dX9_number_39 ?_
      obtain ⟨u137, hc136, h⟩ := ob h
      refine r_callV0 (As := [.int 1, .int (gI u103 9 0 4)]) (rest := []) (r := 9) (i := 0) C (vX9_wrongAt hc136) hR hS (lv0 (by decide) (by decide)) (by decide) ml_X9_108 mw_X9_wrongAt rfl ⟨Nat.le_of_ble_eq_true rfl, Nat.le_of_ble_eq_true rfl, Nat.le_of_ble_eq_true rfl, Nat.le_of_ble_eq_true rfl⟩ hl.1 rfl (Nat.le_of_ble_eq_true rfl) dX9_number_42 (fun H locs hR hS => ?_)
      exact Kj110 _ _ _ _ h hR hS (lv_sub hl [2, 3, 4, 5, 1, 0] rfl)
  · rw [if_neg c_101] at h
    refine lv_iconst (v := 0) hx hb dX9_number_7 (by decide) ?_
    cases h
    exact e_iret C hr hR hS (Nat.le_of_ble_eq_true rfl) (Nat.le_of_ble_eq_true rfl) dX9_number_8
set_option maxHeartbeats 4000000 in
set_option maxRecDepth 100000 in
theorem vX9_wordHere {l : Launch} {E : EV} {a : Nat → Nat → Nat} {u0 : HS}  {out : (Int32 × HS)} (h : mX9_wordHere u0 = some out) : Ct l E yX9_wordHere cX9_wordHere 3 (some .int) 2 41 0 0 a u0 [.ref (a 9 0)] (some (.int out.1)) out.2 := by
  refine Ct.start (by decide) (Nat.le_of_ble_eq_true rfl) ?_
  intro p e s m args below meth c ls C hr hR hS hl
  have C : Cx E p s m args meth c cX9_wordHere 3 RX9 := C
  have hl : lv_has ls 3 [(0, .ref (a 9 0))] := hl
  have hx := C.1
  have hb := C.2.1
  unfold mX9_wordHere at h
  refine lv_aload_n hx hb dX9_wordHere_0 rfl (lv_at hl 0 rfl) ?_
  obtain ⟨u102, hc101, h⟩ := ob h
  refine r_callV0 (As := []) (rest := []) (r := 9) (i := 0) C (vX9_blanks hc101) hR hS (lv0 (by decide) (by decide)) (by decide) ml_X9_101 mw_X9_blanks rfl ⟨Nat.le_of_ble_eq_true rfl, Nat.le_of_ble_eq_true rfl, Nat.le_of_ble_eq_true rfl, Nat.le_of_ble_eq_true rfl⟩ hl.1 rfl (Nat.le_of_ble_eq_true rfl) dX9_wordHere_1 (fun H locs hR hS => ?_)
  refine lv_iconst (v := 0) hx hb dX9_wordHere_4 (by decide) ?_
  refine lv_istore_n (lv' := [(1, .int 0), (0, .ref (a 9 0))]) hx hb dX9_wordHere_5 rfl hl (by decide) rfl (fun ls hl => ?_)
  refine lv_iconst (v := 0) hx hb dX9_wordHere_6 (by decide) ?_
  refine lv_istore_n (lv' := [(2, .int 0), (1, .int 0), (0, .ref (a 9 0))]) hx hb dX9_wordHere_7 rfl hl (by decide) rfl (fun ls hl => ?_)
  refine jp_cut h (fun w107 hw107 h => ?_)
  have Kw107 : ∀ (x105 : Int32) (x106 : Int32) (H : Heap) (locs : List Loc) (ls : Array Slot), w107 x105 x106 = some out → Rel E a u102 H → va_S (AE E) s.heap H locs → lv_has ls 3 [(1, .int x105), (2, .int x106)] → W p l e { frames := 2, cells := 0, slots := 0, locals := 41 } s m args below meth c H locs 0 0 (MQ below (QW E a (some (.int out.1)) out.2) args s 0 0 (AE E)) (F0 m 75 ls []) := by
    intro x105 x106 H locs ls h hR hS hl
    replace h := jx2 hw107 h
    refine lv_iload_n hx hb dX9_wordHere_75 rfl (lv_at hl 1 rfl) ?_
    refine lv_bipush (v := 6) hx hb dX9_wordHere_76 (by decide) ?_
    refine lv_icmp_le (tgt := 85) hx hb dX9_wordHere_78 (by decide) (fun c_108 => ?_) (fun c_108 => ?_)
    · rw [if_pos c_108] at h
      refine lv_iload_n hx hb dX9_wordHere_85 rfl (lv_at hl 0 rfl) ?_
      cases h
      exact e_iret C hr hR hS (Nat.le_of_ble_eq_true rfl) (Nat.le_of_ble_eq_true rfl) dX9_wordHere_86
    · rw [if_neg c_108] at h
      refine lv_iconst (v := (-1)) hx hb dX9_wordHere_81 (by decide) ?_
      refine lv_goto (tgt := 86) hx hb dX9_wordHere_82 (by decide) ?_
      cases h
      exact e_iret C hr hR hS (Nat.le_of_ble_eq_true rfl) (Nat.le_of_ble_eq_true rfl) dX9_wordHere_86
  have LP : ∀ (fu : Nat) (x103 : Int32) (x104 : Int32) (H : Heap) (locs : List Loc) (ls : Array Slot), mX9_wordHere_L8 u102 w107 fu x103 x104 = some out → Rel E a u102 H → va_S (AE E) s.heap H locs → lv_has ls 3 [(0, .ref (a 9 0)), (1, .int x103), (2, .int x104)] → W p l e { frames := 2, cells := 0, slots := 0, locals := 41 } s m args below meth c H locs 0 0 (MQ below (QW E a (some (.int out.1)) out.2) args s 0 0 (AE E)) (F0 m 8 ls []) := by
    intro fu
    induction fu with
    | zero =>
      intro x103 x104 H locs ls h
      have h2 : (none : Option (Int32 × HS)) = some out := h
      cases h2
    | succ fu ih =>
      intro x103 x104 H locs ls h hR hS hl
      rw [mX9_wordHere_L8.eq_2] at h
      refine lv_aload_n hx hb dX9_wordHere_8 rfl (lv_at hl 0 rfl) ?_
      refine lv_aload_n hx hb dX9_wordHere_9 rfl (lv_at hl 0 rfl) ?_
      refine r_get C hR 9 0 4 (v := .int (gI u102 9 0 4)) (lv0 (by decide) (by decide)) (by decide) (by decide) rfl fl_X9_85 dX9_wordHere_10 ?_
      refine lv_iload_n hx hb dX9_wordHere_13 rfl (lv_at hl 2 rfl) ?_
      refine lv_iadd hx hb dX9_wordHere_14 ?_
      obtain ⟨x110, hc109, h⟩ := ob h
      refine r_callV1 (As := [.int ((gI u102 9 0 4) + x104)]) (rest := []) (r := 9) (i := 0) C (vX9_byteAt hc109) hR hS (lv0 (by decide) (by decide)) (by decide) ml_X9_88 mw_X9_byteAt rfl ⟨Nat.le_of_ble_eq_true rfl, Nat.le_of_ble_eq_true rfl, Nat.le_of_ble_eq_true rfl, Nat.le_of_ble_eq_true rfl⟩ hl.1 rfl (Nat.le_of_ble_eq_true rfl) dX9_wordHere_15 (fun H locs hR hS => ?_)
      refine lv_bipush (v := 97) hx hb dX9_wordHere_18 (by decide) ?_
      refine lv_icmp_lt (tgt := 75) hx hb dX9_wordHere_20 (by decide) (fun c_111 => ?_) (fun c_111 => ?_)
      · rw [if_pos c_111] at h
        exact Kw107 _ _ _ _ _ h hR hS (lv_sub hl [1, 2] rfl)
      · rw [if_neg c_111] at h
        refine lv_aload_n hx hb dX9_wordHere_23 rfl (lv_at hl 0 rfl) ?_
        refine lv_aload_n hx hb dX9_wordHere_24 rfl (lv_at hl 0 rfl) ?_
        refine r_get C hR 9 0 4 (v := .int (gI u102 9 0 4)) (lv0 (by decide) (by decide)) (by decide) (by decide) rfl fl_X9_85 dX9_wordHere_25 ?_
        refine lv_iload_n hx hb dX9_wordHere_28 rfl (lv_at hl 2 rfl) ?_
        refine lv_iadd hx hb dX9_wordHere_29 ?_
        obtain ⟨x113, hc112, h⟩ := ob h
        refine r_callV1 (As := [.int ((gI u102 9 0 4) + x104)]) (rest := []) (r := 9) (i := 0) C (vX9_byteAt hc112) hR hS (lv0 (by decide) (by decide)) (by decide) ml_X9_88 mw_X9_byteAt rfl ⟨Nat.le_of_ble_eq_true rfl, Nat.le_of_ble_eq_true rfl, Nat.le_of_ble_eq_true rfl, Nat.le_of_ble_eq_true rfl⟩ hl.1 rfl (Nat.le_of_ble_eq_true rfl) dX9_wordHere_30 (fun H locs hR hS => ?_)
        refine lv_bipush (v := 122) hx hb dX9_wordHere_33 (by decide) ?_
        refine lv_icmp_gt (tgt := 75) hx hb dX9_wordHere_35 (by decide) (fun c_114 => ?_) (fun c_114 => ?_)
        · rw [if_pos c_114] at h
          exact Kw107 _ _ _ _ _ h hR hS (lv_sub hl [1, 2] rfl)
        · rw [if_neg c_114] at h
          refine lv_iload_n hx hb dX9_wordHere_38 rfl (lv_at hl 2 rfl) ?_
          refine lv_bipush (v := 6) hx hb dX9_wordHere_39 (by decide) ?_
          obtain ⟨x115, hz, h⟩ := ob h
          have Kj116 : ∀ (H : Heap) (locs : List Loc) (ls : Array Slot), Rel E a u102 H → va_S (AE E) s.heap H locs → lv_has ls 3 [(0, .ref (a 9 0)), (2, .int x104)] → W p l e { frames := 2, cells := 0, slots := 0, locals := 41 } s m args below meth c H locs 0 0 (MQ below (QW E a (some (.int out.1)) out.2) args s 0 0 (AE E)) (F0 m 68 ls [.int x115]) := by
            intro H locs ls hR hS hl
            clear hz
            refine lv_istore_n (lv' := [(1, .int x115), (0, .ref (a 9 0)), (2, .int x104)]) hx hb dX9_wordHere_68 rfl hl (by decide) rfl (fun ls hl => ?_)
            obtain ⟨x117, ex117⟩ : ∃ z : Int32, z = x104 + 1 := ⟨_, rfl⟩
            replace h := bd_x ex117 h
            refine lv_iinc (v := x117) (lv' := [(2, .int x117), (1, .int x115), (0, .ref (a 9 0))]) hx hb dX9_wordHere_69 hl (k := 2) rfl (by rw [ex117]; rfl) (by decide) rfl (fun ls hl => ?_)
            refine lv_goto (tgt := 8) hx hb dX9_wordHere_72 (by decide) ?_
            exact ih _ _ _ _ _ h hR hS (lv_sub hl [2, 1, 0] rfl)
          clear h
          have h := hz
          clear hz
          refine lv_icmp_ge (tgt := 67) hx hb dX9_wordHere_41 (by decide) (fun c_118 => ?_) (fun c_118 => ?_)
          · rw [if_pos c_118] at h
            refine lv_iload_n hx hb dX9_wordHere_67 rfl (lv_at hl 1 rfl) ?_
            cases h
            exact Kj116 _ _ _ hR hS (lv_sub hl [0, 2] rfl)
          · rw [if_neg c_118] at h
            refine lv_bipush (v := 27) hx hb dX9_wordHere_44 (by decide) ?_
            refine lv_iload_n hx hb dX9_wordHere_46 rfl (lv_at hl 1 rfl) ?_
            refine lv_imul hx hb dX9_wordHere_47 ?_
            refine lv_aload_n hx hb dX9_wordHere_48 rfl (lv_at hl 0 rfl) ?_
            refine lv_aload_n hx hb dX9_wordHere_49 rfl (lv_at hl 0 rfl) ?_
            refine r_get C hR 9 0 4 (v := .int (gI u102 9 0 4)) (lv0 (by decide) (by decide)) (by decide) (by decide) rfl fl_X9_85 dX9_wordHere_50 ?_
            refine lv_iload_n hx hb dX9_wordHere_53 rfl (lv_at hl 2 rfl) ?_
            refine lv_iadd hx hb dX9_wordHere_54 ?_
            obtain ⟨x120, hc119, h⟩ := ob h
            refine r_callV1 (As := [.int ((gI u102 9 0 4) + x104)]) (rest := [.int (27 * x103)]) (r := 9) (i := 0) C (vX9_byteAt hc119) hR hS (lv0 (by decide) (by decide)) (by decide) ml_X9_88 mw_X9_byteAt rfl ⟨Nat.le_of_ble_eq_true rfl, Nat.le_of_ble_eq_true rfl, Nat.le_of_ble_eq_true rfl, Nat.le_of_ble_eq_true rfl⟩ hl.1 rfl (Nat.le_of_ble_eq_true rfl) dX9_wordHere_55 (fun H locs hR hS => ?_)
            refine lv_iadd hx hb dX9_wordHere_58 ?_
            refine lv_bipush (v := 97) hx hb dX9_wordHere_59 (by decide) ?_
            refine lv_isub hx hb dX9_wordHere_61 ?_
            refine lv_iconst (v := 1) hx hb dX9_wordHere_62 (by decide) ?_
            refine lv_iadd hx hb dX9_wordHere_63 ?_
            refine lv_goto (tgt := 68) hx hb dX9_wordHere_64 (by decide) ?_
            cases h
            exact Kj116 _ _ _ hR hS (lv_sub hl [0, 2] rfl)
  exact LP FU _ _ _ _ _ h hR hS (lv_sub hl [2, 1, 0] rfl)
set_option maxHeartbeats 4000000 in
set_option maxRecDepth 100000 in
theorem vX9_word {l : Launch} {E : EV} {a : Nat → Nat → Nat} {u0 : HS} {x0 : Int32} {x1 : Int32} {x2 : Int32} {x3 : Int32} {x4 : Int32} {x5 : Int32} {out : Int32} (h : mX9_word x0 x1 x2 x3 x4 x5 = some out) : Ct l E yX9_word cX9_word 7 (some .int) 0 0 0 0 a u0 [.int x0, .int x1, .int x2, .int x3, .int x4, .int x5] (some (.int out)) u0 := by
  refine Ct.start (by decide) (Nat.le_of_ble_eq_true rfl) ?_
  intro p e s m args below meth c ls C hr hR hS hl
  have C : Cx E p s m args meth c cX9_word 7 RX9 := C
  have hl : lv_has ls 7 [(0, .int x0), (1, .int x1), (2, .int x2), (3, .int x3), (4, .int x4), (5, .int x5)] := hl
  have hx := C.1
  have hb := C.2.1
  unfold mX9_word at h
  refine lv_bipush (v := 27) hx hb dX9_word_0 (by decide) ?_
  refine lv_iload_n hx hb dX9_word_2 rfl (lv_at hl 0 rfl) ?_
  refine lv_imul hx hb dX9_word_3 ?_
  refine lv_iload_n hx hb dX9_word_4 rfl (lv_at hl 1 rfl) ?_
  refine lv_iadd hx hb dX9_word_5 ?_
  refine lv_topi (fun x101 ex101 => ?_)
  replace h := bd_x ex101 h
  refine lv_istore (lv' := [(6, .int x101), (0, .int x0), (1, .int x1), (2, .int x2), (3, .int x3), (4, .int x4), (5, .int x5)]) hx hb dX9_word_6 hl (by decide) rfl (fun ls hl => ?_)
  refine lv_iload_n hx hb dX9_word_8 rfl (lv_at hl 3 rfl) ?_
  obtain ⟨x102, hz, h⟩ := ob h
  have Kj103 : ∀ (H : Heap) (locs : List Loc) (ls : Array Slot), Rel E a u0 H → va_S (AE E) s.heap H locs → lv_has ls 7 [(3, .int x3), (4, .int x4), (5, .int x5)] → W p l e { frames := 0, cells := 0, slots := 0, locals := 0 } s m args below meth c H locs 0 0 (MQ below (QW E a (some (.int out)) u0) args s 0 0 (AE E)) (F0 m 24 ls [.int x102]) := by
    intro H locs ls hR hS hl
    clear hz
    refine lv_istore (lv' := [(6, .int x102), (3, .int x3), (4, .int x4), (5, .int x5)]) hx hb dX9_word_24 hl (by decide) rfl (fun ls hl => ?_)
    refine lv_iload_n hx hb dX9_word_26 rfl (lv_at hl 1 rfl) ?_
    obtain ⟨x104, hz, h⟩ := ob h
    have Kj105 : ∀ (H : Heap) (locs : List Loc) (ls : Array Slot), Rel E a u0 H → va_S (AE E) s.heap H locs → lv_has ls 7 [(4, .int x4), (5, .int x5)] → W p l e { frames := 0, cells := 0, slots := 0, locals := 0 } s m args below meth c H locs 0 0 (MQ below (QW E a (some (.int out)) u0) args s 0 0 (AE E)) (F0 m 42 ls [.int x104]) := by
      intro H locs ls hR hS hl
      clear hz
      refine lv_istore (lv' := [(6, .int x104), (4, .int x4), (5, .int x5)]) hx hb dX9_word_42 hl (by decide) rfl (fun ls hl => ?_)
      refine lv_iload hx hb dX9_word_44 (lv_at hl 1 rfl) ?_
      obtain ⟨x106, hz, h⟩ := ob h
      have Kj107 : ∀ (H : Heap) (locs : List Loc) (ls : Array Slot), Rel E a u0 H → va_S (AE E) s.heap H locs → lv_has ls 7 [(5, .int x5)] → W p l e { frames := 0, cells := 0, slots := 0, locals := 0 } s m args below meth c H locs 0 0 (MQ below (QW E a (some (.int out)) u0) args s 0 0 (AE E)) (F0 m 62 ls [.int x106]) := by
        intro H locs ls hR hS hl
        clear hz
        refine lv_istore (lv' := [(6, .int x106), (5, .int x5)]) hx hb dX9_word_62 hl (by decide) rfl (fun ls hl => ?_)
        refine lv_iload hx hb dX9_word_64 (lv_at hl 1 rfl) ?_
        refine lv_if_ne (tgt := 74) hx hb dX9_word_66 (by decide) (fun c_108 => ?_) (fun c_108 => ?_)
        · rw [if_neg c_108] at h
          refine lv_bipush (v := 27) hx hb dX9_word_74 (by decide) ?_
          refine lv_iload hx hb dX9_word_76 (lv_at hl 0 rfl) ?_
          refine lv_imul hx hb dX9_word_78 ?_
          refine lv_iload hx hb dX9_word_79 (lv_at hl 1 rfl) ?_
          refine lv_iadd hx hb dX9_word_81 ?_
          cases h
          exact e_iret C hr hR hS (Nat.le_of_ble_eq_true rfl) (Nat.le_of_ble_eq_true rfl) dX9_word_82
        · rw [if_pos c_108] at h
          refine lv_iload hx hb dX9_word_69 (lv_at hl 0 rfl) ?_
          refine lv_goto (tgt := 82) hx hb dX9_word_71 (by decide) ?_
          cases h
          exact e_iret C hr hR hS (Nat.le_of_ble_eq_true rfl) (Nat.le_of_ble_eq_true rfl) dX9_word_82
      clear h
      have h := hz
      clear hz
      refine lv_if_ne (tgt := 54) hx hb dX9_word_46 (by decide) (fun c_109 => ?_) (fun c_109 => ?_)
      · rw [if_neg c_109] at h
        refine lv_bipush (v := 27) hx hb dX9_word_54 (by decide) ?_
        refine lv_iload hx hb dX9_word_56 (lv_at hl 0 rfl) ?_
        refine lv_imul hx hb dX9_word_58 ?_
        refine lv_iload hx hb dX9_word_59 (lv_at hl 1 rfl) ?_
        refine lv_iadd hx hb dX9_word_61 ?_
        cases h
        exact Kj107 _ _ _ hR hS (lv_sub hl [2] rfl)
      · rw [if_pos c_109] at h
        refine lv_iload hx hb dX9_word_49 (lv_at hl 0 rfl) ?_
        refine lv_goto (tgt := 62) hx hb dX9_word_51 (by decide) ?_
        cases h
        exact Kj107 _ _ _ hR hS (lv_sub hl [2] rfl)
    clear h
    have h := hz
    clear hz
    refine lv_if_ne (tgt := 35) hx hb dX9_word_27 (by decide) (fun c_110 => ?_) (fun c_110 => ?_)
    · rw [if_neg c_110] at h
      refine lv_bipush (v := 27) hx hb dX9_word_35 (by decide) ?_
      refine lv_iload hx hb dX9_word_37 (lv_at hl 0 rfl) ?_
      refine lv_imul hx hb dX9_word_39 ?_
      refine lv_iload_n hx hb dX9_word_40 rfl (lv_at hl 1 rfl) ?_
      refine lv_iadd hx hb dX9_word_41 ?_
      cases h
      exact Kj105 _ _ _ hR hS (lv_sub hl [2, 3] rfl)
    · rw [if_pos c_110] at h
      refine lv_iload hx hb dX9_word_30 (lv_at hl 0 rfl) ?_
      refine lv_goto (tgt := 42) hx hb dX9_word_32 (by decide) ?_
      cases h
      exact Kj105 _ _ _ hR hS (lv_sub hl [2, 3] rfl)
  clear h
  have h := hz
  clear hz
  refine lv_if_ne (tgt := 17) hx hb dX9_word_9 (by decide) (fun c_111 => ?_) (fun c_111 => ?_)
  · rw [if_neg c_111] at h
    refine lv_bipush (v := 27) hx hb dX9_word_17 (by decide) ?_
    refine lv_iload hx hb dX9_word_19 (lv_at hl 0 rfl) ?_
    refine lv_imul hx hb dX9_word_21 ?_
    refine lv_iload_n hx hb dX9_word_22 rfl (lv_at hl 3 rfl) ?_
    refine lv_iadd hx hb dX9_word_23 ?_
    cases h
    exact Kj103 _ _ _ hR hS (lv_sub hl [4, 5, 6] rfl)
  · rw [if_pos c_111] at h
    refine lv_iload hx hb dX9_word_12 (lv_at hl 0 rfl) ?_
    refine lv_goto (tgt := 24) hx hb dX9_word_14 (by decide) ?_
    cases h
    exact Kj103 _ _ _ hR hS (lv_sub hl [4, 5, 6] rfl)
set_option maxHeartbeats 4000000 in
set_option maxRecDepth 100000 in
theorem vX9_isWord {l : Launch} {E : EV} {a : Nat → Nat → Nat} {u0 : HS} {x1 : Int32} {x2 : Int32} {x3 : Int32} {x4 : Int32} {x5 : Int32} {x6 : Int32} {out : (Int32 × HS)} (h : mX9_isWord u0 x1 x2 x3 x4 x5 x6 = some out) : Ct l E yX9_isWord cX9_isWord 7 (some .boolean) 3 63 0 0 a u0 [.ref (a 9 0), .int x1, .int x2, .int x3, .int x4, .int x5, .int x6] (some (.int out.1)) out.2 := by
  refine Ct.start (by decide) (Nat.le_of_ble_eq_true rfl) ?_
  intro p e s m args below meth c ls C hr hR hS hl
  have C : Cx E p s m args meth c cX9_isWord 7 RX9 := C
  have hl : lv_has ls 7 [(0, .ref (a 9 0)), (1, .int x1), (2, .int x2), (3, .int x3), (4, .int x4), (5, .int x5), (6, .int x6)] := hl
  have hx := C.1
  have hb := C.2.1
  unfold mX9_isWord at h
  refine lv_aload_n hx hb dX9_isWord_0 rfl (lv_at hl 0 rfl) ?_
  refine r_get C hR 9 0 6 (v := .int (gI u0 9 0 6)) (lv0 (by decide) (by decide)) (by decide) (by decide) rfl fl_X9_92 dX9_isWord_1 ?_
  refine lv_if_ne (tgt := 30) hx hb dX9_isWord_4 (by decide) (fun c_101 => ?_) (fun c_101 => ?_)
  · rw [if_neg c_101] at h
    refine lv_iconst (v := 0) hx hb dX9_isWord_30 (by decide) ?_
    cases h
    exact e_zret (v := 0) C hr rfl hR hS (Nat.le_of_ble_eq_true rfl) (Nat.le_of_ble_eq_true rfl) dX9_isWord_31
  · rw [if_pos c_101] at h
    refine lv_aload_n hx hb dX9_isWord_7 rfl (lv_at hl 0 rfl) ?_
    obtain ⟨⟨x103, u104⟩, hc102, h⟩ := ob h
    replace h := bd_x (x := x103) rfl h
    replace h := bd_x (x := u104) rfl h
    refine r_callV1 (As := []) (rest := []) (r := 9) (i := 0) C (vX9_wordHere hc102) hR hS (lv0 (by decide) (by decide)) (by decide) ml_X9_117 mw_X9_wordHere rfl ⟨Nat.le_of_ble_eq_true rfl, Nat.le_of_ble_eq_true rfl, Nat.le_of_ble_eq_true rfl, Nat.le_of_ble_eq_true rfl⟩ hl.1 rfl (Nat.le_of_ble_eq_true rfl) dX9_isWord_8 (fun H locs hR hS => ?_)
    refine lv_iload_n hx hb dX9_isWord_11 rfl (lv_at hl 1 rfl) ?_
    refine lv_iload_n hx hb dX9_isWord_12 rfl (lv_at hl 2 rfl) ?_
    refine lv_iload_n hx hb dX9_isWord_13 rfl (lv_at hl 3 rfl) ?_
    refine lv_iload hx hb dX9_isWord_14 (lv_at hl 4 rfl) ?_
    refine lv_iload hx hb dX9_isWord_16 (lv_at hl 5 rfl) ?_
    refine lv_iload hx hb dX9_isWord_18 (lv_at hl 6 rfl) ?_
    obtain ⟨x106, hc105, h⟩ := ob h
    refine r_callS1 (As := [.int x1, .int x2, .int x3, .int x4, .int x5, .int x6]) (rest := [.int x103]) C (vX9_word hc105) hR hS ml_X9_121 ms_X9_word rfl ⟨Nat.le_of_ble_eq_true rfl, Nat.le_of_ble_eq_true rfl, Nat.le_of_ble_eq_true rfl, Nat.le_of_ble_eq_true rfl⟩ hl.1 rfl (Nat.le_of_ble_eq_true rfl) dX9_isWord_20 (fun H locs hR hS => ?_)
    refine lv_icmp_ne (tgt := 30) hx hb dX9_isWord_23 (by decide) (fun c_107 => ?_) (fun c_107 => ?_)
    · rw [if_neg c_107] at h
      refine lv_iconst (v := 0) hx hb dX9_isWord_30 (by decide) ?_
      cases h
      exact e_zret (v := 0) C hr rfl hR hS (Nat.le_of_ble_eq_true rfl) (Nat.le_of_ble_eq_true rfl) dX9_isWord_31
    · rw [if_pos c_107] at h
      refine lv_iconst (v := 1) hx hb dX9_isWord_26 (by decide) ?_
      refine lv_goto (tgt := 31) hx hb dX9_isWord_27 (by decide) ?_
      cases h
      exact e_zret (v := 1) C hr rfl hR hS (Nat.le_of_ble_eq_true rfl) (Nat.le_of_ble_eq_true rfl) dX9_isWord_31
set_option maxHeartbeats 4000000 in
set_option maxRecDepth 100000 in
theorem vX9_skipWord {l : Launch} {E : EV} {a : Nat → Nat → Nat} {u0 : HS}  {out : HS} (h : mX9_skipWord u0 = some out) : Ct l E yX9_skipWord cX9_skipWord 1 none 1 21 0 0 a u0 [.ref (a 9 0)] none out := by
  refine Ct.start (by decide) (Nat.le_of_ble_eq_true rfl) ?_
  intro p e s m args below meth c ls C hr hR hS hl
  have C : Cx E p s m args meth c cX9_skipWord 1 RX9 := C
  have hl : lv_has ls 1 [(0, .ref (a 9 0))] := hl
  have hx := C.1
  have hb := C.2.1
  unfold mX9_skipWord at h
  refine jp_cut h (fun w103 hw103 h => ?_)
  have Kw103 : ∀ (u102 : HS) (H : Heap) (locs : List Loc) (ls : Array Slot), w103 u102 = some out → Rel E a u102 H → va_S (AE E) s.heap H locs → lv_has ls 1 [] → W p l e { frames := 1, cells := 0, slots := 0, locals := 21 } s m args below meth c H locs 0 0 (MQ below (QW E a none out) args s 0 0 (AE E)) (F0 m 39 ls []) := by
    intro u102 H locs ls h hR hS hl
    replace h := jx1 hw103 h
    cases h
    exact e_vret C hr hR hS (Nat.le_of_ble_eq_true rfl) (Nat.le_of_ble_eq_true rfl) dX9_skipWord_39
  have LP : ∀ (fu : Nat) (u101 : HS) (H : Heap) (locs : List Loc) (ls : Array Slot), mX9_skipWord_L0  w103 fu u101 = some out → Rel E a u101 H → va_S (AE E) s.heap H locs → lv_has ls 1 [(0, .ref (a 9 0))] → W p l e { frames := 1, cells := 0, slots := 0, locals := 21 } s m args below meth c H locs 0 0 (MQ below (QW E a none out) args s 0 0 (AE E)) (F0 m 0 ls []) := by
    intro fu
    induction fu with
    | zero =>
      intro u101 H locs ls h
      have h2 : (none : Option HS) = some out := h
      cases h2
    | succ fu ih =>
      intro u101 H locs ls h hR hS hl
      rw [mX9_skipWord_L0.eq_2] at h
      refine lv_aload_n hx hb dX9_skipWord_0 rfl (lv_at hl 0 rfl) ?_
      refine lv_aload_n hx hb dX9_skipWord_1 rfl (lv_at hl 0 rfl) ?_
      refine r_get C hR 9 0 4 (v := .int (gI u101 9 0 4)) (lv0 (by decide) (by decide)) (by decide) (by decide) rfl fl_X9_85 dX9_skipWord_2 ?_
      obtain ⟨x105, hc104, h⟩ := ob h
      refine r_callV1 (As := [.int (gI u101 9 0 4)]) (rest := []) (r := 9) (i := 0) C (vX9_byteAt hc104) hR hS (lv0 (by decide) (by decide)) (by decide) ml_X9_88 mw_X9_byteAt rfl ⟨Nat.le_of_ble_eq_true rfl, Nat.le_of_ble_eq_true rfl, Nat.le_of_ble_eq_true rfl, Nat.le_of_ble_eq_true rfl⟩ hl.1 rfl (Nat.le_of_ble_eq_true rfl) dX9_skipWord_5 (fun H locs hR hS => ?_)
      refine lv_bipush (v := 97) hx hb dX9_skipWord_8 (by decide) ?_
      refine lv_icmp_lt (tgt := 39) hx hb dX9_skipWord_10 (by decide) (fun c_106 => ?_) (fun c_106 => ?_)
      · rw [if_pos c_106] at h
        exact Kw103 _ _ _ _ h hR hS (lv_sub hl [] rfl)
      · rw [if_neg c_106] at h
        refine lv_aload_n hx hb dX9_skipWord_13 rfl (lv_at hl 0 rfl) ?_
        refine lv_aload_n hx hb dX9_skipWord_14 rfl (lv_at hl 0 rfl) ?_
        refine r_get C hR 9 0 4 (v := .int (gI u101 9 0 4)) (lv0 (by decide) (by decide)) (by decide) (by decide) rfl fl_X9_85 dX9_skipWord_15 ?_
        obtain ⟨x108, hc107, h⟩ := ob h
        refine r_callV1 (As := [.int (gI u101 9 0 4)]) (rest := []) (r := 9) (i := 0) C (vX9_byteAt hc107) hR hS (lv0 (by decide) (by decide)) (by decide) ml_X9_88 mw_X9_byteAt rfl ⟨Nat.le_of_ble_eq_true rfl, Nat.le_of_ble_eq_true rfl, Nat.le_of_ble_eq_true rfl, Nat.le_of_ble_eq_true rfl⟩ hl.1 rfl (Nat.le_of_ble_eq_true rfl) dX9_skipWord_18 (fun H locs hR hS => ?_)
        refine lv_bipush (v := 122) hx hb dX9_skipWord_21 (by decide) ?_
        refine lv_icmp_gt (tgt := 39) hx hb dX9_skipWord_23 (by decide) (fun c_109 => ?_) (fun c_109 => ?_)
        · rw [if_pos c_109] at h
          exact Kw103 _ _ _ _ h hR hS (lv_sub hl [] rfl)
        · rw [if_neg c_109] at h
          refine lv_aload_n hx hb dX9_skipWord_26 rfl (lv_at hl 0 rfl) ?_
          refine lv_dup hx hb dX9_skipWord_27 rfl ?_
          refine r_get C hR 9 0 4 (v := .int (gI u101 9 0 4)) (lv0 (by decide) (by decide)) (by decide) (by decide) rfl fl_X9_85 dX9_skipWord_28 ?_
          refine lv_iconst (v := 1) hx hb dX9_skipWord_31 (by decide) ?_
          refine lv_iadd hx hb dX9_skipWord_32 ?_
          refine r_putI (ty := .int) C hR hS 9 0 4 (lv0 (by decide) (by decide)) (by decide) (by decide) (fun _ => rfl) fl_X9_85 (by decide) (by decide +kernel) rfl rfl dX9_skipWord_33 (fun H locs hR hS => ?_)
          obtain ⟨u110, eu110⟩ : ∃ z : HS, z = wI u101 9 0 4 ((gI u101 9 0 4) + 1) := ⟨_, rfl⟩
          rw [← eu110] at hR
          replace h := bd_x eu110 h
          clear eu110
          refine lv_goto (tgt := 0) hx hb dX9_skipWord_36 (by decide) ?_
          exact ih _ _ _ _ h hR hS (lv_sub hl [0] rfl)
  exact LP FU _ _ _ _ h hR hS (lv_sub hl [0] rfl)
set_option maxHeartbeats 4000000 in
set_option maxRecDepth 100000 in
theorem vX9_sign {l : Launch} {E : EV} {a : Nat → Nat → Nat} {u0 : HS} {x1 : Int32} {out : HS} (h : mX9_sign u0 x1 = some out) : Ct l E yX9_sign cX9_sign 2 none 2 41 0 0 a u0 [.ref (a 9 0), .int x1] none out := by
  refine Ct.start (by decide) (Nat.le_of_ble_eq_true rfl) ?_
  intro p e s m args below meth c ls C hr hR hS hl
  have C : Cx E p s m args meth c cX9_sign 2 RX9 := C
  have hl : lv_has ls 2 [(0, .ref (a 9 0)), (1, .int x1)] := hl
  have hx := C.1
  have hb := C.2.1
  unfold mX9_sign at h
  refine lv_aload_n hx hb dX9_sign_0 rfl (lv_at hl 0 rfl) ?_
  refine r_get C hR 9 0 6 (v := .int (gI u0 9 0 6)) (lv0 (by decide) (by decide)) (by decide) (by decide) rfl fl_X9_92 dX9_sign_1 ?_
  refine lv_if_eq (tgt := 8) hx hb dX9_sign_4 (by decide) (fun c_101 => ?_) (fun c_101 => ?_)
  · rw [if_pos c_101] at h
    refine lv_aload_n hx hb dX9_sign_8 rfl (lv_at hl 0 rfl) ?_
    obtain ⟨u103, hc102, h⟩ := ob h
    refine r_callV0 (As := []) (rest := []) (r := 9) (i := 0) C (vX9_blanks hc102) hR hS (lv0 (by decide) (by decide)) (by decide) ml_X9_101 mw_X9_blanks rfl ⟨Nat.le_of_ble_eq_true rfl, Nat.le_of_ble_eq_true rfl, Nat.le_of_ble_eq_true rfl, Nat.le_of_ble_eq_true rfl⟩ hl.1 rfl (Nat.le_of_ble_eq_true rfl) dX9_sign_9 (fun H locs hR hS => ?_)
    refine lv_aload_n hx hb dX9_sign_12 rfl (lv_at hl 0 rfl) ?_
    refine lv_aload_n hx hb dX9_sign_13 rfl (lv_at hl 0 rfl) ?_
    refine r_get C hR 9 0 4 (v := .int (gI u103 9 0 4)) (lv0 (by decide) (by decide)) (by decide) (by decide) rfl fl_X9_85 dX9_sign_14 ?_
    obtain ⟨x105, hc104, h⟩ := ob h
    refine r_callV1 (As := [.int (gI u103 9 0 4)]) (rest := []) (r := 9) (i := 0) C (vX9_byteAt hc104) hR hS (lv0 (by decide) (by decide)) (by decide) ml_X9_88 mw_X9_byteAt rfl ⟨Nat.le_of_ble_eq_true rfl, Nat.le_of_ble_eq_true rfl, Nat.le_of_ble_eq_true rfl, Nat.le_of_ble_eq_true rfl⟩ hl.1 rfl (Nat.le_of_ble_eq_true rfl) dX9_sign_17 (fun H locs hR hS => ?_)
    refine lv_iload_n hx hb dX9_sign_20 rfl (lv_at hl 1 rfl) ?_
    refine lv_icmp_ne (tgt := 37) hx hb dX9_sign_21 (by decide) (fun c_106 => ?_) (fun c_106 => ?_)
    · rw [if_neg c_106] at h
      refine lv_aload_n hx hb dX9_sign_37 rfl (lv_at hl 0 rfl) ?_
      refine lv_iconst (v := 1) hx hb dX9_sign_38 (by decide) ?_
      refine lv_aload_n hx hb dX9_sign_39 rfl (lv_at hl 0 rfl) ?_
      refine r_get C hR 9 0 4 (v := .int (gI u103 9 0 4)) (lv0 (by decide) (by decide)) (by decide) (by decide) rfl fl_X9_85 dX9_sign_40 ?_
      obtain ⟨u108, hc107, h⟩ := ob h
      refine r_callV0 (As := [.int 1, .int (gI u103 9 0 4)]) (rest := []) (r := 9) (i := 0) C (vX9_wrongAt hc107) hR hS (lv0 (by decide) (by decide)) (by decide) ml_X9_108 mw_X9_wrongAt rfl ⟨Nat.le_of_ble_eq_true rfl, Nat.le_of_ble_eq_true rfl, Nat.le_of_ble_eq_true rfl, Nat.le_of_ble_eq_true rfl⟩ hl.1 rfl (Nat.le_of_ble_eq_true rfl) dX9_sign_43 (fun H locs hR hS => ?_)
      cases h
      exact e_vret C hr hR hS (Nat.le_of_ble_eq_true rfl) (Nat.le_of_ble_eq_true rfl) dX9_sign_46
    · rw [if_pos c_106] at h
      refine lv_aload_n hx hb dX9_sign_24 rfl (lv_at hl 0 rfl) ?_
      refine lv_dup hx hb dX9_sign_25 rfl ?_
      refine r_get C hR 9 0 4 (v := .int (gI u103 9 0 4)) (lv0 (by decide) (by decide)) (by decide) (by decide) rfl fl_X9_85 dX9_sign_26 ?_
      refine lv_iconst (v := 1) hx hb dX9_sign_29 (by decide) ?_
      refine lv_iadd hx hb dX9_sign_30 ?_
      refine r_putI (ty := .int) C hR hS 9 0 4 (lv0 (by decide) (by decide)) (by decide) (by decide) (fun _ => rfl) fl_X9_85 (by decide) (by decide +kernel) rfl rfl dX9_sign_31 (fun H locs hR hS => ?_)
      obtain ⟨u109, eu109⟩ : ∃ z : HS, z = wI u103 9 0 4 ((gI u103 9 0 4) + 1) := ⟨_, rfl⟩
      rw [← eu109] at hR
      replace h := bd_x eu109 h
      clear eu109
      refine lv_goto (tgt := 46) hx hb dX9_sign_34 (by decide) ?_
      cases h
      exact e_vret C hr hR hS (Nat.le_of_ble_eq_true rfl) (Nat.le_of_ble_eq_true rfl) dX9_sign_46
  · rw [if_neg c_101] at h
    cases h
    exact e_vret C hr hR hS (Nat.le_of_ble_eq_true rfl) (Nat.le_of_ble_eq_true rfl) dX9_sign_7
set_option maxHeartbeats 4000000 in
set_option maxRecDepth 100000 in
theorem vX9_opens {l : Launch} {E : EV} {a : Nat → Nat → Nat} {u0 : HS} {x1 : Int32} {out : HS} (h : mX9_opens u0 x1 = some out) : Ct l E yX9_opens cX9_opens 2 none 1 22 0 0 a u0 [.ref (a 9 0), .int x1] none out := by
  refine Ct.start (by decide) (Nat.le_of_ble_eq_true rfl) ?_
  intro p e s m args below meth c ls C hr hR hS hl
  have C : Cx E p s m args meth c cX9_opens 2 RX9 := C
  have hl : lv_has ls 2 [(0, .ref (a 9 0)), (1, .int x1)] := hl
  have hx := C.1
  have hb := C.2.1
  unfold mX9_opens at h
  refine lv_aload_n hx hb dX9_opens_0 rfl (lv_at hl 0 rfl) ?_
  refine r_get C hR 9 0 5 (v := .int (gI u0 9 0 5)) (lv0 (by decide) (by decide)) (by decide) (by decide) rfl fl_X9_125 dX9_opens_1 ?_
  refine lv_bipush (v := 6) hx hb dX9_opens_4 (by decide) ?_
  obtain ⟨u101, hz, h⟩ := ob h
  have Kj102 : ∀ (H : Heap) (locs : List Loc) (ls : Array Slot), Rel E a u101 H → va_S (AE E) s.heap H locs → lv_has ls 2 [(0, .ref (a 9 0)), (1, .int x1)] → W p l e { frames := 1, cells := 0, slots := 0, locals := 22 } s m args below meth c H locs 0 0 (MQ below (QW E a none out) args s 0 0 (AE E)) (F0 m 18 ls []) := by
    intro H locs ls hR hS hl
    clear hz
    refine lv_aload_n hx hb dX9_opens_18 rfl (lv_at hl 0 rfl) ?_
    refine lv_dup hx hb dX9_opens_19 rfl ?_
    refine r_get C hR 9 0 5 (v := .int (gI u101 9 0 5)) (lv0 (by decide) (by decide)) (by decide) (by decide) rfl fl_X9_125 dX9_opens_20 ?_
    refine lv_iconst (v := 1) hx hb dX9_opens_23 (by decide) ?_
    refine lv_iadd hx hb dX9_opens_24 ?_
    refine r_putI (ty := .int) C hR hS 9 0 5 (lv0 (by decide) (by decide)) (by decide) (by decide) (fun _ => rfl) fl_X9_125 (by decide) (by decide +kernel) rfl rfl dX9_opens_25 (fun H locs hR hS => ?_)
    obtain ⟨u103, eu103⟩ : ∃ z : HS, z = wI u101 9 0 5 ((gI u101 9 0 5) + 1) := ⟨_, rfl⟩
    rw [← eu103] at hR
    replace h := bd_x eu103 h
    clear eu103
    refine lv_aload_n hx hb dX9_opens_28 rfl (lv_at hl 0 rfl) ?_
    refine lv_dup hx hb dX9_opens_29 rfl ?_
    refine r_get C hR 9 0 4 (v := .int (gI u103 9 0 4)) (lv0 (by decide) (by decide)) (by decide) (by decide) rfl fl_X9_85 dX9_opens_30 ?_
    refine lv_iload_n hx hb dX9_opens_33 rfl (lv_at hl 1 rfl) ?_
    refine lv_iadd hx hb dX9_opens_34 ?_
    refine r_putI (ty := .int) C hR hS 9 0 4 (lv0 (by decide) (by decide)) (by decide) (by decide) (fun _ => rfl) fl_X9_85 (by decide) (by decide +kernel) rfl rfl dX9_opens_35 (fun H locs hR hS => ?_)
    obtain ⟨u104, eu104⟩ : ∃ z : HS, z = wI u103 9 0 4 ((gI u103 9 0 4) + x1) := ⟨_, rfl⟩
    rw [← eu104] at hR
    replace h := bd_x eu104 h
    clear eu104
    cases h
    exact e_vret C hr hR hS (Nat.le_of_ble_eq_true rfl) (Nat.le_of_ble_eq_true rfl) dX9_opens_38
  clear h
  have h := hz
  clear hz
  refine lv_icmp_ne (tgt := 18) hx hb dX9_opens_6 (by decide) (fun c_105 => ?_) (fun c_105 => ?_)
  · rw [if_neg c_105] at h
    cases h
    exact Kj102 _ _ _ hR hS (lv_sub hl [0, 1] rfl)
  · rw [if_pos c_105] at h
    refine lv_aload_n hx hb dX9_opens_9 rfl (lv_at hl 0 rfl) ?_
    refine lv_iconst (v := 3) hx hb dX9_opens_10 (by decide) ?_
    refine lv_aload_n hx hb dX9_opens_11 rfl (lv_at hl 0 rfl) ?_
    refine r_get C hR 9 0 4 (v := .int (gI u0 9 0 4)) (lv0 (by decide) (by decide)) (by decide) (by decide) rfl fl_X9_85 dX9_opens_12 ?_
    obtain ⟨u107, hc106, h⟩ := ob h
    refine r_callV0 (As := [.int 3, .int (gI u0 9 0 4)]) (rest := []) (r := 9) (i := 0) C (vX9_wrongAt hc106) hR hS (lv0 (by decide) (by decide)) (by decide) ml_X9_108 mw_X9_wrongAt rfl ⟨Nat.le_of_ble_eq_true rfl, Nat.le_of_ble_eq_true rfl, Nat.le_of_ble_eq_true rfl, Nat.le_of_ble_eq_true rfl⟩ hl.1 rfl (Nat.le_of_ble_eq_true rfl) dX9_opens_15 (fun H locs hR hS => ?_)
    cases h
    exact Kj102 _ _ _ hR hS (lv_sub hl [0, 1] rfl)
set_option maxHeartbeats 4000000 in
set_option maxRecDepth 100000 in
theorem vX9_begins {l : Launch} {E : EV} {a : Nat → Nat → Nat} {u0 : HS} {x1 : Int32} {out : HS} (h : mX9_begins u0 x1 = some out) : Ct l E yX9_begins cX9_begins 2 none 2 41 0 0 a u0 [.ref (a 9 0), .int x1] none out := by
  refine Ct.start (by decide) (Nat.le_of_ble_eq_true rfl) ?_
  intro p e s m args below meth c ls C hr hR hS hl
  have C : Cx E p s m args meth c cX9_begins 2 RX9 := C
  have hl : lv_has ls 2 [(0, .ref (a 9 0)), (1, .int x1)] := hl
  have hx := C.1
  have hb := C.2.1
  unfold mX9_begins at h
  refine lv_aload_n hx hb dX9_begins_0 rfl (lv_at hl 0 rfl) ?_
  refine lv_iload_n hx hb dX9_begins_1 rfl (lv_at hl 1 rfl) ?_
  refine r_putI (ty := .int) C hR hS 9 0 2 (lv0 (by decide) (by decide)) (by decide) (by decide) (fun _ => rfl) fl_X9_82 (by decide) (by decide +kernel) rfl rfl dX9_begins_2 (fun H locs hR hS => ?_)
  obtain ⟨u101, eu101⟩ : ∃ z : HS, z = wI u0 9 0 2 x1 := ⟨_, rfl⟩
  rw [← eu101] at hR
  replace h := bd_x eu101 h
  clear eu101
  refine lv_aload_n hx hb dX9_begins_5 rfl (lv_at hl 0 rfl) ?_
  refine lv_iconst (v := 0) hx hb dX9_begins_6 (by decide) ?_
  refine r_putI (ty := .int) C hR hS 9 0 4 (lv0 (by decide) (by decide)) (by decide) (by decide) (fun _ => rfl) fl_X9_85 (by decide) (by decide +kernel) rfl rfl dX9_begins_7 (fun H locs hR hS => ?_)
  obtain ⟨u102, eu102⟩ : ∃ z : HS, z = wI u101 9 0 4 0 := ⟨_, rfl⟩
  rw [← eu102] at hR
  replace h := bd_x eu102 h
  clear eu102
  refine lv_aload_n hx hb dX9_begins_10 rfl (lv_at hl 0 rfl) ?_
  refine lv_iconst (v := 0) hx hb dX9_begins_11 (by decide) ?_
  refine r_putI (ty := .int) C hR hS 9 0 5 (lv0 (by decide) (by decide)) (by decide) (by decide) (fun _ => rfl) fl_X9_125 (by decide) (by decide +kernel) rfl rfl dX9_begins_12 (fun H locs hR hS => ?_)
  obtain ⟨u103, eu103⟩ : ∃ z : HS, z = wI u102 9 0 5 0 := ⟨_, rfl⟩
  rw [← eu103] at hR
  replace h := bd_x eu103 h
  clear eu103
  refine lv_aload_n hx hb dX9_begins_15 rfl (lv_at hl 0 rfl) ?_
  refine lv_iconst (v := 0) hx hb dX9_begins_16 (by decide) ?_
  refine r_putI (ty := .int) C hR hS 9 0 6 (lv0 (by decide) (by decide)) (by decide) (by decide) (fun _ => rfl) fl_X9_92 (by decide) (by decide +kernel) rfl rfl dX9_begins_17 (fun H locs hR hS => ?_)
  obtain ⟨u104, eu104⟩ : ∃ z : HS, z = wI u103 9 0 6 0 := ⟨_, rfl⟩
  rw [← eu104] at hR
  replace h := bd_x eu104 h
  clear eu104
  refine lv_aload_n hx hb dX9_begins_20 rfl (lv_at hl 0 rfl) ?_
  refine lv_iconst (v := (-1)) hx hb dX9_begins_21 (by decide) ?_
  refine r_putI (ty := .int) C hR hS 9 0 7 (lv0 (by decide) (by decide)) (by decide) (by decide) (fun _ => rfl) fl_X9_95 (by decide) (by decide +kernel) rfl rfl dX9_begins_22 (fun H locs hR hS => ?_)
  obtain ⟨u105, eu105⟩ : ∃ z : HS, z = wI u104 9 0 7 (-1) := ⟨_, rfl⟩
  rw [← eu105] at hR
  replace h := bd_x eu105 h
  clear eu105
  refine lv_aload_n hx hb dX9_begins_25 rfl (lv_at hl 0 rfl) ?_
  refine lv_iconst (v := 0) hx hb dX9_begins_26 (by decide) ?_
  refine r_putI (ty := .int) C hR hS 9 0 8 (lv0 (by decide) (by decide)) (by decide) (by decide) (fun _ => rfl) fl_X9_98 (by decide) (by decide +kernel) rfl rfl dX9_begins_27 (fun H locs hR hS => ?_)
  obtain ⟨u106, eu106⟩ : ∃ z : HS, z = wI u105 9 0 8 0 := ⟨_, rfl⟩
  rw [← eu106] at hR
  replace h := bd_x eu106 h
  clear eu106
  refine lv_aload_n hx hb dX9_begins_30 rfl (lv_at hl 0 rfl) ?_
  refine lv_iconst (v := 0) hx hb dX9_begins_31 (by decide) ?_
  refine r_putI (ty := .int) C hR hS 9 0 9 (lv0 (by decide) (by decide)) (by decide) (by decide) (fun _ => rfl) fl_X9_128 (by decide) (by decide +kernel) rfl rfl dX9_begins_32 (fun H locs hR hS => ?_)
  obtain ⟨u107, eu107⟩ : ∃ z : HS, z = wI u106 9 0 9 0 := ⟨_, rfl⟩
  rw [← eu107] at hR
  replace h := bd_x eu107 h
  clear eu107
  refine lv_aload_n hx hb dX9_begins_35 rfl (lv_at hl 0 rfl) ?_
  refine lv_iconst (v := 0) hx hb dX9_begins_36 (by decide) ?_
  refine r_putI (ty := .int) C hR hS 9 0 10 (lv0 (by decide) (by decide)) (by decide) (by decide) (fun _ => rfl) fl_X9_131 (by decide) (by decide +kernel) rfl rfl dX9_begins_37 (fun H locs hR hS => ?_)
  obtain ⟨u108, eu108⟩ : ∃ z : HS, z = wI u107 9 0 10 0 := ⟨_, rfl⟩
  rw [← eu108] at hR
  replace h := bd_x eu108 h
  clear eu108
  refine lv_aload_n hx hb dX9_begins_40 rfl (lv_at hl 0 rfl) ?_
  obtain ⟨u110, hc109, h⟩ := ob h
  refine r_callV0 (As := []) (rest := []) (r := 9) (i := 0) C (vX9_blanks hc109) hR hS (lv0 (by decide) (by decide)) (by decide) ml_X9_101 mw_X9_blanks rfl ⟨Nat.le_of_ble_eq_true rfl, Nat.le_of_ble_eq_true rfl, Nat.le_of_ble_eq_true rfl, Nat.le_of_ble_eq_true rfl⟩ hl.1 rfl (Nat.le_of_ble_eq_true rfl) dX9_begins_41 (fun H locs hR hS => ?_)
  cases h
  exact e_vret C hr hR hS (Nat.le_of_ble_eq_true rfl) (Nat.le_of_ble_eq_true rfl) dX9_begins_44
set_option maxHeartbeats 4000000 in
set_option maxRecDepth 100000 in
theorem vX9_needs {l : Launch} {E : EV} {a : Nat → Nat → Nat} {u0 : HS} {x1 : Int32} {x2 : Int32} {out : HS} (h : mX9_needs u0 x1 x2 = some out) : Ct l E yX9_needs cX9_needs 3 none 1 22 0 0 a u0 [.ref (a 9 0), .int x1, .int x2] none out := by
  refine Ct.start (by decide) (Nat.le_of_ble_eq_true rfl) ?_
  intro p e s m args below meth c ls C hr hR hS hl
  have C : Cx E p s m args meth c cX9_needs 3 RX9 := C
  have hl : lv_has ls 3 [(0, .ref (a 9 0)), (1, .int x1), (2, .int x2)] := hl
  have hx := C.1
  have hb := C.2.1
  unfold mX9_needs at h
  refine lv_iload_n hx hb dX9_needs_0 rfl (lv_at hl 1 rfl) ?_
  refine lv_iconst (v := (-1)) hx hb dX9_needs_1 (by decide) ?_
  refine lv_icmp_ne (tgt := 17) hx hb dX9_needs_2 (by decide) (fun c_101 => ?_) (fun c_101 => ?_)
  · rw [if_neg c_101] at h
    refine lv_aload_n hx hb dX9_needs_17 rfl (lv_at hl 0 rfl) ?_
    refine r_get C hR 9 0 9 (v := .int (gI u0 9 0 9)) (lv0 (by decide) (by decide)) (by decide) (by decide) rfl fl_X9_128 dX9_needs_18 ?_
    refine lv_iload_n hx hb dX9_needs_21 rfl (lv_at hl 2 rfl) ?_
    refine lv_icmp_ne (tgt := 34) hx hb dX9_needs_22 (by decide) (fun c_102 => ?_) (fun c_102 => ?_)
    · rw [if_neg c_102] at h
      cases h
      exact e_vret C hr hR hS (Nat.le_of_ble_eq_true rfl) (Nat.le_of_ble_eq_true rfl) dX9_needs_34
    · rw [if_pos c_102] at h
      refine lv_aload_n hx hb dX9_needs_25 rfl (lv_at hl 0 rfl) ?_
      refine lv_iconst (v := 3) hx hb dX9_needs_26 (by decide) ?_
      refine lv_aload_n hx hb dX9_needs_27 rfl (lv_at hl 0 rfl) ?_
      refine r_get C hR 9 0 4 (v := .int (gI u0 9 0 4)) (lv0 (by decide) (by decide)) (by decide) (by decide) rfl fl_X9_85 dX9_needs_28 ?_
      obtain ⟨u104, hc103, h⟩ := ob h
      refine r_callV0 (As := [.int 3, .int (gI u0 9 0 4)]) (rest := []) (r := 9) (i := 0) C (vX9_wrongAt hc103) hR hS (lv0 (by decide) (by decide)) (by decide) ml_X9_108 mw_X9_wrongAt rfl ⟨Nat.le_of_ble_eq_true rfl, Nat.le_of_ble_eq_true rfl, Nat.le_of_ble_eq_true rfl, Nat.le_of_ble_eq_true rfl⟩ hl.1 rfl (Nat.le_of_ble_eq_true rfl) dX9_needs_31 (fun H locs hR hS => ?_)
      cases h
      exact e_vret C hr hR hS (Nat.le_of_ble_eq_true rfl) (Nat.le_of_ble_eq_true rfl) dX9_needs_34
  · rw [if_pos c_101] at h
    refine lv_aload_n hx hb dX9_needs_5 rfl (lv_at hl 0 rfl) ?_
    refine lv_iconst (v := 1) hx hb dX9_needs_6 (by decide) ?_
    refine lv_aload_n hx hb dX9_needs_7 rfl (lv_at hl 0 rfl) ?_
    refine r_get C hR 9 0 4 (v := .int (gI u0 9 0 4)) (lv0 (by decide) (by decide)) (by decide) (by decide) rfl fl_X9_85 dX9_needs_8 ?_
    obtain ⟨u106, hc105, h⟩ := ob h
    refine r_callV0 (As := [.int 1, .int (gI u0 9 0 4)]) (rest := []) (r := 9) (i := 0) C (vX9_wrongAt hc105) hR hS (lv0 (by decide) (by decide)) (by decide) ml_X9_108 mw_X9_wrongAt rfl ⟨Nat.le_of_ble_eq_true rfl, Nat.le_of_ble_eq_true rfl, Nat.le_of_ble_eq_true rfl, Nat.le_of_ble_eq_true rfl⟩ hl.1 rfl (Nat.le_of_ble_eq_true rfl) dX9_needs_11 (fun H locs hR hS => ?_)
    refine lv_goto (tgt := 34) hx hb dX9_needs_14 (by decide) ?_
    cases h
    exact e_vret C hr hR hS (Nat.le_of_ble_eq_true rfl) (Nat.le_of_ble_eq_true rfl) dX9_needs_34
set_option maxHeartbeats 4000000 in
set_option maxRecDepth 100000 in
theorem vX9_sceneHere {l : Launch} {E : EV} {a : Nat → Nat → Nat} {u0 : HS}  {out : (Int32 × HS)} (h : mX9_sceneHere u0 = some out) : Ct l E yX9_sceneHere cX9_sceneHere 1 (some .int) 4 89 0 0 a u0 [.ref (a 9 0)] (some (.int out.1)) out.2 := by
  refine Ct.start (by decide) (Nat.le_of_ble_eq_true rfl) ?_
  intro p e s m args below meth c ls C hr hR hS hl
  have C : Cx E p s m args meth c cX9_sceneHere 1 RX9 := C
  have hl : lv_has ls 1 [(0, .ref (a 9 0))] := hl
  have hx := C.1
  have hb := C.2.1
  unfold mX9_sceneHere at h
  refine lv_aload_n hx hb dX9_sceneHere_0 rfl (lv_at hl 0 rfl) ?_
  refine lv_bipush (v := 20) hx hb dX9_sceneHere_1 (by decide) ?_
  refine lv_bipush (v := 8) hx hb dX9_sceneHere_3 (by decide) ?_
  refine lv_bipush (v := 9) hx hb dX9_sceneHere_5 (by decide) ?_
  refine lv_bipush (v := 14) hx hb dX9_sceneHere_7 (by decide) ?_
  refine lv_bipush (v := 7) hx hb dX9_sceneHere_9 (by decide) ?_
  refine lv_iconst (v := 0) hx hb dX9_sceneHere_11 (by decide) ?_
  obtain ⟨⟨x102, u103⟩, hc101, h⟩ := ob h
  replace h := bd_x (x := x102) rfl h
  replace h := bd_x (x := u103) rfl h
  refine r_callV1 (As := [.int 20, .int 8, .int 9, .int 14, .int 7, .int 0]) (rest := []) (r := 9) (i := 0) C (vX9_isWord hc101) hR hS (lv0 (by decide) (by decide)) (by decide) ml_X9_134 mw_X9_isWord rfl ⟨Nat.le_of_ble_eq_true rfl, Nat.le_of_ble_eq_true rfl, Nat.le_of_ble_eq_true rfl, Nat.le_of_ble_eq_true rfl⟩ hl.1 rfl (Nat.le_of_ble_eq_true rfl) dX9_sceneHere_12 (fun H locs hR hS => ?_)
  refine lv_if_eq (tgt := 20) hx hb dX9_sceneHere_15 (by decide) (fun c_104 => ?_) (fun c_104 => ?_)
  · rw [if_pos c_104] at h
    refine lv_aload_n hx hb dX9_sceneHere_20 rfl (lv_at hl 0 rfl) ?_
    refine lv_bipush (v := 23) hx hb dX9_sceneHere_21 (by decide) ?_
    refine lv_iconst (v := 1) hx hb dX9_sceneHere_23 (by decide) ?_
    refine lv_bipush (v := 25) hx hb dX9_sceneHere_24 (by decide) ?_
    refine lv_iconst (v := 0) hx hb dX9_sceneHere_26 (by decide) ?_
    refine lv_iconst (v := 0) hx hb dX9_sceneHere_27 (by decide) ?_
    refine lv_iconst (v := 0) hx hb dX9_sceneHere_28 (by decide) ?_
    obtain ⟨⟨x106, u107⟩, hc105, h⟩ := ob h
    replace h := bd_x (x := x106) rfl h
    replace h := bd_x (x := u107) rfl h
    refine r_callV1 (As := [.int 23, .int 1, .int 25, .int 0, .int 0, .int 0]) (rest := []) (r := 9) (i := 0) C (vX9_isWord hc105) hR hS (lv0 (by decide) (by decide)) (by decide) ml_X9_134 mw_X9_isWord rfl ⟨Nat.le_of_ble_eq_true rfl, Nat.le_of_ble_eq_true rfl, Nat.le_of_ble_eq_true rfl, Nat.le_of_ble_eq_true rfl⟩ hl.1 rfl (Nat.le_of_ble_eq_true rfl) dX9_sceneHere_29 (fun H locs hR hS => ?_)
    refine lv_if_eq (tgt := 37) hx hb dX9_sceneHere_32 (by decide) (fun c_108 => ?_) (fun c_108 => ?_)
    · rw [if_pos c_108] at h
      refine lv_aload_n hx hb dX9_sceneHere_37 rfl (lv_at hl 0 rfl) ?_
      refine lv_bipush (v := 20) hx hb dX9_sceneHere_38 (by decide) ?_
      refine lv_bipush (v := 8) hx hb dX9_sceneHere_40 (by decide) ?_
      refine lv_bipush (v := 18) hx hb dX9_sceneHere_42 (by decide) ?_
      refine lv_bipush (v := 15) hx hb dX9_sceneHere_44 (by decide) ?_
      refine lv_bipush (v := 23) hx hb dX9_sceneHere_46 (by decide) ?_
      refine lv_iconst (v := 0) hx hb dX9_sceneHere_48 (by decide) ?_
      obtain ⟨⟨x110, u111⟩, hc109, h⟩ := ob h
      replace h := bd_x (x := x110) rfl h
      replace h := bd_x (x := u111) rfl h
      refine r_callV1 (As := [.int 20, .int 8, .int 18, .int 15, .int 23, .int 0]) (rest := []) (r := 9) (i := 0) C (vX9_isWord hc109) hR hS (lv0 (by decide) (by decide)) (by decide) ml_X9_134 mw_X9_isWord rfl ⟨Nat.le_of_ble_eq_true rfl, Nat.le_of_ble_eq_true rfl, Nat.le_of_ble_eq_true rfl, Nat.le_of_ble_eq_true rfl⟩ hl.1 rfl (Nat.le_of_ble_eq_true rfl) dX9_sceneHere_49 (fun H locs hR hS => ?_)
      refine lv_if_eq (tgt := 57) hx hb dX9_sceneHere_52 (by decide) (fun c_112 => ?_) (fun c_112 => ?_)
      · rw [if_pos c_112] at h
        refine lv_aload_n hx hb dX9_sceneHere_57 rfl (lv_at hl 0 rfl) ?_
        refine lv_bipush (v := 15) hx hb dX9_sceneHere_58 (by decide) ?_
        refine lv_iconst (v := 4) hx hb dX9_sceneHere_60 (by decide) ?_
        refine lv_iconst (v := 4) hx hb dX9_sceneHere_61 (by decide) ?_
        refine lv_iconst (v := 0) hx hb dX9_sceneHere_62 (by decide) ?_
        refine lv_iconst (v := 0) hx hb dX9_sceneHere_63 (by decide) ?_
        refine lv_iconst (v := 0) hx hb dX9_sceneHere_64 (by decide) ?_
        obtain ⟨⟨x114, u115⟩, hc113, h⟩ := ob h
        replace h := bd_x (x := x114) rfl h
        replace h := bd_x (x := u115) rfl h
        refine r_callV1 (As := [.int 15, .int 4, .int 4, .int 0, .int 0, .int 0]) (rest := []) (r := 9) (i := 0) C (vX9_isWord hc113) hR hS (lv0 (by decide) (by decide)) (by decide) ml_X9_134 mw_X9_isWord rfl ⟨Nat.le_of_ble_eq_true rfl, Nat.le_of_ble_eq_true rfl, Nat.le_of_ble_eq_true rfl, Nat.le_of_ble_eq_true rfl⟩ hl.1 rfl (Nat.le_of_ble_eq_true rfl) dX9_sceneHere_65 (fun H locs hR hS => ?_)
        refine lv_if_eq (tgt := 73) hx hb dX9_sceneHere_68 (by decide) (fun c_116 => ?_) (fun c_116 => ?_)
        · rw [if_pos c_116] at h
          refine lv_aload_n hx hb dX9_sceneHere_73 rfl (lv_at hl 0 rfl) ?_
          refine lv_bipush (v := 20) hx hb dX9_sceneHere_74 (by decide) ?_
          refine lv_bipush (v := 21) hx hb dX9_sceneHere_76 (by decide) ?_
          refine lv_bipush (v := 18) hx hb dX9_sceneHere_78 (by decide) ?_
          refine lv_bipush (v := 14) hx hb dX9_sceneHere_80 (by decide) ?_
          refine lv_iconst (v := 0) hx hb dX9_sceneHere_82 (by decide) ?_
          refine lv_iconst (v := 0) hx hb dX9_sceneHere_83 (by decide) ?_
          obtain ⟨⟨x118, u119⟩, hc117, h⟩ := ob h
          replace h := bd_x (x := x118) rfl h
          replace h := bd_x (x := u119) rfl h
          refine r_callV1 (As := [.int 20, .int 21, .int 18, .int 14, .int 0, .int 0]) (rest := []) (r := 9) (i := 0) C (vX9_isWord hc117) hR hS (lv0 (by decide) (by decide)) (by decide) ml_X9_134 mw_X9_isWord rfl ⟨Nat.le_of_ble_eq_true rfl, Nat.le_of_ble_eq_true rfl, Nat.le_of_ble_eq_true rfl, Nat.le_of_ble_eq_true rfl⟩ hl.1 rfl (Nat.le_of_ble_eq_true rfl) dX9_sceneHere_84 (fun H locs hR hS => ?_)
          refine lv_if_eq (tgt := 94) hx hb dX9_sceneHere_87 (by decide) (fun c_120 => ?_) (fun c_120 => ?_)
          · rw [if_pos c_120] at h
            refine lv_iconst (v := (-1)) hx hb dX9_sceneHere_94 (by decide) ?_
            cases h
            exact e_iret C hr hR hS (Nat.le_of_ble_eq_true rfl) (Nat.le_of_ble_eq_true rfl) dX9_sceneHere_95
          · rw [if_neg c_120] at h
            refine lv_iconst (v := 4) hx hb dX9_sceneHere_90 (by decide) ?_
            refine lv_goto (tgt := 95) hx hb dX9_sceneHere_91 (by decide) ?_
            cases h
            exact e_iret C hr hR hS (Nat.le_of_ble_eq_true rfl) (Nat.le_of_ble_eq_true rfl) dX9_sceneHere_95
        · rw [if_neg c_116] at h
          refine lv_iconst (v := 3) hx hb dX9_sceneHere_71 (by decide) ?_
          cases h
          exact e_iret C hr hR hS (Nat.le_of_ble_eq_true rfl) (Nat.le_of_ble_eq_true rfl) dX9_sceneHere_72
      · rw [if_neg c_112] at h
        refine lv_iconst (v := 2) hx hb dX9_sceneHere_55 (by decide) ?_
        cases h
        exact e_iret C hr hR hS (Nat.le_of_ble_eq_true rfl) (Nat.le_of_ble_eq_true rfl) dX9_sceneHere_56
    · rw [if_neg c_108] at h
      refine lv_iconst (v := 1) hx hb dX9_sceneHere_35 (by decide) ?_
      cases h
      exact e_iret C hr hR hS (Nat.le_of_ble_eq_true rfl) (Nat.le_of_ble_eq_true rfl) dX9_sceneHere_36
  · rw [if_neg c_104] at h
    refine lv_iconst (v := 0) hx hb dX9_sceneHere_18 (by decide) ?_
    cases h
    exact e_iret C hr hR hS (Nat.le_of_ble_eq_true rfl) (Nat.le_of_ble_eq_true rfl) dX9_sceneHere_19
set_option maxHeartbeats 4000000 in
set_option maxRecDepth 100000 in
theorem vX9_readsWay {l : Launch} {E : EV} {a : Nat → Nat → Nat} {u0 : HS} {i1 : Nat} {out : HS} (hi1 : i1 < cntS 63) (h : mX9_readsWay u0 i1 = some out) : Ct l E yX9_readsWay cX9_readsWay 2 none 3 66 0 0 a u0 [.ref (a 9 0), .ref (a 63 i1)] none out := by
  refine Ct.start (by decide) (Nat.le_of_ble_eq_true rfl) ?_
  intro p e s m args below meth c ls C hr hR hS hl
  have C : Cx E p s m args meth c cX9_readsWay 2 RX9 := C
  have hl : lv_has ls 2 [(0, .ref (a 9 0)), (1, .ref (a 63 i1))] := hl
  have hx := C.1
  have hb := C.2.1
  unfold mX9_readsWay at h
  refine lv_aload_n hx hb dX9_readsWay_0 rfl (lv_at hl 1 rfl) ?_
  refine lv_iconst (v := 2) hx hb dX9_readsWay_1 (by decide) ?_
  refine lv_aload_n hx hb dX9_readsWay_2 rfl (lv_at hl 0 rfl) ?_
  refine lv_iconst (v := 0) hx hb dX9_readsWay_3 (by decide) ?_
  refine lv_sipush (v := 299) hx hb dX9_readsWay_4 (by decide) ?_
  refine lv_iconst (v := (-1)) hx hb dX9_readsWay_7 (by decide) ?_
  obtain ⟨⟨x102, u103⟩, hc101, h⟩ := ob h
  replace h := bd_x (x := x102) rfl h
  replace h := bd_x (x := u103) rfl h
  refine r_callV1 (As := [.int 0, .int 299, .int (-1)]) (rest := [.int 2, .ref (a 63 i1)]) (r := 9) (i := 0) C (vX9_number hc101) hR hS (lv0 (by decide) (by decide)) (by decide) ml_X9_147 mw_X9_number rfl ⟨Nat.le_of_ble_eq_true rfl, Nat.le_of_ble_eq_true rfl, Nat.le_of_ble_eq_true rfl, Nat.le_of_ble_eq_true rfl⟩ hl.1 rfl (Nat.le_of_ble_eq_true rfl) dX9_readsWay_8 (fun H locs hR hS => ?_)
  obtain ⟨k104, hk104, h⟩ := ob h
  refine r_ast C hR hS 63 i1 (lv0 hi1 (by decide)) (by decide) rfl (fun _ _ => rfl) rfl hk104 dX9_readsWay_11 (fun H locs hR hS => ?_)
  obtain ⟨u105, eu105⟩ : ∃ z : HS, z = wI u103 63 i1 k104 x102 := ⟨_, rfl⟩
  rw [← eu105] at hR
  replace h := bd_x eu105 h
  clear eu105
  refine lv_aload_n hx hb dX9_readsWay_12 rfl (lv_at hl 1 rfl) ?_
  refine lv_iconst (v := 3) hx hb dX9_readsWay_13 (by decide) ?_
  refine lv_aload_n hx hb dX9_readsWay_14 rfl (lv_at hl 0 rfl) ?_
  refine lv_iconst (v := 0) hx hb dX9_readsWay_15 (by decide) ?_
  refine lv_bipush (v := 39) hx hb dX9_readsWay_16 (by decide) ?_
  refine lv_iconst (v := (-1)) hx hb dX9_readsWay_18 (by decide) ?_
  obtain ⟨⟨x107, u108⟩, hc106, h⟩ := ob h
  replace h := bd_x (x := x107) rfl h
  replace h := bd_x (x := u108) rfl h
  refine r_callV1 (As := [.int 0, .int 39, .int (-1)]) (rest := [.int 3, .ref (a 63 i1)]) (r := 9) (i := 0) C (vX9_number hc106) hR hS (lv0 (by decide) (by decide)) (by decide) ml_X9_147 mw_X9_number rfl ⟨Nat.le_of_ble_eq_true rfl, Nat.le_of_ble_eq_true rfl, Nat.le_of_ble_eq_true rfl, Nat.le_of_ble_eq_true rfl⟩ hl.1 rfl (Nat.le_of_ble_eq_true rfl) dX9_readsWay_19 (fun H locs hR hS => ?_)
  obtain ⟨k109, hk109, h⟩ := ob h
  refine r_ast C hR hS 63 i1 (lv0 hi1 (by decide)) (by decide) rfl (fun _ _ => rfl) rfl hk109 dX9_readsWay_22 (fun H locs hR hS => ?_)
  obtain ⟨u110, eu110⟩ : ∃ z : HS, z = wI u108 63 i1 k109 x107 := ⟨_, rfl⟩
  rw [← eu110] at hR
  replace h := bd_x eu110 h
  clear eu110
  refine lv_aload_n hx hb dX9_readsWay_23 rfl (lv_at hl 1 rfl) ?_
  refine lv_iconst (v := 4) hx hb dX9_readsWay_24 (by decide) ?_
  refine lv_aload_n hx hb dX9_readsWay_25 rfl (lv_at hl 0 rfl) ?_
  refine lv_iconst (v := 0) hx hb dX9_readsWay_26 (by decide) ?_
  refine lv_bipush (v := 29) hx hb dX9_readsWay_27 (by decide) ?_
  refine lv_iconst (v := (-1)) hx hb dX9_readsWay_29 (by decide) ?_
  obtain ⟨⟨x112, u113⟩, hc111, h⟩ := ob h
  replace h := bd_x (x := x112) rfl h
  replace h := bd_x (x := u113) rfl h
  refine r_callV1 (As := [.int 0, .int 29, .int (-1)]) (rest := [.int 4, .ref (a 63 i1)]) (r := 9) (i := 0) C (vX9_number hc111) hR hS (lv0 (by decide) (by decide)) (by decide) ml_X9_147 mw_X9_number rfl ⟨Nat.le_of_ble_eq_true rfl, Nat.le_of_ble_eq_true rfl, Nat.le_of_ble_eq_true rfl, Nat.le_of_ble_eq_true rfl⟩ hl.1 rfl (Nat.le_of_ble_eq_true rfl) dX9_readsWay_30 (fun H locs hR hS => ?_)
  obtain ⟨k114, hk114, h⟩ := ob h
  refine r_ast C hR hS 63 i1 (lv0 hi1 (by decide)) (by decide) rfl (fun _ _ => rfl) rfl hk114 dX9_readsWay_33 (fun H locs hR hS => ?_)
  obtain ⟨u115, eu115⟩ : ∃ z : HS, z = wI u113 63 i1 k114 x112 := ⟨_, rfl⟩
  rw [← eu115] at hR
  replace h := bd_x eu115 h
  clear eu115
  refine lv_aload_n hx hb dX9_readsWay_34 rfl (lv_at hl 1 rfl) ?_
  refine lv_iconst (v := 5) hx hb dX9_readsWay_35 (by decide) ?_
  refine lv_aload_n hx hb dX9_readsWay_36 rfl (lv_at hl 0 rfl) ?_
  refine lv_aload_n hx hb dX9_readsWay_37 rfl (lv_at hl 1 rfl) ?_
  refine lv_iconst (v := 2) hx hb dX9_readsWay_38 (by decide) ?_
  obtain ⟨k116, hk116, h⟩ := ob h
  refine r_ald C hR 63 i1 (lv0 hi1 (by decide)) (by decide) rfl (fun _ => rfl) rfl hk116 dX9_readsWay_39 ?_
  refine lv_sipush (v := 299) hx hb dX9_readsWay_40 (by decide) ?_
  refine lv_iconst (v := (-1)) hx hb dX9_readsWay_43 (by decide) ?_
  obtain ⟨⟨x118, u119⟩, hc117, h⟩ := ob h
  replace h := bd_x (x := x118) rfl h
  replace h := bd_x (x := u119) rfl h
  refine r_callV1 (As := [.int (gI u115 63 i1 k116), .int 299, .int (-1)]) (rest := [.int 5, .ref (a 63 i1)]) (r := 9) (i := 0) C (vX9_number hc117) hR hS (lv0 (by decide) (by decide)) (by decide) ml_X9_147 mw_X9_number rfl ⟨Nat.le_of_ble_eq_true rfl, Nat.le_of_ble_eq_true rfl, Nat.le_of_ble_eq_true rfl, Nat.le_of_ble_eq_true rfl⟩ hl.1 rfl (Nat.le_of_ble_eq_true rfl) dX9_readsWay_44 (fun H locs hR hS => ?_)
  obtain ⟨k120, hk120, h⟩ := ob h
  refine r_ast C hR hS 63 i1 (lv0 hi1 (by decide)) (by decide) rfl (fun _ _ => rfl) rfl hk120 dX9_readsWay_47 (fun H locs hR hS => ?_)
  obtain ⟨u121, eu121⟩ : ∃ z : HS, z = wI u119 63 i1 k120 x118 := ⟨_, rfl⟩
  rw [← eu121] at hR
  replace h := bd_x eu121 h
  clear eu121
  refine lv_aload_n hx hb dX9_readsWay_48 rfl (lv_at hl 1 rfl) ?_
  refine lv_bipush (v := 6) hx hb dX9_readsWay_49 (by decide) ?_
  refine lv_aload_n hx hb dX9_readsWay_51 rfl (lv_at hl 0 rfl) ?_
  refine lv_iconst (v := 0) hx hb dX9_readsWay_52 (by decide) ?_
  refine lv_bipush (v := 39) hx hb dX9_readsWay_53 (by decide) ?_
  refine lv_iconst (v := (-1)) hx hb dX9_readsWay_55 (by decide) ?_
  obtain ⟨⟨x123, u124⟩, hc122, h⟩ := ob h
  replace h := bd_x (x := x123) rfl h
  replace h := bd_x (x := u124) rfl h
  refine r_callV1 (As := [.int 0, .int 39, .int (-1)]) (rest := [.int 6, .ref (a 63 i1)]) (r := 9) (i := 0) C (vX9_number hc122) hR hS (lv0 (by decide) (by decide)) (by decide) ml_X9_147 mw_X9_number rfl ⟨Nat.le_of_ble_eq_true rfl, Nat.le_of_ble_eq_true rfl, Nat.le_of_ble_eq_true rfl, Nat.le_of_ble_eq_true rfl⟩ hl.1 rfl (Nat.le_of_ble_eq_true rfl) dX9_readsWay_56 (fun H locs hR hS => ?_)
  obtain ⟨k125, hk125, h⟩ := ob h
  refine r_ast C hR hS 63 i1 (lv0 hi1 (by decide)) (by decide) rfl (fun _ _ => rfl) rfl hk125 dX9_readsWay_59 (fun H locs hR hS => ?_)
  obtain ⟨u126, eu126⟩ : ∃ z : HS, z = wI u124 63 i1 k125 x123 := ⟨_, rfl⟩
  rw [← eu126] at hR
  replace h := bd_x eu126 h
  clear eu126
  refine lv_aload_n hx hb dX9_readsWay_60 rfl (lv_at hl 1 rfl) ?_
  refine lv_bipush (v := 7) hx hb dX9_readsWay_61 (by decide) ?_
  refine lv_aload_n hx hb dX9_readsWay_63 rfl (lv_at hl 0 rfl) ?_
  refine lv_iconst (v := 0) hx hb dX9_readsWay_64 (by decide) ?_
  refine lv_bipush (v := 29) hx hb dX9_readsWay_65 (by decide) ?_
  refine lv_iconst (v := (-1)) hx hb dX9_readsWay_67 (by decide) ?_
  obtain ⟨⟨x128, u129⟩, hc127, h⟩ := ob h
  replace h := bd_x (x := x128) rfl h
  replace h := bd_x (x := u129) rfl h
  refine r_callV1 (As := [.int 0, .int 29, .int (-1)]) (rest := [.int 7, .ref (a 63 i1)]) (r := 9) (i := 0) C (vX9_number hc127) hR hS (lv0 (by decide) (by decide)) (by decide) ml_X9_147 mw_X9_number rfl ⟨Nat.le_of_ble_eq_true rfl, Nat.le_of_ble_eq_true rfl, Nat.le_of_ble_eq_true rfl, Nat.le_of_ble_eq_true rfl⟩ hl.1 rfl (Nat.le_of_ble_eq_true rfl) dX9_readsWay_68 (fun H locs hR hS => ?_)
  obtain ⟨k130, hk130, h⟩ := ob h
  refine r_ast C hR hS 63 i1 (lv0 hi1 (by decide)) (by decide) rfl (fun _ _ => rfl) rfl hk130 dX9_readsWay_71 (fun H locs hR hS => ?_)
  obtain ⟨u131, eu131⟩ : ∃ z : HS, z = wI u129 63 i1 k130 x128 := ⟨_, rfl⟩
  rw [← eu131] at hR
  replace h := bd_x eu131 h
  clear eu131
  cases h
  exact e_vret C hr hR hS (Nat.le_of_ble_eq_true rfl) (Nat.le_of_ble_eq_true rfl) dX9_readsWay_72
set_option maxHeartbeats 4000000 in
set_option maxRecDepth 100000 in
theorem vX9_sceneClause {l : Launch} {E : EV} {a : Nat → Nat → Nat} {u0 : HS}  {out : HS} (h : mX9_sceneClause u0 = some out) : Ct l E yX9_sceneClause cX9_sceneClause 3 none 5 109 0 0 a u0 [.ref (a 9 0)] none out := by
  refine Ct.start (by decide) (Nat.le_of_ble_eq_true rfl) ?_
  intro p e s m args below meth c ls C hr hR hS hl
  have C : Cx E p s m args meth c cX9_sceneClause 3 RX9 := C
  have hl : lv_has ls 3 [(0, .ref (a 9 0))] := hl
  have hx := C.1
  have hb := C.2.1
  unfold mX9_sceneClause at h
  refine lv_aload_n hx hb dX9_sceneClause_0 rfl (lv_at hl 0 rfl) ?_
  obtain ⟨⟨x102, u103⟩, hc101, h⟩ := ob h
  replace h := bd_x (x := x102) rfl h
  replace h := bd_x (x := u103) rfl h
  refine r_callV1 (As := []) (rest := []) (r := 9) (i := 0) C (vX9_sceneHere hc101) hR hS (lv0 (by decide) (by decide)) (by decide) ml_X9_138 mw_X9_sceneHere rfl ⟨Nat.le_of_ble_eq_true rfl, Nat.le_of_ble_eq_true rfl, Nat.le_of_ble_eq_true rfl, Nat.le_of_ble_eq_true rfl⟩ hl.1 rfl (Nat.le_of_ble_eq_true rfl) dX9_sceneClause_1 (fun H locs hR hS => ?_)
  refine lv_istore_n (lv' := [(1, .int x102), (0, .ref (a 9 0))]) hx hb dX9_sceneClause_4 rfl hl (by decide) rfl (fun ls hl => ?_)
  refine lv_aload_n hx hb dX9_sceneClause_5 rfl (lv_at hl 1 rfl) ?_
  refine lv_iload_n hx hb dX9_sceneClause_6 rfl (lv_at hl 0 rfl) ?_
  refine lv_bipush (v := 24) hx hb dX9_sceneClause_7 (by decide) ?_
  obtain ⟨u105, hc104, h⟩ := ob h
  refine r_callV0 (As := [.int x102, .int 24]) (rest := []) (r := 9) (i := 0) C (vX9_needs hc104) hR hS (lv0 (by decide) (by decide)) (by decide) ml_X9_141 mw_X9_needs rfl ⟨Nat.le_of_ble_eq_true rfl, Nat.le_of_ble_eq_true rfl, Nat.le_of_ble_eq_true rfl, Nat.le_of_ble_eq_true rfl⟩ hl.1 rfl (Nat.le_of_ble_eq_true rfl) dX9_sceneClause_9 (fun H locs hR hS => ?_)
  refine lv_aload_n hx hb dX9_sceneClause_12 rfl (lv_at hl 1 rfl) ?_
  refine r_get C hR 9 0 6 (v := .int (gI u105 9 0 6)) (lv0 (by decide) (by decide)) (by decide) (by decide) rfl fl_X9_92 dX9_sceneClause_13 ?_
  obtain ⟨u106, hz, h⟩ := ob h
  have Kj107 : ∀ (H : Heap) (locs : List Loc) (ls : Array Slot), Rel E a u106 H → va_S (AE E) s.heap H locs → lv_has ls 3 [(0, .ref (a 9 0)), (1, .int x102)] → W p l e { frames := 5, cells := 0, slots := 0, locals := 109 } s m args below meth c H locs 0 0 (MQ below (QW E a none out) args s 0 0 (AE E)) (F0 m 41 ls []) := by
    intro H locs ls hR hS hl
    clear hz
    refine lv_aload_n hx hb dX9_sceneClause_41 rfl (lv_at hl 0 rfl) ?_
    refine r_get C hR 9 0 6 (v := .int (gI u106 9 0 6)) (lv0 (by decide) (by decide)) (by decide) (by decide) rfl fl_X9_92 dX9_sceneClause_42 ?_
    refine lv_if_eq (tgt := 49) hx hb dX9_sceneClause_45 (by decide) (fun c_108 => ?_) (fun c_108 => ?_)
    · rw [if_pos c_108] at h
      refine lv_aload_n hx hb dX9_sceneClause_49 rfl (lv_at hl 0 rfl) ?_
      obtain ⟨u110, hc109, h⟩ := ob h
      refine r_callV0 (As := []) (rest := []) (r := 9) (i := 0) C (vX9_skipWord hc109) hR hS (lv0 (by decide) (by decide)) (by decide) ml_X9_144 mw_X9_skipWord rfl ⟨Nat.le_of_ble_eq_true rfl, Nat.le_of_ble_eq_true rfl, Nat.le_of_ble_eq_true rfl, Nat.le_of_ble_eq_true rfl⟩ hl.1 rfl (Nat.le_of_ble_eq_true rfl) dX9_sceneClause_50 (fun H locs hR hS => ?_)
      refine lv_aload_n hx hb dX9_sceneClause_53 rfl (lv_at hl 0 rfl) ?_
      refine r_get C hR 9 0 13 (v := .ref (a 62 0)) (lv0 (by decide) (by decide)) (by decide) (by decide) rfl fl_X9_22 dX9_sceneClause_54 ?_
      refine lv_aload_n hx hb dX9_sceneClause_57 rfl (lv_at hl 0 rfl) ?_
      refine r_get C hR 9 0 9 (v := .int (gI u110 9 0 9)) (lv0 (by decide) (by decide)) (by decide) (by decide) rfl fl_X9_128 dX9_sceneClause_58 ?_
      obtain ⟨k111, hk111, h⟩ := ob h
      have hLk111 : k111 < cntS 63 := by have q1 := (ck_in hk111).2.2; have q2 : cntS 63 = 24 := rfl; omega
      refine r_aald C hR 62 0 63 0 6 (lv0 (by decide) (by decide)) (by decide) rfl rfl rfl (fun _ => rfl) rfl hk111 dX9_sceneClause_61 ?_
      refine lv_astore_n (lv' := [(2, .ref (a 63 k111)), (0, .ref (a 9 0)), (1, .int x102)]) hx hb dX9_sceneClause_62 rfl hl (by decide) rfl (fun ls hl => ?_)
      refine lv_aload_n hx hb dX9_sceneClause_63 rfl (lv_at hl 0 rfl) ?_
      refine lv_iconst (v := 0) hx hb dX9_sceneClause_64 (by decide) ?_
      refine lv_iload_n hx hb dX9_sceneClause_65 rfl (lv_at hl 2 rfl) ?_
      obtain ⟨k112, hk112, h⟩ := ob h
      refine r_ast C hR hS 63 k111 (lv0 hLk111 (by decide)) (by decide) rfl (fun _ _ => rfl) rfl hk112 dX9_sceneClause_66 (fun H locs hR hS => ?_)
      obtain ⟨u113, eu113⟩ : ∃ z : HS, z = wI u110 63 k111 k112 x102 := ⟨_, rfl⟩
      rw [← eu113] at hR
      replace h := bd_x eu113 h
      clear eu113
      refine lv_iload_n hx hb dX9_sceneClause_67 rfl (lv_at hl 2 rfl) ?_
      obtain ⟨u114, hz, h⟩ := ob h
      have Kj115 : ∀ (H : Heap) (locs : List Loc) (ls : Array Slot), Rel E a u114 H → va_S (AE E) s.heap H locs → lv_has ls 3 [(0, .ref (a 9 0)), (1, .int x102)] → W p l e { frames := 5, cells := 0, slots := 0, locals := 109 } s m args below meth c H locs 0 0 (MQ below (QW E a none out) args s 0 0 (AE E)) (F0 m 193 ls []) := by
        intro H locs ls hR hS hl
        clear hz
        refine lv_aload_n hx hb dX9_sceneClause_193 rfl (lv_at hl 0 rfl) ?_
        refine lv_bipush (v := 59) hx hb dX9_sceneClause_194 (by decide) ?_
        obtain ⟨u117, hc116, h⟩ := ob h
        refine r_callV0 (As := [.int 59]) (rest := []) (r := 9) (i := 0) C (vX9_sign hc116) hR hS (lv0 (by decide) (by decide)) (by decide) ml_X9_155 mw_X9_sign rfl ⟨Nat.le_of_ble_eq_true rfl, Nat.le_of_ble_eq_true rfl, Nat.le_of_ble_eq_true rfl, Nat.le_of_ble_eq_true rfl⟩ hl.1 rfl (Nat.le_of_ble_eq_true rfl) dX9_sceneClause_196 (fun H locs hR hS => ?_)
        refine lv_aload_n hx hb dX9_sceneClause_199 rfl (lv_at hl 0 rfl) ?_
        refine lv_dup hx hb dX9_sceneClause_200 rfl ?_
        refine r_get C hR 9 0 10 (v := .int (gI u117 9 0 10)) (lv0 (by decide) (by decide)) (by decide) (by decide) rfl fl_X9_131 dX9_sceneClause_201 ?_
        refine lv_iload_n hx hb dX9_sceneClause_204 rfl (lv_at hl 1 rfl) ?_
        obtain ⟨x118, hz, h⟩ := ob h
        have Kj119 : ∀ (H : Heap) (locs : List Loc) (ls : Array Slot), Rel E a u117 H → va_S (AE E) s.heap H locs → lv_has ls 3 [(0, .ref (a 9 0))] → W p l e { frames := 5, cells := 0, slots := 0, locals := 109 } s m args below meth c H locs 0 0 (MQ below (QW E a none out) args s 0 0 (AE E)) (F0 m 213 ls [.int x118, .int (gI u117 9 0 10), .ref (a 9 0)]) := by
          intro H locs ls hR hS hl
          clear hz
          refine lv_iadd hx hb dX9_sceneClause_213 ?_
          refine r_putI (ty := .int) C hR hS 9 0 10 (lv0 (by decide) (by decide)) (by decide) (by decide) (fun _ => rfl) fl_X9_131 (by decide) (by decide +kernel) rfl rfl dX9_sceneClause_214 (fun H locs hR hS => ?_)
          obtain ⟨u120, eu120⟩ : ∃ z : HS, z = wI u117 9 0 10 ((gI u117 9 0 10) + x118) := ⟨_, rfl⟩
          rw [← eu120] at hR
          replace h := bd_x eu120 h
          clear eu120
          refine lv_aload_n hx hb dX9_sceneClause_217 rfl (lv_at hl 0 rfl) ?_
          refine lv_dup hx hb dX9_sceneClause_218 rfl ?_
          refine r_get C hR 9 0 9 (v := .int (gI u120 9 0 9)) (lv0 (by decide) (by decide)) (by decide) (by decide) rfl fl_X9_128 dX9_sceneClause_219 ?_
          refine lv_iconst (v := 1) hx hb dX9_sceneClause_222 (by decide) ?_
          refine lv_iadd hx hb dX9_sceneClause_223 ?_
          refine r_putI (ty := .int) C hR hS 9 0 9 (lv0 (by decide) (by decide)) (by decide) (by decide) (fun _ => rfl) fl_X9_128 (by decide) (by decide +kernel) rfl rfl dX9_sceneClause_224 (fun H locs hR hS => ?_)
          obtain ⟨u121, eu121⟩ : ∃ z : HS, z = wI u120 9 0 9 ((gI u120 9 0 9) + 1) := ⟨_, rfl⟩
          rw [← eu121] at hR
          replace h := bd_x eu121 h
          clear eu121
          cases h
          exact e_vret C hr hR hS (Nat.le_of_ble_eq_true rfl) (Nat.le_of_ble_eq_true rfl) dX9_sceneClause_227
        clear h
        have h := hz
        clear hz
        refine lv_if_ne (tgt := 212) hx hb dX9_sceneClause_205 (by decide) (fun c_122 => ?_) (fun c_122 => ?_)
        · rw [if_neg c_122] at h
          refine lv_iconst (v := 0) hx hb dX9_sceneClause_212 (by decide) ?_
          cases h
          exact Kj119 _ _ _ hR hS (lv_sub hl [0] rfl)
        · rw [if_pos c_122] at h
          refine lv_iconst (v := 1) hx hb dX9_sceneClause_208 (by decide) ?_
          refine lv_goto (tgt := 213) hx hb dX9_sceneClause_209 (by decide) ?_
          cases h
          exact Kj119 _ _ _ hR hS (lv_sub hl [0] rfl)
      clear h
      have h := hz
      clear hz
      refine lv_if_ne (tgt := 96) hx hb dX9_sceneClause_68 (by decide) (fun c_123 => ?_) (fun c_123 => ?_)
      · rw [if_neg c_123] at h
        refine lv_aload_n hx hb dX9_sceneClause_96 rfl (lv_at hl 0 rfl) ?_
        refine lv_iconst (v := 1) hx hb dX9_sceneClause_97 (by decide) ?_
        refine lv_aload_n hx hb dX9_sceneClause_98 rfl (lv_at hl 1 rfl) ?_
        refine lv_iconst (v := 0) hx hb dX9_sceneClause_99 (by decide) ?_
        refine lv_aload_n hx hb dX9_sceneClause_100 rfl (lv_at hl 1 rfl) ?_
        refine r_get C hR 9 0 10 (v := .int (gI u113 9 0 10)) (lv0 (by decide) (by decide)) (by decide) (by decide) rfl fl_X9_131 dX9_sceneClause_101 ?_
        refine lv_iconst (v := 1) hx hb dX9_sceneClause_104 (by decide) ?_
        refine lv_isub hx hb dX9_sceneClause_105 ?_
        refine lv_iconst (v := (-1)) hx hb dX9_sceneClause_106 (by decide) ?_
        obtain ⟨⟨x125, u126⟩, hc124, h⟩ := ob h
        replace h := bd_x (x := x125) rfl h
        replace h := bd_x (x := u126) rfl h
        refine r_callV1 (As := [.int 0, .int ((gI u113 9 0 10) - 1), .int (-1)]) (rest := [.int 1, .ref (a 63 k111)]) (r := 9) (i := 0) C (vX9_number hc124) hR hS (lv0 (by decide) (by decide)) (by decide) ml_X9_147 mw_X9_number rfl ⟨Nat.le_of_ble_eq_true rfl, Nat.le_of_ble_eq_true rfl, Nat.le_of_ble_eq_true rfl, Nat.le_of_ble_eq_true rfl⟩ hl.1 rfl (Nat.le_of_ble_eq_true rfl) dX9_sceneClause_107 (fun H locs hR hS => ?_)
        obtain ⟨k127, hk127, h⟩ := ob h
        refine r_ast C hR hS 63 k111 (lv0 hLk111 (by decide)) (by decide) rfl (fun _ _ => rfl) rfl hk127 dX9_sceneClause_110 (fun H locs hR hS => ?_)
        obtain ⟨u128, eu128⟩ : ∃ z : HS, z = wI u126 63 k111 k127 x125 := ⟨_, rfl⟩
        rw [← eu128] at hR
        replace h := bd_x eu128 h
        clear eu128
        refine lv_iload_n hx hb dX9_sceneClause_111 rfl (lv_at hl 2 rfl) ?_
        refine lv_iconst (v := 1) hx hb dX9_sceneClause_112 (by decide) ?_
        obtain ⟨u129, hz, h⟩ := ob h
        have Kj130 : ∀ (H : Heap) (locs : List Loc) (ls : Array Slot), Rel E a u129 H → va_S (AE E) s.heap H locs → lv_has ls 3 [(0, .ref (a 9 0)), (1, .int x102), (2, .ref (a 63 k111))] → W p l e { frames := 5, cells := 0, slots := 0, locals := 109 } s m args below meth c H locs 0 0 (MQ below (QW E a none out) args s 0 0 (AE E)) (F0 m 121 ls []) := by
          intro H locs ls hR hS hl
          clear hz
          refine lv_iload_n hx hb dX9_sceneClause_121 rfl (lv_at hl 1 rfl) ?_
          refine lv_iconst (v := 2) hx hb dX9_sceneClause_122 (by decide) ?_
          obtain ⟨u131, hz, h⟩ := ob h
          have Kj132 : ∀ (H : Heap) (locs : List Loc) (ls : Array Slot), Rel E a u131 H → va_S (AE E) s.heap H locs → lv_has ls 3 [(0, .ref (a 9 0)), (1, .int x102), (2, .ref (a 63 k111))] → W p l e { frames := 5, cells := 0, slots := 0, locals := 109 } s m args below meth c H locs 0 0 (MQ below (QW E a none out) args s 0 0 (AE E)) (F0 m 143 ls []) := by
            intro H locs ls hR hS hl
            clear hz
            refine lv_iload_n hx hb dX9_sceneClause_143 rfl (lv_at hl 1 rfl) ?_
            refine lv_iconst (v := 2) hx hb dX9_sceneClause_144 (by decide) ?_
            obtain ⟨u133, hz, h⟩ := ob h
            have Kj134 : ∀ (H : Heap) (locs : List Loc) (ls : Array Slot), Rel E a u133 H → va_S (AE E) s.heap H locs → lv_has ls 3 [(0, .ref (a 9 0)), (1, .int x102), (2, .ref (a 63 k111))] → W p l e { frames := 5, cells := 0, slots := 0, locals := 109 } s m args below meth c H locs 0 0 (MQ below (QW E a none out) args s 0 0 (AE E)) (F0 m 160 ls []) := by
              intro H locs ls hR hS hl
              clear hz
              refine lv_iload_n hx hb dX9_sceneClause_160 rfl (lv_at hl 1 rfl) ?_
              refine lv_iconst (v := 4) hx hb dX9_sceneClause_161 (by decide) ?_
              obtain ⟨u135, hz, h⟩ := ob h
              have Kj136 : ∀ (H : Heap) (locs : List Loc) (ls : Array Slot), Rel E a u135 H → va_S (AE E) s.heap H locs → lv_has ls 3 [(0, .ref (a 9 0)), (1, .int x102), (2, .ref (a 63 k111))] → W p l e { frames := 5, cells := 0, slots := 0, locals := 109 } s m args below meth c H locs 0 0 (MQ below (QW E a none out) args s 0 0 (AE E)) (F0 m 177 ls []) := by
                intro H locs ls hR hS hl
                clear hz
                refine lv_iload_n hx hb dX9_sceneClause_177 rfl (lv_at hl 1 rfl) ?_
                refine lv_iconst (v := 4) hx hb dX9_sceneClause_178 (by decide) ?_
                refine lv_icmp_ne (tgt := 193) hx hb dX9_sceneClause_179 (by decide) (fun c_137 => ?_) (fun c_137 => ?_)
                · rw [if_neg c_137] at h
                  cases h
                  exact Kj115 _ _ _ hR hS (lv_sub hl [0, 1] rfl)
                · rw [if_pos c_137] at h
                  refine lv_aload_n hx hb dX9_sceneClause_182 rfl (lv_at hl 2 rfl) ?_
                  refine lv_iconst (v := 3) hx hb dX9_sceneClause_183 (by decide) ?_
                  refine lv_aload_n hx hb dX9_sceneClause_184 rfl (lv_at hl 0 rfl) ?_
                  refine lv_iconst (v := 0) hx hb dX9_sceneClause_185 (by decide) ?_
                  refine lv_bipush (v := 7) hx hb dX9_sceneClause_186 (by decide) ?_
                  refine lv_iconst (v := (-1)) hx hb dX9_sceneClause_188 (by decide) ?_
                  obtain ⟨⟨x139, u140⟩, hc138, h⟩ := ob h
                  replace h := bd_x (x := x139) rfl h
                  replace h := bd_x (x := u140) rfl h
                  refine r_callV1 (As := [.int 0, .int 7, .int (-1)]) (rest := [.int 3, .ref (a 63 k111)]) (r := 9) (i := 0) C (vX9_number hc138) hR hS (lv0 (by decide) (by decide)) (by decide) ml_X9_147 mw_X9_number rfl ⟨Nat.le_of_ble_eq_true rfl, Nat.le_of_ble_eq_true rfl, Nat.le_of_ble_eq_true rfl, Nat.le_of_ble_eq_true rfl⟩ hl.1 rfl (Nat.le_of_ble_eq_true rfl) dX9_sceneClause_189 (fun H locs hR hS => ?_)
                  obtain ⟨k141, hk141, h⟩ := ob h
                  refine r_ast C hR hS 63 k111 (lv0 hLk111 (by decide)) (by decide) rfl (fun _ _ => rfl) rfl hk141 dX9_sceneClause_192 (fun H locs hR hS => ?_)
                  obtain ⟨u142, eu142⟩ : ∃ z : HS, z = wI u140 63 k111 k141 x139 := ⟨_, rfl⟩
                  rw [← eu142] at hR
                  replace h := bd_x eu142 h
                  clear eu142
                  cases h
                  exact Kj115 _ _ _ hR hS (lv_sub hl [0, 1] rfl)
              clear h
              have h := hz
              clear hz
              refine lv_icmp_ne (tgt := 177) hx hb dX9_sceneClause_162 (by decide) (fun c_143 => ?_) (fun c_143 => ?_)
              · rw [if_neg c_143] at h
                cases h
                exact Kj136 _ _ _ hR hS (lv_sub hl [0, 1, 2] rfl)
              · rw [if_pos c_143] at h
                refine lv_aload_n hx hb dX9_sceneClause_165 rfl (lv_at hl 2 rfl) ?_
                refine lv_iconst (v := 2) hx hb dX9_sceneClause_166 (by decide) ?_
                refine lv_aload_n hx hb dX9_sceneClause_167 rfl (lv_at hl 0 rfl) ?_
                refine lv_iconst (v := 0) hx hb dX9_sceneClause_168 (by decide) ?_
                refine lv_sipush (v := 299) hx hb dX9_sceneClause_169 (by decide) ?_
                refine lv_iconst (v := (-1)) hx hb dX9_sceneClause_172 (by decide) ?_
                obtain ⟨⟨x145, u146⟩, hc144, h⟩ := ob h
                replace h := bd_x (x := x145) rfl h
                replace h := bd_x (x := u146) rfl h
                refine r_callV1 (As := [.int 0, .int 299, .int (-1)]) (rest := [.int 2, .ref (a 63 k111)]) (r := 9) (i := 0) C (vX9_number hc144) hR hS (lv0 (by decide) (by decide)) (by decide) ml_X9_147 mw_X9_number rfl ⟨Nat.le_of_ble_eq_true rfl, Nat.le_of_ble_eq_true rfl, Nat.le_of_ble_eq_true rfl, Nat.le_of_ble_eq_true rfl⟩ hl.1 rfl (Nat.le_of_ble_eq_true rfl) dX9_sceneClause_173 (fun H locs hR hS => ?_)
                obtain ⟨k147, hk147, h⟩ := ob h
                refine r_ast C hR hS 63 k111 (lv0 hLk111 (by decide)) (by decide) rfl (fun _ _ => rfl) rfl hk147 dX9_sceneClause_176 (fun H locs hR hS => ?_)
                obtain ⟨u148, eu148⟩ : ∃ z : HS, z = wI u146 63 k111 k147 x145 := ⟨_, rfl⟩
                rw [← eu148] at hR
                replace h := bd_x eu148 h
                clear eu148
                cases h
                exact Kj136 _ _ _ hR hS (lv_sub hl [0, 1, 2] rfl)
            clear h
            have h := hz
            clear hz
            refine lv_icmp_ne (tgt := 160) hx hb dX9_sceneClause_145 (by decide) (fun c_149 => ?_) (fun c_149 => ?_)
            · rw [if_neg c_149] at h
              cases h
              exact Kj134 _ _ _ hR hS (lv_sub hl [0, 1, 2] rfl)
            · rw [if_pos c_149] at h
              refine lv_aload_n hx hb dX9_sceneClause_148 rfl (lv_at hl 2 rfl) ?_
              refine lv_iconst (v := 3) hx hb dX9_sceneClause_149 (by decide) ?_
              refine lv_aload_n hx hb dX9_sceneClause_150 rfl (lv_at hl 0 rfl) ?_
              refine lv_iconst (v := 0) hx hb dX9_sceneClause_151 (by decide) ?_
              refine lv_sipush (v := 299) hx hb dX9_sceneClause_152 (by decide) ?_
              refine lv_iconst (v := (-1)) hx hb dX9_sceneClause_155 (by decide) ?_
              obtain ⟨⟨x151, u152⟩, hc150, h⟩ := ob h
              replace h := bd_x (x := x151) rfl h
              replace h := bd_x (x := u152) rfl h
              refine r_callV1 (As := [.int 0, .int 299, .int (-1)]) (rest := [.int 3, .ref (a 63 k111)]) (r := 9) (i := 0) C (vX9_number hc150) hR hS (lv0 (by decide) (by decide)) (by decide) ml_X9_147 mw_X9_number rfl ⟨Nat.le_of_ble_eq_true rfl, Nat.le_of_ble_eq_true rfl, Nat.le_of_ble_eq_true rfl, Nat.le_of_ble_eq_true rfl⟩ hl.1 rfl (Nat.le_of_ble_eq_true rfl) dX9_sceneClause_156 (fun H locs hR hS => ?_)
              obtain ⟨k153, hk153, h⟩ := ob h
              refine r_ast C hR hS 63 k111 (lv0 hLk111 (by decide)) (by decide) rfl (fun _ _ => rfl) rfl hk153 dX9_sceneClause_159 (fun H locs hR hS => ?_)
              obtain ⟨u154, eu154⟩ : ∃ z : HS, z = wI u152 63 k111 k153 x151 := ⟨_, rfl⟩
              rw [← eu154] at hR
              replace h := bd_x eu154 h
              clear eu154
              cases h
              exact Kj134 _ _ _ hR hS (lv_sub hl [0, 1, 2] rfl)
          clear h
          have h := hz
          clear hz
          refine lv_icmp_ne (tgt := 143) hx hb dX9_sceneClause_123 (by decide) (fun c_155 => ?_) (fun c_155 => ?_)
          · rw [if_neg c_155] at h
            cases h
            exact Kj132 _ _ _ hR hS (lv_sub hl [0, 1, 2] rfl)
          · rw [if_pos c_155] at h
            refine lv_aload_n hx hb dX9_sceneClause_126 rfl (lv_at hl 2 rfl) ?_
            refine lv_iconst (v := 2) hx hb dX9_sceneClause_127 (by decide) ?_
            refine lv_aload_n hx hb dX9_sceneClause_128 rfl (lv_at hl 0 rfl) ?_
            refine lv_iconst (v := 0) hx hb dX9_sceneClause_129 (by decide) ?_
            refine lv_aload_n hx hb dX9_sceneClause_130 rfl (lv_at hl 0 rfl) ?_
            refine r_get C hR 9 0 10 (v := .int (gI u129 9 0 10)) (lv0 (by decide) (by decide)) (by decide) (by decide) rfl fl_X9_131 dX9_sceneClause_131 ?_
            refine lv_iconst (v := 1) hx hb dX9_sceneClause_134 (by decide) ?_
            refine lv_isub hx hb dX9_sceneClause_135 ?_
            refine lv_aload_n hx hb dX9_sceneClause_136 rfl (lv_at hl 2 rfl) ?_
            refine lv_iconst (v := 1) hx hb dX9_sceneClause_137 (by decide) ?_
            obtain ⟨k156, hk156, h⟩ := ob h
            refine r_ald C hR 63 k111 (lv0 hLk111 (by decide)) (by decide) rfl (fun _ => rfl) rfl hk156 dX9_sceneClause_138 ?_
            obtain ⟨⟨x158, u159⟩, hc157, h⟩ := ob h
            replace h := bd_x (x := x158) rfl h
            replace h := bd_x (x := u159) rfl h
            refine r_callV1 (As := [.int 0, .int ((gI u129 9 0 10) - 1), .int (gI u129 63 k111 k156)]) (rest := [.int 2, .ref (a 63 k111)]) (r := 9) (i := 0) C (vX9_number hc157) hR hS (lv0 (by decide) (by decide)) (by decide) ml_X9_147 mw_X9_number rfl ⟨Nat.le_of_ble_eq_true rfl, Nat.le_of_ble_eq_true rfl, Nat.le_of_ble_eq_true rfl, Nat.le_of_ble_eq_true rfl⟩ hl.1 rfl (Nat.le_of_ble_eq_true rfl) dX9_sceneClause_139 (fun H locs hR hS => ?_)
            obtain ⟨k160, hk160, h⟩ := ob h
            refine r_ast C hR hS 63 k111 (lv0 hLk111 (by decide)) (by decide) rfl (fun _ _ => rfl) rfl hk160 dX9_sceneClause_142 (fun H locs hR hS => ?_)
            obtain ⟨u161, eu161⟩ : ∃ z : HS, z = wI u159 63 k111 k160 x158 := ⟨_, rfl⟩
            rw [← eu161] at hR
            replace h := bd_x eu161 h
            clear eu161
            cases h
            exact Kj132 _ _ _ hR hS (lv_sub hl [0, 1, 2] rfl)
        clear h
        have h := hz
        clear hz
        refine lv_icmp_ne (tgt := 121) hx hb dX9_sceneClause_113 (by decide) (fun c_162 => ?_) (fun c_162 => ?_)
        · rw [if_neg c_162] at h
          cases h
          exact Kj130 _ _ _ hR hS (lv_sub hl [1, 2, 0] rfl)
        · rw [if_pos c_162] at h
          refine lv_aload_n hx hb dX9_sceneClause_116 rfl (lv_at hl 1 rfl) ?_
          refine lv_aload_n hx hb dX9_sceneClause_117 rfl (lv_at hl 0 rfl) ?_
          obtain ⟨u164, hc163, h⟩ := ob h
          refine r_callV0 (As := [.ref (a 63 k111)]) (rest := []) (r := 9) (i := 0) C (vX9_readsWay hLk111 hc163) hR hS (lv0 (by decide) (by decide)) (by decide) ml_X9_151 mw_X9_readsWay rfl ⟨Nat.le_of_ble_eq_true rfl, Nat.le_of_ble_eq_true rfl, Nat.le_of_ble_eq_true rfl, Nat.le_of_ble_eq_true rfl⟩ hl.1 rfl (Nat.le_of_ble_eq_true rfl) dX9_sceneClause_118 (fun H locs hR hS => ?_)
          cases h
          exact Kj130 _ _ _ hR hS (lv_sub hl [1, 2, 0] rfl)
      · rw [if_pos c_123] at h
        refine lv_aload_n hx hb dX9_sceneClause_71 rfl (lv_at hl 0 rfl) ?_
        refine lv_iconst (v := 1) hx hb dX9_sceneClause_72 (by decide) ?_
        refine lv_aload_n hx hb dX9_sceneClause_73 rfl (lv_at hl 1 rfl) ?_
        refine lv_iconst (v := 0) hx hb dX9_sceneClause_74 (by decide) ?_
        refine lv_bipush (v := 7) hx hb dX9_sceneClause_75 (by decide) ?_
        refine lv_iconst (v := (-1)) hx hb dX9_sceneClause_77 (by decide) ?_
        obtain ⟨⟨x166, u167⟩, hc165, h⟩ := ob h
        replace h := bd_x (x := x166) rfl h
        replace h := bd_x (x := u167) rfl h
        refine r_callV1 (As := [.int 0, .int 7, .int (-1)]) (rest := [.int 1, .ref (a 63 k111)]) (r := 9) (i := 0) C (vX9_number hc165) hR hS (lv0 (by decide) (by decide)) (by decide) ml_X9_147 mw_X9_number rfl ⟨Nat.le_of_ble_eq_true rfl, Nat.le_of_ble_eq_true rfl, Nat.le_of_ble_eq_true rfl, Nat.le_of_ble_eq_true rfl⟩ hl.1 rfl (Nat.le_of_ble_eq_true rfl) dX9_sceneClause_78 (fun H locs hR hS => ?_)
        obtain ⟨k168, hk168, h⟩ := ob h
        refine r_ast C hR hS 63 k111 (lv0 hLk111 (by decide)) (by decide) rfl (fun _ _ => rfl) rfl hk168 dX9_sceneClause_81 (fun H locs hR hS => ?_)
        obtain ⟨u169, eu169⟩ : ∃ z : HS, z = wI u167 63 k111 k168 x166 := ⟨_, rfl⟩
        rw [← eu169] at hR
        replace h := bd_x eu169 h
        clear eu169
        refine lv_aload_n hx hb dX9_sceneClause_82 rfl (lv_at hl 0 rfl) ?_
        refine lv_iconst (v := 2) hx hb dX9_sceneClause_83 (by decide) ?_
        refine lv_aload_n hx hb dX9_sceneClause_84 rfl (lv_at hl 1 rfl) ?_
        refine lv_iconst (v := 1) hx hb dX9_sceneClause_85 (by decide) ?_
        refine lv_bipush (v := 9) hx hb dX9_sceneClause_86 (by decide) ?_
        refine lv_iconst (v := (-1)) hx hb dX9_sceneClause_88 (by decide) ?_
        obtain ⟨⟨x171, u172⟩, hc170, h⟩ := ob h
        replace h := bd_x (x := x171) rfl h
        replace h := bd_x (x := u172) rfl h
        refine r_callV1 (As := [.int 1, .int 9, .int (-1)]) (rest := [.int 2, .ref (a 63 k111)]) (r := 9) (i := 0) C (vX9_number hc170) hR hS (lv0 (by decide) (by decide)) (by decide) ml_X9_147 mw_X9_number rfl ⟨Nat.le_of_ble_eq_true rfl, Nat.le_of_ble_eq_true rfl, Nat.le_of_ble_eq_true rfl, Nat.le_of_ble_eq_true rfl⟩ hl.1 rfl (Nat.le_of_ble_eq_true rfl) dX9_sceneClause_89 (fun H locs hR hS => ?_)
        obtain ⟨k173, hk173, h⟩ := ob h
        refine r_ast C hR hS 63 k111 (lv0 hLk111 (by decide)) (by decide) rfl (fun _ _ => rfl) rfl hk173 dX9_sceneClause_92 (fun H locs hR hS => ?_)
        obtain ⟨u174, eu174⟩ : ∃ z : HS, z = wI u172 63 k111 k173 x171 := ⟨_, rfl⟩
        rw [← eu174] at hR
        replace h := bd_x eu174 h
        clear eu174
        refine lv_goto (tgt := 193) hx hb dX9_sceneClause_93 (by decide) ?_
        cases h
        exact Kj115 _ _ _ hR hS (lv_sub hl [1, 2] rfl)
    · rw [if_neg c_108] at h
      cases h
      exact e_vret C hr hR hS (Nat.le_of_ble_eq_true rfl) (Nat.le_of_ble_eq_true rfl) dX9_sceneClause_48
  clear h
  have h := hz
  clear hz
  refine lv_if_ne (tgt := 41) hx hb dX9_sceneClause_16 (by decide) (fun c_175 => ?_) (fun c_175 => ?_)
  · rw [if_neg c_175] at h
    cases h
    exact Kj107 _ _ _ hR hS (lv_sub hl [1, 0] rfl)
  · rw [if_pos c_175] at h
    refine lv_iload_n hx hb dX9_sceneClause_19 rfl (lv_at hl 0 rfl) ?_
    refine lv_if_ne (tgt := 41) hx hb dX9_sceneClause_20 (by decide) (fun c_176 => ?_) (fun c_176 => ?_)
    · rw [if_neg c_176] at h
      cases h
      exact Kj107 _ _ _ hR hS (lv_sub hl [1, 0] rfl)
    · rw [if_pos c_176] at h
      refine lv_aload_n hx hb dX9_sceneClause_23 rfl (lv_at hl 1 rfl) ?_
      refine r_get C hR 9 0 10 (v := .int (gI u105 9 0 10)) (lv0 (by decide) (by decide)) (by decide) (by decide) rfl fl_X9_131 dX9_sceneClause_24 ?_
      refine lv_bipush (v := 8) hx hb dX9_sceneClause_27 (by decide) ?_
      refine lv_icmp_ne (tgt := 41) hx hb dX9_sceneClause_29 (by decide) (fun c_177 => ?_) (fun c_177 => ?_)
      · rw [if_neg c_177] at h
        cases h
        exact Kj107 _ _ _ hR hS (lv_sub hl [1, 0] rfl)
      · rw [if_pos c_177] at h
        refine lv_aload_n hx hb dX9_sceneClause_32 rfl (lv_at hl 1 rfl) ?_
        refine lv_iconst (v := 3) hx hb dX9_sceneClause_33 (by decide) ?_
        refine lv_aload_n hx hb dX9_sceneClause_34 rfl (lv_at hl 1 rfl) ?_
        refine r_get C hR 9 0 4 (v := .int (gI u105 9 0 4)) (lv0 (by decide) (by decide)) (by decide) (by decide) rfl fl_X9_85 dX9_sceneClause_35 ?_
        obtain ⟨u179, hc178, h⟩ := ob h
        refine r_callV0 (As := [.int 3, .int (gI u105 9 0 4)]) (rest := []) (r := 9) (i := 0) C (vX9_wrongAt hc178) hR hS (lv0 (by decide) (by decide)) (by decide) ml_X9_108 mw_X9_wrongAt rfl ⟨Nat.le_of_ble_eq_true rfl, Nat.le_of_ble_eq_true rfl, Nat.le_of_ble_eq_true rfl, Nat.le_of_ble_eq_true rfl⟩ hl.1 rfl (Nat.le_of_ble_eq_true rfl) dX9_sceneClause_38 (fun H locs hR hS => ?_)
        cases h
        exact Kj107 _ _ _ hR hS (lv_sub hl [1, 0] rfl)
set_option maxHeartbeats 4000000 in
set_option maxRecDepth 100000 in
theorem vX9_isRead {l : Launch} {E : EV} {a : Nat → Nat → Nat} {u0 : HS} {x1 : Int32} {x2 : Int32} {out : (Int32 × HS)} (h : mX9_isRead u0 x1 x2 = some out) : Ct l E yX9_isRead cX9_isRead 3 (some .boolean) 3 62 0 0 a u0 [.ref (a 9 0), .int x1, .int x2] (some (.int out.1)) out.2 := by
  refine Ct.start (by decide) (Nat.le_of_ble_eq_true rfl) ?_
  intro p e s m args below meth c ls C hr hR hS hl
  have C : Cx E p s m args meth c cX9_isRead 3 RX9 := C
  have hl : lv_has ls 3 [(0, .ref (a 9 0)), (1, .int x1), (2, .int x2)] := hl
  have hx := C.1
  have hb := C.2.1
  unfold mX9_isRead at h
  refine lv_aload_n hx hb dX9_isRead_0 rfl (lv_at hl 0 rfl) ?_
  refine lv_iconst (v := 0) hx hb dX9_isRead_1 (by decide) ?_
  refine r_putI (ty := .int) C hR hS 9 0 1 (lv0 (by decide) (by decide)) (by decide) (by decide) (fun _ => rfl) fl_X9_79 (by decide) (by decide +kernel) rfl rfl dX9_isRead_2 (fun H locs hR hS => ?_)
  obtain ⟨u101, eu101⟩ : ∃ z : HS, z = wI u0 9 0 1 0 := ⟨_, rfl⟩
  rw [← eu101] at hR
  replace h := bd_x eu101 h
  clear eu101
  refine lv_aload_n hx hb dX9_isRead_5 rfl (lv_at hl 0 rfl) ?_
  refine lv_iconst (v := (-1)) hx hb dX9_isRead_6 (by decide) ?_
  refine r_putI (ty := .int) C hR hS 9 0 3 (lv0 (by decide) (by decide)) (by decide) (by decide) (fun _ => rfl) fl_X9_9 (by decide) (by decide +kernel) rfl rfl dX9_isRead_7 (fun H locs hR hS => ?_)
  obtain ⟨u102, eu102⟩ : ∃ z : HS, z = wI u101 9 0 3 (-1) := ⟨_, rfl⟩
  rw [← eu102] at hR
  replace h := bd_x eu102 h
  clear eu102
  refine lv_iload_n hx hb dX9_isRead_10 rfl (lv_at hl 2 rfl) ?_
  refine lv_if_eq (tgt := 16) hx hb dX9_isRead_11 (by decide) (fun c_103 => ?_) (fun c_103 => ?_)
  · rw [if_pos c_103] at h
    refine lv_aload_n hx hb dX9_isRead_16 rfl (lv_at hl 0 rfl) ?_
    refine lv_iload_n hx hb dX9_isRead_17 rfl (lv_at hl 1 rfl) ?_
    obtain ⟨u105, hc104, h⟩ := ob h
    refine r_callV0 (As := [.int x1]) (rest := []) (r := 9) (i := 0) C (vX9_begins hc104) hR hS (lv0 (by decide) (by decide)) (by decide) ml_X9_159 mw_X9_begins rfl ⟨Nat.le_of_ble_eq_true rfl, Nat.le_of_ble_eq_true rfl, Nat.le_of_ble_eq_true rfl, Nat.le_of_ble_eq_true rfl⟩ hl.1 rfl (Nat.le_of_ble_eq_true rfl) dX9_isRead_18 (fun H locs hR hS => ?_)
    refine lv_iconst (v := 1) hx hb dX9_isRead_21 (by decide) ?_
    cases h
    exact e_zret (v := 1) C hr rfl hR hS (Nat.le_of_ble_eq_true rfl) (Nat.le_of_ble_eq_true rfl) dX9_isRead_22
  · rw [if_neg c_103] at h
    refine lv_iconst (v := 0) hx hb dX9_isRead_14 (by decide) ?_
    cases h
    exact e_zret (v := 0) C hr rfl hR hS (Nat.le_of_ble_eq_true rfl) (Nat.le_of_ble_eq_true rfl) dX9_isRead_15
set_option maxHeartbeats 4000000 in
set_option maxRecDepth 100000 in
theorem vX9_scene {l : Launch} {E : EV} {a : Nat → Nat → Nat} {u0 : HS} {x1 : Int32} {out : (Int32 × HS)} (h : mX9_scene u0 x1 = some out) : Ct l E yX9_scene cX9_scene 4 (some .int) 6 131 0 0 a u0 [.ref (a 9 0), .int x1] (some (.int out.1)) out.2 := by
  refine Ct.start (by decide) (Nat.le_of_ble_eq_true rfl) ?_
  intro p e s m args below meth c ls C hr hR hS hl
  have C : Cx E p s m args meth c cX9_scene 4 RX9 := C
  have hl : lv_has ls 4 [(0, .ref (a 9 0)), (1, .int x1)] := hl
  have hx := C.1
  have hb := C.2.1
  unfold mX9_scene at h
  refine lv_aload_n hx hb dX9_scene_0 rfl (lv_at hl 0 rfl) ?_
  refine lv_iconst (v := 0) hx hb dX9_scene_1 (by decide) ?_
  refine r_putI (ty := .int) C hR hS 9 0 0 (lv0 (by decide) (by decide)) (by decide) (by decide) (fun _ => rfl) fl_X9_76 (by decide) (by decide +kernel) rfl rfl dX9_scene_2 (fun H locs hR hS => ?_)
  obtain ⟨u101, eu101⟩ : ∃ z : HS, z = wI u0 9 0 0 0 := ⟨_, rfl⟩
  rw [← eu101] at hR
  replace h := bd_x eu101 h
  clear eu101
  refine lv_aload_n hx hb dX9_scene_5 rfl (lv_at hl 0 rfl) ?_
  refine lv_iload_n hx hb dX9_scene_6 rfl (lv_at hl 1 rfl) ?_
  refine lv_iconst (v := 0) hx hb dX9_scene_7 (by decide) ?_
  refine lv_aload_n hx hb dX9_scene_8 rfl (lv_at hl 0 rfl) ?_
  refine r_get C hR 9 0 1 (v := .int (gI u101 9 0 1)) (lv0 (by decide) (by decide)) (by decide) (by decide) rfl fl_X9_79 dX9_scene_9 ?_
  obtain ⟨x103, hc102, h⟩ := ob h
  refine r_callS1 (As := [.int x1, .int 0, .int (gI u101 9 0 1)]) (rest := [.ref (a 9 0)]) C (vX9_in hc102) hR hS ml_X9_113 ms_X9_in rfl ⟨Nat.le_of_ble_eq_true rfl, Nat.le_of_ble_eq_true rfl, Nat.le_of_ble_eq_true rfl, Nat.le_of_ble_eq_true rfl⟩ hl.1 rfl (Nat.le_of_ble_eq_true rfl) dX9_scene_12 (fun H locs hR hS => ?_)
  obtain ⟨x104, hz, h⟩ := ob h
  have Kj105 : ∀ (H : Heap) (locs : List Loc) (ls : Array Slot), Rel E a u101 H → va_S (AE E) s.heap H locs → lv_has ls 4 [(0, .ref (a 9 0)), (1, .int x1)] → W p l e { frames := 6, cells := 0, slots := 0, locals := 131 } s m args below meth c H locs 0 0 (MQ below (QW E a (some (.int out.1)) out.2) args s 0 0 (AE E)) (F0 m 23 ls [.int x104, .ref (a 9 0)]) := by
    intro H locs ls hR hS hl
    clear hz
    refine lv_iconst (v := 1) hx hb dX9_scene_23 (by decide) ?_
    obtain ⟨⟨x107, u108⟩, hc106, h⟩ := ob h
    replace h := bd_x (x := x107) rfl h
    replace h := bd_x (x := u108) rfl h
    refine r_callV1 (As := [.int x104, .int 1]) (rest := []) (r := 9) (i := 0) C (vX9_bad hc106) hR hS (lv0 (by decide) (by decide)) (by decide) ml_X9_162 mw_X9_bad rfl ⟨Nat.le_of_ble_eq_true rfl, Nat.le_of_ble_eq_true rfl, Nat.le_of_ble_eq_true rfl, Nat.le_of_ble_eq_true rfl⟩ hl.1 rfl (Nat.le_of_ble_eq_true rfl) dX9_scene_24 (fun H locs hR hS => ?_)
    refine lv_if_eq (tgt := 32) hx hb dX9_scene_27 (by decide) (fun c_109 => ?_) (fun c_109 => ?_)
    · rw [if_pos c_109] at h
      refine lv_aload_n hx hb dX9_scene_32 rfl (lv_at hl 0 rfl) ?_
      refine lv_iload_n hx hb dX9_scene_33 rfl (lv_at hl 1 rfl) ?_
      refine lv_aload_n hx hb dX9_scene_34 rfl (lv_at hl 0 rfl) ?_
      refine r_get C hR 9 0 14 (v := .int (gI u108 9 0 14)) (lv0 (by decide) (by decide)) (by decide) (by decide) rfl fl_X9_166 dX9_scene_35 ?_
      refine lv_bipush (v := 6) hx hb dX9_scene_38 (by decide) ?_
      obtain ⟨x110, hz, h⟩ := ob h
      have Kj111 : ∀ (H : Heap) (locs : List Loc) (ls : Array Slot), Rel E a u108 H → va_S (AE E) s.heap H locs → lv_has ls 4 [(0, .ref (a 9 0))] → W p l e { frames := 6, cells := 0, slots := 0, locals := 131 } s m args below meth c H locs 0 0 (MQ below (QW E a (some (.int out.1)) out.2) args s 0 0 (AE E)) (F0 m 48 ls [.int x110, .int x1, .ref (a 9 0)]) := by
        intro H locs ls hR hS hl
        clear hz
        obtain ⟨⟨x113, u114⟩, hc112, h⟩ := ob h
        replace h := bd_x (x := x113) rfl h
        replace h := bd_x (x := u114) rfl h
        refine r_callV1 (As := [.int x1, .int x110]) (rest := []) (r := 9) (i := 0) C (vX9_isRead hc112) hR hS (lv0 (by decide) (by decide)) (by decide) ml_X9_169 mw_X9_isRead rfl ⟨Nat.le_of_ble_eq_true rfl, Nat.le_of_ble_eq_true rfl, Nat.le_of_ble_eq_true rfl, Nat.le_of_ble_eq_true rfl⟩ hl.1 rfl (Nat.le_of_ble_eq_true rfl) dX9_scene_48 (fun H locs hR hS => ?_)
        refine lv_if_ne (tgt := 56) hx hb dX9_scene_51 (by decide) (fun c_115 => ?_) (fun c_115 => ?_)
        · rw [if_neg c_115] at h
          refine jp_cut h (fun w118 hw118 h => ?_)
          have Kw118 : ∀ (u117 : HS) (H : Heap) (locs : List Loc) (ls : Array Slot), w118 u117 = some out → Rel E a u117 H → va_S (AE E) s.heap H locs → lv_has ls 4 [(0, .ref (a 9 0))] → W p l e { frames := 6, cells := 0, slots := 0, locals := 131 } s m args below meth c H locs 0 0 (MQ below (QW E a (some (.int out.1)) out.2) args s 0 0 (AE E)) (F0 m 85 ls []) := by
            intro u117 H locs ls h hR hS hl
            replace h := jx1 hw118 h
            refine lv_aload_n hx hb dX9_scene_85 rfl (lv_at hl 0 rfl) ?_
            refine lv_aload_n hx hb dX9_scene_86 rfl (lv_at hl 0 rfl) ?_
            refine r_get C hR 9 0 7 (v := .int (gI u117 9 0 7)) (lv0 (by decide) (by decide)) (by decide) (by decide) rfl fl_X9_95 dX9_scene_87 ?_
            refine r_putI (ty := .int) C hR hS 9 0 3 (lv0 (by decide) (by decide)) (by decide) (by decide) (fun _ => rfl) fl_X9_9 (by decide) (by decide +kernel) rfl rfl dX9_scene_90 (fun H locs hR hS => ?_)
            obtain ⟨u119, eu119⟩ : ∃ z : HS, z = wI u117 9 0 3 (gI u117 9 0 7) := ⟨_, rfl⟩
            rw [← eu119] at hR
            replace h := bd_x eu119 h
            clear eu119
            refine lv_aload_n hx hb dX9_scene_93 rfl (lv_at hl 0 rfl) ?_
            refine r_get C hR 9 0 6 (v := .int (gI u119 9 0 6)) (lv0 (by decide) (by decide)) (by decide) (by decide) rfl fl_X9_92 dX9_scene_94 ?_
            refine lv_if_eq (tgt := 108) hx hb dX9_scene_97 (by decide) (fun c_120 => ?_) (fun c_120 => ?_)
            · rw [if_pos c_120] at h
              refine lv_aload_n hx hb dX9_scene_108 rfl (lv_at hl 0 rfl) ?_
              refine r_get C hR 9 0 18 (v := .ref (a 66 0)) (lv0 (by decide) (by decide)) (by decide) (by decide) rfl fl_X9_28 dX9_scene_109 ?_
              refine lv_aload_n hx hb dX9_scene_112 rfl (lv_at hl 0 rfl) ?_
              refine r_get C hR 9 0 14 (v := .int (gI u119 9 0 14)) (lv0 (by decide) (by decide)) (by decide) (by decide) rfl fl_X9_166 dX9_scene_113 ?_
              refine lv_aload_n hx hb dX9_scene_116 rfl (lv_at hl 0 rfl) ?_
              refine r_get C hR 9 0 9 (v := .int (gI u119 9 0 9)) (lv0 (by decide) (by decide)) (by decide) (by decide) rfl fl_X9_128 dX9_scene_117 ?_
              obtain ⟨k121, hk121, h⟩ := ob h
              refine r_ast C hR hS 66 0 (lv0 (by decide) (by decide)) (by decide) rfl (fun _ _ => rfl) rfl hk121 dX9_scene_120 (fun H locs hR hS => ?_)
              obtain ⟨u122, eu122⟩ : ∃ z : HS, z = wI u119 66 0 k121 (gI u119 9 0 9) := ⟨_, rfl⟩
              rw [← eu122] at hR
              replace h := bd_x eu122 h
              clear eu122
              refine lv_aload_n hx hb dX9_scene_121 rfl (lv_at hl 0 rfl) ?_
              refine r_get C hR 9 0 19 (v := .ref (a 67 0)) (lv0 (by decide) (by decide)) (by decide) (by decide) rfl fl_X9_31 dX9_scene_122 ?_
              refine lv_aload_n hx hb dX9_scene_125 rfl (lv_at hl 0 rfl) ?_
              refine r_get C hR 9 0 14 (v := .int (gI u122 9 0 14)) (lv0 (by decide) (by decide)) (by decide) (by decide) rfl fl_X9_166 dX9_scene_126 ?_
              refine lv_iconst (v := 0) hx hb dX9_scene_129 (by decide) ?_
              obtain ⟨k123, hk123, h⟩ := ob h
              refine r_ast C hR hS 67 0 (lv0 (by decide) (by decide)) (by decide) rfl (fun _ _ => rfl) rfl hk123 dX9_scene_130 (fun H locs hR hS => ?_)
              obtain ⟨u124, eu124⟩ : ∃ z : HS, z = wI u122 67 0 k123 0 := ⟨_, rfl⟩
              rw [← eu124] at hR
              replace h := bd_x eu124 h
              clear eu124
              refine lv_iconst (v := 0) hx hb dX9_scene_131 (by decide) ?_
              refine lv_istore_n (lv' := [(2, .int 0), (0, .ref (a 9 0))]) hx hb dX9_scene_132 rfl hl (by decide) rfl (fun ls hl => ?_)
              refine jp_cut h (fun w128 hw128 h => ?_)
              have Kw128 : ∀ (u127 : HS) (H : Heap) (locs : List Loc) (ls : Array Slot), w128 u127 = some out → Rel E a u127 H → va_S (AE E) s.heap H locs → lv_has ls 4 [(0, .ref (a 9 0))] → W p l e { frames := 6, cells := 0, slots := 0, locals := 131 } s m args below meth c H locs 0 0 (MQ below (QW E a (some (.int out.1)) out.2) args s 0 0 (AE E)) (F0 m 276 ls []) := by
                intro u127 H locs ls h hR hS hl
                replace h := jx1 hw128 h
                refine lv_aload_n hx hb dX9_scene_276 rfl (lv_at hl 0 rfl) ?_
                refine lv_dup hx hb dX9_scene_277 rfl ?_
                refine r_get C hR 9 0 14 (v := .int (gI u127 9 0 14)) (lv0 (by decide) (by decide)) (by decide) (by decide) rfl fl_X9_166 dX9_scene_278 ?_
                refine lv_iconst (v := 1) hx hb dX9_scene_281 (by decide) ?_
                refine lv_iadd hx hb dX9_scene_282 ?_
                refine r_putI (ty := .int) C hR hS 9 0 14 (lv0 (by decide) (by decide)) (by decide) (by decide) (fun _ => rfl) fl_X9_166 (by decide) (by decide +kernel) rfl rfl dX9_scene_283 (fun H locs hR hS => ?_)
                obtain ⟨u129, eu129⟩ : ∃ z : HS, z = wI u127 9 0 14 ((gI u127 9 0 14) + 1) := ⟨_, rfl⟩
                rw [← eu129] at hR
                replace h := bd_x eu129 h
                clear eu129
                refine lv_aload_n hx hb dX9_scene_286 rfl (lv_at hl 0 rfl) ?_
                refine r_get C hR 9 0 14 (v := .int (gI u129 9 0 14)) (lv0 (by decide) (by decide)) (by decide) (by decide) rfl fl_X9_166 dX9_scene_287 ?_
                refine lv_iconst (v := 1) hx hb dX9_scene_290 (by decide) ?_
                refine lv_isub hx hb dX9_scene_291 ?_
                cases h
                exact e_iret C hr hR hS (Nat.le_of_ble_eq_true rfl) (Nat.le_of_ble_eq_true rfl) dX9_scene_292
              have LP : ∀ (fu : Nat) (x125 : Int32) (u126 : HS) (H : Heap) (locs : List Loc) (ls : Array Slot), mX9_scene_L133  w128 fu x125 u126 = some out → Rel E a u126 H → va_S (AE E) s.heap H locs → lv_has ls 4 [(0, .ref (a 9 0)), (2, .int x125)] → W p l e { frames := 6, cells := 0, slots := 0, locals := 131 } s m args below meth c H locs 0 0 (MQ below (QW E a (some (.int out.1)) out.2) args s 0 0 (AE E)) (F0 m 133 ls []) := by
                intro fu
                induction fu with
                | zero =>
                  intro x125 u126 H locs ls h
                  have h2 : (none : Option (Int32 × HS)) = some out := h
                  cases h2
                | succ fu ih =>
                  intro x125 u126 H locs ls h hR hS hl
                  rw [mX9_scene_L133.eq_2] at h
                  refine lv_iload_n hx hb dX9_scene_133 rfl (lv_at hl 1 rfl) ?_
                  refine lv_aload_n hx hb dX9_scene_134 rfl (lv_at hl 0 rfl) ?_
                  refine r_get C hR 9 0 9 (v := .int (gI u126 9 0 9)) (lv0 (by decide) (by decide)) (by decide) (by decide) rfl fl_X9_128 dX9_scene_135 ?_
                  refine lv_icmp_ge (tgt := 276) hx hb dX9_scene_138 (by decide) (fun c_130 => ?_) (fun c_130 => ?_)
                  · rw [if_pos c_130] at h
                    exact Kw128 _ _ _ _ h hR hS (lv_sub hl [0] rfl)
                  · rw [if_neg c_130] at h
                    refine lv_iconst (v := 0) hx hb dX9_scene_141 (by decide) ?_
                    refine lv_istore_n (lv' := [(3, .int 0), (0, .ref (a 9 0)), (2, .int x125)]) hx hb dX9_scene_142 rfl hl (by decide) rfl (fun ls hl => ?_)
                    refine jp_cut h (fun w134 hw134 h => ?_)
                    have Kw134 : ∀ (u133 : HS) (H : Heap) (locs : List Loc) (ls : Array Slot), w134 u133 = some out → Rel E a u133 H → va_S (AE E) s.heap H locs → lv_has ls 4 [(0, .ref (a 9 0)), (2, .int x125)] → W p l e { frames := 6, cells := 0, slots := 0, locals := 131 } s m args below meth c H locs 0 0 (MQ below (QW E a (some (.int out.1)) out.2) args s 0 0 (AE E)) (F0 m 179 ls []) := by
                      intro u133 H locs ls h hR hS hl
                      replace h := jx1 hw134 h
                      refine lv_aload_n hx hb dX9_scene_179 rfl (lv_at hl 0 rfl) ?_
                      refine r_get C hR 9 0 13 (v := .ref (a 62 0)) (lv0 (by decide) (by decide)) (by decide) (by decide) rfl fl_X9_22 dX9_scene_180 ?_
                      refine lv_iload_n hx hb dX9_scene_183 rfl (lv_at hl 1 rfl) ?_
                      obtain ⟨k135, hk135, h⟩ := ob h
                      have hLk135 : k135 < cntS 63 := by have q1 := (ck_in hk135).2.2; have q2 : cntS 63 = 24 := rfl; omega
                      refine r_aald C hR 62 0 63 0 6 (lv0 (by decide) (by decide)) (by decide) rfl rfl rfl (fun _ => rfl) rfl hk135 dX9_scene_184 ?_
                      refine lv_iconst (v := 0) hx hb dX9_scene_185 (by decide) ?_
                      obtain ⟨k136, hk136, h⟩ := ob h
                      refine r_ald C hR 63 k135 (lv0 hLk135 (by decide)) (by decide) rfl (fun _ => rfl) rfl hk136 dX9_scene_186 ?_
                      obtain ⟨u137, hz, h⟩ := ob h
                      have Kj138 : ∀ (H : Heap) (locs : List Loc) (ls : Array Slot), Rel E a u137 H → va_S (AE E) s.heap H locs → lv_has ls 4 [(0, .ref (a 9 0)), (2, .int x125)] → W p l e { frames := 6, cells := 0, slots := 0, locals := 131 } s m args below meth c H locs 0 0 (MQ below (QW E a (some (.int out.1)) out.2) args s 0 0 (AE E)) (F0 m 270 ls []) := by
                        intro H locs ls hR hS hl
                        clear hz
                        obtain ⟨x139, ex139⟩ : ∃ z : Int32, z = x125 + 1 := ⟨_, rfl⟩
                        replace h := bd_x ex139 h
                        refine lv_iinc (v := x139) (lv' := [(2, .int x139), (0, .ref (a 9 0))]) hx hb dX9_scene_270 hl (k := 1) rfl (by rw [ex139]; rfl) (by decide) rfl (fun ls hl => ?_)
                        refine lv_goto (tgt := 133) hx hb dX9_scene_273 (by decide) ?_
                        exact ih _ _ _ _ _ h hR hS (lv_sub hl [1, 0] rfl)
                      clear h
                      have h := hz
                      clear hz
                      refine lv_if_eq (tgt := 193) hx hb dX9_scene_187 (by decide) (fun c_140 => ?_) (fun c_140 => ?_)
                      · rw [if_pos c_140] at h
                        refine lv_aload_n hx hb dX9_scene_193 rfl (lv_at hl 0 rfl) ?_
                        refine r_get C hR 9 0 20 (v := .ref (a 68 0)) (lv0 (by decide) (by decide)) (by decide) (by decide) rfl fl_X9_34 dX9_scene_194 ?_
                        refine lv_bipush (v := 8) hx hb dX9_scene_197 (by decide) ?_
                        refine lv_aload_n hx hb dX9_scene_199 rfl (lv_at hl 0 rfl) ?_
                        refine r_get C hR 9 0 14 (v := .int (gI u133 9 0 14)) (lv0 (by decide) (by decide)) (by decide) (by decide) rfl fl_X9_166 dX9_scene_200 ?_
                        refine lv_imul hx hb dX9_scene_203 ?_
                        refine lv_aload_n hx hb dX9_scene_204 rfl (lv_at hl 0 rfl) ?_
                        refine r_get C hR 9 0 19 (v := .ref (a 67 0)) (lv0 (by decide) (by decide)) (by decide) (by decide) rfl fl_X9_31 dX9_scene_205 ?_
                        refine lv_aload_n hx hb dX9_scene_208 rfl (lv_at hl 0 rfl) ?_
                        refine r_get C hR 9 0 14 (v := .int (gI u133 9 0 14)) (lv0 (by decide) (by decide)) (by decide) (by decide) rfl fl_X9_166 dX9_scene_209 ?_
                        obtain ⟨k141, hk141, h⟩ := ob h
                        refine r_ald C hR 67 0 (lv0 (by decide) (by decide)) (by decide) rfl (fun _ => rfl) rfl hk141 dX9_scene_212 ?_
                        refine lv_iadd hx hb dX9_scene_213 ?_
                        obtain ⟨k142, hk142, h⟩ := ob h
                        have hLk142 : k142 < cntS 69 := by have q1 := (ck_in hk142).2.2; have q2 : cntS 69 = 48 := rfl; omega
                        refine r_aald C hR 68 0 69 0 6 (lv0 (by decide) (by decide)) (by decide) rfl rfl rfl (fun _ => rfl) rfl hk142 dX9_scene_214 ?_
                        refine lv_iconst (v := 0) hx hb dX9_scene_215 (by decide) ?_
                        refine lv_aload_n hx hb dX9_scene_216 rfl (lv_at hl 0 rfl) ?_
                        refine r_get C hR 9 0 13 (v := .ref (a 62 0)) (lv0 (by decide) (by decide)) (by decide) (by decide) rfl fl_X9_22 dX9_scene_217 ?_
                        refine lv_iload_n hx hb dX9_scene_220 rfl (lv_at hl 1 rfl) ?_
                        obtain ⟨k143, hk143, h⟩ := ob h
                        have hLk143 : k143 < cntS 63 := by have q1 := (ck_in hk143).2.2; have q2 : cntS 63 = 24 := rfl; omega
                        refine r_aald C hR 62 0 63 0 6 (lv0 (by decide) (by decide)) (by decide) rfl rfl rfl (fun _ => rfl) rfl hk143 dX9_scene_221 ?_
                        refine lv_iconst (v := 1) hx hb dX9_scene_222 (by decide) ?_
                        obtain ⟨k144, hk144, h⟩ := ob h
                        refine r_ald C hR 63 k143 (lv0 hLk143 (by decide)) (by decide) rfl (fun _ => rfl) rfl hk144 dX9_scene_223 ?_
                        obtain ⟨k145, hk145, h⟩ := ob h
                        refine r_ast C hR hS 69 k142 (lv0 hLk142 (by decide)) (by decide) rfl (fun _ _ => rfl) rfl hk145 dX9_scene_224 (fun H locs hR hS => ?_)
                        obtain ⟨u146, eu146⟩ : ∃ z : HS, z = wI u133 69 k142 k145 (gI u133 63 k143 k144) := ⟨_, rfl⟩
                        rw [← eu146] at hR
                        replace h := bd_x eu146 h
                        clear eu146
                        refine lv_aload_n hx hb dX9_scene_225 rfl (lv_at hl 0 rfl) ?_
                        refine r_get C hR 9 0 20 (v := .ref (a 68 0)) (lv0 (by decide) (by decide)) (by decide) (by decide) rfl fl_X9_34 dX9_scene_226 ?_
                        refine lv_bipush (v := 8) hx hb dX9_scene_229 (by decide) ?_
                        refine lv_aload_n hx hb dX9_scene_231 rfl (lv_at hl 0 rfl) ?_
                        refine r_get C hR 9 0 14 (v := .int (gI u146 9 0 14)) (lv0 (by decide) (by decide)) (by decide) (by decide) rfl fl_X9_166 dX9_scene_232 ?_
                        refine lv_imul hx hb dX9_scene_235 ?_
                        refine lv_aload_n hx hb dX9_scene_236 rfl (lv_at hl 0 rfl) ?_
                        refine r_get C hR 9 0 19 (v := .ref (a 67 0)) (lv0 (by decide) (by decide)) (by decide) (by decide) rfl fl_X9_31 dX9_scene_237 ?_
                        refine lv_aload_n hx hb dX9_scene_240 rfl (lv_at hl 0 rfl) ?_
                        refine r_get C hR 9 0 14 (v := .int (gI u146 9 0 14)) (lv0 (by decide) (by decide)) (by decide) (by decide) rfl fl_X9_166 dX9_scene_241 ?_
                        obtain ⟨k147, hk147, h⟩ := ob h
                        refine r_ald C hR 67 0 (lv0 (by decide) (by decide)) (by decide) rfl (fun _ => rfl) rfl hk147 dX9_scene_244 ?_
                        refine lv_iadd hx hb dX9_scene_245 ?_
                        obtain ⟨k148, hk148, h⟩ := ob h
                        have hLk148 : k148 < cntS 69 := by have q1 := (ck_in hk148).2.2; have q2 : cntS 69 = 48 := rfl; omega
                        refine r_aald C hR 68 0 69 0 6 (lv0 (by decide) (by decide)) (by decide) rfl rfl rfl (fun _ => rfl) rfl hk148 dX9_scene_246 ?_
                        refine lv_iconst (v := 1) hx hb dX9_scene_247 (by decide) ?_
                        refine lv_aload_n hx hb dX9_scene_248 rfl (lv_at hl 0 rfl) ?_
                        refine r_get C hR 9 0 13 (v := .ref (a 62 0)) (lv0 (by decide) (by decide)) (by decide) (by decide) rfl fl_X9_22 dX9_scene_249 ?_
                        refine lv_iload_n hx hb dX9_scene_252 rfl (lv_at hl 1 rfl) ?_
                        obtain ⟨k149, hk149, h⟩ := ob h
                        have hLk149 : k149 < cntS 63 := by have q1 := (ck_in hk149).2.2; have q2 : cntS 63 = 24 := rfl; omega
                        refine r_aald C hR 62 0 63 0 6 (lv0 (by decide) (by decide)) (by decide) rfl rfl rfl (fun _ => rfl) rfl hk149 dX9_scene_253 ?_
                        refine lv_iconst (v := 2) hx hb dX9_scene_254 (by decide) ?_
                        obtain ⟨k150, hk150, h⟩ := ob h
                        refine r_ald C hR 63 k149 (lv0 hLk149 (by decide)) (by decide) rfl (fun _ => rfl) rfl hk150 dX9_scene_255 ?_
                        obtain ⟨k151, hk151, h⟩ := ob h
                        refine r_ast C hR hS 69 k148 (lv0 hLk148 (by decide)) (by decide) rfl (fun _ _ => rfl) rfl hk151 dX9_scene_256 (fun H locs hR hS => ?_)
                        obtain ⟨u152, eu152⟩ : ∃ z : HS, z = wI u146 69 k148 k151 (gI u146 63 k149 k150) := ⟨_, rfl⟩
                        rw [← eu152] at hR
                        replace h := bd_x eu152 h
                        clear eu152
                        refine lv_aload_n hx hb dX9_scene_257 rfl (lv_at hl 0 rfl) ?_
                        refine r_get C hR 9 0 19 (v := .ref (a 67 0)) (lv0 (by decide) (by decide)) (by decide) (by decide) rfl fl_X9_31 dX9_scene_258 ?_
                        refine lv_aload_n hx hb dX9_scene_261 rfl (lv_at hl 0 rfl) ?_
                        refine r_get C hR 9 0 14 (v := .int (gI u152 9 0 14)) (lv0 (by decide) (by decide)) (by decide) (by decide) rfl fl_X9_166 dX9_scene_262 ?_
                        refine lv_dup2_11 hx hb dX9_scene_265 rfl rfl ?_
                        obtain ⟨k153, hk153, h⟩ := ob h
                        refine r_ald C hR 67 0 (lv0 (by decide) (by decide)) (by decide) rfl (fun _ => rfl) rfl hk153 dX9_scene_266 ?_
                        refine lv_iconst (v := 1) hx hb dX9_scene_267 (by decide) ?_
                        refine lv_iadd hx hb dX9_scene_268 ?_
                        obtain ⟨k154, hk154, h⟩ := ob h
                        refine r_ast C hR hS 67 0 (lv0 (by decide) (by decide)) (by decide) rfl (fun _ _ => rfl) rfl hk154 dX9_scene_269 (fun H locs hR hS => ?_)
                        obtain ⟨u155, eu155⟩ : ∃ z : HS, z = wI u152 67 0 k154 ((gI u152 67 0 k153) + 1) := ⟨_, rfl⟩
                        rw [← eu155] at hR
                        replace h := bd_x eu155 h
                        clear eu155
                        cases h
                        exact Kj138 _ _ _ hR hS (lv_sub hl [0, 1] rfl)
                      · rw [if_neg c_140] at h
                        refine lv_goto (tgt := 270) hx hb dX9_scene_190 (by decide) ?_
                        cases h
                        exact Kj138 _ _ _ hR hS (lv_sub hl [0, 1] rfl)
                    have LP : ∀ (fu : Nat) (x131 : Int32) (u132 : HS) (H : Heap) (locs : List Loc) (ls : Array Slot), mX9_scene_L143 x125 w134 fu x131 u132 = some out → Rel E a u132 H → va_S (AE E) s.heap H locs → lv_has ls 4 [(0, .ref (a 9 0)), (2, .int x125), (3, .int x131)] → W p l e { frames := 6, cells := 0, slots := 0, locals := 131 } s m args below meth c H locs 0 0 (MQ below (QW E a (some (.int out.1)) out.2) args s 0 0 (AE E)) (F0 m 143 ls []) := by
                      intro fu
                      induction fu with
                      | zero =>
                        intro x131 u132 H locs ls h
                        have h2 : (none : Option (Int32 × HS)) = some out := h
                        cases h2
                      | succ fu ih =>
                        intro x131 u132 H locs ls h hR hS hl
                        rw [mX9_scene_L143.eq_2] at h
                        refine lv_iload_n hx hb dX9_scene_143 rfl (lv_at hl 2 rfl) ?_
                        refine lv_bipush (v := 8) hx hb dX9_scene_144 (by decide) ?_
                        refine lv_icmp_ge (tgt := 179) hx hb dX9_scene_146 (by decide) (fun c_156 => ?_) (fun c_156 => ?_)
                        · rw [if_pos c_156] at h
                          exact Kw134 _ _ _ _ h hR hS (lv_sub hl [0, 1] rfl)
                        · rw [if_neg c_156] at h
                          refine lv_aload_n hx hb dX9_scene_149 rfl (lv_at hl 0 rfl) ?_
                          refine r_get C hR 9 0 17 (v := .ref (a 64 0)) (lv0 (by decide) (by decide)) (by decide) (by decide) rfl fl_X9_25 dX9_scene_150 ?_
                          refine lv_bipush (v := 24) hx hb dX9_scene_153 (by decide) ?_
                          refine lv_aload_n hx hb dX9_scene_155 rfl (lv_at hl 0 rfl) ?_
                          refine r_get C hR 9 0 14 (v := .int (gI u132 9 0 14)) (lv0 (by decide) (by decide)) (by decide) (by decide) rfl fl_X9_166 dX9_scene_156 ?_
                          refine lv_imul hx hb dX9_scene_159 ?_
                          refine lv_iload_n hx hb dX9_scene_160 rfl (lv_at hl 1 rfl) ?_
                          refine lv_iadd hx hb dX9_scene_161 ?_
                          obtain ⟨k157, hk157, h⟩ := ob h
                          have hLk157 : k157 < cntS 65 := by have q1 := (ck_in hk157).2.2; have q2 : cntS 65 = 144 := rfl; omega
                          refine r_aald C hR 64 0 65 0 6 (lv0 (by decide) (by decide)) (by decide) rfl rfl rfl (fun _ => rfl) rfl hk157 dX9_scene_162 ?_
                          refine lv_iload_n hx hb dX9_scene_163 rfl (lv_at hl 2 rfl) ?_
                          refine lv_aload_n hx hb dX9_scene_164 rfl (lv_at hl 0 rfl) ?_
                          refine r_get C hR 9 0 13 (v := .ref (a 62 0)) (lv0 (by decide) (by decide)) (by decide) (by decide) rfl fl_X9_22 dX9_scene_165 ?_
                          refine lv_iload_n hx hb dX9_scene_168 rfl (lv_at hl 1 rfl) ?_
                          obtain ⟨k158, hk158, h⟩ := ob h
                          have hLk158 : k158 < cntS 63 := by have q1 := (ck_in hk158).2.2; have q2 : cntS 63 = 24 := rfl; omega
                          refine r_aald C hR 62 0 63 0 6 (lv0 (by decide) (by decide)) (by decide) rfl rfl rfl (fun _ => rfl) rfl hk158 dX9_scene_169 ?_
                          refine lv_iload_n hx hb dX9_scene_170 rfl (lv_at hl 2 rfl) ?_
                          obtain ⟨k159, hk159, h⟩ := ob h
                          refine r_ald C hR 63 k158 (lv0 hLk158 (by decide)) (by decide) rfl (fun _ => rfl) rfl hk159 dX9_scene_171 ?_
                          obtain ⟨k160, hk160, h⟩ := ob h
                          refine r_ast C hR hS 65 k157 (lv0 hLk157 (by decide)) (by decide) rfl (fun _ _ => rfl) rfl hk160 dX9_scene_172 (fun H locs hR hS => ?_)
                          obtain ⟨u161, eu161⟩ : ∃ z : HS, z = wI u132 65 k157 k160 (gI u132 63 k158 k159) := ⟨_, rfl⟩
                          rw [← eu161] at hR
                          replace h := bd_x eu161 h
                          clear eu161
                          obtain ⟨x162, ex162⟩ : ∃ z : Int32, z = x131 + 1 := ⟨_, rfl⟩
                          replace h := bd_x ex162 h
                          refine lv_iinc (v := x162) (lv' := [(3, .int x162), (0, .ref (a 9 0)), (2, .int x125)]) hx hb dX9_scene_173 hl (k := 2) rfl (by rw [ex162]; rfl) (by decide) rfl (fun ls hl => ?_)
                          refine lv_goto (tgt := 143) hx hb dX9_scene_176 (by decide) ?_
                          exact ih _ _ _ _ _ h hR hS (lv_sub hl [1, 2, 0] rfl)
                    exact LP FU _ _ _ _ _ h hR hS (lv_sub hl [1, 2, 0] rfl)
              exact LP FU _ _ _ _ _ h hR hS (lv_sub hl [1, 0] rfl)
            · rw [if_neg c_120] at h
              refine lv_aload_n hx hb dX9_scene_100 rfl (lv_at hl 0 rfl) ?_
              refine r_get C hR 9 0 6 (v := .int (gI u119 9 0 6)) (lv0 (by decide) (by decide)) (by decide) (by decide) rfl fl_X9_92 dX9_scene_101 ?_
              refine lv_bipush (v := 10) hx hb dX9_scene_104 (by decide) ?_
              refine lv_isub hx hb dX9_scene_106 ?_
              cases h
              exact e_iret C hr hR hS (Nat.le_of_ble_eq_true rfl) (Nat.le_of_ble_eq_true rfl) dX9_scene_107
          have LP : ∀ (fu : Nat) (u116 : HS) (H : Heap) (locs : List Loc) (ls : Array Slot), mX9_scene_L56  w118 fu u116 = some out → Rel E a u116 H → va_S (AE E) s.heap H locs → lv_has ls 4 [(0, .ref (a 9 0))] → W p l e { frames := 6, cells := 0, slots := 0, locals := 131 } s m args below meth c H locs 0 0 (MQ below (QW E a (some (.int out.1)) out.2) args s 0 0 (AE E)) (F0 m 56 ls []) := by
            intro fu
            induction fu with
            | zero =>
              intro u116 H locs ls h
              have h2 : (none : Option (Int32 × HS)) = some out := h
              cases h2
            | succ fu ih =>
              intro u116 H locs ls h hR hS hl
              rw [mX9_scene_L56.eq_2] at h
              refine lv_aload_n hx hb dX9_scene_56 rfl (lv_at hl 0 rfl) ?_
              refine r_get C hR 9 0 6 (v := .int (gI u116 9 0 6)) (lv0 (by decide) (by decide)) (by decide) (by decide) rfl fl_X9_92 dX9_scene_57 ?_
              refine lv_if_ne (tgt := 85) hx hb dX9_scene_60 (by decide) (fun c_163 => ?_) (fun c_163 => ?_)
              · rw [if_neg c_163] at h
                exact Kw118 _ _ _ _ h hR hS (lv_sub hl [0] rfl)
              · rw [if_pos c_163] at h
                refine lv_aload_n hx hb dX9_scene_63 rfl (lv_at hl 0 rfl) ?_
                refine r_get C hR 9 0 4 (v := .int (gI u116 9 0 4)) (lv0 (by decide) (by decide)) (by decide) (by decide) rfl fl_X9_85 dX9_scene_64 ?_
                refine lv_aload_n hx hb dX9_scene_67 rfl (lv_at hl 0 rfl) ?_
                refine r_get C hR 9 0 2 (v := .int (gI u116 9 0 2)) (lv0 (by decide) (by decide)) (by decide) (by decide) rfl fl_X9_82 dX9_scene_68 ?_
                refine lv_icmp_ge (tgt := 85) hx hb dX9_scene_71 (by decide) (fun c_164 => ?_) (fun c_164 => ?_)
                · rw [if_pos c_164] at h
                  exact Kw118 _ _ _ _ h hR hS (lv_sub hl [0] rfl)
                · rw [if_neg c_164] at h
                  refine lv_aload_n hx hb dX9_scene_74 rfl (lv_at hl 0 rfl) ?_
                  obtain ⟨u166, hc165, h⟩ := ob h
                  refine r_callV0 (As := []) (rest := []) (r := 9) (i := 0) C (vX9_sceneClause hc165) hR hS (lv0 (by decide) (by decide)) (by decide) ml_X9_173 mw_X9_sceneClause rfl ⟨Nat.le_of_ble_eq_true rfl, Nat.le_of_ble_eq_true rfl, Nat.le_of_ble_eq_true rfl, Nat.le_of_ble_eq_true rfl⟩ hl.1 rfl (Nat.le_of_ble_eq_true rfl) dX9_scene_75 (fun H locs hR hS => ?_)
                  refine lv_aload_n hx hb dX9_scene_78 rfl (lv_at hl 0 rfl) ?_
                  obtain ⟨u168, hc167, h⟩ := ob h
                  refine r_callV0 (As := []) (rest := []) (r := 9) (i := 0) C (vX9_blanks hc167) hR hS (lv0 (by decide) (by decide)) (by decide) ml_X9_101 mw_X9_blanks rfl ⟨Nat.le_of_ble_eq_true rfl, Nat.le_of_ble_eq_true rfl, Nat.le_of_ble_eq_true rfl, Nat.le_of_ble_eq_true rfl⟩ hl.1 rfl (Nat.le_of_ble_eq_true rfl) dX9_scene_79 (fun H locs hR hS => ?_)
                  refine lv_goto (tgt := 56) hx hb dX9_scene_82 (by decide) ?_
                  exact ih _ _ _ _ h hR hS (lv_sub hl [0] rfl)
          exact LP FU _ _ _ _ h hR hS (lv_sub hl [0] rfl)
        · rw [if_pos c_115] at h
          refine lv_iconst (v := (-1)) hx hb dX9_scene_54 (by decide) ?_
          cases h
          exact e_iret C hr hR hS (Nat.le_of_ble_eq_true rfl) (Nat.le_of_ble_eq_true rfl) dX9_scene_55
      clear h
      have h := hz
      clear hz
      refine lv_icmp_ne (tgt := 47) hx hb dX9_scene_40 (by decide) (fun c_169 => ?_) (fun c_169 => ?_)
      · rw [if_neg c_169] at h
        refine lv_iconst (v := 0) hx hb dX9_scene_47 (by decide) ?_
        cases h
        exact Kj111 _ _ _ hR hS (lv_sub hl [0] rfl)
      · rw [if_pos c_169] at h
        refine lv_iconst (v := 1) hx hb dX9_scene_43 (by decide) ?_
        refine lv_goto (tgt := 48) hx hb dX9_scene_44 (by decide) ?_
        cases h
        exact Kj111 _ _ _ hR hS (lv_sub hl [0] rfl)
    · rw [if_neg c_109] at h
      refine lv_iconst (v := 0) hx hb dX9_scene_30 (by decide) ?_
      cases h
      exact e_iret C hr hR hS (Nat.le_of_ble_eq_true rfl) (Nat.le_of_ble_eq_true rfl) dX9_scene_31
  clear h
  have h := hz
  clear hz
  refine lv_if_ne (tgt := 22) hx hb dX9_scene_15 (by decide) (fun c_170 => ?_) (fun c_170 => ?_)
  · rw [if_neg c_170] at h
    refine lv_iconst (v := 0) hx hb dX9_scene_22 (by decide) ?_
    cases h
    exact Kj105 _ _ _ hR hS (lv_sub hl [0, 1] rfl)
  · rw [if_pos c_170] at h
    refine lv_iconst (v := 1) hx hb dX9_scene_18 (by decide) ?_
    refine lv_goto (tgt := 23) hx hb dX9_scene_19 (by decide) ?_
    cases h
    exact Kj105 _ _ _ hR hS (lv_sub hl [0, 1] rfl)
set_option maxHeartbeats 4000000 in
set_option maxRecDepth 100000 in
theorem vX9_taskHere {l : Launch} {E : EV} {a : Nat → Nat → Nat} {u0 : HS}  {out : (Int32 × HS)} (h : mX9_taskHere u0 = some out) : Ct l E yX9_taskHere cX9_taskHere 1 (some .int) 4 89 0 0 a u0 [.ref (a 9 0)] (some (.int out.1)) out.2 := by
  refine Ct.start (by decide) (Nat.le_of_ble_eq_true rfl) ?_
  intro p e s m args below meth c ls C hr hR hS hl
  have C : Cx E p s m args meth c cX9_taskHere 1 RX9 := C
  have hl : lv_has ls 1 [(0, .ref (a 9 0))] := hl
  have hx := C.1
  have hb := C.2.1
  unfold mX9_taskHere at h
  refine lv_aload_n hx hb dX9_taskHere_0 rfl (lv_at hl 0 rfl) ?_
  refine lv_bipush (v := 11) hx hb dX9_taskHere_1 (by decide) ?_
  refine lv_iconst (v := 5) hx hb dX9_taskHere_3 (by decide) ?_
  refine lv_iconst (v := 5) hx hb dX9_taskHere_4 (by decide) ?_
  refine lv_bipush (v := 16) hx hb dX9_taskHere_5 (by decide) ?_
  refine lv_iconst (v := 0) hx hb dX9_taskHere_7 (by decide) ?_
  refine lv_iconst (v := 0) hx hb dX9_taskHere_8 (by decide) ?_
  obtain ⟨⟨x102, u103⟩, hc101, h⟩ := ob h
  replace h := bd_x (x := x102) rfl h
  replace h := bd_x (x := u103) rfl h
  refine r_callV1 (As := [.int 11, .int 5, .int 5, .int 16, .int 0, .int 0]) (rest := []) (r := 9) (i := 0) C (vX9_isWord hc101) hR hS (lv0 (by decide) (by decide)) (by decide) ml_X9_134 mw_X9_isWord rfl ⟨Nat.le_of_ble_eq_true rfl, Nat.le_of_ble_eq_true rfl, Nat.le_of_ble_eq_true rfl, Nat.le_of_ble_eq_true rfl⟩ hl.1 rfl (Nat.le_of_ble_eq_true rfl) dX9_taskHere_9 (fun H locs hR hS => ?_)
  refine lv_if_eq (tgt := 17) hx hb dX9_taskHere_12 (by decide) (fun c_104 => ?_) (fun c_104 => ?_)
  · rw [if_pos c_104] at h
    refine lv_aload_n hx hb dX9_taskHere_17 rfl (lv_at hl 0 rfl) ?_
    refine lv_iconst (v := 4) hx hb dX9_taskHere_18 (by decide) ?_
    refine lv_bipush (v := 18) hx hb dX9_taskHere_19 (by decide) ?_
    refine lv_bipush (v := 15) hx hb dX9_taskHere_21 (by decide) ?_
    refine lv_bipush (v := 16) hx hb dX9_taskHere_23 (by decide) ?_
    refine lv_iconst (v := 0) hx hb dX9_taskHere_25 (by decide) ?_
    refine lv_iconst (v := 0) hx hb dX9_taskHere_26 (by decide) ?_
    obtain ⟨⟨x106, u107⟩, hc105, h⟩ := ob h
    replace h := bd_x (x := x106) rfl h
    replace h := bd_x (x := u107) rfl h
    refine r_callV1 (As := [.int 4, .int 18, .int 15, .int 16, .int 0, .int 0]) (rest := []) (r := 9) (i := 0) C (vX9_isWord hc105) hR hS (lv0 (by decide) (by decide)) (by decide) ml_X9_134 mw_X9_isWord rfl ⟨Nat.le_of_ble_eq_true rfl, Nat.le_of_ble_eq_true rfl, Nat.le_of_ble_eq_true rfl, Nat.le_of_ble_eq_true rfl⟩ hl.1 rfl (Nat.le_of_ble_eq_true rfl) dX9_taskHere_27 (fun H locs hR hS => ?_)
    refine lv_if_eq (tgt := 35) hx hb dX9_taskHere_30 (by decide) (fun c_108 => ?_) (fun c_108 => ?_)
    · rw [if_pos c_108] at h
      refine lv_aload_n hx hb dX9_taskHere_35 rfl (lv_at hl 0 rfl) ?_
      refine lv_iconst (v := 3) hx hb dX9_taskHere_36 (by decide) ?_
      refine lv_bipush (v := 15) hx hb dX9_taskHere_37 (by decide) ?_
      refine lv_bipush (v := 21) hx hb dX9_taskHere_39 (by decide) ?_
      refine lv_bipush (v := 14) hx hb dX9_taskHere_41 (by decide) ?_
      refine lv_bipush (v := 20) hx hb dX9_taskHere_43 (by decide) ?_
      refine lv_iconst (v := 0) hx hb dX9_taskHere_45 (by decide) ?_
      obtain ⟨⟨x110, u111⟩, hc109, h⟩ := ob h
      replace h := bd_x (x := x110) rfl h
      replace h := bd_x (x := u111) rfl h
      refine r_callV1 (As := [.int 3, .int 15, .int 21, .int 14, .int 20, .int 0]) (rest := []) (r := 9) (i := 0) C (vX9_isWord hc109) hR hS (lv0 (by decide) (by decide)) (by decide) ml_X9_134 mw_X9_isWord rfl ⟨Nat.le_of_ble_eq_true rfl, Nat.le_of_ble_eq_true rfl, Nat.le_of_ble_eq_true rfl, Nat.le_of_ble_eq_true rfl⟩ hl.1 rfl (Nat.le_of_ble_eq_true rfl) dX9_taskHere_46 (fun H locs hR hS => ?_)
      refine lv_if_eq (tgt := 54) hx hb dX9_taskHere_49 (by decide) (fun c_112 => ?_) (fun c_112 => ?_)
      · rw [if_pos c_112] at h
        refine lv_aload_n hx hb dX9_taskHere_54 rfl (lv_at hl 0 rfl) ?_
        refine lv_bipush (v := 18) hx hb dX9_taskHere_55 (by decide) ?_
        refine lv_bipush (v := 15) hx hb dX9_taskHere_57 (by decide) ?_
        refine lv_bipush (v := 15) hx hb dX9_taskHere_59 (by decide) ?_
        refine lv_bipush (v := 13) hx hb dX9_taskHere_61 (by decide) ?_
        refine lv_iconst (v := 0) hx hb dX9_taskHere_63 (by decide) ?_
        refine lv_iconst (v := 0) hx hb dX9_taskHere_64 (by decide) ?_
        obtain ⟨⟨x114, u115⟩, hc113, h⟩ := ob h
        replace h := bd_x (x := x114) rfl h
        replace h := bd_x (x := u115) rfl h
        refine r_callV1 (As := [.int 18, .int 15, .int 15, .int 13, .int 0, .int 0]) (rest := []) (r := 9) (i := 0) C (vX9_isWord hc113) hR hS (lv0 (by decide) (by decide)) (by decide) ml_X9_134 mw_X9_isWord rfl ⟨Nat.le_of_ble_eq_true rfl, Nat.le_of_ble_eq_true rfl, Nat.le_of_ble_eq_true rfl, Nat.le_of_ble_eq_true rfl⟩ hl.1 rfl (Nat.le_of_ble_eq_true rfl) dX9_taskHere_65 (fun H locs hR hS => ?_)
        refine lv_if_eq (tgt := 73) hx hb dX9_taskHere_68 (by decide) (fun c_116 => ?_) (fun c_116 => ?_)
        · rw [if_pos c_116] at h
          refine lv_aload_n hx hb dX9_taskHere_73 rfl (lv_at hl 0 rfl) ?_
          refine lv_bipush (v := 23) hx hb dX9_taskHere_74 (by decide) ?_
          refine lv_iconst (v := 1) hx hb dX9_taskHere_76 (by decide) ?_
          refine lv_bipush (v := 20) hx hb dX9_taskHere_77 (by decide) ?_
          refine lv_iconst (v := 3) hx hb dX9_taskHere_79 (by decide) ?_
          refine lv_bipush (v := 8) hx hb dX9_taskHere_80 (by decide) ?_
          refine lv_iconst (v := 0) hx hb dX9_taskHere_82 (by decide) ?_
          obtain ⟨⟨x118, u119⟩, hc117, h⟩ := ob h
          replace h := bd_x (x := x118) rfl h
          replace h := bd_x (x := u119) rfl h
          refine r_callV1 (As := [.int 23, .int 1, .int 20, .int 3, .int 8, .int 0]) (rest := []) (r := 9) (i := 0) C (vX9_isWord hc117) hR hS (lv0 (by decide) (by decide)) (by decide) ml_X9_134 mw_X9_isWord rfl ⟨Nat.le_of_ble_eq_true rfl, Nat.le_of_ble_eq_true rfl, Nat.le_of_ble_eq_true rfl, Nat.le_of_ble_eq_true rfl⟩ hl.1 rfl (Nat.le_of_ble_eq_true rfl) dX9_taskHere_83 (fun H locs hR hS => ?_)
          refine lv_if_eq (tgt := 93) hx hb dX9_taskHere_86 (by decide) (fun c_120 => ?_) (fun c_120 => ?_)
          · rw [if_pos c_120] at h
            refine lv_iconst (v := (-1)) hx hb dX9_taskHere_93 (by decide) ?_
            cases h
            exact e_iret C hr hR hS (Nat.le_of_ble_eq_true rfl) (Nat.le_of_ble_eq_true rfl) dX9_taskHere_94
          · rw [if_neg c_120] at h
            refine lv_iconst (v := 4) hx hb dX9_taskHere_89 (by decide) ?_
            refine lv_goto (tgt := 94) hx hb dX9_taskHere_90 (by decide) ?_
            cases h
            exact e_iret C hr hR hS (Nat.le_of_ble_eq_true rfl) (Nat.le_of_ble_eq_true rfl) dX9_taskHere_94
        · rw [if_neg c_116] at h
          refine lv_iconst (v := 3) hx hb dX9_taskHere_71 (by decide) ?_
          cases h
          exact e_iret C hr hR hS (Nat.le_of_ble_eq_true rfl) (Nat.le_of_ble_eq_true rfl) dX9_taskHere_72
      · rw [if_neg c_112] at h
        refine lv_iconst (v := 2) hx hb dX9_taskHere_52 (by decide) ?_
        cases h
        exact e_iret C hr hR hS (Nat.le_of_ble_eq_true rfl) (Nat.le_of_ble_eq_true rfl) dX9_taskHere_53
    · rw [if_neg c_108] at h
      refine lv_iconst (v := 1) hx hb dX9_taskHere_33 (by decide) ?_
      cases h
      exact e_iret C hr hR hS (Nat.le_of_ble_eq_true rfl) (Nat.le_of_ble_eq_true rfl) dX9_taskHere_34
  · rw [if_neg c_104] at h
    refine lv_iconst (v := 0) hx hb dX9_taskHere_15 (by decide) ?_
    cases h
    exact e_iret C hr hR hS (Nat.le_of_ble_eq_true rfl) (Nat.le_of_ble_eq_true rfl) dX9_taskHere_16
set_option maxHeartbeats 4000000 in
set_option maxRecDepth 100000 in
theorem vX9_taskClause {l : Launch} {E : EV} {a : Nat → Nat → Nat} {u0 : HS}  {out : HS} (h : mX9_taskClause u0 = some out) : Ct l E yX9_taskClause cX9_taskClause 3 none 5 109 0 0 a u0 [.ref (a 9 0)] none out := by
  refine Ct.start (by decide) (Nat.le_of_ble_eq_true rfl) ?_
  intro p e s m args below meth c ls C hr hR hS hl
  have C : Cx E p s m args meth c cX9_taskClause 3 RX9 := C
  have hl : lv_has ls 3 [(0, .ref (a 9 0))] := hl
  have hx := C.1
  have hb := C.2.1
  unfold mX9_taskClause at h
  refine lv_aload_n hx hb dX9_taskClause_0 rfl (lv_at hl 0 rfl) ?_
  obtain ⟨⟨x102, u103⟩, hc101, h⟩ := ob h
  replace h := bd_x (x := x102) rfl h
  replace h := bd_x (x := u103) rfl h
  refine r_callV1 (As := []) (rest := []) (r := 9) (i := 0) C (vX9_taskHere hc101) hR hS (lv0 (by decide) (by decide)) (by decide) ml_X9_176 mw_X9_taskHere rfl ⟨Nat.le_of_ble_eq_true rfl, Nat.le_of_ble_eq_true rfl, Nat.le_of_ble_eq_true rfl, Nat.le_of_ble_eq_true rfl⟩ hl.1 rfl (Nat.le_of_ble_eq_true rfl) dX9_taskClause_1 (fun H locs hR hS => ?_)
  refine lv_istore_n (lv' := [(1, .int x102), (0, .ref (a 9 0))]) hx hb dX9_taskClause_4 rfl hl (by decide) rfl (fun ls hl => ?_)
  refine lv_aload_n hx hb dX9_taskClause_5 rfl (lv_at hl 1 rfl) ?_
  refine lv_iload_n hx hb dX9_taskClause_6 rfl (lv_at hl 0 rfl) ?_
  refine lv_bipush (v := 16) hx hb dX9_taskClause_7 (by decide) ?_
  obtain ⟨u105, hc104, h⟩ := ob h
  refine r_callV0 (As := [.int x102, .int 16]) (rest := []) (r := 9) (i := 0) C (vX9_needs hc104) hR hS (lv0 (by decide) (by decide)) (by decide) ml_X9_141 mw_X9_needs rfl ⟨Nat.le_of_ble_eq_true rfl, Nat.le_of_ble_eq_true rfl, Nat.le_of_ble_eq_true rfl, Nat.le_of_ble_eq_true rfl⟩ hl.1 rfl (Nat.le_of_ble_eq_true rfl) dX9_taskClause_9 (fun H locs hR hS => ?_)
  refine lv_aload_n hx hb dX9_taskClause_12 rfl (lv_at hl 1 rfl) ?_
  refine r_get C hR 9 0 6 (v := .int (gI u105 9 0 6)) (lv0 (by decide) (by decide)) (by decide) (by decide) rfl fl_X9_92 dX9_taskClause_13 ?_
  refine lv_if_eq (tgt := 20) hx hb dX9_taskClause_16 (by decide) (fun c_106 => ?_) (fun c_106 => ?_)
  · rw [if_pos c_106] at h
    refine lv_aload_n hx hb dX9_taskClause_20 rfl (lv_at hl 1 rfl) ?_
    obtain ⟨u108, hc107, h⟩ := ob h
    refine r_callV0 (As := []) (rest := []) (r := 9) (i := 0) C (vX9_skipWord hc107) hR hS (lv0 (by decide) (by decide)) (by decide) ml_X9_144 mw_X9_skipWord rfl ⟨Nat.le_of_ble_eq_true rfl, Nat.le_of_ble_eq_true rfl, Nat.le_of_ble_eq_true rfl, Nat.le_of_ble_eq_true rfl⟩ hl.1 rfl (Nat.le_of_ble_eq_true rfl) dX9_taskClause_21 (fun H locs hR hS => ?_)
    refine lv_aload_n hx hb dX9_taskClause_24 rfl (lv_at hl 1 rfl) ?_
    refine lv_iconst (v := 0) hx hb dX9_taskClause_25 (by decide) ?_
    refine lv_iload_n hx hb dX9_taskClause_26 rfl (lv_at hl 0 rfl) ?_
    refine lv_iconst (v := 3) hx hb dX9_taskClause_27 (by decide) ?_
    obtain ⟨x109, hz, h⟩ := ob h
    have Kj110 : ∀ (H : Heap) (locs : List Loc) (ls : Array Slot), Rel E a u108 H → va_S (AE E) s.heap H locs → lv_has ls 3 [(0, .ref (a 9 0)), (1, .int x102)] → W p l e { frames := 5, cells := 0, slots := 0, locals := 109 } s m args below meth c H locs 0 0 (MQ below (QW E a none out) args s 0 0 (AE E)) (F0 m 38 ls [.int x109, .int 0, .ref (a 9 0)]) := by
      intro H locs ls hR hS hl
      clear hz
      refine lv_iconst (v := (-1)) hx hb dX9_taskClause_38 (by decide) ?_
      obtain ⟨⟨x112, u113⟩, hc111, h⟩ := ob h
      replace h := bd_x (x := x112) rfl h
      replace h := bd_x (x := u113) rfl h
      refine r_callV1 (As := [.int 0, .int x109, .int (-1)]) (rest := []) (r := 9) (i := 0) C (vX9_number hc111) hR hS (lv0 (by decide) (by decide)) (by decide) ml_X9_147 mw_X9_number rfl ⟨Nat.le_of_ble_eq_true rfl, Nat.le_of_ble_eq_true rfl, Nat.le_of_ble_eq_true rfl, Nat.le_of_ble_eq_true rfl⟩ hl.1 rfl (Nat.le_of_ble_eq_true rfl) dX9_taskClause_39 (fun H locs hR hS => ?_)
      refine lv_istore_n (lv' := [(2, .int x112), (0, .ref (a 9 0)), (1, .int x102)]) hx hb dX9_taskClause_42 rfl hl (by decide) rfl (fun ls hl => ?_)
      refine lv_aload_n hx hb dX9_taskClause_43 rfl (lv_at hl 1 rfl) ?_
      refine lv_bipush (v := 59) hx hb dX9_taskClause_44 (by decide) ?_
      obtain ⟨u115, hc114, h⟩ := ob h
      refine r_callV0 (As := [.int 59]) (rest := []) (r := 9) (i := 0) C (vX9_sign hc114) hR hS (lv0 (by decide) (by decide)) (by decide) ml_X9_155 mw_X9_sign rfl ⟨Nat.le_of_ble_eq_true rfl, Nat.le_of_ble_eq_true rfl, Nat.le_of_ble_eq_true rfl, Nat.le_of_ble_eq_true rfl⟩ hl.1 rfl (Nat.le_of_ble_eq_true rfl) dX9_taskClause_46 (fun H locs hR hS => ?_)
      refine lv_aload_n hx hb dX9_taskClause_49 rfl (lv_at hl 1 rfl) ?_
      refine lv_dup hx hb dX9_taskClause_50 rfl ?_
      refine r_get C hR 9 0 9 (v := .int (gI u115 9 0 9)) (lv0 (by decide) (by decide)) (by decide) (by decide) rfl fl_X9_128 dX9_taskClause_51 ?_
      refine lv_iconst (v := 1) hx hb dX9_taskClause_54 (by decide) ?_
      refine lv_iadd hx hb dX9_taskClause_55 ?_
      refine r_putI (ty := .int) C hR hS 9 0 9 (lv0 (by decide) (by decide)) (by decide) (by decide) (fun _ => rfl) fl_X9_128 (by decide) (by decide +kernel) rfl rfl dX9_taskClause_56 (fun H locs hR hS => ?_)
      obtain ⟨u116, eu116⟩ : ∃ z : HS, z = wI u115 9 0 9 ((gI u115 9 0 9) + 1) := ⟨_, rfl⟩
      rw [← eu116] at hR
      replace h := bd_x eu116 h
      clear eu116
      refine lv_aload_n hx hb dX9_taskClause_59 rfl (lv_at hl 1 rfl) ?_
      refine r_get C hR 9 0 6 (v := .int (gI u116 9 0 6)) (lv0 (by decide) (by decide)) (by decide) (by decide) rfl fl_X9_92 dX9_taskClause_60 ?_
      refine lv_if_ne (tgt := 101) hx hb dX9_taskClause_63 (by decide) (fun c_117 => ?_) (fun c_117 => ?_)
      · rw [if_neg c_117] at h
        cases h
        exact e_vret C hr hR hS (Nat.le_of_ble_eq_true rfl) (Nat.le_of_ble_eq_true rfl) dX9_taskClause_101
      · rw [if_pos c_117] at h
        refine lv_aload_n hx hb dX9_taskClause_66 rfl (lv_at hl 1 rfl) ?_
        refine r_get C hR 9 0 21 (v := .ref (a 70 0)) (lv0 (by decide) (by decide)) (by decide) (by decide) rfl fl_X9_37 dX9_taskClause_67 ?_
        refine lv_aload_n hx hb dX9_taskClause_70 rfl (lv_at hl 1 rfl) ?_
        refine r_get C hR 9 0 15 (v := .int (gI u116 9 0 15)) (lv0 (by decide) (by decide)) (by decide) (by decide) rfl fl_X9_179 dX9_taskClause_71 ?_
        obtain ⟨k118, hk118, h⟩ := ob h
        have hLk118 : k118 < cntS 71 := by have q1 := (ck_in hk118).2.2; have q2 : cntS 71 = 6 := rfl; omega
        refine r_aald C hR 70 0 71 0 6 (lv0 (by decide) (by decide)) (by decide) rfl rfl rfl (fun _ => rfl) rfl hk118 dX9_taskClause_74 ?_
        refine lv_iload_n hx hb dX9_taskClause_75 rfl (lv_at hl 2 rfl) ?_
        refine lv_iload_n hx hb dX9_taskClause_76 rfl (lv_at hl 2 rfl) ?_
        refine lv_iconst (v := 2) hx hb dX9_taskClause_77 (by decide) ?_
        obtain ⟨x119, hz, h⟩ := ob h
        have Kj120 : ∀ (H : Heap) (locs : List Loc) (ls : Array Slot), Rel E a u116 H → va_S (AE E) s.heap H locs → lv_has ls 3 [] → W p l e { frames := 5, cells := 0, slots := 0, locals := 109 } s m args below meth c H locs 0 0 (MQ below (QW E a none out) args s 0 0 (AE E)) (F0 m 100 ls [.int x119, .int x102, .ref (a 71 k118)]) := by
          intro H locs ls hR hS hl
          clear hz
          obtain ⟨k121, hk121, h⟩ := ob h
          refine r_ast C hR hS 71 k118 (lv0 hLk118 (by decide)) (by decide) rfl (fun _ _ => rfl) rfl hk121 dX9_taskClause_100 (fun H locs hR hS => ?_)
          obtain ⟨u122, eu122⟩ : ∃ z : HS, z = wI u116 71 k118 k121 x119 := ⟨_, rfl⟩
          rw [← eu122] at hR
          replace h := bd_x eu122 h
          clear eu122
          cases h
          exact e_vret C hr hR hS (Nat.le_of_ble_eq_true rfl) (Nat.le_of_ble_eq_true rfl) dX9_taskClause_101
        clear h
        have h := hz
        clear hz
        refine lv_icmp_ge (tgt := 99) hx hb dX9_taskClause_78 (by decide) (fun c_123 => ?_) (fun c_123 => ?_)
        · rw [if_pos c_123] at h
          refine lv_iload_n hx hb dX9_taskClause_99 rfl (lv_at hl 0 rfl) ?_
          cases h
          exact Kj120 _ _ _ hR hS (lv_sub hl [] rfl)
        · rw [if_neg c_123] at h
          refine lv_aload_n hx hb dX9_taskClause_81 rfl (lv_at hl 1 rfl) ?_
          refine r_get C hR 9 0 21 (v := .ref (a 70 0)) (lv0 (by decide) (by decide)) (by decide) (by decide) rfl fl_X9_37 dX9_taskClause_82 ?_
          refine lv_aload_n hx hb dX9_taskClause_85 rfl (lv_at hl 1 rfl) ?_
          refine r_get C hR 9 0 15 (v := .int (gI u116 9 0 15)) (lv0 (by decide) (by decide)) (by decide) (by decide) rfl fl_X9_179 dX9_taskClause_86 ?_
          obtain ⟨k124, hk124, h⟩ := ob h
          have hLk124 : k124 < cntS 71 := by have q1 := (ck_in hk124).2.2; have q2 : cntS 71 = 6 := rfl; omega
          refine r_aald C hR 70 0 71 0 6 (lv0 (by decide) (by decide)) (by decide) rfl rfl rfl (fun _ => rfl) rfl hk124 dX9_taskClause_89 ?_
          refine lv_iload_n hx hb dX9_taskClause_90 rfl (lv_at hl 2 rfl) ?_
          obtain ⟨k125, hk125, h⟩ := ob h
          refine r_ald C hR 71 k124 (lv0 hLk124 (by decide)) (by decide) rfl (fun _ => rfl) rfl hk125 dX9_taskClause_91 ?_
          refine lv_iconst (v := 1) hx hb dX9_taskClause_92 (by decide) ?_
          refine lv_iload_n hx hb dX9_taskClause_93 rfl (lv_at hl 0 rfl) ?_
          refine lv_ishl hx hb dX9_taskClause_94 ?_
          refine lv_ior hx hb dX9_taskClause_95 ?_
          refine lv_goto (tgt := 100) hx hb dX9_taskClause_96 (by decide) ?_
          cases h
          exact Kj120 _ _ _ hR hS (lv_sub hl [] rfl)
    clear h
    have h := hz
    clear hz
    refine lv_icmp_ge (tgt := 36) hx hb dX9_taskClause_28 (by decide) (fun c_126 => ?_) (fun c_126 => ?_)
    · rw [if_pos c_126] at h
      refine lv_bipush (v := 9) hx hb dX9_taskClause_36 (by decide) ?_
      cases h
      exact Kj110 _ _ _ hR hS (lv_sub hl [1, 0] rfl)
    · rw [if_neg c_126] at h
      refine lv_bipush (v := 7) hx hb dX9_taskClause_31 (by decide) ?_
      refine lv_goto (tgt := 38) hx hb dX9_taskClause_33 (by decide) ?_
      cases h
      exact Kj110 _ _ _ hR hS (lv_sub hl [1, 0] rfl)
  · rw [if_neg c_106] at h
    cases h
    exact e_vret C hr hR hS (Nat.le_of_ble_eq_true rfl) (Nat.le_of_ble_eq_true rfl) dX9_taskClause_19
