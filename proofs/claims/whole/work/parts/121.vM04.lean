set_option maxHeartbeats 4000000 in
set_option maxRecDepth 100000 in
theorem vX9_asked {l : Launch} {E : EV} {a : Nat → Nat → Nat} {u0 : HS} {x1 : Int32} {x2 : Int32} {x3 : Int32} {out : Int32} (h : mX9_asked u0 x1 x2 x3 = some out) : Ct l E yX9_asked cX9_asked 6 (some .int) 2 47 0 0 a u0 [.ref (a 9 0), .int x1, .int x2, .int x3] (some (.int out)) u0 := by
  refine Ct.start (by decide) (Nat.le_of_ble_eq_true rfl) ?_
  intro p e s m args below meth c ls C hr hR hS hl
  have C : Cx E p s m args meth c cX9_asked 6 RX9 := C
  have hl : lv_has ls 6 [(0, .ref (a 9 0)), (1, .int x1), (2, .int x2), (3, .int x3)] := hl
  have hx := C.1
  have hb := C.2.1
  unfold mX9_asked at h
  refine lv_iconst (v := 0) hx hb dX9_asked_0 (by decide) ?_
  refine lv_istore (lv' := [(4, .int 0), (0, .ref (a 9 0)), (1, .int x1), (2, .int x2), (3, .int x3)]) hx hb dX9_asked_1 hl (by decide) rfl (fun ls hl => ?_)
  refine lv_iconst (v := 0) hx hb dX9_asked_3 (by decide) ?_
  refine lv_istore (lv' := [(5, .int 0), (4, .int 0), (0, .ref (a 9 0)), (1, .int x1), (2, .int x2), (3, .int x3)]) hx hb dX9_asked_4 hl (by decide) rfl (fun ls hl => ?_)
  refine jp_cut h (fun w104 hw104 h => ?_)
  have Kw104 : ∀ (x103 : Int32) (H : Heap) (locs : List Loc) (ls : Array Slot), w104 x103 = some out → Rel E a u0 H → va_S (AE E) s.heap H locs → lv_has ls 6 [(4, .int x103)] → W p l e { frames := 2, cells := 0, slots := 0, locals := 47 } s m args below meth c H locs 0 0 (MQ below (QW E a (some (.int out)) u0) args s 0 0 (AE E)) (F0 m 43 ls []) := by
    intro x103 H locs ls h hR hS hl
    replace h := jx1 hw104 h
    refine lv_iload hx hb dX9_asked_43 (lv_at hl 0 rfl) ?_
    cases h
    exact e_iret C hr hR hS (Nat.le_of_ble_eq_true rfl) (Nat.le_of_ble_eq_true rfl) dX9_asked_45
  have LP : ∀ (fu : Nat) (x101 : Int32) (x102 : Int32) (H : Heap) (locs : List Loc) (ls : Array Slot), mX9_asked_L6 u0 x1 x2 x3 w104 fu x101 x102 = some out → Rel E a u0 H → va_S (AE E) s.heap H locs → lv_has ls 6 [(0, .ref (a 9 0)), (1, .int x1), (2, .int x2), (3, .int x3), (4, .int x101), (5, .int x102)] → W p l e { frames := 2, cells := 0, slots := 0, locals := 47 } s m args below meth c H locs 0 0 (MQ below (QW E a (some (.int out)) u0) args s 0 0 (AE E)) (F0 m 6 ls []) := by
    intro fu
    induction fu with
    | zero =>
      intro x101 x102 H locs ls h
      have h2 : (none : Option Int32) = some out := h
      cases h2
    | succ fu ih =>
      intro x101 x102 H locs ls h hR hS hl
      rw [mX9_asked_L6.eq_2] at h
      refine lv_iload hx hb dX9_asked_6 (lv_at hl 5 rfl) ?_
      refine lv_aload_n hx hb dX9_asked_8 rfl (lv_at hl 0 rfl) ?_
      refine r_get C hR 9 0 28 (v := .int (gI u0 9 0 28)) (lv0 (by decide) (by decide)) (by decide) (by decide) rfl fl_X9_288 dX9_asked_9 ?_
      refine lv_icmp_ge (tgt := 43) hx hb dX9_asked_12 (by decide) (fun c_105 => ?_) (fun c_105 => ?_)
      · rw [if_pos c_105] at h
        exact Kw104 _ _ _ _ h hR hS (lv_sub hl [4] rfl)
      · rw [if_neg c_105] at h
        refine lv_iload hx hb dX9_asked_15 (lv_at hl 4 rfl) ?_
        refine lv_aload_n hx hb dX9_asked_17 rfl (lv_at hl 0 rfl) ?_
        refine lv_iload hx hb dX9_asked_18 (lv_at hl 5 rfl) ?_
        refine lv_iload_n hx hb dX9_asked_20 rfl (lv_at hl 1 rfl) ?_
        refine lv_iload_n hx hb dX9_asked_21 rfl (lv_at hl 2 rfl) ?_
        refine lv_iload_n hx hb dX9_asked_22 rfl (lv_at hl 3 rfl) ?_
        obtain ⟨x107, hc106, h⟩ := ob h
        refine r_callV1 (As := [.int x102, .int x1, .int x2, .int x3]) (rest := [.int x101]) (r := 9) (i := 0) C (vX9_isInGroup hc106) hR hS (lv0 (by decide) (by decide)) (by decide) ml_X9_384 mw_X9_isInGroup rfl ⟨Nat.le_of_ble_eq_true rfl, Nat.le_of_ble_eq_true rfl, Nat.le_of_ble_eq_true rfl, Nat.le_of_ble_eq_true rfl⟩ hl.1 rfl (Nat.le_of_ble_eq_true rfl) dX9_asked_23 (fun H locs hR hS => ?_)
        obtain ⟨x108, hz, h⟩ := ob h
        have Kj109 : ∀ (H : Heap) (locs : List Loc) (ls : Array Slot), Rel E a u0 H → va_S (AE E) s.heap H locs → lv_has ls 6 [(0, .ref (a 9 0)), (1, .int x1), (2, .int x2), (3, .int x3), (5, .int x102)] → W p l e { frames := 2, cells := 0, slots := 0, locals := 47 } s m args below meth c H locs 0 0 (MQ below (QW E a (some (.int out)) u0) args s 0 0 (AE E)) (F0 m 34 ls [.int x108, .int x101]) := by
          intro H locs ls hR hS hl
          clear hz
          refine lv_iadd hx hb dX9_asked_34 ?_
          refine lv_topi (fun x110 ex110 => ?_)
          replace h := bd_x ex110 h
          refine lv_istore (lv' := [(4, .int x110), (0, .ref (a 9 0)), (1, .int x1), (2, .int x2), (3, .int x3), (5, .int x102)]) hx hb dX9_asked_35 hl (by decide) rfl (fun ls hl => ?_)
          obtain ⟨x111, ex111⟩ : ∃ z : Int32, z = x102 + 1 := ⟨_, rfl⟩
          replace h := bd_x ex111 h
          refine lv_iinc (v := x111) (lv' := [(5, .int x111), (4, .int x110), (0, .ref (a 9 0)), (1, .int x1), (2, .int x2), (3, .int x3)]) hx hb dX9_asked_37 hl (k := 5) rfl (by rw [ex111]; rfl) (by decide) rfl (fun ls hl => ?_)
          refine lv_goto (tgt := 6) hx hb dX9_asked_40 (by decide) ?_
          exact ih _ _ _ _ _ h hR hS (lv_sub hl [2, 3, 4, 5, 1, 0] rfl)
        clear h
        have h := hz
        clear hz
        refine lv_if_eq (tgt := 33) hx hb dX9_asked_26 (by decide) (fun c_112 => ?_) (fun c_112 => ?_)
        · rw [if_pos c_112] at h
          refine lv_iconst (v := 0) hx hb dX9_asked_33 (by decide) ?_
          cases h
          exact Kj109 _ _ _ hR hS (lv_sub hl [0, 1, 2, 3, 5] rfl)
        · rw [if_neg c_112] at h
          refine lv_iconst (v := 1) hx hb dX9_asked_29 (by decide) ?_
          refine lv_goto (tgt := 34) hx hb dX9_asked_30 (by decide) ?_
          cases h
          exact Kj109 _ _ _ hR hS (lv_sub hl [0, 1, 2, 3, 5] rfl)
  exact LP FU _ _ _ _ _ h hR hS (lv_sub hl [2, 3, 4, 5, 1, 0] rfl)
set_option maxHeartbeats 4000000 in
set_option maxRecDepth 100000 in
theorem vX9_yes {l : Launch} {E : EV} {a : Nat → Nat → Nat} {u0 : HS} {x1 : Int32} {x2 : Int32} {x3 : Int32} {out : Int32} (h : mX9_yes u0 x1 x2 x3 = some out) : Ct l E yX9_yes cX9_yes 6 (some .int) 2 47 0 0 a u0 [.ref (a 9 0), .int x1, .int x2, .int x3] (some (.int out)) u0 := by
  refine Ct.start (by decide) (Nat.le_of_ble_eq_true rfl) ?_
  intro p e s m args below meth c ls C hr hR hS hl
  have C : Cx E p s m args meth c cX9_yes 6 RX9 := C
  have hl : lv_has ls 6 [(0, .ref (a 9 0)), (1, .int x1), (2, .int x2), (3, .int x3)] := hl
  have hx := C.1
  have hb := C.2.1
  unfold mX9_yes at h
  refine lv_iconst (v := 0) hx hb dX9_yes_0 (by decide) ?_
  refine lv_istore (lv' := [(4, .int 0), (0, .ref (a 9 0)), (1, .int x1), (2, .int x2), (3, .int x3)]) hx hb dX9_yes_1 hl (by decide) rfl (fun ls hl => ?_)
  refine lv_iconst (v := 0) hx hb dX9_yes_3 (by decide) ?_
  refine lv_istore (lv' := [(5, .int 0), (4, .int 0), (0, .ref (a 9 0)), (1, .int x1), (2, .int x2), (3, .int x3)]) hx hb dX9_yes_4 hl (by decide) rfl (fun ls hl => ?_)
  refine jp_cut h (fun w104 hw104 h => ?_)
  have Kw104 : ∀ (x103 : Int32) (H : Heap) (locs : List Loc) (ls : Array Slot), w104 x103 = some out → Rel E a u0 H → va_S (AE E) s.heap H locs → lv_has ls 6 [(4, .int x103)] → W p l e { frames := 2, cells := 0, slots := 0, locals := 47 } s m args below meth c H locs 0 0 (MQ below (QW E a (some (.int out)) u0) args s 0 0 (AE E)) (F0 m 53 ls []) := by
    intro x103 H locs ls h hR hS hl
    replace h := jx1 hw104 h
    refine lv_iload hx hb dX9_yes_53 (lv_at hl 0 rfl) ?_
    cases h
    exact e_iret C hr hR hS (Nat.le_of_ble_eq_true rfl) (Nat.le_of_ble_eq_true rfl) dX9_yes_55
  have LP : ∀ (fu : Nat) (x101 : Int32) (x102 : Int32) (H : Heap) (locs : List Loc) (ls : Array Slot), mX9_yes_L6 u0 x1 x2 x3 w104 fu x101 x102 = some out → Rel E a u0 H → va_S (AE E) s.heap H locs → lv_has ls 6 [(0, .ref (a 9 0)), (1, .int x1), (2, .int x2), (3, .int x3), (4, .int x101), (5, .int x102)] → W p l e { frames := 2, cells := 0, slots := 0, locals := 47 } s m args below meth c H locs 0 0 (MQ below (QW E a (some (.int out)) u0) args s 0 0 (AE E)) (F0 m 6 ls []) := by
    intro fu
    induction fu with
    | zero =>
      intro x101 x102 H locs ls h
      have h2 : (none : Option Int32) = some out := h
      cases h2
    | succ fu ih =>
      intro x101 x102 H locs ls h hR hS hl
      rw [mX9_yes_L6.eq_2] at h
      refine lv_iload hx hb dX9_yes_6 (lv_at hl 5 rfl) ?_
      refine lv_aload_n hx hb dX9_yes_8 rfl (lv_at hl 0 rfl) ?_
      refine r_get C hR 9 0 28 (v := .int (gI u0 9 0 28)) (lv0 (by decide) (by decide)) (by decide) (by decide) rfl fl_X9_288 dX9_yes_9 ?_
      refine lv_icmp_ge (tgt := 53) hx hb dX9_yes_12 (by decide) (fun c_105 => ?_) (fun c_105 => ?_)
      · rw [if_pos c_105] at h
        exact Kw104 _ _ _ _ h hR hS (lv_sub hl [4] rfl)
      · rw [if_neg c_105] at h
        refine lv_iload hx hb dX9_yes_15 (lv_at hl 4 rfl) ?_
        refine lv_aload_n hx hb dX9_yes_17 rfl (lv_at hl 0 rfl) ?_
        refine lv_iload hx hb dX9_yes_18 (lv_at hl 5 rfl) ?_
        refine lv_iload_n hx hb dX9_yes_20 rfl (lv_at hl 1 rfl) ?_
        refine lv_iload_n hx hb dX9_yes_21 rfl (lv_at hl 2 rfl) ?_
        refine lv_iload_n hx hb dX9_yes_22 rfl (lv_at hl 3 rfl) ?_
        obtain ⟨x107, hc106, h⟩ := ob h
        refine r_callV1 (As := [.int x102, .int x1, .int x2, .int x3]) (rest := [.int x101]) (r := 9) (i := 0) C (vX9_isInGroup hc106) hR hS (lv0 (by decide) (by decide)) (by decide) ml_X9_384 mw_X9_isInGroup rfl ⟨Nat.le_of_ble_eq_true rfl, Nat.le_of_ble_eq_true rfl, Nat.le_of_ble_eq_true rfl, Nat.le_of_ble_eq_true rfl⟩ hl.1 rfl (Nat.le_of_ble_eq_true rfl) dX9_yes_23 (fun H locs hR hS => ?_)
        obtain ⟨x108, hz, h⟩ := ob h
        have Kj109 : ∀ (H : Heap) (locs : List Loc) (ls : Array Slot), Rel E a u0 H → va_S (AE E) s.heap H locs → lv_has ls 6 [(0, .ref (a 9 0)), (1, .int x1), (2, .int x2), (3, .int x3), (5, .int x102)] → W p l e { frames := 2, cells := 0, slots := 0, locals := 47 } s m args below meth c H locs 0 0 (MQ below (QW E a (some (.int out)) u0) args s 0 0 (AE E)) (F0 m 44 ls [.int x108, .int x101]) := by
          intro H locs ls hR hS hl
          clear hz
          refine lv_iadd hx hb dX9_yes_44 ?_
          refine lv_topi (fun x110 ex110 => ?_)
          replace h := bd_x ex110 h
          refine lv_istore (lv' := [(4, .int x110), (0, .ref (a 9 0)), (1, .int x1), (2, .int x2), (3, .int x3), (5, .int x102)]) hx hb dX9_yes_45 hl (by decide) rfl (fun ls hl => ?_)
          obtain ⟨x111, ex111⟩ : ∃ z : Int32, z = x102 + 1 := ⟨_, rfl⟩
          replace h := bd_x ex111 h
          refine lv_iinc (v := x111) (lv' := [(5, .int x111), (4, .int x110), (0, .ref (a 9 0)), (1, .int x1), (2, .int x2), (3, .int x3)]) hx hb dX9_yes_47 hl (k := 5) rfl (by rw [ex111]; rfl) (by decide) rfl (fun ls hl => ?_)
          refine lv_goto (tgt := 6) hx hb dX9_yes_50 (by decide) ?_
          exact ih _ _ _ _ _ h hR hS (lv_sub hl [2, 3, 4, 5, 1, 0] rfl)
        clear h
        have h := hz
        clear hz
        refine lv_if_eq (tgt := 43) hx hb dX9_yes_26 (by decide) (fun c_112 => ?_) (fun c_112 => ?_)
        · rw [if_pos c_112] at h
          refine lv_iconst (v := 0) hx hb dX9_yes_43 (by decide) ?_
          cases h
          exact Kj109 _ _ _ hR hS (lv_sub hl [0, 1, 2, 3, 5] rfl)
        · rw [if_neg c_112] at h
          refine lv_aload_n hx hb dX9_yes_29 rfl (lv_at hl 0 rfl) ?_
          refine r_get C hR 9 0 33 (v := .ref (a 80 0)) (lv0 (by decide) (by decide)) (by decide) (by decide) rfl fl_X9_61 dX9_yes_30 ?_
          refine lv_iload hx hb dX9_yes_33 (lv_at hl 5 rfl) ?_
          obtain ⟨k113, hk113, h⟩ := ob h
          have hLk113 : k113 < cntS 81 := by have q1 := (ck_in hk113).2.2; have q2 : cntS 81 = 15 := rfl; omega
          refine r_aald C hR 80 0 81 0 6 (lv0 (by decide) (by decide)) (by decide) rfl rfl rfl (fun _ => rfl) rfl hk113 dX9_yes_35 ?_
          refine lv_iconst (v := 3) hx hb dX9_yes_36 (by decide) ?_
          refine lv_iload_n hx hb dX9_yes_37 rfl (lv_at hl 3 rfl) ?_
          refine lv_iadd hx hb dX9_yes_38 ?_
          obtain ⟨k114, hk114, h⟩ := ob h
          refine r_ald C hR 81 k113 (lv0 hLk113 (by decide)) (by decide) rfl (fun _ => rfl) rfl hk114 dX9_yes_39 ?_
          refine lv_goto (tgt := 44) hx hb dX9_yes_40 (by decide) ?_
          cases h
          exact Kj109 _ _ _ hR hS (lv_sub hl [0, 1, 2, 3, 5] rfl)
  exact LP FU _ _ _ _ _ h hR hS (lv_sub hl [2, 3, 4, 5, 1, 0] rfl)
set_option maxHeartbeats 4000000 in
set_option maxRecDepth 100000 in
theorem vX9_root {l : Launch} {E : EV} {a : Nat → Nat → Nat} {u0 : HS} {x0 : Int32} {out : Int32} (h : mX9_root x0 = some out) : Ct l E yX9_root cX9_root 2 (some .int) 0 0 0 0 a u0 [.int x0] (some (.int out)) u0 := by
  refine Ct.start (by decide) (Nat.le_of_ble_eq_true rfl) ?_
  intro p e s m args below meth c ls C hr hR hS hl
  have C : Cx E p s m args meth c cX9_root 2 RX9 := C
  have hl : lv_has ls 2 [(0, .int x0)] := hl
  have hx := C.1
  have hb := C.2.1
  unfold mX9_root at h
  refine lv_iconst (v := 0) hx hb dX9_root_0 (by decide) ?_
  refine lv_istore_n (lv' := [(1, .int 0), (0, .int x0)]) hx hb dX9_root_1 rfl hl (by decide) rfl (fun ls hl => ?_)
  refine jp_cut h (fun w103 hw103 h => ?_)
  have Kw103 : ∀ (x102 : Int32) (H : Heap) (locs : List Loc) (ls : Array Slot), w103 x102 = some out → Rel E a u0 H → va_S (AE E) s.heap H locs → lv_has ls 2 [(1, .int x102)] → W p l e { frames := 0, cells := 0, slots := 0, locals := 0 } s m args below meth c H locs 0 0 (MQ below (QW E a (some (.int out)) u0) args s 0 0 (AE E)) (F0 m 19 ls []) := by
    intro x102 H locs ls h hR hS hl
    replace h := jx1 hw103 h
    refine lv_iload_n hx hb dX9_root_19 rfl (lv_at hl 0 rfl) ?_
    cases h
    exact e_iret C hr hR hS (Nat.le_of_ble_eq_true rfl) (Nat.le_of_ble_eq_true rfl) dX9_root_20
  have LP : ∀ (fu : Nat) (x101 : Int32) (H : Heap) (locs : List Loc) (ls : Array Slot), mX9_root_L2 x0 w103 fu x101 = some out → Rel E a u0 H → va_S (AE E) s.heap H locs → lv_has ls 2 [(0, .int x0), (1, .int x101)] → W p l e { frames := 0, cells := 0, slots := 0, locals := 0 } s m args below meth c H locs 0 0 (MQ below (QW E a (some (.int out)) u0) args s 0 0 (AE E)) (F0 m 2 ls []) := by
    intro fu
    induction fu with
    | zero =>
      intro x101 H locs ls h
      have h2 : (none : Option Int32) = some out := h
      cases h2
    | succ fu ih =>
      intro x101 H locs ls h hR hS hl
      rw [mX9_root_L2.eq_2] at h
      refine lv_iload_n hx hb dX9_root_2 rfl (lv_at hl 1 rfl) ?_
      refine lv_iconst (v := 1) hx hb dX9_root_3 (by decide) ?_
      refine lv_iadd hx hb dX9_root_4 ?_
      refine lv_iload_n hx hb dX9_root_5 rfl (lv_at hl 1 rfl) ?_
      refine lv_iconst (v := 1) hx hb dX9_root_6 (by decide) ?_
      refine lv_iadd hx hb dX9_root_7 ?_
      refine lv_imul hx hb dX9_root_8 ?_
      refine lv_iload_n hx hb dX9_root_9 rfl (lv_at hl 0 rfl) ?_
      refine lv_icmp_gt (tgt := 19) hx hb dX9_root_10 (by decide) (fun c_104 => ?_) (fun c_104 => ?_)
      · rw [if_pos c_104] at h
        exact Kw103 _ _ _ _ h hR hS (lv_sub hl [1] rfl)
      · rw [if_neg c_104] at h
        obtain ⟨x105, ex105⟩ : ∃ z : Int32, z = x101 + 1 := ⟨_, rfl⟩
        replace h := bd_x ex105 h
        refine lv_iinc (v := x105) (lv' := [(1, .int x105), (0, .int x0)]) hx hb dX9_root_13 hl (k := 1) rfl (by rw [ex105]; rfl) (by decide) rfl (fun ls hl => ?_)
        refine lv_goto (tgt := 2) hx hb dX9_root_16 (by decide) ?_
        exact ih _ _ _ _ h hR hS (lv_sub hl [1, 0] rfl)
  exact LP FU _ _ _ _ h hR hS (lv_sub hl [1, 0] rfl)
set_option maxHeartbeats 4000000 in
set_option maxRecDepth 100000 in
theorem vX9_share {l : Launch} {E : EV} {a : Nat → Nat → Nat} {u0 : HS} {x1 : Int32} {x2 : Int32} {x3 : Int32} {x4 : Int32} {out : (Int32 × HS)} (h : mX9_share u0 x1 x2 x3 x4 = some out) : Ct l E yX9_share cX9_share 8 (some .int) 3 72 0 0 a u0 [.ref (a 9 0), .int x1, .int x2, .int x3, .int x4] (some (.int out.1)) out.2 := by
  refine Ct.start (by decide) (Nat.le_of_ble_eq_true rfl) ?_
  intro p e s m args below meth c ls C hr hR hS hl
  have C : Cx E p s m args meth c cX9_share 8 RX9 := C
  have hl : lv_has ls 8 [(0, .ref (a 9 0)), (1, .int x1), (2, .int x2), (3, .int x3), (4, .int x4)] := hl
  have hx := C.1
  have hb := C.2.1
  unfold mX9_share at h
  refine lv_aload_n hx hb dX9_share_0 rfl (lv_at hl 0 rfl) ?_
  refine lv_iconst (v := 0) hx hb dX9_share_1 (by decide) ?_
  refine r_putI (ty := .int) C hR hS 9 0 0 (lv0 (by decide) (by decide)) (by decide) (by decide) (fun _ => rfl) fl_X9_76 (by decide) (by decide +kernel) rfl rfl dX9_share_2 (fun H locs hR hS => ?_)
  obtain ⟨u101, eu101⟩ : ∃ z : HS, z = wI u0 9 0 0 0 := ⟨_, rfl⟩
  rw [← eu101] at hR
  replace h := bd_x eu101 h
  clear eu101
  refine lv_aload_n hx hb dX9_share_5 rfl (lv_at hl 0 rfl) ?_
  refine lv_aload_n hx hb dX9_share_6 rfl (lv_at hl 0 rfl) ?_
  refine lv_iload_n hx hb dX9_share_7 rfl (lv_at hl 1 rfl) ?_
  obtain ⟨x103, hc102, h⟩ := ob h
  refine r_callV1 (As := [.int x1]) (rest := [.ref (a 9 0)]) (r := 9) (i := 0) C (vX9_isScene hc102) hR hS (lv0 (by decide) (by decide)) (by decide) ml_X9_254 mw_X9_isScene rfl ⟨Nat.le_of_ble_eq_true rfl, Nat.le_of_ble_eq_true rfl, Nat.le_of_ble_eq_true rfl, Nat.le_of_ble_eq_true rfl⟩ hl.1 rfl (Nat.le_of_ble_eq_true rfl) dX9_share_8 (fun H locs hR hS => ?_)
  obtain ⟨x104, hz, h⟩ := ob h
  have Kj105 : ∀ (H : Heap) (locs : List Loc) (ls : Array Slot), Rel E a u101 H → va_S (AE E) s.heap H locs → lv_has ls 8 [(0, .ref (a 9 0)), (1, .int x1), (2, .int x2), (3, .int x3), (4, .int x4)] → W p l e { frames := 3, cells := 0, slots := 0, locals := 72 } s m args below meth c H locs 0 0 (MQ below (QW E a (some (.int out.1)) out.2) args s 0 0 (AE E)) (F0 m 19 ls [.int x104, .ref (a 9 0)]) := by
    intro H locs ls hR hS hl
    clear hz
    refine lv_iconst (v := 1) hx hb dX9_share_19 (by decide) ?_
    obtain ⟨⟨x107, u108⟩, hc106, h⟩ := ob h
    replace h := bd_x (x := x107) rfl h
    replace h := bd_x (x := u108) rfl h
    refine r_callV1 (As := [.int x104, .int 1]) (rest := []) (r := 9) (i := 0) C (vX9_bad hc106) hR hS (lv0 (by decide) (by decide)) (by decide) ml_X9_162 mw_X9_bad rfl ⟨Nat.le_of_ble_eq_true rfl, Nat.le_of_ble_eq_true rfl, Nat.le_of_ble_eq_true rfl, Nat.le_of_ble_eq_true rfl⟩ hl.1 rfl (Nat.le_of_ble_eq_true rfl) dX9_share_20 (fun H locs hR hS => ?_)
    refine lv_if_ne (tgt := 79) hx hb dX9_share_23 (by decide) (fun c_109 => ?_) (fun c_109 => ?_)
    · rw [if_neg c_109] at h
      refine lv_iconst (v := 0) hx hb dX9_share_79 (by decide) ?_
      cases h
      exact e_iret C hr hR hS (Nat.le_of_ble_eq_true rfl) (Nat.le_of_ble_eq_true rfl) dX9_share_80
    · rw [if_pos c_109] at h
      refine lv_aload_n hx hb dX9_share_26 rfl (lv_at hl 0 rfl) ?_
      refine lv_aload_n hx hb dX9_share_27 rfl (lv_at hl 0 rfl) ?_
      refine lv_iload_n hx hb dX9_share_28 rfl (lv_at hl 2 rfl) ?_
      obtain ⟨x111, hc110, h⟩ := ob h
      refine r_callV1 (As := [.int x2]) (rest := [.ref (a 9 0)]) (r := 9) (i := 0) C (vX9_isTask hc110) hR hS (lv0 (by decide) (by decide)) (by decide) ml_X9_278 mw_X9_isTask rfl ⟨Nat.le_of_ble_eq_true rfl, Nat.le_of_ble_eq_true rfl, Nat.le_of_ble_eq_true rfl, Nat.le_of_ble_eq_true rfl⟩ hl.1 rfl (Nat.le_of_ble_eq_true rfl) dX9_share_29 (fun H locs hR hS => ?_)
      obtain ⟨x112, hz, h⟩ := ob h
      have Kj113 : ∀ (H : Heap) (locs : List Loc) (ls : Array Slot), Rel E a u108 H → va_S (AE E) s.heap H locs → lv_has ls 8 [(0, .ref (a 9 0)), (1, .int x1), (2, .int x2), (3, .int x3), (4, .int x4)] → W p l e { frames := 3, cells := 0, slots := 0, locals := 72 } s m args below meth c H locs 0 0 (MQ below (QW E a (some (.int out.1)) out.2) args s 0 0 (AE E)) (F0 m 40 ls [.int x112, .ref (a 9 0)]) := by
        intro H locs ls hR hS hl
        clear hz
        refine lv_iconst (v := 2) hx hb dX9_share_40 (by decide) ?_
        obtain ⟨⟨x115, u116⟩, hc114, h⟩ := ob h
        replace h := bd_x (x := x115) rfl h
        replace h := bd_x (x := u116) rfl h
        refine r_callV1 (As := [.int x112, .int 2]) (rest := []) (r := 9) (i := 0) C (vX9_bad hc114) hR hS (lv0 (by decide) (by decide)) (by decide) ml_X9_162 mw_X9_bad rfl ⟨Nat.le_of_ble_eq_true rfl, Nat.le_of_ble_eq_true rfl, Nat.le_of_ble_eq_true rfl, Nat.le_of_ble_eq_true rfl⟩ hl.1 rfl (Nat.le_of_ble_eq_true rfl) dX9_share_41 (fun H locs hR hS => ?_)
        refine lv_if_ne (tgt := 79) hx hb dX9_share_44 (by decide) (fun c_117 => ?_) (fun c_117 => ?_)
        · rw [if_neg c_117] at h
          refine lv_iconst (v := 0) hx hb dX9_share_79 (by decide) ?_
          cases h
          exact e_iret C hr hR hS (Nat.le_of_ble_eq_true rfl) (Nat.le_of_ble_eq_true rfl) dX9_share_80
        · rw [if_pos c_117] at h
          refine lv_aload_n hx hb dX9_share_47 rfl (lv_at hl 0 rfl) ?_
          refine lv_iload_n hx hb dX9_share_48 rfl (lv_at hl 3 rfl) ?_
          refine lv_iconst (v := 0) hx hb dX9_share_49 (by decide) ?_
          refine lv_iconst (v := 2) hx hb dX9_share_50 (by decide) ?_
          obtain ⟨x119, hc118, h⟩ := ob h
          refine r_callS1 (As := [.int x3, .int 0, .int 2]) (rest := [.ref (a 9 0)]) C (vX9_in hc118) hR hS ml_X9_113 ms_X9_in rfl ⟨Nat.le_of_ble_eq_true rfl, Nat.le_of_ble_eq_true rfl, Nat.le_of_ble_eq_true rfl, Nat.le_of_ble_eq_true rfl⟩ hl.1 rfl (Nat.le_of_ble_eq_true rfl) dX9_share_51 (fun H locs hR hS => ?_)
          obtain ⟨x120, hz, h⟩ := ob h
          have Kj121 : ∀ (H : Heap) (locs : List Loc) (ls : Array Slot), Rel E a u116 H → va_S (AE E) s.heap H locs → lv_has ls 8 [(0, .ref (a 9 0)), (1, .int x1), (2, .int x2), (3, .int x3), (4, .int x4)] → W p l e { frames := 3, cells := 0, slots := 0, locals := 72 } s m args below meth c H locs 0 0 (MQ below (QW E a (some (.int out.1)) out.2) args s 0 0 (AE E)) (F0 m 72 ls [.int x120, .ref (a 9 0)]) := by
            intro H locs ls hR hS hl
            clear hz
            refine lv_iconst (v := 3) hx hb dX9_share_72 (by decide) ?_
            obtain ⟨⟨x123, u124⟩, hc122, h⟩ := ob h
            replace h := bd_x (x := x123) rfl h
            replace h := bd_x (x := u124) rfl h
            refine r_callV1 (As := [.int x120, .int 3]) (rest := []) (r := 9) (i := 0) C (vX9_bad hc122) hR hS (lv0 (by decide) (by decide)) (by decide) ml_X9_162 mw_X9_bad rfl ⟨Nat.le_of_ble_eq_true rfl, Nat.le_of_ble_eq_true rfl, Nat.le_of_ble_eq_true rfl, Nat.le_of_ble_eq_true rfl⟩ hl.1 rfl (Nat.le_of_ble_eq_true rfl) dX9_share_73 (fun H locs hR hS => ?_)
            refine lv_if_eq (tgt := 81) hx hb dX9_share_76 (by decide) (fun c_125 => ?_) (fun c_125 => ?_)
            · rw [if_pos c_125] at h
              refine lv_aload_n hx hb dX9_share_81 rfl (lv_at hl 0 rfl) ?_
              refine lv_iload_n hx hb dX9_share_82 rfl (lv_at hl 1 rfl) ?_
              refine lv_iload_n hx hb dX9_share_83 rfl (lv_at hl 2 rfl) ?_
              refine lv_iload_n hx hb dX9_share_84 rfl (lv_at hl 3 rfl) ?_
              obtain ⟨x127, hc126, h⟩ := ob h
              refine r_callV1 (As := [.int x1, .int x2, .int x3]) (rest := []) (r := 9) (i := 0) C (vX9_asked hc126) hR hS (lv0 (by decide) (by decide)) (by decide) ml_X9_388 mw_X9_asked rfl ⟨Nat.le_of_ble_eq_true rfl, Nat.le_of_ble_eq_true rfl, Nat.le_of_ble_eq_true rfl, Nat.le_of_ble_eq_true rfl⟩ hl.1 rfl (Nat.le_of_ble_eq_true rfl) dX9_share_85 (fun H locs hR hS => ?_)
              refine lv_istore (lv' := [(5, .int x127), (0, .ref (a 9 0)), (1, .int x1), (2, .int x2), (3, .int x3), (4, .int x4)]) hx hb dX9_share_88 hl (by decide) rfl (fun ls hl => ?_)
              refine lv_aload_n hx hb dX9_share_90 rfl (lv_at hl 1 rfl) ?_
              refine lv_iload_n hx hb dX9_share_91 rfl (lv_at hl 2 rfl) ?_
              refine lv_iload_n hx hb dX9_share_92 rfl (lv_at hl 3 rfl) ?_
              refine lv_iload_n hx hb dX9_share_93 rfl (lv_at hl 4 rfl) ?_
              obtain ⟨x129, hc128, h⟩ := ob h
              refine r_callV1 (As := [.int x1, .int x2, .int x3]) (rest := []) (r := 9) (i := 0) C (vX9_yes hc128) hR hS (lv0 (by decide) (by decide)) (by decide) ml_X9_391 mw_X9_yes rfl ⟨Nat.le_of_ble_eq_true rfl, Nat.le_of_ble_eq_true rfl, Nat.le_of_ble_eq_true rfl, Nat.le_of_ble_eq_true rfl⟩ hl.1 rfl (Nat.le_of_ble_eq_true rfl) dX9_share_94 (fun H locs hR hS => ?_)
              refine lv_istore (lv' := [(6, .int x129), (5, .int x127), (0, .ref (a 9 0)), (1, .int x1), (2, .int x2), (3, .int x3), (4, .int x4)]) hx hb dX9_share_97 hl (by decide) rfl (fun ls hl => ?_)
              refine lv_iconst (v := 1) hx hb dX9_share_99 (by decide) ?_
              refine lv_iload hx hb dX9_share_100 (lv_at hl 0 rfl) ?_
              obtain ⟨x131, hc130, h⟩ := ob h
              refine r_callS1 (As := [.int x129]) (rest := [.int 1]) C (vX9_root hc130) hR hS ml_X9_394 ms_X9_root rfl ⟨Nat.le_of_ble_eq_true rfl, Nat.le_of_ble_eq_true rfl, Nat.le_of_ble_eq_true rfl, Nat.le_of_ble_eq_true rfl⟩ hl.1 rfl (Nat.le_of_ble_eq_true rfl) dX9_share_102 (fun H locs hR hS => ?_)
              refine lv_iadd hx hb dX9_share_105 ?_
              refine lv_topi (fun x132 ex132 => ?_)
              replace h := bd_x ex132 h
              refine lv_istore (lv' := [(7, .int x132), (6, .int x129), (5, .int x127), (0, .ref (a 9 0)), (1, .int x1), (2, .int x2), (3, .int x3), (4, .int x4)]) hx hb dX9_share_106 hl (by decide) rfl (fun ls hl => ?_)
              refine lv_iload hx hb dX9_share_108 (lv_at hl 7 rfl) ?_
              refine lv_if_ne (tgt := 118) hx hb dX9_share_110 (by decide) (fun c_133 => ?_) (fun c_133 => ?_)
              · rw [if_neg c_133] at h
                refine lv_iload hx hb dX9_share_118 (lv_at hl 7 rfl) ?_
                refine lv_iconst (v := 1) hx hb dX9_share_120 (by decide) ?_
                refine lv_icmp_ne (tgt := 129) hx hb dX9_share_121 (by decide) (fun c_134 => ?_) (fun c_134 => ?_)
                · rw [if_neg c_134] at h
                  refine lv_iload hx hb dX9_share_129 (lv_at hl 7 rfl) ?_
                  refine lv_iconst (v := 2) hx hb dX9_share_131 (by decide) ?_
                  refine lv_icmp_ne (tgt := 147) hx hb dX9_share_132 (by decide) (fun c_135 => ?_) (fun c_135 => ?_)
                  · rw [if_neg c_135] at h
                    refine lv_iload hx hb dX9_share_147 (lv_at hl 2 rfl) ?_
                    refine lv_iload hx hb dX9_share_149 (lv_at hl 1 rfl) ?_
                    refine lv_iload hx hb dX9_share_151 (lv_at hl 0 rfl) ?_
                    refine lv_iadd hx hb dX9_share_153 ?_
                    obtain ⟨x137, hc136, h⟩ := ob h
                    refine r_callS1 (As := [.int x127, .int (x129 + x132)]) (rest := []) C (vX9_less hc136) hR hS ml_X9_182 ms_X9_less rfl ⟨Nat.le_of_ble_eq_true rfl, Nat.le_of_ble_eq_true rfl, Nat.le_of_ble_eq_true rfl, Nat.le_of_ble_eq_true rfl⟩ hl.1 rfl (Nat.le_of_ble_eq_true rfl) dX9_share_154 (fun H locs hR hS => ?_)
                    cases h
                    exact e_iret C hr hR hS (Nat.le_of_ble_eq_true rfl) (Nat.le_of_ble_eq_true rfl) dX9_share_157
                  · rw [if_pos c_135] at h
                    refine lv_iconst (v := 0) hx hb dX9_share_135 (by decide) ?_
                    refine lv_iload hx hb dX9_share_136 (lv_at hl 1 rfl) ?_
                    refine lv_iload hx hb dX9_share_138 (lv_at hl 0 rfl) ?_
                    refine lv_isub hx hb dX9_share_140 ?_
                    obtain ⟨x139, hc138, h⟩ := ob h
                    refine r_callS1 (As := [.int 0, .int (x129 - x132)]) (rest := []) C (vX9_more hc138) hR hS ml_X9_251 ms_X9_more rfl ⟨Nat.le_of_ble_eq_true rfl, Nat.le_of_ble_eq_true rfl, Nat.le_of_ble_eq_true rfl, Nat.le_of_ble_eq_true rfl⟩ hl.1 rfl (Nat.le_of_ble_eq_true rfl) dX9_share_141 (fun H locs hR hS => ?_)
                    refine lv_goto (tgt := 157) hx hb dX9_share_144 (by decide) ?_
                    cases h
                    exact e_iret C hr hR hS (Nat.le_of_ble_eq_true rfl) (Nat.le_of_ble_eq_true rfl) dX9_share_157
                · rw [if_pos c_134] at h
                  refine lv_iload hx hb dX9_share_124 (lv_at hl 1 rfl) ?_
                  refine lv_goto (tgt := 157) hx hb dX9_share_126 (by decide) ?_
                  cases h
                  exact e_iret C hr hR hS (Nat.le_of_ble_eq_true rfl) (Nat.le_of_ble_eq_true rfl) dX9_share_157
              · rw [if_pos c_133] at h
                refine lv_iload hx hb dX9_share_113 (lv_at hl 2 rfl) ?_
                refine lv_goto (tgt := 157) hx hb dX9_share_115 (by decide) ?_
                cases h
                exact e_iret C hr hR hS (Nat.le_of_ble_eq_true rfl) (Nat.le_of_ble_eq_true rfl) dX9_share_157
            · rw [if_neg c_125] at h
              refine lv_iconst (v := 0) hx hb dX9_share_79 (by decide) ?_
              cases h
              exact e_iret C hr hR hS (Nat.le_of_ble_eq_true rfl) (Nat.le_of_ble_eq_true rfl) dX9_share_80
          clear h
          have h := hz
          clear hz
          refine jp_cut h (fun j140 hj140 h => ?_)
          have Kj140 : ∀  (H : Heap) (locs : List Loc) (ls : Array Slot), j140 = some x120 → Rel E a u116 H → va_S (AE E) s.heap H locs → lv_has ls 8 [(0, .ref (a 9 0)), (1, .int x1), (2, .int x2), (3, .int x3), (4, .int x4)] → W p l e { frames := 3, cells := 0, slots := 0, locals := 72 } s m args below meth c H locs 0 0 (MQ below (QW E a (some (.int out.1)) out.2) args s 0 0 (AE E)) (F0 m 67 ls [.ref (a 9 0)]) := by
            intro  H locs ls h hR hS hl
            replace h := jx0 hj140 h
            refine lv_iconst (v := 1) hx hb dX9_share_67 (by decide) ?_
            refine lv_goto (tgt := 72) hx hb dX9_share_68 (by decide) ?_
            cases h
            exact Kj121 _ _ _ hR hS (lv_sub hl [0, 1, 2, 3, 4] rfl)
          refine lv_if_eq (tgt := 67) hx hb dX9_share_54 (by decide) (fun c_141 => ?_) (fun c_141 => ?_)
          · rw [if_pos c_141] at h
            exact Kj140  _ _ _ h hR hS (lv_sub hl [0, 1, 2, 3, 4] rfl)
          · rw [if_neg c_141] at h
            refine lv_iload hx hb dX9_share_57 (lv_at hl 4 rfl) ?_
            refine lv_iconst (v := 0) hx hb dX9_share_59 (by decide) ?_
            refine lv_iconst (v := 3) hx hb dX9_share_60 (by decide) ?_
            obtain ⟨x143, hc142, h⟩ := ob h
            refine r_callS1 (As := [.int x4, .int 0, .int 3]) (rest := [.ref (a 9 0)]) C (vX9_in hc142) hR hS ml_X9_113 ms_X9_in rfl ⟨Nat.le_of_ble_eq_true rfl, Nat.le_of_ble_eq_true rfl, Nat.le_of_ble_eq_true rfl, Nat.le_of_ble_eq_true rfl⟩ hl.1 rfl (Nat.le_of_ble_eq_true rfl) dX9_share_61 (fun H locs hR hS => ?_)
            refine lv_if_ne (tgt := 71) hx hb dX9_share_64 (by decide) (fun c_144 => ?_) (fun c_144 => ?_)
            · rw [if_neg c_144] at h
              refine lv_iconst (v := 0) hx hb dX9_share_71 (by decide) ?_
              cases h
              exact Kj121 _ _ _ hR hS (lv_sub hl [0, 1, 2, 3, 4] rfl)
            · rw [if_pos c_144] at h
              exact Kj140  _ _ _ h hR hS (lv_sub hl [0, 1, 2, 3, 4] rfl)
      clear h
      have h := hz
      clear hz
      refine lv_if_ne (tgt := 39) hx hb dX9_share_32 (by decide) (fun c_145 => ?_) (fun c_145 => ?_)
      · rw [if_neg c_145] at h
        refine lv_iconst (v := 0) hx hb dX9_share_39 (by decide) ?_
        cases h
        exact Kj113 _ _ _ hR hS (lv_sub hl [0, 1, 2, 3, 4] rfl)
      · rw [if_pos c_145] at h
        refine lv_iconst (v := 1) hx hb dX9_share_35 (by decide) ?_
        refine lv_goto (tgt := 40) hx hb dX9_share_36 (by decide) ?_
        cases h
        exact Kj113 _ _ _ hR hS (lv_sub hl [0, 1, 2, 3, 4] rfl)
  clear h
  have h := hz
  clear hz
  refine lv_if_ne (tgt := 18) hx hb dX9_share_11 (by decide) (fun c_146 => ?_) (fun c_146 => ?_)
  · rw [if_neg c_146] at h
    refine lv_iconst (v := 0) hx hb dX9_share_18 (by decide) ?_
    cases h
    exact Kj105 _ _ _ hR hS (lv_sub hl [0, 1, 2, 3, 4] rfl)
  · rw [if_pos c_146] at h
    refine lv_iconst (v := 1) hx hb dX9_share_14 (by decide) ?_
    refine lv_goto (tgt := 19) hx hb dX9_share_15 (by decide) ?_
    cases h
    exact Kj105 _ _ _ hR hS (lv_sub hl [0, 1, 2, 3, 4] rfl)
set_option maxHeartbeats 4000000 in
set_option maxRecDepth 100000 in
theorem vX9_guessed {l : Launch} {E : EV} {a : Nat → Nat → Nat} {u0 : HS} {x1 : Int32} {x2 : Int32} {x3 : Int32} {x4 : Int32} {out : (Int32 × HS)} (h : mX9_guessed u0 x1 x2 x3 x4 = some out) : Ct l E yX9_guessed cX9_guessed 10 (some .int) 3 72 0 0 a u0 [.ref (a 9 0), .int x1, .int x2, .int x3, .int x4] (some (.int out.1)) out.2 := by
  refine Ct.start (by decide) (Nat.le_of_ble_eq_true rfl) ?_
  intro p e s m args below meth c ls C hr hR hS hl
  have C : Cx E p s m args meth c cX9_guessed 10 RX9 := C
  have hl : lv_has ls 10 [(0, .ref (a 9 0)), (1, .int x1), (2, .int x2), (3, .int x3), (4, .int x4)] := hl
  have hx := C.1
  have hb := C.2.1
  unfold mX9_guessed at h
  refine lv_aload_n hx hb dX9_guessed_0 rfl (lv_at hl 0 rfl) ?_
  refine lv_iconst (v := 0) hx hb dX9_guessed_1 (by decide) ?_
  refine r_putI (ty := .int) C hR hS 9 0 0 (lv0 (by decide) (by decide)) (by decide) (by decide) (fun _ => rfl) fl_X9_76 (by decide) (by decide +kernel) rfl rfl dX9_guessed_2 (fun H locs hR hS => ?_)
  obtain ⟨u101, eu101⟩ : ∃ z : HS, z = wI u0 9 0 0 0 := ⟨_, rfl⟩
  rw [← eu101] at hR
  replace h := bd_x eu101 h
  clear eu101
  refine lv_aload_n hx hb dX9_guessed_5 rfl (lv_at hl 0 rfl) ?_
  refine lv_aload_n hx hb dX9_guessed_6 rfl (lv_at hl 0 rfl) ?_
  refine lv_iload_n hx hb dX9_guessed_7 rfl (lv_at hl 1 rfl) ?_
  obtain ⟨x103, hc102, h⟩ := ob h
  refine r_callV1 (As := [.int x1]) (rest := [.ref (a 9 0)]) (r := 9) (i := 0) C (vX9_isScene hc102) hR hS (lv0 (by decide) (by decide)) (by decide) ml_X9_254 mw_X9_isScene rfl ⟨Nat.le_of_ble_eq_true rfl, Nat.le_of_ble_eq_true rfl, Nat.le_of_ble_eq_true rfl, Nat.le_of_ble_eq_true rfl⟩ hl.1 rfl (Nat.le_of_ble_eq_true rfl) dX9_guessed_8 (fun H locs hR hS => ?_)
  obtain ⟨x104, hz, h⟩ := ob h
  have Kj105 : ∀ (H : Heap) (locs : List Loc) (ls : Array Slot), Rel E a u101 H → va_S (AE E) s.heap H locs → lv_has ls 10 [(0, .ref (a 9 0)), (1, .int x1), (2, .int x2), (3, .int x3), (4, .int x4)] → W p l e { frames := 3, cells := 0, slots := 0, locals := 72 } s m args below meth c H locs 0 0 (MQ below (QW E a (some (.int out.1)) out.2) args s 0 0 (AE E)) (F0 m 27 ls [.int x104, .ref (a 9 0)]) := by
    intro H locs ls hR hS hl
    clear hz
    refine lv_iconst (v := 1) hx hb dX9_guessed_27 (by decide) ?_
    obtain ⟨⟨x107, u108⟩, hc106, h⟩ := ob h
    replace h := bd_x (x := x107) rfl h
    replace h := bd_x (x := u108) rfl h
    refine r_callV1 (As := [.int x104, .int 1]) (rest := []) (r := 9) (i := 0) C (vX9_bad hc106) hR hS (lv0 (by decide) (by decide)) (by decide) ml_X9_162 mw_X9_bad rfl ⟨Nat.le_of_ble_eq_true rfl, Nat.le_of_ble_eq_true rfl, Nat.le_of_ble_eq_true rfl, Nat.le_of_ble_eq_true rfl⟩ hl.1 rfl (Nat.le_of_ble_eq_true rfl) dX9_guessed_28 (fun H locs hR hS => ?_)
    refine lv_if_ne (tgt := 78) hx hb dX9_guessed_31 (by decide) (fun c_109 => ?_) (fun c_109 => ?_)
    · rw [if_neg c_109] at h
      refine lv_iconst (v := 0) hx hb dX9_guessed_78 (by decide) ?_
      cases h
      exact e_iret C hr hR hS (Nat.le_of_ble_eq_true rfl) (Nat.le_of_ble_eq_true rfl) dX9_guessed_79
    · rw [if_pos c_109] at h
      refine lv_aload_n hx hb dX9_guessed_34 rfl (lv_at hl 0 rfl) ?_
      refine lv_aload_n hx hb dX9_guessed_35 rfl (lv_at hl 0 rfl) ?_
      refine lv_iload_n hx hb dX9_guessed_36 rfl (lv_at hl 3 rfl) ?_
      obtain ⟨x111, hc110, h⟩ := ob h
      refine r_callV1 (As := [.int x3]) (rest := [.ref (a 9 0)]) (r := 9) (i := 0) C (vX9_isTask hc110) hR hS (lv0 (by decide) (by decide)) (by decide) ml_X9_278 mw_X9_isTask rfl ⟨Nat.le_of_ble_eq_true rfl, Nat.le_of_ble_eq_true rfl, Nat.le_of_ble_eq_true rfl, Nat.le_of_ble_eq_true rfl⟩ hl.1 rfl (Nat.le_of_ble_eq_true rfl) dX9_guessed_37 (fun H locs hR hS => ?_)
      obtain ⟨x112, hz, h⟩ := ob h
      have Kj113 : ∀ (H : Heap) (locs : List Loc) (ls : Array Slot), Rel E a u108 H → va_S (AE E) s.heap H locs → lv_has ls 10 [(0, .ref (a 9 0)), (1, .int x1), (2, .int x2), (3, .int x3), (4, .int x4)] → W p l e { frames := 3, cells := 0, slots := 0, locals := 72 } s m args below meth c H locs 0 0 (MQ below (QW E a (some (.int out.1)) out.2) args s 0 0 (AE E)) (F0 m 48 ls [.int x112, .ref (a 9 0)]) := by
        intro H locs ls hR hS hl
        clear hz
        refine lv_iconst (v := 2) hx hb dX9_guessed_48 (by decide) ?_
        obtain ⟨⟨x115, u116⟩, hc114, h⟩ := ob h
        replace h := bd_x (x := x115) rfl h
        replace h := bd_x (x := u116) rfl h
        refine r_callV1 (As := [.int x112, .int 2]) (rest := []) (r := 9) (i := 0) C (vX9_bad hc114) hR hS (lv0 (by decide) (by decide)) (by decide) ml_X9_162 mw_X9_bad rfl ⟨Nat.le_of_ble_eq_true rfl, Nat.le_of_ble_eq_true rfl, Nat.le_of_ble_eq_true rfl, Nat.le_of_ble_eq_true rfl⟩ hl.1 rfl (Nat.le_of_ble_eq_true rfl) dX9_guessed_49 (fun H locs hR hS => ?_)
        refine lv_if_ne (tgt := 78) hx hb dX9_guessed_52 (by decide) (fun c_117 => ?_) (fun c_117 => ?_)
        · rw [if_neg c_117] at h
          refine lv_iconst (v := 0) hx hb dX9_guessed_78 (by decide) ?_
          cases h
          exact e_iret C hr hR hS (Nat.le_of_ble_eq_true rfl) (Nat.le_of_ble_eq_true rfl) dX9_guessed_79
        · rw [if_pos c_117] at h
          refine lv_aload_n hx hb dX9_guessed_55 rfl (lv_at hl 0 rfl) ?_
          refine lv_iload hx hb dX9_guessed_56 (lv_at hl 4 rfl) ?_
          refine lv_iconst (v := 0) hx hb dX9_guessed_58 (by decide) ?_
          refine lv_iconst (v := 2) hx hb dX9_guessed_59 (by decide) ?_
          obtain ⟨x119, hc118, h⟩ := ob h
          refine r_callS1 (As := [.int x4, .int 0, .int 2]) (rest := [.ref (a 9 0)]) C (vX9_in hc118) hR hS ml_X9_113 ms_X9_in rfl ⟨Nat.le_of_ble_eq_true rfl, Nat.le_of_ble_eq_true rfl, Nat.le_of_ble_eq_true rfl, Nat.le_of_ble_eq_true rfl⟩ hl.1 rfl (Nat.le_of_ble_eq_true rfl) dX9_guessed_60 (fun H locs hR hS => ?_)
          obtain ⟨x120, hz, h⟩ := ob h
          have Kj121 : ∀ (H : Heap) (locs : List Loc) (ls : Array Slot), Rel E a u116 H → va_S (AE E) s.heap H locs → lv_has ls 10 [(0, .ref (a 9 0)), (1, .int x1), (2, .int x2), (3, .int x3), (4, .int x4)] → W p l e { frames := 3, cells := 0, slots := 0, locals := 72 } s m args below meth c H locs 0 0 (MQ below (QW E a (some (.int out.1)) out.2) args s 0 0 (AE E)) (F0 m 71 ls [.int x120, .ref (a 9 0)]) := by
            intro H locs ls hR hS hl
            clear hz
            refine lv_iconst (v := 3) hx hb dX9_guessed_71 (by decide) ?_
            obtain ⟨⟨x123, u124⟩, hc122, h⟩ := ob h
            replace h := bd_x (x := x123) rfl h
            replace h := bd_x (x := u124) rfl h
            refine r_callV1 (As := [.int x120, .int 3]) (rest := []) (r := 9) (i := 0) C (vX9_bad hc122) hR hS (lv0 (by decide) (by decide)) (by decide) ml_X9_162 mw_X9_bad rfl ⟨Nat.le_of_ble_eq_true rfl, Nat.le_of_ble_eq_true rfl, Nat.le_of_ble_eq_true rfl, Nat.le_of_ble_eq_true rfl⟩ hl.1 rfl (Nat.le_of_ble_eq_true rfl) dX9_guessed_72 (fun H locs hR hS => ?_)
            refine lv_if_eq (tgt := 80) hx hb dX9_guessed_75 (by decide) (fun c_125 => ?_) (fun c_125 => ?_)
            · rw [if_pos c_125] at h
              refine lv_aload_n hx hb dX9_guessed_80 rfl (lv_at hl 0 rfl) ?_
              refine lv_iload_n hx hb dX9_guessed_81 rfl (lv_at hl 1 rfl) ?_
              refine lv_iload_n hx hb dX9_guessed_82 rfl (lv_at hl 3 rfl) ?_
              refine lv_iload hx hb dX9_guessed_83 (lv_at hl 4 rfl) ?_
              obtain ⟨x127, hc126, h⟩ := ob h
              refine r_callV1 (As := [.int x1, .int x3, .int x4]) (rest := []) (r := 9) (i := 0) C (vX9_asked hc126) hR hS (lv0 (by decide) (by decide)) (by decide) ml_X9_388 mw_X9_asked rfl ⟨Nat.le_of_ble_eq_true rfl, Nat.le_of_ble_eq_true rfl, Nat.le_of_ble_eq_true rfl, Nat.le_of_ble_eq_true rfl⟩ hl.1 rfl (Nat.le_of_ble_eq_true rfl) dX9_guessed_85 (fun H locs hR hS => ?_)
              refine lv_istore (lv' := [(5, .int x127), (0, .ref (a 9 0)), (1, .int x1), (2, .int x2), (3, .int x3), (4, .int x4)]) hx hb dX9_guessed_88 hl (by decide) rfl (fun ls hl => ?_)
              refine lv_aload_n hx hb dX9_guessed_90 rfl (lv_at hl 1 rfl) ?_
              refine lv_iload_n hx hb dX9_guessed_91 rfl (lv_at hl 2 rfl) ?_
              refine lv_iload_n hx hb dX9_guessed_92 rfl (lv_at hl 4 rfl) ?_
              refine lv_iload hx hb dX9_guessed_93 (lv_at hl 5 rfl) ?_
              obtain ⟨x129, hc128, h⟩ := ob h
              refine r_callV1 (As := [.int x1, .int x3, .int x4]) (rest := []) (r := 9) (i := 0) C (vX9_yes hc128) hR hS (lv0 (by decide) (by decide)) (by decide) ml_X9_391 mw_X9_yes rfl ⟨Nat.le_of_ble_eq_true rfl, Nat.le_of_ble_eq_true rfl, Nat.le_of_ble_eq_true rfl, Nat.le_of_ble_eq_true rfl⟩ hl.1 rfl (Nat.le_of_ble_eq_true rfl) dX9_guessed_95 (fun H locs hR hS => ?_)
              refine lv_istore (lv' := [(6, .int x129), (5, .int x127), (0, .ref (a 9 0)), (1, .int x1), (2, .int x2), (3, .int x3), (4, .int x4)]) hx hb dX9_guessed_98 hl (by decide) rfl (fun ls hl => ?_)
              refine lv_aload_n hx hb dX9_guessed_100 rfl (lv_at hl 2 rfl) ?_
              refine lv_iload_n hx hb dX9_guessed_101 rfl (lv_at hl 4 rfl) ?_
              refine lv_iload_n hx hb dX9_guessed_102 rfl (lv_at hl 5 rfl) ?_
              refine lv_iload hx hb dX9_guessed_103 (lv_at hl 6 rfl) ?_
              obtain ⟨x131, hc130, h⟩ := ob h
              refine r_callV1 (As := [.int x2, .int x3, .int x4]) (rest := []) (r := 9) (i := 0) C (vX9_asked hc130) hR hS (lv0 (by decide) (by decide)) (by decide) ml_X9_388 mw_X9_asked rfl ⟨Nat.le_of_ble_eq_true rfl, Nat.le_of_ble_eq_true rfl, Nat.le_of_ble_eq_true rfl, Nat.le_of_ble_eq_true rfl⟩ hl.1 rfl (Nat.le_of_ble_eq_true rfl) dX9_guessed_105 (fun H locs hR hS => ?_)
              refine lv_istore (lv' := [(7, .int x131), (6, .int x129), (5, .int x127), (0, .ref (a 9 0)), (1, .int x1), (2, .int x2), (3, .int x3), (4, .int x4)]) hx hb dX9_guessed_108 hl (by decide) rfl (fun ls hl => ?_)
              refine lv_aload_n hx hb dX9_guessed_110 rfl (lv_at hl 3 rfl) ?_
              refine lv_iload_n hx hb dX9_guessed_111 rfl (lv_at hl 5 rfl) ?_
              refine lv_iload_n hx hb dX9_guessed_112 rfl (lv_at hl 6 rfl) ?_
              refine lv_iload hx hb dX9_guessed_113 (lv_at hl 7 rfl) ?_
              obtain ⟨x133, hc132, h⟩ := ob h
              refine r_callV1 (As := [.int x2, .int x3, .int x4]) (rest := []) (r := 9) (i := 0) C (vX9_yes hc132) hR hS (lv0 (by decide) (by decide)) (by decide) ml_X9_391 mw_X9_yes rfl ⟨Nat.le_of_ble_eq_true rfl, Nat.le_of_ble_eq_true rfl, Nat.le_of_ble_eq_true rfl, Nat.le_of_ble_eq_true rfl⟩ hl.1 rfl (Nat.le_of_ble_eq_true rfl) dX9_guessed_115 (fun H locs hR hS => ?_)
              refine lv_istore (lv' := [(8, .int x133), (7, .int x131), (6, .int x129), (5, .int x127), (0, .ref (a 9 0)), (1, .int x1), (2, .int x2), (3, .int x3), (4, .int x4)]) hx hb dX9_guessed_118 hl (by decide) rfl (fun ls hl => ?_)
              refine lv_iload hx hb dX9_guessed_120 (lv_at hl 3 rfl) ?_
              refine lv_iload hx hb dX9_guessed_122 (lv_at hl 1 rfl) ?_
              refine lv_iload hx hb dX9_guessed_124 (lv_at hl 0 rfl) ?_
              refine lv_isub hx hb dX9_guessed_126 ?_
              refine lv_imul hx hb dX9_guessed_127 ?_
              refine lv_topi (fun x134 ex134 => ?_)
              replace h := bd_x ex134 h
              refine lv_istore (lv' := [(9, .int x134), (8, .int x133), (7, .int x131), (6, .int x129), (5, .int x127), (0, .ref (a 9 0)), (1, .int x1), (2, .int x2), (3, .int x3), (4, .int x4)]) hx hb dX9_guessed_128 hl (by decide) rfl (fun ls hl => ?_)
              refine lv_iload hx hb dX9_guessed_130 (lv_at hl 0 rfl) ?_
              refine lv_if_ne (tgt := 139) hx hb dX9_guessed_132 (by decide) (fun c_135 => ?_) (fun c_135 => ?_)
              · rw [if_neg c_135] at h
                refine lv_iconst (v := 0) hx hb dX9_guessed_139 (by decide) ?_
                refine lv_sipush (v := 1000) hx hb dX9_guessed_140 (by decide) ?_
                refine lv_iload hx hb dX9_guessed_143 (lv_at hl 3 rfl) ?_
                refine lv_iload hx hb dX9_guessed_145 (lv_at hl 2 rfl) ?_
                refine lv_imul hx hb dX9_guessed_147 ?_
                refine lv_iload hx hb dX9_guessed_148 (lv_at hl 1 rfl) ?_
                refine lv_iload hx hb dX9_guessed_150 (lv_at hl 4 rfl) ?_
                refine lv_imul hx hb dX9_guessed_152 ?_
                refine lv_isub hx hb dX9_guessed_153 ?_
                refine lv_imul hx hb dX9_guessed_154 ?_
                refine lv_iload hx hb dX9_guessed_155 (lv_at hl 0 rfl) ?_
                obtain ⟨_, hn136, h⟩ := ob h
                refine lv_idiv hx hb dX9_guessed_157 (nz_ne hn136) ?_
                obtain ⟨x138, hc137, h⟩ := ob h
                refine r_callS1 (As := [.int 0, .int ((1000 * ((x129 * x131) - (x133 * x127))) / x134)]) (rest := []) C (vX9_more hc137) hR hS ml_X9_251 ms_X9_more rfl ⟨Nat.le_of_ble_eq_true rfl, Nat.le_of_ble_eq_true rfl, Nat.le_of_ble_eq_true rfl, Nat.le_of_ble_eq_true rfl⟩ hl.1 rfl (Nat.le_of_ble_eq_true rfl) dX9_guessed_158 (fun H locs hR hS => ?_)
                cases h
                exact e_iret C hr hR hS (Nat.le_of_ble_eq_true rfl) (Nat.le_of_ble_eq_true rfl) dX9_guessed_161
              · rw [if_pos c_135] at h
                refine lv_iconst (v := (-1)) hx hb dX9_guessed_135 (by decide) ?_
                refine lv_goto (tgt := 161) hx hb dX9_guessed_136 (by decide) ?_
                cases h
                exact e_iret C hr hR hS (Nat.le_of_ble_eq_true rfl) (Nat.le_of_ble_eq_true rfl) dX9_guessed_161
            · rw [if_neg c_125] at h
              refine lv_iconst (v := 0) hx hb dX9_guessed_78 (by decide) ?_
              cases h
              exact e_iret C hr hR hS (Nat.le_of_ble_eq_true rfl) (Nat.le_of_ble_eq_true rfl) dX9_guessed_79
          clear h
          have h := hz
          clear hz
          refine lv_if_ne (tgt := 70) hx hb dX9_guessed_63 (by decide) (fun c_139 => ?_) (fun c_139 => ?_)
          · rw [if_neg c_139] at h
            refine lv_iconst (v := 0) hx hb dX9_guessed_70 (by decide) ?_
            cases h
            exact Kj121 _ _ _ hR hS (lv_sub hl [0, 1, 2, 3, 4] rfl)
          · rw [if_pos c_139] at h
            refine lv_iconst (v := 1) hx hb dX9_guessed_66 (by decide) ?_
            refine lv_goto (tgt := 71) hx hb dX9_guessed_67 (by decide) ?_
            cases h
            exact Kj121 _ _ _ hR hS (lv_sub hl [0, 1, 2, 3, 4] rfl)
      clear h
      have h := hz
      clear hz
      refine lv_if_ne (tgt := 47) hx hb dX9_guessed_40 (by decide) (fun c_140 => ?_) (fun c_140 => ?_)
      · rw [if_neg c_140] at h
        refine lv_iconst (v := 0) hx hb dX9_guessed_47 (by decide) ?_
        cases h
        exact Kj113 _ _ _ hR hS (lv_sub hl [0, 1, 2, 3, 4] rfl)
      · rw [if_pos c_140] at h
        refine lv_iconst (v := 1) hx hb dX9_guessed_43 (by decide) ?_
        refine lv_goto (tgt := 48) hx hb dX9_guessed_44 (by decide) ?_
        cases h
        exact Kj113 _ _ _ hR hS (lv_sub hl [0, 1, 2, 3, 4] rfl)
  clear h
  have h := hz
  clear hz
  refine jp_cut h (fun j141 hj141 h => ?_)
  have Kj141 : ∀  (H : Heap) (locs : List Loc) (ls : Array Slot), j141 = some x104 → Rel E a u101 H → va_S (AE E) s.heap H locs → lv_has ls 10 [(0, .ref (a 9 0)), (1, .int x1), (2, .int x2), (3, .int x3), (4, .int x4)] → W p l e { frames := 3, cells := 0, slots := 0, locals := 72 } s m args below meth c H locs 0 0 (MQ below (QW E a (some (.int out.1)) out.2) args s 0 0 (AE E)) (F0 m 22 ls [.ref (a 9 0)]) := by
    intro  H locs ls h hR hS hl
    replace h := jx0 hj141 h
    refine lv_iconst (v := 1) hx hb dX9_guessed_22 (by decide) ?_
    refine lv_goto (tgt := 27) hx hb dX9_guessed_23 (by decide) ?_
    cases h
    exact Kj105 _ _ _ hR hS (lv_sub hl [0, 1, 2, 3, 4] rfl)
  refine lv_if_eq (tgt := 22) hx hb dX9_guessed_11 (by decide) (fun c_142 => ?_) (fun c_142 => ?_)
  · rw [if_pos c_142] at h
    exact Kj141  _ _ _ h hR hS (lv_sub hl [0, 1, 2, 3, 4] rfl)
  · rw [if_neg c_142] at h
    refine lv_aload_n hx hb dX9_guessed_14 rfl (lv_at hl 0 rfl) ?_
    refine lv_iload_n hx hb dX9_guessed_15 rfl (lv_at hl 2 rfl) ?_
    obtain ⟨x144, hc143, h⟩ := ob h
    refine r_callV1 (As := [.int x2]) (rest := [.ref (a 9 0)]) (r := 9) (i := 0) C (vX9_isScene hc143) hR hS (lv0 (by decide) (by decide)) (by decide) ml_X9_254 mw_X9_isScene rfl ⟨Nat.le_of_ble_eq_true rfl, Nat.le_of_ble_eq_true rfl, Nat.le_of_ble_eq_true rfl, Nat.le_of_ble_eq_true rfl⟩ hl.1 rfl (Nat.le_of_ble_eq_true rfl) dX9_guessed_16 (fun H locs hR hS => ?_)
    refine lv_if_ne (tgt := 26) hx hb dX9_guessed_19 (by decide) (fun c_145 => ?_) (fun c_145 => ?_)
    · rw [if_neg c_145] at h
      refine lv_iconst (v := 0) hx hb dX9_guessed_26 (by decide) ?_
      cases h
      exact Kj105 _ _ _ hR hS (lv_sub hl [0, 1, 2, 3, 4] rfl)
    · rw [if_pos c_145] at h
      exact Kj141  _ _ _ h hR hS (lv_sub hl [0, 1, 2, 3, 4] rfl)
set_option maxHeartbeats 4000000 in
set_option maxRecDepth 100000 in
theorem vX9_choose {l : Launch} {E : EV} {a : Nat → Nat → Nat} {u0 : HS} {x0 : Int32} {x1 : Int32} {out : Int32} (h : mX9_choose x0 x1 = some out) : Ct l E yX9_choose cX9_choose 5 (some .int) 0 0 0 0 a u0 [.int x0, .int x1] (some (.int out)) u0 := by
  refine Ct.start (by decide) (Nat.le_of_ble_eq_true rfl) ?_
  intro p e s m args below meth c ls C hr hR hS hl
  have C : Cx E p s m args meth c cX9_choose 5 RX9 := C
  have hl : lv_has ls 5 [(0, .int x0), (1, .int x1)] := hl
  have hx := C.1
  have hb := C.2.1
  unfold mX9_choose at h
  refine lv_iload_n hx hb dX9_choose_0 rfl (lv_at hl 1 rfl) ?_
  refine lv_if_lt (tgt := 9) hx hb dX9_choose_1 (by decide) (fun c_101 => ?_) (fun c_101 => ?_)
  · rw [if_pos c_101] at h
    refine lv_iconst (v := 0) hx hb dX9_choose_9 (by decide) ?_
    cases h
    exact e_iret C hr hR hS (Nat.le_of_ble_eq_true rfl) (Nat.le_of_ble_eq_true rfl) dX9_choose_10
  · rw [if_neg c_101] at h
    refine lv_iload_n hx hb dX9_choose_4 rfl (lv_at hl 1 rfl) ?_
    refine lv_iload_n hx hb dX9_choose_5 rfl (lv_at hl 0 rfl) ?_
    refine lv_icmp_le (tgt := 11) hx hb dX9_choose_6 (by decide) (fun c_102 => ?_) (fun c_102 => ?_)
    · rw [if_pos c_102] at h
      refine lv_lconst (v := 1) hx hb dX9_choose_11 (by decide) ?_
      refine lv_lstore_n (lv' := [(2, .long 1), (0, .int x0), (1, .int x1)]) hx hb dX9_choose_12 rfl hl (by decide) rfl (fun ls hl => ?_)
      refine lv_iconst (v := 0) hx hb dX9_choose_13 (by decide) ?_
      refine lv_istore (lv' := [(4, .int 0), (2, .long 1), (0, .int x0), (1, .int x1)]) hx hb dX9_choose_14 hl (by decide) rfl (fun ls hl => ?_)
      refine jp_cut h (fun w106 hw106 h => ?_)
      have Kw106 : ∀ (y105 : Int64) (H : Heap) (locs : List Loc) (ls : Array Slot), w106 y105 = some out → Rel E a u0 H → va_S (AE E) s.heap H locs → lv_has ls 5 [(2, .long y105)] → W p l e { frames := 0, cells := 0, slots := 0, locals := 0 } s m args below meth c H locs 0 0 (MQ below (QW E a (some (.int out)) u0) args s 0 0 (AE E)) (F0 m 42 ls []) := by
        intro y105 H locs ls h hR hS hl
        replace h := jx1 hw106 h
        refine lv_lload_n hx hb dX9_choose_42 rfl (lv_at hl 0 rfl) ?_
        refine lv_l2i (v := y105.toInt32) hx hb dX9_choose_43 rfl ?_
        cases h
        exact e_iret C hr hR hS (Nat.le_of_ble_eq_true rfl) (Nat.le_of_ble_eq_true rfl) dX9_choose_44
      have LP : ∀ (fu : Nat) (y103 : Int64) (x104 : Int32) (H : Heap) (locs : List Loc) (ls : Array Slot), mX9_choose_L16 x1 x0 w106 fu y103 x104 = some out → Rel E a u0 H → va_S (AE E) s.heap H locs → lv_has ls 5 [(0, .int x0), (1, .int x1), (2, .long y103), (4, .int x104)] → W p l e { frames := 0, cells := 0, slots := 0, locals := 0 } s m args below meth c H locs 0 0 (MQ below (QW E a (some (.int out)) u0) args s 0 0 (AE E)) (F0 m 16 ls []) := by
        intro fu
        induction fu with
        | zero =>
          intro y103 x104 H locs ls h
          have h2 : (none : Option Int32) = some out := h
          cases h2
        | succ fu ih =>
          intro y103 x104 H locs ls h hR hS hl
          rw [mX9_choose_L16.eq_2] at h
          refine lv_iload hx hb dX9_choose_16 (lv_at hl 3 rfl) ?_
          refine lv_iload_n hx hb dX9_choose_18 rfl (lv_at hl 1 rfl) ?_
          refine lv_icmp_ge (tgt := 42) hx hb dX9_choose_19 (by decide) (fun c_107 => ?_) (fun c_107 => ?_)
          · rw [if_pos c_107] at h
            exact Kw106 _ _ _ _ h hR hS (lv_sub hl [2] rfl)
          · rw [if_neg c_107] at h
            refine lv_lload_n hx hb dX9_choose_22 rfl (lv_at hl 2 rfl) ?_
            refine lv_iload_n hx hb dX9_choose_23 rfl (lv_at hl 0 rfl) ?_
            refine lv_iload hx hb dX9_choose_24 (lv_at hl 3 rfl) ?_
            refine lv_isub hx hb dX9_choose_26 ?_
            refine lv_i2l (v := (x0 - x104).toInt64) hx hb dX9_choose_27 rfl ?_
            refine lv_lmul hx hb dX9_choose_28 ?_
            refine lv_iload hx hb dX9_choose_29 (lv_at hl 3 rfl) ?_
            refine lv_iconst (v := 1) hx hb dX9_choose_31 (by decide) ?_
            refine lv_iadd hx hb dX9_choose_32 ?_
            refine lv_i2l (v := (x104 + 1).toInt64) hx hb dX9_choose_33 rfl ?_
            obtain ⟨_, hn108, h⟩ := ob h
            refine lv_ldiv hx hb dX9_choose_34 (nzL_ne hn108) ?_
            refine lv_topl (fun y109 ey109 => ?_)
            replace h := bd_x ey109 h
            refine lv_lstore_n (lv' := [(2, .long y109), (0, .int x0), (1, .int x1), (4, .int x104)]) hx hb dX9_choose_35 rfl hl (by decide) rfl (fun ls hl => ?_)
            obtain ⟨x110, ex110⟩ : ∃ z : Int32, z = x104 + 1 := ⟨_, rfl⟩
            replace h := bd_x ex110 h
            refine lv_iinc (v := x110) (lv' := [(4, .int x110), (2, .long y109), (0, .int x0), (1, .int x1)]) hx hb dX9_choose_36 hl (k := 3) rfl (by rw [ex110]; rfl) (by decide) rfl (fun ls hl => ?_)
            refine lv_goto (tgt := 16) hx hb dX9_choose_39 (by decide) ?_
            exact ih _ _ _ _ _ h hR hS (lv_sub hl [2, 3, 1, 0] rfl)
      exact LP FU _ _ _ _ _ h hR hS (lv_sub hl [2, 3, 1, 0] rfl)
    · rw [if_neg c_102] at h
      refine lv_iconst (v := 0) hx hb dX9_choose_9 (by decide) ?_
      cases h
      exact e_iret C hr hR hS (Nat.le_of_ble_eq_true rfl) (Nat.le_of_ble_eq_true rfl) dX9_choose_10
set_option maxHeartbeats 4000000 in
set_option maxRecDepth 100000 in
theorem vX9_apart {l : Launch} {E : EV} {a : Nat → Nat → Nat} {u0 : HS} {x1 : Int32} {x2 : Int32} {x3 : Int32} {x4 : Int32} {x5 : Int32} {x6 : Int32} {out : (Int32 × HS)} (h : mX9_apart u0 x1 x2 x3 x4 x5 x6 = some out) : Ct l E yX9_apart cX9_apart 13 (some .int) 3 72 0 0 a u0 [.ref (a 9 0), .int x1, .int x2, .int x3, .int x4, .int x5, .int x6] (some (.int out.1)) out.2 := by
  refine Ct.start (by decide) (Nat.le_of_ble_eq_true rfl) ?_
  intro p e s m args below meth c ls C hr hR hS hl
  have C : Cx E p s m args meth c cX9_apart 13 RX9 := C
  have hl : lv_has ls 13 [(0, .ref (a 9 0)), (1, .int x1), (2, .int x2), (3, .int x3), (4, .int x4), (5, .int x5), (6, .int x6)] := hl
  have hx := C.1
  have hb := C.2.1
  unfold mX9_apart at h
  refine lv_aload_n hx hb dX9_apart_0 rfl (lv_at hl 0 rfl) ?_
  refine lv_iconst (v := 0) hx hb dX9_apart_1 (by decide) ?_
  refine r_putI (ty := .int) C hR hS 9 0 0 (lv0 (by decide) (by decide)) (by decide) (by decide) (fun _ => rfl) fl_X9_76 (by decide) (by decide +kernel) rfl rfl dX9_apart_2 (fun H locs hR hS => ?_)
  obtain ⟨u101, eu101⟩ : ∃ z : HS, z = wI u0 9 0 0 0 := ⟨_, rfl⟩
  rw [← eu101] at hR
  replace h := bd_x eu101 h
  clear eu101
  refine lv_aload_n hx hb dX9_apart_5 rfl (lv_at hl 0 rfl) ?_
  refine lv_aload_n hx hb dX9_apart_6 rfl (lv_at hl 0 rfl) ?_
  refine lv_iload_n hx hb dX9_apart_7 rfl (lv_at hl 1 rfl) ?_
  obtain ⟨x103, hc102, h⟩ := ob h
  refine r_callV1 (As := [.int x1]) (rest := [.ref (a 9 0)]) (r := 9) (i := 0) C (vX9_isScene hc102) hR hS (lv0 (by decide) (by decide)) (by decide) ml_X9_254 mw_X9_isScene rfl ⟨Nat.le_of_ble_eq_true rfl, Nat.le_of_ble_eq_true rfl, Nat.le_of_ble_eq_true rfl, Nat.le_of_ble_eq_true rfl⟩ hl.1 rfl (Nat.le_of_ble_eq_true rfl) dX9_apart_8 (fun H locs hR hS => ?_)
  obtain ⟨x104, hz, h⟩ := ob h
  have Kj105 : ∀ (H : Heap) (locs : List Loc) (ls : Array Slot), Rel E a u101 H → va_S (AE E) s.heap H locs → lv_has ls 13 [(0, .ref (a 9 0)), (1, .int x1), (2, .int x2), (3, .int x3), (4, .int x4), (5, .int x5), (6, .int x6)] → W p l e { frames := 3, cells := 0, slots := 0, locals := 72 } s m args below meth c H locs 0 0 (MQ below (QW E a (some (.int out.1)) out.2) args s 0 0 (AE E)) (F0 m 27 ls [.int x104, .ref (a 9 0)]) := by
    intro H locs ls hR hS hl
    clear hz
    refine lv_iconst (v := 1) hx hb dX9_apart_27 (by decide) ?_
    obtain ⟨⟨x107, u108⟩, hc106, h⟩ := ob h
    replace h := bd_x (x := x107) rfl h
    replace h := bd_x (x := u108) rfl h
    refine r_callV1 (As := [.int x104, .int 1]) (rest := []) (r := 9) (i := 0) C (vX9_bad hc106) hR hS (lv0 (by decide) (by decide)) (by decide) ml_X9_162 mw_X9_bad rfl ⟨Nat.le_of_ble_eq_true rfl, Nat.le_of_ble_eq_true rfl, Nat.le_of_ble_eq_true rfl, Nat.le_of_ble_eq_true rfl⟩ hl.1 rfl (Nat.le_of_ble_eq_true rfl) dX9_apart_28 (fun H locs hR hS => ?_)
    refine lv_if_ne (tgt := 97) hx hb dX9_apart_31 (by decide) (fun c_109 => ?_) (fun c_109 => ?_)
    · rw [if_neg c_109] at h
      refine lv_iconst (v := 0) hx hb dX9_apart_97 (by decide) ?_
      cases h
      exact e_iret C hr hR hS (Nat.le_of_ble_eq_true rfl) (Nat.le_of_ble_eq_true rfl) dX9_apart_98
    · rw [if_pos c_109] at h
      refine lv_aload_n hx hb dX9_apart_34 rfl (lv_at hl 0 rfl) ?_
      refine lv_aload_n hx hb dX9_apart_35 rfl (lv_at hl 0 rfl) ?_
      refine lv_iload_n hx hb dX9_apart_36 rfl (lv_at hl 2 rfl) ?_
      obtain ⟨x111, hc110, h⟩ := ob h
      refine r_callV1 (As := [.int x2]) (rest := [.ref (a 9 0)]) (r := 9) (i := 0) C (vX9_isTask hc110) hR hS (lv0 (by decide) (by decide)) (by decide) ml_X9_278 mw_X9_isTask rfl ⟨Nat.le_of_ble_eq_true rfl, Nat.le_of_ble_eq_true rfl, Nat.le_of_ble_eq_true rfl, Nat.le_of_ble_eq_true rfl⟩ hl.1 rfl (Nat.le_of_ble_eq_true rfl) dX9_apart_37 (fun H locs hR hS => ?_)
      obtain ⟨x112, hz, h⟩ := ob h
      have Kj113 : ∀ (H : Heap) (locs : List Loc) (ls : Array Slot), Rel E a u108 H → va_S (AE E) s.heap H locs → lv_has ls 13 [(0, .ref (a 9 0)), (1, .int x1), (2, .int x2), (3, .int x3), (4, .int x4), (5, .int x5), (6, .int x6)] → W p l e { frames := 3, cells := 0, slots := 0, locals := 72 } s m args below meth c H locs 0 0 (MQ below (QW E a (some (.int out.1)) out.2) args s 0 0 (AE E)) (F0 m 57 ls [.int x112, .ref (a 9 0)]) := by
        intro H locs ls hR hS hl
        clear hz
        refine lv_iconst (v := 2) hx hb dX9_apart_57 (by decide) ?_
        obtain ⟨⟨x115, u116⟩, hc114, h⟩ := ob h
        replace h := bd_x (x := x115) rfl h
        replace h := bd_x (x := u116) rfl h
        refine r_callV1 (As := [.int x112, .int 2]) (rest := []) (r := 9) (i := 0) C (vX9_bad hc114) hR hS (lv0 (by decide) (by decide)) (by decide) ml_X9_162 mw_X9_bad rfl ⟨Nat.le_of_ble_eq_true rfl, Nat.le_of_ble_eq_true rfl, Nat.le_of_ble_eq_true rfl, Nat.le_of_ble_eq_true rfl⟩ hl.1 rfl (Nat.le_of_ble_eq_true rfl) dX9_apart_58 (fun H locs hR hS => ?_)
        refine lv_if_ne (tgt := 97) hx hb dX9_apart_61 (by decide) (fun c_117 => ?_) (fun c_117 => ?_)
        · rw [if_neg c_117] at h
          refine lv_iconst (v := 0) hx hb dX9_apart_97 (by decide) ?_
          cases h
          exact e_iret C hr hR hS (Nat.le_of_ble_eq_true rfl) (Nat.le_of_ble_eq_true rfl) dX9_apart_98
        · rw [if_pos c_117] at h
          refine lv_aload_n hx hb dX9_apart_64 rfl (lv_at hl 0 rfl) ?_
          refine lv_iload hx hb dX9_apart_65 (lv_at hl 5 rfl) ?_
          refine lv_iconst (v := 0) hx hb dX9_apart_67 (by decide) ?_
          refine lv_iconst (v := 2) hx hb dX9_apart_68 (by decide) ?_
          obtain ⟨x119, hc118, h⟩ := ob h
          refine r_callS1 (As := [.int x5, .int 0, .int 2]) (rest := [.ref (a 9 0)]) C (vX9_in hc118) hR hS ml_X9_113 ms_X9_in rfl ⟨Nat.le_of_ble_eq_true rfl, Nat.le_of_ble_eq_true rfl, Nat.le_of_ble_eq_true rfl, Nat.le_of_ble_eq_true rfl⟩ hl.1 rfl (Nat.le_of_ble_eq_true rfl) dX9_apart_69 (fun H locs hR hS => ?_)
          obtain ⟨x120, hz, h⟩ := ob h
          have Kj121 : ∀ (H : Heap) (locs : List Loc) (ls : Array Slot), Rel E a u116 H → va_S (AE E) s.heap H locs → lv_has ls 13 [(0, .ref (a 9 0)), (1, .int x1), (2, .int x2), (3, .int x3), (4, .int x4), (5, .int x5), (6, .int x6)] → W p l e { frames := 3, cells := 0, slots := 0, locals := 72 } s m args below meth c H locs 0 0 (MQ below (QW E a (some (.int out.1)) out.2) args s 0 0 (AE E)) (F0 m 90 ls [.int x120, .ref (a 9 0)]) := by
            intro H locs ls hR hS hl
            clear hz
            refine lv_iconst (v := 3) hx hb dX9_apart_90 (by decide) ?_
            obtain ⟨⟨x123, u124⟩, hc122, h⟩ := ob h
            replace h := bd_x (x := x123) rfl h
            replace h := bd_x (x := u124) rfl h
            refine r_callV1 (As := [.int x120, .int 3]) (rest := []) (r := 9) (i := 0) C (vX9_bad hc122) hR hS (lv0 (by decide) (by decide)) (by decide) ml_X9_162 mw_X9_bad rfl ⟨Nat.le_of_ble_eq_true rfl, Nat.le_of_ble_eq_true rfl, Nat.le_of_ble_eq_true rfl, Nat.le_of_ble_eq_true rfl⟩ hl.1 rfl (Nat.le_of_ble_eq_true rfl) dX9_apart_91 (fun H locs hR hS => ?_)
            refine lv_if_eq (tgt := 99) hx hb dX9_apart_94 (by decide) (fun c_125 => ?_) (fun c_125 => ?_)
            · rw [if_pos c_125] at h
              refine lv_aload_n hx hb dX9_apart_99 rfl (lv_at hl 0 rfl) ?_
              refine lv_iload_n hx hb dX9_apart_100 rfl (lv_at hl 1 rfl) ?_
              refine lv_iload_n hx hb dX9_apart_101 rfl (lv_at hl 2 rfl) ?_
              refine lv_iload hx hb dX9_apart_102 (lv_at hl 5 rfl) ?_
              obtain ⟨x127, hc126, h⟩ := ob h
              refine r_callV1 (As := [.int x1, .int x2, .int x5]) (rest := []) (r := 9) (i := 0) C (vX9_asked hc126) hR hS (lv0 (by decide) (by decide)) (by decide) ml_X9_388 mw_X9_asked rfl ⟨Nat.le_of_ble_eq_true rfl, Nat.le_of_ble_eq_true rfl, Nat.le_of_ble_eq_true rfl, Nat.le_of_ble_eq_true rfl⟩ hl.1 rfl (Nat.le_of_ble_eq_true rfl) dX9_apart_104 (fun H locs hR hS => ?_)
              refine lv_istore (lv' := [(7, .int x127), (0, .ref (a 9 0)), (1, .int x1), (2, .int x2), (3, .int x3), (4, .int x4), (5, .int x5), (6, .int x6)]) hx hb dX9_apart_107 hl (by decide) rfl (fun ls hl => ?_)
              refine lv_aload_n hx hb dX9_apart_109 rfl (lv_at hl 1 rfl) ?_
              refine lv_iload_n hx hb dX9_apart_110 rfl (lv_at hl 2 rfl) ?_
              refine lv_iload_n hx hb dX9_apart_111 rfl (lv_at hl 3 rfl) ?_
              refine lv_iload hx hb dX9_apart_112 (lv_at hl 6 rfl) ?_
              obtain ⟨x129, hc128, h⟩ := ob h
              refine r_callV1 (As := [.int x1, .int x2, .int x5]) (rest := []) (r := 9) (i := 0) C (vX9_yes hc128) hR hS (lv0 (by decide) (by decide)) (by decide) ml_X9_391 mw_X9_yes rfl ⟨Nat.le_of_ble_eq_true rfl, Nat.le_of_ble_eq_true rfl, Nat.le_of_ble_eq_true rfl, Nat.le_of_ble_eq_true rfl⟩ hl.1 rfl (Nat.le_of_ble_eq_true rfl) dX9_apart_114 (fun H locs hR hS => ?_)
              refine lv_istore (lv' := [(8, .int x129), (7, .int x127), (0, .ref (a 9 0)), (1, .int x1), (2, .int x2), (3, .int x3), (4, .int x4), (5, .int x5), (6, .int x6)]) hx hb dX9_apart_117 hl (by decide) rfl (fun ls hl => ?_)
              refine lv_aload_n hx hb dX9_apart_119 rfl (lv_at hl 2 rfl) ?_
              refine lv_iload_n hx hb dX9_apart_120 rfl (lv_at hl 5 rfl) ?_
              refine lv_iload hx hb dX9_apart_121 (lv_at hl 6 rfl) ?_
              refine lv_iload hx hb dX9_apart_123 (lv_at hl 7 rfl) ?_
              obtain ⟨x131, hc130, h⟩ := ob h
              refine r_callV1 (As := [.int x3, .int x4, .int x5]) (rest := []) (r := 9) (i := 0) C (vX9_asked hc130) hR hS (lv0 (by decide) (by decide)) (by decide) ml_X9_388 mw_X9_asked rfl ⟨Nat.le_of_ble_eq_true rfl, Nat.le_of_ble_eq_true rfl, Nat.le_of_ble_eq_true rfl, Nat.le_of_ble_eq_true rfl⟩ hl.1 rfl (Nat.le_of_ble_eq_true rfl) dX9_apart_125 (fun H locs hR hS => ?_)
              refine lv_istore (lv' := [(9, .int x131), (8, .int x129), (7, .int x127), (0, .ref (a 9 0)), (1, .int x1), (2, .int x2), (3, .int x3), (4, .int x4), (5, .int x5), (6, .int x6)]) hx hb dX9_apart_128 hl (by decide) rfl (fun ls hl => ?_)
              refine lv_aload_n hx hb dX9_apart_130 rfl (lv_at hl 3 rfl) ?_
              refine lv_iload_n hx hb dX9_apart_131 rfl (lv_at hl 6 rfl) ?_
              refine lv_iload hx hb dX9_apart_132 (lv_at hl 7 rfl) ?_
              refine lv_iload hx hb dX9_apart_134 (lv_at hl 8 rfl) ?_
              obtain ⟨x133, hc132, h⟩ := ob h
              refine r_callV1 (As := [.int x3, .int x4, .int x5]) (rest := []) (r := 9) (i := 0) C (vX9_yes hc132) hR hS (lv0 (by decide) (by decide)) (by decide) ml_X9_391 mw_X9_yes rfl ⟨Nat.le_of_ble_eq_true rfl, Nat.le_of_ble_eq_true rfl, Nat.le_of_ble_eq_true rfl, Nat.le_of_ble_eq_true rfl⟩ hl.1 rfl (Nat.le_of_ble_eq_true rfl) dX9_apart_136 (fun H locs hR hS => ?_)
              refine lv_istore (lv' := [(10, .int x133), (9, .int x131), (8, .int x129), (7, .int x127), (0, .ref (a 9 0)), (1, .int x1), (2, .int x2), (3, .int x3), (4, .int x4), (5, .int x5), (6, .int x6)]) hx hb dX9_apart_139 hl (by decide) rfl (fun ls hl => ?_)
              refine lv_iconst (v := 0) hx hb dX9_apart_141 (by decide) ?_
              refine lv_istore (lv' := [(11, .int 0), (10, .int x133), (9, .int x131), (8, .int x129), (7, .int x127), (0, .ref (a 9 0)), (1, .int x1), (2, .int x2), (3, .int x3), (4, .int x4), (5, .int x5), (6, .int x6)]) hx hb dX9_apart_142 hl (by decide) rfl (fun ls hl => ?_)
              refine lv_iload hx hb dX9_apart_144 (lv_at hl 11 rfl) ?_
              refine lv_if_ne (tgt := 161) hx hb dX9_apart_146 (by decide) (fun c_134 => ?_) (fun c_134 => ?_)
              · rw [if_neg c_134] at h
                refine lv_iload hx hb dX9_apart_161 (lv_at hl 11 rfl) ?_
                refine lv_iconst (v := 2) hx hb dX9_apart_163 (by decide) ?_
                refine lv_icmp_ne (tgt := 178) hx hb dX9_apart_164 (by decide) (fun c_135 => ?_) (fun c_135 => ?_)
                · rw [if_neg c_135] at h
                  refine lv_iload hx hb dX9_apart_178 (lv_at hl 3 rfl) ?_
                  refine lv_istore (lv' := [(12, .int x129), (11, .int 0), (10, .int x133), (9, .int x131), (8, .int x129), (7, .int x127), (0, .ref (a 9 0)), (1, .int x1), (2, .int x2), (3, .int x3), (4, .int x4), (5, .int x5), (6, .int x6)]) hx hb dX9_apart_180 hl (by decide) rfl (fun ls hl => ?_)
                  refine jp_cut h (fun w139 hw139 h => ?_)
                  have Kw139 : ∀ (x138 : Int32) (H : Heap) (locs : List Loc) (ls : Array Slot), w139 x138 = some out → Rel E a u124 H → va_S (AE E) s.heap H locs → lv_has ls 13 [(11, .int x138)] → W p l e { frames := 3, cells := 0, slots := 0, locals := 72 } s m args below meth c H locs 0 0 (MQ below (QW E a (some (.int out.1)) out.2) args s 0 0 (AE E)) (F0 m 230 ls []) := by
                    intro x138 H locs ls h hR hS hl
                    replace h := jx1 hw139 h
                    refine lv_iload hx hb dX9_apart_230 (lv_at hl 0 rfl) ?_
                    cases h
                    exact e_iret C hr hR hS (Nat.le_of_ble_eq_true rfl) (Nat.le_of_ble_eq_true rfl) dX9_apart_232
                  have LP : ∀ (fu : Nat) (x136 : Int32) (x137 : Int32) (H : Heap) (locs : List Loc) (ls : Array Slot), mX9_apart_L182 x127 x129 x133 x131 w139 fu x136 x137 = some out → Rel E a u124 H → va_S (AE E) s.heap H locs → lv_has ls 13 [(7, .int x127), (8, .int x129), (9, .int x131), (10, .int x133), (11, .int x136), (12, .int x137)] → W p l e { frames := 3, cells := 0, slots := 0, locals := 72 } s m args below meth c H locs 0 0 (MQ below (QW E a (some (.int out.1)) out.2) args s 0 0 (AE E)) (F0 m 182 ls []) := by
                    intro fu
                    induction fu with
                    | zero =>
                      intro x136 x137 H locs ls h
                      have h2 : (none : Option (Int32 × HS)) = some out := h
                      cases h2
                    | succ fu ih =>
                      intro x136 x137 H locs ls h hR hS hl
                      rw [mX9_apart_L182.eq_2] at h
                      refine lv_iload hx hb dX9_apart_182 (lv_at hl 5 rfl) ?_
                      refine lv_iload hx hb dX9_apart_184 (lv_at hl 0 rfl) ?_
                      refine lv_icmp_gt (tgt := 230) hx hb dX9_apart_186 (by decide) (fun c_140 => ?_) (fun c_140 => ?_)
                      · rw [if_pos c_140] at h
                        exact Kw139 _ _ _ _ h hR hS (lv_sub hl [4] rfl)
                      · rw [if_neg c_140] at h
                        refine lv_iload hx hb dX9_apart_189 (lv_at hl 4 rfl) ?_
                        refine lv_iload hx hb dX9_apart_191 (lv_at hl 1 rfl) ?_
                        refine lv_iload hx hb dX9_apart_193 (lv_at hl 3 rfl) ?_
                        refine lv_iadd hx hb dX9_apart_195 ?_
                        refine lv_iload hx hb dX9_apart_196 (lv_at hl 5 rfl) ?_
                        obtain ⟨x142, hc141, h⟩ := ob h
                        refine r_callS1 (As := [.int (x129 + x133), .int x137]) (rest := [.int x136]) C (vX9_choose hc141) hR hS ml_X9_397 ms_X9_choose rfl ⟨Nat.le_of_ble_eq_true rfl, Nat.le_of_ble_eq_true rfl, Nat.le_of_ble_eq_true rfl, Nat.le_of_ble_eq_true rfl⟩ hl.1 rfl (Nat.le_of_ble_eq_true rfl) dX9_apart_198 (fun H locs hR hS => ?_)
                        refine lv_iload hx hb dX9_apart_201 (lv_at hl 0 rfl) ?_
                        refine lv_iload hx hb dX9_apart_203 (lv_at hl 2 rfl) ?_
                        refine lv_iadd hx hb dX9_apart_205 ?_
                        refine lv_iload hx hb dX9_apart_206 (lv_at hl 1 rfl) ?_
                        refine lv_isub hx hb dX9_apart_208 ?_
                        refine lv_iload hx hb dX9_apart_209 (lv_at hl 3 rfl) ?_
                        refine lv_isub hx hb dX9_apart_211 ?_
                        refine lv_iload hx hb dX9_apart_212 (lv_at hl 0 rfl) ?_
                        refine lv_iload hx hb dX9_apart_214 (lv_at hl 5 rfl) ?_
                        refine lv_isub hx hb dX9_apart_216 ?_
                        obtain ⟨x144, hc143, h⟩ := ob h
                        refine r_callS1 (As := [.int (((x127 + x131) - x129) - x133), .int (x127 - x137)]) (rest := [.int x142, .int x136]) C (vX9_choose hc143) hR hS ml_X9_397 ms_X9_choose rfl ⟨Nat.le_of_ble_eq_true rfl, Nat.le_of_ble_eq_true rfl, Nat.le_of_ble_eq_true rfl, Nat.le_of_ble_eq_true rfl⟩ hl.1 rfl (Nat.le_of_ble_eq_true rfl) dX9_apart_217 (fun H locs hR hS => ?_)
                        refine lv_imul hx hb dX9_apart_220 ?_
                        refine lv_iadd hx hb dX9_apart_221 ?_
                        refine lv_topi (fun x145 ex145 => ?_)
                        replace h := bd_x ex145 h
                        refine lv_istore (lv' := [(11, .int x145), (7, .int x127), (8, .int x129), (9, .int x131), (10, .int x133), (12, .int x137)]) hx hb dX9_apart_222 hl (by decide) rfl (fun ls hl => ?_)
                        obtain ⟨x146, ex146⟩ : ∃ z : Int32, z = x137 + 1 := ⟨_, rfl⟩
                        replace h := bd_x ex146 h
                        refine lv_iinc (v := x146) (lv' := [(12, .int x146), (11, .int x145), (7, .int x127), (8, .int x129), (9, .int x131), (10, .int x133)]) hx hb dX9_apart_224 hl (k := 5) rfl (by rw [ex146]; rfl) (by decide) rfl (fun ls hl => ?_)
                        refine lv_goto (tgt := 182) hx hb dX9_apart_227 (by decide) ?_
                        exact ih _ _ _ _ _ h hR hS (lv_sub hl [2, 3, 4, 5, 1, 0] rfl)
                  exact LP FU _ _ _ _ _ h hR hS (lv_sub hl [5, 4, 3, 2, 1, 0] rfl)
                · rw [if_pos c_135] at h
                  refine lv_iload hx hb dX9_apart_167 (lv_at hl 4 rfl) ?_
                  refine lv_iload hx hb dX9_apart_169 (lv_at hl 2 rfl) ?_
                  refine lv_iadd hx hb dX9_apart_171 ?_
                  refine lv_iload hx hb dX9_apart_172 (lv_at hl 4 rfl) ?_
                  obtain ⟨x148, hc147, h⟩ := ob h
                  refine r_callS1 (As := [.int (x127 + x131), .int x127]) (rest := []) C (vX9_choose hc147) hR hS ml_X9_397 ms_X9_choose rfl ⟨Nat.le_of_ble_eq_true rfl, Nat.le_of_ble_eq_true rfl, Nat.le_of_ble_eq_true rfl, Nat.le_of_ble_eq_true rfl⟩ hl.1 rfl (Nat.le_of_ble_eq_true rfl) dX9_apart_174 (fun H locs hR hS => ?_)
                  cases h
                  exact e_iret C hr hR hS (Nat.le_of_ble_eq_true rfl) (Nat.le_of_ble_eq_true rfl) dX9_apart_177
              · rw [if_pos c_134] at h
                refine lv_iload hx hb dX9_apart_149 (lv_at hl 3 rfl) ?_
                refine lv_iload hx hb dX9_apart_151 (lv_at hl 2 rfl) ?_
                refine lv_imul hx hb dX9_apart_153 ?_
                refine lv_iload hx hb dX9_apart_154 (lv_at hl 1 rfl) ?_
                refine lv_iload hx hb dX9_apart_156 (lv_at hl 4 rfl) ?_
                refine lv_imul hx hb dX9_apart_158 ?_
                refine lv_isub hx hb dX9_apart_159 ?_
                cases h
                exact e_iret C hr hR hS (Nat.le_of_ble_eq_true rfl) (Nat.le_of_ble_eq_true rfl) dX9_apart_160
            · rw [if_neg c_125] at h
              refine lv_iconst (v := 0) hx hb dX9_apart_97 (by decide) ?_
              cases h
              exact e_iret C hr hR hS (Nat.le_of_ble_eq_true rfl) (Nat.le_of_ble_eq_true rfl) dX9_apart_98
          clear h
          have h := hz
          clear hz
          refine jp_cut h (fun j149 hj149 h => ?_)
          have Kj149 : ∀  (H : Heap) (locs : List Loc) (ls : Array Slot), j149 = some x120 → Rel E a u116 H → va_S (AE E) s.heap H locs → lv_has ls 13 [(0, .ref (a 9 0)), (1, .int x1), (2, .int x2), (3, .int x3), (4, .int x4), (5, .int x5), (6, .int x6)] → W p l e { frames := 3, cells := 0, slots := 0, locals := 72 } s m args below meth c H locs 0 0 (MQ below (QW E a (some (.int out.1)) out.2) args s 0 0 (AE E)) (F0 m 85 ls [.ref (a 9 0)]) := by
            intro  H locs ls h hR hS hl
            replace h := jx0 hj149 h
            refine lv_iconst (v := 1) hx hb dX9_apart_85 (by decide) ?_
            refine lv_goto (tgt := 90) hx hb dX9_apart_86 (by decide) ?_
            cases h
            exact Kj121 _ _ _ hR hS (lv_sub hl [0, 1, 2, 3, 4, 5, 6] rfl)
          refine lv_if_eq (tgt := 85) hx hb dX9_apart_72 (by decide) (fun c_150 => ?_) (fun c_150 => ?_)
          · rw [if_pos c_150] at h
            exact Kj149  _ _ _ h hR hS (lv_sub hl [0, 1, 2, 3, 4, 5, 6] rfl)
          · rw [if_neg c_150] at h
            refine lv_iload hx hb dX9_apart_75 (lv_at hl 6 rfl) ?_
            refine lv_iconst (v := 0) hx hb dX9_apart_77 (by decide) ?_
            refine lv_iconst (v := 2) hx hb dX9_apart_78 (by decide) ?_
            obtain ⟨x152, hc151, h⟩ := ob h
            refine r_callS1 (As := [.int x6, .int 0, .int 2]) (rest := [.ref (a 9 0)]) C (vX9_in hc151) hR hS ml_X9_113 ms_X9_in rfl ⟨Nat.le_of_ble_eq_true rfl, Nat.le_of_ble_eq_true rfl, Nat.le_of_ble_eq_true rfl, Nat.le_of_ble_eq_true rfl⟩ hl.1 rfl (Nat.le_of_ble_eq_true rfl) dX9_apart_79 (fun H locs hR hS => ?_)
            refine lv_if_ne (tgt := 89) hx hb dX9_apart_82 (by decide) (fun c_153 => ?_) (fun c_153 => ?_)
            · rw [if_neg c_153] at h
              refine lv_iconst (v := 0) hx hb dX9_apart_89 (by decide) ?_
              cases h
              exact Kj121 _ _ _ hR hS (lv_sub hl [0, 1, 2, 3, 4, 5, 6] rfl)
            · rw [if_pos c_153] at h
              exact Kj149  _ _ _ h hR hS (lv_sub hl [0, 1, 2, 3, 4, 5, 6] rfl)
      clear h
      have h := hz
      clear hz
      refine jp_cut h (fun j154 hj154 h => ?_)
      have Kj154 : ∀  (H : Heap) (locs : List Loc) (ls : Array Slot), j154 = some x112 → Rel E a u108 H → va_S (AE E) s.heap H locs → lv_has ls 13 [(0, .ref (a 9 0)), (1, .int x1), (2, .int x2), (3, .int x3), (4, .int x4), (5, .int x5), (6, .int x6)] → W p l e { frames := 3, cells := 0, slots := 0, locals := 72 } s m args below meth c H locs 0 0 (MQ below (QW E a (some (.int out.1)) out.2) args s 0 0 (AE E)) (F0 m 52 ls [.ref (a 9 0)]) := by
        intro  H locs ls h hR hS hl
        replace h := jx0 hj154 h
        refine lv_iconst (v := 1) hx hb dX9_apart_52 (by decide) ?_
        refine lv_goto (tgt := 57) hx hb dX9_apart_53 (by decide) ?_
        cases h
        exact Kj113 _ _ _ hR hS (lv_sub hl [0, 1, 2, 3, 4, 5, 6] rfl)
      refine lv_if_eq (tgt := 52) hx hb dX9_apart_40 (by decide) (fun c_155 => ?_) (fun c_155 => ?_)
      · rw [if_pos c_155] at h
        exact Kj154  _ _ _ h hR hS (lv_sub hl [0, 1, 2, 3, 4, 5, 6] rfl)
      · rw [if_neg c_155] at h
        refine lv_aload_n hx hb dX9_apart_43 rfl (lv_at hl 0 rfl) ?_
        refine lv_iload hx hb dX9_apart_44 (lv_at hl 4 rfl) ?_
        obtain ⟨x157, hc156, h⟩ := ob h
        refine r_callV1 (As := [.int x4]) (rest := [.ref (a 9 0)]) (r := 9) (i := 0) C (vX9_isTask hc156) hR hS (lv0 (by decide) (by decide)) (by decide) ml_X9_278 mw_X9_isTask rfl ⟨Nat.le_of_ble_eq_true rfl, Nat.le_of_ble_eq_true rfl, Nat.le_of_ble_eq_true rfl, Nat.le_of_ble_eq_true rfl⟩ hl.1 rfl (Nat.le_of_ble_eq_true rfl) dX9_apart_46 (fun H locs hR hS => ?_)
        refine lv_if_ne (tgt := 56) hx hb dX9_apart_49 (by decide) (fun c_158 => ?_) (fun c_158 => ?_)
        · rw [if_neg c_158] at h
          refine lv_iconst (v := 0) hx hb dX9_apart_56 (by decide) ?_
          cases h
          exact Kj113 _ _ _ hR hS (lv_sub hl [0, 1, 2, 3, 4, 5, 6] rfl)
        · rw [if_pos c_158] at h
          exact Kj154  _ _ _ h hR hS (lv_sub hl [0, 1, 2, 3, 4, 5, 6] rfl)
  clear h
  have h := hz
  clear hz
  refine jp_cut h (fun j159 hj159 h => ?_)
  have Kj159 : ∀  (H : Heap) (locs : List Loc) (ls : Array Slot), j159 = some x104 → Rel E a u101 H → va_S (AE E) s.heap H locs → lv_has ls 13 [(0, .ref (a 9 0)), (1, .int x1), (2, .int x2), (3, .int x3), (4, .int x4), (5, .int x5), (6, .int x6)] → W p l e { frames := 3, cells := 0, slots := 0, locals := 72 } s m args below meth c H locs 0 0 (MQ below (QW E a (some (.int out.1)) out.2) args s 0 0 (AE E)) (F0 m 22 ls [.ref (a 9 0)]) := by
    intro  H locs ls h hR hS hl
    replace h := jx0 hj159 h
    refine lv_iconst (v := 1) hx hb dX9_apart_22 (by decide) ?_
    refine lv_goto (tgt := 27) hx hb dX9_apart_23 (by decide) ?_
    cases h
    exact Kj105 _ _ _ hR hS (lv_sub hl [0, 1, 2, 3, 4, 5, 6] rfl)
  refine lv_if_eq (tgt := 22) hx hb dX9_apart_11 (by decide) (fun c_160 => ?_) (fun c_160 => ?_)
  · rw [if_pos c_160] at h
    exact Kj159  _ _ _ h hR hS (lv_sub hl [0, 1, 2, 3, 4, 5, 6] rfl)
  · rw [if_neg c_160] at h
    refine lv_aload_n hx hb dX9_apart_14 rfl (lv_at hl 0 rfl) ?_
    refine lv_iload_n hx hb dX9_apart_15 rfl (lv_at hl 3 rfl) ?_
    obtain ⟨x162, hc161, h⟩ := ob h
    refine r_callV1 (As := [.int x3]) (rest := [.ref (a 9 0)]) (r := 9) (i := 0) C (vX9_isScene hc161) hR hS (lv0 (by decide) (by decide)) (by decide) ml_X9_254 mw_X9_isScene rfl ⟨Nat.le_of_ble_eq_true rfl, Nat.le_of_ble_eq_true rfl, Nat.le_of_ble_eq_true rfl, Nat.le_of_ble_eq_true rfl⟩ hl.1 rfl (Nat.le_of_ble_eq_true rfl) dX9_apart_16 (fun H locs hR hS => ?_)
    refine lv_if_ne (tgt := 26) hx hb dX9_apart_19 (by decide) (fun c_163 => ?_) (fun c_163 => ?_)
    · rw [if_neg c_163] at h
      refine lv_iconst (v := 0) hx hb dX9_apart_26 (by decide) ?_
      cases h
      exact Kj105 _ _ _ hR hS (lv_sub hl [0, 1, 2, 3, 4, 5, 6] rfl)
    · rw [if_pos c_163] at h
      exact Kj159  _ _ _ h hR hS (lv_sub hl [0, 1, 2, 3, 4, 5, 6] rfl)
set_option maxHeartbeats 4000000 in
set_option maxRecDepth 100000 in
theorem vX9_gone {l : Launch} {E : EV} {a : Nat → Nat → Nat} {u0 : HS} {x1 : Int32} {x2 : Int32} {x3 : Int32} {out : (Int32 × HS)} (h : mX9_gone u0 x1 x2 x3 = some out) : Ct l E yX9_gone cX9_gone 7 (some .int) 2 43 0 0 a u0 [.ref (a 9 0), .int x1, .int x2, .int x3] (some (.int out.1)) out.2 := by
  refine Ct.start (by decide) (Nat.le_of_ble_eq_true rfl) ?_
  intro p e s m args below meth c ls C hr hR hS hl
  have C : Cx E p s m args meth c cX9_gone 7 RX9 := C
  have hl : lv_has ls 7 [(0, .ref (a 9 0)), (1, .int x1), (2, .int x2), (3, .int x3)] := hl
  have hx := C.1
  have hb := C.2.1
  unfold mX9_gone at h
  refine lv_aload_n hx hb dX9_gone_0 rfl (lv_at hl 0 rfl) ?_
  refine lv_iconst (v := 0) hx hb dX9_gone_1 (by decide) ?_
  refine r_putI (ty := .int) C hR hS 9 0 0 (lv0 (by decide) (by decide)) (by decide) (by decide) (fun _ => rfl) fl_X9_76 (by decide) (by decide +kernel) rfl rfl dX9_gone_2 (fun H locs hR hS => ?_)
  obtain ⟨u101, eu101⟩ : ∃ z : HS, z = wI u0 9 0 0 0 := ⟨_, rfl⟩
  rw [← eu101] at hR
  replace h := bd_x eu101 h
  clear eu101
  refine lv_aload_n hx hb dX9_gone_5 rfl (lv_at hl 0 rfl) ?_
  refine lv_aload_n hx hb dX9_gone_6 rfl (lv_at hl 0 rfl) ?_
  refine lv_iload_n hx hb dX9_gone_7 rfl (lv_at hl 1 rfl) ?_
  obtain ⟨x103, hc102, h⟩ := ob h
  refine r_callV1 (As := [.int x1]) (rest := [.ref (a 9 0)]) (r := 9) (i := 0) C (vX9_isScene hc102) hR hS (lv0 (by decide) (by decide)) (by decide) ml_X9_254 mw_X9_isScene rfl ⟨Nat.le_of_ble_eq_true rfl, Nat.le_of_ble_eq_true rfl, Nat.le_of_ble_eq_true rfl, Nat.le_of_ble_eq_true rfl⟩ hl.1 rfl (Nat.le_of_ble_eq_true rfl) dX9_gone_8 (fun H locs hR hS => ?_)
  obtain ⟨x104, hz, h⟩ := ob h
  have Kj105 : ∀ (H : Heap) (locs : List Loc) (ls : Array Slot), Rel E a u101 H → va_S (AE E) s.heap H locs → lv_has ls 7 [(0, .ref (a 9 0)), (1, .int x1), (2, .int x2), (3, .int x3)] → W p l e { frames := 2, cells := 0, slots := 0, locals := 43 } s m args below meth c H locs 0 0 (MQ below (QW E a (some (.int out.1)) out.2) args s 0 0 (AE E)) (F0 m 19 ls [.int x104, .ref (a 9 0)]) := by
    intro H locs ls hR hS hl
    clear hz
    refine lv_iconst (v := 1) hx hb dX9_gone_19 (by decide) ?_
    obtain ⟨⟨x107, u108⟩, hc106, h⟩ := ob h
    replace h := bd_x (x := x107) rfl h
    replace h := bd_x (x := u108) rfl h
    refine r_callV1 (As := [.int x104, .int 1]) (rest := []) (r := 9) (i := 0) C (vX9_bad hc106) hR hS (lv0 (by decide) (by decide)) (by decide) ml_X9_162 mw_X9_bad rfl ⟨Nat.le_of_ble_eq_true rfl, Nat.le_of_ble_eq_true rfl, Nat.le_of_ble_eq_true rfl, Nat.le_of_ble_eq_true rfl⟩ hl.1 rfl (Nat.le_of_ble_eq_true rfl) dX9_gone_20 (fun H locs hR hS => ?_)
    refine lv_if_ne (tgt := 69) hx hb dX9_gone_23 (by decide) (fun c_109 => ?_) (fun c_109 => ?_)
    · rw [if_neg c_109] at h
      refine lv_iconst (v := 0) hx hb dX9_gone_69 (by decide) ?_
      cases h
      exact e_iret C hr hR hS (Nat.le_of_ble_eq_true rfl) (Nat.le_of_ble_eq_true rfl) dX9_gone_70
    · rw [if_pos c_109] at h
      refine lv_aload_n hx hb dX9_gone_26 rfl (lv_at hl 0 rfl) ?_
      refine lv_aload_n hx hb dX9_gone_27 rfl (lv_at hl 0 rfl) ?_
      refine lv_iload_n hx hb dX9_gone_28 rfl (lv_at hl 2 rfl) ?_
      obtain ⟨x111, hc110, h⟩ := ob h
      refine r_callV1 (As := [.int x2]) (rest := [.ref (a 9 0)]) (r := 9) (i := 0) C (vX9_isTask hc110) hR hS (lv0 (by decide) (by decide)) (by decide) ml_X9_278 mw_X9_isTask rfl ⟨Nat.le_of_ble_eq_true rfl, Nat.le_of_ble_eq_true rfl, Nat.le_of_ble_eq_true rfl, Nat.le_of_ble_eq_true rfl⟩ hl.1 rfl (Nat.le_of_ble_eq_true rfl) dX9_gone_29 (fun H locs hR hS => ?_)
      obtain ⟨x112, hz, h⟩ := ob h
      have Kj113 : ∀ (H : Heap) (locs : List Loc) (ls : Array Slot), Rel E a u108 H → va_S (AE E) s.heap H locs → lv_has ls 7 [(0, .ref (a 9 0)), (1, .int x1), (2, .int x2), (3, .int x3)] → W p l e { frames := 2, cells := 0, slots := 0, locals := 43 } s m args below meth c H locs 0 0 (MQ below (QW E a (some (.int out.1)) out.2) args s 0 0 (AE E)) (F0 m 40 ls [.int x112, .ref (a 9 0)]) := by
        intro H locs ls hR hS hl
        clear hz
        refine lv_iconst (v := 2) hx hb dX9_gone_40 (by decide) ?_
        obtain ⟨⟨x115, u116⟩, hc114, h⟩ := ob h
        replace h := bd_x (x := x115) rfl h
        replace h := bd_x (x := u116) rfl h
        refine r_callV1 (As := [.int x112, .int 2]) (rest := []) (r := 9) (i := 0) C (vX9_bad hc114) hR hS (lv0 (by decide) (by decide)) (by decide) ml_X9_162 mw_X9_bad rfl ⟨Nat.le_of_ble_eq_true rfl, Nat.le_of_ble_eq_true rfl, Nat.le_of_ble_eq_true rfl, Nat.le_of_ble_eq_true rfl⟩ hl.1 rfl (Nat.le_of_ble_eq_true rfl) dX9_gone_41 (fun H locs hR hS => ?_)
        refine lv_if_ne (tgt := 69) hx hb dX9_gone_44 (by decide) (fun c_117 => ?_) (fun c_117 => ?_)
        · rw [if_neg c_117] at h
          refine lv_iconst (v := 0) hx hb dX9_gone_69 (by decide) ?_
          cases h
          exact e_iret C hr hR hS (Nat.le_of_ble_eq_true rfl) (Nat.le_of_ble_eq_true rfl) dX9_gone_70
        · rw [if_pos c_117] at h
          refine lv_aload_n hx hb dX9_gone_47 rfl (lv_at hl 0 rfl) ?_
          refine lv_iload_n hx hb dX9_gone_48 rfl (lv_at hl 3 rfl) ?_
          refine lv_iconst (v := 0) hx hb dX9_gone_49 (by decide) ?_
          refine lv_iconst (v := 2) hx hb dX9_gone_50 (by decide) ?_
          obtain ⟨x119, hc118, h⟩ := ob h
          refine r_callS1 (As := [.int x3, .int 0, .int 2]) (rest := [.ref (a 9 0)]) C (vX9_in hc118) hR hS ml_X9_113 ms_X9_in rfl ⟨Nat.le_of_ble_eq_true rfl, Nat.le_of_ble_eq_true rfl, Nat.le_of_ble_eq_true rfl, Nat.le_of_ble_eq_true rfl⟩ hl.1 rfl (Nat.le_of_ble_eq_true rfl) dX9_gone_51 (fun H locs hR hS => ?_)
          obtain ⟨x120, hz, h⟩ := ob h
          have Kj121 : ∀ (H : Heap) (locs : List Loc) (ls : Array Slot), Rel E a u116 H → va_S (AE E) s.heap H locs → lv_has ls 7 [(0, .ref (a 9 0)), (1, .int x1), (2, .int x2), (3, .int x3)] → W p l e { frames := 2, cells := 0, slots := 0, locals := 43 } s m args below meth c H locs 0 0 (MQ below (QW E a (some (.int out.1)) out.2) args s 0 0 (AE E)) (F0 m 62 ls [.int x120, .ref (a 9 0)]) := by
            intro H locs ls hR hS hl
            clear hz
            refine lv_iconst (v := 3) hx hb dX9_gone_62 (by decide) ?_
            obtain ⟨⟨x123, u124⟩, hc122, h⟩ := ob h
            replace h := bd_x (x := x123) rfl h
            replace h := bd_x (x := u124) rfl h
            refine r_callV1 (As := [.int x120, .int 3]) (rest := []) (r := 9) (i := 0) C (vX9_bad hc122) hR hS (lv0 (by decide) (by decide)) (by decide) ml_X9_162 mw_X9_bad rfl ⟨Nat.le_of_ble_eq_true rfl, Nat.le_of_ble_eq_true rfl, Nat.le_of_ble_eq_true rfl, Nat.le_of_ble_eq_true rfl⟩ hl.1 rfl (Nat.le_of_ble_eq_true rfl) dX9_gone_63 (fun H locs hR hS => ?_)
            refine lv_if_eq (tgt := 71) hx hb dX9_gone_66 (by decide) (fun c_125 => ?_) (fun c_125 => ?_)
            · rw [if_pos c_125] at h
              refine lv_iconst (v := 0) hx hb dX9_gone_71 (by decide) ?_
              refine lv_istore (lv' := [(4, .int 0), (0, .ref (a 9 0)), (1, .int x1), (2, .int x2), (3, .int x3)]) hx hb dX9_gone_72 hl (by decide) rfl (fun ls hl => ?_)
              refine lv_iconst (v := 0) hx hb dX9_gone_74 (by decide) ?_
              refine lv_istore (lv' := [(5, .int 0), (4, .int 0), (0, .ref (a 9 0)), (1, .int x1), (2, .int x2), (3, .int x3)]) hx hb dX9_gone_75 hl (by decide) rfl (fun ls hl => ?_)
              refine jp_cut h (fun w129 hw129 h => ?_)
              have Kw129 : ∀ (x128 : Int32) (H : Heap) (locs : List Loc) (ls : Array Slot), w129 x128 = some out → Rel E a u124 H → va_S (AE E) s.heap H locs → lv_has ls 7 [(4, .int x128)] → W p l e { frames := 2, cells := 0, slots := 0, locals := 43 } s m args below meth c H locs 0 0 (MQ below (QW E a (some (.int out.1)) out.2) args s 0 0 (AE E)) (F0 m 201 ls []) := by
                intro x128 H locs ls h hR hS hl
                replace h := jx1 hw129 h
                refine lv_iload hx hb dX9_gone_201 (lv_at hl 0 rfl) ?_
                cases h
                exact e_iret C hr hR hS (Nat.le_of_ble_eq_true rfl) (Nat.le_of_ble_eq_true rfl) dX9_gone_203
              have LP : ∀ (fu : Nat) (x126 : Int32) (x127 : Int32) (H : Heap) (locs : List Loc) (ls : Array Slot), mX9_gone_L77 u124 x1 x2 x3 w129 fu x126 x127 = some out → Rel E a u124 H → va_S (AE E) s.heap H locs → lv_has ls 7 [(0, .ref (a 9 0)), (1, .int x1), (2, .int x2), (3, .int x3), (4, .int x126), (5, .int x127)] → W p l e { frames := 2, cells := 0, slots := 0, locals := 43 } s m args below meth c H locs 0 0 (MQ below (QW E a (some (.int out.1)) out.2) args s 0 0 (AE E)) (F0 m 77 ls []) := by
                intro fu
                induction fu with
                | zero =>
                  intro x126 x127 H locs ls h
                  have h2 : (none : Option (Int32 × HS)) = some out := h
                  cases h2
                | succ fu ih =>
                  intro x126 x127 H locs ls h hR hS hl
                  rw [mX9_gone_L77.eq_2] at h
                  refine lv_iload hx hb dX9_gone_77 (lv_at hl 5 rfl) ?_
                  refine lv_aload_n hx hb dX9_gone_79 rfl (lv_at hl 0 rfl) ?_
                  refine r_get C hR 9 0 28 (v := .int (gI u124 9 0 28)) (lv0 (by decide) (by decide)) (by decide) (by decide) rfl fl_X9_288 dX9_gone_80 ?_
                  refine lv_icmp_ge (tgt := 201) hx hb dX9_gone_83 (by decide) (fun c_130 => ?_) (fun c_130 => ?_)
                  · rw [if_pos c_130] at h
                    exact Kw129 _ _ _ _ h hR hS (lv_sub hl [4] rfl)
                  · rw [if_neg c_130] at h
                    refine lv_aload_n hx hb dX9_gone_86 rfl (lv_at hl 0 rfl) ?_
                    refine r_get C hR 9 0 33 (v := .ref (a 80 0)) (lv0 (by decide) (by decide)) (by decide) (by decide) rfl fl_X9_61 dX9_gone_87 ?_
                    refine lv_iload hx hb dX9_gone_90 (lv_at hl 5 rfl) ?_
                    obtain ⟨k131, hk131, h⟩ := ob h
                    have hLk131 : k131 < cntS 81 := by have q1 := (ck_in hk131).2.2; have q2 : cntS 81 = 15 := rfl; omega
                    refine r_aald C hR 80 0 81 0 6 (lv0 (by decide) (by decide)) (by decide) rfl rfl rfl (fun _ => rfl) rfl hk131 dX9_gone_92 ?_
                    refine lv_astore (lv' := [(6, .ref (a 81 k131)), (0, .ref (a 9 0)), (1, .int x1), (2, .int x2), (3, .int x3), (4, .int x126), (5, .int x127)]) hx hb dX9_gone_93 hl (by decide) rfl (fun ls hl => ?_)
                    refine lv_aload_n hx hb dX9_gone_95 rfl (lv_at hl 1 rfl) ?_
                    refine lv_iload hx hb dX9_gone_96 (lv_at hl 6 rfl) ?_
                    refine lv_iload_n hx hb dX9_gone_98 rfl (lv_at hl 2 rfl) ?_
                    refine lv_iload_n hx hb dX9_gone_99 rfl (lv_at hl 3 rfl) ?_
                    obtain ⟨x133, hc132, h⟩ := ob h
                    refine r_callV1 (As := [.int x127, .int x1, .int x2]) (rest := []) (r := 9) (i := 0) C (vX9_isOf hc132) hR hS (lv0 (by decide) (by decide)) (by decide) ml_X9_381 mw_X9_isOf rfl ⟨Nat.le_of_ble_eq_true rfl, Nat.le_of_ble_eq_true rfl, Nat.le_of_ble_eq_true rfl, Nat.le_of_ble_eq_true rfl⟩ hl.1 rfl (Nat.le_of_ble_eq_true rfl) dX9_gone_100 (fun H locs hR hS => ?_)
                    obtain ⟨x134, hz, h⟩ := ob h
                    have Kj135 : ∀ (H : Heap) (locs : List Loc) (ls : Array Slot), Rel E a u124 H → va_S (AE E) s.heap H locs → lv_has ls 7 [(0, .ref (a 9 0)), (1, .int x1), (2, .int x2), (3, .int x3), (4, .int x134), (5, .int x127)] → W p l e { frames := 2, cells := 0, slots := 0, locals := 43 } s m args below meth c H locs 0 0 (MQ below (QW E a (some (.int out.1)) out.2) args s 0 0 (AE E)) (F0 m 195 ls []) := by
                      intro H locs ls hR hS hl
                      clear hz
                      obtain ⟨x136, ex136⟩ : ∃ z : Int32, z = x127 + 1 := ⟨_, rfl⟩
                      replace h := bd_x ex136 h
                      refine lv_iinc (v := x136) (lv' := [(5, .int x136), (0, .ref (a 9 0)), (1, .int x1), (2, .int x2), (3, .int x3), (4, .int x134)]) hx hb dX9_gone_195 hl (k := 5) rfl (by rw [ex136]; rfl) (by decide) rfl (fun ls hl => ?_)
                      refine lv_goto (tgt := 77) hx hb dX9_gone_198 (by decide) ?_
                      exact ih _ _ _ _ _ h hR hS (lv_sub hl [1, 2, 3, 4, 5, 0] rfl)
                    clear h
                    have h := hz
                    clear hz
                    refine lv_if_eq (tgt := 195) hx hb dX9_gone_103 (by decide) (fun c_137 => ?_) (fun c_137 => ?_)
                    · rw [if_pos c_137] at h
                      cases h
                      exact Kj135 _ _ _ hR hS (lv_sub hl [1, 2, 3, 4, 5, 6] rfl)
                    · rw [if_neg c_137] at h
                      refine lv_aload hx hb dX9_gone_106 (lv_at hl 0 rfl) ?_
                      refine lv_iconst (v := 2) hx hb dX9_gone_108 (by decide) ?_
                      obtain ⟨k138, hk138, h⟩ := ob h
                      refine r_ald C hR 81 k131 (lv0 hLk131 (by decide)) (by decide) rfl (fun _ => rfl) rfl hk138 dX9_gone_109 ?_
                      refine lv_iconst (v := 1) hx hb dX9_gone_110 (by decide) ?_
                      refine lv_icmp_eq (tgt := 195) hx hb dX9_gone_111 (by decide) (fun c_139 => ?_) (fun c_139 => ?_)
                      · rw [if_pos c_139] at h
                        cases h
                        exact Kj135 _ _ _ hR hS (lv_sub hl [1, 2, 3, 4, 5, 6] rfl)
                      · rw [if_neg c_139] at h
                        refine lv_aload hx hb dX9_gone_114 (lv_at hl 0 rfl) ?_
                        refine lv_iconst (v := 3) hx hb dX9_gone_116 (by decide) ?_
                        obtain ⟨k140, hk140, h⟩ := ob h
                        refine r_ald C hR 81 k131 (lv0 hLk131 (by decide)) (by decide) rfl (fun _ => rfl) rfl hk140 dX9_gone_117 ?_
                        refine lv_iconst (v := (-1)) hx hb dX9_gone_118 (by decide) ?_
                        refine lv_icmp_eq (tgt := 195) hx hb dX9_gone_119 (by decide) (fun c_141 => ?_) (fun c_141 => ?_)
                        · rw [if_pos c_141] at h
                          cases h
                          exact Kj135 _ _ _ hR hS (lv_sub hl [1, 2, 3, 4, 5, 6] rfl)
                        · rw [if_neg c_141] at h
                          refine lv_aload hx hb dX9_gone_122 (lv_at hl 0 rfl) ?_
                          refine lv_iconst (v := 4) hx hb dX9_gone_124 (by decide) ?_
                          obtain ⟨k142, hk142, h⟩ := ob h
                          refine r_ald C hR 81 k131 (lv0 hLk131 (by decide)) (by decide) rfl (fun _ => rfl) rfl hk142 dX9_gone_125 ?_
                          refine lv_iconst (v := (-1)) hx hb dX9_gone_126 (by decide) ?_
                          refine lv_icmp_eq (tgt := 195) hx hb dX9_gone_127 (by decide) (fun c_143 => ?_) (fun c_143 => ?_)
                          · rw [if_pos c_143] at h
                            cases h
                            exact Kj135 _ _ _ hR hS (lv_sub hl [1, 2, 3, 4, 5, 6] rfl)
                          · rw [if_neg c_143] at h
                            refine lv_aload hx hb dX9_gone_130 (lv_at hl 0 rfl) ?_
                            refine lv_iconst (v := 5) hx hb dX9_gone_132 (by decide) ?_
                            obtain ⟨k144, hk144, h⟩ := ob h
                            refine r_ald C hR 81 k131 (lv0 hLk131 (by decide)) (by decide) rfl (fun _ => rfl) rfl hk144 dX9_gone_133 ?_
                            refine lv_iconst (v := (-1)) hx hb dX9_gone_134 (by decide) ?_
                            refine lv_icmp_ne (tgt := 141) hx hb dX9_gone_135 (by decide) (fun c_145 => ?_) (fun c_145 => ?_)
                            · rw [if_neg c_145] at h
                              refine lv_iload hx hb dX9_gone_141 (lv_at hl 5 rfl) ?_
                              refine lv_iload_n hx hb dX9_gone_143 rfl (lv_at hl 4 rfl) ?_
                              refine lv_iconst (v := 2) hx hb dX9_gone_144 (by decide) ?_
                              obtain ⟨x146, hz, h⟩ := ob h
                              have Kj147 : ∀ (H : Heap) (locs : List Loc) (ls : Array Slot), Rel E a u124 H → va_S (AE E) s.heap H locs → lv_has ls 7 [(0, .ref (a 9 0)), (1, .int x1), (2, .int x2), (3, .int x3), (5, .int x127)] → W p l e { frames := 2, cells := 0, slots := 0, locals := 43 } s m args below meth c H locs 0 0 (MQ below (QW E a (some (.int out.1)) out.2) args s 0 0 (AE E)) (F0 m 192 ls [.int x146, .int x126]) := by
                                intro H locs ls hR hS hl
                                clear hz
                                refine lv_iadd hx hb dX9_gone_192 ?_
                                refine lv_topi (fun x148 ex148 => ?_)
                                replace h := bd_x ex148 h
                                refine lv_istore (lv' := [(4, .int x148), (0, .ref (a 9 0)), (1, .int x1), (2, .int x2), (3, .int x3), (5, .int x127)]) hx hb dX9_gone_193 hl (by decide) rfl (fun ls hl => ?_)
                                cases h
                                exact Kj135 _ _ _ hR hS (lv_sub hl [1, 2, 3, 4, 0, 5] rfl)
                              clear h
                              have h := hz
                              clear hz
                              refine jp_cut h (fun j149 hj149 h => ?_)
                              have Kj149 : ∀  (H : Heap) (locs : List Loc) (ls : Array Slot), j149 = some x146 → Rel E a u124 H → va_S (AE E) s.heap H locs → lv_has ls 7 [(0, .ref (a 9 0)), (1, .int x1), (2, .int x2), (3, .int x3), (5, .int x127)] → W p l e { frames := 2, cells := 0, slots := 0, locals := 43 } s m args below meth c H locs 0 0 (MQ below (QW E a (some (.int out.1)) out.2) args s 0 0 (AE E)) (F0 m 187 ls [.int x126]) := by
                                intro  H locs ls h hR hS hl
                                replace h := jx0 hj149 h
                                refine lv_iconst (v := 1) hx hb dX9_gone_187 (by decide) ?_
                                refine lv_goto (tgt := 192) hx hb dX9_gone_188 (by decide) ?_
                                cases h
                                exact Kj147 _ _ _ hR hS (lv_sub hl [0, 1, 2, 3, 4] rfl)
                              refine lv_icmp_eq (tgt := 187) hx hb dX9_gone_145 (by decide) (fun c_150 => ?_) (fun c_150 => ?_)
                              · rw [if_pos c_150] at h
                                exact Kj149  _ _ _ h hR hS (lv_sub hl [1, 2, 3, 4, 6] rfl)
                              · rw [if_neg c_150] at h
                                refine lv_iload_n hx hb dX9_gone_148 rfl (lv_at hl 4 rfl) ?_
                                refine jp_cut h (fun j151 hj151 h => ?_)
                                have Kj151 : ∀  (H : Heap) (locs : List Loc) (ls : Array Slot), j151 = some x146 → Rel E a u124 H → va_S (AE E) s.heap H locs → lv_has ls 7 [(0, .ref (a 9 0)), (1, .int x1), (2, .int x2), (3, .int x3), (5, .int x127)] → W p l e { frames := 2, cells := 0, slots := 0, locals := 43 } s m args below meth c H locs 0 0 (MQ below (QW E a (some (.int out.1)) out.2) args s 0 0 (AE E)) (F0 m 191 ls [.int x126]) := by
                                  intro  H locs ls h hR hS hl
                                  replace h := jx0 hj151 h
                                  refine lv_iconst (v := 0) hx hb dX9_gone_191 (by decide) ?_
                                  cases h
                                  exact Kj147 _ _ _ hR hS (lv_sub hl [0, 1, 2, 3, 4] rfl)
                                refine lv_if_ne (tgt := 170) hx hb dX9_gone_149 (by decide) (fun c_152 => ?_) (fun c_152 => ?_)
                                · rw [if_neg c_152] at h
                                  refine lv_aload hx hb dX9_gone_170 (lv_at hl 0 rfl) ?_
                                  refine lv_iconst (v := 3) hx hb dX9_gone_172 (by decide) ?_
                                  obtain ⟨k153, hk153, h⟩ := ob h
                                  refine r_ald C hR 81 k131 (lv0 hLk131 (by decide)) (by decide) rfl (fun _ => rfl) rfl hk153 dX9_gone_173 ?_
                                  refine lv_aload hx hb dX9_gone_174 (lv_at hl 0 rfl) ?_
                                  refine lv_iconst (v := 4) hx hb dX9_gone_176 (by decide) ?_
                                  obtain ⟨k154, hk154, h⟩ := ob h
                                  refine r_ald C hR 81 k131 (lv0 hLk131 (by decide)) (by decide) rfl (fun _ => rfl) rfl hk154 dX9_gone_177 ?_
                                  refine lv_iadd hx hb dX9_gone_178 ?_
                                  refine lv_aload hx hb dX9_gone_179 (lv_at hl 0 rfl) ?_
                                  refine lv_iconst (v := 5) hx hb dX9_gone_181 (by decide) ?_
                                  obtain ⟨k155, hk155, h⟩ := ob h
                                  refine r_ald C hR 81 k131 (lv0 hLk131 (by decide)) (by decide) rfl (fun _ => rfl) rfl hk155 dX9_gone_182 ?_
                                  refine lv_iadd hx hb dX9_gone_183 ?_
                                  refine lv_if_ne (tgt := 191) hx hb dX9_gone_184 (by decide) (fun c_156 => ?_) (fun c_156 => ?_)
                                  · rw [if_neg c_156] at h
                                    exact Kj151  _ _ _ h hR hS (lv_sub hl [1, 2, 3, 4, 6] rfl)
                                  · rw [if_pos c_156] at h
                                    exact Kj149  _ _ _ h hR hS (lv_sub hl [1, 2, 3, 4, 6] rfl)
                                · rw [if_pos c_152] at h
                                  refine lv_aload hx hb dX9_gone_152 (lv_at hl 0 rfl) ?_
                                  refine lv_iconst (v := 3) hx hb dX9_gone_154 (by decide) ?_
                                  obtain ⟨k157, hk157, h⟩ := ob h
                                  refine r_ald C hR 81 k131 (lv0 hLk131 (by decide)) (by decide) rfl (fun _ => rfl) rfl hk157 dX9_gone_155 ?_
                                  refine lv_if_ne (tgt := 191) hx hb dX9_gone_156 (by decide) (fun c_158 => ?_) (fun c_158 => ?_)
                                  · rw [if_neg c_158] at h
                                    exact Kj151  _ _ _ h hR hS (lv_sub hl [1, 2, 3, 4, 6] rfl)
                                  · rw [if_pos c_158] at h
                                    refine lv_aload hx hb dX9_gone_159 (lv_at hl 0 rfl) ?_
                                    refine lv_iconst (v := 5) hx hb dX9_gone_161 (by decide) ?_
                                    obtain ⟨k159, hk159, h⟩ := ob h
                                    refine r_ald C hR 81 k131 (lv0 hLk131 (by decide)) (by decide) rfl (fun _ => rfl) rfl hk159 dX9_gone_162 ?_
                                    refine lv_iconst (v := 1) hx hb dX9_gone_163 (by decide) ?_
                                    refine lv_icmp_ne (tgt := 191) hx hb dX9_gone_164 (by decide) (fun c_160 => ?_) (fun c_160 => ?_)
                                    · rw [if_neg c_160] at h
                                      exact Kj151  _ _ _ h hR hS (lv_sub hl [1, 2, 3, 4, 6] rfl)
                                    · rw [if_pos c_160] at h
                                      refine lv_goto (tgt := 187) hx hb dX9_gone_167 (by decide) ?_
                                      exact Kj149  _ _ _ h hR hS (lv_sub hl [1, 2, 3, 4, 6] rfl)
                            · rw [if_pos c_145] at h
                              refine lv_goto (tgt := 195) hx hb dX9_gone_138 (by decide) ?_
                              cases h
                              exact Kj135 _ _ _ hR hS (lv_sub hl [1, 2, 3, 4, 5, 6] rfl)
              exact LP FU _ _ _ _ _ h hR hS (lv_sub hl [2, 3, 4, 5, 1, 0] rfl)
            · rw [if_neg c_125] at h
              refine lv_iconst (v := 0) hx hb dX9_gone_69 (by decide) ?_
              cases h
              exact e_iret C hr hR hS (Nat.le_of_ble_eq_true rfl) (Nat.le_of_ble_eq_true rfl) dX9_gone_70
          clear h
          have h := hz
          clear hz
          refine lv_if_ne (tgt := 61) hx hb dX9_gone_54 (by decide) (fun c_161 => ?_) (fun c_161 => ?_)
          · rw [if_neg c_161] at h
            refine lv_iconst (v := 0) hx hb dX9_gone_61 (by decide) ?_
            cases h
            exact Kj121 _ _ _ hR hS (lv_sub hl [0, 1, 2, 3] rfl)
          · rw [if_pos c_161] at h
            refine lv_iconst (v := 1) hx hb dX9_gone_57 (by decide) ?_
            refine lv_goto (tgt := 62) hx hb dX9_gone_58 (by decide) ?_
            cases h
            exact Kj121 _ _ _ hR hS (lv_sub hl [0, 1, 2, 3] rfl)
      clear h
      have h := hz
      clear hz
      refine lv_if_ne (tgt := 39) hx hb dX9_gone_32 (by decide) (fun c_162 => ?_) (fun c_162 => ?_)
      · rw [if_neg c_162] at h
        refine lv_iconst (v := 0) hx hb dX9_gone_39 (by decide) ?_
        cases h
        exact Kj113 _ _ _ hR hS (lv_sub hl [0, 1, 2, 3] rfl)
      · rw [if_pos c_162] at h
        refine lv_iconst (v := 1) hx hb dX9_gone_35 (by decide) ?_
        refine lv_goto (tgt := 40) hx hb dX9_gone_36 (by decide) ?_
        cases h
        exact Kj113 _ _ _ hR hS (lv_sub hl [0, 1, 2, 3] rfl)
  clear h
  have h := hz
  clear hz
  refine lv_if_ne (tgt := 18) hx hb dX9_gone_11 (by decide) (fun c_163 => ?_) (fun c_163 => ?_)
  · rw [if_neg c_163] at h
    refine lv_iconst (v := 0) hx hb dX9_gone_18 (by decide) ?_
    cases h
    exact Kj105 _ _ _ hR hS (lv_sub hl [0, 1, 2, 3] rfl)
  · rw [if_pos c_163] at h
    refine lv_iconst (v := 1) hx hb dX9_gone_14 (by decide) ?_
    refine lv_goto (tgt := 19) hx hb dX9_gone_15 (by decide) ?_
    cases h
    exact Kj105 _ _ _ hR hS (lv_sub hl [0, 1, 2, 3] rfl)
set_option maxHeartbeats 4000000 in
set_option maxRecDepth 100000 in
theorem vX9_lostOf {l : Launch} {E : EV} {a : Nat → Nat → Nat} {u0 : HS} {x1 : Int32} {out : Int32} (h : mX9_lostOf u0 x1 = some out) : Ct l E yX9_lostOf cX9_lostOf 3 (some .int) 3 72 0 0 a u0 [.ref (a 9 0), .int x1] (some (.int out)) u0 := by
  refine Ct.start (by decide) (Nat.le_of_ble_eq_true rfl) ?_
  intro p e s m args below meth c ls C hr hR hS hl
  have C : Cx E p s m args meth c cX9_lostOf 3 RX9 := C
  have hl : lv_has ls 3 [(0, .ref (a 9 0)), (1, .int x1)] := hl
  have hx := C.1
  have hb := C.2.1
  unfold mX9_lostOf at h
  refine lv_aload_n hx hb dX9_lostOf_0 rfl (lv_at hl 0 rfl) ?_
  refine r_get C hR 9 0 33 (v := .ref (a 80 0)) (lv0 (by decide) (by decide)) (by decide) (by decide) rfl fl_X9_61 dX9_lostOf_1 ?_
  refine lv_iload_n hx hb dX9_lostOf_4 rfl (lv_at hl 1 rfl) ?_
  obtain ⟨k101, hk101, h⟩ := ob h
  have hLk101 : k101 < cntS 81 := by have q1 := (ck_in hk101).2.2; have q2 : cntS 81 = 15 := rfl; omega
  refine r_aald C hR 80 0 81 0 6 (lv0 (by decide) (by decide)) (by decide) rfl rfl rfl (fun _ => rfl) rfl hk101 dX9_lostOf_5 ?_
  refine lv_astore_n (lv' := [(2, .ref (a 81 k101)), (0, .ref (a 9 0)), (1, .int x1)]) hx hb dX9_lostOf_6 rfl hl (by decide) rfl (fun ls hl => ?_)
  refine lv_aload_n hx hb dX9_lostOf_7 rfl (lv_at hl 0 rfl) ?_
  refine lv_bipush (v := 6) hx hb dX9_lostOf_8 (by decide) ?_
  obtain ⟨k102, hk102, h⟩ := ob h
  refine r_ald C hR 81 k101 (lv0 hLk101 (by decide)) (by decide) rfl (fun _ => rfl) rfl hk102 dX9_lostOf_10 ?_
  refine lv_iconst (v := (-1)) hx hb dX9_lostOf_11 (by decide) ?_
  refine lv_icmp_eq (tgt := 29) hx hb dX9_lostOf_12 (by decide) (fun c_103 => ?_) (fun c_103 => ?_)
  · rw [if_pos c_103] at h
    refine lv_iconst (v := (-1)) hx hb dX9_lostOf_29 (by decide) ?_
    refine lv_goto (tgt := 51) hx hb dX9_lostOf_30 (by decide) ?_
    cases h
    exact e_iret C hr hR hS (Nat.le_of_ble_eq_true rfl) (Nat.le_of_ble_eq_true rfl) dX9_lostOf_51
  · rw [if_neg c_103] at h
    refine lv_aload_n hx hb dX9_lostOf_15 rfl (lv_at hl 1 rfl) ?_
    refine r_get C hR 9 0 21 (v := .ref (a 70 0)) (lv0 (by decide) (by decide)) (by decide) (by decide) rfl fl_X9_37 dX9_lostOf_16 ?_
    refine lv_aload_n hx hb dX9_lostOf_19 rfl (lv_at hl 0 rfl) ?_
    refine lv_iconst (v := 1) hx hb dX9_lostOf_20 (by decide) ?_
    obtain ⟨k104, hk104, h⟩ := ob h
    refine r_ald C hR 81 k101 (lv0 hLk101 (by decide)) (by decide) rfl (fun _ => rfl) rfl hk104 dX9_lostOf_21 ?_
    obtain ⟨k105, hk105, h⟩ := ob h
    have hLk105 : k105 < cntS 71 := by have q1 := (ck_in hk105).2.2; have q2 : cntS 71 = 6 := rfl; omega
    refine r_aald C hR 70 0 71 0 6 (lv0 (by decide) (by decide)) (by decide) rfl rfl rfl (fun _ => rfl) rfl hk105 dX9_lostOf_22 ?_
    refine lv_iconst (v := 2) hx hb dX9_lostOf_23 (by decide) ?_
    obtain ⟨k106, hk106, h⟩ := ob h
    refine r_ald C hR 71 k105 (lv0 hLk105 (by decide)) (by decide) rfl (fun _ => rfl) rfl hk106 dX9_lostOf_24 ?_
    refine lv_iconst (v := (-1)) hx hb dX9_lostOf_25 (by decide) ?_
    refine lv_icmp_ne (tgt := 33) hx hb dX9_lostOf_26 (by decide) (fun c_107 => ?_) (fun c_107 => ?_)
    · rw [if_neg c_107] at h
      refine lv_aload_n hx hb dX9_lostOf_33 rfl (lv_at hl 1 rfl) ?_
      refine lv_aload_n hx hb dX9_lostOf_34 rfl (lv_at hl 0 rfl) ?_
      refine lv_iconst (v := 0) hx hb dX9_lostOf_35 (by decide) ?_
      obtain ⟨k108, hk108, h⟩ := ob h
      refine r_ald C hR 81 k101 (lv0 hLk101 (by decide)) (by decide) rfl (fun _ => rfl) rfl hk108 dX9_lostOf_36 ?_
      refine lv_aload_n hx hb dX9_lostOf_37 rfl (lv_at hl 0 rfl) ?_
      refine lv_iconst (v := 1) hx hb dX9_lostOf_38 (by decide) ?_
      obtain ⟨k109, hk109, h⟩ := ob h
      refine r_ald C hR 81 k101 (lv0 hLk101 (by decide)) (by decide) rfl (fun _ => rfl) rfl hk109 dX9_lostOf_39 ?_
      obtain ⟨x111, hc110, h⟩ := ob h
      refine r_callV1 (As := [.int (gI u0 81 k101 k108), .int (gI u0 81 k101 k109)]) (rest := []) (r := 9) (i := 0) C (vX9_throwsBy hc110) hR hS (lv0 (by decide) (by decide)) (by decide) ml_X9_285 mw_X9_throwsBy rfl ⟨Nat.le_of_ble_eq_true rfl, Nat.le_of_ble_eq_true rfl, Nat.le_of_ble_eq_true rfl, Nat.le_of_ble_eq_true rfl⟩ hl.1 rfl (Nat.le_of_ble_eq_true rfl) dX9_lostOf_40 (fun H locs hR hS => ?_)
      refine lv_aload_n hx hb dX9_lostOf_43 rfl (lv_at hl 0 rfl) ?_
      refine lv_bipush (v := 6) hx hb dX9_lostOf_44 (by decide) ?_
      obtain ⟨k112, hk112, h⟩ := ob h
      refine r_ald C hR 81 k101 (lv0 hLk101 (by decide)) (by decide) rfl (fun _ => rfl) rfl hk112 dX9_lostOf_46 ?_
      refine lv_isub hx hb dX9_lostOf_47 ?_
      obtain ⟨x114, hc113, h⟩ := ob h
      refine r_callS1 (As := [.int (x111 - (gI u0 81 k101 k112))]) (rest := []) C (vX9_amount hc113) hR hS ml_X9_248 ms_X9_amount rfl ⟨Nat.le_of_ble_eq_true rfl, Nat.le_of_ble_eq_true rfl, Nat.le_of_ble_eq_true rfl, Nat.le_of_ble_eq_true rfl⟩ hl.1 rfl (Nat.le_of_ble_eq_true rfl) dX9_lostOf_48 (fun H locs hR hS => ?_)
      cases h
      exact e_iret C hr hR hS (Nat.le_of_ble_eq_true rfl) (Nat.le_of_ble_eq_true rfl) dX9_lostOf_51
    · rw [if_pos c_107] at h
      refine lv_iconst (v := (-1)) hx hb dX9_lostOf_29 (by decide) ?_
      refine lv_goto (tgt := 51) hx hb dX9_lostOf_30 (by decide) ?_
      cases h
      exact e_iret C hr hR hS (Nat.le_of_ble_eq_true rfl) (Nat.le_of_ble_eq_true rfl) dX9_lostOf_51
set_option maxHeartbeats 4000000 in
set_option maxRecDepth 100000 in
theorem vX9_lost {l : Launch} {E : EV} {a : Nat → Nat → Nat} {u0 : HS} {x1 : Int32} {out : (Int32 × HS)} (h : mX9_lost u0 x1 = some out) : Ct l E yX9_lost cX9_lost 2 (some .int) 4 94 0 0 a u0 [.ref (a 9 0), .int x1] (some (.int out.1)) out.2 := by
  refine Ct.start (by decide) (Nat.le_of_ble_eq_true rfl) ?_
  intro p e s m args below meth c ls C hr hR hS hl
  have C : Cx E p s m args meth c cX9_lost 2 RX9 := C
  have hl : lv_has ls 2 [(0, .ref (a 9 0)), (1, .int x1)] := hl
  have hx := C.1
  have hb := C.2.1
  unfold mX9_lost at h
  refine lv_aload_n hx hb dX9_lost_0 rfl (lv_at hl 0 rfl) ?_
  refine lv_iconst (v := 0) hx hb dX9_lost_1 (by decide) ?_
  refine r_putI (ty := .int) C hR hS 9 0 0 (lv0 (by decide) (by decide)) (by decide) (by decide) (fun _ => rfl) fl_X9_76 (by decide) (by decide +kernel) rfl rfl dX9_lost_2 (fun H locs hR hS => ?_)
  obtain ⟨u101, eu101⟩ : ∃ z : HS, z = wI u0 9 0 0 0 := ⟨_, rfl⟩
  rw [← eu101] at hR
  replace h := bd_x eu101 h
  clear eu101
  refine lv_aload_n hx hb dX9_lost_5 rfl (lv_at hl 0 rfl) ?_
  refine lv_aload_n hx hb dX9_lost_6 rfl (lv_at hl 0 rfl) ?_
  refine lv_iload_n hx hb dX9_lost_7 rfl (lv_at hl 1 rfl) ?_
  obtain ⟨x103, hc102, h⟩ := ob h
  refine r_callV1 (As := [.int x1]) (rest := [.ref (a 9 0)]) (r := 9) (i := 0) C (vX9_isLooker hc102) hR hS (lv0 (by decide) (by decide)) (by decide) ml_X9_295 mw_X9_isLooker rfl ⟨Nat.le_of_ble_eq_true rfl, Nat.le_of_ble_eq_true rfl, Nat.le_of_ble_eq_true rfl, Nat.le_of_ble_eq_true rfl⟩ hl.1 rfl (Nat.le_of_ble_eq_true rfl) dX9_lost_8 (fun H locs hR hS => ?_)
  obtain ⟨x104, hz, h⟩ := ob h
  have Kj105 : ∀ (H : Heap) (locs : List Loc) (ls : Array Slot), Rel E a u101 H → va_S (AE E) s.heap H locs → lv_has ls 2 [(0, .ref (a 9 0)), (1, .int x1)] → W p l e { frames := 4, cells := 0, slots := 0, locals := 94 } s m args below meth c H locs 0 0 (MQ below (QW E a (some (.int out.1)) out.2) args s 0 0 (AE E)) (F0 m 19 ls [.int x104, .ref (a 9 0)]) := by
    intro H locs ls hR hS hl
    clear hz
    refine lv_iconst (v := 1) hx hb dX9_lost_19 (by decide) ?_
    obtain ⟨⟨x107, u108⟩, hc106, h⟩ := ob h
    replace h := bd_x (x := x107) rfl h
    replace h := bd_x (x := u108) rfl h
    refine r_callV1 (As := [.int x104, .int 1]) (rest := []) (r := 9) (i := 0) C (vX9_bad hc106) hR hS (lv0 (by decide) (by decide)) (by decide) ml_X9_162 mw_X9_bad rfl ⟨Nat.le_of_ble_eq_true rfl, Nat.le_of_ble_eq_true rfl, Nat.le_of_ble_eq_true rfl, Nat.le_of_ble_eq_true rfl⟩ hl.1 rfl (Nat.le_of_ble_eq_true rfl) dX9_lost_20 (fun H locs hR hS => ?_)
    refine lv_if_eq (tgt := 28) hx hb dX9_lost_23 (by decide) (fun c_109 => ?_) (fun c_109 => ?_)
    · rw [if_pos c_109] at h
      refine lv_aload_n hx hb dX9_lost_28 rfl (lv_at hl 0 rfl) ?_
      refine lv_iload_n hx hb dX9_lost_29 rfl (lv_at hl 1 rfl) ?_
      obtain ⟨x111, hc110, h⟩ := ob h
      refine r_callV1 (As := [.int x1]) (rest := []) (r := 9) (i := 0) C (vX9_lostOf hc110) hR hS (lv0 (by decide) (by decide)) (by decide) ml_X9_400 mw_X9_lostOf rfl ⟨Nat.le_of_ble_eq_true rfl, Nat.le_of_ble_eq_true rfl, Nat.le_of_ble_eq_true rfl, Nat.le_of_ble_eq_true rfl⟩ hl.1 rfl (Nat.le_of_ble_eq_true rfl) dX9_lost_30 (fun H locs hR hS => ?_)
      cases h
      exact e_iret C hr hR hS (Nat.le_of_ble_eq_true rfl) (Nat.le_of_ble_eq_true rfl) dX9_lost_33
    · rw [if_neg c_109] at h
      refine lv_iconst (v := 0) hx hb dX9_lost_26 (by decide) ?_
      cases h
      exact e_iret C hr hR hS (Nat.le_of_ble_eq_true rfl) (Nat.le_of_ble_eq_true rfl) dX9_lost_27
  clear h
  have h := hz
  clear hz
  refine lv_if_ne (tgt := 18) hx hb dX9_lost_11 (by decide) (fun c_112 => ?_) (fun c_112 => ?_)
  · rw [if_neg c_112] at h
    refine lv_iconst (v := 0) hx hb dX9_lost_18 (by decide) ?_
    cases h
    exact Kj105 _ _ _ hR hS (lv_sub hl [0, 1] rfl)
  · rw [if_pos c_112] at h
    refine lv_iconst (v := 1) hx hb dX9_lost_14 (by decide) ?_
    refine lv_goto (tgt := 19) hx hb dX9_lost_15 (by decide) ?_
    cases h
    exact Kj105 _ _ _ hR hS (lv_sub hl [0, 1] rfl)
set_option maxHeartbeats 4000000 in
set_option maxRecDepth 100000 in
theorem vX9_lostBy {l : Launch} {E : EV} {a : Nat → Nat → Nat} {u0 : HS} {x1 : Int32} {x2 : Int32} {x3 : Int32} {out : Int32} (h : mX9_lostBy u0 x1 x2 x3 = some out) : Ct l E yX9_lostBy cX9_lostBy 6 (some .int) 4 94 0 0 a u0 [.ref (a 9 0), .int x1, .int x2, .int x3] (some (.int out)) u0 := by
  refine Ct.start (by decide) (Nat.le_of_ble_eq_true rfl) ?_
  intro p e s m args below meth c ls C hr hR hS hl
  have C : Cx E p s m args meth c cX9_lostBy 6 RX9 := C
  have hl : lv_has ls 6 [(0, .ref (a 9 0)), (1, .int x1), (2, .int x2), (3, .int x3)] := hl
  have hx := C.1
  have hb := C.2.1
  unfold mX9_lostBy at h
  refine lv_iconst (v := 0) hx hb dX9_lostBy_0 (by decide) ?_
  refine lv_istore (lv' := [(4, .int 0), (0, .ref (a 9 0)), (1, .int x1), (2, .int x2), (3, .int x3)]) hx hb dX9_lostBy_1 hl (by decide) rfl (fun ls hl => ?_)
  refine lv_iconst (v := 0) hx hb dX9_lostBy_3 (by decide) ?_
  refine lv_istore (lv' := [(5, .int 0), (4, .int 0), (0, .ref (a 9 0)), (1, .int x1), (2, .int x2), (3, .int x3)]) hx hb dX9_lostBy_4 hl (by decide) rfl (fun ls hl => ?_)
  refine jp_cut h (fun w104 hw104 h => ?_)
  have Kw104 : ∀ (x103 : Int32) (H : Heap) (locs : List Loc) (ls : Array Slot), w104 x103 = some out → Rel E a u0 H → va_S (AE E) s.heap H locs → lv_has ls 6 [(4, .int x103)] → W p l e { frames := 4, cells := 0, slots := 0, locals := 94 } s m args below meth c H locs 0 0 (MQ below (QW E a (some (.int out)) u0) args s 0 0 (AE E)) (F0 m 61 ls []) := by
    intro x103 H locs ls h hR hS hl
    replace h := jx1 hw104 h
    refine lv_iload hx hb dX9_lostBy_61 (lv_at hl 0 rfl) ?_
    cases h
    exact e_iret C hr hR hS (Nat.le_of_ble_eq_true rfl) (Nat.le_of_ble_eq_true rfl) dX9_lostBy_63
  have LP : ∀ (fu : Nat) (x101 : Int32) (x102 : Int32) (H : Heap) (locs : List Loc) (ls : Array Slot), mX9_lostBy_L6 u0 x1 x2 x3 w104 fu x101 x102 = some out → Rel E a u0 H → va_S (AE E) s.heap H locs → lv_has ls 6 [(0, .ref (a 9 0)), (1, .int x1), (2, .int x2), (3, .int x3), (4, .int x101), (5, .int x102)] → W p l e { frames := 4, cells := 0, slots := 0, locals := 94 } s m args below meth c H locs 0 0 (MQ below (QW E a (some (.int out)) u0) args s 0 0 (AE E)) (F0 m 6 ls []) := by
    intro fu
    induction fu with
    | zero =>
      intro x101 x102 H locs ls h
      have h2 : (none : Option Int32) = some out := h
      cases h2
    | succ fu ih =>
      intro x101 x102 H locs ls h hR hS hl
      rw [mX9_lostBy_L6.eq_2] at h
      refine lv_iload hx hb dX9_lostBy_6 (lv_at hl 5 rfl) ?_
      refine lv_aload_n hx hb dX9_lostBy_8 rfl (lv_at hl 0 rfl) ?_
      refine r_get C hR 9 0 28 (v := .int (gI u0 9 0 28)) (lv0 (by decide) (by decide)) (by decide) (by decide) rfl fl_X9_288 dX9_lostBy_9 ?_
      refine lv_icmp_ge (tgt := 61) hx hb dX9_lostBy_12 (by decide) (fun c_105 => ?_) (fun c_105 => ?_)
      · rw [if_pos c_105] at h
        exact Kw104 _ _ _ _ h hR hS (lv_sub hl [4] rfl)
      · rw [if_neg c_105] at h
        refine lv_aload_n hx hb dX9_lostBy_15 rfl (lv_at hl 0 rfl) ?_
        refine lv_iload hx hb dX9_lostBy_16 (lv_at hl 5 rfl) ?_
        refine lv_iload_n hx hb dX9_lostBy_18 rfl (lv_at hl 1 rfl) ?_
        refine lv_iload_n hx hb dX9_lostBy_19 rfl (lv_at hl 2 rfl) ?_
        obtain ⟨x107, hc106, h⟩ := ob h
        refine r_callV1 (As := [.int x102, .int x1, .int x2]) (rest := []) (r := 9) (i := 0) C (vX9_isOf hc106) hR hS (lv0 (by decide) (by decide)) (by decide) ml_X9_381 mw_X9_isOf rfl ⟨Nat.le_of_ble_eq_true rfl, Nat.le_of_ble_eq_true rfl, Nat.le_of_ble_eq_true rfl, Nat.le_of_ble_eq_true rfl⟩ hl.1 rfl (Nat.le_of_ble_eq_true rfl) dX9_lostBy_20 (fun H locs hR hS => ?_)
        obtain ⟨x108, hz, h⟩ := ob h
        have Kj109 : ∀ (H : Heap) (locs : List Loc) (ls : Array Slot), Rel E a u0 H → va_S (AE E) s.heap H locs → lv_has ls 6 [(0, .ref (a 9 0)), (1, .int x1), (2, .int x2), (3, .int x3), (4, .int x108), (5, .int x102)] → W p l e { frames := 4, cells := 0, slots := 0, locals := 94 } s m args below meth c H locs 0 0 (MQ below (QW E a (some (.int out)) u0) args s 0 0 (AE E)) (F0 m 55 ls []) := by
          intro H locs ls hR hS hl
          clear hz
          obtain ⟨x110, ex110⟩ : ∃ z : Int32, z = x102 + 1 := ⟨_, rfl⟩
          replace h := bd_x ex110 h
          refine lv_iinc (v := x110) (lv' := [(5, .int x110), (0, .ref (a 9 0)), (1, .int x1), (2, .int x2), (3, .int x3), (4, .int x108)]) hx hb dX9_lostBy_55 hl (k := 5) rfl (by rw [ex110]; rfl) (by decide) rfl (fun ls hl => ?_)
          refine lv_goto (tgt := 6) hx hb dX9_lostBy_58 (by decide) ?_
          exact ih _ _ _ _ _ h hR hS (lv_sub hl [1, 2, 3, 4, 5, 0] rfl)
        clear h
        have h := hz
        clear hz
        refine lv_if_eq (tgt := 55) hx hb dX9_lostBy_23 (by decide) (fun c_111 => ?_) (fun c_111 => ?_)
        · rw [if_pos c_111] at h
          cases h
          exact Kj109 _ _ _ hR hS (lv_sub hl [0, 1, 2, 3, 4, 5] rfl)
        · rw [if_neg c_111] at h
          refine lv_aload_n hx hb dX9_lostBy_26 rfl (lv_at hl 0 rfl) ?_
          refine lv_iload hx hb dX9_lostBy_27 (lv_at hl 5 rfl) ?_
          obtain ⟨x113, hc112, h⟩ := ob h
          refine r_callV1 (As := [.int x102]) (rest := []) (r := 9) (i := 0) C (vX9_lostOf hc112) hR hS (lv0 (by decide) (by decide)) (by decide) ml_X9_400 mw_X9_lostOf rfl ⟨Nat.le_of_ble_eq_true rfl, Nat.le_of_ble_eq_true rfl, Nat.le_of_ble_eq_true rfl, Nat.le_of_ble_eq_true rfl⟩ hl.1 rfl (Nat.le_of_ble_eq_true rfl) dX9_lostBy_29 (fun H locs hR hS => ?_)
          refine lv_iconst (v := (-1)) hx hb dX9_lostBy_32 (by decide) ?_
          refine lv_icmp_eq (tgt := 55) hx hb dX9_lostBy_33 (by decide) (fun c_114 => ?_) (fun c_114 => ?_)
          · rw [if_pos c_114] at h
            cases h
            exact Kj109 _ _ _ hR hS (lv_sub hl [0, 1, 2, 3, 4, 5] rfl)
          · rw [if_neg c_114] at h
            refine lv_iload hx hb dX9_lostBy_36 (lv_at hl 4 rfl) ?_
            refine lv_iload_n hx hb dX9_lostBy_38 rfl (lv_at hl 3 rfl) ?_
            obtain ⟨x115, hz, h⟩ := ob h
            have Kj116 : ∀ (H : Heap) (locs : List Loc) (ls : Array Slot), Rel E a u0 H → va_S (AE E) s.heap H locs → lv_has ls 6 [(0, .ref (a 9 0)), (1, .int x1), (2, .int x2), (3, .int x3), (5, .int x102)] → W p l e { frames := 4, cells := 0, slots := 0, locals := 94 } s m args below meth c H locs 0 0 (MQ below (QW E a (some (.int out)) u0) args s 0 0 (AE E)) (F0 m 52 ls [.int x115, .int x101]) := by
              intro H locs ls hR hS hl
              clear hz
              refine lv_iadd hx hb dX9_lostBy_52 ?_
              refine lv_topi (fun x117 ex117 => ?_)
              replace h := bd_x ex117 h
              refine lv_istore (lv' := [(4, .int x117), (0, .ref (a 9 0)), (1, .int x1), (2, .int x2), (3, .int x3), (5, .int x102)]) hx hb dX9_lostBy_53 hl (by decide) rfl (fun ls hl => ?_)
              cases h
              exact Kj109 _ _ _ hR hS (lv_sub hl [1, 2, 3, 4, 0, 5] rfl)
            clear h
            have h := hz
            clear hz
            refine lv_if_eq (tgt := 46) hx hb dX9_lostBy_39 (by decide) (fun c_118 => ?_) (fun c_118 => ?_)
            · rw [if_pos c_118] at h
              refine lv_aload_n hx hb dX9_lostBy_46 rfl (lv_at hl 0 rfl) ?_
              refine lv_iload hx hb dX9_lostBy_47 (lv_at hl 5 rfl) ?_
              obtain ⟨x120, hc119, h⟩ := ob h
              refine r_callV1 (As := [.int x102]) (rest := [.int x101]) (r := 9) (i := 0) C (vX9_lostOf hc119) hR hS (lv0 (by decide) (by decide)) (by decide) ml_X9_400 mw_X9_lostOf rfl ⟨Nat.le_of_ble_eq_true rfl, Nat.le_of_ble_eq_true rfl, Nat.le_of_ble_eq_true rfl, Nat.le_of_ble_eq_true rfl⟩ hl.1 rfl (Nat.le_of_ble_eq_true rfl) dX9_lostBy_49 (fun H locs hR hS => ?_)
              cases h
              exact Kj116 _ _ _ hR hS (lv_sub hl [0, 1, 2, 3, 5] rfl)
            · rw [if_neg c_118] at h
              refine lv_iconst (v := 1) hx hb dX9_lostBy_42 (by decide) ?_
              refine lv_goto (tgt := 52) hx hb dX9_lostBy_43 (by decide) ?_
              cases h
              exact Kj116 _ _ _ hR hS (lv_sub hl [0, 1, 2, 3, 5] rfl)
  exact LP FU _ _ _ _ _ h hR hS (lv_sub hl [2, 3, 4, 5, 1, 0] rfl)
set_option maxHeartbeats 4000000 in
set_option maxRecDepth 100000 in
theorem vX9_cost {l : Launch} {E : EV} {a : Nat → Nat → Nat} {u0 : HS} {x1 : Int32} {x2 : Int32} {x3 : Int32} {out : (Int32 × HS)} (h : mX9_cost u0 x1 x2 x3 = some out) : Ct l E yX9_cost cX9_cost 4 (some .int) 5 119 0 0 a u0 [.ref (a 9 0), .int x1, .int x2, .int x3] (some (.int out.1)) out.2 := by
  refine Ct.start (by decide) (Nat.le_of_ble_eq_true rfl) ?_
  intro p e s m args below meth c ls C hr hR hS hl
  have C : Cx E p s m args meth c cX9_cost 4 RX9 := C
  have hl : lv_has ls 4 [(0, .ref (a 9 0)), (1, .int x1), (2, .int x2), (3, .int x3)] := hl
  have hx := C.1
  have hb := C.2.1
  unfold mX9_cost at h
  refine lv_aload_n hx hb dX9_cost_0 rfl (lv_at hl 0 rfl) ?_
  refine lv_iconst (v := 0) hx hb dX9_cost_1 (by decide) ?_
  refine r_putI (ty := .int) C hR hS 9 0 0 (lv0 (by decide) (by decide)) (by decide) (by decide) (fun _ => rfl) fl_X9_76 (by decide) (by decide +kernel) rfl rfl dX9_cost_2 (fun H locs hR hS => ?_)
  obtain ⟨u101, eu101⟩ : ∃ z : HS, z = wI u0 9 0 0 0 := ⟨_, rfl⟩
  rw [← eu101] at hR
  replace h := bd_x eu101 h
  clear eu101
  refine lv_aload_n hx hb dX9_cost_5 rfl (lv_at hl 0 rfl) ?_
  refine lv_aload_n hx hb dX9_cost_6 rfl (lv_at hl 0 rfl) ?_
  refine lv_iload_n hx hb dX9_cost_7 rfl (lv_at hl 1 rfl) ?_
  obtain ⟨x103, hc102, h⟩ := ob h
  refine r_callV1 (As := [.int x1]) (rest := [.ref (a 9 0)]) (r := 9) (i := 0) C (vX9_isScene hc102) hR hS (lv0 (by decide) (by decide)) (by decide) ml_X9_254 mw_X9_isScene rfl ⟨Nat.le_of_ble_eq_true rfl, Nat.le_of_ble_eq_true rfl, Nat.le_of_ble_eq_true rfl, Nat.le_of_ble_eq_true rfl⟩ hl.1 rfl (Nat.le_of_ble_eq_true rfl) dX9_cost_8 (fun H locs hR hS => ?_)
  obtain ⟨x104, hz, h⟩ := ob h
  have Kj105 : ∀ (H : Heap) (locs : List Loc) (ls : Array Slot), Rel E a u101 H → va_S (AE E) s.heap H locs → lv_has ls 4 [(0, .ref (a 9 0)), (1, .int x1), (2, .int x2), (3, .int x3)] → W p l e { frames := 5, cells := 0, slots := 0, locals := 119 } s m args below meth c H locs 0 0 (MQ below (QW E a (some (.int out.1)) out.2) args s 0 0 (AE E)) (F0 m 19 ls [.int x104, .ref (a 9 0)]) := by
    intro H locs ls hR hS hl
    clear hz
    refine lv_iconst (v := 1) hx hb dX9_cost_19 (by decide) ?_
    obtain ⟨⟨x107, u108⟩, hc106, h⟩ := ob h
    replace h := bd_x (x := x107) rfl h
    replace h := bd_x (x := u108) rfl h
    refine r_callV1 (As := [.int x104, .int 1]) (rest := []) (r := 9) (i := 0) C (vX9_bad hc106) hR hS (lv0 (by decide) (by decide)) (by decide) ml_X9_162 mw_X9_bad rfl ⟨Nat.le_of_ble_eq_true rfl, Nat.le_of_ble_eq_true rfl, Nat.le_of_ble_eq_true rfl, Nat.le_of_ble_eq_true rfl⟩ hl.1 rfl (Nat.le_of_ble_eq_true rfl) dX9_cost_20 (fun H locs hR hS => ?_)
    refine lv_if_ne (tgt := 55) hx hb dX9_cost_23 (by decide) (fun c_109 => ?_) (fun c_109 => ?_)
    · rw [if_neg c_109] at h
      refine lv_iconst (v := 0) hx hb dX9_cost_55 (by decide) ?_
      cases h
      exact e_iret C hr hR hS (Nat.le_of_ble_eq_true rfl) (Nat.le_of_ble_eq_true rfl) dX9_cost_56
    · rw [if_pos c_109] at h
      refine lv_aload_n hx hb dX9_cost_26 rfl (lv_at hl 0 rfl) ?_
      refine lv_aload_n hx hb dX9_cost_27 rfl (lv_at hl 0 rfl) ?_
      refine lv_iload_n hx hb dX9_cost_28 rfl (lv_at hl 2 rfl) ?_
      obtain ⟨x111, hc110, h⟩ := ob h
      refine r_callV1 (As := [.int x2]) (rest := [.ref (a 9 0)]) (r := 9) (i := 0) C (vX9_isTask hc110) hR hS (lv0 (by decide) (by decide)) (by decide) ml_X9_278 mw_X9_isTask rfl ⟨Nat.le_of_ble_eq_true rfl, Nat.le_of_ble_eq_true rfl, Nat.le_of_ble_eq_true rfl, Nat.le_of_ble_eq_true rfl⟩ hl.1 rfl (Nat.le_of_ble_eq_true rfl) dX9_cost_29 (fun H locs hR hS => ?_)
      obtain ⟨x112, hz, h⟩ := ob h
      have Kj113 : ∀ (H : Heap) (locs : List Loc) (ls : Array Slot), Rel E a u108 H → va_S (AE E) s.heap H locs → lv_has ls 4 [(0, .ref (a 9 0)), (1, .int x1), (2, .int x2), (3, .int x3)] → W p l e { frames := 5, cells := 0, slots := 0, locals := 119 } s m args below meth c H locs 0 0 (MQ below (QW E a (some (.int out.1)) out.2) args s 0 0 (AE E)) (F0 m 48 ls [.int x112, .ref (a 9 0)]) := by
        intro H locs ls hR hS hl
        clear hz
        refine lv_iconst (v := 2) hx hb dX9_cost_48 (by decide) ?_
        obtain ⟨⟨x115, u116⟩, hc114, h⟩ := ob h
        replace h := bd_x (x := x115) rfl h
        replace h := bd_x (x := u116) rfl h
        refine r_callV1 (As := [.int x112, .int 2]) (rest := []) (r := 9) (i := 0) C (vX9_bad hc114) hR hS (lv0 (by decide) (by decide)) (by decide) ml_X9_162 mw_X9_bad rfl ⟨Nat.le_of_ble_eq_true rfl, Nat.le_of_ble_eq_true rfl, Nat.le_of_ble_eq_true rfl, Nat.le_of_ble_eq_true rfl⟩ hl.1 rfl (Nat.le_of_ble_eq_true rfl) dX9_cost_49 (fun H locs hR hS => ?_)
        refine lv_if_eq (tgt := 57) hx hb dX9_cost_52 (by decide) (fun c_117 => ?_) (fun c_117 => ?_)
        · rw [if_pos c_117] at h
          refine lv_aload_n hx hb dX9_cost_57 rfl (lv_at hl 0 rfl) ?_
          refine lv_iload_n hx hb dX9_cost_58 rfl (lv_at hl 1 rfl) ?_
          refine lv_iload_n hx hb dX9_cost_59 rfl (lv_at hl 2 rfl) ?_
          refine lv_iconst (v := 0) hx hb dX9_cost_60 (by decide) ?_
          obtain ⟨x119, hc118, h⟩ := ob h
          refine r_callV1 (As := [.int x1, .int x2, .int 0]) (rest := []) (r := 9) (i := 0) C (vX9_lostBy hc118) hR hS (lv0 (by decide) (by decide)) (by decide) ml_X9_403 mw_X9_lostBy rfl ⟨Nat.le_of_ble_eq_true rfl, Nat.le_of_ble_eq_true rfl, Nat.le_of_ble_eq_true rfl, Nat.le_of_ble_eq_true rfl⟩ hl.1 rfl (Nat.le_of_ble_eq_true rfl) dX9_cost_61 (fun H locs hR hS => ?_)
          refine lv_aload_n hx hb dX9_cost_64 rfl (lv_at hl 0 rfl) ?_
          refine lv_iload_n hx hb dX9_cost_65 rfl (lv_at hl 1 rfl) ?_
          refine lv_iload_n hx hb dX9_cost_66 rfl (lv_at hl 3 rfl) ?_
          refine lv_iconst (v := 1) hx hb dX9_cost_67 (by decide) ?_
          obtain ⟨x121, hc120, h⟩ := ob h
          refine r_callV1 (As := [.int x1, .int x3, .int 1]) (rest := [.int x119]) (r := 9) (i := 0) C (vX9_lostBy hc120) hR hS (lv0 (by decide) (by decide)) (by decide) ml_X9_403 mw_X9_lostBy rfl ⟨Nat.le_of_ble_eq_true rfl, Nat.le_of_ble_eq_true rfl, Nat.le_of_ble_eq_true rfl, Nat.le_of_ble_eq_true rfl⟩ hl.1 rfl (Nat.le_of_ble_eq_true rfl) dX9_cost_68 (fun H locs hR hS => ?_)
          refine lv_imul hx hb dX9_cost_71 ?_
          refine lv_aload_n hx hb dX9_cost_72 rfl (lv_at hl 0 rfl) ?_
          refine lv_iload_n hx hb dX9_cost_73 rfl (lv_at hl 1 rfl) ?_
          refine lv_iload_n hx hb dX9_cost_74 rfl (lv_at hl 3 rfl) ?_
          refine lv_iconst (v := 0) hx hb dX9_cost_75 (by decide) ?_
          obtain ⟨x123, hc122, h⟩ := ob h
          refine r_callV1 (As := [.int x1, .int x3, .int 0]) (rest := [.int (x119 * x121)]) (r := 9) (i := 0) C (vX9_lostBy hc122) hR hS (lv0 (by decide) (by decide)) (by decide) ml_X9_403 mw_X9_lostBy rfl ⟨Nat.le_of_ble_eq_true rfl, Nat.le_of_ble_eq_true rfl, Nat.le_of_ble_eq_true rfl, Nat.le_of_ble_eq_true rfl⟩ hl.1 rfl (Nat.le_of_ble_eq_true rfl) dX9_cost_76 (fun H locs hR hS => ?_)
          refine lv_aload_n hx hb dX9_cost_79 rfl (lv_at hl 0 rfl) ?_
          refine lv_iload_n hx hb dX9_cost_80 rfl (lv_at hl 1 rfl) ?_
          refine lv_iload_n hx hb dX9_cost_81 rfl (lv_at hl 2 rfl) ?_
          refine lv_iconst (v := 1) hx hb dX9_cost_82 (by decide) ?_
          obtain ⟨x125, hc124, h⟩ := ob h
          refine r_callV1 (As := [.int x1, .int x2, .int 1]) (rest := [.int x123, .int (x119 * x121)]) (r := 9) (i := 0) C (vX9_lostBy hc124) hR hS (lv0 (by decide) (by decide)) (by decide) ml_X9_403 mw_X9_lostBy rfl ⟨Nat.le_of_ble_eq_true rfl, Nat.le_of_ble_eq_true rfl, Nat.le_of_ble_eq_true rfl, Nat.le_of_ble_eq_true rfl⟩ hl.1 rfl (Nat.le_of_ble_eq_true rfl) dX9_cost_83 (fun H locs hR hS => ?_)
          refine lv_imul hx hb dX9_cost_86 ?_
          refine lv_isub hx hb dX9_cost_87 ?_
          cases h
          exact e_iret C hr hR hS (Nat.le_of_ble_eq_true rfl) (Nat.le_of_ble_eq_true rfl) dX9_cost_88
        · rw [if_neg c_117] at h
          refine lv_iconst (v := 0) hx hb dX9_cost_55 (by decide) ?_
          cases h
          exact e_iret C hr hR hS (Nat.le_of_ble_eq_true rfl) (Nat.le_of_ble_eq_true rfl) dX9_cost_56
      clear h
      have h := hz
      clear hz
      refine jp_cut h (fun j126 hj126 h => ?_)
      have Kj126 : ∀  (H : Heap) (locs : List Loc) (ls : Array Slot), j126 = some x112 → Rel E a u108 H → va_S (AE E) s.heap H locs → lv_has ls 4 [(0, .ref (a 9 0)), (1, .int x1), (2, .int x2), (3, .int x3)] → W p l e { frames := 5, cells := 0, slots := 0, locals := 119 } s m args below meth c H locs 0 0 (MQ below (QW E a (some (.int out.1)) out.2) args s 0 0 (AE E)) (F0 m 43 ls [.ref (a 9 0)]) := by
        intro  H locs ls h hR hS hl
        replace h := jx0 hj126 h
        refine lv_iconst (v := 1) hx hb dX9_cost_43 (by decide) ?_
        refine lv_goto (tgt := 48) hx hb dX9_cost_44 (by decide) ?_
        cases h
        exact Kj113 _ _ _ hR hS (lv_sub hl [0, 1, 2, 3] rfl)
      refine lv_if_eq (tgt := 43) hx hb dX9_cost_32 (by decide) (fun c_127 => ?_) (fun c_127 => ?_)
      · rw [if_pos c_127] at h
        exact Kj126  _ _ _ h hR hS (lv_sub hl [0, 1, 2, 3] rfl)
      · rw [if_neg c_127] at h
        refine lv_aload_n hx hb dX9_cost_35 rfl (lv_at hl 0 rfl) ?_
        refine lv_iload_n hx hb dX9_cost_36 rfl (lv_at hl 3 rfl) ?_
        obtain ⟨x129, hc128, h⟩ := ob h
        refine r_callV1 (As := [.int x3]) (rest := [.ref (a 9 0)]) (r := 9) (i := 0) C (vX9_isTask hc128) hR hS (lv0 (by decide) (by decide)) (by decide) ml_X9_278 mw_X9_isTask rfl ⟨Nat.le_of_ble_eq_true rfl, Nat.le_of_ble_eq_true rfl, Nat.le_of_ble_eq_true rfl, Nat.le_of_ble_eq_true rfl⟩ hl.1 rfl (Nat.le_of_ble_eq_true rfl) dX9_cost_37 (fun H locs hR hS => ?_)
        refine lv_if_ne (tgt := 47) hx hb dX9_cost_40 (by decide) (fun c_130 => ?_) (fun c_130 => ?_)
        · rw [if_neg c_130] at h
          refine lv_iconst (v := 0) hx hb dX9_cost_47 (by decide) ?_
          cases h
          exact Kj113 _ _ _ hR hS (lv_sub hl [0, 1, 2, 3] rfl)
        · rw [if_pos c_130] at h
          exact Kj126  _ _ _ h hR hS (lv_sub hl [0, 1, 2, 3] rfl)
  clear h
  have h := hz
  clear hz
  refine lv_if_ne (tgt := 18) hx hb dX9_cost_11 (by decide) (fun c_131 => ?_) (fun c_131 => ?_)
  · rw [if_neg c_131] at h
    refine lv_iconst (v := 0) hx hb dX9_cost_18 (by decide) ?_
    cases h
    exact Kj105 _ _ _ hR hS (lv_sub hl [0, 1, 2, 3] rfl)
  · rw [if_pos c_131] at h
    refine lv_iconst (v := 1) hx hb dX9_cost_14 (by decide) ?_
    refine lv_goto (tgt := 19) hx hb dX9_cost_15 (by decide) ?_
    cases h
    exact Kj105 _ _ _ hR hS (lv_sub hl [0, 1, 2, 3] rfl)
set_option maxHeartbeats 4000000 in
set_option maxRecDepth 100000 in
theorem vX9_off {l : Launch} {E : EV} {a : Nat → Nat → Nat} {u0 : HS} {x1 : Int32} {x2 : Int32} {x3 : Int32} {out : (Int32 × HS)} (h : mX9_off u0 x1 x2 x3 = some out) : Ct l E yX9_off cX9_off 7 (some .int) 2 47 0 0 a u0 [.ref (a 9 0), .int x1, .int x2, .int x3] (some (.int out.1)) out.2 := by
  refine Ct.start (by decide) (Nat.le_of_ble_eq_true rfl) ?_
  intro p e s m args below meth c ls C hr hR hS hl
  have C : Cx E p s m args meth c cX9_off 7 RX9 := C
  have hl : lv_has ls 7 [(0, .ref (a 9 0)), (1, .int x1), (2, .int x2), (3, .int x3)] := hl
  have hx := C.1
  have hb := C.2.1
  unfold mX9_off at h
  refine lv_aload_n hx hb dX9_off_0 rfl (lv_at hl 0 rfl) ?_
  refine lv_iconst (v := 0) hx hb dX9_off_1 (by decide) ?_
  refine r_putI (ty := .int) C hR hS 9 0 0 (lv0 (by decide) (by decide)) (by decide) (by decide) (fun _ => rfl) fl_X9_76 (by decide) (by decide +kernel) rfl rfl dX9_off_2 (fun H locs hR hS => ?_)
  obtain ⟨u101, eu101⟩ : ∃ z : HS, z = wI u0 9 0 0 0 := ⟨_, rfl⟩
  rw [← eu101] at hR
  replace h := bd_x eu101 h
  clear eu101
  refine lv_aload_n hx hb dX9_off_5 rfl (lv_at hl 0 rfl) ?_
  refine lv_aload_n hx hb dX9_off_6 rfl (lv_at hl 0 rfl) ?_
  refine lv_iload_n hx hb dX9_off_7 rfl (lv_at hl 1 rfl) ?_
  obtain ⟨x103, hc102, h⟩ := ob h
  refine r_callV1 (As := [.int x1]) (rest := [.ref (a 9 0)]) (r := 9) (i := 0) C (vX9_isScene hc102) hR hS (lv0 (by decide) (by decide)) (by decide) ml_X9_254 mw_X9_isScene rfl ⟨Nat.le_of_ble_eq_true rfl, Nat.le_of_ble_eq_true rfl, Nat.le_of_ble_eq_true rfl, Nat.le_of_ble_eq_true rfl⟩ hl.1 rfl (Nat.le_of_ble_eq_true rfl) dX9_off_8 (fun H locs hR hS => ?_)
  obtain ⟨x104, hz, h⟩ := ob h
  have Kj105 : ∀ (H : Heap) (locs : List Loc) (ls : Array Slot), Rel E a u101 H → va_S (AE E) s.heap H locs → lv_has ls 7 [(0, .ref (a 9 0)), (1, .int x1), (2, .int x2), (3, .int x3)] → W p l e { frames := 2, cells := 0, slots := 0, locals := 47 } s m args below meth c H locs 0 0 (MQ below (QW E a (some (.int out.1)) out.2) args s 0 0 (AE E)) (F0 m 19 ls [.int x104, .ref (a 9 0)]) := by
    intro H locs ls hR hS hl
    clear hz
    refine lv_iconst (v := 1) hx hb dX9_off_19 (by decide) ?_
    obtain ⟨⟨x107, u108⟩, hc106, h⟩ := ob h
    replace h := bd_x (x := x107) rfl h
    replace h := bd_x (x := u108) rfl h
    refine r_callV1 (As := [.int x104, .int 1]) (rest := []) (r := 9) (i := 0) C (vX9_bad hc106) hR hS (lv0 (by decide) (by decide)) (by decide) ml_X9_162 mw_X9_bad rfl ⟨Nat.le_of_ble_eq_true rfl, Nat.le_of_ble_eq_true rfl, Nat.le_of_ble_eq_true rfl, Nat.le_of_ble_eq_true rfl⟩ hl.1 rfl (Nat.le_of_ble_eq_true rfl) dX9_off_20 (fun H locs hR hS => ?_)
    refine lv_if_ne (tgt := 69) hx hb dX9_off_23 (by decide) (fun c_109 => ?_) (fun c_109 => ?_)
    · rw [if_neg c_109] at h
      refine lv_iconst (v := 0) hx hb dX9_off_69 (by decide) ?_
      cases h
      exact e_iret C hr hR hS (Nat.le_of_ble_eq_true rfl) (Nat.le_of_ble_eq_true rfl) dX9_off_70
    · rw [if_pos c_109] at h
      refine lv_aload_n hx hb dX9_off_26 rfl (lv_at hl 0 rfl) ?_
      refine lv_aload_n hx hb dX9_off_27 rfl (lv_at hl 0 rfl) ?_
      refine lv_iload_n hx hb dX9_off_28 rfl (lv_at hl 2 rfl) ?_
      obtain ⟨x111, hc110, h⟩ := ob h
      refine r_callV1 (As := [.int x2]) (rest := [.ref (a 9 0)]) (r := 9) (i := 0) C (vX9_isTask hc110) hR hS (lv0 (by decide) (by decide)) (by decide) ml_X9_278 mw_X9_isTask rfl ⟨Nat.le_of_ble_eq_true rfl, Nat.le_of_ble_eq_true rfl, Nat.le_of_ble_eq_true rfl, Nat.le_of_ble_eq_true rfl⟩ hl.1 rfl (Nat.le_of_ble_eq_true rfl) dX9_off_29 (fun H locs hR hS => ?_)
      obtain ⟨x112, hz, h⟩ := ob h
      have Kj113 : ∀ (H : Heap) (locs : List Loc) (ls : Array Slot), Rel E a u108 H → va_S (AE E) s.heap H locs → lv_has ls 7 [(0, .ref (a 9 0)), (1, .int x1), (2, .int x2), (3, .int x3)] → W p l e { frames := 2, cells := 0, slots := 0, locals := 47 } s m args below meth c H locs 0 0 (MQ below (QW E a (some (.int out.1)) out.2) args s 0 0 (AE E)) (F0 m 40 ls [.int x112, .ref (a 9 0)]) := by
        intro H locs ls hR hS hl
        clear hz
        refine lv_iconst (v := 2) hx hb dX9_off_40 (by decide) ?_
        obtain ⟨⟨x115, u116⟩, hc114, h⟩ := ob h
        replace h := bd_x (x := x115) rfl h
        replace h := bd_x (x := u116) rfl h
        refine r_callV1 (As := [.int x112, .int 2]) (rest := []) (r := 9) (i := 0) C (vX9_bad hc114) hR hS (lv0 (by decide) (by decide)) (by decide) ml_X9_162 mw_X9_bad rfl ⟨Nat.le_of_ble_eq_true rfl, Nat.le_of_ble_eq_true rfl, Nat.le_of_ble_eq_true rfl, Nat.le_of_ble_eq_true rfl⟩ hl.1 rfl (Nat.le_of_ble_eq_true rfl) dX9_off_41 (fun H locs hR hS => ?_)
        refine lv_if_ne (tgt := 69) hx hb dX9_off_44 (by decide) (fun c_117 => ?_) (fun c_117 => ?_)
        · rw [if_neg c_117] at h
          refine lv_iconst (v := 0) hx hb dX9_off_69 (by decide) ?_
          cases h
          exact e_iret C hr hR hS (Nat.le_of_ble_eq_true rfl) (Nat.le_of_ble_eq_true rfl) dX9_off_70
        · rw [if_pos c_117] at h
          refine lv_aload_n hx hb dX9_off_47 rfl (lv_at hl 0 rfl) ?_
          refine lv_iload_n hx hb dX9_off_48 rfl (lv_at hl 3 rfl) ?_
          refine lv_iconst (v := 0) hx hb dX9_off_49 (by decide) ?_
          refine lv_iconst (v := 1) hx hb dX9_off_50 (by decide) ?_
          obtain ⟨x119, hc118, h⟩ := ob h
          refine r_callS1 (As := [.int x3, .int 0, .int 1]) (rest := [.ref (a 9 0)]) C (vX9_in hc118) hR hS ml_X9_113 ms_X9_in rfl ⟨Nat.le_of_ble_eq_true rfl, Nat.le_of_ble_eq_true rfl, Nat.le_of_ble_eq_true rfl, Nat.le_of_ble_eq_true rfl⟩ hl.1 rfl (Nat.le_of_ble_eq_true rfl) dX9_off_51 (fun H locs hR hS => ?_)
          obtain ⟨x120, hz, h⟩ := ob h
          have Kj121 : ∀ (H : Heap) (locs : List Loc) (ls : Array Slot), Rel E a u116 H → va_S (AE E) s.heap H locs → lv_has ls 7 [(0, .ref (a 9 0)), (1, .int x1), (2, .int x2), (3, .int x3)] → W p l e { frames := 2, cells := 0, slots := 0, locals := 47 } s m args below meth c H locs 0 0 (MQ below (QW E a (some (.int out.1)) out.2) args s 0 0 (AE E)) (F0 m 62 ls [.int x120, .ref (a 9 0)]) := by
            intro H locs ls hR hS hl
            clear hz
            refine lv_iconst (v := 3) hx hb dX9_off_62 (by decide) ?_
            obtain ⟨⟨x123, u124⟩, hc122, h⟩ := ob h
            replace h := bd_x (x := x123) rfl h
            replace h := bd_x (x := u124) rfl h
            refine r_callV1 (As := [.int x120, .int 3]) (rest := []) (r := 9) (i := 0) C (vX9_bad hc122) hR hS (lv0 (by decide) (by decide)) (by decide) ml_X9_162 mw_X9_bad rfl ⟨Nat.le_of_ble_eq_true rfl, Nat.le_of_ble_eq_true rfl, Nat.le_of_ble_eq_true rfl, Nat.le_of_ble_eq_true rfl⟩ hl.1 rfl (Nat.le_of_ble_eq_true rfl) dX9_off_63 (fun H locs hR hS => ?_)
            refine lv_if_eq (tgt := 71) hx hb dX9_off_66 (by decide) (fun c_125 => ?_) (fun c_125 => ?_)
            · rw [if_pos c_125] at h
              refine lv_iconst (v := 0) hx hb dX9_off_71 (by decide) ?_
              refine lv_istore (lv' := [(4, .int 0), (0, .ref (a 9 0)), (1, .int x1), (2, .int x2), (3, .int x3)]) hx hb dX9_off_72 hl (by decide) rfl (fun ls hl => ?_)
              refine lv_iconst (v := 0) hx hb dX9_off_74 (by decide) ?_
              refine lv_istore (lv' := [(5, .int 0), (4, .int 0), (0, .ref (a 9 0)), (1, .int x1), (2, .int x2), (3, .int x3)]) hx hb dX9_off_75 hl (by decide) rfl (fun ls hl => ?_)
              refine lv_iconst (v := 0) hx hb dX9_off_77 (by decide) ?_
              refine lv_istore (lv' := [(6, .int 0), (5, .int 0), (4, .int 0), (0, .ref (a 9 0)), (1, .int x1), (2, .int x2), (3, .int x3)]) hx hb dX9_off_78 hl (by decide) rfl (fun ls hl => ?_)
              refine jp_cut h (fun w131 hw131 h => ?_)
              have Kw131 : ∀ (x129 : Int32) (x130 : Int32) (H : Heap) (locs : List Loc) (ls : Array Slot), w131 x129 x130 = some out → Rel E a u124 H → va_S (AE E) s.heap H locs → lv_has ls 7 [(3, .int x3), (4, .int x129), (5, .int x130)] → W p l e { frames := 2, cells := 0, slots := 0, locals := 47 } s m args below meth c H locs 0 0 (MQ below (QW E a (some (.int out.1)) out.2) args s 0 0 (AE E)) (F0 m 189 ls []) := by
                intro x129 x130 H locs ls h hR hS hl
                replace h := jx2 hw131 h
                refine lv_iload_n hx hb dX9_off_189 rfl (lv_at hl 0 rfl) ?_
                refine lv_if_ne (tgt := 198) hx hb dX9_off_190 (by decide) (fun c_132 => ?_) (fun c_132 => ?_)
                · rw [if_neg c_132] at h
                  refine lv_iload hx hb dX9_off_198 (lv_at hl 2 rfl) ?_
                  cases h
                  exact e_iret C hr hR hS (Nat.le_of_ble_eq_true rfl) (Nat.le_of_ble_eq_true rfl) dX9_off_200
                · rw [if_pos c_132] at h
                  refine lv_iload hx hb dX9_off_193 (lv_at hl 1 rfl) ?_
                  refine lv_goto (tgt := 200) hx hb dX9_off_195 (by decide) ?_
                  cases h
                  exact e_iret C hr hR hS (Nat.le_of_ble_eq_true rfl) (Nat.le_of_ble_eq_true rfl) dX9_off_200
              have LP : ∀ (fu : Nat) (x126 : Int32) (x127 : Int32) (x128 : Int32) (H : Heap) (locs : List Loc) (ls : Array Slot), mX9_off_L80 u124 x1 x2 w131 fu x126 x127 x128 = some out → Rel E a u124 H → va_S (AE E) s.heap H locs → lv_has ls 7 [(0, .ref (a 9 0)), (1, .int x1), (2, .int x2), (3, .int x3), (4, .int x126), (5, .int x127), (6, .int x128)] → W p l e { frames := 2, cells := 0, slots := 0, locals := 47 } s m args below meth c H locs 0 0 (MQ below (QW E a (some (.int out.1)) out.2) args s 0 0 (AE E)) (F0 m 80 ls []) := by
                intro fu
                induction fu with
                | zero =>
                  intro x126 x127 x128 H locs ls h
                  have h2 : (none : Option (Int32 × HS)) = some out := h
                  cases h2
                | succ fu ih =>
                  intro x126 x127 x128 H locs ls h hR hS hl
                  rw [mX9_off_L80.eq_2] at h
                  refine lv_iload hx hb dX9_off_80 (lv_at hl 6 rfl) ?_
                  refine lv_aload_n hx hb dX9_off_82 rfl (lv_at hl 0 rfl) ?_
                  refine r_get C hR 9 0 28 (v := .int (gI u124 9 0 28)) (lv0 (by decide) (by decide)) (by decide) (by decide) rfl fl_X9_288 dX9_off_83 ?_
                  refine lv_icmp_ge (tgt := 189) hx hb dX9_off_86 (by decide) (fun c_133 => ?_) (fun c_133 => ?_)
                  · rw [if_pos c_133] at h
                    exact Kw131 _ _ _ _ _ h hR hS (lv_sub hl [3, 4, 5] rfl)
                  · rw [if_neg c_133] at h
                    refine lv_aload_n hx hb dX9_off_89 rfl (lv_at hl 0 rfl) ?_
                    refine lv_iload hx hb dX9_off_90 (lv_at hl 6 rfl) ?_
                    refine lv_iload_n hx hb dX9_off_92 rfl (lv_at hl 1 rfl) ?_
                    refine lv_iload_n hx hb dX9_off_93 rfl (lv_at hl 2 rfl) ?_
                    refine lv_iconst (v := 0) hx hb dX9_off_94 (by decide) ?_
                    obtain ⟨x135, hc134, h⟩ := ob h
                    refine r_callV1 (As := [.int x128, .int x1, .int x2, .int 0]) (rest := []) (r := 9) (i := 0) C (vX9_isInGroup hc134) hR hS (lv0 (by decide) (by decide)) (by decide) ml_X9_384 mw_X9_isInGroup rfl ⟨Nat.le_of_ble_eq_true rfl, Nat.le_of_ble_eq_true rfl, Nat.le_of_ble_eq_true rfl, Nat.le_of_ble_eq_true rfl⟩ hl.1 rfl (Nat.le_of_ble_eq_true rfl) dX9_off_95 (fun H locs hR hS => ?_)
                    refine jp_cut h (fun j138 hj138 h => ?_)
                    have Kj138 : ∀ (x136 : Int32) (x137 : Int32) (H : Heap) (locs : List Loc) (ls : Array Slot), j138 x136 x137 = some out → Rel E a u124 H → va_S (AE E) s.heap H locs → lv_has ls 7 [(0, .ref (a 9 0)), (1, .int x1), (2, .int x2), (3, .int x3), (4, .int x136), (5, .int x137), (6, .int x128)] → W p l e { frames := 2, cells := 0, slots := 0, locals := 47 } s m args below meth c H locs 0 0 (MQ below (QW E a (some (.int out.1)) out.2) args s 0 0 (AE E)) (F0 m 183 ls []) := by
                      intro x136 x137 H locs ls h hR hS hl
                      replace h := jx2 hj138 h
                      obtain ⟨x139, ex139⟩ : ∃ z : Int32, z = x128 + 1 := ⟨_, rfl⟩
                      replace h := bd_x ex139 h
                      refine lv_iinc (v := x139) (lv' := [(6, .int x139), (0, .ref (a 9 0)), (1, .int x1), (2, .int x2), (3, .int x3), (4, .int x136), (5, .int x137)]) hx hb dX9_off_183 hl (k := 6) rfl (by rw [ex139]; rfl) (by decide) rfl (fun ls hl => ?_)
                      refine lv_goto (tgt := 80) hx hb dX9_off_186 (by decide) ?_
                      exact ih _ _ _ _ _ _ h hR hS (lv_sub hl [1, 2, 3, 4, 5, 6, 0] rfl)
                    refine lv_if_eq (tgt := 183) hx hb dX9_off_98 (by decide) (fun c_140 => ?_) (fun c_140 => ?_)
                    · rw [if_pos c_140] at h
                      exact Kj138 _ _ _ _ _ h hR hS (lv_sub hl [0, 1, 2, 3, 4, 5, 6] rfl)
                    · rw [if_neg c_140] at h
                      refine lv_aload_n hx hb dX9_off_101 rfl (lv_at hl 0 rfl) ?_
                      refine r_get C hR 9 0 33 (v := .ref (a 80 0)) (lv0 (by decide) (by decide)) (by decide) (by decide) rfl fl_X9_61 dX9_off_102 ?_
                      refine lv_iload hx hb dX9_off_105 (lv_at hl 6 rfl) ?_
                      obtain ⟨k141, hk141, h⟩ := ob h
                      have hLk141 : k141 < cntS 81 := by have q1 := (ck_in hk141).2.2; have q2 : cntS 81 = 15 := rfl; omega
                      refine r_aald C hR 80 0 81 0 6 (lv0 (by decide) (by decide)) (by decide) rfl rfl rfl (fun _ => rfl) rfl hk141 dX9_off_107 ?_
                      refine lv_bipush (v := 7) hx hb dX9_off_108 (by decide) ?_
                      obtain ⟨k142, hk142, h⟩ := ob h
                      refine r_ald C hR 81 k141 (lv0 hLk141 (by decide)) (by decide) rfl (fun _ => rfl) rfl hk142 dX9_off_110 ?_
                      refine lv_iconst (v := (-1)) hx hb dX9_off_111 (by decide) ?_
                      refine lv_icmp_ne (tgt := 118) hx hb dX9_off_112 (by decide) (fun c_143 => ?_) (fun c_143 => ?_)
                      · rw [if_neg c_143] at h
                        refine lv_iload hx hb dX9_off_118 (lv_at hl 4 rfl) ?_
                        refine lv_aload_n hx hb dX9_off_120 rfl (lv_at hl 0 rfl) ?_
                        refine r_get C hR 9 0 33 (v := .ref (a 80 0)) (lv0 (by decide) (by decide)) (by decide) (by decide) rfl fl_X9_61 dX9_off_121 ?_
                        refine lv_iload hx hb dX9_off_124 (lv_at hl 6 rfl) ?_
                        obtain ⟨k144, hk144, h⟩ := ob h
                        have hLk144 : k144 < cntS 81 := by have q1 := (ck_in hk144).2.2; have q2 : cntS 81 = 15 := rfl; omega
                        refine r_aald C hR 80 0 81 0 6 (lv0 (by decide) (by decide)) (by decide) rfl rfl rfl (fun _ => rfl) rfl hk144 dX9_off_126 ?_
                        refine lv_bipush (v := 7) hx hb dX9_off_127 (by decide) ?_
                        obtain ⟨k145, hk145, h⟩ := ob h
                        refine r_ald C hR 81 k144 (lv0 hLk144 (by decide)) (by decide) rfl (fun _ => rfl) rfl hk145 dX9_off_129 ?_
                        refine lv_bipush (v := 100) hx hb dX9_off_130 (by decide) ?_
                        refine lv_aload_n hx hb dX9_off_132 rfl (lv_at hl 0 rfl) ?_
                        refine r_get C hR 9 0 33 (v := .ref (a 80 0)) (lv0 (by decide) (by decide)) (by decide) (by decide) rfl fl_X9_61 dX9_off_133 ?_
                        refine lv_iload hx hb dX9_off_136 (lv_at hl 6 rfl) ?_
                        obtain ⟨k146, hk146, h⟩ := ob h
                        have hLk146 : k146 < cntS 81 := by have q1 := (ck_in hk146).2.2; have q2 : cntS 81 = 15 := rfl; omega
                        refine r_aald C hR 80 0 81 0 6 (lv0 (by decide) (by decide)) (by decide) rfl rfl rfl (fun _ => rfl) rfl hk146 dX9_off_138 ?_
                        refine lv_iconst (v := 3) hx hb dX9_off_139 (by decide) ?_
                        obtain ⟨k147, hk147, h⟩ := ob h
                        refine r_ald C hR 81 k146 (lv0 hLk146 (by decide)) (by decide) rfl (fun _ => rfl) rfl hk147 dX9_off_140 ?_
                        refine lv_imul hx hb dX9_off_141 ?_
                        refine lv_isub hx hb dX9_off_142 ?_
                        refine lv_iadd hx hb dX9_off_143 ?_
                        refine lv_topi (fun x148 ex148 => ?_)
                        replace h := bd_x ex148 h
                        refine lv_istore (lv' := [(4, .int x148), (0, .ref (a 9 0)), (1, .int x1), (2, .int x2), (3, .int x3), (5, .int x127), (6, .int x128)]) hx hb dX9_off_144 hl (by decide) rfl (fun ls hl => ?_)
                        refine lv_iload hx hb dX9_off_146 (lv_at hl 5 rfl) ?_
                        refine lv_aload_n hx hb dX9_off_148 rfl (lv_at hl 1 rfl) ?_
                        refine r_get C hR 9 0 33 (v := .ref (a 80 0)) (lv0 (by decide) (by decide)) (by decide) (by decide) rfl fl_X9_61 dX9_off_149 ?_
                        refine lv_iload hx hb dX9_off_152 (lv_at hl 6 rfl) ?_
                        obtain ⟨k149, hk149, h⟩ := ob h
                        have hLk149 : k149 < cntS 81 := by have q1 := (ck_in hk149).2.2; have q2 : cntS 81 = 15 := rfl; omega
                        refine r_aald C hR 80 0 81 0 6 (lv0 (by decide) (by decide)) (by decide) rfl rfl rfl (fun _ => rfl) rfl hk149 dX9_off_154 ?_
                        refine lv_bipush (v := 7) hx hb dX9_off_155 (by decide) ?_
                        obtain ⟨k150, hk150, h⟩ := ob h
                        refine r_ald C hR 81 k149 (lv0 hLk149 (by decide)) (by decide) rfl (fun _ => rfl) rfl hk150 dX9_off_157 ?_
                        refine lv_bipush (v := 50) hx hb dX9_off_158 (by decide) ?_
                        obtain ⟨x151, hz, h⟩ := ob h
                        have Kj152 : ∀ (H : Heap) (locs : List Loc) (ls : Array Slot), Rel E a u124 H → va_S (AE E) s.heap H locs → lv_has ls 7 [(0, .ref (a 9 0)), (1, .int x1), (2, .int x2), (3, .int x3), (4, .int x148), (6, .int x128)] → W p l e { frames := 2, cells := 0, slots := 0, locals := 47 } s m args below meth c H locs 0 0 (MQ below (QW E a (some (.int out.1)) out.2) args s 0 0 (AE E)) (F0 m 180 ls [.int x151, .int x127]) := by
                          intro H locs ls hR hS hl
                          clear hz
                          refine lv_iadd hx hb dX9_off_180 ?_
                          refine lv_topi (fun x153 ex153 => ?_)
                          replace h := bd_x ex153 h
                          refine lv_istore (lv' := [(5, .int x153), (0, .ref (a 9 0)), (1, .int x1), (2, .int x2), (3, .int x3), (4, .int x148), (6, .int x128)]) hx hb dX9_off_181 hl (by decide) rfl (fun ls hl => ?_)
                          exact Kj138 _ _ _ _ _ h hR hS (lv_sub hl [1, 2, 3, 4, 5, 0, 6] rfl)
                        clear h
                        have h := hz
                        clear hz
                        refine jp_cut h (fun j154 hj154 h => ?_)
                        have Kj154 : ∀  (H : Heap) (locs : List Loc) (ls : Array Slot), j154 = some x151 → Rel E a u124 H → va_S (AE E) s.heap H locs → lv_has ls 7 [(0, .ref (a 9 0)), (1, .int x1), (2, .int x2), (3, .int x3), (4, .int x148), (6, .int x128)] → W p l e { frames := 2, cells := 0, slots := 0, locals := 47 } s m args below meth c H locs 0 0 (MQ below (QW E a (some (.int out.1)) out.2) args s 0 0 (AE E)) (F0 m 179 ls [.int x127]) := by
                          intro  H locs ls h hR hS hl
                          replace h := jx0 hj154 h
                          refine lv_iconst (v := 0) hx hb dX9_off_179 (by decide) ?_
                          cases h
                          exact Kj152 _ _ _ hR hS (lv_sub hl [0, 1, 2, 3, 4, 5] rfl)
                        refine lv_icmp_lt (tgt := 179) hx hb dX9_off_160 (by decide) (fun c_155 => ?_) (fun c_155 => ?_)
                        · rw [if_pos c_155] at h
                          exact Kj154  _ _ _ h hR hS (lv_sub hl [1, 2, 3, 4, 0, 6] rfl)
                        · rw [if_neg c_155] at h
                          refine lv_aload_n hx hb dX9_off_163 rfl (lv_at hl 1 rfl) ?_
                          refine r_get C hR 9 0 33 (v := .ref (a 80 0)) (lv0 (by decide) (by decide)) (by decide) (by decide) rfl fl_X9_61 dX9_off_164 ?_
                          refine lv_iload hx hb dX9_off_167 (lv_at hl 6 rfl) ?_
                          obtain ⟨k156, hk156, h⟩ := ob h
                          have hLk156 : k156 < cntS 81 := by have q1 := (ck_in hk156).2.2; have q2 : cntS 81 = 15 := rfl; omega
                          refine r_aald C hR 80 0 81 0 6 (lv0 (by decide) (by decide)) (by decide) rfl rfl rfl (fun _ => rfl) rfl hk156 dX9_off_169 ?_
                          refine lv_iconst (v := 3) hx hb dX9_off_170 (by decide) ?_
                          obtain ⟨k157, hk157, h⟩ := ob h
                          refine r_ald C hR 81 k156 (lv0 hLk156 (by decide)) (by decide) rfl (fun _ => rfl) rfl hk157 dX9_off_171 ?_
                          refine lv_if_ne (tgt := 179) hx hb dX9_off_172 (by decide) (fun c_158 => ?_) (fun c_158 => ?_)
                          · rw [if_neg c_158] at h
                            exact Kj154  _ _ _ h hR hS (lv_sub hl [1, 2, 3, 4, 0, 6] rfl)
                          · rw [if_pos c_158] at h
                            refine lv_iconst (v := 1) hx hb dX9_off_175 (by decide) ?_
                            refine lv_goto (tgt := 180) hx hb dX9_off_176 (by decide) ?_
                            cases h
                            exact Kj152 _ _ _ hR hS (lv_sub hl [1, 2, 3, 4, 0, 6] rfl)
                      · rw [if_pos c_143] at h
                        refine lv_goto (tgt := 183) hx hb dX9_off_115 (by decide) ?_
                        exact Kj138 _ _ _ _ _ h hR hS (lv_sub hl [0, 1, 2, 3, 4, 5, 6] rfl)
              exact LP FU _ _ _ _ _ _ h hR hS (lv_sub hl [3, 4, 5, 6, 2, 1, 0] rfl)
            · rw [if_neg c_125] at h
              refine lv_iconst (v := 0) hx hb dX9_off_69 (by decide) ?_
              cases h
              exact e_iret C hr hR hS (Nat.le_of_ble_eq_true rfl) (Nat.le_of_ble_eq_true rfl) dX9_off_70
          clear h
          have h := hz
          clear hz
          refine lv_if_ne (tgt := 61) hx hb dX9_off_54 (by decide) (fun c_159 => ?_) (fun c_159 => ?_)
          · rw [if_neg c_159] at h
            refine lv_iconst (v := 0) hx hb dX9_off_61 (by decide) ?_
            cases h
            exact Kj121 _ _ _ hR hS (lv_sub hl [0, 1, 2, 3] rfl)
          · rw [if_pos c_159] at h
            refine lv_iconst (v := 1) hx hb dX9_off_57 (by decide) ?_
            refine lv_goto (tgt := 62) hx hb dX9_off_58 (by decide) ?_
            cases h
            exact Kj121 _ _ _ hR hS (lv_sub hl [0, 1, 2, 3] rfl)
      clear h
      have h := hz
      clear hz
      refine lv_if_ne (tgt := 39) hx hb dX9_off_32 (by decide) (fun c_160 => ?_) (fun c_160 => ?_)
      · rw [if_neg c_160] at h
        refine lv_iconst (v := 0) hx hb dX9_off_39 (by decide) ?_
        cases h
        exact Kj113 _ _ _ hR hS (lv_sub hl [0, 1, 2, 3] rfl)
      · rw [if_pos c_160] at h
        refine lv_iconst (v := 1) hx hb dX9_off_35 (by decide) ?_
        refine lv_goto (tgt := 40) hx hb dX9_off_36 (by decide) ?_
        cases h
        exact Kj113 _ _ _ hR hS (lv_sub hl [0, 1, 2, 3] rfl)
  clear h
  have h := hz
  clear hz
  refine lv_if_ne (tgt := 18) hx hb dX9_off_11 (by decide) (fun c_161 => ?_) (fun c_161 => ?_)
  · rw [if_neg c_161] at h
    refine lv_iconst (v := 0) hx hb dX9_off_18 (by decide) ?_
    cases h
    exact Kj105 _ _ _ hR hS (lv_sub hl [0, 1, 2, 3] rfl)
  · rw [if_pos c_161] at h
    refine lv_iconst (v := 1) hx hb dX9_off_14 (by decide) ?_
    refine lv_goto (tgt := 19) hx hb dX9_off_15 (by decide) ?_
    cases h
    exact Kj105 _ _ _ hR hS (lv_sub hl [0, 1, 2, 3] rfl)
set_option maxHeartbeats 4000000 in
set_option maxRecDepth 100000 in
theorem vX9_weigh {l : Launch} {E : EV} {a : Nat → Nat → Nat} {u0 : HS} {x1 : Int32} {x2 : Int32} {out : (Int32 × HS)} (h : mX9_weigh u0 x1 x2 = some out) : Ct l E yX9_weigh cX9_weigh 4 (some .int) 2 43 0 0 a u0 [.ref (a 9 0), .int x1, .int x2] (some (.int out.1)) out.2 := by
  refine Ct.start (by decide) (Nat.le_of_ble_eq_true rfl) ?_
  intro p e s m args below meth c ls C hr hR hS hl
  have C : Cx E p s m args meth c cX9_weigh 4 RX9 := C
  have hl : lv_has ls 4 [(0, .ref (a 9 0)), (1, .int x1), (2, .int x2)] := hl
  have hx := C.1
  have hb := C.2.1
  unfold mX9_weigh at h
  refine lv_aload_n hx hb dX9_weigh_0 rfl (lv_at hl 0 rfl) ?_
  refine lv_iconst (v := 0) hx hb dX9_weigh_1 (by decide) ?_
  refine r_putI (ty := .int) C hR hS 9 0 0 (lv0 (by decide) (by decide)) (by decide) (by decide) (fun _ => rfl) fl_X9_76 (by decide) (by decide +kernel) rfl rfl dX9_weigh_2 (fun H locs hR hS => ?_)
  obtain ⟨u101, eu101⟩ : ∃ z : HS, z = wI u0 9 0 0 0 := ⟨_, rfl⟩
  rw [← eu101] at hR
  replace h := bd_x eu101 h
  clear eu101
  refine lv_aload_n hx hb dX9_weigh_5 rfl (lv_at hl 0 rfl) ?_
  refine lv_aload_n hx hb dX9_weigh_6 rfl (lv_at hl 0 rfl) ?_
  refine lv_iload_n hx hb dX9_weigh_7 rfl (lv_at hl 1 rfl) ?_
  obtain ⟨x103, hc102, h⟩ := ob h
  refine r_callV1 (As := [.int x1]) (rest := [.ref (a 9 0)]) (r := 9) (i := 0) C (vX9_isLaw hc102) hR hS (lv0 (by decide) (by decide)) (by decide) ml_X9_357 mw_X9_isLaw rfl ⟨Nat.le_of_ble_eq_true rfl, Nat.le_of_ble_eq_true rfl, Nat.le_of_ble_eq_true rfl, Nat.le_of_ble_eq_true rfl⟩ hl.1 rfl (Nat.le_of_ble_eq_true rfl) dX9_weigh_8 (fun H locs hR hS => ?_)
  obtain ⟨x104, hz, h⟩ := ob h
  have Kj105 : ∀ (H : Heap) (locs : List Loc) (ls : Array Slot), Rel E a u101 H → va_S (AE E) s.heap H locs → lv_has ls 4 [(0, .ref (a 9 0)), (1, .int x1), (2, .int x2)] → W p l e { frames := 2, cells := 0, slots := 0, locals := 43 } s m args below meth c H locs 0 0 (MQ below (QW E a (some (.int out.1)) out.2) args s 0 0 (AE E)) (F0 m 19 ls [.int x104, .ref (a 9 0)]) := by
    intro H locs ls hR hS hl
    clear hz
    refine lv_iconst (v := 1) hx hb dX9_weigh_19 (by decide) ?_
    obtain ⟨⟨x107, u108⟩, hc106, h⟩ := ob h
    replace h := bd_x (x := x107) rfl h
    replace h := bd_x (x := u108) rfl h
    refine r_callV1 (As := [.int x104, .int 1]) (rest := []) (r := 9) (i := 0) C (vX9_bad hc106) hR hS (lv0 (by decide) (by decide)) (by decide) ml_X9_162 mw_X9_bad rfl ⟨Nat.le_of_ble_eq_true rfl, Nat.le_of_ble_eq_true rfl, Nat.le_of_ble_eq_true rfl, Nat.le_of_ble_eq_true rfl⟩ hl.1 rfl (Nat.le_of_ble_eq_true rfl) dX9_weigh_20 (fun H locs hR hS => ?_)
    refine lv_if_ne (tgt := 49) hx hb dX9_weigh_23 (by decide) (fun c_109 => ?_) (fun c_109 => ?_)
    · rw [if_neg c_109] at h
      refine lv_iconst (v := 0) hx hb dX9_weigh_49 (by decide) ?_
      cases h
      exact e_iret C hr hR hS (Nat.le_of_ble_eq_true rfl) (Nat.le_of_ble_eq_true rfl) dX9_weigh_50
    · rw [if_pos c_109] at h
      refine lv_aload_n hx hb dX9_weigh_26 rfl (lv_at hl 0 rfl) ?_
      refine lv_iload_n hx hb dX9_weigh_27 rfl (lv_at hl 2 rfl) ?_
      refine lv_iconst (v := 1) hx hb dX9_weigh_28 (by decide) ?_
      refine lv_bipush (v := 9) hx hb dX9_weigh_29 (by decide) ?_
      obtain ⟨x111, hc110, h⟩ := ob h
      refine r_callS1 (As := [.int x2, .int 1, .int 9]) (rest := [.ref (a 9 0)]) C (vX9_in hc110) hR hS ml_X9_113 ms_X9_in rfl ⟨Nat.le_of_ble_eq_true rfl, Nat.le_of_ble_eq_true rfl, Nat.le_of_ble_eq_true rfl, Nat.le_of_ble_eq_true rfl⟩ hl.1 rfl (Nat.le_of_ble_eq_true rfl) dX9_weigh_31 (fun H locs hR hS => ?_)
      obtain ⟨x112, hz, h⟩ := ob h
      have Kj113 : ∀ (H : Heap) (locs : List Loc) (ls : Array Slot), Rel E a u108 H → va_S (AE E) s.heap H locs → lv_has ls 4 [(0, .ref (a 9 0)), (1, .int x1), (2, .int x2)] → W p l e { frames := 2, cells := 0, slots := 0, locals := 43 } s m args below meth c H locs 0 0 (MQ below (QW E a (some (.int out.1)) out.2) args s 0 0 (AE E)) (F0 m 42 ls [.int x112, .ref (a 9 0)]) := by
        intro H locs ls hR hS hl
        clear hz
        refine lv_iconst (v := 2) hx hb dX9_weigh_42 (by decide) ?_
        obtain ⟨⟨x115, u116⟩, hc114, h⟩ := ob h
        replace h := bd_x (x := x115) rfl h
        replace h := bd_x (x := u116) rfl h
        refine r_callV1 (As := [.int x112, .int 2]) (rest := []) (r := 9) (i := 0) C (vX9_bad hc114) hR hS (lv0 (by decide) (by decide)) (by decide) ml_X9_162 mw_X9_bad rfl ⟨Nat.le_of_ble_eq_true rfl, Nat.le_of_ble_eq_true rfl, Nat.le_of_ble_eq_true rfl, Nat.le_of_ble_eq_true rfl⟩ hl.1 rfl (Nat.le_of_ble_eq_true rfl) dX9_weigh_43 (fun H locs hR hS => ?_)
        refine lv_if_eq (tgt := 51) hx hb dX9_weigh_46 (by decide) (fun c_117 => ?_) (fun c_117 => ?_)
        · rw [if_pos c_117] at h
          refine lv_aload_n hx hb dX9_weigh_51 rfl (lv_at hl 0 rfl) ?_
          refine r_get C hR 9 0 25 (v := .ref (a 77 0)) (lv0 (by decide) (by decide)) (by decide) (by decide) rfl fl_X9_49 dX9_weigh_52 ?_
          refine lv_iload_n hx hb dX9_weigh_55 rfl (lv_at hl 1 rfl) ?_
          obtain ⟨k118, hk118, h⟩ := ob h
          refine r_ald C hR 77 0 (lv0 (by decide) (by decide)) (by decide) rfl (fun _ => rfl) rfl hk118 dX9_weigh_56 ?_
          refine lv_topi (fun x119 ex119 => ?_)
          replace h := bd_x ex119 h
          refine lv_istore_n (lv' := [(3, .int x119), (0, .ref (a 9 0)), (1, .int x1), (2, .int x2)]) hx hb dX9_weigh_57 rfl hl (by decide) rfl (fun ls hl => ?_)
          refine lv_aload_n hx hb dX9_weigh_58 rfl (lv_at hl 1 rfl) ?_
          refine r_get C hR 9 0 25 (v := .ref (a 77 0)) (lv0 (by decide) (by decide)) (by decide) (by decide) rfl fl_X9_49 dX9_weigh_59 ?_
          refine lv_iload_n hx hb dX9_weigh_62 rfl (lv_at hl 2 rfl) ?_
          refine lv_iload_n hx hb dX9_weigh_63 rfl (lv_at hl 3 rfl) ?_
          obtain ⟨k120, hk120, h⟩ := ob h
          refine r_ast C hR hS 77 0 (lv0 (by decide) (by decide)) (by decide) rfl (fun _ _ => rfl) rfl hk120 dX9_weigh_64 (fun H locs hR hS => ?_)
          obtain ⟨u121, eu121⟩ : ∃ z : HS, z = wI u116 77 0 k120 x2 := ⟨_, rfl⟩
          rw [← eu121] at hR
          replace h := bd_x eu121 h
          clear eu121
          refine lv_iload_n hx hb dX9_weigh_65 rfl (lv_at hl 0 rfl) ?_
          cases h
          exact e_iret C hr hR hS (Nat.le_of_ble_eq_true rfl) (Nat.le_of_ble_eq_true rfl) dX9_weigh_66
        · rw [if_neg c_117] at h
          refine lv_iconst (v := 0) hx hb dX9_weigh_49 (by decide) ?_
          cases h
          exact e_iret C hr hR hS (Nat.le_of_ble_eq_true rfl) (Nat.le_of_ble_eq_true rfl) dX9_weigh_50
      clear h
      have h := hz
      clear hz
      refine lv_if_ne (tgt := 41) hx hb dX9_weigh_34 (by decide) (fun c_122 => ?_) (fun c_122 => ?_)
      · rw [if_neg c_122] at h
        refine lv_iconst (v := 0) hx hb dX9_weigh_41 (by decide) ?_
        cases h
        exact Kj113 _ _ _ hR hS (lv_sub hl [0, 1, 2] rfl)
      · rw [if_pos c_122] at h
        refine lv_iconst (v := 1) hx hb dX9_weigh_37 (by decide) ?_
        refine lv_goto (tgt := 42) hx hb dX9_weigh_38 (by decide) ?_
        cases h
        exact Kj113 _ _ _ hR hS (lv_sub hl [0, 1, 2] rfl)
  clear h
  have h := hz
  clear hz
  refine lv_if_ne (tgt := 18) hx hb dX9_weigh_11 (by decide) (fun c_123 => ?_) (fun c_123 => ?_)
  · rw [if_neg c_123] at h
    refine lv_iconst (v := 0) hx hb dX9_weigh_18 (by decide) ?_
    cases h
    exact Kj105 _ _ _ hR hS (lv_sub hl [0, 1, 2] rfl)
  · rw [if_pos c_123] at h
    refine lv_iconst (v := 1) hx hb dX9_weigh_14 (by decide) ?_
    refine lv_goto (tgt := 19) hx hb dX9_weigh_15 (by decide) ?_
    cases h
    exact Kj105 _ _ _ hR hS (lv_sub hl [0, 1, 2] rfl)
set_option maxHeartbeats 4000000 in
set_option maxRecDepth 100000 in
theorem vX9_wrong {l : Launch} {E : EV} {a : Nat → Nat → Nat} {u0 : HS} {x1 : Int32} {out : (Int32 × HS)} (h : mX9_wrong u0 x1 = some out) : Ct l E yX9_wrong cX9_wrong 3 (some .int) 1 22 0 0 a u0 [.ref (a 9 0), .int x1] (some (.int out.1)) out.2 := by
  refine Ct.start (by decide) (Nat.le_of_ble_eq_true rfl) ?_
  intro p e s m args below meth c ls C hr hR hS hl
  have C : Cx E p s m args meth c cX9_wrong 3 RX9 := C
  have hl : lv_has ls 3 [(0, .ref (a 9 0)), (1, .int x1)] := hl
  have hx := C.1
  have hb := C.2.1
  unfold mX9_wrong at h
  refine lv_aload_n hx hb dX9_wrong_0 rfl (lv_at hl 0 rfl) ?_
  refine lv_iconst (v := 0) hx hb dX9_wrong_1 (by decide) ?_
  refine r_putI (ty := .int) C hR hS 9 0 0 (lv0 (by decide) (by decide)) (by decide) (by decide) (fun _ => rfl) fl_X9_76 (by decide) (by decide +kernel) rfl rfl dX9_wrong_2 (fun H locs hR hS => ?_)
  obtain ⟨u101, eu101⟩ : ∃ z : HS, z = wI u0 9 0 0 0 := ⟨_, rfl⟩
  rw [← eu101] at hR
  replace h := bd_x eu101 h
  clear eu101
  refine lv_aload_n hx hb dX9_wrong_5 rfl (lv_at hl 0 rfl) ?_
  refine lv_iload_n hx hb dX9_wrong_6 rfl (lv_at hl 1 rfl) ?_
  refine lv_iconst (v := 1) hx hb dX9_wrong_7 (by decide) ?_
  refine lv_bipush (v := 8) hx hb dX9_wrong_8 (by decide) ?_
  obtain ⟨x103, hc102, h⟩ := ob h
  refine r_callS1 (As := [.int x1, .int 1, .int 8]) (rest := [.ref (a 9 0)]) C (vX9_in hc102) hR hS ml_X9_113 ms_X9_in rfl ⟨Nat.le_of_ble_eq_true rfl, Nat.le_of_ble_eq_true rfl, Nat.le_of_ble_eq_true rfl, Nat.le_of_ble_eq_true rfl⟩ hl.1 rfl (Nat.le_of_ble_eq_true rfl) dX9_wrong_10 (fun H locs hR hS => ?_)
  obtain ⟨x104, hz, h⟩ := ob h
  have Kj105 : ∀ (H : Heap) (locs : List Loc) (ls : Array Slot), Rel E a u101 H → va_S (AE E) s.heap H locs → lv_has ls 3 [(0, .ref (a 9 0)), (1, .int x1)] → W p l e { frames := 1, cells := 0, slots := 0, locals := 22 } s m args below meth c H locs 0 0 (MQ below (QW E a (some (.int out.1)) out.2) args s 0 0 (AE E)) (F0 m 21 ls [.int x104, .ref (a 9 0)]) := by
    intro H locs ls hR hS hl
    clear hz
    refine lv_iconst (v := 1) hx hb dX9_wrong_21 (by decide) ?_
    obtain ⟨⟨x107, u108⟩, hc106, h⟩ := ob h
    replace h := bd_x (x := x107) rfl h
    replace h := bd_x (x := u108) rfl h
    refine r_callV1 (As := [.int x104, .int 1]) (rest := []) (r := 9) (i := 0) C (vX9_bad hc106) hR hS (lv0 (by decide) (by decide)) (by decide) ml_X9_162 mw_X9_bad rfl ⟨Nat.le_of_ble_eq_true rfl, Nat.le_of_ble_eq_true rfl, Nat.le_of_ble_eq_true rfl, Nat.le_of_ble_eq_true rfl⟩ hl.1 rfl (Nat.le_of_ble_eq_true rfl) dX9_wrong_22 (fun H locs hR hS => ?_)
    refine lv_if_eq (tgt := 30) hx hb dX9_wrong_25 (by decide) (fun c_109 => ?_) (fun c_109 => ?_)
    · rw [if_pos c_109] at h
      refine lv_aload_n hx hb dX9_wrong_30 rfl (lv_at hl 0 rfl) ?_
      refine r_get C hR 9 0 31 (v := .int (gI u108 9 0 31)) (lv0 (by decide) (by decide)) (by decide) (by decide) rfl fl_X9_58 dX9_wrong_31 ?_
      refine lv_topi (fun x110 ex110 => ?_)
      replace h := bd_x ex110 h
      refine lv_istore_n (lv' := [(2, .int x110), (0, .ref (a 9 0)), (1, .int x1)]) hx hb dX9_wrong_34 rfl hl (by decide) rfl (fun ls hl => ?_)
      refine lv_aload_n hx hb dX9_wrong_35 rfl (lv_at hl 1 rfl) ?_
      refine lv_iload_n hx hb dX9_wrong_36 rfl (lv_at hl 2 rfl) ?_
      refine r_putI (ty := .int) C hR hS 9 0 31 (lv0 (by decide) (by decide)) (by decide) (by decide) (fun _ => rfl) fl_X9_58 (by decide) (by decide +kernel) rfl rfl dX9_wrong_37 (fun H locs hR hS => ?_)
      obtain ⟨u111, eu111⟩ : ∃ z : HS, z = wI u108 9 0 31 x1 := ⟨_, rfl⟩
      rw [← eu111] at hR
      replace h := bd_x eu111 h
      clear eu111
      refine lv_iload_n hx hb dX9_wrong_40 rfl (lv_at hl 0 rfl) ?_
      cases h
      exact e_iret C hr hR hS (Nat.le_of_ble_eq_true rfl) (Nat.le_of_ble_eq_true rfl) dX9_wrong_41
    · rw [if_neg c_109] at h
      refine lv_iconst (v := 0) hx hb dX9_wrong_28 (by decide) ?_
      cases h
      exact e_iret C hr hR hS (Nat.le_of_ble_eq_true rfl) (Nat.le_of_ble_eq_true rfl) dX9_wrong_29
  clear h
  have h := hz
  clear hz
  refine lv_if_ne (tgt := 20) hx hb dX9_wrong_13 (by decide) (fun c_112 => ?_) (fun c_112 => ?_)
  · rw [if_neg c_112] at h
    refine lv_iconst (v := 0) hx hb dX9_wrong_20 (by decide) ?_
    cases h
    exact Kj105 _ _ _ hR hS (lv_sub hl [0, 1] rfl)
  · rw [if_pos c_112] at h
    refine lv_iconst (v := 1) hx hb dX9_wrong_16 (by decide) ?_
    refine lv_goto (tgt := 21) hx hb dX9_wrong_17 (by decide) ?_
    cases h
    exact Kj105 _ _ _ hR hS (lv_sub hl [0, 1] rfl)
set_option maxHeartbeats 4000000 in
set_option maxRecDepth 100000 in
theorem vX9_isAsked {l : Launch} {E : EV} {a : Nat → Nat → Nat} {u0 : HS} {x1 : Int32} {out : Int32} (h : mX9_isAsked u0 x1 = some out) : Ct l E yX9_isAsked cX9_isAsked 2 (some .boolean) 1 23 0 0 a u0 [.ref (a 9 0), .int x1] (some (.int out)) u0 := by
  refine Ct.start (by decide) (Nat.le_of_ble_eq_true rfl) ?_
  intro p e s m args below meth c ls C hr hR hS hl
  have C : Cx E p s m args meth c cX9_isAsked 2 RX9 := C
  have hl : lv_has ls 2 [(0, .ref (a 9 0)), (1, .int x1)] := hl
  have hx := C.1
  have hb := C.2.1
  unfold mX9_isAsked at h
  refine lv_aload_n hx hb dX9_isAsked_0 rfl (lv_at hl 0 rfl) ?_
  refine r_get C hR 9 0 33 (v := .ref (a 80 0)) (lv0 (by decide) (by decide)) (by decide) (by decide) rfl fl_X9_61 dX9_isAsked_1 ?_
  refine lv_iload_n hx hb dX9_isAsked_4 rfl (lv_at hl 1 rfl) ?_
  obtain ⟨k101, hk101, h⟩ := ob h
  have hLk101 : k101 < cntS 81 := by have q1 := (ck_in hk101).2.2; have q2 : cntS 81 = 15 := rfl; omega
  refine r_aald C hR 80 0 81 0 6 (lv0 (by decide) (by decide)) (by decide) rfl rfl rfl (fun _ => rfl) rfl hk101 dX9_isAsked_5 ?_
  refine lv_iconst (v := 2) hx hb dX9_isAsked_6 (by decide) ?_
  obtain ⟨k102, hk102, h⟩ := ob h
  refine r_ald C hR 81 k101 (lv0 hLk101 (by decide)) (by decide) rfl (fun _ => rfl) rfl hk102 dX9_isAsked_7 ?_
  refine lv_if_ne (tgt := 43) hx hb dX9_isAsked_8 (by decide) (fun c_103 => ?_) (fun c_103 => ?_)
  · rw [if_neg c_103] at h
    refine lv_iconst (v := 0) hx hb dX9_isAsked_43 (by decide) ?_
    cases h
    exact e_zret (v := 0) C hr rfl hR hS (Nat.le_of_ble_eq_true rfl) (Nat.le_of_ble_eq_true rfl) dX9_isAsked_44
  · rw [if_pos c_103] at h
    refine lv_aload_n hx hb dX9_isAsked_11 rfl (lv_at hl 0 rfl) ?_
    refine r_get C hR 9 0 33 (v := .ref (a 80 0)) (lv0 (by decide) (by decide)) (by decide) (by decide) rfl fl_X9_61 dX9_isAsked_12 ?_
    refine lv_iload_n hx hb dX9_isAsked_15 rfl (lv_at hl 1 rfl) ?_
    obtain ⟨k104, hk104, h⟩ := ob h
    have hLk104 : k104 < cntS 81 := by have q1 := (ck_in hk104).2.2; have q2 : cntS 81 = 15 := rfl; omega
    refine r_aald C hR 80 0 81 0 6 (lv0 (by decide) (by decide)) (by decide) rfl rfl rfl (fun _ => rfl) rfl hk104 dX9_isAsked_16 ?_
    refine lv_iconst (v := 3) hx hb dX9_isAsked_17 (by decide) ?_
    obtain ⟨k105, hk105, h⟩ := ob h
    refine r_ald C hR 81 k104 (lv0 hLk104 (by decide)) (by decide) rfl (fun _ => rfl) rfl hk105 dX9_isAsked_18 ?_
    refine lv_iconst (v := (-1)) hx hb dX9_isAsked_19 (by decide) ?_
    refine lv_icmp_eq (tgt := 43) hx hb dX9_isAsked_20 (by decide) (fun c_106 => ?_) (fun c_106 => ?_)
    · rw [if_pos c_106] at h
      refine lv_iconst (v := 0) hx hb dX9_isAsked_43 (by decide) ?_
      cases h
      exact e_zret (v := 0) C hr rfl hR hS (Nat.le_of_ble_eq_true rfl) (Nat.le_of_ble_eq_true rfl) dX9_isAsked_44
    · rw [if_neg c_106] at h
      refine lv_aload_n hx hb dX9_isAsked_23 rfl (lv_at hl 0 rfl) ?_
      refine lv_aload_n hx hb dX9_isAsked_24 rfl (lv_at hl 0 rfl) ?_
      refine r_get C hR 9 0 33 (v := .ref (a 80 0)) (lv0 (by decide) (by decide)) (by decide) (by decide) rfl fl_X9_61 dX9_isAsked_25 ?_
      refine lv_iload_n hx hb dX9_isAsked_28 rfl (lv_at hl 1 rfl) ?_
      obtain ⟨k107, hk107, h⟩ := ob h
      have hLk107 : k107 < cntS 81 := by have q1 := (ck_in hk107).2.2; have q2 : cntS 81 = 15 := rfl; omega
      refine r_aald C hR 80 0 81 0 6 (lv0 (by decide) (by decide)) (by decide) rfl rfl rfl (fun _ => rfl) rfl hk107 dX9_isAsked_29 ?_
      refine lv_iconst (v := 0) hx hb dX9_isAsked_30 (by decide) ?_
      obtain ⟨k108, hk108, h⟩ := ob h
      refine r_ald C hR 81 k107 (lv0 hLk107 (by decide)) (by decide) rfl (fun _ => rfl) rfl hk108 dX9_isAsked_31 ?_
      obtain ⟨x110, hc109, h⟩ := ob h
      refine r_callV1 (As := [.int (gI u0 81 k107 k108)]) (rest := []) (r := 9) (i := 0) C (vX9_oddOf hc109) hR hS (lv0 (by decide) (by decide)) (by decide) ml_X9_263 mw_X9_oddOf rfl ⟨Nat.le_of_ble_eq_true rfl, Nat.le_of_ble_eq_true rfl, Nat.le_of_ble_eq_true rfl, Nat.le_of_ble_eq_true rfl⟩ hl.1 rfl (Nat.le_of_ble_eq_true rfl) dX9_isAsked_32 (fun H locs hR hS => ?_)
      refine lv_iconst (v := (-1)) hx hb dX9_isAsked_35 (by decide) ?_
      refine lv_icmp_eq (tgt := 43) hx hb dX9_isAsked_36 (by decide) (fun c_111 => ?_) (fun c_111 => ?_)
      · rw [if_pos c_111] at h
        refine lv_iconst (v := 0) hx hb dX9_isAsked_43 (by decide) ?_
        cases h
        exact e_zret (v := 0) C hr rfl hR hS (Nat.le_of_ble_eq_true rfl) (Nat.le_of_ble_eq_true rfl) dX9_isAsked_44
      · rw [if_neg c_111] at h
        refine lv_iconst (v := 1) hx hb dX9_isAsked_39 (by decide) ?_
        refine lv_goto (tgt := 44) hx hb dX9_isAsked_40 (by decide) ?_
        cases h
        exact e_zret (v := 1) C hr rfl hR hS (Nat.le_of_ble_eq_true rfl) (Nat.le_of_ble_eq_true rfl) dX9_isAsked_44
set_option maxHeartbeats 4000000 in
set_option maxRecDepth 100000 in
theorem vX9_isAlike {l : Launch} {E : EV} {a : Nat → Nat → Nat} {u0 : HS} {x1 : Int32} {x2 : Int32} {out : (Int32 × HS)} (h : mX9_isAlike u0 x1 x2 = some out) : Ct l E yX9_isAlike cX9_isAlike 3 (some .boolean) 11 275 0 0 a u0 [.ref (a 9 0), .int x1, .int x2] (some (.int out.1)) out.2 := by
  refine Ct.start (by decide) (Nat.le_of_ble_eq_true rfl) ?_
  intro p e s m args below meth c ls C hr hR hS hl
  have C : Cx E p s m args meth c cX9_isAlike 3 RX9 := C
  have hl : lv_has ls 3 [(0, .ref (a 9 0)), (1, .int x1), (2, .int x2)] := hl
  have hx := C.1
  have hb := C.2.1
  unfold mX9_isAlike at h
  refine lv_aload_n hx hb dX9_isAlike_0 rfl (lv_at hl 0 rfl) ?_
  refine lv_iload_n hx hb dX9_isAlike_1 rfl (lv_at hl 1 rfl) ?_
  refine lv_iload_n hx hb dX9_isAlike_2 rfl (lv_at hl 2 rfl) ?_
  refine lv_iconst (v := 0) hx hb dX9_isAlike_3 (by decide) ?_
  obtain ⟨⟨x102, u103⟩, hc101, h⟩ := ob h
  replace h := bd_x (x := x102) rfl h
  replace h := bd_x (x := u103) rfl h
  refine r_callV1 (As := [.int x1, .int x2, .int 0]) (rest := []) (r := 9) (i := 0) C (vX9_saysBy hc101) hR hS (lv0 (by decide) (by decide)) (by decide) ml_X9_369 mw_X9_saysBy rfl ⟨Nat.le_of_ble_eq_true rfl, Nat.le_of_ble_eq_true rfl, Nat.le_of_ble_eq_true rfl, Nat.le_of_ble_eq_true rfl⟩ hl.1 rfl (Nat.le_of_ble_eq_true rfl) dX9_isAlike_4 (fun H locs hR hS => ?_)
  refine lv_aload_n hx hb dX9_isAlike_7 rfl (lv_at hl 0 rfl) ?_
  refine r_get C hR 9 0 33 (v := .ref (a 80 0)) (lv0 (by decide) (by decide)) (by decide) (by decide) rfl fl_X9_61 dX9_isAlike_8 ?_
  refine lv_iload_n hx hb dX9_isAlike_11 rfl (lv_at hl 2 rfl) ?_
  obtain ⟨k104, hk104, h⟩ := ob h
  have hLk104 : k104 < cntS 81 := by have q1 := (ck_in hk104).2.2; have q2 : cntS 81 = 15 := rfl; omega
  refine r_aald C hR 80 0 81 0 6 (lv0 (by decide) (by decide)) (by decide) rfl rfl rfl (fun _ => rfl) rfl hk104 dX9_isAlike_12 ?_
  refine lv_iconst (v := 3) hx hb dX9_isAlike_13 (by decide) ?_
  obtain ⟨k105, hk105, h⟩ := ob h
  refine r_ald C hR 81 k104 (lv0 hLk104 (by decide)) (by decide) rfl (fun _ => rfl) rfl hk105 dX9_isAlike_14 ?_
  refine lv_iconst (v := 1) hx hb dX9_isAlike_15 (by decide) ?_
  obtain ⟨x106, hz, h⟩ := ob h
  have Kj107 : ∀ (H : Heap) (locs : List Loc) (ls : Array Slot), Rel E a u103 H → va_S (AE E) s.heap H locs → lv_has ls 3 [] → W p l e { frames := 11, cells := 0, slots := 0, locals := 275 } s m args below meth c H locs 0 0 (MQ below (QW E a (some (.int out.1)) out.2) args s 0 0 (AE E)) (F0 m 24 ls [.int x106, .int x102]) := by
    intro H locs ls hR hS hl
    clear hz
    refine lv_icmp_ne (tgt := 31) hx hb dX9_isAlike_24 (by decide) (fun c_108 => ?_) (fun c_108 => ?_)
    · rw [if_neg c_108] at h
      refine lv_iconst (v := 0) hx hb dX9_isAlike_31 (by decide) ?_
      cases h
      exact e_zret (v := 0) C hr rfl hR hS (Nat.le_of_ble_eq_true rfl) (Nat.le_of_ble_eq_true rfl) dX9_isAlike_32
    · rw [if_pos c_108] at h
      refine lv_iconst (v := 1) hx hb dX9_isAlike_27 (by decide) ?_
      refine lv_goto (tgt := 32) hx hb dX9_isAlike_28 (by decide) ?_
      cases h
      exact e_zret (v := 1) C hr rfl hR hS (Nat.le_of_ble_eq_true rfl) (Nat.le_of_ble_eq_true rfl) dX9_isAlike_32
  clear h
  have h := hz
  clear hz
  refine lv_icmp_ne (tgt := 23) hx hb dX9_isAlike_16 (by decide) (fun c_109 => ?_) (fun c_109 => ?_)
  · rw [if_neg c_109] at h
    refine lv_iconst (v := 0) hx hb dX9_isAlike_23 (by decide) ?_
    cases h
    exact Kj107 _ _ _ hR hS (lv_sub hl [] rfl)
  · rw [if_pos c_109] at h
    refine lv_iconst (v := 1) hx hb dX9_isAlike_19 (by decide) ?_
    refine lv_goto (tgt := 24) hx hb dX9_isAlike_20 (by decide) ?_
    cases h
    exact Kj107 _ _ _ hR hS (lv_sub hl [] rfl)
set_option maxHeartbeats 4000000 in
set_option maxRecDepth 100000 in
theorem vX9_oddsOf {l : Launch} {E : EV} {a : Nat → Nat → Nat} {u0 : HS} {x1 : Int32} {out : (Int64 × HS)} (h : mX9_oddsOf u0 x1 = some out) : Ct l E yX9_oddsOf cX9_oddsOf 5 (some .long) 12 297 0 0 a u0 [.ref (a 9 0), .int x1] (some (.long out.1)) out.2 := by
  refine Ct.start (by decide) (Nat.le_of_ble_eq_true rfl) ?_
  intro p e s m args below meth c ls C hr hR hS hl
  have C : Cx E p s m args meth c cX9_oddsOf 5 RX9 := C
  have hl : lv_has ls 5 [(0, .ref (a 9 0)), (1, .int x1)] := hl
  have hx := C.1
  have hb := C.2.1
  unfold mX9_oddsOf at h
  refine lv_aload_n hx hb dX9_oddsOf_0 rfl (lv_at hl 0 rfl) ?_
  refine r_get C hR 9 0 25 (v := .ref (a 77 0)) (lv0 (by decide) (by decide)) (by decide) (by decide) rfl fl_X9_49 dX9_oddsOf_1 ?_
  refine lv_iload_n hx hb dX9_oddsOf_4 rfl (lv_at hl 1 rfl) ?_
  obtain ⟨k101, hk101, h⟩ := ob h
  refine r_ald C hR 77 0 (lv0 (by decide) (by decide)) (by decide) rfl (fun _ => rfl) rfl hk101 dX9_oddsOf_5 ?_
  refine lv_i2l (v := (gI u0 77 0 k101).toInt64) hx hb dX9_oddsOf_6 rfl ?_
  refine lv_topl (fun y102 ey102 => ?_)
  replace h := bd_x ey102 h
  refine lv_lstore_n (lv' := [(2, .long y102), (0, .ref (a 9 0)), (1, .int x1)]) hx hb dX9_oddsOf_7 rfl hl (by decide) rfl (fun ls hl => ?_)
  refine lv_iconst (v := 0) hx hb dX9_oddsOf_8 (by decide) ?_
  refine lv_istore (lv' := [(4, .int 0), (2, .long y102), (0, .ref (a 9 0)), (1, .int x1)]) hx hb dX9_oddsOf_9 hl (by decide) rfl (fun ls hl => ?_)
  refine jp_cut h (fun w108 hw108 h => ?_)
  have Kw108 : ∀ (y106 : Int64) (u107 : HS) (H : Heap) (locs : List Loc) (ls : Array Slot), w108 y106 u107 = some out → Rel E a u107 H → va_S (AE E) s.heap H locs → lv_has ls 5 [(2, .long y106)] → W p l e { frames := 12, cells := 0, slots := 0, locals := 297 } s m args below meth c H locs 0 0 (MQ below (QW E a (some (.long out.1)) out.2) args s 0 0 (AE E)) (F0 m 64 ls []) := by
    intro y106 u107 H locs ls h hR hS hl
    replace h := jx2 hw108 h
    refine lv_lload_n hx hb dX9_oddsOf_64 rfl (lv_at hl 0 rfl) ?_
    cases h
    exact e_lret C hr hR hS (Nat.le_of_ble_eq_true rfl) (Nat.le_of_ble_eq_true rfl) dX9_oddsOf_65
  have LP : ∀ (fu : Nat) (y103 : Int64) (x104 : Int32) (u105 : HS) (H : Heap) (locs : List Loc) (ls : Array Slot), mX9_oddsOf_L11 x1 w108 fu y103 x104 u105 = some out → Rel E a u105 H → va_S (AE E) s.heap H locs → lv_has ls 5 [(0, .ref (a 9 0)), (1, .int x1), (2, .long y103), (4, .int x104)] → W p l e { frames := 12, cells := 0, slots := 0, locals := 297 } s m args below meth c H locs 0 0 (MQ below (QW E a (some (.long out.1)) out.2) args s 0 0 (AE E)) (F0 m 11 ls []) := by
    intro fu
    induction fu with
    | zero =>
      intro y103 x104 u105 H locs ls h
      have h2 : (none : Option (Int64 × HS)) = some out := h
      cases h2
    | succ fu ih =>
      intro y103 x104 u105 H locs ls h hR hS hl
      rw [mX9_oddsOf_L11.eq_2] at h
      refine lv_iload hx hb dX9_oddsOf_11 (lv_at hl 3 rfl) ?_
      refine lv_aload_n hx hb dX9_oddsOf_13 rfl (lv_at hl 0 rfl) ?_
      refine r_get C hR 9 0 28 (v := .int (gI u105 9 0 28)) (lv0 (by decide) (by decide)) (by decide) (by decide) rfl fl_X9_288 dX9_oddsOf_14 ?_
      refine lv_icmp_ge (tgt := 64) hx hb dX9_oddsOf_17 (by decide) (fun c_109 => ?_) (fun c_109 => ?_)
      · rw [if_pos c_109] at h
        exact Kw108 _ _ _ _ _ h hR hS (lv_sub hl [2] rfl)
      · rw [if_neg c_109] at h
        refine lv_aload_n hx hb dX9_oddsOf_20 rfl (lv_at hl 0 rfl) ?_
        refine lv_iload hx hb dX9_oddsOf_21 (lv_at hl 3 rfl) ?_
        obtain ⟨x111, hc110, h⟩ := ob h
        refine r_callV1 (As := [.int x104]) (rest := []) (r := 9) (i := 0) C (vX9_isAsked hc110) hR hS (lv0 (by decide) (by decide)) (by decide) ml_X9_407 mw_X9_isAsked rfl ⟨Nat.le_of_ble_eq_true rfl, Nat.le_of_ble_eq_true rfl, Nat.le_of_ble_eq_true rfl, Nat.le_of_ble_eq_true rfl⟩ hl.1 rfl (Nat.le_of_ble_eq_true rfl) dX9_oddsOf_23 (fun H locs hR hS => ?_)
        refine jp_cut h (fun j114 hj114 h => ?_)
        have Kj114 : ∀ (y112 : Int64) (u113 : HS) (H : Heap) (locs : List Loc) (ls : Array Slot), j114 y112 u113 = some out → Rel E a u113 H → va_S (AE E) s.heap H locs → lv_has ls 5 [(0, .ref (a 9 0)), (1, .int x1), (2, .long y112), (4, .int x104)] → W p l e { frames := 12, cells := 0, slots := 0, locals := 297 } s m args below meth c H locs 0 0 (MQ below (QW E a (some (.long out.1)) out.2) args s 0 0 (AE E)) (F0 m 58 ls []) := by
          intro y112 u113 H locs ls h hR hS hl
          replace h := jx2 hj114 h
          obtain ⟨x115, ex115⟩ : ∃ z : Int32, z = x104 + 1 := ⟨_, rfl⟩
          replace h := bd_x ex115 h
          refine lv_iinc (v := x115) (lv' := [(4, .int x115), (0, .ref (a 9 0)), (1, .int x1), (2, .long y112)]) hx hb dX9_oddsOf_58 hl (k := 3) rfl (by rw [ex115]; rfl) (by decide) rfl (fun ls hl => ?_)
          refine lv_goto (tgt := 11) hx hb dX9_oddsOf_61 (by decide) ?_
          exact ih _ _ _ _ _ _ h hR hS (lv_sub hl [1, 2, 3, 0] rfl)
        refine lv_if_eq (tgt := 58) hx hb dX9_oddsOf_26 (by decide) (fun c_116 => ?_) (fun c_116 => ?_)
        · rw [if_pos c_116] at h
          exact Kj114 _ _ _ _ _ h hR hS (lv_sub hl [0, 1, 2, 3] rfl)
        · rw [if_neg c_116] at h
          refine lv_lload_n hx hb dX9_oddsOf_29 rfl (lv_at hl 2 rfl) ?_
          refine lv_aload_n hx hb dX9_oddsOf_30 rfl (lv_at hl 0 rfl) ?_
          refine lv_iload_n hx hb dX9_oddsOf_31 rfl (lv_at hl 1 rfl) ?_
          refine lv_iload hx hb dX9_oddsOf_32 (lv_at hl 3 rfl) ?_
          obtain ⟨⟨x118, u119⟩, hc117, h⟩ := ob h
          replace h := bd_x (x := x118) rfl h
          replace h := bd_x (x := u119) rfl h
          refine r_callV1 (As := [.int x1, .int x104]) (rest := [.long y103]) (r := 9) (i := 0) C (vX9_isAlike hc117) hR hS (lv0 (by decide) (by decide)) (by decide) ml_X9_410 mw_X9_isAlike rfl ⟨Nat.le_of_ble_eq_true rfl, Nat.le_of_ble_eq_true rfl, Nat.le_of_ble_eq_true rfl, Nat.le_of_ble_eq_true rfl⟩ hl.1 rfl (Nat.le_of_ble_eq_true rfl) dX9_oddsOf_34 (fun H locs hR hS => ?_)
          obtain ⟨y120, hz, h⟩ := ob h
          have Kj121 : ∀ (H : Heap) (locs : List Loc) (ls : Array Slot), Rel E a u119 H → va_S (AE E) s.heap H locs → lv_has ls 5 [(0, .ref (a 9 0)), (1, .int x1), (4, .int x104)] → W p l e { frames := 12, cells := 0, slots := 0, locals := 297 } s m args below meth c H locs 0 0 (MQ below (QW E a (some (.long out.1)) out.2) args s 0 0 (AE E)) (F0 m 56 ls [.long y120, .long y103]) := by
            intro H locs ls hR hS hl
            clear hz
            refine lv_lmul hx hb dX9_oddsOf_56 ?_
            refine lv_topl (fun y122 ey122 => ?_)
            replace h := bd_x ey122 h
            refine lv_lstore_n (lv' := [(2, .long y122), (0, .ref (a 9 0)), (1, .int x1), (4, .int x104)]) hx hb dX9_oddsOf_57 rfl hl (by decide) rfl (fun ls hl => ?_)
            exact Kj114 _ _ _ _ _ h hR hS (lv_sub hl [1, 2, 0, 3] rfl)
          clear h
          have h := hz
          clear hz
          refine lv_if_eq (tgt := 51) hx hb dX9_oddsOf_37 (by decide) (fun c_123 => ?_) (fun c_123 => ?_)
          · rw [if_pos c_123] at h
            refine lv_aload_n hx hb dX9_oddsOf_51 rfl (lv_at hl 0 rfl) ?_
            refine r_get C hR 9 0 31 (v := .int (gI u119 9 0 31)) (lv0 (by decide) (by decide)) (by decide) (by decide) rfl fl_X9_58 dX9_oddsOf_52 ?_
            refine lv_i2l (v := (gI u119 9 0 31).toInt64) hx hb dX9_oddsOf_55 rfl ?_
            cases h
            exact Kj121 _ _ _ hR hS (lv_sub hl [0, 1, 3] rfl)
          · rw [if_neg c_123] at h
            refine lv_bipush (v := 16) hx hb dX9_oddsOf_40 (by decide) ?_
            refine lv_aload_n hx hb dX9_oddsOf_42 rfl (lv_at hl 0 rfl) ?_
            refine r_get C hR 9 0 31 (v := .int (gI u119 9 0 31)) (lv0 (by decide) (by decide)) (by decide) (by decide) rfl fl_X9_58 dX9_oddsOf_43 ?_
            refine lv_isub hx hb dX9_oddsOf_46 ?_
            refine lv_i2l (v := (16 - (gI u119 9 0 31)).toInt64) hx hb dX9_oddsOf_47 rfl ?_
            refine lv_goto (tgt := 56) hx hb dX9_oddsOf_48 (by decide) ?_
            cases h
            exact Kj121 _ _ _ hR hS (lv_sub hl [0, 1, 3] rfl)
  exact LP FU _ _ _ _ _ _ h hR hS (lv_sub hl [2, 3, 1, 0] rfl)
set_option maxHeartbeats 4000000 in
set_option maxRecDepth 100000 in
theorem vX9_odds {l : Launch} {E : EV} {a : Nat → Nat → Nat} {u0 : HS} {x1 : Int32} {out : (Int64 × HS)} (h : mX9_odds u0 x1 = some out) : Ct l E yX9_odds cX9_odds 2 (some .long) 13 321 0 0 a u0 [.ref (a 9 0), .int x1] (some (.long out.1)) out.2 := by
  refine Ct.start (by decide) (Nat.le_of_ble_eq_true rfl) ?_
  intro p e s m args below meth c ls C hr hR hS hl
  have C : Cx E p s m args meth c cX9_odds 2 RX9 := C
  have hl : lv_has ls 2 [(0, .ref (a 9 0)), (1, .int x1)] := hl
  have hx := C.1
  have hb := C.2.1
  unfold mX9_odds at h
  refine lv_aload_n hx hb dX9_odds_0 rfl (lv_at hl 0 rfl) ?_
  refine lv_iconst (v := 0) hx hb dX9_odds_1 (by decide) ?_
  refine r_putI (ty := .int) C hR hS 9 0 0 (lv0 (by decide) (by decide)) (by decide) (by decide) (fun _ => rfl) fl_X9_76 (by decide) (by decide +kernel) rfl rfl dX9_odds_2 (fun H locs hR hS => ?_)
  obtain ⟨u101, eu101⟩ : ∃ z : HS, z = wI u0 9 0 0 0 := ⟨_, rfl⟩
  rw [← eu101] at hR
  replace h := bd_x eu101 h
  clear eu101
  refine lv_aload_n hx hb dX9_odds_5 rfl (lv_at hl 0 rfl) ?_
  refine lv_aload_n hx hb dX9_odds_6 rfl (lv_at hl 0 rfl) ?_
  refine lv_iload_n hx hb dX9_odds_7 rfl (lv_at hl 1 rfl) ?_
  obtain ⟨x103, hc102, h⟩ := ob h
  refine r_callV1 (As := [.int x1]) (rest := [.ref (a 9 0)]) (r := 9) (i := 0) C (vX9_isLaw hc102) hR hS (lv0 (by decide) (by decide)) (by decide) ml_X9_357 mw_X9_isLaw rfl ⟨Nat.le_of_ble_eq_true rfl, Nat.le_of_ble_eq_true rfl, Nat.le_of_ble_eq_true rfl, Nat.le_of_ble_eq_true rfl⟩ hl.1 rfl (Nat.le_of_ble_eq_true rfl) dX9_odds_8 (fun H locs hR hS => ?_)
  obtain ⟨x104, hz, h⟩ := ob h
  have Kj105 : ∀ (H : Heap) (locs : List Loc) (ls : Array Slot), Rel E a u101 H → va_S (AE E) s.heap H locs → lv_has ls 2 [(0, .ref (a 9 0)), (1, .int x1)] → W p l e { frames := 13, cells := 0, slots := 0, locals := 321 } s m args below meth c H locs 0 0 (MQ below (QW E a (some (.long out.1)) out.2) args s 0 0 (AE E)) (F0 m 19 ls [.int x104, .ref (a 9 0)]) := by
    intro H locs ls hR hS hl
    clear hz
    refine lv_iconst (v := 1) hx hb dX9_odds_19 (by decide) ?_
    obtain ⟨⟨x107, u108⟩, hc106, h⟩ := ob h
    replace h := bd_x (x := x107) rfl h
    replace h := bd_x (x := u108) rfl h
    refine r_callV1 (As := [.int x104, .int 1]) (rest := []) (r := 9) (i := 0) C (vX9_bad hc106) hR hS (lv0 (by decide) (by decide)) (by decide) ml_X9_162 mw_X9_bad rfl ⟨Nat.le_of_ble_eq_true rfl, Nat.le_of_ble_eq_true rfl, Nat.le_of_ble_eq_true rfl, Nat.le_of_ble_eq_true rfl⟩ hl.1 rfl (Nat.le_of_ble_eq_true rfl) dX9_odds_20 (fun H locs hR hS => ?_)
    refine lv_if_eq (tgt := 28) hx hb dX9_odds_23 (by decide) (fun c_109 => ?_) (fun c_109 => ?_)
    · rw [if_pos c_109] at h
      refine lv_aload_n hx hb dX9_odds_28 rfl (lv_at hl 0 rfl) ?_
      refine lv_iload_n hx hb dX9_odds_29 rfl (lv_at hl 1 rfl) ?_
      obtain ⟨⟨y111, u112⟩, hc110, h⟩ := ob h
      replace h := bd_x (x := y111) rfl h
      replace h := bd_x (x := u112) rfl h
      refine r_callV1 (As := [.int x1]) (rest := []) (r := 9) (i := 0) C (vX9_oddsOf hc110) hR hS (lv0 (by decide) (by decide)) (by decide) ml_X9_413 mw_X9_oddsOf rfl ⟨Nat.le_of_ble_eq_true rfl, Nat.le_of_ble_eq_true rfl, Nat.le_of_ble_eq_true rfl, Nat.le_of_ble_eq_true rfl⟩ hl.1 rfl (Nat.le_of_ble_eq_true rfl) dX9_odds_30 (fun H locs hR hS => ?_)
      cases h
      exact e_lret C hr hR hS (Nat.le_of_ble_eq_true rfl) (Nat.le_of_ble_eq_true rfl) dX9_odds_33
    · rw [if_neg c_109] at h
      refine lv_lconst (v := 0) hx hb dX9_odds_26 (by decide) ?_
      cases h
      exact e_lret C hr hR hS (Nat.le_of_ble_eq_true rfl) (Nat.le_of_ble_eq_true rfl) dX9_odds_27
  clear h
  have h := hz
  clear hz
  refine lv_if_ne (tgt := 18) hx hb dX9_odds_11 (by decide) (fun c_113 => ?_) (fun c_113 => ?_)
  · rw [if_neg c_113] at h
    refine lv_iconst (v := 0) hx hb dX9_odds_18 (by decide) ?_
    cases h
    exact Kj105 _ _ _ hR hS (lv_sub hl [0, 1] rfl)
  · rw [if_pos c_113] at h
    refine lv_iconst (v := 1) hx hb dX9_odds_14 (by decide) ?_
    refine lv_goto (tgt := 19) hx hb dX9_odds_15 (by decide) ?_
    cases h
    exact Kj105 _ _ _ hR hS (lv_sub hl [0, 1] rfl)
set_option maxHeartbeats 4000000 in
set_option maxRecDepth 100000 in
theorem vX9_best {l : Launch} {E : EV} {a : Nat → Nat → Nat} {u0 : HS}  {out : (Int32 × HS)} (h : mX9_best u0 = some out) : Ct l E yX9_best cX9_best 7 (some .int) 13 321 0 0 a u0 [.ref (a 9 0)] (some (.int out.1)) out.2 := by
  refine Ct.start (by decide) (Nat.le_of_ble_eq_true rfl) ?_
  intro p e s m args below meth c ls C hr hR hS hl
  have C : Cx E p s m args meth c cX9_best 7 RX9 := C
  have hl : lv_has ls 7 [(0, .ref (a 9 0))] := hl
  have hx := C.1
  have hb := C.2.1
  unfold mX9_best at h
  refine lv_aload_n hx hb dX9_best_0 rfl (lv_at hl 0 rfl) ?_
  refine lv_iconst (v := 0) hx hb dX9_best_1 (by decide) ?_
  refine r_putI (ty := .int) C hR hS 9 0 0 (lv0 (by decide) (by decide)) (by decide) (by decide) (fun _ => rfl) fl_X9_76 (by decide) (by decide +kernel) rfl rfl dX9_best_2 (fun H locs hR hS => ?_)
  obtain ⟨u101, eu101⟩ : ∃ z : HS, z = wI u0 9 0 0 0 := ⟨_, rfl⟩
  rw [← eu101] at hR
  replace h := bd_x eu101 h
  clear eu101
  refine lv_iconst (v := (-1)) hx hb dX9_best_5 (by decide) ?_
  refine lv_istore_n (lv' := [(1, .int (-1)), (0, .ref (a 9 0))]) hx hb dX9_best_6 rfl hl (by decide) rfl (fun ls hl => ?_)
  refine lv_lconst (v := 0) hx hb dX9_best_7 (by decide) ?_
  refine lv_lstore_n (lv' := [(2, .long 0), (1, .int (-1)), (0, .ref (a 9 0))]) hx hb dX9_best_8 rfl hl (by decide) rfl (fun ls hl => ?_)
  refine lv_iconst (v := 0) hx hb dX9_best_9 (by decide) ?_
  refine lv_istore (lv' := [(4, .int 0), (2, .long 0), (1, .int (-1)), (0, .ref (a 9 0))]) hx hb dX9_best_10 hl (by decide) rfl (fun ls hl => ?_)
  refine jp_cut h (fun w108 hw108 h => ?_)
  have Kw108 : ∀ (x106 : Int32) (u107 : HS) (H : Heap) (locs : List Loc) (ls : Array Slot), w108 x106 u107 = some out → Rel E a u107 H → va_S (AE E) s.heap H locs → lv_has ls 7 [(1, .int x106)] → W p l e { frames := 13, cells := 0, slots := 0, locals := 321 } s m args below meth c H locs 0 0 (MQ below (QW E a (some (.int out.1)) out.2) args s 0 0 (AE E)) (F0 m 63 ls []) := by
    intro x106 u107 H locs ls h hR hS hl
    replace h := jx2 hw108 h
    refine lv_iload_n hx hb dX9_best_63 rfl (lv_at hl 0 rfl) ?_
    cases h
    exact e_iret C hr hR hS (Nat.le_of_ble_eq_true rfl) (Nat.le_of_ble_eq_true rfl) dX9_best_64
  have LP : ∀ (fu : Nat) (x102 : Int32) (y103 : Int64) (x104 : Int32) (u105 : HS) (H : Heap) (locs : List Loc) (ls : Array Slot), mX9_best_L12  w108 fu x102 y103 x104 u105 = some out → Rel E a u105 H → va_S (AE E) s.heap H locs → lv_has ls 7 [(0, .ref (a 9 0)), (1, .int x102), (2, .long y103), (4, .int x104)] → W p l e { frames := 13, cells := 0, slots := 0, locals := 321 } s m args below meth c H locs 0 0 (MQ below (QW E a (some (.int out.1)) out.2) args s 0 0 (AE E)) (F0 m 12 ls []) := by
    intro fu
    induction fu with
    | zero =>
      intro x102 y103 x104 u105 H locs ls h
      have h2 : (none : Option (Int32 × HS)) = some out := h
      cases h2
    | succ fu ih =>
      intro x102 y103 x104 u105 H locs ls h hR hS hl
      rw [mX9_best_L12.eq_2] at h
      refine lv_iload hx hb dX9_best_12 (lv_at hl 3 rfl) ?_
      refine lv_aload_n hx hb dX9_best_14 rfl (lv_at hl 0 rfl) ?_
      refine r_get C hR 9 0 16 (v := .int (gI u105 9 0 16)) (lv0 (by decide) (by decide)) (by decide) (by decide) rfl fl_X9_219 dX9_best_15 ?_
      refine lv_icmp_ge (tgt := 63) hx hb dX9_best_18 (by decide) (fun c_109 => ?_) (fun c_109 => ?_)
      · rw [if_pos c_109] at h
        exact Kw108 _ _ _ _ _ h hR hS (lv_sub hl [1] rfl)
      · rw [if_neg c_109] at h
        refine lv_aload_n hx hb dX9_best_21 rfl (lv_at hl 0 rfl) ?_
        refine lv_iload hx hb dX9_best_22 (lv_at hl 3 rfl) ?_
        obtain ⟨⟨y111, u112⟩, hc110, h⟩ := ob h
        replace h := bd_x (x := y111) rfl h
        replace h := bd_x (x := u112) rfl h
        refine r_callV1 (As := [.int x104]) (rest := []) (r := 9) (i := 0) C (vX9_oddsOf hc110) hR hS (lv0 (by decide) (by decide)) (by decide) ml_X9_413 mw_X9_oddsOf rfl ⟨Nat.le_of_ble_eq_true rfl, Nat.le_of_ble_eq_true rfl, Nat.le_of_ble_eq_true rfl, Nat.le_of_ble_eq_true rfl⟩ hl.1 rfl (Nat.le_of_ble_eq_true rfl) dX9_best_24 (fun H locs hR hS => ?_)
        refine lv_lstore (lv' := [(5, .long y111), (0, .ref (a 9 0)), (1, .int x102), (2, .long y103), (4, .int x104)]) hx hb dX9_best_27 hl (by decide) rfl (fun ls hl => ?_)
        refine lv_lload hx hb dX9_best_29 (lv_at hl 0 rfl) ?_
        refine lv_lload_n hx hb dX9_best_31 rfl (lv_at hl 3 rfl) ?_
        refine W.lcmp hx hb dX9_best_32 ?_
        obtain ⟨x113, hz, h⟩ := ob h
        have Kj114 : ∀ (H : Heap) (locs : List Loc) (ls : Array Slot), Rel E a u112 H → va_S (AE E) s.heap H locs → lv_has ls 7 [(0, .ref (a 9 0)), (2, .long y103), (4, .int x104), (5, .long y111)] → W p l e { frames := 13, cells := 0, slots := 0, locals := 321 } s m args below meth c H locs 0 0 (MQ below (QW E a (some (.int out.1)) out.2) args s 0 0 (AE E)) (F0 m 42 ls [.int x113]) := by
          intro H locs ls hR hS hl
          clear hz
          refine lv_istore_n (lv' := [(1, .int x113), (0, .ref (a 9 0)), (2, .long y103), (4, .int x104), (5, .long y111)]) hx hb dX9_best_42 rfl hl (by decide) rfl (fun ls hl => ?_)
          refine lv_lload hx hb dX9_best_43 (lv_at hl 4 rfl) ?_
          refine lv_lload_n hx hb dX9_best_45 rfl (lv_at hl 2 rfl) ?_
          refine W.lcmp hx hb dX9_best_46 ?_
          obtain ⟨y115, hz, h⟩ := ob h
          have Kj116 : ∀ (H : Heap) (locs : List Loc) (ls : Array Slot), Rel E a u112 H → va_S (AE E) s.heap H locs → lv_has ls 7 [(0, .ref (a 9 0)), (1, .int x113), (4, .int x104)] → W p l e { frames := 13, cells := 0, slots := 0, locals := 321 } s m args below meth c H locs 0 0 (MQ below (QW E a (some (.int out.1)) out.2) args s 0 0 (AE E)) (F0 m 56 ls [.long y115]) := by
            intro H locs ls hR hS hl
            clear hz
            refine lv_lstore_n (lv' := [(2, .long y115), (0, .ref (a 9 0)), (1, .int x113), (4, .int x104)]) hx hb dX9_best_56 rfl hl (by decide) rfl (fun ls hl => ?_)
            obtain ⟨x117, ex117⟩ : ∃ z : Int32, z = x104 + 1 := ⟨_, rfl⟩
            replace h := bd_x ex117 h
            refine lv_iinc (v := x117) (lv' := [(4, .int x117), (2, .long y115), (0, .ref (a 9 0)), (1, .int x113)]) hx hb dX9_best_57 hl (k := 3) rfl (by rw [ex117]; rfl) (by decide) rfl (fun ls hl => ?_)
            refine lv_goto (tgt := 12) hx hb dX9_best_60 (by decide) ?_
            exact ih _ _ _ _ _ _ _ h hR hS (lv_sub hl [2, 3, 1, 0] rfl)
          clear h
          have h := hz
          clear hz
          refine lv_if_le (tgt := 55) hx hb dX9_best_47 (by decide) (fun c_118 => ?_) (fun c_118 => ?_)
          · rw [if_pos c_118] at h
            refine lv_lload_n hx hb dX9_best_55 rfl (lv_at hl 2 rfl) ?_
            cases h
            exact Kj116 _ _ _ hR hS (lv_sub hl [1, 0, 3] rfl)
          · rw [if_neg c_118] at h
            refine lv_lload hx hb dX9_best_50 (lv_at hl 4 rfl) ?_
            refine lv_goto (tgt := 56) hx hb dX9_best_52 (by decide) ?_
            cases h
            exact Kj116 _ _ _ hR hS (lv_sub hl [1, 0, 3] rfl)
        clear h
        have h := hz
        clear hz
        refine lv_if_le (tgt := 41) hx hb dX9_best_33 (by decide) (fun c_119 => ?_) (fun c_119 => ?_)
        · rw [if_pos c_119] at h
          refine lv_iload_n hx hb dX9_best_41 rfl (lv_at hl 2 rfl) ?_
          cases h
          exact Kj114 _ _ _ hR hS (lv_sub hl [1, 3, 4, 0] rfl)
        · rw [if_neg c_119] at h
          refine lv_iload hx hb dX9_best_36 (lv_at hl 4 rfl) ?_
          refine lv_goto (tgt := 42) hx hb dX9_best_38 (by decide) ?_
          cases h
          exact Kj114 _ _ _ hR hS (lv_sub hl [1, 3, 4, 0] rfl)
  exact LP FU _ _ _ _ _ _ _ h hR hS (lv_sub hl [3, 2, 1, 0] rfl)
