set_option maxHeartbeats 4000000 in
set_option maxRecDepth 100000 in
theorem vX9_fitting {l : Launch} {E : EV} {a : Nat → Nat → Nat} {u0 : HS} {x1 : Int32} {out : (Int32 × HS)} (h : mX9_fitting u0 x1 = some out) : Ct l E yX9_fitting cX9_fitting 6 (some .int) 12 297 0 0 a u0 [.ref (a 9 0), .int x1] (some (.int out.1)) out.2 := by
  refine Ct.start (by decide) (Nat.le_of_ble_eq_true rfl) ?_
  intro p e s m args below meth c ls C hr hR hS hl
  have C : Cx E p s m args meth c cX9_fitting 6 RX9 := C
  have hl : lv_has ls 6 [(0, .ref (a 9 0)), (1, .int x1)] := hl
  have hx := C.1
  have hb := C.2.1
  unfold mX9_fitting at h
  refine lv_iconst (v := 0) hx hb dX9_fitting_0 (by decide) ?_
  refine lv_istore_n (lv' := [(2, .int 0), (0, .ref (a 9 0)), (1, .int x1)]) hx hb dX9_fitting_1 rfl hl (by decide) rfl (fun ls hl => ?_)
  refine lv_iconst (v := 0) hx hb dX9_fitting_2 (by decide) ?_
  refine lv_istore_n (lv' := [(3, .int 0), (2, .int 0), (0, .ref (a 9 0)), (1, .int x1)]) hx hb dX9_fitting_3 rfl hl (by decide) rfl (fun ls hl => ?_)
  refine jp_cut h (fun w106 hw106 h => ?_)
  have Kw106 : ∀ (x104 : Int32) (u105 : HS) (H : Heap) (locs : List Loc) (ls : Array Slot), w106 x104 u105 = some out → Rel E a u105 H → va_S (AE E) s.heap H locs → lv_has ls 6 [(2, .int x104)] → W p l e { frames := 12, cells := 0, slots := 0, locals := 297 } s m args below meth c H locs 0 0 (MQ below (QW E a (some (.int out.1)) out.2) args s 0 0 (AE E)) (F0 m 84 ls []) := by
    intro x104 u105 H locs ls h hR hS hl
    replace h := jx2 hw106 h
    refine lv_iload_n hx hb dX9_fitting_84 rfl (lv_at hl 0 rfl) ?_
    cases h
    exact e_iret C hr hR hS (Nat.le_of_ble_eq_true rfl) (Nat.le_of_ble_eq_true rfl) dX9_fitting_85
  have LP : ∀ (fu : Nat) (x101 : Int32) (x102 : Int32) (u103 : HS) (H : Heap) (locs : List Loc) (ls : Array Slot), mX9_fitting_L4 x1 w106 fu x101 x102 u103 = some out → Rel E a u103 H → va_S (AE E) s.heap H locs → lv_has ls 6 [(0, .ref (a 9 0)), (1, .int x1), (2, .int x101), (3, .int x102)] → W p l e { frames := 12, cells := 0, slots := 0, locals := 297 } s m args below meth c H locs 0 0 (MQ below (QW E a (some (.int out.1)) out.2) args s 0 0 (AE E)) (F0 m 4 ls []) := by
    intro fu
    induction fu with
    | zero =>
      intro x101 x102 u103 H locs ls h
      have h2 : (none : Option (Int32 × HS)) = some out := h
      cases h2
    | succ fu ih =>
      intro x101 x102 u103 H locs ls h hR hS hl
      rw [mX9_fitting_L4.eq_2] at h
      refine lv_iload_n hx hb dX9_fitting_4 rfl (lv_at hl 3 rfl) ?_
      refine lv_aload_n hx hb dX9_fitting_5 rfl (lv_at hl 0 rfl) ?_
      refine r_get C hR 9 0 16 (v := .int (gI u103 9 0 16)) (lv0 (by decide) (by decide)) (by decide) (by decide) rfl fl_X9_219 dX9_fitting_6 ?_
      refine lv_icmp_ge (tgt := 84) hx hb dX9_fitting_9 (by decide) (fun c_107 => ?_) (fun c_107 => ?_)
      · rw [if_pos c_107] at h
        exact Kw106 _ _ _ _ _ h hR hS (lv_sub hl [2] rfl)
      · rw [if_neg c_107] at h
        refine lv_iconst (v := 0) hx hb dX9_fitting_12 (by decide) ?_
        refine lv_istore (lv' := [(4, .int 0), (0, .ref (a 9 0)), (1, .int x1), (2, .int x101), (3, .int x102)]) hx hb dX9_fitting_13 hl (by decide) rfl (fun ls hl => ?_)
        refine lv_iconst (v := 0) hx hb dX9_fitting_15 (by decide) ?_
        refine lv_istore (lv' := [(5, .int 0), (4, .int 0), (0, .ref (a 9 0)), (1, .int x1), (2, .int x101), (3, .int x102)]) hx hb dX9_fitting_16 hl (by decide) rfl (fun ls hl => ?_)
        refine jp_cut h (fun w113 hw113 h => ?_)
        have Kw113 : ∀ (x111 : Int32) (u112 : HS) (H : Heap) (locs : List Loc) (ls : Array Slot), w113 x111 u112 = some out → Rel E a u112 H → va_S (AE E) s.heap H locs → lv_has ls 6 [(0, .ref (a 9 0)), (1, .int x1), (2, .int x101), (3, .int x102), (4, .int x111)] → W p l e { frames := 12, cells := 0, slots := 0, locals := 297 } s m args below meth c H locs 0 0 (MQ below (QW E a (some (.int out.1)) out.2) args s 0 0 (AE E)) (F0 m 62 ls []) := by
          intro x111 u112 H locs ls h hR hS hl
          replace h := jx2 hw113 h
          refine lv_iload_n hx hb dX9_fitting_62 rfl (lv_at hl 2 rfl) ?_
          refine lv_iload hx hb dX9_fitting_63 (lv_at hl 4 rfl) ?_
          refine lv_iload_n hx hb dX9_fitting_65 rfl (lv_at hl 1 rfl) ?_
          obtain ⟨x114, hz, h⟩ := ob h
          have Kj115 : ∀ (H : Heap) (locs : List Loc) (ls : Array Slot), Rel E a u112 H → va_S (AE E) s.heap H locs → lv_has ls 6 [(0, .ref (a 9 0)), (1, .int x1), (3, .int x102)] → W p l e { frames := 12, cells := 0, slots := 0, locals := 297 } s m args below meth c H locs 0 0 (MQ below (QW E a (some (.int out.1)) out.2) args s 0 0 (AE E)) (F0 m 76 ls [.int x114, .int x101]) := by
            intro H locs ls hR hS hl
            clear hz
            refine lv_ior hx hb dX9_fitting_76 ?_
            refine lv_topi (fun x116 ex116 => ?_)
            replace h := bd_x ex116 h
            refine lv_istore_n (lv' := [(2, .int x116), (0, .ref (a 9 0)), (1, .int x1), (3, .int x102)]) hx hb dX9_fitting_77 rfl hl (by decide) rfl (fun ls hl => ?_)
            obtain ⟨x117, ex117⟩ : ∃ z : Int32, z = x102 + 1 := ⟨_, rfl⟩
            replace h := bd_x ex117 h
            refine lv_iinc (v := x117) (lv' := [(3, .int x117), (2, .int x116), (0, .ref (a 9 0)), (1, .int x1)]) hx hb dX9_fitting_78 hl (k := 3) rfl (by rw [ex117]; rfl) (by decide) rfl (fun ls hl => ?_)
            refine lv_goto (tgt := 4) hx hb dX9_fitting_81 (by decide) ?_
            exact ih _ _ _ _ _ _ h hR hS (lv_sub hl [2, 3, 1, 0] rfl)
          clear h
          have h := hz
          clear hz
          refine lv_icmp_gt (tgt := 75) hx hb dX9_fitting_66 (by decide) (fun c_118 => ?_) (fun c_118 => ?_)
          · rw [if_pos c_118] at h
            refine lv_iconst (v := 0) hx hb dX9_fitting_75 (by decide) ?_
            cases h
            exact Kj115 _ _ _ hR hS (lv_sub hl [0, 1, 3] rfl)
          · rw [if_neg c_118] at h
            refine lv_iconst (v := 1) hx hb dX9_fitting_69 (by decide) ?_
            refine lv_iload_n hx hb dX9_fitting_70 rfl (lv_at hl 3 rfl) ?_
            refine lv_ishl hx hb dX9_fitting_71 ?_
            refine lv_goto (tgt := 76) hx hb dX9_fitting_72 (by decide) ?_
            cases h
            exact Kj115 _ _ _ hR hS (lv_sub hl [0, 1, 3] rfl)
        have LP : ∀ (fu : Nat) (x108 : Int32) (x109 : Int32) (u110 : HS) (H : Heap) (locs : List Loc) (ls : Array Slot), mX9_fitting_L18 x102 w113 fu x108 x109 u110 = some out → Rel E a u110 H → va_S (AE E) s.heap H locs → lv_has ls 6 [(0, .ref (a 9 0)), (1, .int x1), (2, .int x101), (3, .int x102), (4, .int x108), (5, .int x109)] → W p l e { frames := 12, cells := 0, slots := 0, locals := 297 } s m args below meth c H locs 0 0 (MQ below (QW E a (some (.int out.1)) out.2) args s 0 0 (AE E)) (F0 m 18 ls []) := by
          intro fu
          induction fu with
          | zero =>
            intro x108 x109 u110 H locs ls h
            have h2 : (none : Option (Int32 × HS)) = some out := h
            cases h2
          | succ fu ih =>
            intro x108 x109 u110 H locs ls h hR hS hl
            rw [mX9_fitting_L18.eq_2] at h
            refine lv_iload hx hb dX9_fitting_18 (lv_at hl 5 rfl) ?_
            refine lv_aload_n hx hb dX9_fitting_20 rfl (lv_at hl 0 rfl) ?_
            refine r_get C hR 9 0 28 (v := .int (gI u110 9 0 28)) (lv0 (by decide) (by decide)) (by decide) (by decide) rfl fl_X9_288 dX9_fitting_21 ?_
            refine lv_icmp_ge (tgt := 62) hx hb dX9_fitting_24 (by decide) (fun c_119 => ?_) (fun c_119 => ?_)
            · rw [if_pos c_119] at h
              exact Kw113 _ _ _ _ _ h hR hS (lv_sub hl [0, 1, 2, 3, 4] rfl)
            · rw [if_neg c_119] at h
              refine lv_iload hx hb dX9_fitting_27 (lv_at hl 4 rfl) ?_
              refine lv_aload_n hx hb dX9_fitting_29 rfl (lv_at hl 0 rfl) ?_
              refine lv_iload hx hb dX9_fitting_30 (lv_at hl 5 rfl) ?_
              obtain ⟨x121, hc120, h⟩ := ob h
              refine r_callV1 (As := [.int x109]) (rest := [.int x108]) (r := 9) (i := 0) C (vX9_isAsked hc120) hR hS (lv0 (by decide) (by decide)) (by decide) ml_X9_407 mw_X9_isAsked rfl ⟨Nat.le_of_ble_eq_true rfl, Nat.le_of_ble_eq_true rfl, Nat.le_of_ble_eq_true rfl, Nat.le_of_ble_eq_true rfl⟩ hl.1 rfl (Nat.le_of_ble_eq_true rfl) dX9_fitting_32 (fun H locs hR hS => ?_)
              refine jp_cut h (fun j124 hj124 h => ?_)
              have Kj124 : ∀ (x122 : Int32) (u123 : HS) (H : Heap) (locs : List Loc) (ls : Array Slot), j124 x122 u123 = some out → Rel E a u123 H → va_S (AE E) s.heap H locs → lv_has ls 6 [(0, .ref (a 9 0)), (1, .int x1), (2, .int x101), (3, .int x102), (5, .int x109)] → W p l e { frames := 12, cells := 0, slots := 0, locals := 297 } s m args below meth c H locs 0 0 (MQ below (QW E a (some (.int out.1)) out.2) args s 0 0 (AE E)) (F0 m 53 ls [.int x122, .int x108]) := by
                intro x122 u123 H locs ls h hR hS hl
                replace h := jx2 hj124 h
                refine lv_iadd hx hb dX9_fitting_53 ?_
                refine lv_topi (fun x125 ex125 => ?_)
                replace h := bd_x ex125 h
                refine lv_istore (lv' := [(4, .int x125), (0, .ref (a 9 0)), (1, .int x1), (2, .int x101), (3, .int x102), (5, .int x109)]) hx hb dX9_fitting_54 hl (by decide) rfl (fun ls hl => ?_)
                obtain ⟨x126, ex126⟩ : ∃ z : Int32, z = x109 + 1 := ⟨_, rfl⟩
                replace h := bd_x ex126 h
                refine lv_iinc (v := x126) (lv' := [(5, .int x126), (4, .int x125), (0, .ref (a 9 0)), (1, .int x1), (2, .int x101), (3, .int x102)]) hx hb dX9_fitting_56 hl (k := 5) rfl (by rw [ex126]; rfl) (by decide) rfl (fun ls hl => ?_)
                refine lv_goto (tgt := 18) hx hb dX9_fitting_59 (by decide) ?_
                exact ih _ _ _ _ _ _ h hR hS (lv_sub hl [2, 3, 4, 5, 1, 0] rfl)
              refine jp_cut h (fun j128 hj128 h => ?_)
              have Kj128 : ∀ (u127 : HS) (H : Heap) (locs : List Loc) (ls : Array Slot), j128 u127 = some out → Rel E a u127 H → va_S (AE E) s.heap H locs → lv_has ls 6 [(0, .ref (a 9 0)), (1, .int x1), (2, .int x101), (3, .int x102), (5, .int x109)] → W p l e { frames := 12, cells := 0, slots := 0, locals := 297 } s m args below meth c H locs 0 0 (MQ below (QW E a (some (.int out.1)) out.2) args s 0 0 (AE E)) (F0 m 52 ls [.int x108]) := by
                intro u127 H locs ls h hR hS hl
                replace h := jx1 hj128 h
                refine lv_iconst (v := 0) hx hb dX9_fitting_52 (by decide) ?_
                exact Kj124 _ _ _ _ _ h hR hS (lv_sub hl [0, 1, 2, 3, 4] rfl)
              refine lv_if_eq (tgt := 52) hx hb dX9_fitting_35 (by decide) (fun c_129 => ?_) (fun c_129 => ?_)
              · rw [if_pos c_129] at h
                exact Kj128 _ _ _ _ h hR hS (lv_sub hl [0, 1, 2, 3, 5] rfl)
              · rw [if_neg c_129] at h
                refine lv_aload_n hx hb dX9_fitting_38 rfl (lv_at hl 0 rfl) ?_
                refine lv_iload_n hx hb dX9_fitting_39 rfl (lv_at hl 3 rfl) ?_
                refine lv_iload hx hb dX9_fitting_40 (lv_at hl 5 rfl) ?_
                obtain ⟨⟨x131, u132⟩, hc130, h⟩ := ob h
                replace h := bd_x (x := x131) rfl h
                replace h := bd_x (x := u132) rfl h
                refine r_callV1 (As := [.int x102, .int x109]) (rest := [.int x108]) (r := 9) (i := 0) C (vX9_isAlike hc130) hR hS (lv0 (by decide) (by decide)) (by decide) ml_X9_410 mw_X9_isAlike rfl ⟨Nat.le_of_ble_eq_true rfl, Nat.le_of_ble_eq_true rfl, Nat.le_of_ble_eq_true rfl, Nat.le_of_ble_eq_true rfl⟩ hl.1 rfl (Nat.le_of_ble_eq_true rfl) dX9_fitting_42 (fun H locs hR hS => ?_)
                refine lv_if_ne (tgt := 52) hx hb dX9_fitting_45 (by decide) (fun c_133 => ?_) (fun c_133 => ?_)
                · rw [if_neg c_133] at h
                  exact Kj128 _ _ _ _ h hR hS (lv_sub hl [0, 1, 2, 3, 5] rfl)
                · rw [if_pos c_133] at h
                  refine lv_iconst (v := 1) hx hb dX9_fitting_48 (by decide) ?_
                  refine lv_goto (tgt := 53) hx hb dX9_fitting_49 (by decide) ?_
                  exact Kj124 _ _ _ _ _ h hR hS (lv_sub hl [0, 1, 2, 3, 5] rfl)
        exact LP FU _ _ _ _ _ _ h hR hS (lv_sub hl [2, 3, 4, 5, 1, 0] rfl)
  exact LP FU _ _ _ _ _ _ h hR hS (lv_sub hl [2, 3, 1, 0] rfl)
set_option maxHeartbeats 4000000 in
set_option maxRecDepth 100000 in
theorem vX9_fits {l : Launch} {E : EV} {a : Nat → Nat → Nat} {u0 : HS} {x1 : Int32} {out : (Int32 × HS)} (h : mX9_fits u0 x1 = some out) : Ct l E yX9_fits cX9_fits 2 (some .int) 13 322 0 0 a u0 [.ref (a 9 0), .int x1] (some (.int out.1)) out.2 := by
  refine Ct.start (by decide) (Nat.le_of_ble_eq_true rfl) ?_
  intro p e s m args below meth c ls C hr hR hS hl
  have C : Cx E p s m args meth c cX9_fits 2 RX9 := C
  have hl : lv_has ls 2 [(0, .ref (a 9 0)), (1, .int x1)] := hl
  have hx := C.1
  have hb := C.2.1
  unfold mX9_fits at h
  refine lv_aload_n hx hb dX9_fits_0 rfl (lv_at hl 0 rfl) ?_
  refine lv_iconst (v := 0) hx hb dX9_fits_1 (by decide) ?_
  refine r_putI (ty := .int) C hR hS 9 0 0 (lv0 (by decide) (by decide)) (by decide) (by decide) (fun _ => rfl) fl_X9_76 (by decide) (by decide +kernel) rfl rfl dX9_fits_2 (fun H locs hR hS => ?_)
  obtain ⟨u101, eu101⟩ : ∃ z : HS, z = wI u0 9 0 0 0 := ⟨_, rfl⟩
  rw [← eu101] at hR
  replace h := bd_x eu101 h
  clear eu101
  refine lv_aload_n hx hb dX9_fits_5 rfl (lv_at hl 0 rfl) ?_
  refine lv_iload_n hx hb dX9_fits_6 rfl (lv_at hl 1 rfl) ?_
  refine lv_iconst (v := 0) hx hb dX9_fits_7 (by decide) ?_
  refine lv_bipush (v := 14) hx hb dX9_fits_8 (by decide) ?_
  obtain ⟨x103, hc102, h⟩ := ob h
  refine r_callS1 (As := [.int x1, .int 0, .int 14]) (rest := [.ref (a 9 0)]) C (vX9_in hc102) hR hS ml_X9_113 ms_X9_in rfl ⟨Nat.le_of_ble_eq_true rfl, Nat.le_of_ble_eq_true rfl, Nat.le_of_ble_eq_true rfl, Nat.le_of_ble_eq_true rfl⟩ hl.1 rfl (Nat.le_of_ble_eq_true rfl) dX9_fits_10 (fun H locs hR hS => ?_)
  obtain ⟨x104, hz, h⟩ := ob h
  have Kj105 : ∀ (H : Heap) (locs : List Loc) (ls : Array Slot), Rel E a u101 H → va_S (AE E) s.heap H locs → lv_has ls 2 [(0, .ref (a 9 0)), (1, .int x1)] → W p l e { frames := 13, cells := 0, slots := 0, locals := 322 } s m args below meth c H locs 0 0 (MQ below (QW E a (some (.int out.1)) out.2) args s 0 0 (AE E)) (F0 m 21 ls [.int x104, .ref (a 9 0)]) := by
    intro H locs ls hR hS hl
    clear hz
    refine lv_iconst (v := 1) hx hb dX9_fits_21 (by decide) ?_
    obtain ⟨⟨x107, u108⟩, hc106, h⟩ := ob h
    replace h := bd_x (x := x107) rfl h
    replace h := bd_x (x := u108) rfl h
    refine r_callV1 (As := [.int x104, .int 1]) (rest := []) (r := 9) (i := 0) C (vX9_bad hc106) hR hS (lv0 (by decide) (by decide)) (by decide) ml_X9_162 mw_X9_bad rfl ⟨Nat.le_of_ble_eq_true rfl, Nat.le_of_ble_eq_true rfl, Nat.le_of_ble_eq_true rfl, Nat.le_of_ble_eq_true rfl⟩ hl.1 rfl (Nat.le_of_ble_eq_true rfl) dX9_fits_22 (fun H locs hR hS => ?_)
    refine lv_if_eq (tgt := 30) hx hb dX9_fits_25 (by decide) (fun c_109 => ?_) (fun c_109 => ?_)
    · rw [if_pos c_109] at h
      refine lv_aload_n hx hb dX9_fits_30 rfl (lv_at hl 0 rfl) ?_
      refine lv_iload_n hx hb dX9_fits_31 rfl (lv_at hl 1 rfl) ?_
      obtain ⟨⟨x111, u112⟩, hc110, h⟩ := ob h
      replace h := bd_x (x := x111) rfl h
      replace h := bd_x (x := u112) rfl h
      refine r_callV1 (As := [.int x1]) (rest := []) (r := 9) (i := 0) C (vX9_fitting hc110) hR hS (lv0 (by decide) (by decide)) (by decide) ml_X9_417 mw_X9_fitting rfl ⟨Nat.le_of_ble_eq_true rfl, Nat.le_of_ble_eq_true rfl, Nat.le_of_ble_eq_true rfl, Nat.le_of_ble_eq_true rfl⟩ hl.1 rfl (Nat.le_of_ble_eq_true rfl) dX9_fits_32 (fun H locs hR hS => ?_)
      cases h
      exact e_iret C hr hR hS (Nat.le_of_ble_eq_true rfl) (Nat.le_of_ble_eq_true rfl) dX9_fits_35
    · rw [if_neg c_109] at h
      refine lv_iconst (v := 0) hx hb dX9_fits_28 (by decide) ?_
      cases h
      exact e_iret C hr hR hS (Nat.le_of_ble_eq_true rfl) (Nat.le_of_ble_eq_true rfl) dX9_fits_29
  clear h
  have h := hz
  clear hz
  refine lv_if_ne (tgt := 20) hx hb dX9_fits_13 (by decide) (fun c_113 => ?_) (fun c_113 => ?_)
  · rw [if_neg c_113] at h
    refine lv_iconst (v := 0) hx hb dX9_fits_20 (by decide) ?_
    cases h
    exact Kj105 _ _ _ hR hS (lv_sub hl [0, 1] rfl)
  · rw [if_pos c_113] at h
    refine lv_iconst (v := 1) hx hb dX9_fits_16 (by decide) ?_
    refine lv_goto (tgt := 21) hx hb dX9_fits_17 (by decide) ?_
    cases h
    exact Kj105 _ _ _ hR hS (lv_sub hl [0, 1] rfl)
set_option maxHeartbeats 4000000 in
set_option maxRecDepth 100000 in
theorem vX9_knowing {l : Launch} {E : EV} {a : Nat → Nat → Nat} {u0 : HS} {x1 : Int32} {x2 : Int32} {out : (Int32 × HS)} (h : mX9_knowing u0 x1 x2 = some out) : Ct l E yX9_knowing cX9_knowing 5 (some .int) 11 275 0 0 a u0 [.ref (a 9 0), .int x1, .int x2] (some (.int out.1)) out.2 := by
  refine Ct.start (by decide) (Nat.le_of_ble_eq_true rfl) ?_
  intro p e s m args below meth c ls C hr hR hS hl
  have C : Cx E p s m args meth c cX9_knowing 5 RX9 := C
  have hl : lv_has ls 5 [(0, .ref (a 9 0)), (1, .int x1), (2, .int x2)] := hl
  have hx := C.1
  have hb := C.2.1
  unfold mX9_knowing at h
  refine lv_aload_n hx hb dX9_knowing_0 rfl (lv_at hl 0 rfl) ?_
  refine lv_iconst (v := 0) hx hb dX9_knowing_1 (by decide) ?_
  refine r_putI (ty := .int) C hR hS 9 0 0 (lv0 (by decide) (by decide)) (by decide) (by decide) (fun _ => rfl) fl_X9_76 (by decide) (by decide +kernel) rfl rfl dX9_knowing_2 (fun H locs hR hS => ?_)
  obtain ⟨u101, eu101⟩ : ∃ z : HS, z = wI u0 9 0 0 0 := ⟨_, rfl⟩
  rw [← eu101] at hR
  replace h := bd_x eu101 h
  clear eu101
  refine lv_aload_n hx hb dX9_knowing_5 rfl (lv_at hl 0 rfl) ?_
  refine lv_aload_n hx hb dX9_knowing_6 rfl (lv_at hl 0 rfl) ?_
  refine lv_iload_n hx hb dX9_knowing_7 rfl (lv_at hl 1 rfl) ?_
  obtain ⟨x103, hc102, h⟩ := ob h
  refine r_callV1 (As := [.int x1]) (rest := [.ref (a 9 0)]) (r := 9) (i := 0) C (vX9_isLaw hc102) hR hS (lv0 (by decide) (by decide)) (by decide) ml_X9_357 mw_X9_isLaw rfl ⟨Nat.le_of_ble_eq_true rfl, Nat.le_of_ble_eq_true rfl, Nat.le_of_ble_eq_true rfl, Nat.le_of_ble_eq_true rfl⟩ hl.1 rfl (Nat.le_of_ble_eq_true rfl) dX9_knowing_8 (fun H locs hR hS => ?_)
  obtain ⟨x104, hz, h⟩ := ob h
  have Kj105 : ∀ (H : Heap) (locs : List Loc) (ls : Array Slot), Rel E a u101 H → va_S (AE E) s.heap H locs → lv_has ls 5 [(0, .ref (a 9 0)), (1, .int x1), (2, .int x2)] → W p l e { frames := 11, cells := 0, slots := 0, locals := 275 } s m args below meth c H locs 0 0 (MQ below (QW E a (some (.int out.1)) out.2) args s 0 0 (AE E)) (F0 m 19 ls [.int x104, .ref (a 9 0)]) := by
    intro H locs ls hR hS hl
    clear hz
    refine lv_iconst (v := 1) hx hb dX9_knowing_19 (by decide) ?_
    obtain ⟨⟨x107, u108⟩, hc106, h⟩ := ob h
    replace h := bd_x (x := x107) rfl h
    replace h := bd_x (x := u108) rfl h
    refine r_callV1 (As := [.int x104, .int 1]) (rest := []) (r := 9) (i := 0) C (vX9_bad hc106) hR hS (lv0 (by decide) (by decide)) (by decide) ml_X9_162 mw_X9_bad rfl ⟨Nat.le_of_ble_eq_true rfl, Nat.le_of_ble_eq_true rfl, Nat.le_of_ble_eq_true rfl, Nat.le_of_ble_eq_true rfl⟩ hl.1 rfl (Nat.le_of_ble_eq_true rfl) dX9_knowing_20 (fun H locs hR hS => ?_)
    refine lv_if_ne (tgt := 48) hx hb dX9_knowing_23 (by decide) (fun c_109 => ?_) (fun c_109 => ?_)
    · rw [if_neg c_109] at h
      refine lv_iconst (v := 0) hx hb dX9_knowing_48 (by decide) ?_
      cases h
      exact e_iret C hr hR hS (Nat.le_of_ble_eq_true rfl) (Nat.le_of_ble_eq_true rfl) dX9_knowing_49
    · rw [if_pos c_109] at h
      refine lv_aload_n hx hb dX9_knowing_26 rfl (lv_at hl 0 rfl) ?_
      refine lv_iload_n hx hb dX9_knowing_27 rfl (lv_at hl 2 rfl) ?_
      refine lv_iconst (v := 0) hx hb dX9_knowing_28 (by decide) ?_
      refine lv_iconst (v := 2) hx hb dX9_knowing_29 (by decide) ?_
      obtain ⟨x111, hc110, h⟩ := ob h
      refine r_callS1 (As := [.int x2, .int 0, .int 2]) (rest := [.ref (a 9 0)]) C (vX9_in hc110) hR hS ml_X9_113 ms_X9_in rfl ⟨Nat.le_of_ble_eq_true rfl, Nat.le_of_ble_eq_true rfl, Nat.le_of_ble_eq_true rfl, Nat.le_of_ble_eq_true rfl⟩ hl.1 rfl (Nat.le_of_ble_eq_true rfl) dX9_knowing_30 (fun H locs hR hS => ?_)
      obtain ⟨x112, hz, h⟩ := ob h
      have Kj113 : ∀ (H : Heap) (locs : List Loc) (ls : Array Slot), Rel E a u108 H → va_S (AE E) s.heap H locs → lv_has ls 5 [(0, .ref (a 9 0)), (1, .int x1), (2, .int x2)] → W p l e { frames := 11, cells := 0, slots := 0, locals := 275 } s m args below meth c H locs 0 0 (MQ below (QW E a (some (.int out.1)) out.2) args s 0 0 (AE E)) (F0 m 41 ls [.int x112, .ref (a 9 0)]) := by
        intro H locs ls hR hS hl
        clear hz
        refine lv_iconst (v := 2) hx hb dX9_knowing_41 (by decide) ?_
        obtain ⟨⟨x115, u116⟩, hc114, h⟩ := ob h
        replace h := bd_x (x := x115) rfl h
        replace h := bd_x (x := u116) rfl h
        refine r_callV1 (As := [.int x112, .int 2]) (rest := []) (r := 9) (i := 0) C (vX9_bad hc114) hR hS (lv0 (by decide) (by decide)) (by decide) ml_X9_162 mw_X9_bad rfl ⟨Nat.le_of_ble_eq_true rfl, Nat.le_of_ble_eq_true rfl, Nat.le_of_ble_eq_true rfl, Nat.le_of_ble_eq_true rfl⟩ hl.1 rfl (Nat.le_of_ble_eq_true rfl) dX9_knowing_42 (fun H locs hR hS => ?_)
        refine lv_if_eq (tgt := 50) hx hb dX9_knowing_45 (by decide) (fun c_117 => ?_) (fun c_117 => ?_)
        · rw [if_pos c_117] at h
          refine lv_iconst (v := 0) hx hb dX9_knowing_50 (by decide) ?_
          refine lv_istore_n (lv' := [(3, .int 0), (0, .ref (a 9 0)), (1, .int x1), (2, .int x2)]) hx hb dX9_knowing_51 rfl hl (by decide) rfl (fun ls hl => ?_)
          refine lv_iconst (v := 0) hx hb dX9_knowing_52 (by decide) ?_
          refine lv_istore (lv' := [(4, .int 0), (3, .int 0), (0, .ref (a 9 0)), (1, .int x1), (2, .int x2)]) hx hb dX9_knowing_53 hl (by decide) rfl (fun ls hl => ?_)
          refine jp_cut h (fun w123 hw123 h => ?_)
          have Kw123 : ∀ (x121 : Int32) (u122 : HS) (H : Heap) (locs : List Loc) (ls : Array Slot), w123 x121 u122 = some out → Rel E a u122 H → va_S (AE E) s.heap H locs → lv_has ls 5 [(3, .int x121)] → W p l e { frames := 11, cells := 0, slots := 0, locals := 275 } s m args below meth c H locs 0 0 (MQ below (QW E a (some (.int out.1)) out.2) args s 0 0 (AE E)) (F0 m 124 ls []) := by
            intro x121 u122 H locs ls h hR hS hl
            replace h := jx2 hw123 h
            refine lv_iload_n hx hb dX9_knowing_124 rfl (lv_at hl 0 rfl) ?_
            cases h
            exact e_iret C hr hR hS (Nat.le_of_ble_eq_true rfl) (Nat.le_of_ble_eq_true rfl) dX9_knowing_125
          have LP : ∀ (fu : Nat) (x118 : Int32) (x119 : Int32) (u120 : HS) (H : Heap) (locs : List Loc) (ls : Array Slot), mX9_knowing_L55 x2 x1 w123 fu x118 x119 u120 = some out → Rel E a u120 H → va_S (AE E) s.heap H locs → lv_has ls 5 [(0, .ref (a 9 0)), (1, .int x1), (2, .int x2), (3, .int x118), (4, .int x119)] → W p l e { frames := 11, cells := 0, slots := 0, locals := 275 } s m args below meth c H locs 0 0 (MQ below (QW E a (some (.int out.1)) out.2) args s 0 0 (AE E)) (F0 m 55 ls []) := by
            intro fu
            induction fu with
            | zero =>
              intro x118 x119 u120 H locs ls h
              have h2 : (none : Option (Int32 × HS)) = some out := h
              cases h2
            | succ fu ih =>
              intro x118 x119 u120 H locs ls h hR hS hl
              rw [mX9_knowing_L55.eq_2] at h
              refine lv_iload hx hb dX9_knowing_55 (lv_at hl 4 rfl) ?_
              refine lv_aload_n hx hb dX9_knowing_57 rfl (lv_at hl 0 rfl) ?_
              refine r_get C hR 9 0 28 (v := .int (gI u120 9 0 28)) (lv0 (by decide) (by decide)) (by decide) (by decide) rfl fl_X9_288 dX9_knowing_58 ?_
              refine lv_icmp_ge (tgt := 124) hx hb dX9_knowing_61 (by decide) (fun c_124 => ?_) (fun c_124 => ?_)
              · rw [if_pos c_124] at h
                exact Kw123 _ _ _ _ _ h hR hS (lv_sub hl [3] rfl)
              · rw [if_neg c_124] at h
                refine lv_aload_n hx hb dX9_knowing_64 rfl (lv_at hl 0 rfl) ?_
                refine r_get C hR 9 0 33 (v := .ref (a 80 0)) (lv0 (by decide) (by decide)) (by decide) (by decide) rfl fl_X9_61 dX9_knowing_65 ?_
                refine lv_iload hx hb dX9_knowing_68 (lv_at hl 4 rfl) ?_
                obtain ⟨k125, hk125, h⟩ := ob h
                have hLk125 : k125 < cntS 81 := by have q1 := (ck_in hk125).2.2; have q2 : cntS 81 = 15 := rfl; omega
                refine r_aald C hR 80 0 81 0 6 (lv0 (by decide) (by decide)) (by decide) rfl rfl rfl (fun _ => rfl) rfl hk125 dX9_knowing_70 ?_
                refine lv_iconst (v := 2) hx hb dX9_knowing_71 (by decide) ?_
                obtain ⟨k126, hk126, h⟩ := ob h
                refine r_ald C hR 81 k125 (lv0 hLk125 (by decide)) (by decide) rfl (fun _ => rfl) rfl hk126 dX9_knowing_72 ?_
                refine jp_cut h (fun j129 hj129 h => ?_)
                have Kj129 : ∀ (x127 : Int32) (u128 : HS) (H : Heap) (locs : List Loc) (ls : Array Slot), j129 x127 u128 = some out → Rel E a u128 H → va_S (AE E) s.heap H locs → lv_has ls 5 [(0, .ref (a 9 0)), (1, .int x1), (2, .int x2), (3, .int x127), (4, .int x119)] → W p l e { frames := 11, cells := 0, slots := 0, locals := 275 } s m args below meth c H locs 0 0 (MQ below (QW E a (some (.int out.1)) out.2) args s 0 0 (AE E)) (F0 m 118 ls []) := by
                  intro x127 u128 H locs ls h hR hS hl
                  replace h := jx2 hj129 h
                  obtain ⟨x130, ex130⟩ : ∃ z : Int32, z = x119 + 1 := ⟨_, rfl⟩
                  replace h := bd_x ex130 h
                  refine lv_iinc (v := x130) (lv' := [(4, .int x130), (0, .ref (a 9 0)), (1, .int x1), (2, .int x2), (3, .int x127)]) hx hb dX9_knowing_118 hl (k := 4) rfl (by rw [ex130]; rfl) (by decide) rfl (fun ls hl => ?_)
                  refine lv_goto (tgt := 55) hx hb dX9_knowing_121 (by decide) ?_
                  exact ih _ _ _ _ _ _ h hR hS (lv_sub hl [1, 2, 3, 4, 0] rfl)
                refine lv_if_eq (tgt := 118) hx hb dX9_knowing_73 (by decide) (fun c_131 => ?_) (fun c_131 => ?_)
                · rw [if_pos c_131] at h
                  exact Kj129 _ _ _ _ _ h hR hS (lv_sub hl [0, 1, 2, 3, 4] rfl)
                · rw [if_neg c_131] at h
                  refine lv_iload_n hx hb dX9_knowing_76 rfl (lv_at hl 2 rfl) ?_
                  refine jp_cut h (fun j133 hj133 h => ?_)
                  have Kj133 : ∀ (u132 : HS) (H : Heap) (locs : List Loc) (ls : Array Slot), j133 u132 = some out → Rel E a u132 H → va_S (AE E) s.heap H locs → lv_has ls 5 [(0, .ref (a 9 0)), (1, .int x1), (2, .int x2), (3, .int x118), (4, .int x119)] → W p l e { frames := 11, cells := 0, slots := 0, locals := 275 } s m args below meth c H locs 0 0 (MQ below (QW E a (some (.int out.1)) out.2) args s 0 0 (AE E)) (F0 m 94 ls []) := by
                    intro u132 H locs ls h hR hS hl
                    replace h := jx1 hj133 h
                    refine lv_iload_n hx hb dX9_knowing_94 rfl (lv_at hl 3 rfl) ?_
                    refine lv_iload_n hx hb dX9_knowing_95 rfl (lv_at hl 2 rfl) ?_
                    refine lv_iconst (v := 2) hx hb dX9_knowing_96 (by decide) ?_
                    refine jp_cut h (fun j136 hj136 h => ?_)
                    have Kj136 : ∀ (x134 : Int32) (u135 : HS) (H : Heap) (locs : List Loc) (ls : Array Slot), j136 x134 u135 = some out → Rel E a u135 H → va_S (AE E) s.heap H locs → lv_has ls 5 [(0, .ref (a 9 0)), (1, .int x1), (2, .int x2), (4, .int x119)] → W p l e { frames := 11, cells := 0, slots := 0, locals := 275 } s m args below meth c H locs 0 0 (MQ below (QW E a (some (.int out.1)) out.2) args s 0 0 (AE E)) (F0 m 116 ls [.int x134, .int x118]) := by
                      intro x134 u135 H locs ls h hR hS hl
                      replace h := jx2 hj136 h
                      refine lv_iadd hx hb dX9_knowing_116 ?_
                      refine lv_topi (fun x137 ex137 => ?_)
                      replace h := bd_x ex137 h
                      refine lv_istore_n (lv' := [(3, .int x137), (0, .ref (a 9 0)), (1, .int x1), (2, .int x2), (4, .int x119)]) hx hb dX9_knowing_117 rfl hl (by decide) rfl (fun ls hl => ?_)
                      exact Kj129 _ _ _ _ _ h hR hS (lv_sub hl [1, 2, 3, 0, 4] rfl)
                    refine jp_cut h (fun j139 hj139 h => ?_)
                    have Kj139 : ∀ (u138 : HS) (H : Heap) (locs : List Loc) (ls : Array Slot), j139 u138 = some out → Rel E a u138 H → va_S (AE E) s.heap H locs → lv_has ls 5 [(0, .ref (a 9 0)), (1, .int x1), (2, .int x2), (4, .int x119)] → W p l e { frames := 11, cells := 0, slots := 0, locals := 275 } s m args below meth c H locs 0 0 (MQ below (QW E a (some (.int out.1)) out.2) args s 0 0 (AE E)) (F0 m 111 ls [.int x118]) := by
                      intro u138 H locs ls h hR hS hl
                      replace h := jx1 hj139 h
                      refine lv_iconst (v := 1) hx hb dX9_knowing_111 (by decide) ?_
                      refine lv_goto (tgt := 116) hx hb dX9_knowing_112 (by decide) ?_
                      exact Kj136 _ _ _ _ _ h hR hS (lv_sub hl [0, 1, 2, 3] rfl)
                    refine lv_icmp_lt (tgt := 111) hx hb dX9_knowing_97 (by decide) (fun c_140 => ?_) (fun c_140 => ?_)
                    · rw [if_pos c_140] at h
                      exact Kj139 _ _ _ _ h hR hS (lv_sub hl [0, 1, 2, 4] rfl)
                    · rw [if_neg c_140] at h
                      refine lv_aload_n hx hb dX9_knowing_100 rfl (lv_at hl 0 rfl) ?_
                      refine lv_iload_n hx hb dX9_knowing_101 rfl (lv_at hl 1 rfl) ?_
                      refine lv_iload hx hb dX9_knowing_102 (lv_at hl 4 rfl) ?_
                      obtain ⟨⟨x142, u143⟩, hc141, h⟩ := ob h
                      replace h := bd_x (x := x142) rfl h
                      replace h := bd_x (x := u143) rfl h
                      refine r_callV1 (As := [.int x1, .int x119]) (rest := [.int x118]) (r := 9) (i := 0) C (vX9_changeOf hc141) hR hS (lv0 (by decide) (by decide)) (by decide) ml_X9_378 mw_X9_changeOf rfl ⟨Nat.le_of_ble_eq_true rfl, Nat.le_of_ble_eq_true rfl, Nat.le_of_ble_eq_true rfl, Nat.le_of_ble_eq_true rfl⟩ hl.1 rfl (Nat.le_of_ble_eq_true rfl) dX9_knowing_104 (fun H locs hR hS => ?_)
                      refine lv_iconst (v := (-1)) hx hb dX9_knowing_107 (by decide) ?_
                      refine lv_icmp_ne (tgt := 115) hx hb dX9_knowing_108 (by decide) (fun c_144 => ?_) (fun c_144 => ?_)
                      · rw [if_neg c_144] at h
                        refine lv_iconst (v := 0) hx hb dX9_knowing_115 (by decide) ?_
                        exact Kj136 _ _ _ _ _ h hR hS (lv_sub hl [0, 1, 2, 4] rfl)
                      · rw [if_pos c_144] at h
                        exact Kj139 _ _ _ _ h hR hS (lv_sub hl [0, 1, 2, 4] rfl)
                  refine lv_if_le (tgt := 94) hx hb dX9_knowing_77 (by decide) (fun c_145 => ?_) (fun c_145 => ?_)
                  · rw [if_pos c_145] at h
                    exact Kj133 _ _ _ _ h hR hS (lv_sub hl [0, 1, 2, 3, 4] rfl)
                  · rw [if_neg c_145] at h
                    refine lv_aload_n hx hb dX9_knowing_80 rfl (lv_at hl 0 rfl) ?_
                    refine lv_iload_n hx hb dX9_knowing_81 rfl (lv_at hl 1 rfl) ?_
                    refine lv_iload hx hb dX9_knowing_82 (lv_at hl 4 rfl) ?_
                    refine lv_iconst (v := 0) hx hb dX9_knowing_84 (by decide) ?_
                    obtain ⟨⟨x147, u148⟩, hc146, h⟩ := ob h
                    replace h := bd_x (x := x147) rfl h
                    replace h := bd_x (x := u148) rfl h
                    refine r_callV1 (As := [.int x1, .int x119, .int 0]) (rest := []) (r := 9) (i := 0) C (vX9_saysBy hc146) hR hS (lv0 (by decide) (by decide)) (by decide) ml_X9_369 mw_X9_saysBy rfl ⟨Nat.le_of_ble_eq_true rfl, Nat.le_of_ble_eq_true rfl, Nat.le_of_ble_eq_true rfl, Nat.le_of_ble_eq_true rfl⟩ hl.1 rfl (Nat.le_of_ble_eq_true rfl) dX9_knowing_85 (fun H locs hR hS => ?_)
                    refine lv_if_ne (tgt := 94) hx hb dX9_knowing_88 (by decide) (fun c_149 => ?_) (fun c_149 => ?_)
                    · rw [if_neg c_149] at h
                      exact Kj133 _ _ _ _ h hR hS (lv_sub hl [0, 1, 2, 3, 4] rfl)
                    · rw [if_pos c_149] at h
                      refine lv_goto (tgt := 118) hx hb dX9_knowing_91 (by decide) ?_
                      exact Kj129 _ _ _ _ _ h hR hS (lv_sub hl [0, 1, 2, 3, 4] rfl)
          exact LP FU _ _ _ _ _ _ h hR hS (lv_sub hl [2, 3, 4, 1, 0] rfl)
        · rw [if_neg c_117] at h
          refine lv_iconst (v := 0) hx hb dX9_knowing_48 (by decide) ?_
          cases h
          exact e_iret C hr hR hS (Nat.le_of_ble_eq_true rfl) (Nat.le_of_ble_eq_true rfl) dX9_knowing_49
      clear h
      have h := hz
      clear hz
      refine lv_if_ne (tgt := 40) hx hb dX9_knowing_33 (by decide) (fun c_150 => ?_) (fun c_150 => ?_)
      · rw [if_neg c_150] at h
        refine lv_iconst (v := 0) hx hb dX9_knowing_40 (by decide) ?_
        cases h
        exact Kj113 _ _ _ hR hS (lv_sub hl [0, 1, 2] rfl)
      · rw [if_pos c_150] at h
        refine lv_iconst (v := 1) hx hb dX9_knowing_36 (by decide) ?_
        refine lv_goto (tgt := 41) hx hb dX9_knowing_37 (by decide) ?_
        cases h
        exact Kj113 _ _ _ hR hS (lv_sub hl [0, 1, 2] rfl)
  clear h
  have h := hz
  clear hz
  refine lv_if_ne (tgt := 18) hx hb dX9_knowing_11 (by decide) (fun c_151 => ?_) (fun c_151 => ?_)
  · rw [if_neg c_151] at h
    refine lv_iconst (v := 0) hx hb dX9_knowing_18 (by decide) ?_
    cases h
    exact Kj105 _ _ _ hR hS (lv_sub hl [0, 1, 2] rfl)
  · rw [if_pos c_151] at h
    refine lv_iconst (v := 1) hx hb dX9_knowing_14 (by decide) ?_
    refine lv_goto (tgt := 19) hx hb dX9_knowing_15 (by decide) ?_
    cases h
    exact Kj105 _ _ _ hR hS (lv_sub hl [0, 1, 2] rfl)
set_option maxHeartbeats 4000000 in
set_option maxRecDepth 100000 in
theorem vX9_crossing {l : Launch} {E : EV} {a : Nat → Nat → Nat} {u0 : HS} {x1 : Int32} {x2 : Int32} {x3 : Int32} {x4 : Int32} {out : (Int32 × HS)} (h : mX9_crossing u0 x1 x2 x3 x4 = some out) : Ct l E yX9_crossing cX9_crossing 9 (some .int) 13 322 0 0 a u0 [.ref (a 9 0), .int x1, .int x2, .int x3, .int x4] (some (.int out.1)) out.2 := by
  refine Ct.start (by decide) (Nat.le_of_ble_eq_true rfl) ?_
  intro p e s m args below meth c ls C hr hR hS hl
  have C : Cx E p s m args meth c cX9_crossing 9 RX9 := C
  have hl : lv_has ls 9 [(0, .ref (a 9 0)), (1, .int x1), (2, .int x2), (3, .int x3), (4, .int x4)] := hl
  have hx := C.1
  have hb := C.2.1
  unfold mX9_crossing at h
  refine lv_aload_n hx hb dX9_crossing_0 rfl (lv_at hl 0 rfl) ?_
  refine lv_iconst (v := 0) hx hb dX9_crossing_1 (by decide) ?_
  refine r_putI (ty := .int) C hR hS 9 0 0 (lv0 (by decide) (by decide)) (by decide) (by decide) (fun _ => rfl) fl_X9_76 (by decide) (by decide +kernel) rfl rfl dX9_crossing_2 (fun H locs hR hS => ?_)
  obtain ⟨u101, eu101⟩ : ∃ z : HS, z = wI u0 9 0 0 0 := ⟨_, rfl⟩
  rw [← eu101] at hR
  replace h := bd_x eu101 h
  clear eu101
  refine lv_aload_n hx hb dX9_crossing_5 rfl (lv_at hl 0 rfl) ?_
  refine lv_aload_n hx hb dX9_crossing_6 rfl (lv_at hl 0 rfl) ?_
  refine lv_iload_n hx hb dX9_crossing_7 rfl (lv_at hl 1 rfl) ?_
  obtain ⟨x103, hc102, h⟩ := ob h
  refine r_callV1 (As := [.int x1]) (rest := [.ref (a 9 0)]) (r := 9) (i := 0) C (vX9_isScene hc102) hR hS (lv0 (by decide) (by decide)) (by decide) ml_X9_254 mw_X9_isScene rfl ⟨Nat.le_of_ble_eq_true rfl, Nat.le_of_ble_eq_true rfl, Nat.le_of_ble_eq_true rfl, Nat.le_of_ble_eq_true rfl⟩ hl.1 rfl (Nat.le_of_ble_eq_true rfl) dX9_crossing_8 (fun H locs hR hS => ?_)
  obtain ⟨x104, hz, h⟩ := ob h
  have Kj105 : ∀ (H : Heap) (locs : List Loc) (ls : Array Slot), Rel E a u101 H → va_S (AE E) s.heap H locs → lv_has ls 9 [(0, .ref (a 9 0)), (1, .int x1), (2, .int x2), (3, .int x3), (4, .int x4)] → W p l e { frames := 13, cells := 0, slots := 0, locals := 322 } s m args below meth c H locs 0 0 (MQ below (QW E a (some (.int out.1)) out.2) args s 0 0 (AE E)) (F0 m 19 ls [.int x104, .ref (a 9 0)]) := by
    intro H locs ls hR hS hl
    clear hz
    refine lv_iconst (v := 1) hx hb dX9_crossing_19 (by decide) ?_
    obtain ⟨⟨x107, u108⟩, hc106, h⟩ := ob h
    replace h := bd_x (x := x107) rfl h
    replace h := bd_x (x := u108) rfl h
    refine r_callV1 (As := [.int x104, .int 1]) (rest := []) (r := 9) (i := 0) C (vX9_bad hc106) hR hS (lv0 (by decide) (by decide)) (by decide) ml_X9_162 mw_X9_bad rfl ⟨Nat.le_of_ble_eq_true rfl, Nat.le_of_ble_eq_true rfl, Nat.le_of_ble_eq_true rfl, Nat.le_of_ble_eq_true rfl⟩ hl.1 rfl (Nat.le_of_ble_eq_true rfl) dX9_crossing_20 (fun H locs hR hS => ?_)
    refine lv_if_ne (tgt := 80) hx hb dX9_crossing_23 (by decide) (fun c_109 => ?_) (fun c_109 => ?_)
    · rw [if_neg c_109] at h
      refine lv_iconst (v := 0) hx hb dX9_crossing_80 (by decide) ?_
      cases h
      exact e_iret C hr hR hS (Nat.le_of_ble_eq_true rfl) (Nat.le_of_ble_eq_true rfl) dX9_crossing_81
    · rw [if_pos c_109] at h
      refine lv_aload_n hx hb dX9_crossing_26 rfl (lv_at hl 0 rfl) ?_
      refine lv_aload_n hx hb dX9_crossing_27 rfl (lv_at hl 0 rfl) ?_
      refine lv_iload_n hx hb dX9_crossing_28 rfl (lv_at hl 2 rfl) ?_
      obtain ⟨x111, hc110, h⟩ := ob h
      refine r_callV1 (As := [.int x2]) (rest := [.ref (a 9 0)]) (r := 9) (i := 0) C (vX9_isTask hc110) hR hS (lv0 (by decide) (by decide)) (by decide) ml_X9_278 mw_X9_isTask rfl ⟨Nat.le_of_ble_eq_true rfl, Nat.le_of_ble_eq_true rfl, Nat.le_of_ble_eq_true rfl, Nat.le_of_ble_eq_true rfl⟩ hl.1 rfl (Nat.le_of_ble_eq_true rfl) dX9_crossing_29 (fun H locs hR hS => ?_)
      obtain ⟨x112, hz, h⟩ := ob h
      have Kj113 : ∀ (H : Heap) (locs : List Loc) (ls : Array Slot), Rel E a u108 H → va_S (AE E) s.heap H locs → lv_has ls 9 [(0, .ref (a 9 0)), (1, .int x1), (2, .int x2), (3, .int x3), (4, .int x4)] → W p l e { frames := 13, cells := 0, slots := 0, locals := 322 } s m args below meth c H locs 0 0 (MQ below (QW E a (some (.int out.1)) out.2) args s 0 0 (AE E)) (F0 m 40 ls [.int x112, .ref (a 9 0)]) := by
        intro H locs ls hR hS hl
        clear hz
        refine lv_iconst (v := 2) hx hb dX9_crossing_40 (by decide) ?_
        obtain ⟨⟨x115, u116⟩, hc114, h⟩ := ob h
        replace h := bd_x (x := x115) rfl h
        replace h := bd_x (x := u116) rfl h
        refine r_callV1 (As := [.int x112, .int 2]) (rest := []) (r := 9) (i := 0) C (vX9_bad hc114) hR hS (lv0 (by decide) (by decide)) (by decide) ml_X9_162 mw_X9_bad rfl ⟨Nat.le_of_ble_eq_true rfl, Nat.le_of_ble_eq_true rfl, Nat.le_of_ble_eq_true rfl, Nat.le_of_ble_eq_true rfl⟩ hl.1 rfl (Nat.le_of_ble_eq_true rfl) dX9_crossing_41 (fun H locs hR hS => ?_)
        refine lv_if_ne (tgt := 80) hx hb dX9_crossing_44 (by decide) (fun c_117 => ?_) (fun c_117 => ?_)
        · rw [if_neg c_117] at h
          refine lv_iconst (v := 0) hx hb dX9_crossing_80 (by decide) ?_
          cases h
          exact e_iret C hr hR hS (Nat.le_of_ble_eq_true rfl) (Nat.le_of_ble_eq_true rfl) dX9_crossing_81
        · rw [if_pos c_117] at h
          refine lv_aload_n hx hb dX9_crossing_47 rfl (lv_at hl 0 rfl) ?_
          refine lv_iload_n hx hb dX9_crossing_48 rfl (lv_at hl 3 rfl) ?_
          refine lv_iconst (v := 0) hx hb dX9_crossing_49 (by decide) ?_
          refine lv_iconst (v := 2) hx hb dX9_crossing_50 (by decide) ?_
          obtain ⟨x119, hc118, h⟩ := ob h
          refine r_callS1 (As := [.int x3, .int 0, .int 2]) (rest := [.ref (a 9 0)]) C (vX9_in hc118) hR hS ml_X9_113 ms_X9_in rfl ⟨Nat.le_of_ble_eq_true rfl, Nat.le_of_ble_eq_true rfl, Nat.le_of_ble_eq_true rfl, Nat.le_of_ble_eq_true rfl⟩ hl.1 rfl (Nat.le_of_ble_eq_true rfl) dX9_crossing_51 (fun H locs hR hS => ?_)
          obtain ⟨x120, hz, h⟩ := ob h
          have Kj121 : ∀ (H : Heap) (locs : List Loc) (ls : Array Slot), Rel E a u116 H → va_S (AE E) s.heap H locs → lv_has ls 9 [(0, .ref (a 9 0)), (1, .int x1), (2, .int x2), (3, .int x3), (4, .int x4)] → W p l e { frames := 13, cells := 0, slots := 0, locals := 322 } s m args below meth c H locs 0 0 (MQ below (QW E a (some (.int out.1)) out.2) args s 0 0 (AE E)) (F0 m 73 ls [.int x120, .ref (a 9 0)]) := by
            intro H locs ls hR hS hl
            clear hz
            refine lv_iconst (v := 3) hx hb dX9_crossing_73 (by decide) ?_
            obtain ⟨⟨x123, u124⟩, hc122, h⟩ := ob h
            replace h := bd_x (x := x123) rfl h
            replace h := bd_x (x := u124) rfl h
            refine r_callV1 (As := [.int x120, .int 3]) (rest := []) (r := 9) (i := 0) C (vX9_bad hc122) hR hS (lv0 (by decide) (by decide)) (by decide) ml_X9_162 mw_X9_bad rfl ⟨Nat.le_of_ble_eq_true rfl, Nat.le_of_ble_eq_true rfl, Nat.le_of_ble_eq_true rfl, Nat.le_of_ble_eq_true rfl⟩ hl.1 rfl (Nat.le_of_ble_eq_true rfl) dX9_crossing_74 (fun H locs hR hS => ?_)
            refine lv_if_eq (tgt := 82) hx hb dX9_crossing_77 (by decide) (fun c_125 => ?_) (fun c_125 => ?_)
            · rw [if_pos c_125] at h
              refine lv_aload_n hx hb dX9_crossing_82 rfl (lv_at hl 0 rfl) ?_
              refine lv_iload hx hb dX9_crossing_83 (lv_at hl 4 rfl) ?_
              obtain ⟨⟨x127, u128⟩, hc126, h⟩ := ob h
              replace h := bd_x (x := x127) rfl h
              replace h := bd_x (x := u128) rfl h
              refine r_callV1 (As := [.int x4]) (rest := []) (r := 9) (i := 0) C (vX9_fitting hc126) hR hS (lv0 (by decide) (by decide)) (by decide) ml_X9_417 mw_X9_fitting rfl ⟨Nat.le_of_ble_eq_true rfl, Nat.le_of_ble_eq_true rfl, Nat.le_of_ble_eq_true rfl, Nat.le_of_ble_eq_true rfl⟩ hl.1 rfl (Nat.le_of_ble_eq_true rfl) dX9_crossing_85 (fun H locs hR hS => ?_)
              refine lv_istore (lv' := [(5, .int x127), (0, .ref (a 9 0)), (1, .int x1), (2, .int x2), (3, .int x3), (4, .int x4)]) hx hb dX9_crossing_88 hl (by decide) rfl (fun ls hl => ?_)
              refine lv_iconst (v := 0) hx hb dX9_crossing_90 (by decide) ?_
              refine lv_istore (lv' := [(6, .int 0), (5, .int x127), (0, .ref (a 9 0)), (1, .int x1), (2, .int x2), (3, .int x3), (4, .int x4)]) hx hb dX9_crossing_91 hl (by decide) rfl (fun ls hl => ?_)
              refine lv_iconst (v := 0) hx hb dX9_crossing_93 (by decide) ?_
              refine lv_istore (lv' := [(7, .int 0), (6, .int 0), (5, .int x127), (0, .ref (a 9 0)), (1, .int x1), (2, .int x2), (3, .int x3), (4, .int x4)]) hx hb dX9_crossing_94 hl (by decide) rfl (fun ls hl => ?_)
              refine lv_aload_n hx hb dX9_crossing_96 rfl (lv_at hl 3 rfl) ?_
              refine lv_bipush (v := 14) hx hb dX9_crossing_97 (by decide) ?_
              refine lv_iload_n hx hb dX9_crossing_99 rfl (lv_at hl 4 rfl) ?_
              refine lv_iload_n hx hb dX9_crossing_100 rfl (lv_at hl 5 rfl) ?_
              refine lv_iconst (v := 0) hx hb dX9_crossing_101 (by decide) ?_
              obtain ⟨u130, hc129, h⟩ := ob h
              refine r_callV0 (As := [.int 14, .int x1, .int x2, .int 0]) (rest := []) (r := 9) (i := 0) C (vX9_comes hc129) hR hS (lv0 (by decide) (by decide)) (by decide) ml_X9_291 mw_X9_comes rfl ⟨Nat.le_of_ble_eq_true rfl, Nat.le_of_ble_eq_true rfl, Nat.le_of_ble_eq_true rfl, Nat.le_of_ble_eq_true rfl⟩ hl.1 rfl (Nat.le_of_ble_eq_true rfl) dX9_crossing_102 (fun H locs hR hS => ?_)
              refine lv_iconst (v := 0) hx hb dX9_crossing_105 (by decide) ?_
              refine lv_istore (lv' := [(8, .int 0), (7, .int 0), (6, .int 0), (5, .int x127), (0, .ref (a 9 0)), (1, .int x1), (2, .int x2), (3, .int x3), (4, .int x4)]) hx hb dX9_crossing_106 hl (by decide) rfl (fun ls hl => ?_)
              refine jp_cut h (fun w138 hw138 h => ?_)
              have Kw138 : ∀ (x135 : Int32) (x136 : Int32) (u137 : HS) (H : Heap) (locs : List Loc) (ls : Array Slot), w138 x135 x136 u137 = some out → Rel E a u137 H → va_S (AE E) s.heap H locs → lv_has ls 9 [(5, .int x127), (6, .int x135), (7, .int x136)] → W p l e { frames := 13, cells := 0, slots := 0, locals := 322 } s m args below meth c H locs 0 0 (MQ below (QW E a (some (.int out.1)) out.2) args s 0 0 (AE E)) (F0 m 157 ls []) := by
                intro x135 x136 u137 H locs ls h hR hS hl
                replace h := jx3 hw138 h
                refine lv_iload hx hb dX9_crossing_157 (lv_at hl 0 rfl) ?_
                refine lv_if_ne (tgt := 166) hx hb dX9_crossing_159 (by decide) (fun c_139 => ?_) (fun c_139 => ?_)
                · rw [if_neg c_139] at h
                  refine lv_iload hx hb dX9_crossing_166 (lv_at hl 1 rfl) ?_
                  refine lv_if_ne (tgt := 175) hx hb dX9_crossing_168 (by decide) (fun c_140 => ?_) (fun c_140 => ?_)
                  · rw [if_neg c_140] at h
                    refine lv_iload hx hb dX9_crossing_175 (lv_at hl 2 rfl) ?_
                    refine lv_if_ne (tgt := 184) hx hb dX9_crossing_177 (by decide) (fun c_141 => ?_) (fun c_141 => ?_)
                    · rw [if_neg c_141] at h
                      refine lv_iconst (v := 3) hx hb dX9_crossing_184 (by decide) ?_
                      cases h
                      exact e_iret C hr hR hS (Nat.le_of_ble_eq_true rfl) (Nat.le_of_ble_eq_true rfl) dX9_crossing_185
                    · rw [if_pos c_141] at h
                      refine lv_iconst (v := 2) hx hb dX9_crossing_180 (by decide) ?_
                      refine lv_goto (tgt := 185) hx hb dX9_crossing_181 (by decide) ?_
                      cases h
                      exact e_iret C hr hR hS (Nat.le_of_ble_eq_true rfl) (Nat.le_of_ble_eq_true rfl) dX9_crossing_185
                  · rw [if_pos c_140] at h
                    refine lv_iconst (v := 1) hx hb dX9_crossing_171 (by decide) ?_
                    refine lv_goto (tgt := 185) hx hb dX9_crossing_172 (by decide) ?_
                    cases h
                    exact e_iret C hr hR hS (Nat.le_of_ble_eq_true rfl) (Nat.le_of_ble_eq_true rfl) dX9_crossing_185
                · rw [if_pos c_139] at h
                  refine lv_iconst (v := 0) hx hb dX9_crossing_162 (by decide) ?_
                  refine lv_goto (tgt := 185) hx hb dX9_crossing_163 (by decide) ?_
                  cases h
                  exact e_iret C hr hR hS (Nat.le_of_ble_eq_true rfl) (Nat.le_of_ble_eq_true rfl) dX9_crossing_185
              have LP : ∀ (fu : Nat) (x131 : Int32) (x132 : Int32) (x133 : Int32) (u134 : HS) (H : Heap) (locs : List Loc) (ls : Array Slot), mX9_crossing_L108 x127 x3 w138 fu x131 x132 x133 u134 = some out → Rel E a u134 H → va_S (AE E) s.heap H locs → lv_has ls 9 [(0, .ref (a 9 0)), (3, .int x3), (5, .int x127), (6, .int x131), (7, .int x132), (8, .int x133)] → W p l e { frames := 13, cells := 0, slots := 0, locals := 322 } s m args below meth c H locs 0 0 (MQ below (QW E a (some (.int out.1)) out.2) args s 0 0 (AE E)) (F0 m 108 ls []) := by
                intro fu
                induction fu with
                | zero =>
                  intro x131 x132 x133 u134 H locs ls h
                  have h2 : (none : Option (Int32 × HS)) = some out := h
                  cases h2
                | succ fu ih =>
                  intro x131 x132 x133 u134 H locs ls h hR hS hl
                  rw [mX9_crossing_L108.eq_2] at h
                  refine lv_iload hx hb dX9_crossing_108 (lv_at hl 5 rfl) ?_
                  refine lv_aload_n hx hb dX9_crossing_110 rfl (lv_at hl 0 rfl) ?_
                  refine r_get C hR 9 0 16 (v := .int (gI u134 9 0 16)) (lv0 (by decide) (by decide)) (by decide) (by decide) rfl fl_X9_219 dX9_crossing_111 ?_
                  refine lv_icmp_ge (tgt := 157) hx hb dX9_crossing_114 (by decide) (fun c_142 => ?_) (fun c_142 => ?_)
                  · rw [if_pos c_142] at h
                    exact Kw138 _ _ _ _ _ _ h hR hS (lv_sub hl [2, 3, 4] rfl)
                  · rw [if_neg c_142] at h
                    refine lv_iload hx hb dX9_crossing_117 (lv_at hl 2 rfl) ?_
                    refine lv_iload hx hb dX9_crossing_119 (lv_at hl 5 rfl) ?_
                    refine lv_ishr hx hb dX9_crossing_121 ?_
                    refine lv_iconst (v := 1) hx hb dX9_crossing_122 (by decide) ?_
                    refine lv_iand hx hb dX9_crossing_123 ?_
                    refine jp_cut h (fun j146 hj146 h => ?_)
                    have Kj146 : ∀ (x143 : Int32) (x144 : Int32) (u145 : HS) (H : Heap) (locs : List Loc) (ls : Array Slot), j146 x143 x144 u145 = some out → Rel E a u145 H → va_S (AE E) s.heap H locs → lv_has ls 9 [(0, .ref (a 9 0)), (3, .int x3), (5, .int x127), (6, .int x143), (7, .int x144), (8, .int x133)] → W p l e { frames := 13, cells := 0, slots := 0, locals := 322 } s m args below meth c H locs 0 0 (MQ below (QW E a (some (.int out.1)) out.2) args s 0 0 (AE E)) (F0 m 151 ls []) := by
                      intro x143 x144 u145 H locs ls h hR hS hl
                      replace h := jx3 hj146 h
                      obtain ⟨x147, ex147⟩ : ∃ z : Int32, z = x133 + 1 := ⟨_, rfl⟩
                      replace h := bd_x ex147 h
                      refine lv_iinc (v := x147) (lv' := [(8, .int x147), (0, .ref (a 9 0)), (3, .int x3), (5, .int x127), (6, .int x143), (7, .int x144)]) hx hb dX9_crossing_151 hl (k := 5) rfl (by rw [ex147]; rfl) (by decide) rfl (fun ls hl => ?_)
                      refine lv_goto (tgt := 108) hx hb dX9_crossing_154 (by decide) ?_
                      exact ih _ _ _ _ _ _ _ h hR hS (lv_sub hl [1, 2, 3, 4, 5, 0] rfl)
                    refine lv_if_ne (tgt := 130) hx hb dX9_crossing_124 (by decide) (fun c_148 => ?_) (fun c_148 => ?_)
                    · rw [if_neg c_148] at h
                      refine lv_aload_n hx hb dX9_crossing_130 rfl (lv_at hl 0 rfl) ?_
                      refine lv_iload hx hb dX9_crossing_131 (lv_at hl 5 rfl) ?_
                      refine lv_bipush (v := 14) hx hb dX9_crossing_133 (by decide) ?_
                      refine lv_iload_n hx hb dX9_crossing_135 rfl (lv_at hl 1 rfl) ?_
                      obtain ⟨⟨x150, u151⟩, hc149, h⟩ := ob h
                      replace h := bd_x (x := x150) rfl h
                      replace h := bd_x (x := u151) rfl h
                      refine r_callV1 (As := [.int x133, .int 14, .int x3]) (rest := []) (r := 9) (i := 0) C (vX9_saysBy hc149) hR hS (lv0 (by decide) (by decide)) (by decide) ml_X9_369 mw_X9_saysBy rfl ⟨Nat.le_of_ble_eq_true rfl, Nat.le_of_ble_eq_true rfl, Nat.le_of_ble_eq_true rfl, Nat.le_of_ble_eq_true rfl⟩ hl.1 rfl (Nat.le_of_ble_eq_true rfl) dX9_crossing_136 (fun H locs hR hS => ?_)
                      refine lv_if_eq (tgt := 148) hx hb dX9_crossing_139 (by decide) (fun c_152 => ?_) (fun c_152 => ?_)
                      · rw [if_pos c_152] at h
                        obtain ⟨x153, ex153⟩ : ∃ z : Int32, z = x132 + 1 := ⟨_, rfl⟩
                        replace h := bd_x ex153 h
                        refine lv_iinc (v := x153) (lv' := [(7, .int x153), (0, .ref (a 9 0)), (3, .int x3), (5, .int x127), (6, .int x131), (8, .int x133)]) hx hb dX9_crossing_148 hl (k := 4) rfl (by rw [ex153]; rfl) (by decide) rfl (fun ls hl => ?_)
                        exact Kj146 _ _ _ _ _ _ h hR hS (lv_sub hl [1, 2, 3, 4, 0, 5] rfl)
                      · rw [if_neg c_152] at h
                        obtain ⟨x154, ex154⟩ : ∃ z : Int32, z = x131 + 1 := ⟨_, rfl⟩
                        replace h := bd_x ex154 h
                        refine lv_iinc (v := x154) (lv' := [(6, .int x154), (0, .ref (a 9 0)), (3, .int x3), (5, .int x127), (7, .int x132), (8, .int x133)]) hx hb dX9_crossing_142 hl (k := 3) rfl (by rw [ex154]; rfl) (by decide) rfl (fun ls hl => ?_)
                        refine lv_goto (tgt := 151) hx hb dX9_crossing_145 (by decide) ?_
                        exact Kj146 _ _ _ _ _ _ h hR hS (lv_sub hl [1, 2, 3, 0, 4, 5] rfl)
                    · rw [if_pos c_148] at h
                      refine lv_goto (tgt := 151) hx hb dX9_crossing_127 (by decide) ?_
                      exact Kj146 _ _ _ _ _ _ h hR hS (lv_sub hl [0, 1, 2, 3, 4, 5] rfl)
              exact LP FU _ _ _ _ _ _ _ h hR hS (lv_sub hl [4, 7, 3, 2, 1, 0] rfl)
            · rw [if_neg c_125] at h
              refine lv_iconst (v := 0) hx hb dX9_crossing_80 (by decide) ?_
              cases h
              exact e_iret C hr hR hS (Nat.le_of_ble_eq_true rfl) (Nat.le_of_ble_eq_true rfl) dX9_crossing_81
          clear h
          have h := hz
          clear hz
          refine jp_cut h (fun j155 hj155 h => ?_)
          have Kj155 : ∀  (H : Heap) (locs : List Loc) (ls : Array Slot), j155 = some x120 → Rel E a u116 H → va_S (AE E) s.heap H locs → lv_has ls 9 [(0, .ref (a 9 0)), (1, .int x1), (2, .int x2), (3, .int x3), (4, .int x4)] → W p l e { frames := 13, cells := 0, slots := 0, locals := 322 } s m args below meth c H locs 0 0 (MQ below (QW E a (some (.int out.1)) out.2) args s 0 0 (AE E)) (F0 m 68 ls [.ref (a 9 0)]) := by
            intro  H locs ls h hR hS hl
            replace h := jx0 hj155 h
            refine lv_iconst (v := 1) hx hb dX9_crossing_68 (by decide) ?_
            refine lv_goto (tgt := 73) hx hb dX9_crossing_69 (by decide) ?_
            cases h
            exact Kj121 _ _ _ hR hS (lv_sub hl [0, 1, 2, 3, 4] rfl)
          refine lv_if_eq (tgt := 68) hx hb dX9_crossing_54 (by decide) (fun c_156 => ?_) (fun c_156 => ?_)
          · rw [if_pos c_156] at h
            exact Kj155  _ _ _ h hR hS (lv_sub hl [0, 1, 2, 3, 4] rfl)
          · rw [if_neg c_156] at h
            refine lv_iload hx hb dX9_crossing_57 (lv_at hl 4 rfl) ?_
            refine lv_iconst (v := 0) hx hb dX9_crossing_59 (by decide) ?_
            refine lv_bipush (v := 14) hx hb dX9_crossing_60 (by decide) ?_
            obtain ⟨x158, hc157, h⟩ := ob h
            refine r_callS1 (As := [.int x4, .int 0, .int 14]) (rest := [.ref (a 9 0)]) C (vX9_in hc157) hR hS ml_X9_113 ms_X9_in rfl ⟨Nat.le_of_ble_eq_true rfl, Nat.le_of_ble_eq_true rfl, Nat.le_of_ble_eq_true rfl, Nat.le_of_ble_eq_true rfl⟩ hl.1 rfl (Nat.le_of_ble_eq_true rfl) dX9_crossing_62 (fun H locs hR hS => ?_)
            refine lv_if_ne (tgt := 72) hx hb dX9_crossing_65 (by decide) (fun c_159 => ?_) (fun c_159 => ?_)
            · rw [if_neg c_159] at h
              refine lv_iconst (v := 0) hx hb dX9_crossing_72 (by decide) ?_
              cases h
              exact Kj121 _ _ _ hR hS (lv_sub hl [0, 1, 2, 3, 4] rfl)
            · rw [if_pos c_159] at h
              exact Kj155  _ _ _ h hR hS (lv_sub hl [0, 1, 2, 3, 4] rfl)
      clear h
      have h := hz
      clear hz
      refine lv_if_ne (tgt := 39) hx hb dX9_crossing_32 (by decide) (fun c_160 => ?_) (fun c_160 => ?_)
      · rw [if_neg c_160] at h
        refine lv_iconst (v := 0) hx hb dX9_crossing_39 (by decide) ?_
        cases h
        exact Kj113 _ _ _ hR hS (lv_sub hl [0, 1, 2, 3, 4] rfl)
      · rw [if_pos c_160] at h
        refine lv_iconst (v := 1) hx hb dX9_crossing_35 (by decide) ?_
        refine lv_goto (tgt := 40) hx hb dX9_crossing_36 (by decide) ?_
        cases h
        exact Kj113 _ _ _ hR hS (lv_sub hl [0, 1, 2, 3, 4] rfl)
  clear h
  have h := hz
  clear hz
  refine lv_if_ne (tgt := 18) hx hb dX9_crossing_11 (by decide) (fun c_161 => ?_) (fun c_161 => ?_)
  · rw [if_neg c_161] at h
    refine lv_iconst (v := 0) hx hb dX9_crossing_18 (by decide) ?_
    cases h
    exact Kj105 _ _ _ hR hS (lv_sub hl [0, 1, 2, 3, 4] rfl)
  · rw [if_pos c_161] at h
    refine lv_iconst (v := 1) hx hb dX9_crossing_14 (by decide) ?_
    refine lv_goto (tgt := 19) hx hb dX9_crossing_15 (by decide) ?_
    cases h
    exact Kj105 _ _ _ hR hS (lv_sub hl [0, 1, 2, 3, 4] rfl)
set_option maxHeartbeats 4000000 in
set_option maxRecDepth 100000 in
theorem vX9_moves {l : Launch} {E : EV} {a : Nat → Nat → Nat} {u0 : HS} {x1 : Int32} {x2 : Int32} {x3 : Int32} {out : (Int32 × HS)} (h : mX9_moves u0 x1 x2 x3 = some out) : Ct l E yX9_moves cX9_moves 4 (some .int) 0 0 0 0 a u0 [.ref (a 9 0), .int x1, .int x2, .int x3] (some (.int out.1)) out.2 := by
  refine Ct.start (by decide) (Nat.le_of_ble_eq_true rfl) ?_
  intro p e s m args below meth c ls C hr hR hS hl
  have C : Cx E p s m args meth c cX9_moves 4 RX9 := C
  have hl : lv_has ls 4 [(0, .ref (a 9 0)), (1, .int x1), (2, .int x2), (3, .int x3)] := hl
  have hx := C.1
  have hb := C.2.1
  unfold mX9_moves at h
  refine lv_iload_n hx hb dX9_moves_0 rfl (lv_at hl 3 rfl) ?_
  obtain ⟨u101, hz, h⟩ := ob h
  have Kj102 : ∀ (H : Heap) (locs : List Loc) (ls : Array Slot), Rel E a u101 H → va_S (AE E) s.heap H locs → lv_has ls 4 [(0, .ref (a 9 0)), (1, .int x1)] → W p l e { frames := 0, cells := 0, slots := 0, locals := 0 } s m args below meth c H locs 0 0 (MQ below (QW E a (some (.int out.1)) out.2) args s 0 0 (AE E)) (F0 m 16 ls []) := by
    intro H locs ls hR hS hl
    clear hz
    refine lv_aload_n hx hb dX9_moves_16 rfl (lv_at hl 0 rfl) ?_
    refine lv_dup hx hb dX9_moves_17 rfl ?_
    refine r_get C hR 9 0 37 (v := .int (gI u101 9 0 37)) (lv0 (by decide) (by decide)) (by decide) (by decide) rfl fl_X9_420 dX9_moves_18 ?_
    refine lv_iconst (v := 1) hx hb dX9_moves_21 (by decide) ?_
    refine lv_iadd hx hb dX9_moves_22 ?_
    refine r_putI (ty := .int) C hR hS 9 0 37 (lv0 (by decide) (by decide)) (by decide) (by decide) (fun _ => rfl) fl_X9_420 (by decide) (by decide +kernel) rfl rfl dX9_moves_23 (fun H locs hR hS => ?_)
    obtain ⟨u103, eu103⟩ : ∃ z : HS, z = wI u101 9 0 37 ((gI u101 9 0 37) + 1) := ⟨_, rfl⟩
    rw [← eu103] at hR
    replace h := bd_x eu103 h
    clear eu103
    refine lv_aload_n hx hb dX9_moves_26 rfl (lv_at hl 0 rfl) ?_
    refine r_get C hR 9 0 36 (v := .ref (a 86 0)) (lv0 (by decide) (by decide)) (by decide) (by decide) rfl fl_X9_70 dX9_moves_27 ?_
    refine lv_iload_n hx hb dX9_moves_30 rfl (lv_at hl 1 rfl) ?_
    obtain ⟨k104, hk104, h⟩ := ob h
    have hLk104 : k104 < cntS 87 := by have q1 := (ck_in hk104).2.2; have q2 : cntS 87 = 3 := rfl; omega
    refine r_aald C hR 86 0 87 0 6 (lv0 (by decide) (by decide)) (by decide) rfl rfl rfl (fun _ => rfl) rfl hk104 dX9_moves_31 ?_
    refine lv_aload_n hx hb dX9_moves_32 rfl (lv_at hl 0 rfl) ?_
    refine r_get C hR 9 0 37 (v := .int (gI u103 9 0 37)) (lv0 (by decide) (by decide)) (by decide) (by decide) rfl fl_X9_420 dX9_moves_33 ?_
    refine lv_iconst (v := 1) hx hb dX9_moves_36 (by decide) ?_
    refine lv_isub hx hb dX9_moves_37 ?_
    obtain ⟨k105, hk105, h⟩ := ob h
    refine r_ald C hR 87 k104 (lv0 hLk104 (by decide)) (by decide) rfl (fun _ => rfl) rfl hk105 dX9_moves_38 ?_
    cases h
    exact e_iret C hr hR hS (Nat.le_of_ble_eq_true rfl) (Nat.le_of_ble_eq_true rfl) dX9_moves_39
  clear h
  have h := hz
  clear hz
  refine lv_if_ne (tgt := 16) hx hb dX9_moves_1 (by decide) (fun c_106 => ?_) (fun c_106 => ?_)
  · rw [if_neg c_106] at h
    cases h
    exact Kj102 _ _ _ hR hS (lv_sub hl [0, 1] rfl)
  · rw [if_pos c_106] at h
    refine lv_aload_n hx hb dX9_moves_4 rfl (lv_at hl 0 rfl) ?_
    refine r_get C hR 9 0 36 (v := .ref (a 86 0)) (lv0 (by decide) (by decide)) (by decide) (by decide) rfl fl_X9_70 dX9_moves_5 ?_
    refine lv_iload_n hx hb dX9_moves_8 rfl (lv_at hl 1 rfl) ?_
    obtain ⟨k107, hk107, h⟩ := ob h
    have hLk107 : k107 < cntS 87 := by have q1 := (ck_in hk107).2.2; have q2 : cntS 87 = 3 := rfl; omega
    refine r_aald C hR 86 0 87 0 6 (lv0 (by decide) (by decide)) (by decide) rfl rfl rfl (fun _ => rfl) rfl hk107 dX9_moves_9 ?_
    refine lv_aload_n hx hb dX9_moves_10 rfl (lv_at hl 0 rfl) ?_
    refine r_get C hR 9 0 37 (v := .int (gI u0 9 0 37)) (lv0 (by decide) (by decide)) (by decide) (by decide) rfl fl_X9_420 dX9_moves_11 ?_
    refine lv_iload_n hx hb dX9_moves_14 rfl (lv_at hl 2 rfl) ?_
    obtain ⟨k108, hk108, h⟩ := ob h
    refine r_ast C hR hS 87 k107 (lv0 hLk107 (by decide)) (by decide) rfl (fun _ _ => rfl) rfl hk108 dX9_moves_15 (fun H locs hR hS => ?_)
    obtain ⟨u109, eu109⟩ : ∃ z : HS, z = wI u0 87 k107 k108 x2 := ⟨_, rfl⟩
    rw [← eu109] at hR
    replace h := bd_x eu109 h
    clear eu109
    cases h
    exact Kj102 _ _ _ hR hS (lv_sub hl [0, 1] rfl)
set_option maxHeartbeats 4000000 in
set_option maxRecDepth 100000 in
theorem vX9_movesRow_77 {l : Launch} {E : EV} {a : Nat → Nat → Nat} {u0 : HS} {x1 : Int32} {x3 : Int32} {out : HS} (h : mX9_movesRow_77 u0 x1 x3 = some out) : Ct l E yX9_movesRow cX9_movesRow 5 none 1 23 0 0 a u0 [.ref (a 9 0), .int x1, .ref (a 77 0), .int x3] none out := by
  refine Ct.start (by decide) (Nat.le_of_ble_eq_true rfl) ?_
  intro p e s m args below meth c ls C hr hR hS hl
  have C : Cx E p s m args meth c cX9_movesRow 5 RX9 := C
  have hl : lv_has ls 5 [(0, .ref (a 9 0)), (1, .int x1), (2, .ref (a 77 0)), (3, .int x3)] := hl
  have hx := C.1
  have hb := C.2.1
  unfold mX9_movesRow_77 at h
  refine lv_iconst (v := 0) hx hb dX9_movesRow_0 (by decide) ?_
  refine lv_istore (lv' := [(4, .int 0), (0, .ref (a 9 0)), (1, .int x1), (2, .ref (a 77 0)), (3, .int x3)]) hx hb dX9_movesRow_1 hl (by decide) rfl (fun ls hl => ?_)
  refine jp_cut h (fun w104 hw104 h => ?_)
  have Kw104 : ∀ (u103 : HS) (H : Heap) (locs : List Loc) (ls : Array Slot), w104 u103 = some out → Rel E a u103 H → va_S (AE E) s.heap H locs → lv_has ls 5 [] → W p l e { frames := 1, cells := 0, slots := 0, locals := 23 } s m args below meth c H locs 0 0 (MQ below (QW E a none out) args s 0 0 (AE E)) (F0 m 30 ls []) := by
    intro u103 H locs ls h hR hS hl
    replace h := jx1 hw104 h
    cases h
    exact e_vret C hr hR hS (Nat.le_of_ble_eq_true rfl) (Nat.le_of_ble_eq_true rfl) dX9_movesRow_30
  have LP : ∀ (fu : Nat) (x101 : Int32) (u102 : HS) (H : Heap) (locs : List Loc) (ls : Array Slot), mX9_movesRow_77_L3 x1 x3 w104 fu x101 u102 = some out → Rel E a u102 H → va_S (AE E) s.heap H locs → lv_has ls 5 [(0, .ref (a 9 0)), (1, .int x1), (2, .ref (a 77 0)), (3, .int x3), (4, .int x101)] → W p l e { frames := 1, cells := 0, slots := 0, locals := 23 } s m args below meth c H locs 0 0 (MQ below (QW E a none out) args s 0 0 (AE E)) (F0 m 3 ls []) := by
    intro fu
    induction fu with
    | zero =>
      intro x101 u102 H locs ls h
      have h2 : (none : Option HS) = some out := h
      cases h2
    | succ fu ih =>
      intro x101 u102 H locs ls h hR hS hl
      rw [mX9_movesRow_77_L3.eq_2] at h
      refine lv_iload hx hb dX9_movesRow_3 (lv_at hl 4 rfl) ?_
      refine lv_aload_n hx hb dX9_movesRow_5 rfl (lv_at hl 2 rfl) ?_
      refine r_alen (n := 4) C hR 77 0 0 (lv0 (by decide) (by decide)) (by decide) rfl rfl rfl dX9_movesRow_6 ?_
      refine lv_icmp_ge (tgt := 30) hx hb dX9_movesRow_7 (by decide) (fun c_105 => ?_) (fun c_105 => ?_)
      · rw [if_pos c_105] at h
        exact Kw104 _ _ _ _ h hR hS (lv_sub hl [] rfl)
      · rw [if_neg c_105] at h
        refine lv_aload_n hx hb dX9_movesRow_10 rfl (lv_at hl 2 rfl) ?_
        refine lv_iload hx hb dX9_movesRow_11 (lv_at hl 4 rfl) ?_
        refine lv_aload_n hx hb dX9_movesRow_13 rfl (lv_at hl 0 rfl) ?_
        refine lv_iload_n hx hb dX9_movesRow_14 rfl (lv_at hl 1 rfl) ?_
        refine lv_aload_n hx hb dX9_movesRow_15 rfl (lv_at hl 2 rfl) ?_
        refine lv_iload hx hb dX9_movesRow_16 (lv_at hl 4 rfl) ?_
        obtain ⟨k106, hk106, h⟩ := ob h
        refine r_ald C hR 77 0 (lv0 (by decide) (by decide)) (by decide) rfl (fun _ => rfl) rfl hk106 dX9_movesRow_18 ?_
        refine lv_iload_n hx hb dX9_movesRow_19 rfl (lv_at hl 3 rfl) ?_
        obtain ⟨⟨x108, u109⟩, hc107, h⟩ := ob h
        replace h := bd_x (x := x108) rfl h
        replace h := bd_x (x := u109) rfl h
        refine r_callV1 (As := [.int x1, .int (gI u102 77 0 k106), .int x3]) (rest := [.int x101, .ref (a 77 0)]) (r := 9) (i := 0) C (vX9_moves hc107) hR hS (lv0 (by decide) (by decide)) (by decide) ml_X9_423 mw_X9_moves rfl ⟨Nat.le_of_ble_eq_true rfl, Nat.le_of_ble_eq_true rfl, Nat.le_of_ble_eq_true rfl, Nat.le_of_ble_eq_true rfl⟩ hl.1 rfl (Nat.le_of_ble_eq_true rfl) dX9_movesRow_20 (fun H locs hR hS => ?_)
        obtain ⟨k110, hk110, h⟩ := ob h
        refine r_ast C hR hS 77 0 (lv0 (by decide) (by decide)) (by decide) rfl (fun _ _ => rfl) rfl hk110 dX9_movesRow_23 (fun H locs hR hS => ?_)
        obtain ⟨u111, eu111⟩ : ∃ z : HS, z = wI u109 77 0 k110 x108 := ⟨_, rfl⟩
        rw [← eu111] at hR
        replace h := bd_x eu111 h
        clear eu111
        obtain ⟨x112, ex112⟩ : ∃ z : Int32, z = x101 + 1 := ⟨_, rfl⟩
        replace h := bd_x ex112 h
        refine lv_iinc (v := x112) (lv' := [(4, .int x112), (0, .ref (a 9 0)), (1, .int x1), (2, .ref (a 77 0)), (3, .int x3)]) hx hb dX9_movesRow_24 hl (k := 4) rfl (by rw [ex112]; rfl) (by decide) rfl (fun ls hl => ?_)
        refine lv_goto (tgt := 3) hx hb dX9_movesRow_27 (by decide) ?_
        exact ih _ _ _ _ _ h hR hS (lv_sub hl [1, 2, 3, 4, 0] rfl)
  exact LP FU _ _ _ _ _ h hR hS (lv_sub hl [1, 2, 3, 4, 0] rfl)
set_option maxHeartbeats 4000000 in
set_option maxRecDepth 100000 in
theorem vX9_movesRow_81 {l : Launch} {E : EV} {a : Nat → Nat → Nat} {u0 : HS} {x1 : Int32} {i2 : Nat} {x3 : Int32} {out : HS} (hi2 : i2 < cntS 81) (h : mX9_movesRow_81 u0 x1 i2 x3 = some out) : Ct l E yX9_movesRow cX9_movesRow 5 none 1 23 0 0 a u0 [.ref (a 9 0), .int x1, .ref (a 81 i2), .int x3] none out := by
  refine Ct.start (by decide) (Nat.le_of_ble_eq_true rfl) ?_
  intro p e s m args below meth c ls C hr hR hS hl
  have C : Cx E p s m args meth c cX9_movesRow 5 RX9 := C
  have hl : lv_has ls 5 [(0, .ref (a 9 0)), (1, .int x1), (2, .ref (a 81 i2)), (3, .int x3)] := hl
  have hx := C.1
  have hb := C.2.1
  unfold mX9_movesRow_81 at h
  refine lv_iconst (v := 0) hx hb dX9_movesRow_0 (by decide) ?_
  refine lv_istore (lv' := [(4, .int 0), (0, .ref (a 9 0)), (1, .int x1), (2, .ref (a 81 i2)), (3, .int x3)]) hx hb dX9_movesRow_1 hl (by decide) rfl (fun ls hl => ?_)
  refine jp_cut h (fun w104 hw104 h => ?_)
  have Kw104 : ∀ (u103 : HS) (H : Heap) (locs : List Loc) (ls : Array Slot), w104 u103 = some out → Rel E a u103 H → va_S (AE E) s.heap H locs → lv_has ls 5 [] → W p l e { frames := 1, cells := 0, slots := 0, locals := 23 } s m args below meth c H locs 0 0 (MQ below (QW E a none out) args s 0 0 (AE E)) (F0 m 30 ls []) := by
    intro u103 H locs ls h hR hS hl
    replace h := jx1 hw104 h
    cases h
    exact e_vret C hr hR hS (Nat.le_of_ble_eq_true rfl) (Nat.le_of_ble_eq_true rfl) dX9_movesRow_30
  have LP : ∀ (fu : Nat) (x101 : Int32) (u102 : HS) (H : Heap) (locs : List Loc) (ls : Array Slot), mX9_movesRow_81_L3 x1 i2 x3 w104 fu x101 u102 = some out → Rel E a u102 H → va_S (AE E) s.heap H locs → lv_has ls 5 [(0, .ref (a 9 0)), (1, .int x1), (2, .ref (a 81 i2)), (3, .int x3), (4, .int x101)] → W p l e { frames := 1, cells := 0, slots := 0, locals := 23 } s m args below meth c H locs 0 0 (MQ below (QW E a none out) args s 0 0 (AE E)) (F0 m 3 ls []) := by
    intro fu
    induction fu with
    | zero =>
      intro x101 u102 H locs ls h
      have h2 : (none : Option HS) = some out := h
      cases h2
    | succ fu ih =>
      intro x101 u102 H locs ls h hR hS hl
      rw [mX9_movesRow_81_L3.eq_2] at h
      refine lv_iload hx hb dX9_movesRow_3 (lv_at hl 4 rfl) ?_
      refine lv_aload_n hx hb dX9_movesRow_5 rfl (lv_at hl 2 rfl) ?_
      refine r_alen (n := 8) C hR 81 i2 0 (lv0 hi2 (by decide)) (by decide) rfl rfl rfl dX9_movesRow_6 ?_
      refine lv_icmp_ge (tgt := 30) hx hb dX9_movesRow_7 (by decide) (fun c_105 => ?_) (fun c_105 => ?_)
      · rw [if_pos c_105] at h
        exact Kw104 _ _ _ _ h hR hS (lv_sub hl [] rfl)
      · rw [if_neg c_105] at h
        refine lv_aload_n hx hb dX9_movesRow_10 rfl (lv_at hl 2 rfl) ?_
        refine lv_iload hx hb dX9_movesRow_11 (lv_at hl 4 rfl) ?_
        refine lv_aload_n hx hb dX9_movesRow_13 rfl (lv_at hl 0 rfl) ?_
        refine lv_iload_n hx hb dX9_movesRow_14 rfl (lv_at hl 1 rfl) ?_
        refine lv_aload_n hx hb dX9_movesRow_15 rfl (lv_at hl 2 rfl) ?_
        refine lv_iload hx hb dX9_movesRow_16 (lv_at hl 4 rfl) ?_
        obtain ⟨k106, hk106, h⟩ := ob h
        refine r_ald C hR 81 i2 (lv0 hi2 (by decide)) (by decide) rfl (fun _ => rfl) rfl hk106 dX9_movesRow_18 ?_
        refine lv_iload_n hx hb dX9_movesRow_19 rfl (lv_at hl 3 rfl) ?_
        obtain ⟨⟨x108, u109⟩, hc107, h⟩ := ob h
        replace h := bd_x (x := x108) rfl h
        replace h := bd_x (x := u109) rfl h
        refine r_callV1 (As := [.int x1, .int (gI u102 81 i2 k106), .int x3]) (rest := [.int x101, .ref (a 81 i2)]) (r := 9) (i := 0) C (vX9_moves hc107) hR hS (lv0 (by decide) (by decide)) (by decide) ml_X9_423 mw_X9_moves rfl ⟨Nat.le_of_ble_eq_true rfl, Nat.le_of_ble_eq_true rfl, Nat.le_of_ble_eq_true rfl, Nat.le_of_ble_eq_true rfl⟩ hl.1 rfl (Nat.le_of_ble_eq_true rfl) dX9_movesRow_20 (fun H locs hR hS => ?_)
        obtain ⟨k110, hk110, h⟩ := ob h
        refine r_ast C hR hS 81 i2 (lv0 hi2 (by decide)) (by decide) rfl (fun _ _ => rfl) rfl hk110 dX9_movesRow_23 (fun H locs hR hS => ?_)
        obtain ⟨u111, eu111⟩ : ∃ z : HS, z = wI u109 81 i2 k110 x108 := ⟨_, rfl⟩
        rw [← eu111] at hR
        replace h := bd_x eu111 h
        clear eu111
        obtain ⟨x112, ex112⟩ : ∃ z : Int32, z = x101 + 1 := ⟨_, rfl⟩
        replace h := bd_x ex112 h
        refine lv_iinc (v := x112) (lv' := [(4, .int x112), (0, .ref (a 9 0)), (1, .int x1), (2, .ref (a 81 i2)), (3, .int x3)]) hx hb dX9_movesRow_24 hl (k := 4) rfl (by rw [ex112]; rfl) (by decide) rfl (fun ls hl => ?_)
        refine lv_goto (tgt := 3) hx hb dX9_movesRow_27 (by decide) ?_
        exact ih _ _ _ _ _ h hR hS (lv_sub hl [1, 2, 3, 4, 0] rfl)
  exact LP FU _ _ _ _ _ h hR hS (lv_sub hl [1, 2, 3, 4, 0] rfl)
set_option maxHeartbeats 4000000 in
set_option maxRecDepth 100000 in
theorem vX9_movesRow_83 {l : Launch} {E : EV} {a : Nat → Nat → Nat} {u0 : HS} {x1 : Int32} {i2 : Nat} {x3 : Int32} {out : HS} (hi2 : i2 < cntS 83) (h : mX9_movesRow_83 u0 x1 i2 x3 = some out) : Ct l E yX9_movesRow cX9_movesRow 5 none 1 23 0 0 a u0 [.ref (a 9 0), .int x1, .ref (a 83 i2), .int x3] none out := by
  refine Ct.start (by decide) (Nat.le_of_ble_eq_true rfl) ?_
  intro p e s m args below meth c ls C hr hR hS hl
  have C : Cx E p s m args meth c cX9_movesRow 5 RX9 := C
  have hl : lv_has ls 5 [(0, .ref (a 9 0)), (1, .int x1), (2, .ref (a 83 i2)), (3, .int x3)] := hl
  have hx := C.1
  have hb := C.2.1
  unfold mX9_movesRow_83 at h
  refine lv_iconst (v := 0) hx hb dX9_movesRow_0 (by decide) ?_
  refine lv_istore (lv' := [(4, .int 0), (0, .ref (a 9 0)), (1, .int x1), (2, .ref (a 83 i2)), (3, .int x3)]) hx hb dX9_movesRow_1 hl (by decide) rfl (fun ls hl => ?_)
  refine jp_cut h (fun w104 hw104 h => ?_)
  have Kw104 : ∀ (u103 : HS) (H : Heap) (locs : List Loc) (ls : Array Slot), w104 u103 = some out → Rel E a u103 H → va_S (AE E) s.heap H locs → lv_has ls 5 [] → W p l e { frames := 1, cells := 0, slots := 0, locals := 23 } s m args below meth c H locs 0 0 (MQ below (QW E a none out) args s 0 0 (AE E)) (F0 m 30 ls []) := by
    intro u103 H locs ls h hR hS hl
    replace h := jx1 hw104 h
    cases h
    exact e_vret C hr hR hS (Nat.le_of_ble_eq_true rfl) (Nat.le_of_ble_eq_true rfl) dX9_movesRow_30
  have LP : ∀ (fu : Nat) (x101 : Int32) (u102 : HS) (H : Heap) (locs : List Loc) (ls : Array Slot), mX9_movesRow_83_L3 x1 i2 x3 w104 fu x101 u102 = some out → Rel E a u102 H → va_S (AE E) s.heap H locs → lv_has ls 5 [(0, .ref (a 9 0)), (1, .int x1), (2, .ref (a 83 i2)), (3, .int x3), (4, .int x101)] → W p l e { frames := 1, cells := 0, slots := 0, locals := 23 } s m args below meth c H locs 0 0 (MQ below (QW E a none out) args s 0 0 (AE E)) (F0 m 3 ls []) := by
    intro fu
    induction fu with
    | zero =>
      intro x101 u102 H locs ls h
      have h2 : (none : Option HS) = some out := h
      cases h2
    | succ fu ih =>
      intro x101 u102 H locs ls h hR hS hl
      rw [mX9_movesRow_83_L3.eq_2] at h
      refine lv_iload hx hb dX9_movesRow_3 (lv_at hl 4 rfl) ?_
      refine lv_aload_n hx hb dX9_movesRow_5 rfl (lv_at hl 2 rfl) ?_
      refine r_alen (n := 4) C hR 83 i2 0 (lv0 hi2 (by decide)) (by decide) rfl rfl rfl dX9_movesRow_6 ?_
      refine lv_icmp_ge (tgt := 30) hx hb dX9_movesRow_7 (by decide) (fun c_105 => ?_) (fun c_105 => ?_)
      · rw [if_pos c_105] at h
        exact Kw104 _ _ _ _ h hR hS (lv_sub hl [] rfl)
      · rw [if_neg c_105] at h
        refine lv_aload_n hx hb dX9_movesRow_10 rfl (lv_at hl 2 rfl) ?_
        refine lv_iload hx hb dX9_movesRow_11 (lv_at hl 4 rfl) ?_
        refine lv_aload_n hx hb dX9_movesRow_13 rfl (lv_at hl 0 rfl) ?_
        refine lv_iload_n hx hb dX9_movesRow_14 rfl (lv_at hl 1 rfl) ?_
        refine lv_aload_n hx hb dX9_movesRow_15 rfl (lv_at hl 2 rfl) ?_
        refine lv_iload hx hb dX9_movesRow_16 (lv_at hl 4 rfl) ?_
        obtain ⟨k106, hk106, h⟩ := ob h
        refine r_ald C hR 83 i2 (lv0 hi2 (by decide)) (by decide) rfl (fun _ => rfl) rfl hk106 dX9_movesRow_18 ?_
        refine lv_iload_n hx hb dX9_movesRow_19 rfl (lv_at hl 3 rfl) ?_
        obtain ⟨⟨x108, u109⟩, hc107, h⟩ := ob h
        replace h := bd_x (x := x108) rfl h
        replace h := bd_x (x := u109) rfl h
        refine r_callV1 (As := [.int x1, .int (gI u102 83 i2 k106), .int x3]) (rest := [.int x101, .ref (a 83 i2)]) (r := 9) (i := 0) C (vX9_moves hc107) hR hS (lv0 (by decide) (by decide)) (by decide) ml_X9_423 mw_X9_moves rfl ⟨Nat.le_of_ble_eq_true rfl, Nat.le_of_ble_eq_true rfl, Nat.le_of_ble_eq_true rfl, Nat.le_of_ble_eq_true rfl⟩ hl.1 rfl (Nat.le_of_ble_eq_true rfl) dX9_movesRow_20 (fun H locs hR hS => ?_)
        obtain ⟨k110, hk110, h⟩ := ob h
        refine r_ast C hR hS 83 i2 (lv0 hi2 (by decide)) (by decide) rfl (fun _ _ => rfl) rfl hk110 dX9_movesRow_23 (fun H locs hR hS => ?_)
        obtain ⟨u111, eu111⟩ : ∃ z : HS, z = wI u109 83 i2 k110 x108 := ⟨_, rfl⟩
        rw [← eu111] at hR
        replace h := bd_x eu111 h
        clear eu111
        obtain ⟨x112, ex112⟩ : ∃ z : Int32, z = x101 + 1 := ⟨_, rfl⟩
        replace h := bd_x ex112 h
        refine lv_iinc (v := x112) (lv' := [(4, .int x112), (0, .ref (a 9 0)), (1, .int x1), (2, .ref (a 83 i2)), (3, .int x3)]) hx hb dX9_movesRow_24 hl (k := 4) rfl (by rw [ex112]; rfl) (by decide) rfl (fun ls hl => ?_)
        refine lv_goto (tgt := 3) hx hb dX9_movesRow_27 (by decide) ?_
        exact ih _ _ _ _ _ h hR hS (lv_sub hl [1, 2, 3, 4, 0] rfl)
  exact LP FU _ _ _ _ _ h hR hS (lv_sub hl [1, 2, 3, 4, 0] rfl)
set_option maxHeartbeats 4000000 in
set_option maxRecDepth 100000 in
theorem vX9_movesRow_85 {l : Launch} {E : EV} {a : Nat → Nat → Nat} {u0 : HS} {x1 : Int32} {i2 : Nat} {x3 : Int32} {out : HS} (hi2 : i2 < cntS 85) (h : mX9_movesRow_85 u0 x1 i2 x3 = some out) : Ct l E yX9_movesRow cX9_movesRow 5 none 1 23 0 0 a u0 [.ref (a 9 0), .int x1, .ref (a 85 i2), .int x3] none out := by
  refine Ct.start (by decide) (Nat.le_of_ble_eq_true rfl) ?_
  intro p e s m args below meth c ls C hr hR hS hl
  have C : Cx E p s m args meth c cX9_movesRow 5 RX9 := C
  have hl : lv_has ls 5 [(0, .ref (a 9 0)), (1, .int x1), (2, .ref (a 85 i2)), (3, .int x3)] := hl
  have hx := C.1
  have hb := C.2.1
  unfold mX9_movesRow_85 at h
  refine lv_iconst (v := 0) hx hb dX9_movesRow_0 (by decide) ?_
  refine lv_istore (lv' := [(4, .int 0), (0, .ref (a 9 0)), (1, .int x1), (2, .ref (a 85 i2)), (3, .int x3)]) hx hb dX9_movesRow_1 hl (by decide) rfl (fun ls hl => ?_)
  refine jp_cut h (fun w104 hw104 h => ?_)
  have Kw104 : ∀ (u103 : HS) (H : Heap) (locs : List Loc) (ls : Array Slot), w104 u103 = some out → Rel E a u103 H → va_S (AE E) s.heap H locs → lv_has ls 5 [] → W p l e { frames := 1, cells := 0, slots := 0, locals := 23 } s m args below meth c H locs 0 0 (MQ below (QW E a none out) args s 0 0 (AE E)) (F0 m 30 ls []) := by
    intro u103 H locs ls h hR hS hl
    replace h := jx1 hw104 h
    cases h
    exact e_vret C hr hR hS (Nat.le_of_ble_eq_true rfl) (Nat.le_of_ble_eq_true rfl) dX9_movesRow_30
  have LP : ∀ (fu : Nat) (x101 : Int32) (u102 : HS) (H : Heap) (locs : List Loc) (ls : Array Slot), mX9_movesRow_85_L3 x1 i2 x3 w104 fu x101 u102 = some out → Rel E a u102 H → va_S (AE E) s.heap H locs → lv_has ls 5 [(0, .ref (a 9 0)), (1, .int x1), (2, .ref (a 85 i2)), (3, .int x3), (4, .int x101)] → W p l e { frames := 1, cells := 0, slots := 0, locals := 23 } s m args below meth c H locs 0 0 (MQ below (QW E a none out) args s 0 0 (AE E)) (F0 m 3 ls []) := by
    intro fu
    induction fu with
    | zero =>
      intro x101 u102 H locs ls h
      have h2 : (none : Option HS) = some out := h
      cases h2
    | succ fu ih =>
      intro x101 u102 H locs ls h hR hS hl
      rw [mX9_movesRow_85_L3.eq_2] at h
      refine lv_iload hx hb dX9_movesRow_3 (lv_at hl 4 rfl) ?_
      refine lv_aload_n hx hb dX9_movesRow_5 rfl (lv_at hl 2 rfl) ?_
      refine r_alen (n := 3) C hR 85 i2 0 (lv0 hi2 (by decide)) (by decide) rfl rfl rfl dX9_movesRow_6 ?_
      refine lv_icmp_ge (tgt := 30) hx hb dX9_movesRow_7 (by decide) (fun c_105 => ?_) (fun c_105 => ?_)
      · rw [if_pos c_105] at h
        exact Kw104 _ _ _ _ h hR hS (lv_sub hl [] rfl)
      · rw [if_neg c_105] at h
        refine lv_aload_n hx hb dX9_movesRow_10 rfl (lv_at hl 2 rfl) ?_
        refine lv_iload hx hb dX9_movesRow_11 (lv_at hl 4 rfl) ?_
        refine lv_aload_n hx hb dX9_movesRow_13 rfl (lv_at hl 0 rfl) ?_
        refine lv_iload_n hx hb dX9_movesRow_14 rfl (lv_at hl 1 rfl) ?_
        refine lv_aload_n hx hb dX9_movesRow_15 rfl (lv_at hl 2 rfl) ?_
        refine lv_iload hx hb dX9_movesRow_16 (lv_at hl 4 rfl) ?_
        obtain ⟨k106, hk106, h⟩ := ob h
        refine r_ald C hR 85 i2 (lv0 hi2 (by decide)) (by decide) rfl (fun _ => rfl) rfl hk106 dX9_movesRow_18 ?_
        refine lv_iload_n hx hb dX9_movesRow_19 rfl (lv_at hl 3 rfl) ?_
        obtain ⟨⟨x108, u109⟩, hc107, h⟩ := ob h
        replace h := bd_x (x := x108) rfl h
        replace h := bd_x (x := u109) rfl h
        refine r_callV1 (As := [.int x1, .int (gI u102 85 i2 k106), .int x3]) (rest := [.int x101, .ref (a 85 i2)]) (r := 9) (i := 0) C (vX9_moves hc107) hR hS (lv0 (by decide) (by decide)) (by decide) ml_X9_423 mw_X9_moves rfl ⟨Nat.le_of_ble_eq_true rfl, Nat.le_of_ble_eq_true rfl, Nat.le_of_ble_eq_true rfl, Nat.le_of_ble_eq_true rfl⟩ hl.1 rfl (Nat.le_of_ble_eq_true rfl) dX9_movesRow_20 (fun H locs hR hS => ?_)
        obtain ⟨k110, hk110, h⟩ := ob h
        refine r_ast C hR hS 85 i2 (lv0 hi2 (by decide)) (by decide) rfl (fun _ _ => rfl) rfl hk110 dX9_movesRow_23 (fun H locs hR hS => ?_)
        obtain ⟨u111, eu111⟩ : ∃ z : HS, z = wI u109 85 i2 k110 x108 := ⟨_, rfl⟩
        rw [← eu111] at hR
        replace h := bd_x eu111 h
        clear eu111
        obtain ⟨x112, ex112⟩ : ∃ z : Int32, z = x101 + 1 := ⟨_, rfl⟩
        replace h := bd_x ex112 h
        refine lv_iinc (v := x112) (lv' := [(4, .int x112), (0, .ref (a 9 0)), (1, .int x1), (2, .ref (a 85 i2)), (3, .int x3)]) hx hb dX9_movesRow_24 hl (k := 4) rfl (by rw [ex112]; rfl) (by decide) rfl (fun ls hl => ?_)
        refine lv_goto (tgt := 3) hx hb dX9_movesRow_27 (by decide) ?_
        exact ih _ _ _ _ _ h hR hS (lv_sub hl [1, 2, 3, 4, 0] rfl)
  exact LP FU _ _ _ _ _ h hR hS (lv_sub hl [1, 2, 3, 4, 0] rfl)
set_option maxHeartbeats 4000000 in
set_option maxRecDepth 100000 in
theorem vX9_movesAll {l : Launch} {E : EV} {a : Nat → Nat → Nat} {u0 : HS} {x1 : Int32} {x2 : Int32} {out : HS} (h : mX9_movesAll u0 x1 x2 = some out) : Ct l E yX9_movesAll cX9_movesAll 5 none 2 47 0 0 a u0 [.ref (a 9 0), .int x1, .int x2] none out := by
  refine Ct.start (by decide) (Nat.le_of_ble_eq_true rfl) ?_
  intro p e s m args below meth c ls C hr hR hS hl
  have C : Cx E p s m args meth c cX9_movesAll 5 RX9 := C
  have hl : lv_has ls 5 [(0, .ref (a 9 0)), (1, .int x1), (2, .int x2)] := hl
  have hx := C.1
  have hb := C.2.1
  unfold mX9_movesAll at h
  refine lv_aload_n hx hb dX9_movesAll_0 rfl (lv_at hl 0 rfl) ?_
  refine lv_iconst (v := 0) hx hb dX9_movesAll_1 (by decide) ?_
  refine r_putI (ty := .int) C hR hS 9 0 37 (lv0 (by decide) (by decide)) (by decide) (by decide) (fun _ => rfl) fl_X9_420 (by decide) (by decide +kernel) rfl rfl dX9_movesAll_2 (fun H locs hR hS => ?_)
  obtain ⟨u101, eu101⟩ : ∃ z : HS, z = wI u0 9 0 37 0 := ⟨_, rfl⟩
  rw [← eu101] at hR
  replace h := bd_x eu101 h
  clear eu101
  refine lv_aload_n hx hb dX9_movesAll_5 rfl (lv_at hl 0 rfl) ?_
  refine lv_aload_n hx hb dX9_movesAll_6 rfl (lv_at hl 0 rfl) ?_
  refine lv_iload_n hx hb dX9_movesAll_7 rfl (lv_at hl 1 rfl) ?_
  refine lv_aload_n hx hb dX9_movesAll_8 rfl (lv_at hl 0 rfl) ?_
  refine r_get C hR 9 0 28 (v := .int (gI u101 9 0 28)) (lv0 (by decide) (by decide)) (by decide) (by decide) rfl fl_X9_288 dX9_movesAll_9 ?_
  refine lv_iload_n hx hb dX9_movesAll_12 rfl (lv_at hl 2 rfl) ?_
  obtain ⟨⟨x103, u104⟩, hc102, h⟩ := ob h
  replace h := bd_x (x := x103) rfl h
  replace h := bd_x (x := u104) rfl h
  refine r_callV1 (As := [.int x1, .int (gI u101 9 0 28), .int x2]) (rest := [.ref (a 9 0)]) (r := 9) (i := 0) C (vX9_moves hc102) hR hS (lv0 (by decide) (by decide)) (by decide) ml_X9_423 mw_X9_moves rfl ⟨Nat.le_of_ble_eq_true rfl, Nat.le_of_ble_eq_true rfl, Nat.le_of_ble_eq_true rfl, Nat.le_of_ble_eq_true rfl⟩ hl.1 rfl (Nat.le_of_ble_eq_true rfl) dX9_movesAll_13 (fun H locs hR hS => ?_)
  refine r_putI (ty := .int) C hR hS 9 0 28 (lv0 (by decide) (by decide)) (by decide) (by decide) (fun _ => rfl) fl_X9_288 (by decide) (by decide +kernel) rfl rfl dX9_movesAll_16 (fun H locs hR hS => ?_)
  obtain ⟨u105, eu105⟩ : ∃ z : HS, z = wI u104 9 0 28 x103 := ⟨_, rfl⟩
  rw [← eu105] at hR
  replace h := bd_x eu105 h
  clear eu105
  refine lv_aload_n hx hb dX9_movesAll_19 rfl (lv_at hl 0 rfl) ?_
  refine lv_aload_n hx hb dX9_movesAll_20 rfl (lv_at hl 0 rfl) ?_
  refine lv_iload_n hx hb dX9_movesAll_21 rfl (lv_at hl 1 rfl) ?_
  refine lv_aload_n hx hb dX9_movesAll_22 rfl (lv_at hl 0 rfl) ?_
  refine r_get C hR 9 0 29 (v := .int (gI u105 9 0 29)) (lv0 (by decide) (by decide)) (by decide) (by decide) rfl fl_X9_298 dX9_movesAll_23 ?_
  refine lv_iload_n hx hb dX9_movesAll_26 rfl (lv_at hl 2 rfl) ?_
  obtain ⟨⟨x107, u108⟩, hc106, h⟩ := ob h
  replace h := bd_x (x := x107) rfl h
  replace h := bd_x (x := u108) rfl h
  refine r_callV1 (As := [.int x1, .int (gI u105 9 0 29), .int x2]) (rest := [.ref (a 9 0)]) (r := 9) (i := 0) C (vX9_moves hc106) hR hS (lv0 (by decide) (by decide)) (by decide) ml_X9_423 mw_X9_moves rfl ⟨Nat.le_of_ble_eq_true rfl, Nat.le_of_ble_eq_true rfl, Nat.le_of_ble_eq_true rfl, Nat.le_of_ble_eq_true rfl⟩ hl.1 rfl (Nat.le_of_ble_eq_true rfl) dX9_movesAll_27 (fun H locs hR hS => ?_)
  refine r_putI (ty := .int) C hR hS 9 0 29 (lv0 (by decide) (by decide)) (by decide) (by decide) (fun _ => rfl) fl_X9_298 (by decide) (by decide +kernel) rfl rfl dX9_movesAll_30 (fun H locs hR hS => ?_)
  obtain ⟨u109, eu109⟩ : ∃ z : HS, z = wI u108 9 0 29 x107 := ⟨_, rfl⟩
  rw [← eu109] at hR
  replace h := bd_x eu109 h
  clear eu109
  refine lv_aload_n hx hb dX9_movesAll_33 rfl (lv_at hl 0 rfl) ?_
  refine lv_aload_n hx hb dX9_movesAll_34 rfl (lv_at hl 0 rfl) ?_
  refine lv_iload_n hx hb dX9_movesAll_35 rfl (lv_at hl 1 rfl) ?_
  refine lv_aload_n hx hb dX9_movesAll_36 rfl (lv_at hl 0 rfl) ?_
  refine r_get C hR 9 0 30 (v := .int (gI u109 9 0 30)) (lv0 (by decide) (by decide)) (by decide) (by decide) rfl fl_X9_301 dX9_movesAll_37 ?_
  refine lv_iload_n hx hb dX9_movesAll_40 rfl (lv_at hl 2 rfl) ?_
  obtain ⟨⟨x111, u112⟩, hc110, h⟩ := ob h
  replace h := bd_x (x := x111) rfl h
  replace h := bd_x (x := u112) rfl h
  refine r_callV1 (As := [.int x1, .int (gI u109 9 0 30), .int x2]) (rest := [.ref (a 9 0)]) (r := 9) (i := 0) C (vX9_moves hc110) hR hS (lv0 (by decide) (by decide)) (by decide) ml_X9_423 mw_X9_moves rfl ⟨Nat.le_of_ble_eq_true rfl, Nat.le_of_ble_eq_true rfl, Nat.le_of_ble_eq_true rfl, Nat.le_of_ble_eq_true rfl⟩ hl.1 rfl (Nat.le_of_ble_eq_true rfl) dX9_movesAll_41 (fun H locs hR hS => ?_)
  refine r_putI (ty := .int) C hR hS 9 0 30 (lv0 (by decide) (by decide)) (by decide) (by decide) (fun _ => rfl) fl_X9_301 (by decide) (by decide +kernel) rfl rfl dX9_movesAll_44 (fun H locs hR hS => ?_)
  obtain ⟨u113, eu113⟩ : ∃ z : HS, z = wI u112 9 0 30 x111 := ⟨_, rfl⟩
  rw [← eu113] at hR
  replace h := bd_x eu113 h
  clear eu113
  refine lv_aload_n hx hb dX9_movesAll_47 rfl (lv_at hl 0 rfl) ?_
  refine lv_aload_n hx hb dX9_movesAll_48 rfl (lv_at hl 0 rfl) ?_
  refine lv_iload_n hx hb dX9_movesAll_49 rfl (lv_at hl 1 rfl) ?_
  refine lv_aload_n hx hb dX9_movesAll_50 rfl (lv_at hl 0 rfl) ?_
  refine r_get C hR 9 0 31 (v := .int (gI u113 9 0 31)) (lv0 (by decide) (by decide)) (by decide) (by decide) rfl fl_X9_58 dX9_movesAll_51 ?_
  refine lv_iload_n hx hb dX9_movesAll_54 rfl (lv_at hl 2 rfl) ?_
  obtain ⟨⟨x115, u116⟩, hc114, h⟩ := ob h
  replace h := bd_x (x := x115) rfl h
  replace h := bd_x (x := u116) rfl h
  refine r_callV1 (As := [.int x1, .int (gI u113 9 0 31), .int x2]) (rest := [.ref (a 9 0)]) (r := 9) (i := 0) C (vX9_moves hc114) hR hS (lv0 (by decide) (by decide)) (by decide) ml_X9_423 mw_X9_moves rfl ⟨Nat.le_of_ble_eq_true rfl, Nat.le_of_ble_eq_true rfl, Nat.le_of_ble_eq_true rfl, Nat.le_of_ble_eq_true rfl⟩ hl.1 rfl (Nat.le_of_ble_eq_true rfl) dX9_movesAll_55 (fun H locs hR hS => ?_)
  refine r_putI (ty := .int) C hR hS 9 0 31 (lv0 (by decide) (by decide)) (by decide) (by decide) (fun _ => rfl) fl_X9_58 (by decide) (by decide +kernel) rfl rfl dX9_movesAll_58 (fun H locs hR hS => ?_)
  obtain ⟨u117, eu117⟩ : ∃ z : HS, z = wI u116 9 0 31 x115 := ⟨_, rfl⟩
  rw [← eu117] at hR
  replace h := bd_x eu117 h
  clear eu117
  refine lv_aload_n hx hb dX9_movesAll_61 rfl (lv_at hl 0 rfl) ?_
  refine lv_iload_n hx hb dX9_movesAll_62 rfl (lv_at hl 1 rfl) ?_
  refine lv_aload_n hx hb dX9_movesAll_63 rfl (lv_at hl 0 rfl) ?_
  refine r_get C hR 9 0 16 (v := .int (gI u117 9 0 16)) (lv0 (by decide) (by decide)) (by decide) (by decide) rfl fl_X9_219 dX9_movesAll_64 ?_
  refine lv_iload_n hx hb dX9_movesAll_67 rfl (lv_at hl 2 rfl) ?_
  obtain ⟨⟨x119, u120⟩, hc118, h⟩ := ob h
  replace h := bd_x (x := x119) rfl h
  replace h := bd_x (x := u120) rfl h
  refine r_callV1 (As := [.int x1, .int (gI u117 9 0 16), .int x2]) (rest := []) (r := 9) (i := 0) C (vX9_moves hc118) hR hS (lv0 (by decide) (by decide)) (by decide) ml_X9_423 mw_X9_moves rfl ⟨Nat.le_of_ble_eq_true rfl, Nat.le_of_ble_eq_true rfl, Nat.le_of_ble_eq_true rfl, Nat.le_of_ble_eq_true rfl⟩ hl.1 rfl (Nat.le_of_ble_eq_true rfl) dX9_movesAll_68 (fun H locs hR hS => ?_)
  refine lv_istore_n (lv' := [(3, .int x119), (0, .ref (a 9 0)), (1, .int x1), (2, .int x2)]) hx hb dX9_movesAll_71 rfl hl (by decide) rfl (fun ls hl => ?_)
  refine lv_aload_n hx hb dX9_movesAll_72 rfl (lv_at hl 1 rfl) ?_
  refine lv_iload_n hx hb dX9_movesAll_73 rfl (lv_at hl 2 rfl) ?_
  refine lv_aload_n hx hb dX9_movesAll_74 rfl (lv_at hl 1 rfl) ?_
  refine r_get C hR 9 0 25 (v := .ref (a 77 0)) (lv0 (by decide) (by decide)) (by decide) (by decide) rfl fl_X9_49 dX9_movesAll_75 ?_
  refine lv_iload_n hx hb dX9_movesAll_78 rfl (lv_at hl 3 rfl) ?_
  obtain ⟨u122, hc121, h⟩ := ob h
  refine r_callV0 (As := [.int x1, .ref (a 77 0), .int x2]) (rest := []) (r := 9) (i := 0) C (vX9_movesRow_77 hc121) hR hS (lv0 (by decide) (by decide)) (by decide) ml_X9_426 mw_X9_movesRow rfl ⟨Nat.le_of_ble_eq_true rfl, Nat.le_of_ble_eq_true rfl, Nat.le_of_ble_eq_true rfl, Nat.le_of_ble_eq_true rfl⟩ hl.1 rfl (Nat.le_of_ble_eq_true rfl) dX9_movesAll_79 (fun H locs hR hS => ?_)
  refine lv_iload_n hx hb dX9_movesAll_82 rfl (lv_at hl 0 rfl) ?_
  refine lv_istore (lv' := [(4, .int x119), (3, .int x119), (0, .ref (a 9 0)), (1, .int x1), (2, .int x2)]) hx hb dX9_movesAll_83 hl (by decide) rfl (fun ls hl => ?_)
  refine jp_cut h (fun w126 hw126 h => ?_)
  have Kw126 : ∀ (u125 : HS) (H : Heap) (locs : List Loc) (ls : Array Slot), w126 u125 = some out → Rel E a u125 H → va_S (AE E) s.heap H locs → lv_has ls 5 [(0, .ref (a 9 0)), (1, .int x1), (2, .int x2)] → W p l e { frames := 2, cells := 0, slots := 0, locals := 47 } s m args below meth c H locs 0 0 (MQ below (QW E a none out) args s 0 0 (AE E)) (F0 m 109 ls []) := by
    intro u125 H locs ls h hR hS hl
    replace h := jx1 hw126 h
    refine lv_iconst (v := 0) hx hb dX9_movesAll_109 (by decide) ?_
    refine lv_istore (lv' := [(4, .int 0), (0, .ref (a 9 0)), (1, .int x1), (2, .int x2)]) hx hb dX9_movesAll_110 hl (by decide) rfl (fun ls hl => ?_)
    refine jp_cut h (fun w130 hw130 h => ?_)
    have Kw130 : ∀ (u129 : HS) (H : Heap) (locs : List Loc) (ls : Array Slot), w130 u129 = some out → Rel E a u129 H → va_S (AE E) s.heap H locs → lv_has ls 5 [(0, .ref (a 9 0)), (1, .int x1), (2, .int x2)] → W p l e { frames := 2, cells := 0, slots := 0, locals := 47 } s m args below meth c H locs 0 0 (MQ below (QW E a none out) args s 0 0 (AE E)) (F0 m 138 ls []) := by
      intro u129 H locs ls h hR hS hl
      replace h := jx1 hw130 h
      refine lv_iconst (v := 0) hx hb dX9_movesAll_138 (by decide) ?_
      refine lv_istore (lv' := [(4, .int 0), (0, .ref (a 9 0)), (1, .int x1), (2, .int x2)]) hx hb dX9_movesAll_139 hl (by decide) rfl (fun ls hl => ?_)
      refine jp_cut h (fun w134 hw134 h => ?_)
      have Kw134 : ∀ (u133 : HS) (H : Heap) (locs : List Loc) (ls : Array Slot), w134 u133 = some out → Rel E a u133 H → va_S (AE E) s.heap H locs → lv_has ls 5 [(0, .ref (a 9 0)), (1, .int x1), (2, .int x2)] → W p l e { frames := 2, cells := 0, slots := 0, locals := 47 } s m args below meth c H locs 0 0 (MQ below (QW E a none out) args s 0 0 (AE E)) (F0 m 167 ls []) := by
        intro u133 H locs ls h hR hS hl
        replace h := jx1 hw134 h
        refine lv_iconst (v := 0) hx hb dX9_movesAll_167 (by decide) ?_
        refine lv_istore (lv' := [(4, .int 0), (0, .ref (a 9 0)), (1, .int x1), (2, .int x2)]) hx hb dX9_movesAll_168 hl (by decide) rfl (fun ls hl => ?_)
        refine jp_cut h (fun w138 hw138 h => ?_)
        have Kw138 : ∀ (u137 : HS) (H : Heap) (locs : List Loc) (ls : Array Slot), w138 u137 = some out → Rel E a u137 H → va_S (AE E) s.heap H locs → lv_has ls 5 [] → W p l e { frames := 2, cells := 0, slots := 0, locals := 47 } s m args below meth c H locs 0 0 (MQ below (QW E a none out) args s 0 0 (AE E)) (F0 m 196 ls []) := by
          intro u137 H locs ls h hR hS hl
          replace h := jx1 hw138 h
          cases h
          exact e_vret C hr hR hS (Nat.le_of_ble_eq_true rfl) (Nat.le_of_ble_eq_true rfl) dX9_movesAll_196
        have LP : ∀ (fu : Nat) (x135 : Int32) (u136 : HS) (H : Heap) (locs : List Loc) (ls : Array Slot), mX9_movesAll_L170 x1 x2 w138 fu x135 u136 = some out → Rel E a u136 H → va_S (AE E) s.heap H locs → lv_has ls 5 [(0, .ref (a 9 0)), (1, .int x1), (2, .int x2), (4, .int x135)] → W p l e { frames := 2, cells := 0, slots := 0, locals := 47 } s m args below meth c H locs 0 0 (MQ below (QW E a none out) args s 0 0 (AE E)) (F0 m 170 ls []) := by
          intro fu
          induction fu with
          | zero =>
            intro x135 u136 H locs ls h
            have h2 : (none : Option HS) = some out := h
            cases h2
          | succ fu ih =>
            intro x135 u136 H locs ls h hR hS hl
            rw [mX9_movesAll_L170.eq_2] at h
            refine lv_iload hx hb dX9_movesAll_170 (lv_at hl 3 rfl) ?_
            refine lv_bipush (v := 40) hx hb dX9_movesAll_172 (by decide) ?_
            refine lv_icmp_ge (tgt := 196) hx hb dX9_movesAll_174 (by decide) (fun c_139 => ?_) (fun c_139 => ?_)
            · rw [if_pos c_139] at h
              exact Kw138 _ _ _ _ h hR hS (lv_sub hl [] rfl)
            · rw [if_neg c_139] at h
              refine lv_aload_n hx hb dX9_movesAll_177 rfl (lv_at hl 0 rfl) ?_
              refine lv_iload_n hx hb dX9_movesAll_178 rfl (lv_at hl 1 rfl) ?_
              refine lv_aload_n hx hb dX9_movesAll_179 rfl (lv_at hl 0 rfl) ?_
              refine r_get C hR 9 0 35 (v := .ref (a 84 0)) (lv0 (by decide) (by decide)) (by decide) (by decide) rfl fl_X9_67 dX9_movesAll_180 ?_
              refine lv_iload hx hb dX9_movesAll_183 (lv_at hl 3 rfl) ?_
              obtain ⟨k140, hk140, h⟩ := ob h
              have hLk140 : k140 < cntS 85 := by have q1 := (ck_in hk140).2.2; have q2 : cntS 85 = 40 := rfl; omega
              refine r_aald C hR 84 0 85 0 6 (lv0 (by decide) (by decide)) (by decide) rfl rfl rfl (fun _ => rfl) rfl hk140 dX9_movesAll_185 ?_
              refine lv_iload_n hx hb dX9_movesAll_186 rfl (lv_at hl 2 rfl) ?_
              obtain ⟨u142, hc141, h⟩ := ob h
              refine r_callV0 (As := [.int x1, .ref (a 85 k140), .int x2]) (rest := []) (r := 9) (i := 0) C (vX9_movesRow_85 hLk140 hc141) hR hS (lv0 (by decide) (by decide)) (by decide) ml_X9_426 mw_X9_movesRow rfl ⟨Nat.le_of_ble_eq_true rfl, Nat.le_of_ble_eq_true rfl, Nat.le_of_ble_eq_true rfl, Nat.le_of_ble_eq_true rfl⟩ hl.1 rfl (Nat.le_of_ble_eq_true rfl) dX9_movesAll_187 (fun H locs hR hS => ?_)
              obtain ⟨x143, ex143⟩ : ∃ z : Int32, z = x135 + 1 := ⟨_, rfl⟩
              replace h := bd_x ex143 h
              refine lv_iinc (v := x143) (lv' := [(4, .int x143), (0, .ref (a 9 0)), (1, .int x1), (2, .int x2)]) hx hb dX9_movesAll_190 hl (k := 3) rfl (by rw [ex143]; rfl) (by decide) rfl (fun ls hl => ?_)
              refine lv_goto (tgt := 170) hx hb dX9_movesAll_193 (by decide) ?_
              exact ih _ _ _ _ _ h hR hS (lv_sub hl [1, 2, 3, 0] rfl)
        exact LP FU _ _ _ _ _ h hR hS (lv_sub hl [1, 2, 3, 0] rfl)
      have LP : ∀ (fu : Nat) (x131 : Int32) (u132 : HS) (H : Heap) (locs : List Loc) (ls : Array Slot), mX9_movesAll_L141 x1 x2 w134 fu x131 u132 = some out → Rel E a u132 H → va_S (AE E) s.heap H locs → lv_has ls 5 [(0, .ref (a 9 0)), (1, .int x1), (2, .int x2), (4, .int x131)] → W p l e { frames := 2, cells := 0, slots := 0, locals := 47 } s m args below meth c H locs 0 0 (MQ below (QW E a none out) args s 0 0 (AE E)) (F0 m 141 ls []) := by
        intro fu
        induction fu with
        | zero =>
          intro x131 u132 H locs ls h
          have h2 : (none : Option HS) = some out := h
          cases h2
        | succ fu ih =>
          intro x131 u132 H locs ls h hR hS hl
          rw [mX9_movesAll_L141.eq_2] at h
          refine lv_iload hx hb dX9_movesAll_141 (lv_at hl 3 rfl) ?_
          refine lv_bipush (v := 60) hx hb dX9_movesAll_143 (by decide) ?_
          refine lv_icmp_ge (tgt := 167) hx hb dX9_movesAll_145 (by decide) (fun c_144 => ?_) (fun c_144 => ?_)
          · rw [if_pos c_144] at h
            exact Kw134 _ _ _ _ h hR hS (lv_sub hl [0, 1, 2] rfl)
          · rw [if_neg c_144] at h
            refine lv_aload_n hx hb dX9_movesAll_148 rfl (lv_at hl 0 rfl) ?_
            refine lv_iload_n hx hb dX9_movesAll_149 rfl (lv_at hl 1 rfl) ?_
            refine lv_aload_n hx hb dX9_movesAll_150 rfl (lv_at hl 0 rfl) ?_
            refine r_get C hR 9 0 34 (v := .ref (a 82 0)) (lv0 (by decide) (by decide)) (by decide) (by decide) rfl fl_X9_64 dX9_movesAll_151 ?_
            refine lv_iload hx hb dX9_movesAll_154 (lv_at hl 3 rfl) ?_
            obtain ⟨k145, hk145, h⟩ := ob h
            have hLk145 : k145 < cntS 83 := by have q1 := (ck_in hk145).2.2; have q2 : cntS 83 = 60 := rfl; omega
            refine r_aald C hR 82 0 83 0 6 (lv0 (by decide) (by decide)) (by decide) rfl rfl rfl (fun _ => rfl) rfl hk145 dX9_movesAll_156 ?_
            refine lv_iload_n hx hb dX9_movesAll_157 rfl (lv_at hl 2 rfl) ?_
            obtain ⟨u147, hc146, h⟩ := ob h
            refine r_callV0 (As := [.int x1, .ref (a 83 k145), .int x2]) (rest := []) (r := 9) (i := 0) C (vX9_movesRow_83 hLk145 hc146) hR hS (lv0 (by decide) (by decide)) (by decide) ml_X9_426 mw_X9_movesRow rfl ⟨Nat.le_of_ble_eq_true rfl, Nat.le_of_ble_eq_true rfl, Nat.le_of_ble_eq_true rfl, Nat.le_of_ble_eq_true rfl⟩ hl.1 rfl (Nat.le_of_ble_eq_true rfl) dX9_movesAll_158 (fun H locs hR hS => ?_)
            obtain ⟨x148, ex148⟩ : ∃ z : Int32, z = x131 + 1 := ⟨_, rfl⟩
            replace h := bd_x ex148 h
            refine lv_iinc (v := x148) (lv' := [(4, .int x148), (0, .ref (a 9 0)), (1, .int x1), (2, .int x2)]) hx hb dX9_movesAll_161 hl (k := 3) rfl (by rw [ex148]; rfl) (by decide) rfl (fun ls hl => ?_)
            refine lv_goto (tgt := 141) hx hb dX9_movesAll_164 (by decide) ?_
            exact ih _ _ _ _ _ h hR hS (lv_sub hl [1, 2, 3, 0] rfl)
      exact LP FU _ _ _ _ _ h hR hS (lv_sub hl [1, 2, 3, 0] rfl)
    have LP : ∀ (fu : Nat) (x127 : Int32) (u128 : HS) (H : Heap) (locs : List Loc) (ls : Array Slot), mX9_movesAll_L112 x1 x2 w130 fu x127 u128 = some out → Rel E a u128 H → va_S (AE E) s.heap H locs → lv_has ls 5 [(0, .ref (a 9 0)), (1, .int x1), (2, .int x2), (4, .int x127)] → W p l e { frames := 2, cells := 0, slots := 0, locals := 47 } s m args below meth c H locs 0 0 (MQ below (QW E a none out) args s 0 0 (AE E)) (F0 m 112 ls []) := by
      intro fu
      induction fu with
      | zero =>
        intro x127 u128 H locs ls h
        have h2 : (none : Option HS) = some out := h
        cases h2
      | succ fu ih =>
        intro x127 u128 H locs ls h hR hS hl
        rw [mX9_movesAll_L112.eq_2] at h
        refine lv_iload hx hb dX9_movesAll_112 (lv_at hl 3 rfl) ?_
        refine lv_bipush (v := 14) hx hb dX9_movesAll_114 (by decide) ?_
        refine lv_icmp_ge (tgt := 138) hx hb dX9_movesAll_116 (by decide) (fun c_149 => ?_) (fun c_149 => ?_)
        · rw [if_pos c_149] at h
          exact Kw130 _ _ _ _ h hR hS (lv_sub hl [0, 1, 2] rfl)
        · rw [if_neg c_149] at h
          refine lv_aload_n hx hb dX9_movesAll_119 rfl (lv_at hl 0 rfl) ?_
          refine lv_iload_n hx hb dX9_movesAll_120 rfl (lv_at hl 1 rfl) ?_
          refine lv_aload_n hx hb dX9_movesAll_121 rfl (lv_at hl 0 rfl) ?_
          refine r_get C hR 9 0 33 (v := .ref (a 80 0)) (lv0 (by decide) (by decide)) (by decide) (by decide) rfl fl_X9_61 dX9_movesAll_122 ?_
          refine lv_iload hx hb dX9_movesAll_125 (lv_at hl 3 rfl) ?_
          obtain ⟨k150, hk150, h⟩ := ob h
          have hLk150 : k150 < cntS 81 := by have q1 := (ck_in hk150).2.2; have q2 : cntS 81 = 15 := rfl; omega
          refine r_aald C hR 80 0 81 0 6 (lv0 (by decide) (by decide)) (by decide) rfl rfl rfl (fun _ => rfl) rfl hk150 dX9_movesAll_127 ?_
          refine lv_iload_n hx hb dX9_movesAll_128 rfl (lv_at hl 2 rfl) ?_
          obtain ⟨u152, hc151, h⟩ := ob h
          refine r_callV0 (As := [.int x1, .ref (a 81 k150), .int x2]) (rest := []) (r := 9) (i := 0) C (vX9_movesRow_81 hLk150 hc151) hR hS (lv0 (by decide) (by decide)) (by decide) ml_X9_426 mw_X9_movesRow rfl ⟨Nat.le_of_ble_eq_true rfl, Nat.le_of_ble_eq_true rfl, Nat.le_of_ble_eq_true rfl, Nat.le_of_ble_eq_true rfl⟩ hl.1 rfl (Nat.le_of_ble_eq_true rfl) dX9_movesAll_129 (fun H locs hR hS => ?_)
          obtain ⟨x153, ex153⟩ : ∃ z : Int32, z = x127 + 1 := ⟨_, rfl⟩
          replace h := bd_x ex153 h
          refine lv_iinc (v := x153) (lv' := [(4, .int x153), (0, .ref (a 9 0)), (1, .int x1), (2, .int x2)]) hx hb dX9_movesAll_132 hl (k := 3) rfl (by rw [ex153]; rfl) (by decide) rfl (fun ls hl => ?_)
          refine lv_goto (tgt := 112) hx hb dX9_movesAll_135 (by decide) ?_
          exact ih _ _ _ _ _ h hR hS (lv_sub hl [1, 2, 3, 0] rfl)
    exact LP FU _ _ _ _ _ h hR hS (lv_sub hl [1, 2, 3, 0] rfl)
  have LP : ∀ (fu : Nat) (x123 : Int32) (u124 : HS) (H : Heap) (locs : List Loc) (ls : Array Slot), mX9_movesAll_L85 x2 w126 fu x123 u124 = some out → Rel E a u124 H → va_S (AE E) s.heap H locs → lv_has ls 5 [(0, .ref (a 9 0)), (1, .int x1), (2, .int x2), (4, .int x123)] → W p l e { frames := 2, cells := 0, slots := 0, locals := 47 } s m args below meth c H locs 0 0 (MQ below (QW E a none out) args s 0 0 (AE E)) (F0 m 85 ls []) := by
    intro fu
    induction fu with
    | zero =>
      intro x123 u124 H locs ls h
      have h2 : (none : Option HS) = some out := h
      cases h2
    | succ fu ih =>
      intro x123 u124 H locs ls h hR hS hl
      rw [mX9_movesAll_L85.eq_2] at h
      refine lv_iload hx hb dX9_movesAll_85 (lv_at hl 3 rfl) ?_
      refine lv_iconst (v := 4) hx hb dX9_movesAll_87 (by decide) ?_
      refine lv_icmp_ge (tgt := 109) hx hb dX9_movesAll_88 (by decide) (fun c_154 => ?_) (fun c_154 => ?_)
      · rw [if_pos c_154] at h
        exact Kw126 _ _ _ _ h hR hS (lv_sub hl [0, 1, 2] rfl)
      · rw [if_neg c_154] at h
        refine lv_iload_n hx hb dX9_movesAll_91 rfl (lv_at hl 2 rfl) ?_
        refine lv_if_eq (tgt := 109) hx hb dX9_movesAll_92 (by decide) (fun c_155 => ?_) (fun c_155 => ?_)
        · rw [if_pos c_155] at h
          exact Kw126 _ _ _ _ h hR hS (lv_sub hl [0, 1, 2] rfl)
        · rw [if_neg c_155] at h
          refine lv_aload_n hx hb dX9_movesAll_95 rfl (lv_at hl 0 rfl) ?_
          refine r_get C hR 9 0 25 (v := .ref (a 77 0)) (lv0 (by decide) (by decide)) (by decide) (by decide) rfl fl_X9_49 dX9_movesAll_96 ?_
          refine lv_iload hx hb dX9_movesAll_99 (lv_at hl 3 rfl) ?_
          refine lv_iconst (v := 1) hx hb dX9_movesAll_101 (by decide) ?_
          obtain ⟨k156, hk156, h⟩ := ob h
          refine r_ast C hR hS 77 0 (lv0 (by decide) (by decide)) (by decide) rfl (fun _ _ => rfl) rfl hk156 dX9_movesAll_102 (fun H locs hR hS => ?_)
          obtain ⟨u157, eu157⟩ : ∃ z : HS, z = wI u124 77 0 k156 1 := ⟨_, rfl⟩
          rw [← eu157] at hR
          replace h := bd_x eu157 h
          clear eu157
          obtain ⟨x158, ex158⟩ : ∃ z : Int32, z = x123 + 1 := ⟨_, rfl⟩
          replace h := bd_x ex158 h
          refine lv_iinc (v := x158) (lv' := [(4, .int x158), (0, .ref (a 9 0)), (1, .int x1), (2, .int x2)]) hx hb dX9_movesAll_103 hl (k := 3) rfl (by rw [ex158]; rfl) (by decide) rfl (fun ls hl => ?_)
          refine lv_goto (tgt := 85) hx hb dX9_movesAll_106 (by decide) ?_
          exact ih _ _ _ _ _ h hR hS (lv_sub hl [1, 2, 3, 0] rfl)
  exact LP FU _ _ _ _ _ h hR hS (lv_sub hl [2, 3, 4, 0] rfl)
set_option maxHeartbeats 4000000 in
set_option maxRecDepth 100000 in
theorem vX9_image {l : Launch} {E : EV} {a : Nat → Nat → Nat} {u0 : HS}  {out : (Int32 × HS)} (h : mX9_image u0 = some out) : Ct l E yX9_image cX9_image 1 (some .int) 3 71 0 0 a u0 [.ref (a 9 0)] (some (.int out.1)) out.2 := by
  refine Ct.start (by decide) (Nat.le_of_ble_eq_true rfl) ?_
  intro p e s m args below meth c ls C hr hR hS hl
  have C : Cx E p s m args meth c cX9_image 1 RX9 := C
  have hl : lv_has ls 1 [(0, .ref (a 9 0))] := hl
  have hx := C.1
  have hb := C.2.1
  unfold mX9_image at h
  refine lv_aload_n hx hb dX9_image_0 rfl (lv_at hl 0 rfl) ?_
  refine lv_iconst (v := 0) hx hb dX9_image_1 (by decide) ?_
  refine r_putI (ty := .int) C hR hS 9 0 0 (lv0 (by decide) (by decide)) (by decide) (by decide) (fun _ => rfl) fl_X9_76 (by decide) (by decide +kernel) rfl rfl dX9_image_2 (fun H locs hR hS => ?_)
  obtain ⟨u101, eu101⟩ : ∃ z : HS, z = wI u0 9 0 0 0 := ⟨_, rfl⟩
  rw [← eu101] at hR
  replace h := bd_x eu101 h
  clear eu101
  refine lv_aload_n hx hb dX9_image_5 rfl (lv_at hl 0 rfl) ?_
  refine r_get C hR 9 0 32 (v := .int (gI u101 9 0 32)) (lv0 (by decide) (by decide)) (by decide) (by decide) rfl fl_X9_430 dX9_image_6 ?_
  refine lv_iconst (v := 3) hx hb dX9_image_9 (by decide) ?_
  refine lv_icmp_ne (tgt := 15) hx hb dX9_image_10 (by decide) (fun c_102 => ?_) (fun c_102 => ?_)
  · rw [if_neg c_102] at h
    refine lv_aload_n hx hb dX9_image_15 rfl (lv_at hl 0 rfl) ?_
    refine lv_aload_n hx hb dX9_image_16 rfl (lv_at hl 0 rfl) ?_
    refine r_get C hR 9 0 32 (v := .int (gI u101 9 0 32)) (lv0 (by decide) (by decide)) (by decide) (by decide) rfl fl_X9_430 dX9_image_17 ?_
    refine lv_iconst (v := 0) hx hb dX9_image_20 (by decide) ?_
    obtain ⟨u104, hc103, h⟩ := ob h
    refine r_callV0 (As := [.int (gI u101 9 0 32), .int 0]) (rest := []) (r := 9) (i := 0) C (vX9_movesAll hc103) hR hS (lv0 (by decide) (by decide)) (by decide) ml_X9_433 mw_X9_movesAll rfl ⟨Nat.le_of_ble_eq_true rfl, Nat.le_of_ble_eq_true rfl, Nat.le_of_ble_eq_true rfl, Nat.le_of_ble_eq_true rfl⟩ hl.1 rfl (Nat.le_of_ble_eq_true rfl) dX9_image_21 (fun H locs hR hS => ?_)
    refine lv_aload_n hx hb dX9_image_24 rfl (lv_at hl 0 rfl) ?_
    refine lv_dup hx hb dX9_image_25 rfl ?_
    refine r_get C hR 9 0 32 (v := .int (gI u104 9 0 32)) (lv0 (by decide) (by decide)) (by decide) (by decide) rfl fl_X9_430 dX9_image_26 ?_
    refine lv_iconst (v := 1) hx hb dX9_image_29 (by decide) ?_
    refine lv_iadd hx hb dX9_image_30 ?_
    refine r_putI (ty := .int) C hR hS 9 0 32 (lv0 (by decide) (by decide)) (by decide) (by decide) (fun _ => rfl) fl_X9_430 (by decide) (by decide +kernel) rfl rfl dX9_image_31 (fun H locs hR hS => ?_)
    obtain ⟨u105, eu105⟩ : ∃ z : HS, z = wI u104 9 0 32 ((gI u104 9 0 32) + 1) := ⟨_, rfl⟩
    rw [← eu105] at hR
    replace h := bd_x eu105 h
    clear eu105
    refine lv_aload_n hx hb dX9_image_34 rfl (lv_at hl 0 rfl) ?_
    refine r_get C hR 9 0 32 (v := .int (gI u105 9 0 32)) (lv0 (by decide) (by decide)) (by decide) (by decide) rfl fl_X9_430 dX9_image_35 ?_
    cases h
    exact e_iret C hr hR hS (Nat.le_of_ble_eq_true rfl) (Nat.le_of_ble_eq_true rfl) dX9_image_38
  · rw [if_pos c_102] at h
    refine lv_iconst (v := (-1)) hx hb dX9_image_13 (by decide) ?_
    cases h
    exact e_iret C hr hR hS (Nat.le_of_ble_eq_true rfl) (Nat.le_of_ble_eq_true rfl) dX9_image_14
set_option maxHeartbeats 4000000 in
set_option maxRecDepth 100000 in
theorem vX9_restore {l : Launch} {E : EV} {a : Nat → Nat → Nat} {u0 : HS}  {out : (Int32 × HS)} (h : mX9_restore u0 = some out) : Ct l E yX9_restore cX9_restore 1 (some .int) 3 71 0 0 a u0 [.ref (a 9 0)] (some (.int out.1)) out.2 := by
  refine Ct.start (by decide) (Nat.le_of_ble_eq_true rfl) ?_
  intro p e s m args below meth c ls C hr hR hS hl
  have C : Cx E p s m args meth c cX9_restore 1 RX9 := C
  have hl : lv_has ls 1 [(0, .ref (a 9 0))] := hl
  have hx := C.1
  have hb := C.2.1
  unfold mX9_restore at h
  refine lv_aload_n hx hb dX9_restore_0 rfl (lv_at hl 0 rfl) ?_
  refine lv_iconst (v := 0) hx hb dX9_restore_1 (by decide) ?_
  refine r_putI (ty := .int) C hR hS 9 0 0 (lv0 (by decide) (by decide)) (by decide) (by decide) (fun _ => rfl) fl_X9_76 (by decide) (by decide +kernel) rfl rfl dX9_restore_2 (fun H locs hR hS => ?_)
  obtain ⟨u101, eu101⟩ : ∃ z : HS, z = wI u0 9 0 0 0 := ⟨_, rfl⟩
  rw [← eu101] at hR
  replace h := bd_x eu101 h
  clear eu101
  refine lv_aload_n hx hb dX9_restore_5 rfl (lv_at hl 0 rfl) ?_
  refine r_get C hR 9 0 32 (v := .int (gI u101 9 0 32)) (lv0 (by decide) (by decide)) (by decide) (by decide) rfl fl_X9_430 dX9_restore_6 ?_
  refine lv_if_ne (tgt := 14) hx hb dX9_restore_9 (by decide) (fun c_102 => ?_) (fun c_102 => ?_)
  · rw [if_neg c_102] at h
    refine lv_aload_n hx hb dX9_restore_14 rfl (lv_at hl 0 rfl) ?_
    refine lv_dup hx hb dX9_restore_15 rfl ?_
    refine r_get C hR 9 0 32 (v := .int (gI u101 9 0 32)) (lv0 (by decide) (by decide)) (by decide) (by decide) rfl fl_X9_430 dX9_restore_16 ?_
    refine lv_iconst (v := 1) hx hb dX9_restore_19 (by decide) ?_
    refine lv_isub hx hb dX9_restore_20 ?_
    refine r_putI (ty := .int) C hR hS 9 0 32 (lv0 (by decide) (by decide)) (by decide) (by decide) (fun _ => rfl) fl_X9_430 (by decide) (by decide +kernel) rfl rfl dX9_restore_21 (fun H locs hR hS => ?_)
    obtain ⟨u103, eu103⟩ : ∃ z : HS, z = wI u101 9 0 32 ((gI u101 9 0 32) - 1) := ⟨_, rfl⟩
    rw [← eu103] at hR
    replace h := bd_x eu103 h
    clear eu103
    refine lv_aload_n hx hb dX9_restore_24 rfl (lv_at hl 0 rfl) ?_
    refine lv_aload_n hx hb dX9_restore_25 rfl (lv_at hl 0 rfl) ?_
    refine r_get C hR 9 0 32 (v := .int (gI u103 9 0 32)) (lv0 (by decide) (by decide)) (by decide) (by decide) rfl fl_X9_430 dX9_restore_26 ?_
    refine lv_iconst (v := 1) hx hb dX9_restore_29 (by decide) ?_
    obtain ⟨u105, hc104, h⟩ := ob h
    refine r_callV0 (As := [.int (gI u103 9 0 32), .int 1]) (rest := []) (r := 9) (i := 0) C (vX9_movesAll hc104) hR hS (lv0 (by decide) (by decide)) (by decide) ml_X9_433 mw_X9_movesAll rfl ⟨Nat.le_of_ble_eq_true rfl, Nat.le_of_ble_eq_true rfl, Nat.le_of_ble_eq_true rfl, Nat.le_of_ble_eq_true rfl⟩ hl.1 rfl (Nat.le_of_ble_eq_true rfl) dX9_restore_30 (fun H locs hR hS => ?_)
    refine lv_aload_n hx hb dX9_restore_33 rfl (lv_at hl 0 rfl) ?_
    refine r_get C hR 9 0 32 (v := .int (gI u105 9 0 32)) (lv0 (by decide) (by decide)) (by decide) (by decide) rfl fl_X9_430 dX9_restore_34 ?_
    cases h
    exact e_iret C hr hR hS (Nat.le_of_ble_eq_true rfl) (Nat.le_of_ble_eq_true rfl) dX9_restore_37
  · rw [if_pos c_102] at h
    refine lv_iconst (v := (-1)) hx hb dX9_restore_12 (by decide) ?_
    cases h
    exact e_iret C hr hR hS (Nat.le_of_ble_eq_true rfl) (Nat.le_of_ble_eq_true rfl) dX9_restore_13
set_option maxHeartbeats 4000000 in
set_option maxRecDepth 100000 in
theorem vX9_count {l : Launch} {E : EV} {a : Nat → Nat → Nat} {u0 : HS} {x1 : Int32} {out : (Int32 × HS)} (h : mX9_count u0 x1 = some out) : Ct l E yX9_count cX9_count 2 (some .int) 0 0 0 0 a u0 [.ref (a 9 0), .int x1] (some (.int out.1)) out.2 := by
  refine Ct.start (by decide) (Nat.le_of_ble_eq_true rfl) ?_
  intro p e s m args below meth c ls C hr hR hS hl
  have C : Cx E p s m args meth c cX9_count 2 RX9 := C
  have hl : lv_has ls 2 [(0, .ref (a 9 0)), (1, .int x1)] := hl
  have hx := C.1
  have hb := C.2.1
  unfold mX9_count at h
  refine lv_aload_n hx hb dX9_count_0 rfl (lv_at hl 0 rfl) ?_
  refine lv_iconst (v := 0) hx hb dX9_count_1 (by decide) ?_
  refine r_putI (ty := .int) C hR hS 9 0 0 (lv0 (by decide) (by decide)) (by decide) (by decide) (fun _ => rfl) fl_X9_76 (by decide) (by decide +kernel) rfl rfl dX9_count_2 (fun H locs hR hS => ?_)
  obtain ⟨u101, eu101⟩ : ∃ z : HS, z = wI u0 9 0 0 0 := ⟨_, rfl⟩
  rw [← eu101] at hR
  replace h := bd_x eu101 h
  clear eu101
  refine lv_iload_n hx hb dX9_count_5 rfl (lv_at hl 1 rfl) ?_
  by_cases c_102 : x1 = 0
  · rw [if_pos c_102] at h
    refine sw_in c_102 hx hb dX9_count_6 (by decide) (by decide) rfl (by decide) (tgt := 56) ?_
    refine lv_aload_n hx hb dX9_count_56 rfl (lv_at hl 0 rfl) ?_
    refine r_get C hR 9 0 14 (v := .int (gI u101 9 0 14)) (lv0 (by decide) (by decide)) (by decide) (by decide) rfl fl_X9_166 dX9_count_57 ?_
    cases h
    exact e_iret C hr hR hS (Nat.le_of_ble_eq_true rfl) (Nat.le_of_ble_eq_true rfl) dX9_count_60
  rw [if_neg c_102] at h
  by_cases c_103 : x1 = 1
  · rw [if_pos c_103] at h
    refine sw_in c_103 hx hb dX9_count_6 (by decide) (by decide) rfl (by decide) (tgt := 61) ?_
    refine lv_aload_n hx hb dX9_count_61 rfl (lv_at hl 0 rfl) ?_
    refine r_get C hR 9 0 15 (v := .int (gI u101 9 0 15)) (lv0 (by decide) (by decide)) (by decide) (by decide) rfl fl_X9_179 dX9_count_62 ?_
    cases h
    exact e_iret C hr hR hS (Nat.le_of_ble_eq_true rfl) (Nat.le_of_ble_eq_true rfl) dX9_count_65
  rw [if_neg c_103] at h
  by_cases c_104 : x1 = 2
  · rw [if_pos c_104] at h
    refine sw_in c_104 hx hb dX9_count_6 (by decide) (by decide) rfl (by decide) (tgt := 66) ?_
    refine lv_aload_n hx hb dX9_count_66 rfl (lv_at hl 0 rfl) ?_
    refine r_get C hR 9 0 16 (v := .int (gI u101 9 0 16)) (lv0 (by decide) (by decide)) (by decide) (by decide) rfl fl_X9_219 dX9_count_67 ?_
    cases h
    exact e_iret C hr hR hS (Nat.le_of_ble_eq_true rfl) (Nat.le_of_ble_eq_true rfl) dX9_count_70
  rw [if_neg c_104] at h
  by_cases c_105 : x1 = 3
  · rw [if_pos c_105] at h
    refine sw_in c_105 hx hb dX9_count_6 (by decide) (by decide) rfl (by decide) (tgt := 71) ?_
    refine lv_aload_n hx hb dX9_count_71 rfl (lv_at hl 0 rfl) ?_
    refine r_get C hR 9 0 28 (v := .int (gI u101 9 0 28)) (lv0 (by decide) (by decide)) (by decide) (by decide) rfl fl_X9_288 dX9_count_72 ?_
    cases h
    exact e_iret C hr hR hS (Nat.le_of_ble_eq_true rfl) (Nat.le_of_ble_eq_true rfl) dX9_count_75
  rw [if_neg c_105] at h
  by_cases c_106 : x1 = 4
  · rw [if_pos c_106] at h
    refine sw_in c_106 hx hb dX9_count_6 (by decide) (by decide) rfl (by decide) (tgt := 76) ?_
    refine lv_aload_n hx hb dX9_count_76 rfl (lv_at hl 0 rfl) ?_
    refine r_get C hR 9 0 29 (v := .int (gI u101 9 0 29)) (lv0 (by decide) (by decide)) (by decide) (by decide) rfl fl_X9_298 dX9_count_77 ?_
    cases h
    exact e_iret C hr hR hS (Nat.le_of_ble_eq_true rfl) (Nat.le_of_ble_eq_true rfl) dX9_count_80
  rw [if_neg c_106] at h
  by_cases c_107 : x1 = 5
  · rw [if_pos c_107] at h
    refine sw_in c_107 hx hb dX9_count_6 (by decide) (by decide) rfl (by decide) (tgt := 81) ?_
    refine lv_aload_n hx hb dX9_count_81 rfl (lv_at hl 0 rfl) ?_
    refine r_get C hR 9 0 30 (v := .int (gI u101 9 0 30)) (lv0 (by decide) (by decide)) (by decide) (by decide) rfl fl_X9_301 dX9_count_82 ?_
    cases h
    exact e_iret C hr hR hS (Nat.le_of_ble_eq_true rfl) (Nat.le_of_ble_eq_true rfl) dX9_count_85
  rw [if_neg c_107] at h
  by_cases c_108 : x1 = 6
  · rw [if_pos c_108] at h
    refine sw_in c_108 hx hb dX9_count_6 (by decide) (by decide) rfl (by decide) (tgt := 86) ?_
    refine lv_aload_n hx hb dX9_count_86 rfl (lv_at hl 0 rfl) ?_
    refine r_get C hR 9 0 32 (v := .int (gI u101 9 0 32)) (lv0 (by decide) (by decide)) (by decide) (by decide) rfl fl_X9_430 dX9_count_87 ?_
    cases h
    exact e_iret C hr hR hS (Nat.le_of_ble_eq_true rfl) (Nat.le_of_ble_eq_true rfl) dX9_count_90
  rw [if_neg c_108] at h
  by_cases c_109 : x1 = 7
  · rw [if_pos c_109] at h
    refine sw_in c_109 hx hb dX9_count_6 (by decide) (by decide) rfl (by decide) (tgt := 91) ?_
    refine lv_aload_n hx hb dX9_count_91 rfl (lv_at hl 0 rfl) ?_
    refine r_get C hR 9 0 1 (v := .int (gI u101 9 0 1)) (lv0 (by decide) (by decide)) (by decide) (by decide) rfl fl_X9_79 dX9_count_92 ?_
    cases h
    exact e_iret C hr hR hS (Nat.le_of_ble_eq_true rfl) (Nat.le_of_ble_eq_true rfl) dX9_count_95
  rw [if_neg c_109] at h
  by_cases c_110 : x1 = 8
  · rw [if_pos c_110] at h
    refine sw_in c_110 hx hb dX9_count_6 (by decide) (by decide) rfl (by decide) (tgt := 96) ?_
    refine lv_aload_n hx hb dX9_count_96 rfl (lv_at hl 0 rfl) ?_
    refine r_get C hR 9 0 31 (v := .int (gI u101 9 0 31)) (lv0 (by decide) (by decide)) (by decide) (by decide) rfl fl_X9_58 dX9_count_97 ?_
    cases h
    exact e_iret C hr hR hS (Nat.le_of_ble_eq_true rfl) (Nat.le_of_ble_eq_true rfl) dX9_count_100
  rw [if_neg c_110] at h
  refine lv_tableOut (tgt := 101) hx hb dX9_count_6 (by have z0 := sw_ne (k := 0) c_102 rfl; have z1 := sw_ne (k := 1) c_103 rfl; have z2 := sw_ne (k := 2) c_104 rfl; have z3 := sw_ne (k := 3) c_105 rfl; have z4 := sw_ne (k := 4) c_106 rfl; have z5 := sw_ne (k := 5) c_107 rfl; have z6 := sw_ne (k := 6) c_108 rfl; have z7 := sw_ne (k := 7) c_109 rfl; have z8 := sw_ne (k := 8) c_110 rfl; omega) (by decide) ?_
  refine lv_iconst (v := (-1)) hx hb dX9_count_101 (by decide) ?_
  cases h
  exact e_iret C hr hR hS (Nat.le_of_ble_eq_true rfl) (Nat.le_of_ble_eq_true rfl) dX9_count_102
