set_option maxHeartbeats 4000000 in
set_option maxRecDepth 100000 in
theorem vX6_put {l : Launch} {E : EV} {a : Nat → Nat → Nat} {u0 : HS} {i0 : Nat} {x1 : Int32} {x2 : Int32} {out : HS} (hi0 : i0 < cntS 6) (h : mX6_put u0 i0 x1 x2 = some out) : Ct l E yX6_put cX6_put 3 none 0 0 0 0 a u0 [.ref (a 6 i0), .int x1, .int x2] none out := by
  refine Ct.start (by decide) (Nat.le_of_ble_eq_true rfl) ?_
  intro p e s m args below meth c ls C hr hR hS hl
  have C : Cx E p s m args meth c cX6_put 3 RX6 := C
  have hl : lv_has ls 3 [(0, .ref (a 6 i0)), (1, .int x1), (2, .int x2)] := hl
  have hx := C.1
  have hb := C.2.1
  unfold mX6_put at h
  refine lv_iload_n hx hb dX6_put_0 rfl (lv_at hl 1 rfl) ?_
  by_cases c_101 : x1 = 0
  · rw [if_pos c_101] at h
    refine sw_in c_101 hx hb dX6_put_1 (by decide) (by decide) rfl (by decide) (tgt := 32) ?_
    refine lv_aload_n hx hb dX6_put_32 rfl (lv_at hl 0 rfl) ?_
    refine lv_dup hx hb dX6_put_33 rfl ?_
    refine r_get C hR 6 i0 0 (v := .int (gI u0 6 i0 0)) (lv0 hi0 (by decide)) (by decide) (by decide) rfl fl_X6_9 dX6_put_34 ?_
    refine lv_iconst (v := 1) hx hb dX6_put_37 (by decide) ?_
    refine lv_iload_n hx hb dX6_put_38 rfl (lv_at hl 2 rfl) ?_
    refine lv_ishl hx hb dX6_put_39 ?_
    refine lv_ior hx hb dX6_put_40 ?_
    refine r_putI (ty := .int) C hR hS 6 i0 0 (lv0 hi0 (by decide)) (by decide) (by decide) (fun _ => rfl) fl_X6_9 (by decide) (by decide +kernel) rfl rfl dX6_put_41 (fun H locs hR hS => ?_)
    obtain ⟨u102, eu102⟩ : ∃ z : HS, z = wI u0 6 i0 0 ((gI u0 6 i0 0) ||| ((1 : Int32) <<< (x2 &&& 31))) := ⟨_, rfl⟩
    rw [← eu102] at hR
    replace h := bd_x eu102 h
    clear eu102
    refine lv_goto (tgt := 83) hx hb dX6_put_44 (by decide) ?_
    cases h
    exact e_vret C hr hR hS (Nat.le_of_ble_eq_true rfl) (Nat.le_of_ble_eq_true rfl) dX6_put_83
  rw [if_neg c_101] at h
  by_cases c_103 : x1 = 1
  · rw [if_pos c_103] at h
    refine sw_in c_103 hx hb dX6_put_1 (by decide) (by decide) rfl (by decide) (tgt := 47) ?_
    refine lv_aload_n hx hb dX6_put_47 rfl (lv_at hl 0 rfl) ?_
    refine lv_dup hx hb dX6_put_48 rfl ?_
    refine r_get C hR 6 i0 1 (v := .int (gI u0 6 i0 1)) (lv0 hi0 (by decide)) (by decide) (by decide) rfl fl_X6_15 dX6_put_49 ?_
    refine lv_iconst (v := 1) hx hb dX6_put_52 (by decide) ?_
    refine lv_iload_n hx hb dX6_put_53 rfl (lv_at hl 2 rfl) ?_
    refine lv_ishl hx hb dX6_put_54 ?_
    refine lv_ior hx hb dX6_put_55 ?_
    refine r_putI (ty := .int) C hR hS 6 i0 1 (lv0 hi0 (by decide)) (by decide) (by decide) (fun _ => rfl) fl_X6_15 (by decide) (by decide +kernel) rfl rfl dX6_put_56 (fun H locs hR hS => ?_)
    obtain ⟨u104, eu104⟩ : ∃ z : HS, z = wI u0 6 i0 1 ((gI u0 6 i0 1) ||| ((1 : Int32) <<< (x2 &&& 31))) := ⟨_, rfl⟩
    rw [← eu104] at hR
    replace h := bd_x eu104 h
    clear eu104
    refine lv_goto (tgt := 83) hx hb dX6_put_59 (by decide) ?_
    cases h
    exact e_vret C hr hR hS (Nat.le_of_ble_eq_true rfl) (Nat.le_of_ble_eq_true rfl) dX6_put_83
  rw [if_neg c_103] at h
  by_cases c_105 : x1 = 2
  · rw [if_pos c_105] at h
    refine sw_in c_105 hx hb dX6_put_1 (by decide) (by decide) rfl (by decide) (tgt := 62) ?_
    refine lv_aload_n hx hb dX6_put_62 rfl (lv_at hl 0 rfl) ?_
    refine lv_iload_n hx hb dX6_put_63 rfl (lv_at hl 2 rfl) ?_
    refine r_putI (ty := .int) C hR hS 6 i0 2 (lv0 hi0 (by decide)) (by decide) (by decide) (fun _ => rfl) fl_X6_18 (by decide) (by decide +kernel) rfl rfl dX6_put_64 (fun H locs hR hS => ?_)
    obtain ⟨u106, eu106⟩ : ∃ z : HS, z = wI u0 6 i0 2 x2 := ⟨_, rfl⟩
    rw [← eu106] at hR
    replace h := bd_x eu106 h
    clear eu106
    refine lv_goto (tgt := 83) hx hb dX6_put_67 (by decide) ?_
    cases h
    exact e_vret C hr hR hS (Nat.le_of_ble_eq_true rfl) (Nat.le_of_ble_eq_true rfl) dX6_put_83
  rw [if_neg c_105] at h
  by_cases c_107 : x1 = 3
  · rw [if_pos c_107] at h
    refine sw_in c_107 hx hb dX6_put_1 (by decide) (by decide) rfl (by decide) (tgt := 70) ?_
    refine lv_aload_n hx hb dX6_put_70 rfl (lv_at hl 0 rfl) ?_
    refine lv_iload_n hx hb dX6_put_71 rfl (lv_at hl 2 rfl) ?_
    refine r_putI (ty := .int) C hR hS 6 i0 3 (lv0 hi0 (by decide)) (by decide) (by decide) (fun _ => rfl) fl_X6_21 (by decide) (by decide +kernel) rfl rfl dX6_put_72 (fun H locs hR hS => ?_)
    obtain ⟨u108, eu108⟩ : ∃ z : HS, z = wI u0 6 i0 3 x2 := ⟨_, rfl⟩
    rw [← eu108] at hR
    replace h := bd_x eu108 h
    clear eu108
    refine lv_goto (tgt := 83) hx hb dX6_put_75 (by decide) ?_
    cases h
    exact e_vret C hr hR hS (Nat.le_of_ble_eq_true rfl) (Nat.le_of_ble_eq_true rfl) dX6_put_83
  rw [if_neg c_107] at h
  refine lv_tableOut (tgt := 78) hx hb dX6_put_1 (by have z0 := sw_ne (k := 0) c_101 rfl; have z1 := sw_ne (k := 1) c_103 rfl; have z2 := sw_ne (k := 2) c_105 rfl; have z3 := sw_ne (k := 3) c_107 rfl; omega) (by decide) ?_
  refine lv_aload_n hx hb dX6_put_78 rfl (lv_at hl 0 rfl) ?_
  refine lv_iload_n hx hb dX6_put_79 rfl (lv_at hl 2 rfl) ?_
  refine r_putI (ty := .int) C hR hS 6 i0 4 (lv0 hi0 (by decide)) (by decide) (by decide) (fun _ => rfl) fl_X6_24 (by decide) (by decide +kernel) rfl rfl dX6_put_80 (fun H locs hR hS => ?_)
  obtain ⟨u109, eu109⟩ : ∃ z : HS, z = wI u0 6 i0 4 x2 := ⟨_, rfl⟩
  rw [← eu109] at hR
  replace h := bd_x eu109 h
  clear eu109
  cases h
  exact e_vret C hr hR hS (Nat.le_of_ble_eq_true rfl) (Nat.le_of_ble_eq_true rfl) dX6_put_83
set_option maxHeartbeats 4000000 in
set_option maxRecDepth 100000 in
theorem vX6_read {l : Launch} {E : EV} {a : Nat → Nat → Nat} {u0 : HS} {i0 : Nat} {out : HS} (hi0 : i0 < cntS 6) (h : mX6_read u0 i0 = some out) : Ct l E yX6_read cX6_read 4 none 7 163 0 0 a u0 [.ref (a 6 i0), .ref (a 5 0)] none out := by
  refine Ct.start (by decide) (Nat.le_of_ble_eq_true rfl) ?_
  intro p e s m args below meth c ls C hr hR hS hl
  have C : Cx E p s m args meth c cX6_read 4 RX6 := C
  have hl : lv_has ls 4 [(0, .ref (a 6 i0)), (1, .ref (a 5 0))] := hl
  have hx := C.1
  have hb := C.2.1
  unfold mX6_read at h
  refine lv_aload_n hx hb dX6_read_0 rfl (lv_at hl 0 rfl) ?_
  refine lv_iconst (v := 0) hx hb dX6_read_1 (by decide) ?_
  refine r_putI (ty := .int) C hR hS 6 i0 0 (lv0 hi0 (by decide)) (by decide) (by decide) (fun _ => rfl) fl_X6_9 (by decide) (by decide +kernel) rfl rfl dX6_read_2 (fun H locs hR hS => ?_)
  obtain ⟨u101, eu101⟩ : ∃ z : HS, z = wI u0 6 i0 0 0 := ⟨_, rfl⟩
  rw [← eu101] at hR
  replace h := bd_x eu101 h
  clear eu101
  refine lv_aload_n hx hb dX6_read_5 rfl (lv_at hl 0 rfl) ?_
  refine lv_iconst (v := 0) hx hb dX6_read_6 (by decide) ?_
  refine r_putI (ty := .int) C hR hS 6 i0 1 (lv0 hi0 (by decide)) (by decide) (by decide) (fun _ => rfl) fl_X6_15 (by decide) (by decide +kernel) rfl rfl dX6_read_7 (fun H locs hR hS => ?_)
  obtain ⟨u102, eu102⟩ : ∃ z : HS, z = wI u101 6 i0 1 0 := ⟨_, rfl⟩
  rw [← eu102] at hR
  replace h := bd_x eu102 h
  clear eu102
  refine lv_aload_n hx hb dX6_read_10 rfl (lv_at hl 0 rfl) ?_
  refine lv_iconst (v := (-1)) hx hb dX6_read_11 (by decide) ?_
  refine r_putI (ty := .int) C hR hS 6 i0 2 (lv0 hi0 (by decide)) (by decide) (by decide) (fun _ => rfl) fl_X6_18 (by decide) (by decide +kernel) rfl rfl dX6_read_12 (fun H locs hR hS => ?_)
  obtain ⟨u103, eu103⟩ : ∃ z : HS, z = wI u102 6 i0 2 (-1) := ⟨_, rfl⟩
  rw [← eu103] at hR
  replace h := bd_x eu103 h
  clear eu103
  refine lv_aload_n hx hb dX6_read_15 rfl (lv_at hl 0 rfl) ?_
  refine lv_iconst (v := 4) hx hb dX6_read_16 (by decide) ?_
  refine r_putI (ty := .int) C hR hS 6 i0 3 (lv0 hi0 (by decide)) (by decide) (by decide) (fun _ => rfl) fl_X6_21 (by decide) (by decide +kernel) rfl rfl dX6_read_17 (fun H locs hR hS => ?_)
  obtain ⟨u104, eu104⟩ : ∃ z : HS, z = wI u103 6 i0 3 4 := ⟨_, rfl⟩
  rw [← eu104] at hR
  replace h := bd_x eu104 h
  clear eu104
  refine lv_aload_n hx hb dX6_read_20 rfl (lv_at hl 0 rfl) ?_
  refine lv_iconst (v := 0) hx hb dX6_read_21 (by decide) ?_
  refine r_putI (ty := .int) C hR hS 6 i0 4 (lv0 hi0 (by decide)) (by decide) (by decide) (fun _ => rfl) fl_X6_24 (by decide) (by decide +kernel) rfl rfl dX6_read_22 (fun H locs hR hS => ?_)
  obtain ⟨u105, eu105⟩ : ∃ z : HS, z = wI u104 6 i0 4 0 := ⟨_, rfl⟩
  rw [← eu105] at hR
  replace h := bd_x eu105 h
  clear eu105
  refine lv_iconst (v := 0) hx hb dX6_read_25 (by decide) ?_
  refine lv_istore_n (lv' := [(2, .int 0), (0, .ref (a 6 i0)), (1, .ref (a 5 0))]) hx hb dX6_read_26 rfl hl (by decide) rfl (fun ls hl => ?_)
  refine jp_cut h (fun w109 hw109 h => ?_)
  have Kw109 : ∀ (u108 : HS) (H : Heap) (locs : List Loc) (ls : Array Slot), w109 u108 = some out → Rel E a u108 H → va_S (AE E) s.heap H locs → lv_has ls 4 [] → W p l e { frames := 7, cells := 0, slots := 0, locals := 163 } s m args below meth c H locs 0 0 (MQ below (QW E a none out) args s 0 0 (AE E)) (F0 m 84 ls []) := by
    intro u108 H locs ls h hR hS hl
    replace h := jx1 hw109 h
    cases h
    exact e_vret C hr hR hS (Nat.le_of_ble_eq_true rfl) (Nat.le_of_ble_eq_true rfl) dX6_read_84
  have LP : ∀ (fu : Nat) (x106 : Int32) (u107 : HS) (H : Heap) (locs : List Loc) (ls : Array Slot), mX6_read_L27 i0 w109 fu x106 u107 = some out → Rel E a u107 H → va_S (AE E) s.heap H locs → lv_has ls 4 [(0, .ref (a 6 i0)), (1, .ref (a 5 0)), (2, .int x106)] → W p l e { frames := 7, cells := 0, slots := 0, locals := 163 } s m args below meth c H locs 0 0 (MQ below (QW E a none out) args s 0 0 (AE E)) (F0 m 27 ls []) := by
    intro fu
    induction fu with
    | zero =>
      intro x106 u107 H locs ls h
      have h2 : (none : Option HS) = some out := h
      cases h2
    | succ fu ih =>
      intro x106 u107 H locs ls h hR hS hl
      rw [mX6_read_L27.eq_2] at h
      refine lv_iload_n hx hb dX6_read_27 rfl (lv_at hl 2 rfl) ?_
      refine lv_bipush (v := 16) hx hb dX6_read_28 (by decide) ?_
      refine lv_icmp_gt (tgt := 84) hx hb dX6_read_30 (by decide) (fun c_110 => ?_) (fun c_110 => ?_)
      · rw [if_pos c_110] at h
        exact Kw109 _ _ _ _ h hR hS (lv_sub hl [] rfl)
      · rw [if_neg c_110] at h
        refine lv_aload_n hx hb dX6_read_33 rfl (lv_at hl 1 rfl) ?_
        refine r_ldcS (q := ("MiddleUnseen$Task", 27, "keep drop count room watch ", 17)) C (by decide) dX6_read_34 ?_
        refine lv_iload_n hx hb dX6_read_36 rfl (lv_at hl 2 rfl) ?_
        refine lv_bipush (v := 16) hx hb dX6_read_37 (by decide) ?_
        obtain ⟨⟨x112, u113⟩, hc111, h⟩ := ob h
        replace h := bd_x (x := x112) rfl h
        replace h := bd_x (x := u113) rfl h
        refine r_callV1 (As := [.ref (eK E 17), .int x106, .int 16]) (rest := []) (r := 5) (i := 0) C (vX5_clauseWord (by decide) hc111) hR hS (lv0 (by decide) (by decide)) (by decide) ml_X6_29 mw_X5_clauseWord rfl ⟨Nat.le_of_ble_eq_true rfl, Nat.le_of_ble_eq_true rfl, Nat.le_of_ble_eq_true rfl, Nat.le_of_ble_eq_true rfl⟩ hl.1 rfl (Nat.le_of_ble_eq_true rfl) dX6_read_39 (fun H locs hR hS => ?_)
        refine lv_istore_n (lv' := [(3, .int x112), (0, .ref (a 6 i0)), (1, .ref (a 5 0)), (2, .int x106)]) hx hb dX6_read_42 rfl hl (by decide) rfl (fun ls hl => ?_)
        refine lv_iload_n hx hb dX6_read_43 rfl (lv_at hl 0 rfl) ?_
        refine lv_iconst (v := (-1)) hx hb dX6_read_44 (by decide) ?_
        refine lv_icmp_ne (tgt := 49) hx hb dX6_read_45 (by decide) (fun c_114 => ?_) (fun c_114 => ?_)
        · rw [if_neg c_114] at h
          refine lv_aload_n hx hb dX6_read_49 rfl (lv_at hl 1 rfl) ?_
          refine lv_iload_n hx hb dX6_read_50 rfl (lv_at hl 0 rfl) ?_
          refine lv_aload_n hx hb dX6_read_51 rfl (lv_at hl 2 rfl) ?_
          refine lv_iconst (v := 0) hx hb dX6_read_52 (by decide) ?_
          refine lv_iload_n hx hb dX6_read_53 rfl (lv_at hl 0 rfl) ?_
          refine lv_iconst (v := 3) hx hb dX6_read_54 (by decide) ?_
          obtain ⟨x115, hz, h⟩ := ob h
          have Kj116 : ∀ (H : Heap) (locs : List Loc) (ls : Array Slot), Rel E a u113 H → va_S (AE E) s.heap H locs → lv_has ls 4 [(0, .ref (a 6 i0)), (1, .ref (a 5 0)), (2, .int x106)] → W p l e { frames := 7, cells := 0, slots := 0, locals := 163 } s m args below meth c H locs 0 0 (MQ below (QW E a none out) args s 0 0 (AE E)) (F0 m 65 ls [.int x115, .int 0, .ref (a 5 0), .int x112, .ref (a 6 i0)]) := by
            intro H locs ls hR hS hl
            clear hz
            obtain ⟨⟨x118, u119⟩, hc117, h⟩ := ob h
            replace h := bd_x (x := x118) rfl h
            replace h := bd_x (x := u119) rfl h
            refine r_callV1 (As := [.int 0, .int x115]) (rest := [.int x112, .ref (a 6 i0)]) (r := 5) (i := 0) C (vX5_demandNumber hc117) hR hS (lv0 (by decide) (by decide)) (by decide) ml_X6_35 mw_X5_demandNumber rfl ⟨Nat.le_of_ble_eq_true rfl, Nat.le_of_ble_eq_true rfl, Nat.le_of_ble_eq_true rfl, Nat.le_of_ble_eq_true rfl⟩ hl.1 rfl (Nat.le_of_ble_eq_true rfl) dX6_read_65 (fun H locs hR hS => ?_)
            obtain ⟨u121, hc120, h⟩ := ob h
            refine r_callV0 (As := [.int x112, .int x118]) (rest := []) (r := 6) (i := i0) C (vX6_put hi0 hc120) hR hS (lv0 hi0 (by decide)) (by decide) ml_X6_39 mw_X6_put rfl ⟨Nat.le_of_ble_eq_true rfl, Nat.le_of_ble_eq_true rfl, Nat.le_of_ble_eq_true rfl, Nat.le_of_ble_eq_true rfl⟩ hl.1 rfl (Nat.le_of_ble_eq_true rfl) dX6_read_68 (fun H locs hR hS => ?_)
            refine lv_aload_n hx hb dX6_read_71 rfl (lv_at hl 1 rfl) ?_
            refine r_ldcS (q := ("MiddleUnseen$Task", 43, ";", 0)) C (by decide) dX6_read_72 ?_
            obtain ⟨⟨x123, u124⟩, hc122, h⟩ := ob h
            replace h := bd_x (x := x123) rfl h
            replace h := bd_x (x := u124) rfl h
            refine r_callV1 (As := [.ref (eK E 0)]) (rest := []) (r := 5) (i := 0) C (vX5_demandSign (by decide) hc122) hR hS (lv0 (by decide) (by decide)) (by decide) ml_X6_45 mw_X5_demandSign rfl ⟨Nat.le_of_ble_eq_true rfl, Nat.le_of_ble_eq_true rfl, Nat.le_of_ble_eq_true rfl, Nat.le_of_ble_eq_true rfl⟩ hl.1 rfl (Nat.le_of_ble_eq_true rfl) dX6_read_74 (fun H locs hR hS => ?_)
            refine lv_pop hx hb dX6_read_77 rfl ?_
            obtain ⟨x125, ex125⟩ : ∃ z : Int32, z = x106 + 1 := ⟨_, rfl⟩
            replace h := bd_x ex125 h
            refine lv_iinc (v := x125) (lv' := [(2, .int x125), (0, .ref (a 6 i0)), (1, .ref (a 5 0))]) hx hb dX6_read_78 hl (k := 2) rfl (by rw [ex125]; rfl) (by decide) rfl (fun ls hl => ?_)
            refine lv_goto (tgt := 27) hx hb dX6_read_81 (by decide) ?_
            exact ih _ _ _ _ _ h hR hS (lv_sub hl [1, 2, 0] rfl)
          clear h
          have h := hz
          clear hz
          refine lv_icmp_ge (tgt := 63) hx hb dX6_read_55 (by decide) (fun c_126 => ?_) (fun c_126 => ?_)
          · rw [if_pos c_126] at h
            refine lv_bipush (v := 9) hx hb dX6_read_63 (by decide) ?_
            cases h
            exact Kj116 _ _ _ hR hS (lv_sub hl [1, 2, 3] rfl)
          · rw [if_neg c_126] at h
            refine lv_bipush (v := 7) hx hb dX6_read_58 (by decide) ?_
            refine lv_goto (tgt := 65) hx hb dX6_read_60 (by decide) ?_
            cases h
            exact Kj116 _ _ _ hR hS (lv_sub hl [1, 2, 3] rfl)
        · rw [if_pos c_114] at h
          cases h
          exact e_vret C hr hR hS (Nat.le_of_ble_eq_true rfl) (Nat.le_of_ble_eq_true rfl) dX6_read_48
  exact LP FU _ _ _ _ _ h hR hS (lv_sub hl [1, 2, 0] rfl)
set_option maxHeartbeats 4000000 in
set_option maxRecDepth 100000 in
theorem vX7_bend {l : Launch} {E : EV} {a : Nat → Nat → Nat} {u0 : HS} {x1 : Int32} {x2 : Int32} {out : HS} (h : mX7_bend u0 x1 x2 = some out) : Ct l E yX7_bend cX7_bend 3 none 0 0 0 0 a u0 [.ref (a 7 0), .int x1, .int x2] none out := by
  refine Ct.start (by decide) (Nat.le_of_ble_eq_true rfl) ?_
  intro p e s m args below meth c ls C hr hR hS hl
  have C : Cx E p s m args meth c cX7_bend 3 RX7 := C
  have hl : lv_has ls 3 [(0, .ref (a 7 0)), (1, .int x1), (2, .int x2)] := hl
  have hx := C.1
  have hb := C.2.1
  unfold mX7_bend at h
  refine lv_aload_n hx hb dX7_bend_0 rfl (lv_at hl 0 rfl) ?_
  refine lv_iload_n hx hb dX7_bend_1 rfl (lv_at hl 1 rfl) ?_
  obtain ⟨x101, hz, h⟩ := ob h
  have Kj102 : ∀ (H : Heap) (locs : List Loc) (ls : Array Slot), Rel E a u0 H → va_S (AE E) s.heap H locs → lv_has ls 3 [(0, .ref (a 7 0)), (1, .int x1), (2, .int x2)] → W p l e { frames := 0, cells := 0, slots := 0, locals := 0 } s m args below meth c H locs 0 0 (MQ below (QW E a none out) args s 0 0 (AE E)) (F0 m 10 ls [.int x101, .ref (a 7 0)]) := by
    intro H locs ls hR hS hl
    clear hz
    refine r_putI (ty := .int) C hR hS 7 0 7 (lv0 (by decide) (by decide)) (by decide) (by decide) (fun _ => rfl) fl_X7_42 (by decide) (by decide +kernel) rfl rfl dX7_bend_10 (fun H locs hR hS => ?_)
    obtain ⟨u103, eu103⟩ : ∃ z : HS, z = wI u0 7 0 7 x101 := ⟨_, rfl⟩
    rw [← eu103] at hR
    replace h := bd_x eu103 h
    clear eu103
    refine lv_aload_n hx hb dX7_bend_13 rfl (lv_at hl 0 rfl) ?_
    refine lv_iload_n hx hb dX7_bend_14 rfl (lv_at hl 1 rfl) ?_
    refine lv_iconst (v := 1) hx hb dX7_bend_15 (by decide) ?_
    obtain ⟨x104, hz, h⟩ := ob h
    have Kj105 : ∀ (H : Heap) (locs : List Loc) (ls : Array Slot), Rel E a u103 H → va_S (AE E) s.heap H locs → lv_has ls 3 [(0, .ref (a 7 0)), (1, .int x1), (2, .int x2)] → W p l e { frames := 0, cells := 0, slots := 0, locals := 0 } s m args below meth c H locs 0 0 (MQ below (QW E a none out) args s 0 0 (AE E)) (F0 m 24 ls [.int x104, .ref (a 7 0)]) := by
      intro H locs ls hR hS hl
      clear hz
      refine r_putI (ty := .int) C hR hS 7 0 8 (lv0 (by decide) (by decide)) (by decide) (by decide) (fun _ => rfl) fl_X7_46 (by decide) (by decide +kernel) rfl rfl dX7_bend_24 (fun H locs hR hS => ?_)
      obtain ⟨u106, eu106⟩ : ∃ z : HS, z = wI u103 7 0 8 x104 := ⟨_, rfl⟩
      rw [← eu106] at hR
      replace h := bd_x eu106 h
      clear eu106
      refine lv_aload_n hx hb dX7_bend_27 rfl (lv_at hl 0 rfl) ?_
      refine lv_iload_n hx hb dX7_bend_28 rfl (lv_at hl 1 rfl) ?_
      refine lv_iconst (v := 2) hx hb dX7_bend_29 (by decide) ?_
      obtain ⟨x107, hz, h⟩ := ob h
      have Kj108 : ∀ (H : Heap) (locs : List Loc) (ls : Array Slot), Rel E a u106 H → va_S (AE E) s.heap H locs → lv_has ls 3 [] → W p l e { frames := 0, cells := 0, slots := 0, locals := 0 } s m args below meth c H locs 0 0 (MQ below (QW E a none out) args s 0 0 (AE E)) (F0 m 42 ls [.int x107, .ref (a 7 0)]) := by
        intro H locs ls hR hS hl
        clear hz
        refine r_putI (ty := .int) C hR hS 7 0 9 (lv0 (by decide) (by decide)) (by decide) (by decide) (fun _ => rfl) fl_X7_49 (by decide) (by decide +kernel) rfl rfl dX7_bend_42 (fun H locs hR hS => ?_)
        obtain ⟨u109, eu109⟩ : ∃ z : HS, z = wI u106 7 0 9 x107 := ⟨_, rfl⟩
        rw [← eu109] at hR
        replace h := bd_x eu109 h
        clear eu109
        cases h
        exact e_vret C hr hR hS (Nat.le_of_ble_eq_true rfl) (Nat.le_of_ble_eq_true rfl) dX7_bend_45
      clear h
      have h := hz
      clear hz
      refine jp_cut h (fun j110 hj110 h => ?_)
      have Kj110 : ∀  (H : Heap) (locs : List Loc) (ls : Array Slot), j110 = some x107 → Rel E a u106 H → va_S (AE E) s.heap H locs → lv_has ls 3 [] → W p l e { frames := 0, cells := 0, slots := 0, locals := 0 } s m args below meth c H locs 0 0 (MQ below (QW E a none out) args s 0 0 (AE E)) (F0 m 41 ls [.ref (a 7 0)]) := by
        intro  H locs ls h hR hS hl
        replace h := jx0 hj110 h
        refine lv_iconst (v := 1) hx hb dX7_bend_41 (by decide) ?_
        cases h
        exact Kj108 _ _ _ hR hS (lv_sub hl [] rfl)
      refine lv_icmp_ne (tgt := 41) hx hb dX7_bend_30 (by decide) (fun c_111 => ?_) (fun c_111 => ?_)
      · rw [if_neg c_111] at h
        exact Kj110  _ _ _ h hR hS (lv_sub hl [] rfl)
      · rw [if_pos c_111] at h
        refine lv_iload_n hx hb dX7_bend_33 rfl (lv_at hl 2 rfl) ?_
        refine lv_if_le (tgt := 41) hx hb dX7_bend_34 (by decide) (fun c_112 => ?_) (fun c_112 => ?_)
        · rw [if_pos c_112] at h
          exact Kj110  _ _ _ h hR hS (lv_sub hl [] rfl)
        · rw [if_neg c_112] at h
          refine lv_iload_n hx hb dX7_bend_37 rfl (lv_at hl 2 rfl) ?_
          refine lv_goto (tgt := 42) hx hb dX7_bend_38 (by decide) ?_
          cases h
          exact Kj108 _ _ _ hR hS (lv_sub hl [] rfl)
    clear h
    have h := hz
    clear hz
    refine lv_icmp_ne (tgt := 23) hx hb dX7_bend_16 (by decide) (fun c_113 => ?_) (fun c_113 => ?_)
    · rw [if_neg c_113] at h
      refine lv_iconst (v := 0) hx hb dX7_bend_23 (by decide) ?_
      cases h
      exact Kj105 _ _ _ hR hS (lv_sub hl [0, 1, 2] rfl)
    · rw [if_pos c_113] at h
      refine lv_iload_n hx hb dX7_bend_19 rfl (lv_at hl 2 rfl) ?_
      refine lv_goto (tgt := 24) hx hb dX7_bend_20 (by decide) ?_
      cases h
      exact Kj105 _ _ _ hR hS (lv_sub hl [0, 1, 2] rfl)
  clear h
  have h := hz
  clear hz
  refine lv_if_ne (tgt := 9) hx hb dX7_bend_2 (by decide) (fun c_114 => ?_) (fun c_114 => ?_)
  · rw [if_neg c_114] at h
    refine lv_iconst (v := (-1)) hx hb dX7_bend_9 (by decide) ?_
    cases h
    exact Kj102 _ _ _ hR hS (lv_sub hl [0, 1, 2] rfl)
  · rw [if_pos c_114] at h
    refine lv_iload_n hx hb dX7_bend_5 rfl (lv_at hl 2 rfl) ?_
    refine lv_goto (tgt := 10) hx hb dX7_bend_6 (by decide) ?_
    cases h
    exact Kj102 _ _ _ hR hS (lv_sub hl [0, 1, 2] rfl)
set_option maxHeartbeats 4000000 in
set_option maxRecDepth 100000 in
theorem vX7_clearLatest {l : Launch} {E : EV} {a : Nat → Nat → Nat} {u0 : HS} {x1 : Int32} {out : HS} (h : mX7_clearLatest u0 x1 = some out) : Ct l E yX7_clearLatest cX7_clearLatest 3 none 0 0 0 0 a u0 [.ref (a 7 0), .int x1] none out := by
  refine Ct.start (by decide) (Nat.le_of_ble_eq_true rfl) ?_
  intro p e s m args below meth c ls C hr hR hS hl
  have C : Cx E p s m args meth c cX7_clearLatest 3 RX7 := C
  have hl : lv_has ls 3 [(0, .ref (a 7 0)), (1, .int x1)] := hl
  have hx := C.1
  have hb := C.2.1
  unfold mX7_clearLatest at h
  refine lv_iconst (v := 0) hx hb dX7_clearLatest_0 (by decide) ?_
  refine lv_istore_n (lv' := [(2, .int 0), (0, .ref (a 7 0)), (1, .int x1)]) hx hb dX7_clearLatest_1 rfl hl (by decide) rfl (fun ls hl => ?_)
  refine jp_cut h (fun w104 hw104 h => ?_)
  have Kw104 : ∀ (u103 : HS) (H : Heap) (locs : List Loc) (ls : Array Slot), w104 u103 = some out → Rel E a u103 H → va_S (AE E) s.heap H locs → lv_has ls 3 [] → W p l e { frames := 0, cells := 0, slots := 0, locals := 0 } s m args below meth c H locs 0 0 (MQ below (QW E a none out) args s 0 0 (AE E)) (F0 m 27 ls []) := by
    intro u103 H locs ls h hR hS hl
    replace h := jx1 hw104 h
    cases h
    exact e_vret C hr hR hS (Nat.le_of_ble_eq_true rfl) (Nat.le_of_ble_eq_true rfl) dX7_clearLatest_27
  have LP : ∀ (fu : Nat) (x101 : Int32) (u102 : HS) (H : Heap) (locs : List Loc) (ls : Array Slot), mX7_clearLatest_L2 x1 w104 fu x101 u102 = some out → Rel E a u102 H → va_S (AE E) s.heap H locs → lv_has ls 3 [(0, .ref (a 7 0)), (1, .int x1), (2, .int x101)] → W p l e { frames := 0, cells := 0, slots := 0, locals := 0 } s m args below meth c H locs 0 0 (MQ below (QW E a none out) args s 0 0 (AE E)) (F0 m 2 ls []) := by
    intro fu
    induction fu with
    | zero =>
      intro x101 u102 H locs ls h
      have h2 : (none : Option HS) = some out := h
      cases h2
    | succ fu ih =>
      intro x101 u102 H locs ls h hR hS hl
      rw [mX7_clearLatest_L2.eq_2] at h
      refine lv_iload_n hx hb dX7_clearLatest_2 rfl (lv_at hl 2 rfl) ?_
      refine lv_iload_n hx hb dX7_clearLatest_3 rfl (lv_at hl 1 rfl) ?_
      refine lv_icmp_gt (tgt := 27) hx hb dX7_clearLatest_4 (by decide) (fun c_105 => ?_) (fun c_105 => ?_)
      · rw [if_pos c_105] at h
        exact Kw104 _ _ _ _ h hR hS (lv_sub hl [] rfl)
      · rw [if_neg c_105] at h
        refine lv_iload_n hx hb dX7_clearLatest_7 rfl (lv_at hl 2 rfl) ?_
        refine lv_sipush (v := 300) hx hb dX7_clearLatest_8 (by decide) ?_
        refine lv_icmp_ge (tgt := 27) hx hb dX7_clearLatest_11 (by decide) (fun c_106 => ?_) (fun c_106 => ?_)
        · rw [if_pos c_106] at h
          exact Kw104 _ _ _ _ h hR hS (lv_sub hl [] rfl)
        · rw [if_neg c_106] at h
          refine lv_aload_n hx hb dX7_clearLatest_14 rfl (lv_at hl 0 rfl) ?_
          refine r_get C hR 7 0 4 (v := .ref (a 47 0)) (lv0 (by decide) (by decide)) (by decide) (by decide) rfl fl_X7_33 dX7_clearLatest_15 ?_
          refine lv_iload_n hx hb dX7_clearLatest_18 rfl (lv_at hl 2 rfl) ?_
          refine lv_iconst (v := (-1)) hx hb dX7_clearLatest_19 (by decide) ?_
          obtain ⟨k107, hk107, h⟩ := ob h
          refine r_ast C hR hS 47 0 (lv0 (by decide) (by decide)) (by decide) rfl (fun _ _ => rfl) rfl hk107 dX7_clearLatest_20 (fun H locs hR hS => ?_)
          obtain ⟨u108, eu108⟩ : ∃ z : HS, z = wI u102 47 0 k107 (-1) := ⟨_, rfl⟩
          rw [← eu108] at hR
          replace h := bd_x eu108 h
          clear eu108
          obtain ⟨x109, ex109⟩ : ∃ z : Int32, z = x101 + 1 := ⟨_, rfl⟩
          replace h := bd_x ex109 h
          refine lv_iinc (v := x109) (lv' := [(2, .int x109), (0, .ref (a 7 0)), (1, .int x1)]) hx hb dX7_clearLatest_21 hl (k := 2) rfl (by rw [ex109]; rfl) (by decide) rfl (fun ls hl => ?_)
          refine lv_goto (tgt := 2) hx hb dX7_clearLatest_24 (by decide) ?_
          exact ih _ _ _ _ _ h hR hS (lv_sub hl [1, 2, 0] rfl)
  exact LP FU _ _ _ _ _ h hR hS (lv_sub hl [1, 2, 0] rfl)
set_option maxHeartbeats 4000000 in
set_option maxRecDepth 100000 in
theorem vX7_follow {l : Launch} {E : EV} {a : Nat → Nat → Nat} {u0 : HS} {x1 : Int32} {out : HS} (h : mX7_follow u0 x1 = some out) : Ct l E yX7_follow cX7_follow 5 none 2 44 0 0 a u0 [.ref (a 7 0), .int x1] none out := by
  refine Ct.start (by decide) (Nat.le_of_ble_eq_true rfl) ?_
  intro p e s m args below meth c ls C hr hR hS hl
  have C : Cx E p s m args meth c cX7_follow 5 RX7 := C
  have hl : lv_has ls 5 [(0, .ref (a 7 0)), (1, .int x1)] := hl
  have hx := C.1
  have hb := C.2.1
  unfold mX7_follow at h
  refine lv_aload_n hx hb dX7_follow_0 rfl (lv_at hl 0 rfl) ?_
  refine lv_iload_n hx hb dX7_follow_1 rfl (lv_at hl 1 rfl) ?_
  obtain ⟨u102, hc101, h⟩ := ob h
  refine r_callV0 (As := [.int x1]) (rest := []) (r := 7) (i := 0) C (vX7_clearLatest hc101) hR hS (lv0 (by decide) (by decide)) (by decide) ml_X7_60 mw_X7_clearLatest rfl ⟨Nat.le_of_ble_eq_true rfl, Nat.le_of_ble_eq_true rfl, Nat.le_of_ble_eq_true rfl, Nat.le_of_ble_eq_true rfl⟩ hl.1 rfl (Nat.le_of_ble_eq_true rfl) dX7_follow_2 (fun H locs hR hS => ?_)
  refine lv_iconst (v := 0) hx hb dX7_follow_5 (by decide) ?_
  refine lv_istore_n (lv' := [(2, .int 0), (0, .ref (a 7 0)), (1, .int x1)]) hx hb dX7_follow_6 rfl hl (by decide) rfl (fun ls hl => ?_)
  refine jp_cut h (fun w106 hw106 h => ?_)
  have Kw106 : ∀ (u105 : HS) (H : Heap) (locs : List Loc) (ls : Array Slot), w106 u105 = some out → Rel E a u105 H → va_S (AE E) s.heap H locs → lv_has ls 5 [(0, .ref (a 7 0)), (1, .int x1)] → W p l e { frames := 2, cells := 0, slots := 0, locals := 44 } s m args below meth c H locs 0 0 (MQ below (QW E a none out) args s 0 0 (AE E)) (F0 m 84 ls []) := by
    intro u105 H locs ls h hR hS hl
    replace h := jx1 hw106 h
    refine lv_iconst (v := (-1)) hx hb dX7_follow_84 (by decide) ?_
    refine lv_istore_n (lv' := [(2, .int (-1)), (0, .ref (a 7 0)), (1, .int x1)]) hx hb dX7_follow_85 rfl hl (by decide) rfl (fun ls hl => ?_)
    refine lv_iconst (v := 0) hx hb dX7_follow_86 (by decide) ?_
    refine lv_istore_n (lv' := [(3, .int 0), (2, .int (-1)), (0, .ref (a 7 0)), (1, .int x1)]) hx hb dX7_follow_87 rfl hl (by decide) rfl (fun ls hl => ?_)
    refine jp_cut h (fun w111 hw111 h => ?_)
    have Kw111 : ∀ (u110 : HS) (H : Heap) (locs : List Loc) (ls : Array Slot), w111 u110 = some out → Rel E a u110 H → va_S (AE E) s.heap H locs → lv_has ls 5 [] → W p l e { frames := 2, cells := 0, slots := 0, locals := 44 } s m args below meth c H locs 0 0 (MQ below (QW E a none out) args s 0 0 (AE E)) (F0 m 158 ls []) := by
      intro u110 H locs ls h hR hS hl
      replace h := jx1 hw111 h
      cases h
      exact e_vret C hr hR hS (Nat.le_of_ble_eq_true rfl) (Nat.le_of_ble_eq_true rfl) dX7_follow_158
    have LP : ∀ (fu : Nat) (x107 : Int32) (x108 : Int32) (u109 : HS) (H : Heap) (locs : List Loc) (ls : Array Slot), mX7_follow_L88 x1 w111 fu x107 x108 u109 = some out → Rel E a u109 H → va_S (AE E) s.heap H locs → lv_has ls 5 [(0, .ref (a 7 0)), (1, .int x1), (2, .int x107), (3, .int x108)] → W p l e { frames := 2, cells := 0, slots := 0, locals := 44 } s m args below meth c H locs 0 0 (MQ below (QW E a none out) args s 0 0 (AE E)) (F0 m 88 ls []) := by
      intro fu
      induction fu with
      | zero =>
        intro x107 x108 u109 H locs ls h
        have h2 : (none : Option HS) = some out := h
        cases h2
      | succ fu ih =>
        intro x107 x108 u109 H locs ls h hR hS hl
        rw [mX7_follow_L88.eq_2] at h
        refine lv_iload_n hx hb dX7_follow_88 rfl (lv_at hl 3 rfl) ?_
        refine lv_iload_n hx hb dX7_follow_89 rfl (lv_at hl 1 rfl) ?_
        refine lv_icmp_gt (tgt := 158) hx hb dX7_follow_90 (by decide) (fun c_112 => ?_) (fun c_112 => ?_)
        · rw [if_pos c_112] at h
          exact Kw111 _ _ _ _ h hR hS (lv_sub hl [] rfl)
        · rw [if_neg c_112] at h
          refine lv_iload_n hx hb dX7_follow_93 rfl (lv_at hl 3 rfl) ?_
          refine lv_sipush (v := 300) hx hb dX7_follow_94 (by decide) ?_
          refine lv_icmp_ge (tgt := 158) hx hb dX7_follow_97 (by decide) (fun c_113 => ?_) (fun c_113 => ?_)
          · rw [if_pos c_113] at h
            exact Kw111 _ _ _ _ h hR hS (lv_sub hl [] rfl)
          · rw [if_neg c_113] at h
            refine lv_aload_n hx hb dX7_follow_100 rfl (lv_at hl 0 rfl) ?_
            refine r_get C hR 7 0 4 (v := .ref (a 47 0)) (lv0 (by decide) (by decide)) (by decide) (by decide) rfl fl_X7_33 dX7_follow_101 ?_
            refine lv_iload_n hx hb dX7_follow_104 rfl (lv_at hl 3 rfl) ?_
            obtain ⟨k114, hk114, h⟩ := ob h
            refine r_ald C hR 47 0 (lv0 (by decide) (by decide)) (by decide) rfl (fun _ => rfl) rfl hk114 dX7_follow_105 ?_
            refine lv_iconst (v := (-1)) hx hb dX7_follow_106 (by decide) ?_
            obtain ⟨x115, hz, h⟩ := ob h
            have Kj116 : ∀ (H : Heap) (locs : List Loc) (ls : Array Slot), Rel E a u109 H → va_S (AE E) s.heap H locs → lv_has ls 5 [(0, .ref (a 7 0)), (1, .int x1), (3, .int x108)] → W p l e { frames := 2, cells := 0, slots := 0, locals := 44 } s m args below meth c H locs 0 0 (MQ below (QW E a none out) args s 0 0 (AE E)) (F0 m 120 ls [.int x115]) := by
              intro H locs ls hR hS hl
              clear hz
              refine lv_istore_n (lv' := [(2, .int x115), (0, .ref (a 7 0)), (1, .int x1), (3, .int x108)]) hx hb dX7_follow_120 rfl hl (by decide) rfl (fun ls hl => ?_)
              refine lv_aload_n hx hb dX7_follow_121 rfl (lv_at hl 1 rfl) ?_
              have hd117 := hR.2.2.2.2.1
              refine r_get C hR 7 0 0 (v := .ref (a 3 (gR u109 1))) (lv0 (by decide) (by decide)) (by decide) (by decide) rfl fl_X7_12 dX7_follow_122 ?_
              refine lv_iload_n hx hb dX7_follow_125 rfl (lv_at hl 0 rfl) ?_
              refine lv_iload_n hx hb dX7_follow_126 rfl (lv_at hl 3 rfl) ?_
              obtain ⟨x119, hc118, h⟩ := ob h
              refine r_callV1 (As := [.int x115, .int x108]) (rest := []) (r := 3) (i := (gR u109 1)) C (vX3_placeAt hd117 hc118) hR hS (lv0 hd117 (by decide)) (by decide) ml_X7_76 mw_X3_placeAt rfl ⟨Nat.le_of_ble_eq_true rfl, Nat.le_of_ble_eq_true rfl, Nat.le_of_ble_eq_true rfl, Nat.le_of_ble_eq_true rfl⟩ hl.1 rfl (Nat.le_of_ble_eq_true rfl) dX7_follow_127 (fun H locs hR hS => ?_)
              refine lv_istore (lv' := [(4, .int x119), (2, .int x115), (0, .ref (a 7 0)), (1, .int x1), (3, .int x108)]) hx hb dX7_follow_130 hl (by decide) rfl (fun ls hl => ?_)
              refine lv_aload_n hx hb dX7_follow_132 rfl (lv_at hl 2 rfl) ?_
              refine r_get C hR 7 0 3 (v := .ref (a 46 0)) (lv0 (by decide) (by decide)) (by decide) (by decide) rfl fl_X7_29 dX7_follow_133 ?_
              refine lv_iload_n hx hb dX7_follow_136 rfl (lv_at hl 4 rfl) ?_
              refine lv_iload hx hb dX7_follow_137 (lv_at hl 0 rfl) ?_
              refine lv_iconst (v := (-1)) hx hb dX7_follow_139 (by decide) ?_
              obtain ⟨x120, hz, h⟩ := ob h
              have Kj121 : ∀ (H : Heap) (locs : List Loc) (ls : Array Slot), Rel E a u109 H → va_S (AE E) s.heap H locs → lv_has ls 5 [(0, .ref (a 7 0)), (1, .int x1), (2, .int x115), (3, .int x108)] → W p l e { frames := 2, cells := 0, slots := 0, locals := 44 } s m args below meth c H locs 0 0 (MQ below (QW E a none out) args s 0 0 (AE E)) (F0 m 151 ls [.int x120, .int x108, .ref (a 46 0)]) := by
                intro H locs ls hR hS hl
                clear hz
                obtain ⟨k122, hk122, h⟩ := ob h
                refine r_ast C hR hS 46 0 (lv0 (by decide) (by decide)) (by decide) rfl (fun _ _ => rfl) rfl hk122 dX7_follow_151 (fun H locs hR hS => ?_)
                obtain ⟨u123, eu123⟩ : ∃ z : HS, z = wI u109 46 0 k122 x120 := ⟨_, rfl⟩
                rw [← eu123] at hR
                replace h := bd_x eu123 h
                clear eu123
                obtain ⟨x124, ex124⟩ : ∃ z : Int32, z = x108 + 1 := ⟨_, rfl⟩
                replace h := bd_x ex124 h
                refine lv_iinc (v := x124) (lv' := [(3, .int x124), (0, .ref (a 7 0)), (1, .int x1), (2, .int x115)]) hx hb dX7_follow_152 hl (k := 3) rfl (by rw [ex124]; rfl) (by decide) rfl (fun ls hl => ?_)
                refine lv_goto (tgt := 88) hx hb dX7_follow_155 (by decide) ?_
                exact ih _ _ _ _ _ _ h hR hS (lv_sub hl [1, 2, 3, 0] rfl)
              clear h
              have h := hz
              clear hz
              refine lv_icmp_ne (tgt := 149) hx hb dX7_follow_140 (by decide) (fun c_125 => ?_) (fun c_125 => ?_)
              · rw [if_neg c_125] at h
                refine lv_iload hx hb dX7_follow_149 (lv_at hl 0 rfl) ?_
                cases h
                exact Kj121 _ _ _ hR hS (lv_sub hl [2, 3, 1, 4] rfl)
              · rw [if_pos c_125] at h
                refine lv_sipush (v := 2015) hx hb dX7_follow_143 (by decide) ?_
                refine lv_goto (tgt := 151) hx hb dX7_follow_146 (by decide) ?_
                cases h
                exact Kj121 _ _ _ hR hS (lv_sub hl [2, 3, 1, 4] rfl)
            clear h
            have h := hz
            clear hz
            refine lv_icmp_ne (tgt := 114) hx hb dX7_follow_107 (by decide) (fun c_126 => ?_) (fun c_126 => ?_)
            · rw [if_neg c_126] at h
              refine lv_aload_n hx hb dX7_follow_114 rfl (lv_at hl 0 rfl) ?_
              refine r_get C hR 7 0 4 (v := .ref (a 47 0)) (lv0 (by decide) (by decide)) (by decide) (by decide) rfl fl_X7_33 dX7_follow_115 ?_
              refine lv_iload_n hx hb dX7_follow_118 rfl (lv_at hl 3 rfl) ?_
              obtain ⟨k127, hk127, h⟩ := ob h
              refine r_ald C hR 47 0 (lv0 (by decide) (by decide)) (by decide) rfl (fun _ => rfl) rfl hk127 dX7_follow_119 ?_
              cases h
              exact Kj116 _ _ _ hR hS (lv_sub hl [0, 1, 3] rfl)
            · rw [if_pos c_126] at h
              refine lv_iload_n hx hb dX7_follow_110 rfl (lv_at hl 2 rfl) ?_
              refine lv_goto (tgt := 120) hx hb dX7_follow_111 (by decide) ?_
              cases h
              exact Kj116 _ _ _ hR hS (lv_sub hl [0, 1, 3] rfl)
    exact LP FU _ _ _ _ _ _ h hR hS (lv_sub hl [2, 3, 1, 0] rfl)
  have LP : ∀ (fu : Nat) (x103 : Int32) (u104 : HS) (H : Heap) (locs : List Loc) (ls : Array Slot), mX7_follow_L7  w106 fu x103 u104 = some out → Rel E a u104 H → va_S (AE E) s.heap H locs → lv_has ls 5 [(0, .ref (a 7 0)), (1, .int x1), (2, .int x103)] → W p l e { frames := 2, cells := 0, slots := 0, locals := 44 } s m args below meth c H locs 0 0 (MQ below (QW E a none out) args s 0 0 (AE E)) (F0 m 7 ls []) := by
    intro fu
    induction fu with
    | zero =>
      intro x103 u104 H locs ls h
      have h2 : (none : Option HS) = some out := h
      cases h2
    | succ fu ih =>
      intro x103 u104 H locs ls h hR hS hl
      rw [mX7_follow_L7.eq_2] at h
      refine lv_iload_n hx hb dX7_follow_7 rfl (lv_at hl 2 rfl) ?_
      refine lv_aload_n hx hb dX7_follow_8 rfl (lv_at hl 0 rfl) ?_
      have hd128 := hR.2.2.2.2.1
      refine r_get C hR 7 0 0 (v := .ref (a 3 (gR u104 1))) (lv0 (by decide) (by decide)) (by decide) (by decide) rfl fl_X7_12 dX7_follow_9 ?_
      refine r_get C hR 3 (gR u104 1) 5 (v := .int (gI u104 3 (gR u104 1) 5)) (lv0 hd128 (by decide)) (by decide) (by decide) rfl fl_X7_63 dX7_follow_12 ?_
      refine lv_icmp_ge (tgt := 84) hx hb dX7_follow_15 (by decide) (fun c_129 => ?_) (fun c_129 => ?_)
      · rw [if_pos c_129] at h
        exact Kw106 _ _ _ _ h hR hS (lv_sub hl [0, 1] rfl)
      · rw [if_neg c_129] at h
        refine lv_aload_n hx hb dX7_follow_18 rfl (lv_at hl 0 rfl) ?_
        have hd130 := hR.2.2.2.2.2
        refine r_get C hR 7 0 1 (v := .ref (a 6 (gR u104 2))) (lv0 (by decide) (by decide)) (by decide) (by decide) rfl fl_X7_21 dX7_follow_19 ?_
        refine r_get C hR 6 (gR u104 2) 2 (v := .int (gI u104 6 (gR u104 2) 2)) (lv0 hd130 (by decide)) (by decide) (by decide) rfl fl_X7_66 dX7_follow_22 ?_
        refine lv_iconst (v := (-1)) hx hb dX7_follow_25 (by decide) ?_
        refine lv_icmp_eq (tgt := 84) hx hb dX7_follow_26 (by decide) (fun c_131 => ?_) (fun c_131 => ?_)
        · rw [if_pos c_131] at h
          exact Kw106 _ _ _ _ h hR hS (lv_sub hl [0, 1] rfl)
        · rw [if_neg c_131] at h
          refine lv_iload_n hx hb dX7_follow_29 rfl (lv_at hl 2 rfl) ?_
          refine lv_iconst (v := 3) hx hb dX7_follow_30 (by decide) ?_
          refine lv_imul hx hb dX7_follow_31 ?_
          refine lv_topi (fun x132 ex132 => ?_)
          replace h := bd_x ex132 h
          refine lv_istore_n (lv' := [(3, .int x132), (0, .ref (a 7 0)), (1, .int x1), (2, .int x103)]) hx hb dX7_follow_32 rfl hl (by decide) rfl (fun ls hl => ?_)
          refine lv_aload_n hx hb dX7_follow_33 rfl (lv_at hl 1 rfl) ?_
          have hd133 := hR.2.2.2.2.1
          refine r_get C hR 7 0 0 (v := .ref (a 3 (gR u104 1))) (lv0 (by decide) (by decide)) (by decide) (by decide) rfl fl_X7_12 dX7_follow_34 ?_
          refine lv_iload_n hx hb dX7_follow_37 rfl (lv_at hl 0 rfl) ?_
          refine lv_aload_n hx hb dX7_follow_38 rfl (lv_at hl 1 rfl) ?_
          have hd134 := hR.2.2.2.2.2
          refine r_get C hR 7 0 1 (v := .ref (a 6 (gR u104 2))) (lv0 (by decide) (by decide)) (by decide) (by decide) rfl fl_X7_21 dX7_follow_39 ?_
          refine r_get C hR 6 (gR u104 2) 2 (v := .int (gI u104 6 (gR u104 2) 2)) (lv0 hd134 (by decide)) (by decide) (by decide) rfl fl_X7_66 dX7_follow_42 ?_
          obtain ⟨x136, hc135, h⟩ := ob h
          refine r_callV1 (As := [.int x132, .int (gI u104 6 (gR u104 2) 2)]) (rest := []) (r := 3) (i := (gR u104 1)) C (vX3_isThrownFrom hd133 hc135) hR hS (lv0 hd133 (by decide)) (by decide) ml_X7_69 mw_X3_isThrownFrom rfl ⟨Nat.le_of_ble_eq_true rfl, Nat.le_of_ble_eq_true rfl, Nat.le_of_ble_eq_true rfl, Nat.le_of_ble_eq_true rfl⟩ hl.1 rfl (Nat.le_of_ble_eq_true rfl) dX7_follow_45 (fun H locs hR hS => ?_)
          obtain ⟨u137, hz, h⟩ := ob h
          have Kj138 : ∀ (H : Heap) (locs : List Loc) (ls : Array Slot), Rel E a u137 H → va_S (AE E) s.heap H locs → lv_has ls 5 [(0, .ref (a 7 0)), (1, .int x1), (2, .int x103)] → W p l e { frames := 2, cells := 0, slots := 0, locals := 44 } s m args below meth c H locs 0 0 (MQ below (QW E a none out) args s 0 0 (AE E)) (F0 m 78 ls []) := by
            intro H locs ls hR hS hl
            clear hz
            obtain ⟨x139, ex139⟩ : ∃ z : Int32, z = x103 + 1 := ⟨_, rfl⟩
            replace h := bd_x ex139 h
            refine lv_iinc (v := x139) (lv' := [(2, .int x139), (0, .ref (a 7 0)), (1, .int x1)]) hx hb dX7_follow_78 hl (k := 2) rfl (by rw [ex139]; rfl) (by decide) rfl (fun ls hl => ?_)
            refine lv_goto (tgt := 7) hx hb dX7_follow_81 (by decide) ?_
            exact ih _ _ _ _ _ h hR hS (lv_sub hl [1, 2, 0] rfl)
          clear h
          have h := hz
          clear hz
          refine lv_if_eq (tgt := 78) hx hb dX7_follow_48 (by decide) (fun c_140 => ?_) (fun c_140 => ?_)
          · rw [if_pos c_140] at h
            cases h
            exact Kj138 _ _ _ hR hS (lv_sub hl [1, 2, 3] rfl)
          · rw [if_neg c_140] at h
            refine lv_aload_n hx hb dX7_follow_51 rfl (lv_at hl 1 rfl) ?_
            refine r_get C hR 7 0 4 (v := .ref (a 47 0)) (lv0 (by decide) (by decide)) (by decide) (by decide) rfl fl_X7_33 dX7_follow_52 ?_
            refine lv_aload_n hx hb dX7_follow_55 rfl (lv_at hl 1 rfl) ?_
            have hd141 := hR.2.2.2.2.1
            refine r_get C hR 7 0 0 (v := .ref (a 3 (gR u104 1))) (lv0 (by decide) (by decide)) (by decide) (by decide) rfl fl_X7_12 dX7_follow_56 ?_
            refine r_get C hR 3 (gR u104 1) 6 (v := .ref (a 40 (gR u104 1))) (lv0 hd141 (by decide)) (by decide) (by decide) rfl fl_X7_73 dX7_follow_59 ?_
            refine lv_iload_n hx hb dX7_follow_62 rfl (lv_at hl 0 rfl) ?_
            refine lv_iconst (v := 2) hx hb dX7_follow_63 (by decide) ?_
            refine lv_iadd hx hb dX7_follow_64 ?_
            obtain ⟨k142, hk142, h⟩ := ob h
            refine r_ald C hR 40 (gR u104 1) (lv0 hd141 (by decide)) (by decide) rfl (fun _ => rfl) rfl hk142 dX7_follow_65 ?_
            refine lv_aload_n hx hb dX7_follow_66 rfl (lv_at hl 1 rfl) ?_
            have hd143 := hR.2.2.2.2.1
            refine r_get C hR 7 0 0 (v := .ref (a 3 (gR u104 1))) (lv0 (by decide) (by decide)) (by decide) (by decide) rfl fl_X7_12 dX7_follow_67 ?_
            refine r_get C hR 3 (gR u104 1) 6 (v := .ref (a 40 (gR u104 1))) (lv0 hd143 (by decide)) (by decide) (by decide) rfl fl_X7_73 dX7_follow_70 ?_
            refine lv_iload_n hx hb dX7_follow_73 rfl (lv_at hl 0 rfl) ?_
            refine lv_iconst (v := 1) hx hb dX7_follow_74 (by decide) ?_
            refine lv_iadd hx hb dX7_follow_75 ?_
            obtain ⟨k144, hk144, h⟩ := ob h
            refine r_ald C hR 40 (gR u104 1) (lv0 hd143 (by decide)) (by decide) rfl (fun _ => rfl) rfl hk144 dX7_follow_76 ?_
            obtain ⟨k145, hk145, h⟩ := ob h
            refine r_ast C hR hS 47 0 (lv0 (by decide) (by decide)) (by decide) rfl (fun _ _ => rfl) rfl hk145 dX7_follow_77 (fun H locs hR hS => ?_)
            obtain ⟨u146, eu146⟩ : ∃ z : HS, z = wI u104 47 0 k145 (gI u104 40 (gR u104 1) k144) := ⟨_, rfl⟩
            rw [← eu146] at hR
            replace h := bd_x eu146 h
            clear eu146
            cases h
            exact Kj138 _ _ _ hR hS (lv_sub hl [1, 2, 3] rfl)
  exact LP FU _ _ _ _ _ h hR hS (lv_sub hl [1, 2, 0] rfl)
set_option maxHeartbeats 4000000 in
set_option maxRecDepth 100000 in
theorem vX7_open {l : Launch} {E : EV} {a : Nat → Nat → Nat} {u0 : HS} {i1 : Nat} {i2 : Nat} {x3 : Int32} {x4 : Int32} {out : HS} (hi1 : i1 < cntS 3) (hi2 : i2 < cntS 6) (h : mX7_open u0 i1 i2 x3 x4 = some out) : Ct l E yX7_open cX7_open 5 none 3 68 0 0 a u0 [.ref (a 7 0), .ref (a 3 i1), .ref (a 6 i2), .int x3, .int x4] none out := by
  refine Ct.start (by decide) (Nat.le_of_ble_eq_true rfl) ?_
  intro p e s m args below meth c ls C hr hR hS hl
  have C : Cx E p s m args meth c cX7_open 5 RX7 := C
  have hl : lv_has ls 5 [(0, .ref (a 7 0)), (1, .ref (a 3 i1)), (2, .ref (a 6 i2)), (3, .int x3), (4, .int x4)] := hl
  have hx := C.1
  have hb := C.2.1
  unfold mX7_open at h
  refine lv_aload_n hx hb dX7_open_0 rfl (lv_at hl 0 rfl) ?_
  refine lv_aload_n hx hb dX7_open_1 rfl (lv_at hl 1 rfl) ?_
  refine r_putD1 C hR hS hi1 fl_X7_12 dX7_open_2 (fun H locs hR hS => ?_)
  obtain ⟨u101, eu101⟩ : ∃ z : HS, z = wR u0 1 i1 := ⟨_, rfl⟩
  rw [← eu101] at hR
  replace h := bd_x eu101 h
  clear eu101
  refine lv_aload_n hx hb dX7_open_5 rfl (lv_at hl 0 rfl) ?_
  refine lv_aload_n hx hb dX7_open_6 rfl (lv_at hl 2 rfl) ?_
  refine r_putD2 C hR hS hi2 fl_X7_21 dX7_open_7 (fun H locs hR hS => ?_)
  obtain ⟨u102, eu102⟩ : ∃ z : HS, z = wR u101 2 i2 := ⟨_, rfl⟩
  rw [← eu102] at hR
  replace h := bd_x eu102 h
  clear eu102
  refine lv_aload_n hx hb dX7_open_10 rfl (lv_at hl 0 rfl) ?_
  refine lv_iload_n hx hb dX7_open_11 rfl (lv_at hl 3 rfl) ?_
  obtain ⟨_, hz103, h⟩ := ob h
  refine r_putI (ty := .boolean) C hR hS 7 0 2 (lv0 (by decide) (by decide)) (by decide) (by decide) (fun _ => rfl) fl_X7_25 (by decide) (by decide +kernel) (zb_narrow hz103) (zb_fits hz103) dX7_open_12 (fun H locs hR hS => ?_)
  obtain ⟨u104, eu104⟩ : ∃ z : HS, z = wI u102 7 0 2 x3 := ⟨_, rfl⟩
  rw [← eu104] at hR
  replace h := bd_x eu104 h
  clear eu104
  refine lv_aload_n hx hb dX7_open_15 rfl (lv_at hl 0 rfl) ?_
  refine lv_iconst (v := (-1)) hx hb dX7_open_16 (by decide) ?_
  refine lv_iconst (v := 0) hx hb dX7_open_17 (by decide) ?_
  obtain ⟨u106, hc105, h⟩ := ob h
  refine r_callV0 (As := [.int (-1), .int 0]) (rest := []) (r := 7) (i := 0) C (vX7_bend hc105) hR hS (lv0 (by decide) (by decide)) (by decide) ml_X7_52 mw_X7_bend rfl ⟨Nat.le_of_ble_eq_true rfl, Nat.le_of_ble_eq_true rfl, Nat.le_of_ble_eq_true rfl, Nat.le_of_ble_eq_true rfl⟩ hl.1 rfl (Nat.le_of_ble_eq_true rfl) dX7_open_18 (fun H locs hR hS => ?_)
  refine lv_aload_n hx hb dX7_open_21 rfl (lv_at hl 0 rfl) ?_
  refine lv_iload hx hb dX7_open_22 (lv_at hl 4 rfl) ?_
  obtain ⟨u108, hc107, h⟩ := ob h
  refine r_callV0 (As := [.int x4]) (rest := []) (r := 7) (i := 0) C (vX7_follow hc107) hR hS (lv0 (by decide) (by decide)) (by decide) ml_X7_56 mw_X7_follow rfl ⟨Nat.le_of_ble_eq_true rfl, Nat.le_of_ble_eq_true rfl, Nat.le_of_ble_eq_true rfl, Nat.le_of_ble_eq_true rfl⟩ hl.1 rfl (Nat.le_of_ble_eq_true rfl) dX7_open_24 (fun H locs hR hS => ?_)
  cases h
  exact e_vret C hr hR hS (Nat.le_of_ble_eq_true rfl) (Nat.le_of_ble_eq_true rfl) dX7_open_27
set_option maxHeartbeats 4000000 in
set_option maxRecDepth 100000 in
theorem vX7_shut {l : Launch} {E : EV} {a : Nat → Nat → Nat} {u0 : HS} {x1 : Int32} {x2 : Int32} {out : HS} (h : mX7_shut u0 x1 x2 = some out) : Ct l E yX7_shut cX7_shut 4 none 0 0 0 0 a u0 [.ref (a 7 0), .int x1, .int x2] none out := by
  refine Ct.start (by decide) (Nat.le_of_ble_eq_true rfl) ?_
  intro p e s m args below meth c ls C hr hR hS hl
  have C : Cx E p s m args meth c cX7_shut 4 RX7 := C
  have hl : lv_has ls 4 [(0, .ref (a 7 0)), (1, .int x1), (2, .int x2)] := hl
  have hx := C.1
  have hb := C.2.1
  unfold mX7_shut at h
  refine lv_iload_n hx hb dX7_shut_0 rfl (lv_at hl 1 rfl) ?_
  refine lv_istore_n (lv' := [(3, .int x1), (0, .ref (a 7 0)), (1, .int x1), (2, .int x2)]) hx hb dX7_shut_1 rfl hl (by decide) rfl (fun ls hl => ?_)
  refine jp_cut h (fun w104 hw104 h => ?_)
  have Kw104 : ∀ (u103 : HS) (H : Heap) (locs : List Loc) (ls : Array Slot), w104 u103 = some out → Rel E a u103 H → va_S (AE E) s.heap H locs → lv_has ls 4 [] → W p l e { frames := 0, cells := 0, slots := 0, locals := 0 } s m args below meth c H locs 0 0 (MQ below (QW E a none out) args s 0 0 (AE E)) (F0 m 27 ls []) := by
    intro u103 H locs ls h hR hS hl
    replace h := jx1 hw104 h
    cases h
    exact e_vret C hr hR hS (Nat.le_of_ble_eq_true rfl) (Nat.le_of_ble_eq_true rfl) dX7_shut_27
  have LP : ∀ (fu : Nat) (x101 : Int32) (u102 : HS) (H : Heap) (locs : List Loc) (ls : Array Slot), mX7_shut_L2 x2 w104 fu x101 u102 = some out → Rel E a u102 H → va_S (AE E) s.heap H locs → lv_has ls 4 [(0, .ref (a 7 0)), (2, .int x2), (3, .int x101)] → W p l e { frames := 0, cells := 0, slots := 0, locals := 0 } s m args below meth c H locs 0 0 (MQ below (QW E a none out) args s 0 0 (AE E)) (F0 m 2 ls []) := by
    intro fu
    induction fu with
    | zero =>
      intro x101 u102 H locs ls h
      have h2 : (none : Option HS) = some out := h
      cases h2
    | succ fu ih =>
      intro x101 u102 H locs ls h hR hS hl
      rw [mX7_shut_L2.eq_2] at h
      refine lv_iload_n hx hb dX7_shut_2 rfl (lv_at hl 2 rfl) ?_
      refine lv_iload_n hx hb dX7_shut_3 rfl (lv_at hl 1 rfl) ?_
      refine lv_icmp_gt (tgt := 27) hx hb dX7_shut_4 (by decide) (fun c_105 => ?_) (fun c_105 => ?_)
      · rw [if_pos c_105] at h
        exact Kw104 _ _ _ _ h hR hS (lv_sub hl [] rfl)
      · rw [if_neg c_105] at h
        refine lv_iload_n hx hb dX7_shut_7 rfl (lv_at hl 2 rfl) ?_
        refine lv_sipush (v := 300) hx hb dX7_shut_8 (by decide) ?_
        refine lv_icmp_ge (tgt := 27) hx hb dX7_shut_11 (by decide) (fun c_106 => ?_) (fun c_106 => ?_)
        · rw [if_pos c_106] at h
          exact Kw104 _ _ _ _ h hR hS (lv_sub hl [] rfl)
        · rw [if_neg c_106] at h
          refine lv_aload_n hx hb dX7_shut_14 rfl (lv_at hl 0 rfl) ?_
          refine r_get C hR 7 0 3 (v := .ref (a 46 0)) (lv0 (by decide) (by decide)) (by decide) (by decide) rfl fl_X7_29 dX7_shut_15 ?_
          refine lv_iload_n hx hb dX7_shut_18 rfl (lv_at hl 2 rfl) ?_
          refine lv_iconst (v := (-1)) hx hb dX7_shut_19 (by decide) ?_
          obtain ⟨k107, hk107, h⟩ := ob h
          refine r_ast C hR hS 46 0 (lv0 (by decide) (by decide)) (by decide) rfl (fun _ _ => rfl) rfl hk107 dX7_shut_20 (fun H locs hR hS => ?_)
          obtain ⟨u108, eu108⟩ : ∃ z : HS, z = wI u102 46 0 k107 (-1) := ⟨_, rfl⟩
          rw [← eu108] at hR
          replace h := bd_x eu108 h
          clear eu108
          obtain ⟨x109, ex109⟩ : ∃ z : Int32, z = x101 + 1 := ⟨_, rfl⟩
          replace h := bd_x ex109 h
          refine lv_iinc (v := x109) (lv' := [(3, .int x109), (0, .ref (a 7 0)), (2, .int x2)]) hx hb dX7_shut_21 hl (k := 2) rfl (by rw [ex109]; rfl) (by decide) rfl (fun ls hl => ?_)
          refine lv_goto (tgt := 2) hx hb dX7_shut_24 (by decide) ?_
          exact ih _ _ _ _ _ h hR hS (lv_sub hl [1, 2, 0] rfl)
  exact LP FU _ _ _ _ _ h hR hS (lv_sub hl [1, 3, 0] rfl)
set_option maxHeartbeats 4000000 in
set_option maxRecDepth 100000 in
theorem vX7_heed {l : Launch} {E : EV} {a : Nat → Nat → Nat} {u0 : HS} {i1 : Nat} {x2 : Int32} {x3 : Int32} {out : HS} (hi1 : i1 < cntS 0) (h : mX7_heed u0 i1 x2 x3 = some out) : Ct l E yX7_heed cX7_heed 6 none 1 23 0 0 a u0 [.ref (a 7 0), .ref (a 0 i1), .int x2, .int x3] none out := by
  refine Ct.start (by decide) (Nat.le_of_ble_eq_true rfl) ?_
  intro p e s m args below meth c ls C hr hR hS hl
  have C : Cx E p s m args meth c cX7_heed 6 RX7 := C
  have hl : lv_has ls 6 [(0, .ref (a 7 0)), (1, .ref (a 0 i1)), (2, .int x2), (3, .int x3)] := hl
  have hx := C.1
  have hb := C.2.1
  unfold mX7_heed at h
  refine lv_aload_n hx hb dX7_heed_0 rfl (lv_at hl 0 rfl) ?_
  refine lv_iload_n hx hb dX7_heed_1 rfl (lv_at hl 3 rfl) ?_
  obtain ⟨u102, hc101, h⟩ := ob h
  refine r_callV0 (As := [.int x3]) (rest := []) (r := 7) (i := 0) C (vX7_clearLatest hc101) hR hS (lv0 (by decide) (by decide)) (by decide) ml_X7_60 mw_X7_clearLatest rfl ⟨Nat.le_of_ble_eq_true rfl, Nat.le_of_ble_eq_true rfl, Nat.le_of_ble_eq_true rfl, Nat.le_of_ble_eq_true rfl⟩ hl.1 rfl (Nat.le_of_ble_eq_true rfl) dX7_heed_2 (fun H locs hR hS => ?_)
  refine lv_iconst (v := 0) hx hb dX7_heed_5 (by decide) ?_
  refine lv_istore (lv' := [(4, .int 0), (0, .ref (a 7 0)), (1, .ref (a 0 i1)), (2, .int x2), (3, .int x3)]) hx hb dX7_heed_6 hl (by decide) rfl (fun ls hl => ?_)
  refine jp_cut h (fun w106 hw106 h => ?_)
  have Kw106 : ∀ (u105 : HS) (H : Heap) (locs : List Loc) (ls : Array Slot), w106 u105 = some out → Rel E a u105 H → va_S (AE E) s.heap H locs → lv_has ls 6 [(0, .ref (a 7 0)), (1, .ref (a 0 i1)), (2, .int x2), (3, .int x3)] → W p l e { frames := 1, cells := 0, slots := 0, locals := 23 } s m args below meth c H locs 0 0 (MQ below (QW E a none out) args s 0 0 (AE E)) (F0 m 53 ls []) := by
    intro u105 H locs ls h hR hS hl
    replace h := jx1 hw106 h
    refine lv_iconst (v := (-1)) hx hb dX7_heed_53 (by decide) ?_
    refine lv_istore (lv' := [(4, .int (-1)), (0, .ref (a 7 0)), (1, .ref (a 0 i1)), (2, .int x2), (3, .int x3)]) hx hb dX7_heed_54 hl (by decide) rfl (fun ls hl => ?_)
    refine lv_iconst (v := 0) hx hb dX7_heed_56 (by decide) ?_
    refine lv_istore (lv' := [(5, .int 0), (4, .int (-1)), (0, .ref (a 7 0)), (1, .ref (a 0 i1)), (2, .int x2), (3, .int x3)]) hx hb dX7_heed_57 hl (by decide) rfl (fun ls hl => ?_)
    refine jp_cut h (fun w111 hw111 h => ?_)
    have Kw111 : ∀ (u110 : HS) (H : Heap) (locs : List Loc) (ls : Array Slot), w111 u110 = some out → Rel E a u110 H → va_S (AE E) s.heap H locs → lv_has ls 6 [(0, .ref (a 7 0)), (1, .ref (a 0 i1)), (2, .int x2), (3, .int x3)] → W p l e { frames := 1, cells := 0, slots := 0, locals := 23 } s m args below meth c H locs 0 0 (MQ below (QW E a none out) args s 0 0 (AE E)) (F0 m 129 ls []) := by
      intro u110 H locs ls h hR hS hl
      replace h := jx1 hw111 h
      refine lv_iconst (v := 0) hx hb dX7_heed_129 (by decide) ?_
      refine lv_istore (lv' := [(5, .int 0), (0, .ref (a 7 0)), (1, .ref (a 0 i1)), (2, .int x2), (3, .int x3)]) hx hb dX7_heed_130 hl (by decide) rfl (fun ls hl => ?_)
      refine jp_cut h (fun w115 hw115 h => ?_)
      have Kw115 : ∀ (u114 : HS) (H : Heap) (locs : List Loc) (ls : Array Slot), w115 u114 = some out → Rel E a u114 H → va_S (AE E) s.heap H locs → lv_has ls 6 [] → W p l e { frames := 1, cells := 0, slots := 0, locals := 23 } s m args below meth c H locs 0 0 (MQ below (QW E a none out) args s 0 0 (AE E)) (F0 m 180 ls []) := by
        intro u114 H locs ls h hR hS hl
        replace h := jx1 hw115 h
        cases h
        exact e_vret C hr hR hS (Nat.le_of_ble_eq_true rfl) (Nat.le_of_ble_eq_true rfl) dX7_heed_180
      have LP : ∀ (fu : Nat) (x112 : Int32) (u113 : HS) (H : Heap) (locs : List Loc) (ls : Array Slot), mX7_heed_L132 i1 x2 x3 w115 fu x112 u113 = some out → Rel E a u113 H → va_S (AE E) s.heap H locs → lv_has ls 6 [(0, .ref (a 7 0)), (1, .ref (a 0 i1)), (2, .int x2), (3, .int x3), (5, .int x112)] → W p l e { frames := 1, cells := 0, slots := 0, locals := 23 } s m args below meth c H locs 0 0 (MQ below (QW E a none out) args s 0 0 (AE E)) (F0 m 132 ls []) := by
        intro fu
        induction fu with
        | zero =>
          intro x112 u113 H locs ls h
          have h2 : (none : Option HS) = some out := h
          cases h2
        | succ fu ih =>
          intro x112 u113 H locs ls h hR hS hl
          rw [mX7_heed_L132.eq_2] at h
          refine lv_iload hx hb dX7_heed_132 (lv_at hl 4 rfl) ?_
          refine lv_aload_n hx hb dX7_heed_134 rfl (lv_at hl 1 rfl) ?_
          refine r_get C hR 0 i1 11 (v := .int (gI u113 0 i1 11)) (lv0 hi1 (by decide)) (by decide) (by decide) rfl fl_X7_94 dX7_heed_135 ?_
          refine lv_icmp_ge (tgt := 180) hx hb dX7_heed_138 (by decide) (fun c_116 => ?_) (fun c_116 => ?_)
          · rw [if_pos c_116] at h
            exact Kw115 _ _ _ _ h hR hS (lv_sub hl [] rfl)
          · rw [if_neg c_116] at h
            refine lv_aload_n hx hb dX7_heed_141 rfl (lv_at hl 1 rfl) ?_
            refine r_get C hR 0 i1 12 (v := .ref (a 28 i1)) (lv0 hi1 (by decide)) (by decide) (by decide) rfl fl_X7_97 dX7_heed_142 ?_
            refine lv_iload hx hb dX7_heed_145 (lv_at hl 4 rfl) ?_
            obtain ⟨k117, hk117, h⟩ := ob h
            refine r_ald C hR 28 i1 (lv0 hi1 (by decide)) (by decide) rfl (fun _ => rfl) rfl hk117 dX7_heed_147 ?_
            refine lv_iload_n hx hb dX7_heed_148 rfl (lv_at hl 2 rfl) ?_
            obtain ⟨u118, hz, h⟩ := ob h
            have Kj119 : ∀ (H : Heap) (locs : List Loc) (ls : Array Slot), Rel E a u118 H → va_S (AE E) s.heap H locs → lv_has ls 6 [(0, .ref (a 7 0)), (1, .ref (a 0 i1)), (2, .int x2), (3, .int x3), (5, .int x112)] → W p l e { frames := 1, cells := 0, slots := 0, locals := 23 } s m args below meth c H locs 0 0 (MQ below (QW E a none out) args s 0 0 (AE E)) (F0 m 174 ls []) := by
              intro H locs ls hR hS hl
              clear hz
              obtain ⟨x120, ex120⟩ : ∃ z : Int32, z = x112 + 1 := ⟨_, rfl⟩
              replace h := bd_x ex120 h
              refine lv_iinc (v := x120) (lv' := [(5, .int x120), (0, .ref (a 7 0)), (1, .ref (a 0 i1)), (2, .int x2), (3, .int x3)]) hx hb dX7_heed_174 hl (k := 4) rfl (by rw [ex120]; rfl) (by decide) rfl (fun ls hl => ?_)
              refine lv_goto (tgt := 132) hx hb dX7_heed_177 (by decide) ?_
              exact ih _ _ _ _ _ h hR hS (lv_sub hl [1, 2, 3, 4, 0] rfl)
            clear h
            have h := hz
            clear hz
            refine lv_icmp_ne (tgt := 174) hx hb dX7_heed_149 (by decide) (fun c_121 => ?_) (fun c_121 => ?_)
            · rw [if_neg c_121] at h
              cases h
              exact Kj119 _ _ _ hR hS (lv_sub hl [0, 1, 2, 3, 4] rfl)
            · rw [if_pos c_121] at h
              refine lv_aload_n hx hb dX7_heed_152 rfl (lv_at hl 0 rfl) ?_
              refine lv_aload_n hx hb dX7_heed_153 rfl (lv_at hl 1 rfl) ?_
              refine r_get C hR 0 i1 13 (v := .ref (a 29 i1)) (lv0 hi1 (by decide)) (by decide) (by decide) rfl fl_X7_100 dX7_heed_154 ?_
              refine lv_iload hx hb dX7_heed_157 (lv_at hl 4 rfl) ?_
              obtain ⟨k122, hk122, h⟩ := ob h
              refine r_ald C hR 29 i1 (lv0 hi1 (by decide)) (by decide) rfl (fun _ => rfl) rfl hk122 dX7_heed_159 ?_
              refine lv_iload_n hx hb dX7_heed_160 rfl (lv_at hl 3 rfl) ?_
              refine lv_aload_n hx hb dX7_heed_161 rfl (lv_at hl 1 rfl) ?_
              refine r_get C hR 0 i1 14 (v := .ref (a 30 i1)) (lv0 hi1 (by decide)) (by decide) (by decide) rfl fl_X7_103 dX7_heed_162 ?_
              refine lv_iload hx hb dX7_heed_165 (lv_at hl 4 rfl) ?_
              obtain ⟨k123, hk123, h⟩ := ob h
              refine r_ald C hR 30 i1 (lv0 hi1 (by decide)) (by decide) rfl (fun _ => rfl) rfl hk123 dX7_heed_167 ?_
              refine r_min C hl.1 ml_X7_106 (Nat.le_of_ble_eq_true rfl) (Nat.le_of_ble_eq_true rfl) (Nat.le_of_ble_eq_true rfl) (Nat.le_of_ble_eq_true rfl) dX7_heed_168 ?_
              refine lv_topi (fun x124 ex124 => ?_)
              replace h := bd_x ex124 h
              obtain ⟨u126, hc125, h⟩ := ob h
              refine r_callV0 (As := [.int (gI u113 29 i1 k122), .int x124]) (rest := []) (r := 7) (i := 0) C (vX7_shut hc125) hR hS (lv0 (by decide) (by decide)) (by decide) ml_X7_111 mw_X7_shut rfl ⟨Nat.le_of_ble_eq_true rfl, Nat.le_of_ble_eq_true rfl, Nat.le_of_ble_eq_true rfl, Nat.le_of_ble_eq_true rfl⟩ hl.1 rfl (Nat.le_of_ble_eq_true rfl) dX7_heed_171 (fun H locs hR hS => ?_)
              cases h
              exact Kj119 _ _ _ hR hS (lv_sub hl [0, 1, 2, 3, 4] rfl)
      exact LP FU _ _ _ _ _ h hR hS (lv_sub hl [1, 2, 3, 4, 0] rfl)
    have LP : ∀ (fu : Nat) (x107 : Int32) (x108 : Int32) (u109 : HS) (H : Heap) (locs : List Loc) (ls : Array Slot), mX7_heed_L59 x3 w111 fu x107 x108 u109 = some out → Rel E a u109 H → va_S (AE E) s.heap H locs → lv_has ls 6 [(0, .ref (a 7 0)), (1, .ref (a 0 i1)), (2, .int x2), (3, .int x3), (4, .int x107), (5, .int x108)] → W p l e { frames := 1, cells := 0, slots := 0, locals := 23 } s m args below meth c H locs 0 0 (MQ below (QW E a none out) args s 0 0 (AE E)) (F0 m 59 ls []) := by
      intro fu
      induction fu with
      | zero =>
        intro x107 x108 u109 H locs ls h
        have h2 : (none : Option HS) = some out := h
        cases h2
      | succ fu ih =>
        intro x107 x108 u109 H locs ls h hR hS hl
        rw [mX7_heed_L59.eq_2] at h
        refine lv_iload hx hb dX7_heed_59 (lv_at hl 5 rfl) ?_
        refine lv_iload_n hx hb dX7_heed_61 rfl (lv_at hl 3 rfl) ?_
        refine lv_icmp_gt (tgt := 129) hx hb dX7_heed_62 (by decide) (fun c_127 => ?_) (fun c_127 => ?_)
        · rw [if_pos c_127] at h
          exact Kw111 _ _ _ _ h hR hS (lv_sub hl [0, 1, 2, 3] rfl)
        · rw [if_neg c_127] at h
          refine lv_iload hx hb dX7_heed_65 (lv_at hl 5 rfl) ?_
          refine lv_sipush (v := 300) hx hb dX7_heed_67 (by decide) ?_
          refine lv_icmp_ge (tgt := 129) hx hb dX7_heed_70 (by decide) (fun c_128 => ?_) (fun c_128 => ?_)
          · rw [if_pos c_128] at h
            exact Kw111 _ _ _ _ h hR hS (lv_sub hl [0, 1, 2, 3] rfl)
          · rw [if_neg c_128] at h
            refine lv_aload_n hx hb dX7_heed_73 rfl (lv_at hl 0 rfl) ?_
            refine r_get C hR 7 0 4 (v := .ref (a 47 0)) (lv0 (by decide) (by decide)) (by decide) (by decide) rfl fl_X7_33 dX7_heed_74 ?_
            refine lv_iload hx hb dX7_heed_77 (lv_at hl 5 rfl) ?_
            obtain ⟨k129, hk129, h⟩ := ob h
            refine r_ald C hR 47 0 (lv0 (by decide) (by decide)) (by decide) rfl (fun _ => rfl) rfl hk129 dX7_heed_79 ?_
            refine lv_iconst (v := (-1)) hx hb dX7_heed_80 (by decide) ?_
            obtain ⟨x130, hz, h⟩ := ob h
            have Kj131 : ∀ (H : Heap) (locs : List Loc) (ls : Array Slot), Rel E a u109 H → va_S (AE E) s.heap H locs → lv_has ls 6 [(0, .ref (a 7 0)), (1, .ref (a 0 i1)), (2, .int x2), (3, .int x3), (5, .int x108)] → W p l e { frames := 1, cells := 0, slots := 0, locals := 23 } s m args below meth c H locs 0 0 (MQ below (QW E a none out) args s 0 0 (AE E)) (F0 m 96 ls [.int x130]) := by
              intro H locs ls hR hS hl
              clear hz
              refine lv_istore (lv' := [(4, .int x130), (0, .ref (a 7 0)), (1, .ref (a 0 i1)), (2, .int x2), (3, .int x3), (5, .int x108)]) hx hb dX7_heed_96 hl (by decide) rfl (fun ls hl => ?_)
              refine lv_aload_n hx hb dX7_heed_98 rfl (lv_at hl 1 rfl) ?_
              refine r_get C hR 7 0 3 (v := .ref (a 46 0)) (lv0 (by decide) (by decide)) (by decide) (by decide) rfl fl_X7_29 dX7_heed_99 ?_
              refine lv_iload hx hb dX7_heed_102 (lv_at hl 5 rfl) ?_
              refine lv_iload hx hb dX7_heed_104 (lv_at hl 0 rfl) ?_
              refine lv_iconst (v := (-1)) hx hb dX7_heed_106 (by decide) ?_
              obtain ⟨x132, hz, h⟩ := ob h
              have Kj133 : ∀ (H : Heap) (locs : List Loc) (ls : Array Slot), Rel E a u109 H → va_S (AE E) s.heap H locs → lv_has ls 6 [(0, .ref (a 7 0)), (1, .ref (a 0 i1)), (2, .int x2), (3, .int x3), (4, .int x130), (5, .int x108)] → W p l e { frames := 1, cells := 0, slots := 0, locals := 23 } s m args below meth c H locs 0 0 (MQ below (QW E a none out) args s 0 0 (AE E)) (F0 m 122 ls [.int x132, .int x108, .ref (a 46 0)]) := by
                intro H locs ls hR hS hl
                clear hz
                obtain ⟨k134, hk134, h⟩ := ob h
                refine r_ast C hR hS 46 0 (lv0 (by decide) (by decide)) (by decide) rfl (fun _ _ => rfl) rfl hk134 dX7_heed_122 (fun H locs hR hS => ?_)
                obtain ⟨u135, eu135⟩ : ∃ z : HS, z = wI u109 46 0 k134 x132 := ⟨_, rfl⟩
                rw [← eu135] at hR
                replace h := bd_x eu135 h
                clear eu135
                obtain ⟨x136, ex136⟩ : ∃ z : Int32, z = x108 + 1 := ⟨_, rfl⟩
                replace h := bd_x ex136 h
                refine lv_iinc (v := x136) (lv' := [(5, .int x136), (0, .ref (a 7 0)), (1, .ref (a 0 i1)), (2, .int x2), (3, .int x3), (4, .int x130)]) hx hb dX7_heed_123 hl (k := 5) rfl (by rw [ex136]; rfl) (by decide) rfl (fun ls hl => ?_)
                refine lv_goto (tgt := 59) hx hb dX7_heed_126 (by decide) ?_
                exact ih _ _ _ _ _ _ h hR hS (lv_sub hl [1, 2, 3, 4, 5, 0] rfl)
              clear h
              have h := hz
              clear hz
              refine lv_icmp_ne (tgt := 120) hx hb dX7_heed_107 (by decide) (fun c_137 => ?_) (fun c_137 => ?_)
              · rw [if_neg c_137] at h
                refine lv_iload hx hb dX7_heed_120 (lv_at hl 0 rfl) ?_
                cases h
                exact Kj133 _ _ _ hR hS (lv_sub hl [1, 2, 3, 4, 0, 5] rfl)
              · rw [if_pos c_137] at h
                refine lv_aload_n hx hb dX7_heed_110 rfl (lv_at hl 1 rfl) ?_
                refine r_get C hR 7 0 3 (v := .ref (a 46 0)) (lv0 (by decide) (by decide)) (by decide) (by decide) rfl fl_X7_29 dX7_heed_111 ?_
                refine lv_iload hx hb dX7_heed_114 (lv_at hl 5 rfl) ?_
                obtain ⟨k138, hk138, h⟩ := ob h
                refine r_ald C hR 46 0 (lv0 (by decide) (by decide)) (by decide) rfl (fun _ => rfl) rfl hk138 dX7_heed_116 ?_
                refine lv_goto (tgt := 122) hx hb dX7_heed_117 (by decide) ?_
                cases h
                exact Kj133 _ _ _ hR hS (lv_sub hl [1, 2, 3, 4, 0, 5] rfl)
            clear h
            have h := hz
            clear hz
            refine lv_icmp_ne (tgt := 89) hx hb dX7_heed_81 (by decide) (fun c_139 => ?_) (fun c_139 => ?_)
            · rw [if_neg c_139] at h
              refine lv_aload_n hx hb dX7_heed_89 rfl (lv_at hl 0 rfl) ?_
              refine r_get C hR 7 0 4 (v := .ref (a 47 0)) (lv0 (by decide) (by decide)) (by decide) (by decide) rfl fl_X7_33 dX7_heed_90 ?_
              refine lv_iload hx hb dX7_heed_93 (lv_at hl 5 rfl) ?_
              obtain ⟨k140, hk140, h⟩ := ob h
              refine r_ald C hR 47 0 (lv0 (by decide) (by decide)) (by decide) rfl (fun _ => rfl) rfl hk140 dX7_heed_95 ?_
              cases h
              exact Kj131 _ _ _ hR hS (lv_sub hl [0, 1, 2, 3, 5] rfl)
            · rw [if_pos c_139] at h
              refine lv_iload hx hb dX7_heed_84 (lv_at hl 4 rfl) ?_
              refine lv_goto (tgt := 96) hx hb dX7_heed_86 (by decide) ?_
              cases h
              exact Kj131 _ _ _ hR hS (lv_sub hl [0, 1, 2, 3, 5] rfl)
    exact LP FU _ _ _ _ _ _ h hR hS (lv_sub hl [2, 3, 4, 5, 1, 0] rfl)
  have LP : ∀ (fu : Nat) (x103 : Int32) (u104 : HS) (H : Heap) (locs : List Loc) (ls : Array Slot), mX7_heed_L8 i1 x2 w106 fu x103 u104 = some out → Rel E a u104 H → va_S (AE E) s.heap H locs → lv_has ls 6 [(0, .ref (a 7 0)), (1, .ref (a 0 i1)), (2, .int x2), (3, .int x3), (4, .int x103)] → W p l e { frames := 1, cells := 0, slots := 0, locals := 23 } s m args below meth c H locs 0 0 (MQ below (QW E a none out) args s 0 0 (AE E)) (F0 m 8 ls []) := by
    intro fu
    induction fu with
    | zero =>
      intro x103 u104 H locs ls h
      have h2 : (none : Option HS) = some out := h
      cases h2
    | succ fu ih =>
      intro x103 u104 H locs ls h hR hS hl
      rw [mX7_heed_L8.eq_2] at h
      refine lv_iload hx hb dX7_heed_8 (lv_at hl 4 rfl) ?_
      refine lv_aload_n hx hb dX7_heed_10 rfl (lv_at hl 1 rfl) ?_
      refine r_get C hR 0 i1 7 (v := .int (gI u104 0 i1 7)) (lv0 hi1 (by decide)) (by decide) (by decide) rfl fl_X7_80 dX7_heed_11 ?_
      refine lv_icmp_ge (tgt := 53) hx hb dX7_heed_14 (by decide) (fun c_141 => ?_) (fun c_141 => ?_)
      · rw [if_pos c_141] at h
        exact Kw106 _ _ _ _ h hR hS (lv_sub hl [0, 1, 2, 3] rfl)
      · rw [if_neg c_141] at h
        refine lv_aload_n hx hb dX7_heed_17 rfl (lv_at hl 1 rfl) ?_
        refine r_get C hR 0 i1 8 (v := .ref (a 25 i1)) (lv0 hi1 (by decide)) (by decide) (by decide) rfl fl_X7_85 dX7_heed_18 ?_
        refine lv_iload hx hb dX7_heed_21 (lv_at hl 4 rfl) ?_
        obtain ⟨k142, hk142, h⟩ := ob h
        refine r_ald C hR 25 i1 (lv0 hi1 (by decide)) (by decide) rfl (fun _ => rfl) rfl hk142 dX7_heed_23 ?_
        refine lv_iload_n hx hb dX7_heed_24 rfl (lv_at hl 2 rfl) ?_
        obtain ⟨u143, hz, h⟩ := ob h
        have Kj144 : ∀ (H : Heap) (locs : List Loc) (ls : Array Slot), Rel E a u143 H → va_S (AE E) s.heap H locs → lv_has ls 6 [(0, .ref (a 7 0)), (1, .ref (a 0 i1)), (2, .int x2), (3, .int x3), (4, .int x103)] → W p l e { frames := 1, cells := 0, slots := 0, locals := 23 } s m args below meth c H locs 0 0 (MQ below (QW E a none out) args s 0 0 (AE E)) (F0 m 47 ls []) := by
          intro H locs ls hR hS hl
          clear hz
          obtain ⟨x145, ex145⟩ : ∃ z : Int32, z = x103 + 1 := ⟨_, rfl⟩
          replace h := bd_x ex145 h
          refine lv_iinc (v := x145) (lv' := [(4, .int x145), (0, .ref (a 7 0)), (1, .ref (a 0 i1)), (2, .int x2), (3, .int x3)]) hx hb dX7_heed_47 hl (k := 4) rfl (by rw [ex145]; rfl) (by decide) rfl (fun ls hl => ?_)
          refine lv_goto (tgt := 8) hx hb dX7_heed_50 (by decide) ?_
          exact ih _ _ _ _ _ h hR hS (lv_sub hl [1, 2, 3, 4, 0] rfl)
        clear h
        have h := hz
        clear hz
        refine lv_icmp_ne (tgt := 47) hx hb dX7_heed_25 (by decide) (fun c_146 => ?_) (fun c_146 => ?_)
        · rw [if_neg c_146] at h
          cases h
          exact Kj144 _ _ _ hR hS (lv_sub hl [0, 1, 2, 3, 4] rfl)
        · rw [if_pos c_146] at h
          refine lv_aload_n hx hb dX7_heed_28 rfl (lv_at hl 0 rfl) ?_
          refine r_get C hR 7 0 4 (v := .ref (a 47 0)) (lv0 (by decide) (by decide)) (by decide) (by decide) rfl fl_X7_33 dX7_heed_29 ?_
          refine lv_aload_n hx hb dX7_heed_32 rfl (lv_at hl 1 rfl) ?_
          refine r_get C hR 0 i1 9 (v := .ref (a 26 i1)) (lv0 hi1 (by decide)) (by decide) (by decide) rfl fl_X7_88 dX7_heed_33 ?_
          refine lv_iload hx hb dX7_heed_36 (lv_at hl 4 rfl) ?_
          obtain ⟨k147, hk147, h⟩ := ob h
          refine r_ald C hR 26 i1 (lv0 hi1 (by decide)) (by decide) rfl (fun _ => rfl) rfl hk147 dX7_heed_38 ?_
          refine lv_aload_n hx hb dX7_heed_39 rfl (lv_at hl 1 rfl) ?_
          refine r_get C hR 0 i1 10 (v := .ref (a 27 i1)) (lv0 hi1 (by decide)) (by decide) (by decide) rfl fl_X7_91 dX7_heed_40 ?_
          refine lv_iload hx hb dX7_heed_43 (lv_at hl 4 rfl) ?_
          obtain ⟨k148, hk148, h⟩ := ob h
          refine r_ald C hR 27 i1 (lv0 hi1 (by decide)) (by decide) rfl (fun _ => rfl) rfl hk148 dX7_heed_45 ?_
          obtain ⟨k149, hk149, h⟩ := ob h
          refine r_ast C hR hS 47 0 (lv0 (by decide) (by decide)) (by decide) rfl (fun _ _ => rfl) rfl hk149 dX7_heed_46 (fun H locs hR hS => ?_)
          obtain ⟨u150, eu150⟩ : ∃ z : HS, z = wI u104 47 0 k149 (gI u104 27 i1 k148) := ⟨_, rfl⟩
          rw [← eu150] at hR
          replace h := bd_x eu150 h
          clear eu150
          cases h
          exact Kj144 _ _ _ hR hS (lv_sub hl [0, 1, 2, 3, 4] rfl)
  exact LP FU _ _ _ _ _ h hR hS (lv_sub hl [1, 2, 3, 4, 0] rfl)
set_option maxHeartbeats 4000000 in
set_option maxRecDepth 100000 in
theorem vX7_nearInTenth {l : Launch} {E : EV} {a : Nat → Nat → Nat} {u0 : HS} {x1 : Int32} {x2 : Int32} {out : Int32} (h : mX7_nearInTenth u0 x1 x2 = some out) : Ct l E yX7_nearInTenth cX7_nearInTenth 4 (some .int) 2 44 0 0 a u0 [.ref (a 7 0), .int x1, .int x2] (some (.int out)) u0 := by
  refine Ct.start (by decide) (Nat.le_of_ble_eq_true rfl) ?_
  intro p e s m args below meth c ls C hr hR hS hl
  have C : Cx E p s m args meth c cX7_nearInTenth 4 RX7 := C
  have hl : lv_has ls 4 [(0, .ref (a 7 0)), (1, .int x1), (2, .int x2)] := hl
  have hx := C.1
  have hb := C.2.1
  unfold mX7_nearInTenth at h
  refine lv_aload_n hx hb dX7_nearInTenth_0 rfl (lv_at hl 0 rfl) ?_
  have hd101 := hR.2.2.2.2.1
  refine r_get C hR 7 0 0 (v := .ref (a 3 (gR u0 1))) (lv0 (by decide) (by decide)) (by decide) (by decide) rfl fl_X7_12 dX7_nearInTenth_1 ?_
  refine lv_iload_n hx hb dX7_nearInTenth_4 rfl (lv_at hl 1 rfl) ?_
  refine lv_iload_n hx hb dX7_nearInTenth_5 rfl (lv_at hl 2 rfl) ?_
  obtain ⟨x103, hc102, h⟩ := ob h
  refine r_callV1 (As := [.int x1, .int x2]) (rest := []) (r := 3) (i := (gR u0 1)) C (vX3_placeAt hd101 hc102) hR hS (lv0 hd101 (by decide)) (by decide) ml_X7_76 mw_X3_placeAt rfl ⟨Nat.le_of_ble_eq_true rfl, Nat.le_of_ble_eq_true rfl, Nat.le_of_ble_eq_true rfl, Nat.le_of_ble_eq_true rfl⟩ hl.1 rfl (Nat.le_of_ble_eq_true rfl) dX7_nearInTenth_6 (fun H locs hR hS => ?_)
  refine lv_istore_n (lv' := [(3, .int x103), (0, .ref (a 7 0)), (1, .int x1), (2, .int x2)]) hx hb dX7_nearInTenth_9 rfl hl (by decide) rfl (fun ls hl => ?_)
  refine lv_iload_n hx hb dX7_nearInTenth_10 rfl (lv_at hl 0 rfl) ?_
  refine lv_iconst (v := (-1)) hx hb dX7_nearInTenth_11 (by decide) ?_
  refine lv_icmp_eq (tgt := 25) hx hb dX7_nearInTenth_12 (by decide) (fun c_104 => ?_) (fun c_104 => ?_)
  · rw [if_pos c_104] at h
    refine lv_bipush (v := 99) hx hb dX7_nearInTenth_25 (by decide) ?_
    refine lv_goto (tgt := 41) hx hb dX7_nearInTenth_27 (by decide) ?_
    cases h
    exact e_iret C hr hR hS (Nat.le_of_ble_eq_true rfl) (Nat.le_of_ble_eq_true rfl) dX7_nearInTenth_41
  · rw [if_neg c_104] at h
    refine lv_aload_n hx hb dX7_nearInTenth_15 rfl (lv_at hl 1 rfl) ?_
    refine r_get C hR 7 0 3 (v := .ref (a 46 0)) (lv0 (by decide) (by decide)) (by decide) (by decide) rfl fl_X7_29 dX7_nearInTenth_16 ?_
    refine lv_iload_n hx hb dX7_nearInTenth_19 rfl (lv_at hl 3 rfl) ?_
    obtain ⟨k105, hk105, h⟩ := ob h
    refine r_ald C hR 46 0 (lv0 (by decide) (by decide)) (by decide) rfl (fun _ => rfl) rfl hk105 dX7_nearInTenth_20 ?_
    refine lv_iconst (v := (-1)) hx hb dX7_nearInTenth_21 (by decide) ?_
    refine lv_icmp_ne (tgt := 30) hx hb dX7_nearInTenth_22 (by decide) (fun c_106 => ?_) (fun c_106 => ?_)
    · rw [if_neg c_106] at h
      refine lv_iload_n hx hb dX7_nearInTenth_30 rfl (lv_at hl 0 rfl) ?_
      refine lv_aload_n hx hb dX7_nearInTenth_31 rfl (lv_at hl 1 rfl) ?_
      refine r_get C hR 7 0 3 (v := .ref (a 46 0)) (lv0 (by decide) (by decide)) (by decide) (by decide) rfl fl_X7_29 dX7_nearInTenth_32 ?_
      refine lv_iload_n hx hb dX7_nearInTenth_35 rfl (lv_at hl 3 rfl) ?_
      obtain ⟨k107, hk107, h⟩ := ob h
      refine r_ald C hR 46 0 (lv0 (by decide) (by decide)) (by decide) rfl (fun _ => rfl) rfl hk107 dX7_nearInTenth_36 ?_
      refine lv_iconst (v := 0) hx hb dX7_nearInTenth_37 (by decide) ?_
      obtain ⟨x109, hc108, h⟩ := ob h
      refine r_callS1 (As := [.int x103, .int (gI u0 46 0 k107), .int 0]) (rest := []) C (vX7_farther hc108) hR hS ml_X7_129 ms_X7_farther rfl ⟨Nat.le_of_ble_eq_true rfl, Nat.le_of_ble_eq_true rfl, Nat.le_of_ble_eq_true rfl, Nat.le_of_ble_eq_true rfl⟩ hl.1 rfl (Nat.le_of_ble_eq_true rfl) dX7_nearInTenth_38 (fun H locs hR hS => ?_)
      cases h
      exact e_iret C hr hR hS (Nat.le_of_ble_eq_true rfl) (Nat.le_of_ble_eq_true rfl) dX7_nearInTenth_41
    · rw [if_pos c_106] at h
      refine lv_bipush (v := 99) hx hb dX7_nearInTenth_25 (by decide) ?_
      refine lv_goto (tgt := 41) hx hb dX7_nearInTenth_27 (by decide) ?_
      cases h
      exact e_iret C hr hR hS (Nat.le_of_ble_eq_true rfl) (Nat.le_of_ble_eq_true rfl) dX7_nearInTenth_41
set_option maxHeartbeats 4000000 in
set_option maxRecDepth 100000 in
theorem vX7_tenthsWithin {l : Launch} {E : EV} {a : Nat → Nat → Nat} {u0 : HS} {x1 : Int32} {out : Int32} (h : mX7_tenthsWithin u0 x1 = some out) : Ct l E yX7_tenthsWithin cX7_tenthsWithin 4 (some .int) 3 67 0 0 a u0 [.ref (a 7 0), .int x1] (some (.int out)) u0 := by
  refine Ct.start (by decide) (Nat.le_of_ble_eq_true rfl) ?_
  intro p e s m args below meth c ls C hr hR hS hl
  have C : Cx E p s m args meth c cX7_tenthsWithin 4 RX7 := C
  have hl : lv_has ls 4 [(0, .ref (a 7 0)), (1, .int x1)] := hl
  have hx := C.1
  have hb := C.2.1
  unfold mX7_tenthsWithin at h
  refine lv_iconst (v := 0) hx hb dX7_tenthsWithin_0 (by decide) ?_
  refine lv_istore_n (lv' := [(2, .int 0), (0, .ref (a 7 0)), (1, .int x1)]) hx hb dX7_tenthsWithin_1 rfl hl (by decide) rfl (fun ls hl => ?_)
  refine lv_iconst (v := 0) hx hb dX7_tenthsWithin_2 (by decide) ?_
  refine lv_istore_n (lv' := [(3, .int 0), (2, .int 0), (0, .ref (a 7 0)), (1, .int x1)]) hx hb dX7_tenthsWithin_3 rfl hl (by decide) rfl (fun ls hl => ?_)
  refine jp_cut h (fun w104 hw104 h => ?_)
  have Kw104 : ∀ (x103 : Int32) (H : Heap) (locs : List Loc) (ls : Array Slot), w104 x103 = some out → Rel E a u0 H → va_S (AE E) s.heap H locs → lv_has ls 4 [(2, .int x103)] → W p l e { frames := 3, cells := 0, slots := 0, locals := 67 } s m args below meth c H locs 0 0 (MQ below (QW E a (some (.int out)) u0) args s 0 0 (AE E)) (F0 m 45 ls []) := by
    intro x103 H locs ls h hR hS hl
    replace h := jx1 hw104 h
    refine lv_iload_n hx hb dX7_tenthsWithin_45 rfl (lv_at hl 0 rfl) ?_
    cases h
    exact e_iret C hr hR hS (Nat.le_of_ble_eq_true rfl) (Nat.le_of_ble_eq_true rfl) dX7_tenthsWithin_46
  have LP : ∀ (fu : Nat) (x101 : Int32) (x102 : Int32) (H : Heap) (locs : List Loc) (ls : Array Slot), mX7_tenthsWithin_L4 u0 x1 w104 fu x101 x102 = some out → Rel E a u0 H → va_S (AE E) s.heap H locs → lv_has ls 4 [(0, .ref (a 7 0)), (1, .int x1), (2, .int x101), (3, .int x102)] → W p l e { frames := 3, cells := 0, slots := 0, locals := 67 } s m args below meth c H locs 0 0 (MQ below (QW E a (some (.int out)) u0) args s 0 0 (AE E)) (F0 m 4 ls []) := by
    intro fu
    induction fu with
    | zero =>
      intro x101 x102 H locs ls h
      have h2 : (none : Option Int32) = some out := h
      cases h2
    | succ fu ih =>
      intro x101 x102 H locs ls h hR hS hl
      rw [mX7_tenthsWithin_L4.eq_2] at h
      refine lv_iload_n hx hb dX7_tenthsWithin_4 rfl (lv_at hl 3 rfl) ?_
      refine lv_aload_n hx hb dX7_tenthsWithin_5 rfl (lv_at hl 0 rfl) ?_
      have hd105 := hR.2.2.2.2.1
      refine r_get C hR 7 0 0 (v := .ref (a 3 (gR u0 1))) (lv0 (by decide) (by decide)) (by decide) (by decide) rfl fl_X7_12 dX7_tenthsWithin_6 ?_
      refine r_get C hR 3 (gR u0 1) 11 (v := .int (gI u0 3 (gR u0 1) 11)) (lv0 hd105 (by decide)) (by decide) (by decide) rfl fl_X7_145 dX7_tenthsWithin_9 ?_
      refine lv_icmp_gt (tgt := 45) hx hb dX7_tenthsWithin_12 (by decide) (fun c_106 => ?_) (fun c_106 => ?_)
      · rw [if_pos c_106] at h
        exact Kw104 _ _ _ _ h hR hS (lv_sub hl [2] rfl)
      · rw [if_neg c_106] at h
        refine lv_iload_n hx hb dX7_tenthsWithin_15 rfl (lv_at hl 2 rfl) ?_
        refine lv_aload_n hx hb dX7_tenthsWithin_16 rfl (lv_at hl 0 rfl) ?_
        refine lv_aload_n hx hb dX7_tenthsWithin_17 rfl (lv_at hl 0 rfl) ?_
        have hd107 := hR.2.2.2.2.1
        refine r_get C hR 7 0 0 (v := .ref (a 3 (gR u0 1))) (lv0 (by decide) (by decide)) (by decide) (by decide) rfl fl_X7_12 dX7_tenthsWithin_18 ?_
        refine r_get C hR 3 (gR u0 1) 9 (v := .int (gI u0 3 (gR u0 1) 9)) (lv0 hd107 (by decide)) (by decide) (by decide) rfl fl_X7_136 dX7_tenthsWithin_21 ?_
        refine lv_iload_n hx hb dX7_tenthsWithin_24 rfl (lv_at hl 3 rfl) ?_
        obtain ⟨x109, hc108, h⟩ := ob h
        refine r_callV1 (As := [.int (gI u0 3 (gR u0 1) 9), .int x102]) (rest := [.int x101]) (r := 7) (i := 0) C (vX7_nearInTenth hc108) hR hS (lv0 (by decide) (by decide)) (by decide) ml_X7_148 mw_X7_nearInTenth rfl ⟨Nat.le_of_ble_eq_true rfl, Nat.le_of_ble_eq_true rfl, Nat.le_of_ble_eq_true rfl, Nat.le_of_ble_eq_true rfl⟩ hl.1 rfl (Nat.le_of_ble_eq_true rfl) dX7_tenthsWithin_25 (fun H locs hR hS => ?_)
        refine lv_iload_n hx hb dX7_tenthsWithin_28 rfl (lv_at hl 1 rfl) ?_
        obtain ⟨x110, hz, h⟩ := ob h
        have Kj111 : ∀ (H : Heap) (locs : List Loc) (ls : Array Slot), Rel E a u0 H → va_S (AE E) s.heap H locs → lv_has ls 4 [(0, .ref (a 7 0)), (1, .int x1), (3, .int x102)] → W p l e { frames := 3, cells := 0, slots := 0, locals := 67 } s m args below meth c H locs 0 0 (MQ below (QW E a (some (.int out)) u0) args s 0 0 (AE E)) (F0 m 37 ls [.int x110, .int x101]) := by
          intro H locs ls hR hS hl
          clear hz
          refine lv_iadd hx hb dX7_tenthsWithin_37 ?_
          refine lv_topi (fun x112 ex112 => ?_)
          replace h := bd_x ex112 h
          refine lv_istore_n (lv' := [(2, .int x112), (0, .ref (a 7 0)), (1, .int x1), (3, .int x102)]) hx hb dX7_tenthsWithin_38 rfl hl (by decide) rfl (fun ls hl => ?_)
          obtain ⟨x113, ex113⟩ : ∃ z : Int32, z = x102 + 1 := ⟨_, rfl⟩
          replace h := bd_x ex113 h
          refine lv_iinc (v := x113) (lv' := [(3, .int x113), (2, .int x112), (0, .ref (a 7 0)), (1, .int x1)]) hx hb dX7_tenthsWithin_39 hl (k := 3) rfl (by rw [ex113]; rfl) (by decide) rfl (fun ls hl => ?_)
          refine lv_goto (tgt := 4) hx hb dX7_tenthsWithin_42 (by decide) ?_
          exact ih _ _ _ _ _ h hR hS (lv_sub hl [2, 3, 1, 0] rfl)
        clear h
        have h := hz
        clear hz
        refine lv_icmp_gt (tgt := 36) hx hb dX7_tenthsWithin_29 (by decide) (fun c_114 => ?_) (fun c_114 => ?_)
        · rw [if_pos c_114] at h
          refine lv_iconst (v := 0) hx hb dX7_tenthsWithin_36 (by decide) ?_
          cases h
          exact Kj111 _ _ _ hR hS (lv_sub hl [0, 1, 3] rfl)
        · rw [if_neg c_114] at h
          refine lv_iconst (v := 1) hx hb dX7_tenthsWithin_32 (by decide) ?_
          refine lv_goto (tgt := 37) hx hb dX7_tenthsWithin_33 (by decide) ?_
          cases h
          exact Kj111 _ _ _ hR hS (lv_sub hl [0, 1, 3] rfl)
  exact LP FU _ _ _ _ _ h hR hS (lv_sub hl [2, 3, 1, 0] rfl)
set_option maxHeartbeats 4000000 in
set_option maxRecDepth 100000 in
theorem vX7_isDropped {l : Launch} {E : EV} {a : Nat → Nat → Nat} {u0 : HS}  {out : Int32} (h : mX7_isDropped u0 = some out) : Ct l E yX7_isDropped cX7_isDropped 2 (some .boolean) 2 44 0 0 a u0 [.ref (a 7 0)] (some (.int out)) u0 := by
  refine Ct.start (by decide) (Nat.le_of_ble_eq_true rfl) ?_
  intro p e s m args below meth c ls C hr hR hS hl
  have C : Cx E p s m args meth c cX7_isDropped 2 RX7 := C
  have hl : lv_has ls 2 [(0, .ref (a 7 0))] := hl
  have hx := C.1
  have hb := C.2.1
  unfold mX7_isDropped at h
  refine lv_iconst (v := 0) hx hb dX7_isDropped_0 (by decide) ?_
  refine lv_istore_n (lv' := [(1, .int 0), (0, .ref (a 7 0))]) hx hb dX7_isDropped_1 rfl hl (by decide) rfl (fun ls hl => ?_)
  refine jp_cut h (fun w102 hw102 h => ?_)
  have Kw102 : ∀  (H : Heap) (locs : List Loc) (ls : Array Slot), w102 = some out → Rel E a u0 H → va_S (AE E) s.heap H locs → lv_has ls 2 [] → W p l e { frames := 2, cells := 0, slots := 0, locals := 44 } s m args below meth c H locs 0 0 (MQ below (QW E a (some (.int out)) u0) args s 0 0 (AE E)) (F0 m 68 ls []) := by
    intro  H locs ls h hR hS hl
    replace h := jx0 hw102 h
    refine lv_iconst (v := 0) hx hb dX7_isDropped_68 (by decide) ?_
    cases h
    exact e_zret (v := 0) C hr rfl hR hS (Nat.le_of_ble_eq_true rfl) (Nat.le_of_ble_eq_true rfl) dX7_isDropped_69
  have LP : ∀ (fu : Nat) (x101 : Int32) (H : Heap) (locs : List Loc) (ls : Array Slot), mX7_isDropped_L2 u0 w102 fu x101 = some out → Rel E a u0 H → va_S (AE E) s.heap H locs → lv_has ls 2 [(0, .ref (a 7 0)), (1, .int x101)] → W p l e { frames := 2, cells := 0, slots := 0, locals := 44 } s m args below meth c H locs 0 0 (MQ below (QW E a (some (.int out)) u0) args s 0 0 (AE E)) (F0 m 2 ls []) := by
    intro fu
    induction fu with
    | zero =>
      intro x101 H locs ls h
      have h2 : (none : Option Int32) = some out := h
      cases h2
    | succ fu ih =>
      intro x101 H locs ls h hR hS hl
      rw [mX7_isDropped_L2.eq_2] at h
      refine lv_iload_n hx hb dX7_isDropped_2 rfl (lv_at hl 1 rfl) ?_
      refine lv_aload_n hx hb dX7_isDropped_3 rfl (lv_at hl 0 rfl) ?_
      have hd103 := hR.2.2.2.2.1
      refine r_get C hR 7 0 0 (v := .ref (a 3 (gR u0 1))) (lv0 (by decide) (by decide)) (by decide) (by decide) rfl fl_X7_12 dX7_isDropped_4 ?_
      refine r_get C hR 3 (gR u0 1) 11 (v := .int (gI u0 3 (gR u0 1) 11)) (lv0 hd103 (by decide)) (by decide) (by decide) rfl fl_X7_145 dX7_isDropped_7 ?_
      refine lv_icmp_gt (tgt := 68) hx hb dX7_isDropped_10 (by decide) (fun c_104 => ?_) (fun c_104 => ?_)
      · rw [if_pos c_104] at h
        exact Kw102  _ _ _ h hR hS (lv_sub hl [] rfl)
      · rw [if_neg c_104] at h
        refine lv_aload_n hx hb dX7_isDropped_13 rfl (lv_at hl 0 rfl) ?_
        have hd105 := hR.2.2.2.2.1
        refine r_get C hR 7 0 0 (v := .ref (a 3 (gR u0 1))) (lv0 (by decide) (by decide)) (by decide) (by decide) rfl fl_X7_12 dX7_isDropped_14 ?_
        refine lv_aload_n hx hb dX7_isDropped_17 rfl (lv_at hl 0 rfl) ?_
        have hd106 := hR.2.2.2.2.1
        refine r_get C hR 7 0 0 (v := .ref (a 3 (gR u0 1))) (lv0 (by decide) (by decide)) (by decide) (by decide) rfl fl_X7_12 dX7_isDropped_18 ?_
        refine r_get C hR 3 (gR u0 1) 9 (v := .int (gI u0 3 (gR u0 1) 9)) (lv0 hd106 (by decide)) (by decide) (by decide) rfl fl_X7_136 dX7_isDropped_21 ?_
        refine lv_iload_n hx hb dX7_isDropped_24 rfl (lv_at hl 1 rfl) ?_
        obtain ⟨x108, hc107, h⟩ := ob h
        refine r_callV1 (As := [.int (gI u0 3 (gR u0 1) 9), .int x101]) (rest := []) (r := 3) (i := (gR u0 1)) C (vX3_placeAt hd105 hc107) hR hS (lv0 hd105 (by decide)) (by decide) ml_X7_76 mw_X3_placeAt rfl ⟨Nat.le_of_ble_eq_true rfl, Nat.le_of_ble_eq_true rfl, Nat.le_of_ble_eq_true rfl, Nat.le_of_ble_eq_true rfl⟩ hl.1 rfl (Nat.le_of_ble_eq_true rfl) dX7_isDropped_25 (fun H locs hR hS => ?_)
        refine lv_iconst (v := (-1)) hx hb dX7_isDropped_28 (by decide) ?_
        refine jp_cut h (fun j109 hj109 h => ?_)
        have Kj109 : ∀  (H : Heap) (locs : List Loc) (ls : Array Slot), j109 = some out → Rel E a u0 H → va_S (AE E) s.heap H locs → lv_has ls 2 [(0, .ref (a 7 0)), (1, .int x101)] → W p l e { frames := 2, cells := 0, slots := 0, locals := 44 } s m args below meth c H locs 0 0 (MQ below (QW E a (some (.int out)) u0) args s 0 0 (AE E)) (F0 m 62 ls []) := by
          intro  H locs ls h hR hS hl
          replace h := jx0 hj109 h
          obtain ⟨x110, ex110⟩ : ∃ z : Int32, z = x101 + 1 := ⟨_, rfl⟩
          replace h := bd_x ex110 h
          refine lv_iinc (v := x110) (lv' := [(1, .int x110), (0, .ref (a 7 0))]) hx hb dX7_isDropped_62 hl (k := 1) rfl (by rw [ex110]; rfl) (by decide) rfl (fun ls hl => ?_)
          refine lv_goto (tgt := 2) hx hb dX7_isDropped_65 (by decide) ?_
          exact ih _ _ _ _ h hR hS (lv_sub hl [1, 0] rfl)
        refine lv_icmp_eq (tgt := 62) hx hb dX7_isDropped_29 (by decide) (fun c_111 => ?_) (fun c_111 => ?_)
        · rw [if_pos c_111] at h
          exact Kj109  _ _ _ h hR hS (lv_sub hl [0, 1] rfl)
        · rw [if_neg c_111] at h
          refine lv_aload_n hx hb dX7_isDropped_32 rfl (lv_at hl 0 rfl) ?_
          have hd112 := hR.2.2.2.2.2
          refine r_get C hR 7 0 1 (v := .ref (a 6 (gR u0 2))) (lv0 (by decide) (by decide)) (by decide) (by decide) rfl fl_X7_21 dX7_isDropped_33 ?_
          refine r_get C hR 6 (gR u0 2) 1 (v := .int (gI u0 6 (gR u0 2) 1)) (lv0 hd112 (by decide)) (by decide) (by decide) rfl fl_X7_126 dX7_isDropped_36 ?_
          refine lv_aload_n hx hb dX7_isDropped_39 rfl (lv_at hl 0 rfl) ?_
          have hd113 := hR.2.2.2.2.1
          refine r_get C hR 7 0 0 (v := .ref (a 3 (gR u0 1))) (lv0 (by decide) (by decide)) (by decide) (by decide) rfl fl_X7_12 dX7_isDropped_40 ?_
          refine lv_aload_n hx hb dX7_isDropped_43 rfl (lv_at hl 0 rfl) ?_
          have hd114 := hR.2.2.2.2.1
          refine r_get C hR 7 0 0 (v := .ref (a 3 (gR u0 1))) (lv0 (by decide) (by decide)) (by decide) (by decide) rfl fl_X7_12 dX7_isDropped_44 ?_
          refine r_get C hR 3 (gR u0 1) 9 (v := .int (gI u0 3 (gR u0 1) 9)) (lv0 hd114 (by decide)) (by decide) (by decide) rfl fl_X7_136 dX7_isDropped_47 ?_
          refine lv_iload_n hx hb dX7_isDropped_50 rfl (lv_at hl 1 rfl) ?_
          obtain ⟨x116, hc115, h⟩ := ob h
          refine r_callV1 (As := [.int (gI u0 3 (gR u0 1) 9), .int x101]) (rest := [.int (gI u0 6 (gR u0 2) 1)]) (r := 3) (i := (gR u0 1)) C (vX3_tintAt hd113 hc115) hR hS (lv0 hd113 (by decide)) (by decide) ml_X7_114 mw_X3_tintAt rfl ⟨Nat.le_of_ble_eq_true rfl, Nat.le_of_ble_eq_true rfl, Nat.le_of_ble_eq_true rfl, Nat.le_of_ble_eq_true rfl⟩ hl.1 rfl (Nat.le_of_ble_eq_true rfl) dX7_isDropped_51 (fun H locs hR hS => ?_)
          refine lv_ishr hx hb dX7_isDropped_54 ?_
          refine lv_iconst (v := 1) hx hb dX7_isDropped_55 (by decide) ?_
          refine lv_iand hx hb dX7_isDropped_56 ?_
          refine lv_if_eq (tgt := 62) hx hb dX7_isDropped_57 (by decide) (fun c_117 => ?_) (fun c_117 => ?_)
          · rw [if_pos c_117] at h
            exact Kj109  _ _ _ h hR hS (lv_sub hl [0, 1] rfl)
          · rw [if_neg c_117] at h
            refine lv_iconst (v := 1) hx hb dX7_isDropped_60 (by decide) ?_
            cases h
            exact e_zret (v := 1) C hr rfl hR hS (Nat.le_of_ble_eq_true rfl) (Nat.le_of_ble_eq_true rfl) dX7_isDropped_61
  exact LP FU _ _ _ _ h hR hS (lv_sub hl [1, 0] rfl)
set_option maxHeartbeats 4000000 in
set_option maxRecDepth 100000 in
theorem vX7_blindness {l : Launch} {E : EV} {a : Nat → Nat → Nat} {u0 : HS} {x1 : Int32} {out : Int32} (h : mX7_blindness u0 x1 = some out) : Ct l E yX7_blindness cX7_blindness 2 (some .int) 4 90 0 0 a u0 [.ref (a 7 0), .int x1] (some (.int out)) u0 := by
  refine Ct.start (by decide) (Nat.le_of_ble_eq_true rfl) ?_
  intro p e s m args below meth c ls C hr hR hS hl
  have C : Cx E p s m args meth c cX7_blindness 2 RX7 := C
  have hl : lv_has ls 2 [(0, .ref (a 7 0)), (1, .int x1)] := hl
  have hx := C.1
  have hb := C.2.1
  unfold mX7_blindness at h
  refine lv_aload_n hx hb dX7_blindness_0 rfl (lv_at hl 0 rfl) ?_
  have hd101 := hR.2.2.2.2.1
  refine r_get C hR 7 0 0 (v := .ref (a 3 (gR u0 1))) (lv0 (by decide) (by decide)) (by decide) (by decide) rfl fl_X7_12 dX7_blindness_1 ?_
  refine r_get C hR 3 (gR u0 1) 9 (v := .int (gI u0 3 (gR u0 1) 9)) (lv0 hd101 (by decide)) (by decide) (by decide) rfl fl_X7_136 dX7_blindness_4 ?_
  refine lv_iconst (v := (-1)) hx hb dX7_blindness_7 (by decide) ?_
  refine lv_icmp_ne (tgt := 13) hx hb dX7_blindness_8 (by decide) (fun c_102 => ?_) (fun c_102 => ?_)
  · rw [if_neg c_102] at h
    refine lv_aload_n hx hb dX7_blindness_13 rfl (lv_at hl 0 rfl) ?_
    obtain ⟨x104, hc103, h⟩ := ob h
    refine r_callV1 (As := []) (rest := []) (r := 7) (i := 0) C (vX7_isDropped hc103) hR hS (lv0 (by decide) (by decide)) (by decide) ml_X7_151 mw_X7_isDropped rfl ⟨Nat.le_of_ble_eq_true rfl, Nat.le_of_ble_eq_true rfl, Nat.le_of_ble_eq_true rfl, Nat.le_of_ble_eq_true rfl⟩ hl.1 rfl (Nat.le_of_ble_eq_true rfl) dX7_blindness_14 (fun H locs hR hS => ?_)
    refine lv_if_eq (tgt := 22) hx hb dX7_blindness_17 (by decide) (fun c_105 => ?_) (fun c_105 => ?_)
    · rw [if_pos c_105] at h
      refine lv_aload_n hx hb dX7_blindness_22 rfl (lv_at hl 0 rfl) ?_
      refine lv_iload_n hx hb dX7_blindness_23 rfl (lv_at hl 1 rfl) ?_
      refine lv_iconst (v := 1) hx hb dX7_blindness_24 (by decide) ?_
      refine lv_isub hx hb dX7_blindness_25 ?_
      obtain ⟨x107, hc106, h⟩ := ob h
      refine r_callV1 (As := [.int (x1 - 1)]) (rest := []) (r := 7) (i := 0) C (vX7_tenthsWithin hc106) hR hS (lv0 (by decide) (by decide)) (by decide) ml_X7_155 mw_X7_tenthsWithin rfl ⟨Nat.le_of_ble_eq_true rfl, Nat.le_of_ble_eq_true rfl, Nat.le_of_ble_eq_true rfl, Nat.le_of_ble_eq_true rfl⟩ hl.1 rfl (Nat.le_of_ble_eq_true rfl) dX7_blindness_26 (fun H locs hR hS => ?_)
      refine lv_if_ne (tgt := 35) hx hb dX7_blindness_29 (by decide) (fun c_108 => ?_) (fun c_108 => ?_)
      · rw [if_neg c_108] at h
        refine lv_aload_n hx hb dX7_blindness_35 rfl (lv_at hl 0 rfl) ?_
        refine lv_iconst (v := 2) hx hb dX7_blindness_36 (by decide) ?_
        obtain ⟨x110, hc109, h⟩ := ob h
        refine r_callV1 (As := [.int 2]) (rest := []) (r := 7) (i := 0) C (vX7_tenthsWithin hc109) hR hS (lv0 (by decide) (by decide)) (by decide) ml_X7_155 mw_X7_tenthsWithin rfl ⟨Nat.le_of_ble_eq_true rfl, Nat.le_of_ble_eq_true rfl, Nat.le_of_ble_eq_true rfl, Nat.le_of_ble_eq_true rfl⟩ hl.1 rfl (Nat.le_of_ble_eq_true rfl) dX7_blindness_37 (fun H locs hR hS => ?_)
        refine lv_if_ne (tgt := 47) hx hb dX7_blindness_40 (by decide) (fun c_111 => ?_) (fun c_111 => ?_)
        · rw [if_neg c_111] at h
          refine lv_iconst (v := 2) hx hb dX7_blindness_47 (by decide) ?_
          cases h
          exact e_iret C hr hR hS (Nat.le_of_ble_eq_true rfl) (Nat.le_of_ble_eq_true rfl) dX7_blindness_48
        · rw [if_pos c_111] at h
          refine lv_iconst (v := 1) hx hb dX7_blindness_43 (by decide) ?_
          refine lv_goto (tgt := 48) hx hb dX7_blindness_44 (by decide) ?_
          cases h
          exact e_iret C hr hR hS (Nat.le_of_ble_eq_true rfl) (Nat.le_of_ble_eq_true rfl) dX7_blindness_48
      · rw [if_pos c_108] at h
        refine lv_bipush (v := 6) hx hb dX7_blindness_32 (by decide) ?_
        cases h
        exact e_iret C hr hR hS (Nat.le_of_ble_eq_true rfl) (Nat.le_of_ble_eq_true rfl) dX7_blindness_34
    · rw [if_neg c_105] at h
      refine lv_iconst (v := 5) hx hb dX7_blindness_20 (by decide) ?_
      cases h
      exact e_iret C hr hR hS (Nat.le_of_ble_eq_true rfl) (Nat.le_of_ble_eq_true rfl) dX7_blindness_21
  · rw [if_pos c_102] at h
    refine lv_iconst (v := 0) hx hb dX7_blindness_11 (by decide) ?_
    cases h
    exact e_iret C hr hR hS (Nat.le_of_ble_eq_true rfl) (Nat.le_of_ble_eq_true rfl) dX7_blindness_12
set_option maxHeartbeats 4000000 in
set_option maxRecDepth 100000 in
theorem vX8_feed {l : Launch} {E : EV} {a : Nat → Nat → Nat} {u0 : HS} {x1 : Int32} {x2 : Int32} {x3 : Int32} {x4 : Int32} {x5 : Int32} {out : (Int32 × HS)} (h : mX8_feed u0 x1 x2 x3 x4 x5 = some out) : Ct l E yX8_feed cX8_feed 6 (some .int) 1 22 0 0 a u0 [.ref (a 8 0), .int x1, .int x2, .int x3, .int x4, .int x5] (some (.int out.1)) out.2 := by
  refine Ct.start (by decide) (Nat.le_of_ble_eq_true rfl) ?_
  intro p e s m args below meth c ls C hr hR hS hl
  have C : Cx E p s m args meth c cX8_feed 6 RX8 := C
  have hl : lv_has ls 6 [(0, .ref (a 8 0)), (1, .int x1), (2, .int x2), (3, .int x3), (4, .int x4), (5, .int x5)] := hl
  have hx := C.1
  have hb := C.2.1
  unfold mX8_feed at h
  refine lv_aload_n hx hb dX8_feed_0 rfl (lv_at hl 0 rfl) ?_
  refine r_get C hR 8 0 0 (v := .ref (a 5 0)) (lv0 (by decide) (by decide)) (by decide) (by decide) rfl fl_X8_10 dX8_feed_1 ?_
  obtain ⟨x102, hc101, h⟩ := ob h
  refine r_callV1 (As := []) (rest := []) (r := 5) (i := 0) C (vX5_hasRoom hc101) hR hS (lv0 (by decide) (by decide)) (by decide) ml_X8_94 mw_X5_hasRoom rfl ⟨Nat.le_of_ble_eq_true rfl, Nat.le_of_ble_eq_true rfl, Nat.le_of_ble_eq_true rfl, Nat.le_of_ble_eq_true rfl⟩ hl.1 rfl (Nat.le_of_ble_eq_true rfl) dX8_feed_4 (fun H locs hR hS => ?_)
  refine lv_if_ne (tgt := 12) hx hb dX8_feed_7 (by decide) (fun c_103 => ?_) (fun c_103 => ?_)
  · rw [if_neg c_103] at h
    refine lv_aload_n hx hb dX8_feed_12 rfl (lv_at hl 0 rfl) ?_
    refine r_get C hR 8 0 0 (v := .ref (a 5 0)) (lv0 (by decide) (by decide)) (by decide) (by decide) rfl fl_X8_10 dX8_feed_13 ?_
    refine lv_iload_n hx hb dX8_feed_16 rfl (lv_at hl 1 rfl) ?_
    obtain ⟨u105, hc104, h⟩ := ob h
    refine r_callV0 (As := [.int x1]) (rest := []) (r := 5) (i := 0) C (vX5_put hc104) hR hS (lv0 (by decide) (by decide)) (by decide) ml_X8_98 mw_X5_put rfl ⟨Nat.le_of_ble_eq_true rfl, Nat.le_of_ble_eq_true rfl, Nat.le_of_ble_eq_true rfl, Nat.le_of_ble_eq_true rfl⟩ hl.1 rfl (Nat.le_of_ble_eq_true rfl) dX8_feed_17 (fun H locs hR hS => ?_)
    refine lv_aload_n hx hb dX8_feed_20 rfl (lv_at hl 0 rfl) ?_
    refine r_get C hR 8 0 0 (v := .ref (a 5 0)) (lv0 (by decide) (by decide)) (by decide) (by decide) rfl fl_X8_10 dX8_feed_21 ?_
    refine lv_iload_n hx hb dX8_feed_24 rfl (lv_at hl 2 rfl) ?_
    obtain ⟨u107, hc106, h⟩ := ob h
    refine r_callV0 (As := [.int x2]) (rest := []) (r := 5) (i := 0) C (vX5_put hc106) hR hS (lv0 (by decide) (by decide)) (by decide) ml_X8_98 mw_X5_put rfl ⟨Nat.le_of_ble_eq_true rfl, Nat.le_of_ble_eq_true rfl, Nat.le_of_ble_eq_true rfl, Nat.le_of_ble_eq_true rfl⟩ hl.1 rfl (Nat.le_of_ble_eq_true rfl) dX8_feed_25 (fun H locs hR hS => ?_)
    refine lv_aload_n hx hb dX8_feed_28 rfl (lv_at hl 0 rfl) ?_
    refine r_get C hR 8 0 0 (v := .ref (a 5 0)) (lv0 (by decide) (by decide)) (by decide) (by decide) rfl fl_X8_10 dX8_feed_29 ?_
    refine lv_iload_n hx hb dX8_feed_32 rfl (lv_at hl 3 rfl) ?_
    obtain ⟨u109, hc108, h⟩ := ob h
    refine r_callV0 (As := [.int x3]) (rest := []) (r := 5) (i := 0) C (vX5_put hc108) hR hS (lv0 (by decide) (by decide)) (by decide) ml_X8_98 mw_X5_put rfl ⟨Nat.le_of_ble_eq_true rfl, Nat.le_of_ble_eq_true rfl, Nat.le_of_ble_eq_true rfl, Nat.le_of_ble_eq_true rfl⟩ hl.1 rfl (Nat.le_of_ble_eq_true rfl) dX8_feed_33 (fun H locs hR hS => ?_)
    refine lv_aload_n hx hb dX8_feed_36 rfl (lv_at hl 0 rfl) ?_
    refine r_get C hR 8 0 0 (v := .ref (a 5 0)) (lv0 (by decide) (by decide)) (by decide) (by decide) rfl fl_X8_10 dX8_feed_37 ?_
    refine lv_iload hx hb dX8_feed_40 (lv_at hl 4 rfl) ?_
    obtain ⟨u111, hc110, h⟩ := ob h
    refine r_callV0 (As := [.int x4]) (rest := []) (r := 5) (i := 0) C (vX5_put hc110) hR hS (lv0 (by decide) (by decide)) (by decide) ml_X8_98 mw_X5_put rfl ⟨Nat.le_of_ble_eq_true rfl, Nat.le_of_ble_eq_true rfl, Nat.le_of_ble_eq_true rfl, Nat.le_of_ble_eq_true rfl⟩ hl.1 rfl (Nat.le_of_ble_eq_true rfl) dX8_feed_42 (fun H locs hR hS => ?_)
    refine lv_aload_n hx hb dX8_feed_45 rfl (lv_at hl 0 rfl) ?_
    refine r_get C hR 8 0 0 (v := .ref (a 5 0)) (lv0 (by decide) (by decide)) (by decide) (by decide) rfl fl_X8_10 dX8_feed_46 ?_
    refine lv_iload hx hb dX8_feed_49 (lv_at hl 5 rfl) ?_
    obtain ⟨u113, hc112, h⟩ := ob h
    refine r_callV0 (As := [.int x5]) (rest := []) (r := 5) (i := 0) C (vX5_put hc112) hR hS (lv0 (by decide) (by decide)) (by decide) ml_X8_98 mw_X5_put rfl ⟨Nat.le_of_ble_eq_true rfl, Nat.le_of_ble_eq_true rfl, Nat.le_of_ble_eq_true rfl, Nat.le_of_ble_eq_true rfl⟩ hl.1 rfl (Nat.le_of_ble_eq_true rfl) dX8_feed_51 (fun H locs hR hS => ?_)
    refine lv_aload_n hx hb dX8_feed_54 rfl (lv_at hl 0 rfl) ?_
    refine r_get C hR 8 0 0 (v := .ref (a 5 0)) (lv0 (by decide) (by decide)) (by decide) (by decide) rfl fl_X8_10 dX8_feed_55 ?_
    refine r_get C hR 5 0 1 (v := .int (gI u113 5 0 1)) (lv0 (by decide) (by decide)) (by decide) (by decide) rfl fl_X8_102 dX8_feed_58 ?_
    cases h
    exact e_iret C hr hR hS (Nat.le_of_ble_eq_true rfl) (Nat.le_of_ble_eq_true rfl) dX8_feed_61
  · rw [if_pos c_103] at h
    refine lv_iconst (v := (-1)) hx hb dX8_feed_10 (by decide) ?_
    cases h
    exact e_iret C hr hR hS (Nat.le_of_ble_eq_true rfl) (Nat.le_of_ble_eq_true rfl) dX8_feed_11
set_option maxHeartbeats 4000000 in
set_option maxRecDepth 100000 in
theorem vX8_fault {l : Launch} {E : EV} {a : Nat → Nat → Nat} {u0 : HS}  {out : Int32} (h : mX8_fault u0 = some out) : Ct l E yX8_fault cX8_fault 1 (some .int) 0 0 0 0 a u0 [.ref (a 8 0)] (some (.int out)) u0 := by
  refine Ct.start (by decide) (Nat.le_of_ble_eq_true rfl) ?_
  intro p e s m args below meth c ls C hr hR hS hl
  have C : Cx E p s m args meth c cX8_fault 1 RX8 := C
  have hl : lv_has ls 1 [(0, .ref (a 8 0))] := hl
  have hx := C.1
  have hb := C.2.1
  unfold mX8_fault at h
  refine lv_aload_n hx hb dX8_fault_0 rfl (lv_at hl 0 rfl) ?_
  refine r_get C hR 8 0 0 (v := .ref (a 5 0)) (lv0 (by decide) (by decide)) (by decide) (by decide) rfl fl_X8_10 dX8_fault_1 ?_
  refine r_get C hR 5 0 6 (v := .int (gI u0 5 0 6)) (lv0 (by decide) (by decide)) (by decide) (by decide) rfl fl_X8_125 dX8_fault_4 ?_
  cases h
  exact e_iret C hr hR hS (Nat.le_of_ble_eq_true rfl) (Nat.le_of_ble_eq_true rfl) dX8_fault_7
set_option maxHeartbeats 4000000 in
set_option maxRecDepth 100000 in
theorem vX8_sceneFor {l : Launch} {E : EV} {a : Nat → Nat → Nat} {u0 : HS} {x1 : Int32} {out : Nat} (h : mX8_sceneFor u0 x1 = some out) : Ct l E yX8_sceneFor cX8_sceneFor 2 (some (.object "MiddleUnseen$Scene")) 0 0 0 0 a u0 [.ref (a 8 0), .int x1] (some (.ref (a 3 out))) u0 := by
  refine Ct.start (by decide) (Nat.le_of_ble_eq_true rfl) ?_
  intro p e s m args below meth c ls C hr hR hS hl
  have C : Cx E p s m args meth c cX8_sceneFor 2 RX8 := C
  have hl : lv_has ls 2 [(0, .ref (a 8 0)), (1, .int x1)] := hl
  have hx := C.1
  have hb := C.2.1
  unfold mX8_sceneFor at h
  refine lv_aload_n hx hb dX8_sceneFor_0 rfl (lv_at hl 0 rfl) ?_
  refine r_get C hR 8 0 1 (v := .ref (a 50 0)) (lv0 (by decide) (by decide)) (by decide) (by decide) rfl fl_X8_18 dX8_sceneFor_1 ?_
  refine lv_aload_n hx hb dX8_sceneFor_4 rfl (lv_at hl 0 rfl) ?_
  refine r_get C hR 8 0 8 (v := .ref (a 0 0)) (lv0 (by decide) (by decide)) (by decide) (by decide) rfl fl_X8_56 dX8_sceneFor_5 ?_
  refine r_get C hR 0 0 1 (v := .ref (a 20 0)) (lv0 (by decide) (by decide)) (by decide) (by decide) rfl fl_X8_376 dX8_sceneFor_8 ?_
  refine lv_iload_n hx hb dX8_sceneFor_11 rfl (lv_at hl 1 rfl) ?_
  obtain ⟨k101, hk101, h⟩ := ob h
  refine r_ald C hR 20 0 (lv0 (by decide) (by decide)) (by decide) rfl (fun _ => rfl) rfl hk101 dX8_sceneFor_12 ?_
  obtain ⟨k102, hk102, h⟩ := ob h
  have hLk102 : k102 < cntS 3 := by have q1 := (ck_in hk102).2.2; have q2 : cntS 3 = 7 := rfl; omega
  refine r_aald C hR 50 0 3 0 2 (lv0 (by decide) (by decide)) (by decide) rfl rfl rfl (fun _ => rfl) rfl hk102 dX8_sceneFor_13 ?_
  cases h
  exact e_aret C hr hR hS (Nat.le_of_ble_eq_true rfl) (Nat.le_of_ble_eq_true rfl) dX8_sceneFor_14
theorem vX8_sceneFor_lt {u0 : HS} {x1 : Int32} {out : Nat} (h : mX8_sceneFor u0 x1 = some out) : out < cntS 3 := by
  unfold mX8_sceneFor at h
  obtain ⟨k1, h1, h⟩ := ob h
  obtain ⟨k2, h2, h⟩ := ob h
  cases h
  have q1 := (ck_in h2).2.2
  have q2 : cntS 3 = 7 := rfl
  omega
set_option maxHeartbeats 4000000 in
set_option maxRecDepth 100000 in
theorem vX8_isHeard {l : Launch} {E : EV} {a : Nat → Nat → Nat} {u0 : HS} {x1 : Int32} {out : Int32} (h : mX8_isHeard u0 x1 = some out) : Ct l E yX8_isHeard cX8_isHeard 2 (some .boolean) 1 22 0 0 a u0 [.ref (a 8 0), .int x1] (some (.int out)) u0 := by
  refine Ct.start (by decide) (Nat.le_of_ble_eq_true rfl) ?_
  intro p e s m args below meth c ls C hr hR hS hl
  have C : Cx E p s m args meth c cX8_isHeard 2 RX8 := C
  have hl : lv_has ls 2 [(0, .ref (a 8 0)), (1, .int x1)] := hl
  have hx := C.1
  have hb := C.2.1
  unfold mX8_isHeard at h
  refine lv_aload_n hx hb dX8_isHeard_0 rfl (lv_at hl 0 rfl) ?_
  refine lv_iload_n hx hb dX8_isHeard_1 rfl (lv_at hl 1 rfl) ?_
  obtain ⟨k102, hc101, h⟩ := ob h
  have hLk102 : k102 < cntS 3 := vX8_sceneFor_lt hc101
  refine r_callV1 (As := [.int x1]) (rest := []) (r := 8) (i := 0) C (vX8_sceneFor hc101) hR hS (lv0 (by decide) (by decide)) (by decide) ml_X8_216 mw_X8_sceneFor rfl ⟨Nat.le_of_ble_eq_true rfl, Nat.le_of_ble_eq_true rfl, Nat.le_of_ble_eq_true rfl, Nat.le_of_ble_eq_true rfl⟩ hl.1 rfl (Nat.le_of_ble_eq_true rfl) dX8_isHeard_2 (fun H locs hR hS => ?_)
  refine r_get C hR 3 k102 9 (v := .int (gI u0 3 k102 9)) (lv0 hLk102 (by decide)) (by decide) (by decide) rfl fl_X8_143 dX8_isHeard_5 ?_
  refine lv_iconst (v := (-1)) hx hb dX8_isHeard_8 (by decide) ?_
  refine lv_icmp_eq (tgt := 40) hx hb dX8_isHeard_9 (by decide) (fun c_103 => ?_) (fun c_103 => ?_)
  · rw [if_pos c_103] at h
    refine lv_iconst (v := 0) hx hb dX8_isHeard_40 (by decide) ?_
    cases h
    exact e_zret (v := 0) C hr rfl hR hS (Nat.le_of_ble_eq_true rfl) (Nat.le_of_ble_eq_true rfl) dX8_isHeard_41
  · rw [if_neg c_103] at h
    refine lv_aload_n hx hb dX8_isHeard_12 rfl (lv_at hl 0 rfl) ?_
    refine r_get C hR 8 0 8 (v := .ref (a 0 0)) (lv0 (by decide) (by decide)) (by decide) (by decide) rfl fl_X8_56 dX8_isHeard_13 ?_
    refine lv_iload_n hx hb dX8_isHeard_16 rfl (lv_at hl 1 rfl) ?_
    obtain ⟨x105, hc104, h⟩ := ob h
    refine r_callV1 (As := [.int x1]) (rest := []) (r := 0) (i := 0) C (vX0_isKnowing (by decide) hc104) hR hS (lv0 (by decide) (by decide)) (by decide) ml_X8_256 mw_X0_isKnowing rfl ⟨Nat.le_of_ble_eq_true rfl, Nat.le_of_ble_eq_true rfl, Nat.le_of_ble_eq_true rfl, Nat.le_of_ble_eq_true rfl⟩ hl.1 rfl (Nat.le_of_ble_eq_true rfl) dX8_isHeard_17 (fun H locs hR hS => ?_)
    refine lv_if_ne (tgt := 40) hx hb dX8_isHeard_20 (by decide) (fun c_106 => ?_) (fun c_106 => ?_)
    · rw [if_neg c_106] at h
      refine lv_iconst (v := 0) hx hb dX8_isHeard_40 (by decide) ?_
      cases h
      exact e_zret (v := 0) C hr rfl hR hS (Nat.le_of_ble_eq_true rfl) (Nat.le_of_ble_eq_true rfl) dX8_isHeard_41
    · rw [if_pos c_106] at h
      refine lv_aload_n hx hb dX8_isHeard_23 rfl (lv_at hl 0 rfl) ?_
      refine r_get C hR 8 0 8 (v := .ref (a 0 0)) (lv0 (by decide) (by decide)) (by decide) (by decide) rfl fl_X8_56 dX8_isHeard_24 ?_
      refine lv_iload_n hx hb dX8_isHeard_27 rfl (lv_at hl 1 rfl) ?_
      refine lv_iconst (v := 0) hx hb dX8_isHeard_28 (by decide) ?_
      obtain ⟨x108, hc107, h⟩ := ob h
      refine r_callV1 (As := [.int x1, .int 0]) (rest := []) (r := 0) (i := 0) C (vX0_reply (by decide) hc107) hR hS (lv0 (by decide) (by decide)) (by decide) ml_X8_277 mw_X0_reply rfl ⟨Nat.le_of_ble_eq_true rfl, Nat.le_of_ble_eq_true rfl, Nat.le_of_ble_eq_true rfl, Nat.le_of_ble_eq_true rfl⟩ hl.1 rfl (Nat.le_of_ble_eq_true rfl) dX8_isHeard_29 (fun H locs hR hS => ?_)
      refine lv_iconst (v := (-1)) hx hb dX8_isHeard_32 (by decide) ?_
      refine lv_icmp_eq (tgt := 40) hx hb dX8_isHeard_33 (by decide) (fun c_109 => ?_) (fun c_109 => ?_)
      · rw [if_pos c_109] at h
        refine lv_iconst (v := 0) hx hb dX8_isHeard_40 (by decide) ?_
        cases h
        exact e_zret (v := 0) C hr rfl hR hS (Nat.le_of_ble_eq_true rfl) (Nat.le_of_ble_eq_true rfl) dX8_isHeard_41
      · rw [if_neg c_109] at h
        refine lv_iconst (v := 1) hx hb dX8_isHeard_36 (by decide) ?_
        refine lv_goto (tgt := 41) hx hb dX8_isHeard_37 (by decide) ?_
        cases h
        exact e_zret (v := 1) C hr rfl hR hS (Nat.le_of_ble_eq_true rfl) (Nat.le_of_ble_eq_true rfl) dX8_isHeard_41
set_option maxHeartbeats 4000000 in
set_option maxRecDepth 100000 in
theorem vX8_lookAs {l : Launch} {E : EV} {a : Nat → Nat → Nat} {u0 : HS} {x1 : Int32} {x2 : Int32} {out : HS} (h : mX8_lookAs u0 x1 x2 = some out) : Ct l E yX8_lookAs cX8_lookAs 3 none 4 92 0 0 a u0 [.ref (a 8 0), .int x1, .int x2] none out := by
  refine Ct.start (by decide) (Nat.le_of_ble_eq_true rfl) ?_
  intro p e s m args below meth c ls C hr hR hS hl
  have C : Cx E p s m args meth c cX8_lookAs 3 RX8 := C
  have hl : lv_has ls 3 [(0, .ref (a 8 0)), (1, .int x1), (2, .int x2)] := hl
  have hx := C.1
  have hb := C.2.1
  unfold mX8_lookAs at h
  refine lv_aload_n hx hb dX8_lookAs_0 rfl (lv_at hl 0 rfl) ?_
  refine r_get C hR 8 0 11 (v := .ref (a 7 0)) (lv0 (by decide) (by decide)) (by decide) (by decide) rfl fl_X8_70 dX8_lookAs_1 ?_
  refine lv_aload_n hx hb dX8_lookAs_4 rfl (lv_at hl 0 rfl) ?_
  refine lv_iload_n hx hb dX8_lookAs_5 rfl (lv_at hl 1 rfl) ?_
  obtain ⟨k102, hc101, h⟩ := ob h
  have hLk102 : k102 < cntS 3 := vX8_sceneFor_lt hc101
  refine r_callV1 (As := [.int x1]) (rest := [.ref (a 7 0)]) (r := 8) (i := 0) C (vX8_sceneFor hc101) hR hS (lv0 (by decide) (by decide)) (by decide) ml_X8_216 mw_X8_sceneFor rfl ⟨Nat.le_of_ble_eq_true rfl, Nat.le_of_ble_eq_true rfl, Nat.le_of_ble_eq_true rfl, Nat.le_of_ble_eq_true rfl⟩ hl.1 rfl (Nat.le_of_ble_eq_true rfl) dX8_lookAs_6 (fun H locs hR hS => ?_)
  refine lv_aload_n hx hb dX8_lookAs_9 rfl (lv_at hl 0 rfl) ?_
  refine r_get C hR 8 0 3 (v := .ref (a 51 0)) (lv0 (by decide) (by decide)) (by decide) (by decide) rfl fl_X8_28 dX8_lookAs_10 ?_
  refine lv_aload_n hx hb dX8_lookAs_13 rfl (lv_at hl 0 rfl) ?_
  refine r_get C hR 8 0 8 (v := .ref (a 0 0)) (lv0 (by decide) (by decide)) (by decide) (by decide) rfl fl_X8_56 dX8_lookAs_14 ?_
  refine r_get C hR 0 0 2 (v := .ref (a 21 0)) (lv0 (by decide) (by decide)) (by decide) (by decide) rfl fl_X8_379 dX8_lookAs_17 ?_
  refine lv_iload_n hx hb dX8_lookAs_20 rfl (lv_at hl 1 rfl) ?_
  obtain ⟨k103, hk103, h⟩ := ob h
  refine r_ald C hR 21 0 (lv0 (by decide) (by decide)) (by decide) rfl (fun _ => rfl) rfl hk103 dX8_lookAs_21 ?_
  obtain ⟨k104, hk104, h⟩ := ob h
  have hLk104 : k104 < cntS 6 := by have q1 := (ck_in hk104).2.2; have q2 : cntS 6 = 7 := rfl; omega
  refine r_aald C hR 51 0 6 0 3 (lv0 (by decide) (by decide)) (by decide) rfl rfl rfl (fun _ => rfl) rfl hk104 dX8_lookAs_22 ?_
  refine lv_aload_n hx hb dX8_lookAs_23 rfl (lv_at hl 0 rfl) ?_
  refine r_get C hR 8 0 8 (v := .ref (a 0 0)) (lv0 (by decide) (by decide)) (by decide) (by decide) rfl fl_X8_56 dX8_lookAs_24 ?_
  refine lv_iload_n hx hb dX8_lookAs_27 rfl (lv_at hl 1 rfl) ?_
  obtain ⟨x106, hc105, h⟩ := ob h
  refine r_callV1 (As := [.int x1]) (rest := [.ref (a 6 k104), .ref (a 3 k102), .ref (a 7 0)]) (r := 0) (i := 0) C (vX0_isKnowing (by decide) hc105) hR hS (lv0 (by decide) (by decide)) (by decide) ml_X8_256 mw_X0_isKnowing rfl ⟨Nat.le_of_ble_eq_true rfl, Nat.le_of_ble_eq_true rfl, Nat.le_of_ble_eq_true rfl, Nat.le_of_ble_eq_true rfl⟩ hl.1 rfl (Nat.le_of_ble_eq_true rfl) dX8_lookAs_28 (fun H locs hR hS => ?_)
  refine lv_iload_n hx hb dX8_lookAs_31 rfl (lv_at hl 2 rfl) ?_
  obtain ⟨u108, hc107, h⟩ := ob h
  refine r_callV0 (As := [.ref (a 3 k102), .ref (a 6 k104), .int x106, .int x2]) (rest := []) (r := 7) (i := 0) C (vX7_open hLk102 hLk104 hc107) hR hS (lv0 (by decide) (by decide)) (by decide) ml_X8_382 mw_X7_open rfl ⟨Nat.le_of_ble_eq_true rfl, Nat.le_of_ble_eq_true rfl, Nat.le_of_ble_eq_true rfl, Nat.le_of_ble_eq_true rfl⟩ hl.1 rfl (Nat.le_of_ble_eq_true rfl) dX8_lookAs_32 (fun H locs hR hS => ?_)
  refine lv_aload_n hx hb dX8_lookAs_35 rfl (lv_at hl 0 rfl) ?_
  refine r_get C hR 8 0 11 (v := .ref (a 7 0)) (lv0 (by decide) (by decide)) (by decide) (by decide) rfl fl_X8_70 dX8_lookAs_36 ?_
  refine lv_aload_n hx hb dX8_lookAs_39 rfl (lv_at hl 0 rfl) ?_
  refine r_get C hR 8 0 8 (v := .ref (a 0 0)) (lv0 (by decide) (by decide)) (by decide) (by decide) rfl fl_X8_56 dX8_lookAs_40 ?_
  refine lv_iload_n hx hb dX8_lookAs_43 rfl (lv_at hl 1 rfl) ?_
  refine lv_iload_n hx hb dX8_lookAs_44 rfl (lv_at hl 2 rfl) ?_
  obtain ⟨u110, hc109, h⟩ := ob h
  refine r_callV0 (As := [.ref (a 0 0), .int x1, .int x2]) (rest := []) (r := 7) (i := 0) C (vX7_heed (by decide) hc109) hR hS (lv0 (by decide) (by decide)) (by decide) ml_X8_385 mw_X7_heed rfl ⟨Nat.le_of_ble_eq_true rfl, Nat.le_of_ble_eq_true rfl, Nat.le_of_ble_eq_true rfl, Nat.le_of_ble_eq_true rfl⟩ hl.1 rfl (Nat.le_of_ble_eq_true rfl) dX8_lookAs_45 (fun H locs hR hS => ?_)
  refine lv_aload_n hx hb dX8_lookAs_48 rfl (lv_at hl 0 rfl) ?_
  refine r_get C hR 8 0 12 (v := .ref (a 4 0)) (lv0 (by decide) (by decide)) (by decide) (by decide) rfl fl_X8_79 dX8_lookAs_49 ?_
  obtain ⟨u112, hc111, h⟩ := ob h
  refine r_callV0 (As := []) (rest := []) (r := 4) (i := 0) C (vX4_plain hc111) hR hS (lv0 (by decide) (by decide)) (by decide) ml_X8_389 mw_X4_plain rfl ⟨Nat.le_of_ble_eq_true rfl, Nat.le_of_ble_eq_true rfl, Nat.le_of_ble_eq_true rfl, Nat.le_of_ble_eq_true rfl⟩ hl.1 rfl (Nat.le_of_ble_eq_true rfl) dX8_lookAs_52 (fun H locs hR hS => ?_)
  cases h
  exact e_vret C hr hR hS (Nat.le_of_ble_eq_true rfl) (Nat.le_of_ble_eq_true rfl) dX8_lookAs_55
set_option maxHeartbeats 4000000 in
set_option maxRecDepth 100000 in
theorem vX8_stateOf {l : Launch} {E : EV} {a : Nat → Nat → Nat} {u0 : HS} {x1 : Int32} {x2 : Int32} {out : (Int32 × HS)} (h : mX8_stateOf u0 x1 x2 = some out) : Ct l E yX8_stateOf cX8_stateOf 4 (some .int) 5 122 0 0 a u0 [.ref (a 8 0), .int x1, .int x2] (some (.int out.1)) out.2 := by
  refine Ct.start (by decide) (Nat.le_of_ble_eq_true rfl) ?_
  intro p e s m args below meth c ls C hr hR hS hl
  have C : Cx E p s m args meth c cX8_stateOf 4 RX8 := C
  have hl : lv_has ls 4 [(0, .ref (a 8 0)), (1, .int x1), (2, .int x2)] := hl
  have hx := C.1
  have hb := C.2.1
  unfold mX8_stateOf at h
  refine lv_iload_n hx hb dX8_stateOf_0 rfl (lv_at hl 2 rfl) ?_
  refine lv_iconst (v := 4) hx hb dX8_stateOf_1 (by decide) ?_
  refine lv_imul hx hb dX8_stateOf_2 ?_
  refine lv_iload_n hx hb dX8_stateOf_3 rfl (lv_at hl 1 rfl) ?_
  refine lv_iadd hx hb dX8_stateOf_4 ?_
  refine lv_topi (fun x101 ex101 => ?_)
  replace h := bd_x ex101 h
  refine lv_istore_n (lv' := [(3, .int x101), (0, .ref (a 8 0)), (1, .int x1), (2, .int x2)]) hx hb dX8_stateOf_5 rfl hl (by decide) rfl (fun ls hl => ?_)
  refine lv_aload_n hx hb dX8_stateOf_6 rfl (lv_at hl 1 rfl) ?_
  refine r_get C hR 8 0 13 (v := .ref (a 54 0)) (lv0 (by decide) (by decide)) (by decide) (by decide) rfl fl_X8_83 dX8_stateOf_7 ?_
  refine lv_iload_n hx hb dX8_stateOf_10 rfl (lv_at hl 0 rfl) ?_
  obtain ⟨k102, hk102, h⟩ := ob h
  refine r_ald C hR 54 0 (lv0 (by decide) (by decide)) (by decide) rfl (fun _ => rfl) rfl hk102 dX8_stateOf_11 ?_
  refine lv_iconst (v := (-1)) hx hb dX8_stateOf_12 (by decide) ?_
  obtain ⟨u103, hz, h⟩ := ob h
  have Kj104 : ∀ (H : Heap) (locs : List Loc) (ls : Array Slot), Rel E a u103 H → va_S (AE E) s.heap H locs → lv_has ls 4 [(0, .ref (a 8 0)), (3, .int x101)] → W p l e { frames := 5, cells := 0, slots := 0, locals := 122 } s m args below meth c H locs 0 0 (MQ below (QW E a (some (.int out.1)) out.2) args s 0 0 (AE E)) (F0 m 48 ls []) := by
    intro H locs ls hR hS hl
    clear hz
    refine lv_aload_n hx hb dX8_stateOf_48 rfl (lv_at hl 0 rfl) ?_
    refine r_get C hR 8 0 13 (v := .ref (a 54 0)) (lv0 (by decide) (by decide)) (by decide) (by decide) rfl fl_X8_83 dX8_stateOf_49 ?_
    refine lv_iload_n hx hb dX8_stateOf_52 rfl (lv_at hl 1 rfl) ?_
    obtain ⟨k105, hk105, h⟩ := ob h
    refine r_ald C hR 54 0 (lv0 (by decide) (by decide)) (by decide) rfl (fun _ => rfl) rfl hk105 dX8_stateOf_53 ?_
    cases h
    exact e_iret C hr hR hS (Nat.le_of_ble_eq_true rfl) (Nat.le_of_ble_eq_true rfl) dX8_stateOf_54
  clear h
  have h := hz
  clear hz
  refine lv_icmp_ne (tgt := 48) hx hb dX8_stateOf_13 (by decide) (fun c_106 => ?_) (fun c_106 => ?_)
  · rw [if_neg c_106] at h
    cases h
    exact Kj104 _ _ _ hR hS (lv_sub hl [1, 0] rfl)
  · rw [if_pos c_106] at h
    refine lv_aload_n hx hb dX8_stateOf_16 rfl (lv_at hl 1 rfl) ?_
    refine lv_iload_n hx hb dX8_stateOf_17 rfl (lv_at hl 3 rfl) ?_
    refine lv_aload_n hx hb dX8_stateOf_18 rfl (lv_at hl 1 rfl) ?_
    refine lv_iload_n hx hb dX8_stateOf_19 rfl (lv_at hl 3 rfl) ?_
    obtain ⟨k108, hc107, h⟩ := ob h
    have hLk108 : k108 < cntS 3 := vX8_sceneFor_lt hc107
    refine r_callV1 (As := [.int x2]) (rest := [.int x2, .ref (a 8 0)]) (r := 8) (i := 0) C (vX8_sceneFor hc107) hR hS (lv0 (by decide) (by decide)) (by decide) ml_X8_216 mw_X8_sceneFor rfl ⟨Nat.le_of_ble_eq_true rfl, Nat.le_of_ble_eq_true rfl, Nat.le_of_ble_eq_true rfl, Nat.le_of_ble_eq_true rfl⟩ hl.1 rfl (Nat.le_of_ble_eq_true rfl) dX8_stateOf_20 (fun H locs hR hS => ?_)
    refine r_get C hR 3 k108 11 (v := .int (gI u0 3 k108 11)) (lv0 hLk108 (by decide)) (by decide) (by decide) rfl fl_X8_140 dX8_stateOf_23 ?_
    obtain ⟨u110, hc109, h⟩ := ob h
    refine r_callV0 (As := [.int x2, .int (gI u0 3 k108 11)]) (rest := []) (r := 8) (i := 0) C (vX8_lookAs hc109) hR hS (lv0 (by decide) (by decide)) (by decide) ml_X8_209 mw_X8_lookAs rfl ⟨Nat.le_of_ble_eq_true rfl, Nat.le_of_ble_eq_true rfl, Nat.le_of_ble_eq_true rfl, Nat.le_of_ble_eq_true rfl⟩ hl.1 rfl (Nat.le_of_ble_eq_true rfl) dX8_stateOf_26 (fun H locs hR hS => ?_)
    refine lv_aload_n hx hb dX8_stateOf_29 rfl (lv_at hl 1 rfl) ?_
    refine r_get C hR 8 0 13 (v := .ref (a 54 0)) (lv0 (by decide) (by decide)) (by decide) (by decide) rfl fl_X8_83 dX8_stateOf_30 ?_
    refine lv_iload_n hx hb dX8_stateOf_33 rfl (lv_at hl 0 rfl) ?_
    refine lv_aload_n hx hb dX8_stateOf_34 rfl (lv_at hl 1 rfl) ?_
    refine r_get C hR 8 0 12 (v := .ref (a 4 0)) (lv0 (by decide) (by decide)) (by decide) (by decide) rfl fl_X8_79 dX8_stateOf_35 ?_
    refine lv_aload_n hx hb dX8_stateOf_38 rfl (lv_at hl 1 rfl) ?_
    refine r_get C hR 8 0 5 (v := .ref (a 52 0)) (lv0 (by decide) (by decide)) (by decide) (by decide) rfl fl_X8_37 dX8_stateOf_39 ?_
    refine lv_iload_n hx hb dX8_stateOf_42 rfl (lv_at hl 2 rfl) ?_
    obtain ⟨k111, hk111, h⟩ := ob h
    have hLk111 : k111 < cntS 1 := by have q1 := (ck_in hk111).2.2; have q2 : cntS 1 = 5 := rfl; omega
    refine r_aald C hR 52 0 1 0 4 (lv0 (by decide) (by decide)) (by decide) rfl rfl rfl (fun _ => rfl) rfl hk111 dX8_stateOf_43 ?_
    obtain ⟨⟨x113, u114⟩, hc112, h⟩ := ob h
    replace h := bd_x (x := x113) rfl h
    replace h := bd_x (x := u114) rfl h
    refine r_callV1 (As := [.ref (a 1 k111)]) (rest := [.int x101, .ref (a 54 0)]) (r := 4) (i := 0) C (vX4_judge hLk111 hc112) hR hS (lv0 (by decide) (by decide)) (by decide) ml_X8_392 mw_X4_judge rfl ⟨Nat.le_of_ble_eq_true rfl, Nat.le_of_ble_eq_true rfl, Nat.le_of_ble_eq_true rfl, Nat.le_of_ble_eq_true rfl⟩ hl.1 rfl (Nat.le_of_ble_eq_true rfl) dX8_stateOf_44 (fun H locs hR hS => ?_)
    obtain ⟨k115, hk115, h⟩ := ob h
    refine r_ast C hR hS 54 0 (lv0 (by decide) (by decide)) (by decide) rfl (fun _ _ => rfl) rfl hk115 dX8_stateOf_47 (fun H locs hR hS => ?_)
    obtain ⟨u116, eu116⟩ : ∃ z : HS, z = wI u114 54 0 k115 x113 := ⟨_, rfl⟩
    rw [← eu116] at hR
    replace h := bd_x eu116 h
    clear eu116
    cases h
    exact Kj104 _ _ _ hR hS (lv_sub hl [1, 0] rfl)
set_option maxHeartbeats 4000000 in
set_option maxRecDepth 100000 in
theorem vX8_isYes {l : Launch} {E : EV} {a : Nat → Nat → Nat} {u0 : HS} {x0 : Int32} {x1 : Int32} {out : Int32} (h : mX8_isYes x0 x1 = some out) : Ct l E yX8_isYes cX8_isYes 2 (some .boolean) 0 0 0 0 a u0 [.int x0, .int x1] (some (.int out)) u0 := by
  refine Ct.start (by decide) (Nat.le_of_ble_eq_true rfl) ?_
  intro p e s m args below meth c ls C hr hR hS hl
  have C : Cx E p s m args meth c cX8_isYes 2 RX8 := C
  have hl : lv_has ls 2 [(0, .int x0), (1, .int x1)] := hl
  have hx := C.1
  have hb := C.2.1
  unfold mX8_isYes at h
  refine lv_iload_n hx hb dX8_isYes_0 rfl (lv_at hl 1 rfl) ?_
  by_cases c_101 : x1 = 0
  · rw [if_pos c_101] at h
    refine sl_in c_101 hx hb dX8_isYes_1 (by decide) (by decide) (by decide) (tgt := 28) (off := 27) ?_
    refine lv_iload_n hx hb dX8_isYes_28 rfl (lv_at hl 0 rfl) ?_
    refine lv_iconst (v := 1) hx hb dX8_isYes_29 (by decide) ?_
    refine lv_icmp_ne (tgt := 37) hx hb dX8_isYes_30 (by decide) (fun c_102 => ?_) (fun c_102 => ?_)
    · rw [if_neg c_102] at h
      refine lv_iconst (v := 0) hx hb dX8_isYes_37 (by decide) ?_
      cases h
      exact e_zret (v := 0) C hr rfl hR hS (Nat.le_of_ble_eq_true rfl) (Nat.le_of_ble_eq_true rfl) dX8_isYes_38
    · rw [if_pos c_102] at h
      refine lv_iconst (v := 1) hx hb dX8_isYes_33 (by decide) ?_
      refine lv_goto (tgt := 38) hx hb dX8_isYes_34 (by decide) ?_
      cases h
      exact e_zret (v := 1) C hr rfl hR hS (Nat.le_of_ble_eq_true rfl) (Nat.le_of_ble_eq_true rfl) dX8_isYes_38
  rw [if_neg c_101] at h
  by_cases c_103 : x1 = 1
  · rw [if_pos c_103] at h
    refine sl_in c_103 hx hb dX8_isYes_1 (by decide) (by decide) (by decide) (tgt := 39) (off := 38) ?_
    refine lv_iload_n hx hb dX8_isYes_39 rfl (lv_at hl 0 rfl) ?_
    refine lv_iconst (v := 5) hx hb dX8_isYes_40 (by decide) ?_
    refine lv_iand hx hb dX8_isYes_41 ?_
    refine lv_iconst (v := 1) hx hb dX8_isYes_42 (by decide) ?_
    refine lv_icmp_ne (tgt := 50) hx hb dX8_isYes_43 (by decide) (fun c_104 => ?_) (fun c_104 => ?_)
    · rw [if_neg c_104] at h
      refine lv_iconst (v := 0) hx hb dX8_isYes_50 (by decide) ?_
      cases h
      exact e_zret (v := 0) C hr rfl hR hS (Nat.le_of_ble_eq_true rfl) (Nat.le_of_ble_eq_true rfl) dX8_isYes_51
    · rw [if_pos c_104] at h
      refine lv_iconst (v := 1) hx hb dX8_isYes_46 (by decide) ?_
      refine lv_goto (tgt := 51) hx hb dX8_isYes_47 (by decide) ?_
      cases h
      exact e_zret (v := 1) C hr rfl hR hS (Nat.le_of_ble_eq_true rfl) (Nat.le_of_ble_eq_true rfl) dX8_isYes_51
  rw [if_neg c_103] at h
  refine lv_lookup (tgt := 52) (off := 51) hx hb dX8_isYes_1 (by decide) (sl_ne2 c_101 c_103) (by decide) ?_
  refine lv_iload_n hx hb dX8_isYes_52 rfl (lv_at hl 0 rfl) ?_
  refine lv_iconst (v := 1) hx hb dX8_isYes_53 (by decide) ?_
  refine lv_iand hx hb dX8_isYes_54 ?_
  refine lv_if_eq (tgt := 62) hx hb dX8_isYes_55 (by decide) (fun c_105 => ?_) (fun c_105 => ?_)
  · rw [if_pos c_105] at h
    refine lv_iconst (v := 0) hx hb dX8_isYes_62 (by decide) ?_
    cases h
    exact e_zret (v := 0) C hr rfl hR hS (Nat.le_of_ble_eq_true rfl) (Nat.le_of_ble_eq_true rfl) dX8_isYes_63
  · rw [if_neg c_105] at h
    refine lv_iconst (v := 1) hx hb dX8_isYes_58 (by decide) ?_
    refine lv_goto (tgt := 63) hx hb dX8_isYes_59 (by decide) ?_
    cases h
    exact e_zret (v := 1) C hr rfl hR hS (Nat.le_of_ble_eq_true rfl) (Nat.le_of_ble_eq_true rfl) dX8_isYes_63
set_option maxHeartbeats 4000000 in
set_option maxRecDepth 100000 in
theorem vX8_oddsOf {l : Launch} {E : EV} {a : Nat → Nat → Nat} {u0 : HS} {x1 : Int32} {out : (Int64 × HS)} (h : mX8_oddsOf u0 x1 = some out) : Ct l E yX8_oddsOf cX8_oddsOf 6 (some .long) 6 145 0 0 a u0 [.ref (a 8 0), .int x1] (some (.long out.1)) out.2 := by
  refine Ct.start (by decide) (Nat.le_of_ble_eq_true rfl) ?_
  intro p e s m args below meth c ls C hr hR hS hl
  have C : Cx E p s m args meth c cX8_oddsOf 6 RX8 := C
  have hl : lv_has ls 6 [(0, .ref (a 8 0)), (1, .int x1)] := hl
  have hx := C.1
  have hb := C.2.1
  unfold mX8_oddsOf at h
  refine lv_aload_n hx hb dX8_oddsOf_0 rfl (lv_at hl 0 rfl) ?_
  refine r_get C hR 8 0 8 (v := .ref (a 0 0)) (lv0 (by decide) (by decide)) (by decide) (by decide) rfl fl_X8_56 dX8_oddsOf_1 ?_
  refine r_get C hR 0 0 15 (v := .ref (a 31 0)) (lv0 (by decide) (by decide)) (by decide) (by decide) rfl fl_X8_334 dX8_oddsOf_4 ?_
  refine lv_iload_n hx hb dX8_oddsOf_7 rfl (lv_at hl 1 rfl) ?_
  obtain ⟨k101, hk101, h⟩ := ob h
  refine r_ald C hR 31 0 (lv0 (by decide) (by decide)) (by decide) rfl (fun _ => rfl) rfl hk101 dX8_oddsOf_8 ?_
  refine lv_i2l (v := (gI u0 31 0 k101).toInt64) hx hb dX8_oddsOf_9 rfl ?_
  refine lv_topl (fun y102 ey102 => ?_)
  replace h := bd_x ey102 h
  refine lv_lstore_n (lv' := [(2, .long y102), (0, .ref (a 8 0)), (1, .int x1)]) hx hb dX8_oddsOf_10 rfl hl (by decide) rfl (fun ls hl => ?_)
  refine lv_iconst (v := 0) hx hb dX8_oddsOf_11 (by decide) ?_
  refine lv_istore (lv' := [(4, .int 0), (2, .long y102), (0, .ref (a 8 0)), (1, .int x1)]) hx hb dX8_oddsOf_12 hl (by decide) rfl (fun ls hl => ?_)
  refine jp_cut h (fun w108 hw108 h => ?_)
  have Kw108 : ∀ (y106 : Int64) (u107 : HS) (H : Heap) (locs : List Loc) (ls : Array Slot), w108 y106 u107 = some out → Rel E a u107 H → va_S (AE E) s.heap H locs → lv_has ls 6 [(2, .long y106)] → W p l e { frames := 6, cells := 0, slots := 0, locals := 145 } s m args below meth c H locs 0 0 (MQ below (QW E a (some (.long out.1)) out.2) args s 0 0 (AE E)) (F0 m 111 ls []) := by
    intro y106 u107 H locs ls h hR hS hl
    replace h := jx2 hw108 h
    refine lv_lload_n hx hb dX8_oddsOf_111 rfl (lv_at hl 0 rfl) ?_
    cases h
    exact e_lret C hr hR hS (Nat.le_of_ble_eq_true rfl) (Nat.le_of_ble_eq_true rfl) dX8_oddsOf_112
  have LP : ∀ (fu : Nat) (y103 : Int64) (x104 : Int32) (u105 : HS) (H : Heap) (locs : List Loc) (ls : Array Slot), mX8_oddsOf_L14 x1 w108 fu y103 x104 u105 = some out → Rel E a u105 H → va_S (AE E) s.heap H locs → lv_has ls 6 [(0, .ref (a 8 0)), (1, .int x1), (2, .long y103), (4, .int x104)] → W p l e { frames := 6, cells := 0, slots := 0, locals := 145 } s m args below meth c H locs 0 0 (MQ below (QW E a (some (.long out.1)) out.2) args s 0 0 (AE E)) (F0 m 14 ls []) := by
    intro fu
    induction fu with
    | zero =>
      intro y103 x104 u105 H locs ls h
      have h2 : (none : Option (Int64 × HS)) = some out := h
      cases h2
    | succ fu ih =>
      intro y103 x104 u105 H locs ls h hR hS hl
      rw [mX8_oddsOf_L14.eq_2] at h
      refine lv_iload hx hb dX8_oddsOf_14 (lv_at hl 3 rfl) ?_
      refine lv_aload_n hx hb dX8_oddsOf_16 rfl (lv_at hl 0 rfl) ?_
      refine r_get C hR 8 0 8 (v := .ref (a 0 0)) (lv0 (by decide) (by decide)) (by decide) (by decide) rfl fl_X8_56 dX8_oddsOf_17 ?_
      refine r_get C hR 0 0 0 (v := .int (gI u105 0 0 0)) (lv0 (by decide) (by decide)) (by decide) (by decide) rfl fl_X8_268 dX8_oddsOf_20 ?_
      refine lv_icmp_ge (tgt := 111) hx hb dX8_oddsOf_23 (by decide) (fun c_109 => ?_) (fun c_109 => ?_)
      · rw [if_pos c_109] at h
        exact Kw108 _ _ _ _ _ h hR hS (lv_sub hl [2] rfl)
      · rw [if_neg c_109] at h
        refine lv_aload_n hx hb dX8_oddsOf_26 rfl (lv_at hl 0 rfl) ?_
        refine lv_iload hx hb dX8_oddsOf_27 (lv_at hl 3 rfl) ?_
        obtain ⟨x111, hc110, h⟩ := ob h
        refine r_callV1 (As := [.int x104]) (rest := []) (r := 8) (i := 0) C (vX8_isHeard hc110) hR hS (lv0 (by decide) (by decide)) (by decide) ml_X8_404 mw_X8_isHeard rfl ⟨Nat.le_of_ble_eq_true rfl, Nat.le_of_ble_eq_true rfl, Nat.le_of_ble_eq_true rfl, Nat.le_of_ble_eq_true rfl⟩ hl.1 rfl (Nat.le_of_ble_eq_true rfl) dX8_oddsOf_29 (fun H locs hR hS => ?_)
        refine jp_cut h (fun j114 hj114 h => ?_)
        have Kj114 : ∀ (y112 : Int64) (u113 : HS) (H : Heap) (locs : List Loc) (ls : Array Slot), j114 y112 u113 = some out → Rel E a u113 H → va_S (AE E) s.heap H locs → lv_has ls 6 [(0, .ref (a 8 0)), (1, .int x1), (2, .long y112), (4, .int x104)] → W p l e { frames := 6, cells := 0, slots := 0, locals := 145 } s m args below meth c H locs 0 0 (MQ below (QW E a (some (.long out.1)) out.2) args s 0 0 (AE E)) (F0 m 105 ls []) := by
          intro y112 u113 H locs ls h hR hS hl
          replace h := jx2 hj114 h
          obtain ⟨x115, ex115⟩ : ∃ z : Int32, z = x104 + 1 := ⟨_, rfl⟩
          replace h := bd_x ex115 h
          refine lv_iinc (v := x115) (lv' := [(4, .int x115), (0, .ref (a 8 0)), (1, .int x1), (2, .long y112)]) hx hb dX8_oddsOf_105 hl (k := 3) rfl (by rw [ex115]; rfl) (by decide) rfl (fun ls hl => ?_)
          refine lv_goto (tgt := 14) hx hb dX8_oddsOf_108 (by decide) ?_
          exact ih _ _ _ _ _ _ h hR hS (lv_sub hl [1, 2, 3, 0] rfl)
        refine lv_if_eq (tgt := 105) hx hb dX8_oddsOf_32 (by decide) (fun c_116 => ?_) (fun c_116 => ?_)
        · rw [if_pos c_116] at h
          exact Kj114 _ _ _ _ _ h hR hS (lv_sub hl [0, 1, 2, 3] rfl)
        · rw [if_neg c_116] at h
          refine lv_aload_n hx hb dX8_oddsOf_35 rfl (lv_at hl 0 rfl) ?_
          refine lv_iload_n hx hb dX8_oddsOf_36 rfl (lv_at hl 1 rfl) ?_
          refine lv_iload hx hb dX8_oddsOf_37 (lv_at hl 3 rfl) ?_
          obtain ⟨⟨x118, u119⟩, hc117, h⟩ := ob h
          replace h := bd_x (x := x118) rfl h
          replace h := bd_x (x := u119) rfl h
          refine r_callV1 (As := [.int x1, .int x104]) (rest := []) (r := 8) (i := 0) C (vX8_stateOf hc117) hR hS (lv0 (by decide) (by decide)) (by decide) ml_X8_250 mw_X8_stateOf rfl ⟨Nat.le_of_ble_eq_true rfl, Nat.le_of_ble_eq_true rfl, Nat.le_of_ble_eq_true rfl, Nat.le_of_ble_eq_true rfl⟩ hl.1 rfl (Nat.le_of_ble_eq_true rfl) dX8_oddsOf_39 (fun H locs hR hS => ?_)
          refine lv_iconst (v := 0) hx hb dX8_oddsOf_42 (by decide) ?_
          obtain ⟨x121, hc120, h⟩ := ob h
          refine r_callS1 (As := [.int x118, .int 0]) (rest := []) C (vX8_isYes hc120) hR hS ml_X8_253 ms_X8_isYes rfl ⟨Nat.le_of_ble_eq_true rfl, Nat.le_of_ble_eq_true rfl, Nat.le_of_ble_eq_true rfl, Nat.le_of_ble_eq_true rfl⟩ hl.1 rfl (Nat.le_of_ble_eq_true rfl) dX8_oddsOf_43 (fun H locs hR hS => ?_)
          refine lv_aload_n hx hb dX8_oddsOf_46 rfl (lv_at hl 0 rfl) ?_
          refine r_get C hR 8 0 8 (v := .ref (a 0 0)) (lv0 (by decide) (by decide)) (by decide) (by decide) rfl fl_X8_56 dX8_oddsOf_47 ?_
          refine lv_iload hx hb dX8_oddsOf_50 (lv_at hl 3 rfl) ?_
          refine lv_iconst (v := 0) hx hb dX8_oddsOf_52 (by decide) ?_
          obtain ⟨x123, hc122, h⟩ := ob h
          refine r_callV1 (As := [.int x104, .int 0]) (rest := [.int x121]) (r := 0) (i := 0) C (vX0_reply (by decide) hc122) hR hS (lv0 (by decide) (by decide)) (by decide) ml_X8_277 mw_X0_reply rfl ⟨Nat.le_of_ble_eq_true rfl, Nat.le_of_ble_eq_true rfl, Nat.le_of_ble_eq_true rfl, Nat.le_of_ble_eq_true rfl⟩ hl.1 rfl (Nat.le_of_ble_eq_true rfl) dX8_oddsOf_53 (fun H locs hR hS => ?_)
          refine lv_iconst (v := 1) hx hb dX8_oddsOf_56 (by decide) ?_
          obtain ⟨x124, hz, h⟩ := ob h
          have Kj125 : ∀ (H : Heap) (locs : List Loc) (ls : Array Slot), Rel E a u119 H → va_S (AE E) s.heap H locs → lv_has ls 6 [(0, .ref (a 8 0)), (1, .int x1), (2, .long y103), (4, .int x104)] → W p l e { frames := 6, cells := 0, slots := 0, locals := 145 } s m args below meth c H locs 0 0 (MQ below (QW E a (some (.long out.1)) out.2) args s 0 0 (AE E)) (F0 m 65 ls [.int x124, .int x121]) := by
            intro H locs ls hR hS hl
            clear hz
            obtain ⟨x126, hz, h⟩ := ob h
            have Kj127 : ∀ (H : Heap) (locs : List Loc) (ls : Array Slot), Rel E a u119 H → va_S (AE E) s.heap H locs → lv_has ls 6 [(0, .ref (a 8 0)), (1, .int x1), (2, .long y103), (4, .int x104)] → W p l e { frames := 6, cells := 0, slots := 0, locals := 145 } s m args below meth c H locs 0 0 (MQ below (QW E a (some (.long out.1)) out.2) args s 0 0 (AE E)) (F0 m 73 ls [.int x126]) := by
              intro H locs ls hR hS hl
              clear hz
              refine lv_istore (lv' := [(5, .int x126), (0, .ref (a 8 0)), (1, .int x1), (2, .long y103), (4, .int x104)]) hx hb dX8_oddsOf_73 hl (by decide) rfl (fun ls hl => ?_)
              refine lv_lload_n hx hb dX8_oddsOf_75 rfl (lv_at hl 3 rfl) ?_
              refine lv_iload hx hb dX8_oddsOf_76 (lv_at hl 0 rfl) ?_
              obtain ⟨y128, hz, h⟩ := ob h
              have Kj129 : ∀ (H : Heap) (locs : List Loc) (ls : Array Slot), Rel E a u119 H → va_S (AE E) s.heap H locs → lv_has ls 6 [(0, .ref (a 8 0)), (1, .int x1), (4, .int x104)] → W p l e { frames := 6, cells := 0, slots := 0, locals := 145 } s m args below meth c H locs 0 0 (MQ below (QW E a (some (.long out.1)) out.2) args s 0 0 (AE E)) (F0 m 103 ls [.long y128, .long y103]) := by
                intro H locs ls hR hS hl
                clear hz
                refine lv_lmul hx hb dX8_oddsOf_103 ?_
                refine lv_topl (fun y130 ey130 => ?_)
                replace h := bd_x ey130 h
                refine lv_lstore_n (lv' := [(2, .long y130), (0, .ref (a 8 0)), (1, .int x1), (4, .int x104)]) hx hb dX8_oddsOf_104 rfl hl (by decide) rfl (fun ls hl => ?_)
                exact Kj114 _ _ _ _ _ h hR hS (lv_sub hl [1, 2, 0, 3] rfl)
              clear h
              have h := hz
              clear hz
              refine lv_if_eq (tgt := 95) hx hb dX8_oddsOf_78 (by decide) (fun c_131 => ?_) (fun c_131 => ?_)
              · rw [if_pos c_131] at h
                refine lv_aload_n hx hb dX8_oddsOf_95 rfl (lv_at hl 1 rfl) ?_
                refine r_get C hR 8 0 8 (v := .ref (a 0 0)) (lv0 (by decide) (by decide)) (by decide) (by decide) rfl fl_X8_56 dX8_oddsOf_96 ?_
                refine r_get C hR 0 0 16 (v := .int (gI u119 0 0 16)) (lv0 (by decide) (by decide)) (by decide) (by decide) rfl fl_X8_337 dX8_oddsOf_99 ?_
                refine lv_i2l (v := (gI u119 0 0 16).toInt64) hx hb dX8_oddsOf_102 rfl ?_
                cases h
                exact Kj129 _ _ _ hR hS (lv_sub hl [1, 2, 4] rfl)
              · rw [if_neg c_131] at h
                refine lv_bipush (v := 16) hx hb dX8_oddsOf_81 (by decide) ?_
                refine lv_aload_n hx hb dX8_oddsOf_83 rfl (lv_at hl 1 rfl) ?_
                refine r_get C hR 8 0 8 (v := .ref (a 0 0)) (lv0 (by decide) (by decide)) (by decide) (by decide) rfl fl_X8_56 dX8_oddsOf_84 ?_
                refine r_get C hR 0 0 16 (v := .int (gI u119 0 0 16)) (lv0 (by decide) (by decide)) (by decide) (by decide) rfl fl_X8_337 dX8_oddsOf_87 ?_
                refine lv_isub hx hb dX8_oddsOf_90 ?_
                refine lv_i2l (v := (16 - (gI u119 0 0 16)).toInt64) hx hb dX8_oddsOf_91 rfl ?_
                refine lv_goto (tgt := 103) hx hb dX8_oddsOf_92 (by decide) ?_
                cases h
                exact Kj129 _ _ _ hR hS (lv_sub hl [1, 2, 4] rfl)
            clear h
            have h := hz
            clear hz
            refine lv_icmp_ne (tgt := 72) hx hb dX8_oddsOf_65 (by decide) (fun c_132 => ?_) (fun c_132 => ?_)
            · rw [if_neg c_132] at h
              refine lv_iconst (v := 0) hx hb dX8_oddsOf_72 (by decide) ?_
              cases h
              exact Kj127 _ _ _ hR hS (lv_sub hl [0, 1, 2, 3] rfl)
            · rw [if_pos c_132] at h
              refine lv_iconst (v := 1) hx hb dX8_oddsOf_68 (by decide) ?_
              refine lv_goto (tgt := 73) hx hb dX8_oddsOf_69 (by decide) ?_
              cases h
              exact Kj127 _ _ _ hR hS (lv_sub hl [0, 1, 2, 3] rfl)
          clear h
          have h := hz
          clear hz
          refine lv_icmp_ne (tgt := 64) hx hb dX8_oddsOf_57 (by decide) (fun c_133 => ?_) (fun c_133 => ?_)
          · rw [if_neg c_133] at h
            refine lv_iconst (v := 0) hx hb dX8_oddsOf_64 (by decide) ?_
            cases h
            exact Kj125 _ _ _ hR hS (lv_sub hl [0, 1, 2, 3] rfl)
          · rw [if_pos c_133] at h
            refine lv_iconst (v := 1) hx hb dX8_oddsOf_60 (by decide) ?_
            refine lv_goto (tgt := 65) hx hb dX8_oddsOf_61 (by decide) ?_
            cases h
            exact Kj125 _ _ _ hR hS (lv_sub hl [0, 1, 2, 3] rfl)
  exact LP FU _ _ _ _ _ _ h hR hS (lv_sub hl [2, 3, 1, 0] rfl)
set_option maxHeartbeats 4000000 in
set_option maxRecDepth 100000 in
theorem vX8_best {l : Launch} {E : EV} {a : Nat → Nat → Nat} {u0 : HS}  {out : (Int32 × HS)} (h : mX8_best u0 = some out) : Ct l E yX8_best cX8_best 7 (some .int) 7 170 0 0 a u0 [.ref (a 8 0)] (some (.int out.1)) out.2 := by
  refine Ct.start (by decide) (Nat.le_of_ble_eq_true rfl) ?_
  intro p e s m args below meth c ls C hr hR hS hl
  have C : Cx E p s m args meth c cX8_best 7 RX8 := C
  have hl : lv_has ls 7 [(0, .ref (a 8 0))] := hl
  have hx := C.1
  have hb := C.2.1
  unfold mX8_best at h
  refine lv_iconst (v := (-1)) hx hb dX8_best_0 (by decide) ?_
  refine lv_istore_n (lv' := [(1, .int (-1)), (0, .ref (a 8 0))]) hx hb dX8_best_1 rfl hl (by decide) rfl (fun ls hl => ?_)
  refine lv_lconst (v := 0) hx hb dX8_best_2 (by decide) ?_
  refine lv_lstore_n (lv' := [(2, .long 0), (1, .int (-1)), (0, .ref (a 8 0))]) hx hb dX8_best_3 rfl hl (by decide) rfl (fun ls hl => ?_)
  refine lv_iconst (v := 0) hx hb dX8_best_4 (by decide) ?_
  refine lv_istore (lv' := [(4, .int 0), (2, .long 0), (1, .int (-1)), (0, .ref (a 8 0))]) hx hb dX8_best_5 hl (by decide) rfl (fun ls hl => ?_)
  refine jp_cut h (fun w107 hw107 h => ?_)
  have Kw107 : ∀ (x105 : Int32) (u106 : HS) (H : Heap) (locs : List Loc) (ls : Array Slot), w107 x105 u106 = some out → Rel E a u106 H → va_S (AE E) s.heap H locs → lv_has ls 7 [(1, .int x105)] → W p l e { frames := 7, cells := 0, slots := 0, locals := 170 } s m args below meth c H locs 0 0 (MQ below (QW E a (some (.int out.1)) out.2) args s 0 0 (AE E)) (F0 m 48 ls []) := by
    intro x105 u106 H locs ls h hR hS hl
    replace h := jx2 hw107 h
    refine lv_iload_n hx hb dX8_best_48 rfl (lv_at hl 0 rfl) ?_
    cases h
    exact e_iret C hr hR hS (Nat.le_of_ble_eq_true rfl) (Nat.le_of_ble_eq_true rfl) dX8_best_49
  have LP : ∀ (fu : Nat) (x101 : Int32) (y102 : Int64) (x103 : Int32) (u104 : HS) (H : Heap) (locs : List Loc) (ls : Array Slot), mX8_best_L7  w107 fu x101 y102 x103 u104 = some out → Rel E a u104 H → va_S (AE E) s.heap H locs → lv_has ls 7 [(0, .ref (a 8 0)), (1, .int x101), (2, .long y102), (4, .int x103)] → W p l e { frames := 7, cells := 0, slots := 0, locals := 170 } s m args below meth c H locs 0 0 (MQ below (QW E a (some (.int out.1)) out.2) args s 0 0 (AE E)) (F0 m 7 ls []) := by
    intro fu
    induction fu with
    | zero =>
      intro x101 y102 x103 u104 H locs ls h
      have h2 : (none : Option (Int32 × HS)) = some out := h
      cases h2
    | succ fu ih =>
      intro x101 y102 x103 u104 H locs ls h hR hS hl
      rw [mX8_best_L7.eq_2] at h
      refine lv_iload hx hb dX8_best_7 (lv_at hl 3 rfl) ?_
      refine lv_aload_n hx hb dX8_best_9 rfl (lv_at hl 0 rfl) ?_
      refine r_get C hR 8 0 6 (v := .int (gI u104 8 0 6)) (lv0 (by decide) (by decide)) (by decide) (by decide) rfl fl_X8_41 dX8_best_10 ?_
      refine lv_icmp_ge (tgt := 48) hx hb dX8_best_13 (by decide) (fun c_108 => ?_) (fun c_108 => ?_)
      · rw [if_pos c_108] at h
        exact Kw107 _ _ _ _ _ h hR hS (lv_sub hl [1] rfl)
      · rw [if_neg c_108] at h
        refine lv_aload_n hx hb dX8_best_16 rfl (lv_at hl 0 rfl) ?_
        refine lv_iload hx hb dX8_best_17 (lv_at hl 3 rfl) ?_
        obtain ⟨⟨y110, u111⟩, hc109, h⟩ := ob h
        replace h := bd_x (x := y110) rfl h
        replace h := bd_x (x := u111) rfl h
        refine r_callV1 (As := [.int x103]) (rest := []) (r := 8) (i := 0) C (vX8_oddsOf hc109) hR hS (lv0 (by decide) (by decide)) (by decide) ml_X8_340 mw_X8_oddsOf rfl ⟨Nat.le_of_ble_eq_true rfl, Nat.le_of_ble_eq_true rfl, Nat.le_of_ble_eq_true rfl, Nat.le_of_ble_eq_true rfl⟩ hl.1 rfl (Nat.le_of_ble_eq_true rfl) dX8_best_19 (fun H locs hR hS => ?_)
        refine lv_lstore (lv' := [(5, .long y110), (0, .ref (a 8 0)), (1, .int x101), (2, .long y102), (4, .int x103)]) hx hb dX8_best_22 hl (by decide) rfl (fun ls hl => ?_)
        refine lv_iload_n hx hb dX8_best_24 rfl (lv_at hl 2 rfl) ?_
        refine lv_iconst (v := (-1)) hx hb dX8_best_25 (by decide) ?_
        refine jp_cut h (fun j114 hj114 h => ?_)
        have Kj114 : ∀ (x112 : Int32) (y113 : Int64) (H : Heap) (locs : List Loc) (ls : Array Slot), j114 x112 y113 = some out → Rel E a u111 H → va_S (AE E) s.heap H locs → lv_has ls 7 [(0, .ref (a 8 0)), (1, .int x112), (2, .long y113), (4, .int x103)] → W p l e { frames := 7, cells := 0, slots := 0, locals := 170 } s m args below meth c H locs 0 0 (MQ below (QW E a (some (.int out.1)) out.2) args s 0 0 (AE E)) (F0 m 42 ls []) := by
          intro x112 y113 H locs ls h hR hS hl
          replace h := jx2 hj114 h
          obtain ⟨x115, ex115⟩ : ∃ z : Int32, z = x103 + 1 := ⟨_, rfl⟩
          replace h := bd_x ex115 h
          refine lv_iinc (v := x115) (lv' := [(4, .int x115), (0, .ref (a 8 0)), (1, .int x112), (2, .long y113)]) hx hb dX8_best_42 hl (k := 3) rfl (by rw [ex115]; rfl) (by decide) rfl (fun ls hl => ?_)
          refine lv_goto (tgt := 7) hx hb dX8_best_45 (by decide) ?_
          exact ih _ _ _ _ _ _ _ h hR hS (lv_sub hl [1, 2, 3, 0] rfl)
        refine jp_cut h (fun j116 hj116 h => ?_)
        have Kj116 : ∀  (H : Heap) (locs : List Loc) (ls : Array Slot), j116 = some out → Rel E a u111 H → va_S (AE E) s.heap H locs → lv_has ls 7 [(0, .ref (a 8 0)), (4, .int x103), (5, .long y110)] → W p l e { frames := 7, cells := 0, slots := 0, locals := 170 } s m args below meth c H locs 0 0 (MQ below (QW E a (some (.int out.1)) out.2) args s 0 0 (AE E)) (F0 m 36 ls []) := by
          intro  H locs ls h hR hS hl
          replace h := jx0 hj116 h
          refine lv_iload hx hb dX8_best_36 (lv_at hl 1 rfl) ?_
          refine lv_istore_n (lv' := [(1, .int x103), (0, .ref (a 8 0)), (4, .int x103), (5, .long y110)]) hx hb dX8_best_38 rfl hl (by decide) rfl (fun ls hl => ?_)
          refine lv_lload hx hb dX8_best_39 (lv_at hl 3 rfl) ?_
          refine lv_lstore_n (lv' := [(2, .long y110), (1, .int x103), (0, .ref (a 8 0)), (4, .int x103), (5, .long y110)]) hx hb dX8_best_41 rfl hl (by decide) rfl (fun ls hl => ?_)
          exact Kj114 _ _ _ _ _ h hR hS (lv_sub hl [2, 1, 0, 3] rfl)
        refine lv_icmp_eq (tgt := 36) hx hb dX8_best_26 (by decide) (fun c_117 => ?_) (fun c_117 => ?_)
        · rw [if_pos c_117] at h
          exact Kj116  _ _ _ h hR hS (lv_sub hl [1, 4, 0] rfl)
        · rw [if_neg c_117] at h
          refine lv_lload hx hb dX8_best_29 (lv_at hl 0 rfl) ?_
          refine lv_lload_n hx hb dX8_best_31 rfl (lv_at hl 3 rfl) ?_
          refine W.lcmp hx hb dX8_best_32 ?_
          refine lv_if_le (tgt := 42) hx hb dX8_best_33 (by decide) (fun c_118 => ?_) (fun c_118 => ?_)
          · rw [if_pos c_118] at h
            exact Kj114 _ _ _ _ _ h hR hS (lv_sub hl [1, 2, 3, 4] rfl)
          · rw [if_neg c_118] at h
            exact Kj116  _ _ _ h hR hS (lv_sub hl [1, 4, 0] rfl)
  exact LP FU _ _ _ _ _ _ _ h hR hS (lv_sub hl [3, 2, 1, 0] rfl)
set_option maxHeartbeats 4000000 in
set_option maxRecDepth 100000 in
theorem vX8_stateOfNew {l : Launch} {E : EV} {a : Nat → Nat → Nat} {u0 : HS} {x1 : Int32} {x2 : Int32} {x3 : Int32} {out : (Int32 × HS)} (h : mX8_stateOfNew u0 x1 x2 x3 = some out) : Ct l E yX8_stateOfNew cX8_stateOfNew 5 (some .int) 5 122 0 0 a u0 [.ref (a 8 0), .int x1, .int x2, .int x3] (some (.int out.1)) out.2 := by
  refine Ct.start (by decide) (Nat.le_of_ble_eq_true rfl) ?_
  intro p e s m args below meth c ls C hr hR hS hl
  have C : Cx E p s m args meth c cX8_stateOfNew 5 RX8 := C
  have hl : lv_has ls 5 [(0, .ref (a 8 0)), (1, .int x1), (2, .int x2), (3, .int x3)] := hl
  have hx := C.1
  have hb := C.2.1
  unfold mX8_stateOfNew at h
  refine lv_bipush (v := 14) hx hb dX8_stateOfNew_0 (by decide) ?_
  refine lv_iload_n hx hb dX8_stateOfNew_2 rfl (lv_at hl 2 rfl) ?_
  refine lv_bipush (v := 6) hx hb dX8_stateOfNew_3 (by decide) ?_
  refine lv_imul hx hb dX8_stateOfNew_5 ?_
  refine lv_iadd hx hb dX8_stateOfNew_6 ?_
  refine lv_iload_n hx hb dX8_stateOfNew_7 rfl (lv_at hl 3 rfl) ?_
  refine lv_iadd hx hb dX8_stateOfNew_8 ?_
  refine lv_iconst (v := 4) hx hb dX8_stateOfNew_9 (by decide) ?_
  refine lv_imul hx hb dX8_stateOfNew_10 ?_
  refine lv_iload_n hx hb dX8_stateOfNew_11 rfl (lv_at hl 1 rfl) ?_
  refine lv_iadd hx hb dX8_stateOfNew_12 ?_
  refine lv_topi (fun x101 ex101 => ?_)
  replace h := bd_x ex101 h
  refine lv_istore (lv' := [(4, .int x101), (0, .ref (a 8 0)), (1, .int x1), (2, .int x2), (3, .int x3)]) hx hb dX8_stateOfNew_13 hl (by decide) rfl (fun ls hl => ?_)
  refine lv_aload_n hx hb dX8_stateOfNew_15 rfl (lv_at hl 1 rfl) ?_
  refine r_get C hR 8 0 13 (v := .ref (a 54 0)) (lv0 (by decide) (by decide)) (by decide) (by decide) rfl fl_X8_83 dX8_stateOfNew_16 ?_
  refine lv_iload hx hb dX8_stateOfNew_19 (lv_at hl 0 rfl) ?_
  obtain ⟨k102, hk102, h⟩ := ob h
  refine r_ald C hR 54 0 (lv0 (by decide) (by decide)) (by decide) rfl (fun _ => rfl) rfl hk102 dX8_stateOfNew_21 ?_
  refine lv_iconst (v := (-1)) hx hb dX8_stateOfNew_22 (by decide) ?_
  obtain ⟨u103, hz, h⟩ := ob h
  have Kj104 : ∀ (H : Heap) (locs : List Loc) (ls : Array Slot), Rel E a u103 H → va_S (AE E) s.heap H locs → lv_has ls 5 [(0, .ref (a 8 0)), (4, .int x101)] → W p l e { frames := 5, cells := 0, slots := 0, locals := 122 } s m args below meth c H locs 0 0 (MQ below (QW E a (some (.int out.1)) out.2) args s 0 0 (AE E)) (F0 m 82 ls []) := by
    intro H locs ls hR hS hl
    clear hz
    refine lv_aload_n hx hb dX8_stateOfNew_82 rfl (lv_at hl 0 rfl) ?_
    refine r_get C hR 8 0 13 (v := .ref (a 54 0)) (lv0 (by decide) (by decide)) (by decide) (by decide) rfl fl_X8_83 dX8_stateOfNew_83 ?_
    refine lv_iload hx hb dX8_stateOfNew_86 (lv_at hl 1 rfl) ?_
    obtain ⟨k105, hk105, h⟩ := ob h
    refine r_ald C hR 54 0 (lv0 (by decide) (by decide)) (by decide) rfl (fun _ => rfl) rfl hk105 dX8_stateOfNew_88 ?_
    cases h
    exact e_iret C hr hR hS (Nat.le_of_ble_eq_true rfl) (Nat.le_of_ble_eq_true rfl) dX8_stateOfNew_89
  clear h
  have h := hz
  clear hz
  refine lv_icmp_ne (tgt := 82) hx hb dX8_stateOfNew_23 (by decide) (fun c_106 => ?_) (fun c_106 => ?_)
  · rw [if_neg c_106] at h
    cases h
    exact Kj104 _ _ _ hR hS (lv_sub hl [1, 0] rfl)
  · rw [if_pos c_106] at h
    refine lv_aload_n hx hb dX8_stateOfNew_26 rfl (lv_at hl 1 rfl) ?_
    refine r_get C hR 8 0 11 (v := .ref (a 7 0)) (lv0 (by decide) (by decide)) (by decide) (by decide) rfl fl_X8_70 dX8_stateOfNew_27 ?_
    refine lv_aload_n hx hb dX8_stateOfNew_30 rfl (lv_at hl 1 rfl) ?_
    refine r_get C hR 8 0 1 (v := .ref (a 50 0)) (lv0 (by decide) (by decide)) (by decide) (by decide) rfl fl_X8_18 dX8_stateOfNew_31 ?_
    refine lv_iload_n hx hb dX8_stateOfNew_34 rfl (lv_at hl 3 rfl) ?_
    obtain ⟨k107, hk107, h⟩ := ob h
    have hLk107 : k107 < cntS 3 := by have q1 := (ck_in hk107).2.2; have q2 : cntS 3 = 7 := rfl; omega
    refine r_aald C hR 50 0 3 0 2 (lv0 (by decide) (by decide)) (by decide) rfl rfl rfl (fun _ => rfl) rfl hk107 dX8_stateOfNew_35 ?_
    refine lv_aload_n hx hb dX8_stateOfNew_36 rfl (lv_at hl 1 rfl) ?_
    refine r_get C hR 8 0 3 (v := .ref (a 51 0)) (lv0 (by decide) (by decide)) (by decide) (by decide) rfl fl_X8_28 dX8_stateOfNew_37 ?_
    refine lv_iload_n hx hb dX8_stateOfNew_40 rfl (lv_at hl 4 rfl) ?_
    obtain ⟨k108, hk108, h⟩ := ob h
    have hLk108 : k108 < cntS 6 := by have q1 := (ck_in hk108).2.2; have q2 : cntS 6 = 7 := rfl; omega
    refine r_aald C hR 51 0 6 0 3 (lv0 (by decide) (by decide)) (by decide) rfl rfl rfl (fun _ => rfl) rfl hk108 dX8_stateOfNew_41 ?_
    refine lv_iconst (v := 0) hx hb dX8_stateOfNew_42 (by decide) ?_
    refine lv_aload_n hx hb dX8_stateOfNew_43 rfl (lv_at hl 1 rfl) ?_
    refine r_get C hR 8 0 1 (v := .ref (a 50 0)) (lv0 (by decide) (by decide)) (by decide) (by decide) rfl fl_X8_18 dX8_stateOfNew_44 ?_
    refine lv_iload_n hx hb dX8_stateOfNew_47 rfl (lv_at hl 3 rfl) ?_
    obtain ⟨k109, hk109, h⟩ := ob h
    have hLk109 : k109 < cntS 3 := by have q1 := (ck_in hk109).2.2; have q2 : cntS 3 = 7 := rfl; omega
    refine r_aald C hR 50 0 3 0 2 (lv0 (by decide) (by decide)) (by decide) rfl rfl rfl (fun _ => rfl) rfl hk109 dX8_stateOfNew_48 ?_
    refine r_get C hR 3 k109 11 (v := .int (gI u0 3 k109 11)) (lv0 hLk109 (by decide)) (by decide) (by decide) rfl fl_X8_140 dX8_stateOfNew_49 ?_
    obtain ⟨u111, hc110, h⟩ := ob h
    refine r_callV0 (As := [.ref (a 3 k107), .ref (a 6 k108), .int 0, .int (gI u0 3 k109 11)]) (rest := []) (r := 7) (i := 0) C (vX7_open hLk107 hLk108 hc110) hR hS (lv0 (by decide) (by decide)) (by decide) ml_X8_382 mw_X7_open rfl ⟨Nat.le_of_ble_eq_true rfl, Nat.le_of_ble_eq_true rfl, Nat.le_of_ble_eq_true rfl, Nat.le_of_ble_eq_true rfl⟩ hl.1 rfl (Nat.le_of_ble_eq_true rfl) dX8_stateOfNew_52 (fun H locs hR hS => ?_)
    refine lv_aload_n hx hb dX8_stateOfNew_55 rfl (lv_at hl 1 rfl) ?_
    refine r_get C hR 8 0 12 (v := .ref (a 4 0)) (lv0 (by decide) (by decide)) (by decide) (by decide) rfl fl_X8_79 dX8_stateOfNew_56 ?_
    obtain ⟨u113, hc112, h⟩ := ob h
    refine r_callV0 (As := []) (rest := []) (r := 4) (i := 0) C (vX4_plain hc112) hR hS (lv0 (by decide) (by decide)) (by decide) ml_X8_389 mw_X4_plain rfl ⟨Nat.le_of_ble_eq_true rfl, Nat.le_of_ble_eq_true rfl, Nat.le_of_ble_eq_true rfl, Nat.le_of_ble_eq_true rfl⟩ hl.1 rfl (Nat.le_of_ble_eq_true rfl) dX8_stateOfNew_59 (fun H locs hR hS => ?_)
    refine lv_aload_n hx hb dX8_stateOfNew_62 rfl (lv_at hl 1 rfl) ?_
    refine r_get C hR 8 0 13 (v := .ref (a 54 0)) (lv0 (by decide) (by decide)) (by decide) (by decide) rfl fl_X8_83 dX8_stateOfNew_63 ?_
    refine lv_iload hx hb dX8_stateOfNew_66 (lv_at hl 0 rfl) ?_
    refine lv_aload_n hx hb dX8_stateOfNew_68 rfl (lv_at hl 1 rfl) ?_
    refine r_get C hR 8 0 12 (v := .ref (a 4 0)) (lv0 (by decide) (by decide)) (by decide) (by decide) rfl fl_X8_79 dX8_stateOfNew_69 ?_
    refine lv_aload_n hx hb dX8_stateOfNew_72 rfl (lv_at hl 1 rfl) ?_
    refine r_get C hR 8 0 5 (v := .ref (a 52 0)) (lv0 (by decide) (by decide)) (by decide) (by decide) rfl fl_X8_37 dX8_stateOfNew_73 ?_
    refine lv_iload_n hx hb dX8_stateOfNew_76 rfl (lv_at hl 2 rfl) ?_
    obtain ⟨k114, hk114, h⟩ := ob h
    have hLk114 : k114 < cntS 1 := by have q1 := (ck_in hk114).2.2; have q2 : cntS 1 = 5 := rfl; omega
    refine r_aald C hR 52 0 1 0 4 (lv0 (by decide) (by decide)) (by decide) rfl rfl rfl (fun _ => rfl) rfl hk114 dX8_stateOfNew_77 ?_
    obtain ⟨⟨x116, u117⟩, hc115, h⟩ := ob h
    replace h := bd_x (x := x116) rfl h
    replace h := bd_x (x := u117) rfl h
    refine r_callV1 (As := [.ref (a 1 k114)]) (rest := [.int x101, .ref (a 54 0)]) (r := 4) (i := 0) C (vX4_judge hLk114 hc115) hR hS (lv0 (by decide) (by decide)) (by decide) ml_X8_392 mw_X4_judge rfl ⟨Nat.le_of_ble_eq_true rfl, Nat.le_of_ble_eq_true rfl, Nat.le_of_ble_eq_true rfl, Nat.le_of_ble_eq_true rfl⟩ hl.1 rfl (Nat.le_of_ble_eq_true rfl) dX8_stateOfNew_78 (fun H locs hR hS => ?_)
    obtain ⟨k118, hk118, h⟩ := ob h
    refine r_ast C hR hS 54 0 (lv0 (by decide) (by decide)) (by decide) rfl (fun _ _ => rfl) rfl hk118 dX8_stateOfNew_81 (fun H locs hR hS => ?_)
    obtain ⟨u119, eu119⟩ : ∃ z : HS, z = wI u117 54 0 k118 x116 := ⟨_, rfl⟩
    rw [← eu119] at hR
    replace h := bd_x eu119 h
    clear eu119
    cases h
    exact Kj104 _ _ _ hR hS (lv_sub hl [1, 0] rfl)
set_option maxHeartbeats 4000000 in
set_option maxRecDepth 100000 in
theorem vX8_lesserOdds {l : Launch} {E : EV} {a : Nat → Nat → Nat} {u0 : HS} {x1 : Int32} {x2 : Int32} {out : (Int64 × HS)} (h : mX8_lesserOdds u0 x1 x2 = some out) : Ct l E yX8_lesserOdds cX8_lesserOdds 8 (some .long) 6 146 0 0 a u0 [.ref (a 8 0), .int x1, .int x2] (some (.long out.1)) out.2 := by
  refine Ct.start (by decide) (Nat.le_of_ble_eq_true rfl) ?_
  intro p e s m args below meth c ls C hr hR hS hl
  have C : Cx E p s m args meth c cX8_lesserOdds 8 RX8 := C
  have hl : lv_has ls 8 [(0, .ref (a 8 0)), (1, .int x1), (2, .int x2)] := hl
  have hx := C.1
  have hb := C.2.1
  unfold mX8_lesserOdds at h
  refine lv_lconst (v := 0) hx hb dX8_lesserOdds_0 (by decide) ?_
  refine lv_lstore_n (lv' := [(3, .long 0), (0, .ref (a 8 0)), (1, .int x1), (2, .int x2)]) hx hb dX8_lesserOdds_1 rfl hl (by decide) rfl (fun ls hl => ?_)
  refine lv_lconst (v := 0) hx hb dX8_lesserOdds_2 (by decide) ?_
  refine lv_lstore (lv' := [(5, .long 0), (3, .long 0), (0, .ref (a 8 0)), (1, .int x1), (2, .int x2)]) hx hb dX8_lesserOdds_3 hl (by decide) rfl (fun ls hl => ?_)
  refine lv_iconst (v := 0) hx hb dX8_lesserOdds_5 (by decide) ?_
  refine lv_istore (lv' := [(7, .int 0), (5, .long 0), (3, .long 0), (0, .ref (a 8 0)), (1, .int x1), (2, .int x2)]) hx hb dX8_lesserOdds_6 hl (by decide) rfl (fun ls hl => ?_)
  refine jp_cut h (fun w108 hw108 h => ?_)
  have Kw108 : ∀ (y105 : Int64) (y106 : Int64) (u107 : HS) (H : Heap) (locs : List Loc) (ls : Array Slot), w108 y105 y106 u107 = some out → Rel E a u107 H → va_S (AE E) s.heap H locs → lv_has ls 8 [(3, .long y105), (5, .long y106)] → W p l e { frames := 6, cells := 0, slots := 0, locals := 146 } s m args below meth c H locs 0 0 (MQ below (QW E a (some (.long out.1)) out.2) args s 0 0 (AE E)) (F0 m 63 ls []) := by
    intro y105 y106 u107 H locs ls h hR hS hl
    replace h := jx3 hw108 h
    refine lv_lload_n hx hb dX8_lesserOdds_63 rfl (lv_at hl 0 rfl) ?_
    refine lv_lload hx hb dX8_lesserOdds_64 (lv_at hl 1 rfl) ?_
    refine r_minL C hl.1 ml_X8_407 (Nat.le_of_ble_eq_true rfl) (Nat.le_of_ble_eq_true rfl) (Nat.le_of_ble_eq_true rfl) (Nat.le_of_ble_eq_true rfl) dX8_lesserOdds_66 ?_
    refine lv_topl (fun y109 ey109 => ?_)
    replace h := bd_x ey109 h
    cases h
    exact e_lret C hr hR hS (Nat.le_of_ble_eq_true rfl) (Nat.le_of_ble_eq_true rfl) dX8_lesserOdds_69
  have LP : ∀ (fu : Nat) (y101 : Int64) (y102 : Int64) (x103 : Int32) (u104 : HS) (H : Heap) (locs : List Loc) (ls : Array Slot), mX8_lesserOdds_L8 x1 x2 w108 fu y101 y102 x103 u104 = some out → Rel E a u104 H → va_S (AE E) s.heap H locs → lv_has ls 8 [(0, .ref (a 8 0)), (1, .int x1), (2, .int x2), (3, .long y101), (5, .long y102), (7, .int x103)] → W p l e { frames := 6, cells := 0, slots := 0, locals := 146 } s m args below meth c H locs 0 0 (MQ below (QW E a (some (.long out.1)) out.2) args s 0 0 (AE E)) (F0 m 8 ls []) := by
    intro fu
    induction fu with
    | zero =>
      intro y101 y102 x103 u104 H locs ls h
      have h2 : (none : Option (Int64 × HS)) = some out := h
      cases h2
    | succ fu ih =>
      intro y101 y102 x103 u104 H locs ls h hR hS hl
      rw [mX8_lesserOdds_L8.eq_2] at h
      refine lv_iload hx hb dX8_lesserOdds_8 (lv_at hl 5 rfl) ?_
      refine lv_aload_n hx hb dX8_lesserOdds_10 rfl (lv_at hl 0 rfl) ?_
      refine r_get C hR 8 0 6 (v := .int (gI u104 8 0 6)) (lv0 (by decide) (by decide)) (by decide) (by decide) rfl fl_X8_41 dX8_lesserOdds_11 ?_
      refine lv_icmp_ge (tgt := 63) hx hb dX8_lesserOdds_14 (by decide) (fun c_110 => ?_) (fun c_110 => ?_)
      · rw [if_pos c_110] at h
        exact Kw108 _ _ _ _ _ _ h hR hS (lv_sub hl [3, 4] rfl)
      · rw [if_neg c_110] at h
        refine lv_aload_n hx hb dX8_lesserOdds_17 rfl (lv_at hl 0 rfl) ?_
        refine lv_iload hx hb dX8_lesserOdds_18 (lv_at hl 5 rfl) ?_
        refine lv_iload_n hx hb dX8_lesserOdds_20 rfl (lv_at hl 1 rfl) ?_
        refine lv_iload_n hx hb dX8_lesserOdds_21 rfl (lv_at hl 2 rfl) ?_
        obtain ⟨⟨x112, u113⟩, hc111, h⟩ := ob h
        replace h := bd_x (x := x112) rfl h
        replace h := bd_x (x := u113) rfl h
        refine r_callV1 (As := [.int x103, .int x1, .int x2]) (rest := []) (r := 8) (i := 0) C (vX8_stateOfNew hc111) hR hS (lv0 (by decide) (by decide)) (by decide) ml_X8_354 mw_X8_stateOfNew rfl ⟨Nat.le_of_ble_eq_true rfl, Nat.le_of_ble_eq_true rfl, Nat.le_of_ble_eq_true rfl, Nat.le_of_ble_eq_true rfl⟩ hl.1 rfl (Nat.le_of_ble_eq_true rfl) dX8_lesserOdds_22 (fun H locs hR hS => ?_)
        refine lv_iconst (v := 0) hx hb dX8_lesserOdds_25 (by decide) ?_
        obtain ⟨x115, hc114, h⟩ := ob h
        refine r_callS1 (As := [.int x112, .int 0]) (rest := []) C (vX8_isYes hc114) hR hS ml_X8_253 ms_X8_isYes rfl ⟨Nat.le_of_ble_eq_true rfl, Nat.le_of_ble_eq_true rfl, Nat.le_of_ble_eq_true rfl, Nat.le_of_ble_eq_true rfl⟩ hl.1 rfl (Nat.le_of_ble_eq_true rfl) dX8_lesserOdds_26 (fun H locs hR hS => ?_)
        refine jp_cut h (fun j118 hj118 h => ?_)
        have Kj118 : ∀ (y116 : Int64) (y117 : Int64) (H : Heap) (locs : List Loc) (ls : Array Slot), j118 y116 y117 = some out → Rel E a u113 H → va_S (AE E) s.heap H locs → lv_has ls 8 [(0, .ref (a 8 0)), (1, .int x1), (2, .int x2), (3, .long y116), (5, .long y117), (7, .int x103)] → W p l e { frames := 6, cells := 0, slots := 0, locals := 146 } s m args below meth c H locs 0 0 (MQ below (QW E a (some (.long out.1)) out.2) args s 0 0 (AE E)) (F0 m 57 ls []) := by
          intro y116 y117 H locs ls h hR hS hl
          replace h := jx2 hj118 h
          obtain ⟨x119, ex119⟩ : ∃ z : Int32, z = x103 + 1 := ⟨_, rfl⟩
          replace h := bd_x ex119 h
          refine lv_iinc (v := x119) (lv' := [(7, .int x119), (0, .ref (a 8 0)), (1, .int x1), (2, .int x2), (3, .long y116), (5, .long y117)]) hx hb dX8_lesserOdds_57 hl (k := 5) rfl (by rw [ex119]; rfl) (by decide) rfl (fun ls hl => ?_)
          refine lv_goto (tgt := 8) hx hb dX8_lesserOdds_60 (by decide) ?_
          exact ih _ _ _ _ _ _ _ h hR hS (lv_sub hl [1, 2, 3, 4, 5, 0] rfl)
        refine lv_if_eq (tgt := 45) hx hb dX8_lesserOdds_29 (by decide) (fun c_120 => ?_) (fun c_120 => ?_)
        · rw [if_pos c_120] at h
          refine lv_lload hx hb dX8_lesserOdds_45 (lv_at hl 4 rfl) ?_
          refine lv_aload_n hx hb dX8_lesserOdds_47 rfl (lv_at hl 0 rfl) ?_
          refine r_get C hR 8 0 14 (v := .ref (a 55 0)) (lv0 (by decide) (by decide)) (by decide) (by decide) rfl fl_X8_87 dX8_lesserOdds_48 ?_
          refine lv_iload hx hb dX8_lesserOdds_51 (lv_at hl 5 rfl) ?_
          obtain ⟨k121, hk121, h⟩ := ob h
          refine r_lald C hR 55 0 (lv0 (by decide) (by decide)) (by decide) rfl (fun _ => rfl) rfl hk121 dX8_lesserOdds_53 ?_
          refine lv_ladd hx hb dX8_lesserOdds_54 ?_
          refine lv_topl (fun y122 ey122 => ?_)
          replace h := bd_x ey122 h
          refine lv_lstore (lv' := [(5, .long y122), (0, .ref (a 8 0)), (1, .int x1), (2, .int x2), (3, .long y101), (7, .int x103)]) hx hb dX8_lesserOdds_55 hl (by decide) rfl (fun ls hl => ?_)
          exact Kj118 _ _ _ _ _ h hR hS (lv_sub hl [1, 2, 3, 4, 0, 5] rfl)
        · rw [if_neg c_120] at h
          refine lv_lload_n hx hb dX8_lesserOdds_32 rfl (lv_at hl 3 rfl) ?_
          refine lv_aload_n hx hb dX8_lesserOdds_33 rfl (lv_at hl 0 rfl) ?_
          refine r_get C hR 8 0 14 (v := .ref (a 55 0)) (lv0 (by decide) (by decide)) (by decide) (by decide) rfl fl_X8_87 dX8_lesserOdds_34 ?_
          refine lv_iload hx hb dX8_lesserOdds_37 (lv_at hl 5 rfl) ?_
          obtain ⟨k123, hk123, h⟩ := ob h
          refine r_lald C hR 55 0 (lv0 (by decide) (by decide)) (by decide) rfl (fun _ => rfl) rfl hk123 dX8_lesserOdds_39 ?_
          refine lv_ladd hx hb dX8_lesserOdds_40 ?_
          refine lv_topl (fun y124 ey124 => ?_)
          replace h := bd_x ey124 h
          refine lv_lstore_n (lv' := [(3, .long y124), (0, .ref (a 8 0)), (1, .int x1), (2, .int x2), (5, .long y102), (7, .int x103)]) hx hb dX8_lesserOdds_41 rfl hl (by decide) rfl (fun ls hl => ?_)
          refine lv_goto (tgt := 57) hx hb dX8_lesserOdds_42 (by decide) ?_
          exact Kj118 _ _ _ _ _ h hR hS (lv_sub hl [1, 2, 3, 0, 4, 5] rfl)
  exact LP FU _ _ _ _ _ _ _ h hR hS (lv_sub hl [3, 4, 5, 2, 1, 0] rfl)
set_option maxHeartbeats 4000000 in
set_option maxRecDepth 100000 in
theorem vX8_next {l : Launch} {E : EV} {a : Nat → Nat → Nat} {u0 : HS}  {out : (Int32 × HS)} (h : mX8_next u0 = some out) : Ct l E yX8_next cX8_next 8 (some .int) 7 173 0 0 a u0 [.ref (a 8 0)] (some (.int out.1)) out.2 := by
  refine Ct.start (by decide) (Nat.le_of_ble_eq_true rfl) ?_
  intro p e s m args below meth c ls C hr hR hS hl
  have C : Cx E p s m args meth c cX8_next 8 RX8 := C
  have hl : lv_has ls 8 [(0, .ref (a 8 0))] := hl
  have hx := C.1
  have hb := C.2.1
  unfold mX8_next at h
  refine lv_aload_n hx hb dX8_next_0 rfl (lv_at hl 0 rfl) ?_
  refine r_get C hR 8 0 6 (v := .int (gI u0 8 0 6)) (lv0 (by decide) (by decide)) (by decide) (by decide) rfl fl_X8_41 dX8_next_1 ?_
  refine lv_if_ne (tgt := 9) hx hb dX8_next_4 (by decide) (fun c_101 => ?_) (fun c_101 => ?_)
  · rw [if_neg c_101] at h
    refine lv_iconst (v := 0) hx hb dX8_next_9 (by decide) ?_
    refine lv_istore_n (lv' := [(1, .int 0), (0, .ref (a 8 0))]) hx hb dX8_next_10 rfl hl (by decide) rfl (fun ls hl => ?_)
    refine jp_cut h (fun w105 hw105 h => ?_)
    have Kw105 : ∀ (u104 : HS) (H : Heap) (locs : List Loc) (ls : Array Slot), w105 u104 = some out → Rel E a u104 H → va_S (AE E) s.heap H locs → lv_has ls 8 [(0, .ref (a 8 0))] → W p l e { frames := 7, cells := 0, slots := 0, locals := 173 } s m args below meth c H locs 0 0 (MQ below (QW E a (some (.int out.1)) out.2) args s 0 0 (AE E)) (F0 m 36 ls []) := by
      intro u104 H locs ls h hR hS hl
      replace h := jx1 hw105 h
      refine lv_iconst (v := (-1)) hx hb dX8_next_36 (by decide) ?_
      refine lv_istore_n (lv' := [(1, .int (-1)), (0, .ref (a 8 0))]) hx hb dX8_next_37 rfl hl (by decide) rfl (fun ls hl => ?_)
      refine lv_lconst (v := 0) hx hb dX8_next_38 (by decide) ?_
      refine lv_lstore_n (lv' := [(2, .long 0), (1, .int (-1)), (0, .ref (a 8 0))]) hx hb dX8_next_39 rfl hl (by decide) rfl (fun ls hl => ?_)
      refine lv_iconst (v := 0) hx hb dX8_next_40 (by decide) ?_
      refine lv_istore (lv' := [(4, .int 0), (2, .long 0), (1, .int (-1)), (0, .ref (a 8 0))]) hx hb dX8_next_41 hl (by decide) rfl (fun ls hl => ?_)
      refine jp_cut h (fun w112 hw112 h => ?_)
      have Kw112 : ∀ (x110 : Int32) (u111 : HS) (H : Heap) (locs : List Loc) (ls : Array Slot), w112 x110 u111 = some out → Rel E a u111 H → va_S (AE E) s.heap H locs → lv_has ls 8 [(1, .int x110)] → W p l e { frames := 7, cells := 0, slots := 0, locals := 173 } s m args below meth c H locs 0 0 (MQ below (QW E a (some (.int out.1)) out.2) args s 0 0 (AE E)) (F0 m 124 ls []) := by
        intro x110 u111 H locs ls h hR hS hl
        replace h := jx2 hw112 h
        refine lv_iload_n hx hb dX8_next_124 rfl (lv_at hl 0 rfl) ?_
        cases h
        exact e_iret C hr hR hS (Nat.le_of_ble_eq_true rfl) (Nat.le_of_ble_eq_true rfl) dX8_next_125
      have LP : ∀ (fu : Nat) (x106 : Int32) (y107 : Int64) (x108 : Int32) (u109 : HS) (H : Heap) (locs : List Loc) (ls : Array Slot), mX8_next_L43  w112 fu x106 y107 x108 u109 = some out → Rel E a u109 H → va_S (AE E) s.heap H locs → lv_has ls 8 [(0, .ref (a 8 0)), (1, .int x106), (2, .long y107), (4, .int x108)] → W p l e { frames := 7, cells := 0, slots := 0, locals := 173 } s m args below meth c H locs 0 0 (MQ below (QW E a (some (.int out.1)) out.2) args s 0 0 (AE E)) (F0 m 43 ls []) := by
        intro fu
        induction fu with
        | zero =>
          intro x106 y107 x108 u109 H locs ls h
          have h2 : (none : Option (Int32 × HS)) = some out := h
          cases h2
        | succ fu ih =>
          intro x106 y107 x108 u109 H locs ls h hR hS hl
          rw [mX8_next_L43.eq_2] at h
          refine lv_iload hx hb dX8_next_43 (lv_at hl 3 rfl) ?_
          refine lv_aload_n hx hb dX8_next_45 rfl (lv_at hl 0 rfl) ?_
          refine r_get C hR 8 0 2 (v := .int (gI u109 8 0 2)) (lv0 (by decide) (by decide)) (by decide) (by decide) rfl fl_X8_22 dX8_next_46 ?_
          refine lv_icmp_ge (tgt := 124) hx hb dX8_next_49 (by decide) (fun c_113 => ?_) (fun c_113 => ?_)
          · rw [if_pos c_113] at h
            exact Kw112 _ _ _ _ _ h hR hS (lv_sub hl [1] rfl)
          · rw [if_neg c_113] at h
            refine lv_iconst (v := 0) hx hb dX8_next_52 (by decide) ?_
            refine lv_istore (lv' := [(5, .int 0), (0, .ref (a 8 0)), (1, .int x106), (2, .long y107), (4, .int x108)]) hx hb dX8_next_53 hl (by decide) rfl (fun ls hl => ?_)
            refine jp_cut h (fun w121 hw121 h => ?_)
            have Kw121 : ∀ (x118 : Int32) (y119 : Int64) (u120 : HS) (H : Heap) (locs : List Loc) (ls : Array Slot), w121 x118 y119 u120 = some out → Rel E a u120 H → va_S (AE E) s.heap H locs → lv_has ls 8 [(0, .ref (a 8 0)), (1, .int x118), (2, .long y119), (4, .int x108)] → W p l e { frames := 7, cells := 0, slots := 0, locals := 173 } s m args below meth c H locs 0 0 (MQ below (QW E a (some (.int out.1)) out.2) args s 0 0 (AE E)) (F0 m 118 ls []) := by
              intro x118 y119 u120 H locs ls h hR hS hl
              replace h := jx3 hw121 h
              obtain ⟨x122, ex122⟩ : ∃ z : Int32, z = x108 + 1 := ⟨_, rfl⟩
              replace h := bd_x ex122 h
              refine lv_iinc (v := x122) (lv' := [(4, .int x122), (0, .ref (a 8 0)), (1, .int x118), (2, .long y119)]) hx hb dX8_next_118 hl (k := 3) rfl (by rw [ex122]; rfl) (by decide) rfl (fun ls hl => ?_)
              refine lv_goto (tgt := 43) hx hb dX8_next_121 (by decide) ?_
              exact ih _ _ _ _ _ _ _ h hR hS (lv_sub hl [1, 2, 3, 0] rfl)
            have LP : ∀ (fu : Nat) (x114 : Int32) (y115 : Int64) (x116 : Int32) (u117 : HS) (H : Heap) (locs : List Loc) (ls : Array Slot), mX8_next_L55 x108 w121 fu x114 y115 x116 u117 = some out → Rel E a u117 H → va_S (AE E) s.heap H locs → lv_has ls 8 [(0, .ref (a 8 0)), (1, .int x114), (2, .long y115), (4, .int x108), (5, .int x116)] → W p l e { frames := 7, cells := 0, slots := 0, locals := 173 } s m args below meth c H locs 0 0 (MQ below (QW E a (some (.int out.1)) out.2) args s 0 0 (AE E)) (F0 m 55 ls []) := by
              intro fu
              induction fu with
              | zero =>
                intro x114 y115 x116 u117 H locs ls h
                have h2 : (none : Option (Int32 × HS)) = some out := h
                cases h2
              | succ fu ih =>
                intro x114 y115 x116 u117 H locs ls h hR hS hl
                rw [mX8_next_L55.eq_2] at h
                refine lv_iload hx hb dX8_next_55 (lv_at hl 4 rfl) ?_
                refine lv_aload_n hx hb dX8_next_57 rfl (lv_at hl 0 rfl) ?_
                refine r_get C hR 8 0 4 (v := .int (gI u117 8 0 4)) (lv0 (by decide) (by decide)) (by decide) (by decide) rfl fl_X8_32 dX8_next_58 ?_
                refine lv_icmp_ge (tgt := 118) hx hb dX8_next_61 (by decide) (fun c_123 => ?_) (fun c_123 => ?_)
                · rw [if_pos c_123] at h
                  exact Kw121 _ _ _ _ _ _ h hR hS (lv_sub hl [0, 1, 2, 3] rfl)
                · rw [if_neg c_123] at h
                  refine lv_aload_n hx hb dX8_next_64 rfl (lv_at hl 0 rfl) ?_
                  refine r_get C hR 8 0 1 (v := .ref (a 50 0)) (lv0 (by decide) (by decide)) (by decide) (by decide) rfl fl_X8_18 dX8_next_65 ?_
                  refine lv_iload hx hb dX8_next_68 (lv_at hl 3 rfl) ?_
                  obtain ⟨k124, hk124, h⟩ := ob h
                  have hLk124 : k124 < cntS 3 := by have q1 := (ck_in hk124).2.2; have q2 : cntS 3 = 7 := rfl; omega
                  refine r_aald C hR 50 0 3 0 2 (lv0 (by decide) (by decide)) (by decide) rfl rfl rfl (fun _ => rfl) rfl hk124 dX8_next_70 ?_
                  refine r_get C hR 3 k124 9 (v := .int (gI u117 3 k124 9)) (lv0 hLk124 (by decide)) (by decide) (by decide) rfl fl_X8_143 dX8_next_71 ?_
                  refine lv_iconst (v := (-1)) hx hb dX8_next_74 (by decide) ?_
                  refine lv_icmp_eq (tgt := 118) hx hb dX8_next_75 (by decide) (fun c_125 => ?_) (fun c_125 => ?_)
                  · rw [if_pos c_125] at h
                    exact Kw121 _ _ _ _ _ _ h hR hS (lv_sub hl [0, 1, 2, 3] rfl)
                  · rw [if_neg c_125] at h
                    refine lv_aload_n hx hb dX8_next_78 rfl (lv_at hl 0 rfl) ?_
                    refine lv_iload hx hb dX8_next_79 (lv_at hl 3 rfl) ?_
                    refine lv_iload hx hb dX8_next_81 (lv_at hl 4 rfl) ?_
                    obtain ⟨⟨y127, u128⟩, hc126, h⟩ := ob h
                    replace h := bd_x (x := y127) rfl h
                    replace h := bd_x (x := u128) rfl h
                    refine r_callV1 (As := [.int x108, .int x116]) (rest := []) (r := 8) (i := 0) C (vX8_lesserOdds hc126) hR hS (lv0 (by decide) (by decide)) (by decide) ml_X8_350 mw_X8_lesserOdds rfl ⟨Nat.le_of_ble_eq_true rfl, Nat.le_of_ble_eq_true rfl, Nat.le_of_ble_eq_true rfl, Nat.le_of_ble_eq_true rfl⟩ hl.1 rfl (Nat.le_of_ble_eq_true rfl) dX8_next_83 (fun H locs hR hS => ?_)
                    refine lv_lstore (lv' := [(6, .long y127), (0, .ref (a 8 0)), (1, .int x114), (2, .long y115), (4, .int x108), (5, .int x116)]) hx hb dX8_next_86 hl (by decide) rfl (fun ls hl => ?_)
                    refine lv_iload_n hx hb dX8_next_88 rfl (lv_at hl 2 rfl) ?_
                    refine lv_iconst (v := (-1)) hx hb dX8_next_89 (by decide) ?_
                    refine jp_cut h (fun j131 hj131 h => ?_)
                    have Kj131 : ∀ (x129 : Int32) (y130 : Int64) (H : Heap) (locs : List Loc) (ls : Array Slot), j131 x129 y130 = some out → Rel E a u128 H → va_S (AE E) s.heap H locs → lv_has ls 8 [(0, .ref (a 8 0)), (1, .int x129), (2, .long y130), (4, .int x108), (5, .int x116)] → W p l e { frames := 7, cells := 0, slots := 0, locals := 173 } s m args below meth c H locs 0 0 (MQ below (QW E a (some (.int out.1)) out.2) args s 0 0 (AE E)) (F0 m 112 ls []) := by
                      intro x129 y130 H locs ls h hR hS hl
                      replace h := jx2 hj131 h
                      obtain ⟨x132, ex132⟩ : ∃ z : Int32, z = x116 + 1 := ⟨_, rfl⟩
                      replace h := bd_x ex132 h
                      refine lv_iinc (v := x132) (lv' := [(5, .int x132), (0, .ref (a 8 0)), (1, .int x129), (2, .long y130), (4, .int x108)]) hx hb dX8_next_112 hl (k := 4) rfl (by rw [ex132]; rfl) (by decide) rfl (fun ls hl => ?_)
                      refine lv_goto (tgt := 55) hx hb dX8_next_115 (by decide) ?_
                      exact ih _ _ _ _ _ _ _ h hR hS (lv_sub hl [1, 2, 3, 4, 0] rfl)
                    refine jp_cut h (fun j133 hj133 h => ?_)
                    have Kj133 : ∀  (H : Heap) (locs : List Loc) (ls : Array Slot), j133 = some out → Rel E a u128 H → va_S (AE E) s.heap H locs → lv_has ls 8 [(0, .ref (a 8 0)), (4, .int x108), (5, .int x116), (6, .long y127)] → W p l e { frames := 7, cells := 0, slots := 0, locals := 173 } s m args below meth c H locs 0 0 (MQ below (QW E a (some (.int out.1)) out.2) args s 0 0 (AE E)) (F0 m 100 ls []) := by
                      intro  H locs ls h hR hS hl
                      replace h := jx0 hj133 h
                      refine lv_bipush (v := 10) hx hb dX8_next_100 (by decide) ?_
                      refine lv_iload hx hb dX8_next_102 (lv_at hl 1 rfl) ?_
                      refine lv_imul hx hb dX8_next_104 ?_
                      refine lv_iload hx hb dX8_next_105 (lv_at hl 2 rfl) ?_
                      refine lv_iadd hx hb dX8_next_107 ?_
                      refine lv_topi (fun x134 ex134 => ?_)
                      replace h := bd_x ex134 h
                      refine lv_istore_n (lv' := [(1, .int x134), (0, .ref (a 8 0)), (4, .int x108), (5, .int x116), (6, .long y127)]) hx hb dX8_next_108 rfl hl (by decide) rfl (fun ls hl => ?_)
                      refine lv_lload hx hb dX8_next_109 (lv_at hl 4 rfl) ?_
                      refine lv_lstore_n (lv' := [(2, .long y127), (1, .int x134), (0, .ref (a 8 0)), (4, .int x108), (5, .int x116), (6, .long y127)]) hx hb dX8_next_111 rfl hl (by decide) rfl (fun ls hl => ?_)
                      exact Kj131 _ _ _ _ _ h hR hS (lv_sub hl [2, 1, 0, 3, 4] rfl)
                    refine lv_icmp_eq (tgt := 100) hx hb dX8_next_90 (by decide) (fun c_135 => ?_) (fun c_135 => ?_)
                    · rw [if_pos c_135] at h
                      exact Kj133  _ _ _ h hR hS (lv_sub hl [1, 4, 5, 0] rfl)
                    · rw [if_neg c_135] at h
                      refine lv_lload hx hb dX8_next_93 (lv_at hl 0 rfl) ?_
                      refine lv_lload_n hx hb dX8_next_95 rfl (lv_at hl 3 rfl) ?_
                      refine W.lcmp hx hb dX8_next_96 ?_
                      refine lv_if_le (tgt := 112) hx hb dX8_next_97 (by decide) (fun c_136 => ?_) (fun c_136 => ?_)
                      · rw [if_pos c_136] at h
                        exact Kj131 _ _ _ _ _ h hR hS (lv_sub hl [1, 2, 3, 4, 5] rfl)
                      · rw [if_neg c_136] at h
                        exact Kj133  _ _ _ h hR hS (lv_sub hl [1, 4, 5, 0] rfl)
            exact LP FU _ _ _ _ _ _ _ h hR hS (lv_sub hl [1, 2, 3, 4, 0] rfl)
      exact LP FU _ _ _ _ _ _ _ h hR hS (lv_sub hl [3, 2, 1, 0] rfl)
    have LP : ∀ (fu : Nat) (x102 : Int32) (u103 : HS) (H : Heap) (locs : List Loc) (ls : Array Slot), mX8_next_L11  w105 fu x102 u103 = some out → Rel E a u103 H → va_S (AE E) s.heap H locs → lv_has ls 8 [(0, .ref (a 8 0)), (1, .int x102)] → W p l e { frames := 7, cells := 0, slots := 0, locals := 173 } s m args below meth c H locs 0 0 (MQ below (QW E a (some (.int out.1)) out.2) args s 0 0 (AE E)) (F0 m 11 ls []) := by
      intro fu
      induction fu with
      | zero =>
        intro x102 u103 H locs ls h
        have h2 : (none : Option (Int32 × HS)) = some out := h
        cases h2
      | succ fu ih =>
        intro x102 u103 H locs ls h hR hS hl
        rw [mX8_next_L11.eq_2] at h
        refine lv_iload_n hx hb dX8_next_11 rfl (lv_at hl 1 rfl) ?_
        refine lv_aload_n hx hb dX8_next_12 rfl (lv_at hl 0 rfl) ?_
        refine r_get C hR 8 0 6 (v := .int (gI u103 8 0 6)) (lv0 (by decide) (by decide)) (by decide) (by decide) rfl fl_X8_41 dX8_next_13 ?_
        refine lv_icmp_ge (tgt := 36) hx hb dX8_next_16 (by decide) (fun c_137 => ?_) (fun c_137 => ?_)
        · rw [if_pos c_137] at h
          exact Kw105 _ _ _ _ h hR hS (lv_sub hl [0] rfl)
        · rw [if_neg c_137] at h
          refine lv_aload_n hx hb dX8_next_19 rfl (lv_at hl 0 rfl) ?_
          refine r_get C hR 8 0 14 (v := .ref (a 55 0)) (lv0 (by decide) (by decide)) (by decide) (by decide) rfl fl_X8_87 dX8_next_20 ?_
          refine lv_iload_n hx hb dX8_next_23 rfl (lv_at hl 1 rfl) ?_
          refine lv_aload_n hx hb dX8_next_24 rfl (lv_at hl 0 rfl) ?_
          refine lv_iload_n hx hb dX8_next_25 rfl (lv_at hl 1 rfl) ?_
          obtain ⟨⟨y139, u140⟩, hc138, h⟩ := ob h
          replace h := bd_x (x := y139) rfl h
          replace h := bd_x (x := u140) rfl h
          refine r_callV1 (As := [.int x102]) (rest := [.int x102, .ref (a 55 0)]) (r := 8) (i := 0) C (vX8_oddsOf hc138) hR hS (lv0 (by decide) (by decide)) (by decide) ml_X8_340 mw_X8_oddsOf rfl ⟨Nat.le_of_ble_eq_true rfl, Nat.le_of_ble_eq_true rfl, Nat.le_of_ble_eq_true rfl, Nat.le_of_ble_eq_true rfl⟩ hl.1 rfl (Nat.le_of_ble_eq_true rfl) dX8_next_26 (fun H locs hR hS => ?_)
          obtain ⟨k141, hk141, h⟩ := ob h
          refine r_last C hR hS 55 0 (lv0 (by decide) (by decide)) (by decide) rfl (fun _ _ => rfl) rfl hk141 dX8_next_29 (fun H locs hR hS => ?_)
          obtain ⟨u142, eu142⟩ : ∃ z : HS, z = wL u140 55 0 k141 y139 := ⟨_, rfl⟩
          rw [← eu142] at hR
          replace h := bd_x eu142 h
          clear eu142
          obtain ⟨x143, ex143⟩ : ∃ z : Int32, z = x102 + 1 := ⟨_, rfl⟩
          replace h := bd_x ex143 h
          refine lv_iinc (v := x143) (lv' := [(1, .int x143), (0, .ref (a 8 0))]) hx hb dX8_next_30 hl (k := 1) rfl (by rw [ex143]; rfl) (by decide) rfl (fun ls hl => ?_)
          refine lv_goto (tgt := 11) hx hb dX8_next_33 (by decide) ?_
          exact ih _ _ _ _ _ h hR hS (lv_sub hl [1, 0] rfl)
    exact LP FU _ _ _ _ _ h hR hS (lv_sub hl [1, 0] rfl)
  · rw [if_pos c_101] at h
    refine lv_iconst (v := (-1)) hx hb dX8_next_7 (by decide) ?_
    cases h
    exact e_iret C hr hR hS (Nat.le_of_ble_eq_true rfl) (Nat.le_of_ble_eq_true rfl) dX8_next_8
set_option maxHeartbeats 4000000 in
set_option maxRecDepth 100000 in
theorem vX8_image {l : Launch} {E : EV} {a : Nat → Nat → Nat} {u0 : HS}  {out : (Int32 × HS)} (h : mX8_image u0 = some out) : Ct l E yX8_image cX8_image 1 (some .int) 2 85 0 0 a u0 [.ref (a 8 0)] (some (.int out.1)) out.2 := by
  refine Ct.start (by decide) (Nat.le_of_ble_eq_true rfl) ?_
  intro p e s m args below meth c ls C hr hR hS hl
  have C : Cx E p s m args meth c cX8_image 1 RX8 := C
  have hl : lv_has ls 1 [(0, .ref (a 8 0))] := hl
  have hx := C.1
  have hb := C.2.1
  unfold mX8_image at h
  refine lv_aload_n hx hb dX8_image_0 rfl (lv_at hl 0 rfl) ?_
  refine r_get C hR 8 0 10 (v := .int (gI u0 8 0 10)) (lv0 (by decide) (by decide)) (by decide) (by decide) rfl fl_X8_64 dX8_image_1 ?_
  refine lv_iconst (v := 3) hx hb dX8_image_4 (by decide) ?_
  refine lv_icmp_ne (tgt := 10) hx hb dX8_image_5 (by decide) (fun c_101 => ?_) (fun c_101 => ?_)
  · rw [if_neg c_101] at h
    refine lv_aload_n hx hb dX8_image_10 rfl (lv_at hl 0 rfl) ?_
    refine r_get C hR 8 0 9 (v := .ref (a 53 0)) (lv0 (by decide) (by decide)) (by decide) (by decide) rfl fl_X8_60 dX8_image_11 ?_
    refine lv_aload_n hx hb dX8_image_14 rfl (lv_at hl 0 rfl) ?_
    refine r_get C hR 8 0 10 (v := .int (gI u0 8 0 10)) (lv0 (by decide) (by decide)) (by decide) (by decide) rfl fl_X8_64 dX8_image_15 ?_
    obtain ⟨k102, hk102, h⟩ := ob h
    have hLk102 : k102 + 1 < cntS 0 := by have q1 := (ck_in hk102).2.2; have q2 : cntS 0 = 4 := rfl; omega
    refine r_aald C hR 53 0 0 1 5 (lv0 (by decide) (by decide)) (by decide) rfl rfl rfl (fun _ => rfl) rfl hk102 dX8_image_18 ?_
    refine lv_aload_n hx hb dX8_image_19 rfl (lv_at hl 0 rfl) ?_
    refine r_get C hR 8 0 8 (v := .ref (a 0 0)) (lv0 (by decide) (by decide)) (by decide) (by decide) rfl fl_X8_56 dX8_image_20 ?_
    obtain ⟨u104, hc103, h⟩ := ob h
    refine r_callV0 (As := [.ref (a 0 0)]) (rest := []) (r := 0) (i := (k102 + 1)) C (vX0_copyFrom hLk102 (by decide) hc103) hR hS (lv0 hLk102 (by decide)) (by decide) ml_X8_357 mw_X0_copyFrom rfl ⟨Nat.le_of_ble_eq_true rfl, Nat.le_of_ble_eq_true rfl, Nat.le_of_ble_eq_true rfl, Nat.le_of_ble_eq_true rfl⟩ hl.1 rfl (Nat.le_of_ble_eq_true rfl) dX8_image_23 (fun H locs hR hS => ?_)
    refine lv_aload_n hx hb dX8_image_26 rfl (lv_at hl 0 rfl) ?_
    refine lv_dup hx hb dX8_image_27 rfl ?_
    refine r_get C hR 8 0 10 (v := .int (gI u104 8 0 10)) (lv0 (by decide) (by decide)) (by decide) (by decide) rfl fl_X8_64 dX8_image_28 ?_
    refine lv_iconst (v := 1) hx hb dX8_image_31 (by decide) ?_
    refine lv_iadd hx hb dX8_image_32 ?_
    refine r_putI (ty := .int) C hR hS 8 0 10 (lv0 (by decide) (by decide)) (by decide) (by decide) (fun _ => rfl) fl_X8_64 (by decide) (by decide +kernel) rfl rfl dX8_image_33 (fun H locs hR hS => ?_)
    obtain ⟨u105, eu105⟩ : ∃ z : HS, z = wI u104 8 0 10 ((gI u104 8 0 10) + 1) := ⟨_, rfl⟩
    rw [← eu105] at hR
    replace h := bd_x eu105 h
    clear eu105
    refine lv_aload_n hx hb dX8_image_36 rfl (lv_at hl 0 rfl) ?_
    refine r_get C hR 8 0 10 (v := .int (gI u105 8 0 10)) (lv0 (by decide) (by decide)) (by decide) (by decide) rfl fl_X8_64 dX8_image_37 ?_
    cases h
    exact e_iret C hr hR hS (Nat.le_of_ble_eq_true rfl) (Nat.le_of_ble_eq_true rfl) dX8_image_40
  · rw [if_pos c_101] at h
    refine lv_iconst (v := (-1)) hx hb dX8_image_8 (by decide) ?_
    cases h
    exact e_iret C hr hR hS (Nat.le_of_ble_eq_true rfl) (Nat.le_of_ble_eq_true rfl) dX8_image_9
set_option maxHeartbeats 4000000 in
set_option maxRecDepth 100000 in
theorem vX8_forgetStates {l : Launch} {E : EV} {a : Nat → Nat → Nat} {u0 : HS} {x1 : Int32} {out : HS} (h : mX8_forgetStates u0 x1 = some out) : Ct l E yX8_forgetStates cX8_forgetStates 3 none 0 0 0 0 a u0 [.ref (a 8 0), .int x1] none out := by
  refine Ct.start (by decide) (Nat.le_of_ble_eq_true rfl) ?_
  intro p e s m args below meth c ls C hr hR hS hl
  have C : Cx E p s m args meth c cX8_forgetStates 3 RX8 := C
  have hl : lv_has ls 3 [(0, .ref (a 8 0)), (1, .int x1)] := hl
  have hx := C.1
  have hb := C.2.1
  unfold mX8_forgetStates at h
  refine lv_iconst (v := 0) hx hb dX8_forgetStates_0 (by decide) ?_
  refine lv_istore_n (lv' := [(2, .int 0), (0, .ref (a 8 0)), (1, .int x1)]) hx hb dX8_forgetStates_1 rfl hl (by decide) rfl (fun ls hl => ?_)
  refine jp_cut h (fun w104 hw104 h => ?_)
  have Kw104 : ∀ (u103 : HS) (H : Heap) (locs : List Loc) (ls : Array Slot), w104 u103 = some out → Rel E a u103 H → va_S (AE E) s.heap H locs → lv_has ls 3 [] → W p l e { frames := 0, cells := 0, slots := 0, locals := 0 } s m args below meth c H locs 0 0 (MQ below (QW E a none out) args s 0 0 (AE E)) (F0 m 24 ls []) := by
    intro u103 H locs ls h hR hS hl
    replace h := jx1 hw104 h
    cases h
    exact e_vret C hr hR hS (Nat.le_of_ble_eq_true rfl) (Nat.le_of_ble_eq_true rfl) dX8_forgetStates_24
  have LP : ∀ (fu : Nat) (x101 : Int32) (u102 : HS) (H : Heap) (locs : List Loc) (ls : Array Slot), mX8_forgetStates_L2 x1 w104 fu x101 u102 = some out → Rel E a u102 H → va_S (AE E) s.heap H locs → lv_has ls 3 [(0, .ref (a 8 0)), (1, .int x1), (2, .int x101)] → W p l e { frames := 0, cells := 0, slots := 0, locals := 0 } s m args below meth c H locs 0 0 (MQ below (QW E a none out) args s 0 0 (AE E)) (F0 m 2 ls []) := by
    intro fu
    induction fu with
    | zero =>
      intro x101 u102 H locs ls h
      have h2 : (none : Option HS) = some out := h
      cases h2
    | succ fu ih =>
      intro x101 u102 H locs ls h hR hS hl
      rw [mX8_forgetStates_L2.eq_2] at h
      refine lv_iload_n hx hb dX8_forgetStates_2 rfl (lv_at hl 2 rfl) ?_
      refine lv_iconst (v := 4) hx hb dX8_forgetStates_3 (by decide) ?_
      refine lv_icmp_ge (tgt := 24) hx hb dX8_forgetStates_4 (by decide) (fun c_105 => ?_) (fun c_105 => ?_)
      · rw [if_pos c_105] at h
        exact Kw104 _ _ _ _ h hR hS (lv_sub hl [] rfl)
      · rw [if_neg c_105] at h
        refine lv_aload_n hx hb dX8_forgetStates_7 rfl (lv_at hl 0 rfl) ?_
        refine r_get C hR 8 0 13 (v := .ref (a 54 0)) (lv0 (by decide) (by decide)) (by decide) (by decide) rfl fl_X8_83 dX8_forgetStates_8 ?_
        refine lv_iload_n hx hb dX8_forgetStates_11 rfl (lv_at hl 1 rfl) ?_
        refine lv_iconst (v := 4) hx hb dX8_forgetStates_12 (by decide) ?_
        refine lv_imul hx hb dX8_forgetStates_13 ?_
        refine lv_iload_n hx hb dX8_forgetStates_14 rfl (lv_at hl 2 rfl) ?_
        refine lv_iadd hx hb dX8_forgetStates_15 ?_
        refine lv_iconst (v := (-1)) hx hb dX8_forgetStates_16 (by decide) ?_
        obtain ⟨k106, hk106, h⟩ := ob h
        refine r_ast C hR hS 54 0 (lv0 (by decide) (by decide)) (by decide) rfl (fun _ _ => rfl) rfl hk106 dX8_forgetStates_17 (fun H locs hR hS => ?_)
        obtain ⟨u107, eu107⟩ : ∃ z : HS, z = wI u102 54 0 k106 (-1) := ⟨_, rfl⟩
        rw [← eu107] at hR
        replace h := bd_x eu107 h
        clear eu107
        obtain ⟨x108, ex108⟩ : ∃ z : Int32, z = x101 + 1 := ⟨_, rfl⟩
        replace h := bd_x ex108 h
        refine lv_iinc (v := x108) (lv' := [(2, .int x108), (0, .ref (a 8 0)), (1, .int x1)]) hx hb dX8_forgetStates_18 hl (k := 2) rfl (by rw [ex108]; rfl) (by decide) rfl (fun ls hl => ?_)
        refine lv_goto (tgt := 2) hx hb dX8_forgetStates_21 (by decide) ?_
        exact ih _ _ _ _ _ h hR hS (lv_sub hl [1, 2, 0] rfl)
  exact LP FU _ _ _ _ _ h hR hS (lv_sub hl [1, 2, 0] rfl)
set_option maxHeartbeats 4000000 in
set_option maxRecDepth 100000 in
theorem vX8_restore {l : Launch} {E : EV} {a : Nat → Nat → Nat} {u0 : HS}  {out : (Int32 × HS)} (h : mX8_restore u0 = some out) : Ct l E yX8_restore cX8_restore 2 (some .int) 2 85 0 0 a u0 [.ref (a 8 0)] (some (.int out.1)) out.2 := by
  refine Ct.start (by decide) (Nat.le_of_ble_eq_true rfl) ?_
  intro p e s m args below meth c ls C hr hR hS hl
  have C : Cx E p s m args meth c cX8_restore 2 RX8 := C
  have hl : lv_has ls 2 [(0, .ref (a 8 0))] := hl
  have hx := C.1
  have hb := C.2.1
  unfold mX8_restore at h
  refine lv_aload_n hx hb dX8_restore_0 rfl (lv_at hl 0 rfl) ?_
  refine r_get C hR 8 0 10 (v := .int (gI u0 8 0 10)) (lv0 (by decide) (by decide)) (by decide) (by decide) rfl fl_X8_64 dX8_restore_1 ?_
  refine lv_if_ne (tgt := 9) hx hb dX8_restore_4 (by decide) (fun c_101 => ?_) (fun c_101 => ?_)
  · rw [if_neg c_101] at h
    refine lv_aload_n hx hb dX8_restore_9 rfl (lv_at hl 0 rfl) ?_
    refine lv_dup hx hb dX8_restore_10 rfl ?_
    refine r_get C hR 8 0 10 (v := .int (gI u0 8 0 10)) (lv0 (by decide) (by decide)) (by decide) (by decide) rfl fl_X8_64 dX8_restore_11 ?_
    refine lv_iconst (v := 1) hx hb dX8_restore_14 (by decide) ?_
    refine lv_isub hx hb dX8_restore_15 ?_
    refine r_putI (ty := .int) C hR hS 8 0 10 (lv0 (by decide) (by decide)) (by decide) (by decide) (fun _ => rfl) fl_X8_64 (by decide) (by decide +kernel) rfl rfl dX8_restore_16 (fun H locs hR hS => ?_)
    obtain ⟨u102, eu102⟩ : ∃ z : HS, z = wI u0 8 0 10 ((gI u0 8 0 10) - 1) := ⟨_, rfl⟩
    rw [← eu102] at hR
    replace h := bd_x eu102 h
    clear eu102
    refine lv_aload_n hx hb dX8_restore_19 rfl (lv_at hl 0 rfl) ?_
    refine r_get C hR 8 0 8 (v := .ref (a 0 0)) (lv0 (by decide) (by decide)) (by decide) (by decide) rfl fl_X8_56 dX8_restore_20 ?_
    refine lv_aload_n hx hb dX8_restore_23 rfl (lv_at hl 0 rfl) ?_
    refine r_get C hR 8 0 9 (v := .ref (a 53 0)) (lv0 (by decide) (by decide)) (by decide) (by decide) rfl fl_X8_60 dX8_restore_24 ?_
    refine lv_aload_n hx hb dX8_restore_27 rfl (lv_at hl 0 rfl) ?_
    refine r_get C hR 8 0 10 (v := .int (gI u102 8 0 10)) (lv0 (by decide) (by decide)) (by decide) (by decide) rfl fl_X8_64 dX8_restore_28 ?_
    obtain ⟨k103, hk103, h⟩ := ob h
    have hLk103 : k103 + 1 < cntS 0 := by have q1 := (ck_in hk103).2.2; have q2 : cntS 0 = 4 := rfl; omega
    refine r_aald C hR 53 0 0 1 5 (lv0 (by decide) (by decide)) (by decide) rfl rfl rfl (fun _ => rfl) rfl hk103 dX8_restore_31 ?_
    obtain ⟨u105, hc104, h⟩ := ob h
    refine r_callV0 (As := [.ref (a 0 (k103 + 1))]) (rest := []) (r := 0) (i := 0) C (vX0_copyFrom (by decide) hLk103 hc104) hR hS (lv0 (by decide) (by decide)) (by decide) ml_X8_357 mw_X0_copyFrom rfl ⟨Nat.le_of_ble_eq_true rfl, Nat.le_of_ble_eq_true rfl, Nat.le_of_ble_eq_true rfl, Nat.le_of_ble_eq_true rfl⟩ hl.1 rfl (Nat.le_of_ble_eq_true rfl) dX8_restore_32 (fun H locs hR hS => ?_)
    refine lv_iconst (v := 0) hx hb dX8_restore_35 (by decide) ?_
    refine lv_istore_n (lv' := [(1, .int 0), (0, .ref (a 8 0))]) hx hb dX8_restore_36 rfl hl (by decide) rfl (fun ls hl => ?_)
    refine jp_cut h (fun w109 hw109 h => ?_)
    have Kw109 : ∀ (u108 : HS) (H : Heap) (locs : List Loc) (ls : Array Slot), w109 u108 = some out → Rel E a u108 H → va_S (AE E) s.heap H locs → lv_has ls 2 [(0, .ref (a 8 0))] → W p l e { frames := 2, cells := 0, slots := 0, locals := 85 } s m args below meth c H locs 0 0 (MQ below (QW E a (some (.int out.1)) out.2) args s 0 0 (AE E)) (F0 m 54 ls []) := by
      intro u108 H locs ls h hR hS hl
      replace h := jx1 hw109 h
      refine lv_aload_n hx hb dX8_restore_54 rfl (lv_at hl 0 rfl) ?_
      refine r_get C hR 8 0 10 (v := .int (gI u108 8 0 10)) (lv0 (by decide) (by decide)) (by decide) (by decide) rfl fl_X8_64 dX8_restore_55 ?_
      cases h
      exact e_iret C hr hR hS (Nat.le_of_ble_eq_true rfl) (Nat.le_of_ble_eq_true rfl) dX8_restore_58
    have LP : ∀ (fu : Nat) (x106 : Int32) (u107 : HS) (H : Heap) (locs : List Loc) (ls : Array Slot), mX8_restore_L37  w109 fu x106 u107 = some out → Rel E a u107 H → va_S (AE E) s.heap H locs → lv_has ls 2 [(0, .ref (a 8 0)), (1, .int x106)] → W p l e { frames := 2, cells := 0, slots := 0, locals := 85 } s m args below meth c H locs 0 0 (MQ below (QW E a (some (.int out.1)) out.2) args s 0 0 (AE E)) (F0 m 37 ls []) := by
      intro fu
      induction fu with
      | zero =>
        intro x106 u107 H locs ls h
        have h2 : (none : Option (Int32 × HS)) = some out := h
        cases h2
      | succ fu ih =>
        intro x106 u107 H locs ls h hR hS hl
        rw [mX8_restore_L37.eq_2] at h
        refine lv_iload_n hx hb dX8_restore_37 rfl (lv_at hl 1 rfl) ?_
        refine lv_bipush (v := 14) hx hb dX8_restore_38 (by decide) ?_
        refine lv_icmp_ge (tgt := 54) hx hb dX8_restore_40 (by decide) (fun c_110 => ?_) (fun c_110 => ?_)
        · rw [if_pos c_110] at h
          exact Kw109 _ _ _ _ h hR hS (lv_sub hl [0] rfl)
        · rw [if_neg c_110] at h
          refine lv_aload_n hx hb dX8_restore_43 rfl (lv_at hl 0 rfl) ?_
          refine lv_iload_n hx hb dX8_restore_44 rfl (lv_at hl 1 rfl) ?_
          obtain ⟨u112, hc111, h⟩ := ob h
          refine r_callV0 (As := [.int x106]) (rest := []) (r := 8) (i := 0) C (vX8_forgetStates hc111) hR hS (lv0 (by decide) (by decide)) (by decide) ml_X8_196 mw_X8_forgetStates rfl ⟨Nat.le_of_ble_eq_true rfl, Nat.le_of_ble_eq_true rfl, Nat.le_of_ble_eq_true rfl, Nat.le_of_ble_eq_true rfl⟩ hl.1 rfl (Nat.le_of_ble_eq_true rfl) dX8_restore_45 (fun H locs hR hS => ?_)
          obtain ⟨x113, ex113⟩ : ∃ z : Int32, z = x106 + 1 := ⟨_, rfl⟩
          replace h := bd_x ex113 h
          refine lv_iinc (v := x113) (lv' := [(1, .int x113), (0, .ref (a 8 0))]) hx hb dX8_restore_48 hl (k := 1) rfl (by rw [ex113]; rfl) (by decide) rfl (fun ls hl => ?_)
          refine lv_goto (tgt := 37) hx hb dX8_restore_51 (by decide) ?_
          exact ih _ _ _ _ _ h hR hS (lv_sub hl [1, 0] rfl)
    exact LP FU _ _ _ _ _ h hR hS (lv_sub hl [1, 0] rfl)
  · rw [if_pos c_101] at h
    refine lv_iconst (v := (-1)) hx hb dX8_restore_7 (by decide) ?_
    cases h
    exact e_iret C hr hR hS (Nat.le_of_ble_eq_true rfl) (Nat.le_of_ble_eq_true rfl) dX8_restore_8
set_option maxHeartbeats 4000000 in
set_option maxRecDepth 100000 in
theorem vX8_count {l : Launch} {E : EV} {a : Nat → Nat → Nat} {u0 : HS} {x1 : Int32} {out : Int32} (h : mX8_count u0 x1 = some out) : Ct l E yX8_count cX8_count 2 (some .int) 0 0 0 0 a u0 [.ref (a 8 0), .int x1] (some (.int out)) u0 := by
  refine Ct.start (by decide) (Nat.le_of_ble_eq_true rfl) ?_
  intro p e s m args below meth c ls C hr hR hS hl
  have C : Cx E p s m args meth c cX8_count 2 RX8 := C
  have hl : lv_has ls 2 [(0, .ref (a 8 0)), (1, .int x1)] := hl
  have hx := C.1
  have hb := C.2.1
  unfold mX8_count at h
  refine lv_iload_n hx hb dX8_count_0 rfl (lv_at hl 1 rfl) ?_
  by_cases c_101 : x1 = 0
  · rw [if_pos c_101] at h
    refine sw_in c_101 hx hb dX8_count_1 (by decide) (by decide) rfl (by decide) (tgt := 52) ?_
    refine lv_aload_n hx hb dX8_count_52 rfl (lv_at hl 0 rfl) ?_
    refine r_get C hR 8 0 2 (v := .int (gI u0 8 0 2)) (lv0 (by decide) (by decide)) (by decide) (by decide) rfl fl_X8_22 dX8_count_53 ?_
    cases h
    exact e_iret C hr hR hS (Nat.le_of_ble_eq_true rfl) (Nat.le_of_ble_eq_true rfl) dX8_count_56
  rw [if_neg c_101] at h
  by_cases c_102 : x1 = 1
  · rw [if_pos c_102] at h
    refine sw_in c_102 hx hb dX8_count_1 (by decide) (by decide) rfl (by decide) (tgt := 57) ?_
    refine lv_aload_n hx hb dX8_count_57 rfl (lv_at hl 0 rfl) ?_
    refine r_get C hR 8 0 4 (v := .int (gI u0 8 0 4)) (lv0 (by decide) (by decide)) (by decide) (by decide) rfl fl_X8_32 dX8_count_58 ?_
    cases h
    exact e_iret C hr hR hS (Nat.le_of_ble_eq_true rfl) (Nat.le_of_ble_eq_true rfl) dX8_count_61
  rw [if_neg c_102] at h
  by_cases c_103 : x1 = 2
  · rw [if_pos c_103] at h
    refine sw_in c_103 hx hb dX8_count_1 (by decide) (by decide) rfl (by decide) (tgt := 62) ?_
    refine lv_aload_n hx hb dX8_count_62 rfl (lv_at hl 0 rfl) ?_
    refine r_get C hR 8 0 6 (v := .int (gI u0 8 0 6)) (lv0 (by decide) (by decide)) (by decide) (by decide) rfl fl_X8_41 dX8_count_63 ?_
    cases h
    exact e_iret C hr hR hS (Nat.le_of_ble_eq_true rfl) (Nat.le_of_ble_eq_true rfl) dX8_count_66
  rw [if_neg c_103] at h
  by_cases c_104 : x1 = 3
  · rw [if_pos c_104] at h
    refine sw_in c_104 hx hb dX8_count_1 (by decide) (by decide) rfl (by decide) (tgt := 67) ?_
    refine lv_aload_n hx hb dX8_count_67 rfl (lv_at hl 0 rfl) ?_
    refine r_get C hR 8 0 8 (v := .ref (a 0 0)) (lv0 (by decide) (by decide)) (by decide) (by decide) rfl fl_X8_56 dX8_count_68 ?_
    refine r_get C hR 0 0 0 (v := .int (gI u0 0 0 0)) (lv0 (by decide) (by decide)) (by decide) (by decide) rfl fl_X8_268 dX8_count_71 ?_
    cases h
    exact e_iret C hr hR hS (Nat.le_of_ble_eq_true rfl) (Nat.le_of_ble_eq_true rfl) dX8_count_74
  rw [if_neg c_104] at h
  by_cases c_105 : x1 = 4
  · rw [if_pos c_105] at h
    refine sw_in c_105 hx hb dX8_count_1 (by decide) (by decide) rfl (by decide) (tgt := 75) ?_
    refine lv_aload_n hx hb dX8_count_75 rfl (lv_at hl 0 rfl) ?_
    refine r_get C hR 8 0 8 (v := .ref (a 0 0)) (lv0 (by decide) (by decide)) (by decide) (by decide) rfl fl_X8_56 dX8_count_76 ?_
    refine r_get C hR 0 0 7 (v := .int (gI u0 0 0 7)) (lv0 (by decide) (by decide)) (by decide) (by decide) rfl fl_X8_361 dX8_count_79 ?_
    cases h
    exact e_iret C hr hR hS (Nat.le_of_ble_eq_true rfl) (Nat.le_of_ble_eq_true rfl) dX8_count_82
  rw [if_neg c_105] at h
  by_cases c_106 : x1 = 5
  · rw [if_pos c_106] at h
    refine sw_in c_106 hx hb dX8_count_1 (by decide) (by decide) rfl (by decide) (tgt := 83) ?_
    refine lv_aload_n hx hb dX8_count_83 rfl (lv_at hl 0 rfl) ?_
    refine r_get C hR 8 0 8 (v := .ref (a 0 0)) (lv0 (by decide) (by decide)) (by decide) (by decide) rfl fl_X8_56 dX8_count_84 ?_
    refine r_get C hR 0 0 11 (v := .int (gI u0 0 0 11)) (lv0 (by decide) (by decide)) (by decide) (by decide) rfl fl_X8_364 dX8_count_87 ?_
    cases h
    exact e_iret C hr hR hS (Nat.le_of_ble_eq_true rfl) (Nat.le_of_ble_eq_true rfl) dX8_count_90
  rw [if_neg c_106] at h
  by_cases c_107 : x1 = 6
  · rw [if_pos c_107] at h
    refine sw_in c_107 hx hb dX8_count_1 (by decide) (by decide) rfl (by decide) (tgt := 91) ?_
    refine lv_aload_n hx hb dX8_count_91 rfl (lv_at hl 0 rfl) ?_
    refine r_get C hR 8 0 10 (v := .int (gI u0 8 0 10)) (lv0 (by decide) (by decide)) (by decide) (by decide) rfl fl_X8_64 dX8_count_92 ?_
    cases h
    exact e_iret C hr hR hS (Nat.le_of_ble_eq_true rfl) (Nat.le_of_ble_eq_true rfl) dX8_count_95
  rw [if_neg c_107] at h
  by_cases c_108 : x1 = 7
  · rw [if_pos c_108] at h
    refine sw_in c_108 hx hb dX8_count_1 (by decide) (by decide) rfl (by decide) (tgt := 96) ?_
    refine lv_aload_n hx hb dX8_count_96 rfl (lv_at hl 0 rfl) ?_
    refine r_get C hR 8 0 0 (v := .ref (a 5 0)) (lv0 (by decide) (by decide)) (by decide) (by decide) rfl fl_X8_10 dX8_count_97 ?_
    refine r_get C hR 5 0 1 (v := .int (gI u0 5 0 1)) (lv0 (by decide) (by decide)) (by decide) (by decide) rfl fl_X8_102 dX8_count_100 ?_
    cases h
    exact e_iret C hr hR hS (Nat.le_of_ble_eq_true rfl) (Nat.le_of_ble_eq_true rfl) dX8_count_103
  rw [if_neg c_108] at h
  by_cases c_109 : x1 = 8
  · rw [if_pos c_109] at h
    refine sw_in c_109 hx hb dX8_count_1 (by decide) (by decide) rfl (by decide) (tgt := 104) ?_
    refine lv_aload_n hx hb dX8_count_104 rfl (lv_at hl 0 rfl) ?_
    refine r_get C hR 8 0 8 (v := .ref (a 0 0)) (lv0 (by decide) (by decide)) (by decide) (by decide) rfl fl_X8_56 dX8_count_105 ?_
    refine r_get C hR 0 0 16 (v := .int (gI u0 0 0 16)) (lv0 (by decide) (by decide)) (by decide) (by decide) rfl fl_X8_337 dX8_count_108 ?_
    cases h
    exact e_iret C hr hR hS (Nat.le_of_ble_eq_true rfl) (Nat.le_of_ble_eq_true rfl) dX8_count_111
  rw [if_neg c_109] at h
  refine lv_tableOut (tgt := 112) hx hb dX8_count_1 (by have z0 := sw_ne (k := 0) c_101 rfl; have z1 := sw_ne (k := 1) c_102 rfl; have z2 := sw_ne (k := 2) c_103 rfl; have z3 := sw_ne (k := 3) c_104 rfl; have z4 := sw_ne (k := 4) c_105 rfl; have z5 := sw_ne (k := 5) c_106 rfl; have z6 := sw_ne (k := 6) c_107 rfl; have z7 := sw_ne (k := 7) c_108 rfl; have z8 := sw_ne (k := 8) c_109 rfl; omega) (by decide) ?_
  refine lv_iconst (v := (-1)) hx hb dX8_count_112 (by decide) ?_
  cases h
  exact e_iret C hr hR hS (Nat.le_of_ble_eq_true rfl) (Nat.le_of_ble_eq_true rfl) dX8_count_113
set_option maxHeartbeats 4000000 in
set_option maxRecDepth 100000 in
theorem vX8_isTenth {l : Launch} {E : EV} {a : Nat → Nat → Nat} {u0 : HS} {x0 : Int32} {out : Int32} (h : mX8_isTenth x0 = some out) : Ct l E yX8_isTenth cX8_isTenth 1 (some .boolean) 0 0 0 0 a u0 [.int x0] (some (.int out)) u0 := by
  refine Ct.start (by decide) (Nat.le_of_ble_eq_true rfl) ?_
  intro p e s m args below meth c ls C hr hR hS hl
  have C : Cx E p s m args meth c cX8_isTenth 1 RX8 := C
  have hl : lv_has ls 1 [(0, .int x0)] := hl
  have hx := C.1
  have hb := C.2.1
  unfold mX8_isTenth at h
  refine lv_iload_n hx hb dX8_isTenth_0 rfl (lv_at hl 0 rfl) ?_
  refine lv_if_lt (tgt := 15) hx hb dX8_isTenth_1 (by decide) (fun c_101 => ?_) (fun c_101 => ?_)
  · rw [if_pos c_101] at h
    refine lv_iconst (v := 0) hx hb dX8_isTenth_15 (by decide) ?_
    cases h
    exact e_zret (v := 0) C hr rfl hR hS (Nat.le_of_ble_eq_true rfl) (Nat.le_of_ble_eq_true rfl) dX8_isTenth_16
  · rw [if_neg c_101] at h
    refine lv_iload_n hx hb dX8_isTenth_4 rfl (lv_at hl 0 rfl) ?_
    refine lv_sipush (v := 300) hx hb dX8_isTenth_5 (by decide) ?_
    refine lv_icmp_ge (tgt := 15) hx hb dX8_isTenth_8 (by decide) (fun c_102 => ?_) (fun c_102 => ?_)
    · rw [if_pos c_102] at h
      refine lv_iconst (v := 0) hx hb dX8_isTenth_15 (by decide) ?_
      cases h
      exact e_zret (v := 0) C hr rfl hR hS (Nat.le_of_ble_eq_true rfl) (Nat.le_of_ble_eq_true rfl) dX8_isTenth_16
    · rw [if_neg c_102] at h
      refine lv_iconst (v := 1) hx hb dX8_isTenth_11 (by decide) ?_
      refine lv_goto (tgt := 16) hx hb dX8_isTenth_12 (by decide) ?_
      cases h
      exact e_zret (v := 1) C hr rfl hR hS (Nat.le_of_ble_eq_true rfl) (Nat.le_of_ble_eq_true rfl) dX8_isTenth_16
set_option maxHeartbeats 4000000 in
set_option maxRecDepth 100000 in
theorem vX8_isAsking {l : Launch} {E : EV} {a : Nat → Nat → Nat} {u0 : HS} {x0 : Int32} {out : Int32} (h : mX8_isAsking x0 = some out) : Ct l E yX8_isAsking cX8_isAsking 1 (some .boolean) 0 0 0 0 a u0 [.int x0] (some (.int out)) u0 := by
  refine Ct.start (by decide) (Nat.le_of_ble_eq_true rfl) ?_
  intro p e s m args below meth c ls C hr hR hS hl
  have C : Cx E p s m args meth c cX8_isAsking 1 RX8 := C
  have hl : lv_has ls 1 [(0, .int x0)] := hl
  have hx := C.1
  have hb := C.2.1
  unfold mX8_isAsking at h
  refine lv_iload_n hx hb dX8_isAsking_0 rfl (lv_at hl 0 rfl) ?_
  refine lv_if_lt (tgt := 13) hx hb dX8_isAsking_1 (by decide) (fun c_101 => ?_) (fun c_101 => ?_)
  · rw [if_pos c_101] at h
    refine lv_iconst (v := 0) hx hb dX8_isAsking_13 (by decide) ?_
    cases h
    exact e_zret (v := 0) C hr rfl hR hS (Nat.le_of_ble_eq_true rfl) (Nat.le_of_ble_eq_true rfl) dX8_isAsking_14
  · rw [if_neg c_101] at h
    refine lv_iload_n hx hb dX8_isAsking_4 rfl (lv_at hl 0 rfl) ?_
    refine lv_iconst (v := 3) hx hb dX8_isAsking_5 (by decide) ?_
    refine lv_icmp_ge (tgt := 13) hx hb dX8_isAsking_6 (by decide) (fun c_102 => ?_) (fun c_102 => ?_)
    · rw [if_pos c_102] at h
      refine lv_iconst (v := 0) hx hb dX8_isAsking_13 (by decide) ?_
      cases h
      exact e_zret (v := 0) C hr rfl hR hS (Nat.le_of_ble_eq_true rfl) (Nat.le_of_ble_eq_true rfl) dX8_isAsking_14
    · rw [if_neg c_102] at h
      refine lv_iconst (v := 1) hx hb dX8_isAsking_9 (by decide) ?_
      refine lv_goto (tgt := 14) hx hb dX8_isAsking_10 (by decide) ?_
      cases h
      exact e_zret (v := 1) C hr rfl hR hS (Nat.le_of_ble_eq_true rfl) (Nat.le_of_ble_eq_true rfl) dX8_isAsking_14
set_option maxHeartbeats 4000000 in
set_option maxRecDepth 100000 in
theorem vX8_isFit {l : Launch} {E : EV} {a : Nat → Nat → Nat} {u0 : HS} {x0 : Int32} {out : Int32} (h : mX8_isFit x0 = some out) : Ct l E yX8_isFit cX8_isFit 1 (some .boolean) 0 0 0 0 a u0 [.int x0] (some (.int out)) u0 := by
  refine Ct.start (by decide) (Nat.le_of_ble_eq_true rfl) ?_
  intro p e s m args below meth c ls C hr hR hS hl
  have C : Cx E p s m args meth c cX8_isFit 1 RX8 := C
  have hl : lv_has ls 1 [(0, .int x0)] := hl
  have hx := C.1
  have hb := C.2.1
  unfold mX8_isFit at h
  refine lv_iload_n hx hb dX8_isFit_0 rfl (lv_at hl 0 rfl) ?_
  refine lv_if_lt (tgt := 14) hx hb dX8_isFit_1 (by decide) (fun c_101 => ?_) (fun c_101 => ?_)
  · rw [if_pos c_101] at h
    refine lv_iconst (v := 0) hx hb dX8_isFit_14 (by decide) ?_
    cases h
    exact e_zret (v := 0) C hr rfl hR hS (Nat.le_of_ble_eq_true rfl) (Nat.le_of_ble_eq_true rfl) dX8_isFit_15
  · rw [if_neg c_101] at h
    refine lv_iload_n hx hb dX8_isFit_4 rfl (lv_at hl 0 rfl) ?_
    refine lv_bipush (v := 14) hx hb dX8_isFit_5 (by decide) ?_
    refine lv_icmp_gt (tgt := 14) hx hb dX8_isFit_7 (by decide) (fun c_102 => ?_) (fun c_102 => ?_)
    · rw [if_pos c_102] at h
      refine lv_iconst (v := 0) hx hb dX8_isFit_14 (by decide) ?_
      cases h
      exact e_zret (v := 0) C hr rfl hR hS (Nat.le_of_ble_eq_true rfl) (Nat.le_of_ble_eq_true rfl) dX8_isFit_15
    · rw [if_neg c_102] at h
      refine lv_iconst (v := 1) hx hb dX8_isFit_10 (by decide) ?_
      refine lv_goto (tgt := 15) hx hb dX8_isFit_11 (by decide) ?_
      cases h
      exact e_zret (v := 1) C hr rfl hR hS (Nat.le_of_ble_eq_true rfl) (Nat.le_of_ble_eq_true rfl) dX8_isFit_15
