set_option maxHeartbeats 4000000 in
set_option maxRecDepth 100000 in
theorem vX9_thing {l : Launch} {E : EV} {a : Nat → Nat → Nat} {u0 : HS} {x1 : Int32} {x2 : Int32} {x3 : Int32} {x4 : Int32} {out : (Int32 × HS)} (h : mX9_thing u0 x1 x2 x3 x4 = some out) : Ct l E yX9_thing cX9_thing 5 (some .int) 4 96 0 0 a u0 [.ref (a 9 0), .int x1, .int x2, .int x3, .int x4] (some (.int out.1)) out.2 := by
  refine Ct.start (by decide) (Nat.le_of_ble_eq_true rfl) ?_
  intro p e s m args below meth c ls C hr hR hS hl
  have C : Cx E p s m args meth c cX9_thing 5 RX9 := C
  have hl : lv_has ls 5 [(0, .ref (a 9 0)), (1, .int x1), (2, .int x2), (3, .int x3), (4, .int x4)] := hl
  have hx := C.1
  have hb := C.2.1
  unfold mX9_thing at h
  refine lv_aload_n hx hb dX9_thing_0 rfl (lv_at hl 0 rfl) ?_
  refine lv_iconst (v := 0) hx hb dX9_thing_1 (by decide) ?_
  refine r_putI (ty := .int) C hR hS 9 0 0 (lv0 (by decide) (by decide)) (by decide) (by decide) (fun _ => rfl) fl_X9_76 (by decide) (by decide +kernel) rfl rfl dX9_thing_2 (fun H locs hR hS => ?_)
  obtain ⟨u101, eu101⟩ : ∃ z : HS, z = wI u0 9 0 0 0 := ⟨_, rfl⟩
  rw [← eu101] at hR
  replace h := bd_x eu101 h
  clear eu101
  refine lv_aload_n hx hb dX9_thing_5 rfl (lv_at hl 0 rfl) ?_
  refine lv_aload_n hx hb dX9_thing_6 rfl (lv_at hl 0 rfl) ?_
  refine lv_iload_n hx hb dX9_thing_7 rfl (lv_at hl 1 rfl) ?_
  obtain ⟨x103, hc102, h⟩ := ob h
  refine r_callV1 (As := [.int x1]) (rest := [.ref (a 9 0)]) (r := 9) (i := 0) C (vX9_isScene hc102) hR hS (lv0 (by decide) (by decide)) (by decide) ml_X9_254 mw_X9_isScene rfl ⟨Nat.le_of_ble_eq_true rfl, Nat.le_of_ble_eq_true rfl, Nat.le_of_ble_eq_true rfl, Nat.le_of_ble_eq_true rfl⟩ hl.1 rfl (Nat.le_of_ble_eq_true rfl) dX9_thing_8 (fun H locs hR hS => ?_)
  obtain ⟨x104, hz, h⟩ := ob h
  have Kj105 : ∀ (H : Heap) (locs : List Loc) (ls : Array Slot), Rel E a u101 H → va_S (AE E) s.heap H locs → lv_has ls 5 [(0, .ref (a 9 0)), (1, .int x1), (2, .int x2), (3, .int x3), (4, .int x4)] → W p l e { frames := 4, cells := 0, slots := 0, locals := 96 } s m args below meth c H locs 0 0 (MQ below (QW E a (some (.int out.1)) out.2) args s 0 0 (AE E)) (F0 m 19 ls [.int x104, .ref (a 9 0)]) := by
    intro H locs ls hR hS hl
    clear hz
    refine lv_iconst (v := 1) hx hb dX9_thing_19 (by decide) ?_
    obtain ⟨⟨x107, u108⟩, hc106, h⟩ := ob h
    replace h := bd_x (x := x107) rfl h
    replace h := bd_x (x := u108) rfl h
    refine r_callV1 (As := [.int x104, .int 1]) (rest := []) (r := 9) (i := 0) C (vX9_bad hc106) hR hS (lv0 (by decide) (by decide)) (by decide) ml_X9_162 mw_X9_bad rfl ⟨Nat.le_of_ble_eq_true rfl, Nat.le_of_ble_eq_true rfl, Nat.le_of_ble_eq_true rfl, Nat.le_of_ble_eq_true rfl⟩ hl.1 rfl (Nat.le_of_ble_eq_true rfl) dX9_thing_20 (fun H locs hR hS => ?_)
    refine lv_if_ne (tgt := 76) hx hb dX9_thing_23 (by decide) (fun c_109 => ?_) (fun c_109 => ?_)
    · rw [if_neg c_109] at h
      refine lv_iconst (v := 0) hx hb dX9_thing_76 (by decide) ?_
      cases h
      exact e_iret C hr hR hS (Nat.le_of_ble_eq_true rfl) (Nat.le_of_ble_eq_true rfl) dX9_thing_77
    · rw [if_pos c_109] at h
      refine lv_aload_n hx hb dX9_thing_26 rfl (lv_at hl 0 rfl) ?_
      refine lv_iload_n hx hb dX9_thing_27 rfl (lv_at hl 2 rfl) ?_
      refine lv_iconst (v := 0) hx hb dX9_thing_28 (by decide) ?_
      refine lv_aload_n hx hb dX9_thing_29 rfl (lv_at hl 0 rfl) ?_
      refine r_get C hR 9 0 19 (v := .ref (a 67 0)) (lv0 (by decide) (by decide)) (by decide) (by decide) rfl fl_X9_31 dX9_thing_30 ?_
      refine lv_iload_n hx hb dX9_thing_33 rfl (lv_at hl 1 rfl) ?_
      obtain ⟨k110, hk110, h⟩ := ob h
      refine r_ald C hR 67 0 (lv0 (by decide) (by decide)) (by decide) rfl (fun _ => rfl) rfl hk110 dX9_thing_34 ?_
      refine lv_iconst (v := 1) hx hb dX9_thing_35 (by decide) ?_
      refine lv_isub hx hb dX9_thing_36 ?_
      obtain ⟨x112, hc111, h⟩ := ob h
      refine r_callS1 (As := [.int x2, .int 0, .int ((gI u108 67 0 k110) - 1)]) (rest := [.ref (a 9 0)]) C (vX9_in hc111) hR hS ml_X9_113 ms_X9_in rfl ⟨Nat.le_of_ble_eq_true rfl, Nat.le_of_ble_eq_true rfl, Nat.le_of_ble_eq_true rfl, Nat.le_of_ble_eq_true rfl⟩ hl.1 rfl (Nat.le_of_ble_eq_true rfl) dX9_thing_37 (fun H locs hR hS => ?_)
      obtain ⟨x113, hz, h⟩ := ob h
      have Kj114 : ∀ (H : Heap) (locs : List Loc) (ls : Array Slot), Rel E a u108 H → va_S (AE E) s.heap H locs → lv_has ls 5 [(0, .ref (a 9 0)), (1, .int x1), (2, .int x2), (3, .int x3), (4, .int x4)] → W p l e { frames := 4, cells := 0, slots := 0, locals := 96 } s m args below meth c H locs 0 0 (MQ below (QW E a (some (.int out.1)) out.2) args s 0 0 (AE E)) (F0 m 69 ls [.int x113, .ref (a 9 0)]) := by
        intro H locs ls hR hS hl
        clear hz
        refine lv_iconst (v := 2) hx hb dX9_thing_69 (by decide) ?_
        obtain ⟨⟨x116, u117⟩, hc115, h⟩ := ob h
        replace h := bd_x (x := x116) rfl h
        replace h := bd_x (x := u117) rfl h
        refine r_callV1 (As := [.int x113, .int 2]) (rest := []) (r := 9) (i := 0) C (vX9_bad hc115) hR hS (lv0 (by decide) (by decide)) (by decide) ml_X9_162 mw_X9_bad rfl ⟨Nat.le_of_ble_eq_true rfl, Nat.le_of_ble_eq_true rfl, Nat.le_of_ble_eq_true rfl, Nat.le_of_ble_eq_true rfl⟩ hl.1 rfl (Nat.le_of_ble_eq_true rfl) dX9_thing_70 (fun H locs hR hS => ?_)
        refine lv_if_eq (tgt := 78) hx hb dX9_thing_73 (by decide) (fun c_118 => ?_) (fun c_118 => ?_)
        · rw [if_pos c_118] at h
          refine lv_iload hx hb dX9_thing_78 (lv_at hl 4 rfl) ?_
          by_cases c_119 : x4 = 0
          · rw [if_pos c_119] at h
            refine sw_in c_119 hx hb dX9_thing_80 (by decide) (by decide) rfl (by decide) (tgt := 116) ?_
            refine lv_aload_n hx hb dX9_thing_116 rfl (lv_at hl 0 rfl) ?_
            refine lv_iload_n hx hb dX9_thing_117 rfl (lv_at hl 1 rfl) ?_
            refine lv_iload_n hx hb dX9_thing_118 rfl (lv_at hl 2 rfl) ?_
            refine lv_iload_n hx hb dX9_thing_119 rfl (lv_at hl 3 rfl) ?_
            refine lv_iload hx hb dX9_thing_120 (lv_at hl 4 rfl) ?_
            obtain ⟨x121, hc120, h⟩ := ob h
            refine r_callV1 (As := [.int x1, .int x2, .int x3, .int x4]) (rest := []) (r := 9) (i := 0) C (vX9_placeOf hc120) hR hS (lv0 (by decide) (by decide)) (by decide) ml_X9_244 mw_X9_placeOf rfl ⟨Nat.le_of_ble_eq_true rfl, Nat.le_of_ble_eq_true rfl, Nat.le_of_ble_eq_true rfl, Nat.le_of_ble_eq_true rfl⟩ hl.1 rfl (Nat.le_of_ble_eq_true rfl) dX9_thing_122 (fun H locs hR hS => ?_)
            cases h
            exact e_iret C hr hR hS (Nat.le_of_ble_eq_true rfl) (Nat.le_of_ble_eq_true rfl) dX9_thing_125
          rw [if_neg c_119] at h
          by_cases c_122 : x4 = 1
          · rw [if_pos c_122] at h
            refine sw_in c_122 hx hb dX9_thing_80 (by decide) (by decide) rfl (by decide) (tgt := 116) ?_
            refine lv_aload_n hx hb dX9_thing_116 rfl (lv_at hl 0 rfl) ?_
            refine lv_iload_n hx hb dX9_thing_117 rfl (lv_at hl 1 rfl) ?_
            refine lv_iload_n hx hb dX9_thing_118 rfl (lv_at hl 2 rfl) ?_
            refine lv_iload_n hx hb dX9_thing_119 rfl (lv_at hl 3 rfl) ?_
            refine lv_iload hx hb dX9_thing_120 (lv_at hl 4 rfl) ?_
            obtain ⟨x124, hc123, h⟩ := ob h
            refine r_callV1 (As := [.int x1, .int x2, .int x3, .int x4]) (rest := []) (r := 9) (i := 0) C (vX9_placeOf hc123) hR hS (lv0 (by decide) (by decide)) (by decide) ml_X9_244 mw_X9_placeOf rfl ⟨Nat.le_of_ble_eq_true rfl, Nat.le_of_ble_eq_true rfl, Nat.le_of_ble_eq_true rfl, Nat.le_of_ble_eq_true rfl⟩ hl.1 rfl (Nat.le_of_ble_eq_true rfl) dX9_thing_122 (fun H locs hR hS => ?_)
            cases h
            exact e_iret C hr hR hS (Nat.le_of_ble_eq_true rfl) (Nat.le_of_ble_eq_true rfl) dX9_thing_125
          rw [if_neg c_122] at h
          by_cases c_125 : x4 = 2
          · rw [if_pos c_125] at h
            refine sw_in c_125 hx hb dX9_thing_80 (by decide) (by decide) rfl (by decide) (tgt := 126) ?_
            refine lv_aload_n hx hb dX9_thing_126 rfl (lv_at hl 0 rfl) ?_
            refine lv_iload_n hx hb dX9_thing_127 rfl (lv_at hl 1 rfl) ?_
            refine lv_iload_n hx hb dX9_thing_128 rfl (lv_at hl 2 rfl) ?_
            refine lv_iload_n hx hb dX9_thing_129 rfl (lv_at hl 3 rfl) ?_
            obtain ⟨x127, hc126, h⟩ := ob h
            refine r_callV1 (As := [.int x1, .int x2, .int x3]) (rest := []) (r := 9) (i := 0) C (vX9_colourOf hc126) hR hS (lv0 (by decide) (by decide)) (by decide) ml_X9_269 mw_X9_colourOf rfl ⟨Nat.le_of_ble_eq_true rfl, Nat.le_of_ble_eq_true rfl, Nat.le_of_ble_eq_true rfl, Nat.le_of_ble_eq_true rfl⟩ hl.1 rfl (Nat.le_of_ble_eq_true rfl) dX9_thing_130 (fun H locs hR hS => ?_)
            cases h
            exact e_iret C hr hR hS (Nat.le_of_ble_eq_true rfl) (Nat.le_of_ble_eq_true rfl) dX9_thing_133
          rw [if_neg c_125] at h
          by_cases c_128 : x4 = 3
          · rw [if_pos c_128] at h
            refine sw_in c_128 hx hb dX9_thing_80 (by decide) (by decide) rfl (by decide) (tgt := 134) ?_
            refine lv_aload_n hx hb dX9_thing_134 rfl (lv_at hl 0 rfl) ?_
            refine lv_iload_n hx hb dX9_thing_135 rfl (lv_at hl 1 rfl) ?_
            refine lv_iload_n hx hb dX9_thing_136 rfl (lv_at hl 2 rfl) ?_
            refine lv_iload_n hx hb dX9_thing_137 rfl (lv_at hl 3 rfl) ?_
            obtain ⟨x130, hc129, h⟩ := ob h
            refine r_callV1 (As := [.int x1, .int x2, .int x3]) (rest := []) (r := 9) (i := 0) C (vX9_paceOf hc129) hR hS (lv0 (by decide) (by decide)) (by decide) ml_X9_272 mw_X9_paceOf rfl ⟨Nat.le_of_ble_eq_true rfl, Nat.le_of_ble_eq_true rfl, Nat.le_of_ble_eq_true rfl, Nat.le_of_ble_eq_true rfl⟩ hl.1 rfl (Nat.le_of_ble_eq_true rfl) dX9_thing_138 (fun H locs hR hS => ?_)
            cases h
            exact e_iret C hr hR hS (Nat.le_of_ble_eq_true rfl) (Nat.le_of_ble_eq_true rfl) dX9_thing_141
          rw [if_neg c_128] at h
          by_cases c_131 : x4 = 4
          · rw [if_pos c_131] at h
            refine sw_in c_131 hx hb dX9_thing_80 (by decide) (by decide) rfl (by decide) (tgt := 142) ?_
            refine lv_aload_n hx hb dX9_thing_142 rfl (lv_at hl 0 rfl) ?_
            refine r_get C hR 9 0 20 (v := .ref (a 68 0)) (lv0 (by decide) (by decide)) (by decide) (by decide) rfl fl_X9_34 dX9_thing_143 ?_
            refine lv_bipush (v := 8) hx hb dX9_thing_146 (by decide) ?_
            refine lv_iload_n hx hb dX9_thing_148 rfl (lv_at hl 1 rfl) ?_
            refine lv_imul hx hb dX9_thing_149 ?_
            refine lv_iload_n hx hb dX9_thing_150 rfl (lv_at hl 2 rfl) ?_
            refine lv_iadd hx hb dX9_thing_151 ?_
            obtain ⟨k132, hk132, h⟩ := ob h
            have hLk132 : k132 < cntS 69 := by have q1 := (ck_in hk132).2.2; have q2 : cntS 69 = 48 := rfl; omega
            refine r_aald C hR 68 0 69 0 6 (lv0 (by decide) (by decide)) (by decide) rfl rfl rfl (fun _ => rfl) rfl hk132 dX9_thing_152 ?_
            refine lv_iconst (v := 1) hx hb dX9_thing_153 (by decide) ?_
            obtain ⟨k133, hk133, h⟩ := ob h
            refine r_ald C hR 69 k132 (lv0 hLk132 (by decide)) (by decide) rfl (fun _ => rfl) rfl hk133 dX9_thing_154 ?_
            cases h
            exact e_iret C hr hR hS (Nat.le_of_ble_eq_true rfl) (Nat.le_of_ble_eq_true rfl) dX9_thing_155
          rw [if_neg c_131] at h
          refine lv_tableOut (tgt := 156) hx hb dX9_thing_80 (by have z0 := sw_ne (k := 0) c_119 rfl; have z1 := sw_ne (k := 1) c_122 rfl; have z2 := sw_ne (k := 2) c_125 rfl; have z3 := sw_ne (k := 3) c_128 rfl; have z4 := sw_ne (k := 4) c_131 rfl; omega) (by decide) ?_
          refine lv_aload_n hx hb dX9_thing_156 rfl (lv_at hl 0 rfl) ?_
          refine lv_iload_n hx hb dX9_thing_157 rfl (lv_at hl 1 rfl) ?_
          refine lv_iload_n hx hb dX9_thing_158 rfl (lv_at hl 2 rfl) ?_
          refine lv_iload_n hx hb dX9_thing_159 rfl (lv_at hl 3 rfl) ?_
          obtain ⟨x135, hc134, h⟩ := ob h
          refine r_callV1 (As := [.int x1, .int x2, .int x3]) (rest := []) (r := 9) (i := 0) C (vX9_isChanged hc134) hR hS (lv0 (by decide) (by decide)) (by decide) ml_X9_275 mw_X9_isChanged rfl ⟨Nat.le_of_ble_eq_true rfl, Nat.le_of_ble_eq_true rfl, Nat.le_of_ble_eq_true rfl, Nat.le_of_ble_eq_true rfl⟩ hl.1 rfl (Nat.le_of_ble_eq_true rfl) dX9_thing_160 (fun H locs hR hS => ?_)
          refine lv_if_eq (tgt := 170) hx hb dX9_thing_163 (by decide) (fun c_136 => ?_) (fun c_136 => ?_)
          · rw [if_pos c_136] at h
            refine lv_iconst (v := 0) hx hb dX9_thing_170 (by decide) ?_
            cases h
            exact e_iret C hr hR hS (Nat.le_of_ble_eq_true rfl) (Nat.le_of_ble_eq_true rfl) dX9_thing_171
          · rw [if_neg c_136] at h
            refine lv_iconst (v := 1) hx hb dX9_thing_166 (by decide) ?_
            refine lv_goto (tgt := 171) hx hb dX9_thing_167 (by decide) ?_
            cases h
            exact e_iret C hr hR hS (Nat.le_of_ble_eq_true rfl) (Nat.le_of_ble_eq_true rfl) dX9_thing_171
        · rw [if_neg c_118] at h
          refine lv_iconst (v := 0) hx hb dX9_thing_76 (by decide) ?_
          cases h
          exact e_iret C hr hR hS (Nat.le_of_ble_eq_true rfl) (Nat.le_of_ble_eq_true rfl) dX9_thing_77
      clear h
      have h := hz
      clear hz
      refine jp_cut h (fun j137 hj137 h => ?_)
      have Kj137 : ∀  (H : Heap) (locs : List Loc) (ls : Array Slot), j137 = some x113 → Rel E a u108 H → va_S (AE E) s.heap H locs → lv_has ls 5 [(0, .ref (a 9 0)), (1, .int x1), (2, .int x2), (3, .int x3), (4, .int x4)] → W p l e { frames := 4, cells := 0, slots := 0, locals := 96 } s m args below meth c H locs 0 0 (MQ below (QW E a (some (.int out.1)) out.2) args s 0 0 (AE E)) (F0 m 64 ls [.ref (a 9 0)]) := by
        intro  H locs ls h hR hS hl
        replace h := jx0 hj137 h
        refine lv_iconst (v := 1) hx hb dX9_thing_64 (by decide) ?_
        refine lv_goto (tgt := 69) hx hb dX9_thing_65 (by decide) ?_
        cases h
        exact Kj114 _ _ _ hR hS (lv_sub hl [0, 1, 2, 3, 4] rfl)
      refine lv_if_eq (tgt := 64) hx hb dX9_thing_40 (by decide) (fun c_138 => ?_) (fun c_138 => ?_)
      · rw [if_pos c_138] at h
        exact Kj137  _ _ _ h hR hS (lv_sub hl [0, 1, 2, 3, 4] rfl)
      · rw [if_neg c_138] at h
        refine lv_iload_n hx hb dX9_thing_43 rfl (lv_at hl 3 rfl) ?_
        refine lv_iconst (v := 0) hx hb dX9_thing_44 (by decide) ?_
        refine lv_sipush (v := 299) hx hb dX9_thing_45 (by decide) ?_
        obtain ⟨x140, hc139, h⟩ := ob h
        refine r_callS1 (As := [.int x3, .int 0, .int 299]) (rest := [.ref (a 9 0)]) C (vX9_in hc139) hR hS ml_X9_113 ms_X9_in rfl ⟨Nat.le_of_ble_eq_true rfl, Nat.le_of_ble_eq_true rfl, Nat.le_of_ble_eq_true rfl, Nat.le_of_ble_eq_true rfl⟩ hl.1 rfl (Nat.le_of_ble_eq_true rfl) dX9_thing_48 (fun H locs hR hS => ?_)
        refine lv_if_eq (tgt := 64) hx hb dX9_thing_51 (by decide) (fun c_141 => ?_) (fun c_141 => ?_)
        · rw [if_pos c_141] at h
          exact Kj137  _ _ _ h hR hS (lv_sub hl [0, 1, 2, 3, 4] rfl)
        · rw [if_neg c_141] at h
          refine lv_iload hx hb dX9_thing_54 (lv_at hl 4 rfl) ?_
          refine lv_iconst (v := 0) hx hb dX9_thing_56 (by decide) ?_
          refine lv_iconst (v := 5) hx hb dX9_thing_57 (by decide) ?_
          obtain ⟨x143, hc142, h⟩ := ob h
          refine r_callS1 (As := [.int x4, .int 0, .int 5]) (rest := [.ref (a 9 0)]) C (vX9_in hc142) hR hS ml_X9_113 ms_X9_in rfl ⟨Nat.le_of_ble_eq_true rfl, Nat.le_of_ble_eq_true rfl, Nat.le_of_ble_eq_true rfl, Nat.le_of_ble_eq_true rfl⟩ hl.1 rfl (Nat.le_of_ble_eq_true rfl) dX9_thing_58 (fun H locs hR hS => ?_)
          refine lv_if_ne (tgt := 68) hx hb dX9_thing_61 (by decide) (fun c_144 => ?_) (fun c_144 => ?_)
          · rw [if_neg c_144] at h
            refine lv_iconst (v := 0) hx hb dX9_thing_68 (by decide) ?_
            cases h
            exact Kj114 _ _ _ hR hS (lv_sub hl [0, 1, 2, 3, 4] rfl)
          · rw [if_pos c_144] at h
            exact Kj137  _ _ _ h hR hS (lv_sub hl [0, 1, 2, 3, 4] rfl)
  clear h
  have h := hz
  clear hz
  refine lv_if_ne (tgt := 18) hx hb dX9_thing_11 (by decide) (fun c_145 => ?_) (fun c_145 => ?_)
  · rw [if_neg c_145] at h
    refine lv_iconst (v := 0) hx hb dX9_thing_18 (by decide) ?_
    cases h
    exact Kj105 _ _ _ hR hS (lv_sub hl [0, 1, 2, 3, 4] rfl)
  · rw [if_pos c_145] at h
    refine lv_iconst (v := 1) hx hb dX9_thing_14 (by decide) ?_
    refine lv_goto (tgt := 19) hx hb dX9_thing_15 (by decide) ?_
    cases h
    exact Kj105 _ _ _ hR hS (lv_sub hl [0, 1, 2, 3, 4] rfl)
set_option maxHeartbeats 4000000 in
set_option maxRecDepth 100000 in
theorem vX9_kept {l : Launch} {E : EV} {a : Nat → Nat → Nat} {u0 : HS} {x1 : Int32} {x2 : Int32} {out : (Int32 × HS)} (h : mX9_kept u0 x1 x2 = some out) : Ct l E yX9_kept cX9_kept 3 (some .int) 2 43 0 0 a u0 [.ref (a 9 0), .int x1, .int x2] (some (.int out.1)) out.2 := by
  refine Ct.start (by decide) (Nat.le_of_ble_eq_true rfl) ?_
  intro p e s m args below meth c ls C hr hR hS hl
  have C : Cx E p s m args meth c cX9_kept 3 RX9 := C
  have hl : lv_has ls 3 [(0, .ref (a 9 0)), (1, .int x1), (2, .int x2)] := hl
  have hx := C.1
  have hb := C.2.1
  unfold mX9_kept at h
  refine lv_aload_n hx hb dX9_kept_0 rfl (lv_at hl 0 rfl) ?_
  refine lv_iconst (v := 0) hx hb dX9_kept_1 (by decide) ?_
  refine r_putI (ty := .int) C hR hS 9 0 0 (lv0 (by decide) (by decide)) (by decide) (by decide) (fun _ => rfl) fl_X9_76 (by decide) (by decide +kernel) rfl rfl dX9_kept_2 (fun H locs hR hS => ?_)
  obtain ⟨u101, eu101⟩ : ∃ z : HS, z = wI u0 9 0 0 0 := ⟨_, rfl⟩
  rw [← eu101] at hR
  replace h := bd_x eu101 h
  clear eu101
  refine lv_aload_n hx hb dX9_kept_5 rfl (lv_at hl 0 rfl) ?_
  refine lv_aload_n hx hb dX9_kept_6 rfl (lv_at hl 0 rfl) ?_
  refine lv_iload_n hx hb dX9_kept_7 rfl (lv_at hl 1 rfl) ?_
  obtain ⟨x103, hc102, h⟩ := ob h
  refine r_callV1 (As := [.int x1]) (rest := [.ref (a 9 0)]) (r := 9) (i := 0) C (vX9_isTask hc102) hR hS (lv0 (by decide) (by decide)) (by decide) ml_X9_278 mw_X9_isTask rfl ⟨Nat.le_of_ble_eq_true rfl, Nat.le_of_ble_eq_true rfl, Nat.le_of_ble_eq_true rfl, Nat.le_of_ble_eq_true rfl⟩ hl.1 rfl (Nat.le_of_ble_eq_true rfl) dX9_kept_8 (fun H locs hR hS => ?_)
  obtain ⟨x104, hz, h⟩ := ob h
  have Kj105 : ∀ (H : Heap) (locs : List Loc) (ls : Array Slot), Rel E a u101 H → va_S (AE E) s.heap H locs → lv_has ls 3 [(0, .ref (a 9 0)), (1, .int x1), (2, .int x2)] → W p l e { frames := 2, cells := 0, slots := 0, locals := 43 } s m args below meth c H locs 0 0 (MQ below (QW E a (some (.int out.1)) out.2) args s 0 0 (AE E)) (F0 m 19 ls [.int x104, .ref (a 9 0)]) := by
    intro H locs ls hR hS hl
    clear hz
    refine lv_iconst (v := 1) hx hb dX9_kept_19 (by decide) ?_
    obtain ⟨⟨x107, u108⟩, hc106, h⟩ := ob h
    replace h := bd_x (x := x107) rfl h
    replace h := bd_x (x := u108) rfl h
    refine r_callV1 (As := [.int x104, .int 1]) (rest := []) (r := 9) (i := 0) C (vX9_bad hc106) hR hS (lv0 (by decide) (by decide)) (by decide) ml_X9_162 mw_X9_bad rfl ⟨Nat.le_of_ble_eq_true rfl, Nat.le_of_ble_eq_true rfl, Nat.le_of_ble_eq_true rfl, Nat.le_of_ble_eq_true rfl⟩ hl.1 rfl (Nat.le_of_ble_eq_true rfl) dX9_kept_20 (fun H locs hR hS => ?_)
    refine lv_if_ne (tgt := 48) hx hb dX9_kept_23 (by decide) (fun c_109 => ?_) (fun c_109 => ?_)
    · rw [if_neg c_109] at h
      refine lv_iconst (v := 0) hx hb dX9_kept_48 (by decide) ?_
      cases h
      exact e_iret C hr hR hS (Nat.le_of_ble_eq_true rfl) (Nat.le_of_ble_eq_true rfl) dX9_kept_49
    · rw [if_pos c_109] at h
      refine lv_aload_n hx hb dX9_kept_26 rfl (lv_at hl 0 rfl) ?_
      refine lv_iload_n hx hb dX9_kept_27 rfl (lv_at hl 2 rfl) ?_
      refine lv_iconst (v := 0) hx hb dX9_kept_28 (by decide) ?_
      refine lv_iconst (v := 4) hx hb dX9_kept_29 (by decide) ?_
      obtain ⟨x111, hc110, h⟩ := ob h
      refine r_callS1 (As := [.int x2, .int 0, .int 4]) (rest := [.ref (a 9 0)]) C (vX9_in hc110) hR hS ml_X9_113 ms_X9_in rfl ⟨Nat.le_of_ble_eq_true rfl, Nat.le_of_ble_eq_true rfl, Nat.le_of_ble_eq_true rfl, Nat.le_of_ble_eq_true rfl⟩ hl.1 rfl (Nat.le_of_ble_eq_true rfl) dX9_kept_30 (fun H locs hR hS => ?_)
      obtain ⟨x112, hz, h⟩ := ob h
      have Kj113 : ∀ (H : Heap) (locs : List Loc) (ls : Array Slot), Rel E a u108 H → va_S (AE E) s.heap H locs → lv_has ls 3 [(0, .ref (a 9 0)), (1, .int x1), (2, .int x2)] → W p l e { frames := 2, cells := 0, slots := 0, locals := 43 } s m args below meth c H locs 0 0 (MQ below (QW E a (some (.int out.1)) out.2) args s 0 0 (AE E)) (F0 m 41 ls [.int x112, .ref (a 9 0)]) := by
        intro H locs ls hR hS hl
        clear hz
        refine lv_iconst (v := 2) hx hb dX9_kept_41 (by decide) ?_
        obtain ⟨⟨x115, u116⟩, hc114, h⟩ := ob h
        replace h := bd_x (x := x115) rfl h
        replace h := bd_x (x := u116) rfl h
        refine r_callV1 (As := [.int x112, .int 2]) (rest := []) (r := 9) (i := 0) C (vX9_bad hc114) hR hS (lv0 (by decide) (by decide)) (by decide) ml_X9_162 mw_X9_bad rfl ⟨Nat.le_of_ble_eq_true rfl, Nat.le_of_ble_eq_true rfl, Nat.le_of_ble_eq_true rfl, Nat.le_of_ble_eq_true rfl⟩ hl.1 rfl (Nat.le_of_ble_eq_true rfl) dX9_kept_42 (fun H locs hR hS => ?_)
        refine lv_if_eq (tgt := 50) hx hb dX9_kept_45 (by decide) (fun c_117 => ?_) (fun c_117 => ?_)
        · rw [if_pos c_117] at h
          refine lv_aload_n hx hb dX9_kept_50 rfl (lv_at hl 0 rfl) ?_
          refine r_get C hR 9 0 21 (v := .ref (a 70 0)) (lv0 (by decide) (by decide)) (by decide) (by decide) rfl fl_X9_37 dX9_kept_51 ?_
          refine lv_iload_n hx hb dX9_kept_54 rfl (lv_at hl 1 rfl) ?_
          obtain ⟨k118, hk118, h⟩ := ob h
          have hLk118 : k118 < cntS 71 := by have q1 := (ck_in hk118).2.2; have q2 : cntS 71 = 6 := rfl; omega
          refine r_aald C hR 70 0 71 0 6 (lv0 (by decide) (by decide)) (by decide) rfl rfl rfl (fun _ => rfl) rfl hk118 dX9_kept_55 ?_
          refine lv_iload_n hx hb dX9_kept_56 rfl (lv_at hl 2 rfl) ?_
          obtain ⟨k119, hk119, h⟩ := ob h
          refine r_ald C hR 71 k118 (lv0 hLk118 (by decide)) (by decide) rfl (fun _ => rfl) rfl hk119 dX9_kept_57 ?_
          cases h
          exact e_iret C hr hR hS (Nat.le_of_ble_eq_true rfl) (Nat.le_of_ble_eq_true rfl) dX9_kept_58
        · rw [if_neg c_117] at h
          refine lv_iconst (v := 0) hx hb dX9_kept_48 (by decide) ?_
          cases h
          exact e_iret C hr hR hS (Nat.le_of_ble_eq_true rfl) (Nat.le_of_ble_eq_true rfl) dX9_kept_49
      clear h
      have h := hz
      clear hz
      refine lv_if_ne (tgt := 40) hx hb dX9_kept_33 (by decide) (fun c_120 => ?_) (fun c_120 => ?_)
      · rw [if_neg c_120] at h
        refine lv_iconst (v := 0) hx hb dX9_kept_40 (by decide) ?_
        cases h
        exact Kj113 _ _ _ hR hS (lv_sub hl [0, 1, 2] rfl)
      · rw [if_pos c_120] at h
        refine lv_iconst (v := 1) hx hb dX9_kept_36 (by decide) ?_
        refine lv_goto (tgt := 41) hx hb dX9_kept_37 (by decide) ?_
        cases h
        exact Kj113 _ _ _ hR hS (lv_sub hl [0, 1, 2] rfl)
  clear h
  have h := hz
  clear hz
  refine lv_if_ne (tgt := 18) hx hb dX9_kept_11 (by decide) (fun c_121 => ?_) (fun c_121 => ?_)
  · rw [if_neg c_121] at h
    refine lv_iconst (v := 0) hx hb dX9_kept_18 (by decide) ?_
    cases h
    exact Kj105 _ _ _ hR hS (lv_sub hl [0, 1, 2] rfl)
  · rw [if_pos c_121] at h
    refine lv_iconst (v := 1) hx hb dX9_kept_14 (by decide) ?_
    refine lv_goto (tgt := 19) hx hb dX9_kept_15 (by decide) ?_
    cases h
    exact Kj105 _ _ _ hR hS (lv_sub hl [0, 1, 2] rfl)
set_option maxHeartbeats 4000000 in
set_option maxRecDepth 100000 in
theorem vX9_isCounted {l : Launch} {E : EV} {a : Nat → Nat → Nat} {u0 : HS} {x1 : Int32} {x2 : Int32} {i3 : Nat} {out : Int32} (hi3 : i3 < cntS 65) (h : mX9_isCounted u0 x1 x2 i3 = some out) : Ct l E yX9_isCounted cX9_isCounted 4 (some .boolean) 1 25 0 0 a u0 [.ref (a 9 0), .int x1, .int x2, .ref (a 65 i3)] (some (.int out)) u0 := by
  refine Ct.start (by decide) (Nat.le_of_ble_eq_true rfl) ?_
  intro p e s m args below meth c ls C hr hR hS hl
  have C : Cx E p s m args meth c cX9_isCounted 4 RX9 := C
  have hl : lv_has ls 4 [(0, .ref (a 9 0)), (1, .int x1), (2, .int x2), (3, .ref (a 65 i3))] := hl
  have hx := C.1
  have hb := C.2.1
  unfold mX9_isCounted at h
  refine lv_aload_n hx hb dX9_isCounted_0 rfl (lv_at hl 3 rfl) ?_
  refine lv_iconst (v := 0) hx hb dX9_isCounted_1 (by decide) ?_
  obtain ⟨k101, hk101, h⟩ := ob h
  refine r_ald C hR 65 i3 (lv0 hi3 (by decide)) (by decide) rfl (fun _ => rfl) rfl hk101 dX9_isCounted_2 ?_
  refine lv_iconst (v := 2) hx hb dX9_isCounted_3 (by decide) ?_
  refine lv_icmp_ne (tgt := 45) hx hb dX9_isCounted_4 (by decide) (fun c_102 => ?_) (fun c_102 => ?_)
  · rw [if_neg c_102] at h
    refine lv_iconst (v := 0) hx hb dX9_isCounted_45 (by decide) ?_
    cases h
    exact e_zret (v := 0) C hr rfl hR hS (Nat.le_of_ble_eq_true rfl) (Nat.le_of_ble_eq_true rfl) dX9_isCounted_46
  · rw [if_pos c_102] at h
    refine lv_aload_n hx hb dX9_isCounted_7 rfl (lv_at hl 0 rfl) ?_
    refine r_get C hR 9 0 21 (v := .ref (a 70 0)) (lv0 (by decide) (by decide)) (by decide) (by decide) rfl fl_X9_37 dX9_isCounted_8 ?_
    refine lv_iload_n hx hb dX9_isCounted_11 rfl (lv_at hl 2 rfl) ?_
    obtain ⟨k103, hk103, h⟩ := ob h
    have hLk103 : k103 < cntS 71 := by have q1 := (ck_in hk103).2.2; have q2 : cntS 71 = 6 := rfl; omega
    refine r_aald C hR 70 0 71 0 6 (lv0 (by decide) (by decide)) (by decide) rfl rfl rfl (fun _ => rfl) rfl hk103 dX9_isCounted_12 ?_
    refine lv_iconst (v := 2) hx hb dX9_isCounted_13 (by decide) ?_
    obtain ⟨k104, hk104, h⟩ := ob h
    refine r_ald C hR 71 k103 (lv0 hLk103 (by decide)) (by decide) rfl (fun _ => rfl) rfl hk104 dX9_isCounted_14 ?_
    refine lv_iconst (v := (-1)) hx hb dX9_isCounted_15 (by decide) ?_
    refine lv_icmp_eq (tgt := 45) hx hb dX9_isCounted_16 (by decide) (fun c_105 => ?_) (fun c_105 => ?_)
    · rw [if_pos c_105] at h
      refine lv_iconst (v := 0) hx hb dX9_isCounted_45 (by decide) ?_
      cases h
      exact e_zret (v := 0) C hr rfl hR hS (Nat.le_of_ble_eq_true rfl) (Nat.le_of_ble_eq_true rfl) dX9_isCounted_46
    · rw [if_neg c_105] at h
      refine lv_aload_n hx hb dX9_isCounted_19 rfl (lv_at hl 0 rfl) ?_
      refine lv_iload_n hx hb dX9_isCounted_20 rfl (lv_at hl 1 rfl) ?_
      refine lv_aload_n hx hb dX9_isCounted_21 rfl (lv_at hl 3 rfl) ?_
      refine lv_iconst (v := 1) hx hb dX9_isCounted_22 (by decide) ?_
      obtain ⟨k106, hk106, h⟩ := ob h
      refine r_ald C hR 65 i3 (lv0 hi3 (by decide)) (by decide) rfl (fun _ => rfl) rfl hk106 dX9_isCounted_23 ?_
      refine lv_aload_n hx hb dX9_isCounted_24 rfl (lv_at hl 3 rfl) ?_
      refine lv_iconst (v := 3) hx hb dX9_isCounted_25 (by decide) ?_
      obtain ⟨k107, hk107, h⟩ := ob h
      refine r_ald C hR 65 i3 (lv0 hi3 (by decide)) (by decide) rfl (fun _ => rfl) rfl hk107 dX9_isCounted_26 ?_
      obtain ⟨x109, hc108, h⟩ := ob h
      refine r_callV1 (As := [.int x1, .int (gI u0 65 i3 k106), .int (gI u0 65 i3 k107)]) (rest := []) (r := 9) (i := 0) C (vX9_colourOf hc108) hR hS (lv0 (by decide) (by decide)) (by decide) ml_X9_269 mw_X9_colourOf rfl ⟨Nat.le_of_ble_eq_true rfl, Nat.le_of_ble_eq_true rfl, Nat.le_of_ble_eq_true rfl, Nat.le_of_ble_eq_true rfl⟩ hl.1 rfl (Nat.le_of_ble_eq_true rfl) dX9_isCounted_27 (fun H locs hR hS => ?_)
      refine lv_aload_n hx hb dX9_isCounted_30 rfl (lv_at hl 0 rfl) ?_
      refine r_get C hR 9 0 21 (v := .ref (a 70 0)) (lv0 (by decide) (by decide)) (by decide) (by decide) rfl fl_X9_37 dX9_isCounted_31 ?_
      refine lv_iload_n hx hb dX9_isCounted_34 rfl (lv_at hl 2 rfl) ?_
      obtain ⟨k110, hk110, h⟩ := ob h
      have hLk110 : k110 < cntS 71 := by have q1 := (ck_in hk110).2.2; have q2 : cntS 71 = 6 := rfl; omega
      refine r_aald C hR 70 0 71 0 6 (lv0 (by decide) (by decide)) (by decide) rfl rfl rfl (fun _ => rfl) rfl hk110 dX9_isCounted_35 ?_
      refine lv_iconst (v := 2) hx hb dX9_isCounted_36 (by decide) ?_
      obtain ⟨k111, hk111, h⟩ := ob h
      refine r_ald C hR 71 k110 (lv0 hLk110 (by decide)) (by decide) rfl (fun _ => rfl) rfl hk111 dX9_isCounted_37 ?_
      refine lv_icmp_ne (tgt := 45) hx hb dX9_isCounted_38 (by decide) (fun c_112 => ?_) (fun c_112 => ?_)
      · rw [if_neg c_112] at h
        refine lv_iconst (v := 0) hx hb dX9_isCounted_45 (by decide) ?_
        cases h
        exact e_zret (v := 0) C hr rfl hR hS (Nat.le_of_ble_eq_true rfl) (Nat.le_of_ble_eq_true rfl) dX9_isCounted_46
      · rw [if_pos c_112] at h
        refine lv_iconst (v := 1) hx hb dX9_isCounted_41 (by decide) ?_
        refine lv_goto (tgt := 46) hx hb dX9_isCounted_42 (by decide) ?_
        cases h
        exact e_zret (v := 1) C hr rfl hR hS (Nat.le_of_ble_eq_true rfl) (Nat.le_of_ble_eq_true rfl) dX9_isCounted_46
set_option maxHeartbeats 4000000 in
set_option maxRecDepth 100000 in
theorem vX9_throwsBy {l : Launch} {E : EV} {a : Nat → Nat → Nat} {u0 : HS} {x1 : Int32} {x2 : Int32} {out : Int32} (h : mX9_throwsBy u0 x1 x2 = some out) : Ct l E yX9_throwsBy cX9_throwsBy 5 (some .int) 2 48 0 0 a u0 [.ref (a 9 0), .int x1, .int x2] (some (.int out)) u0 := by
  refine Ct.start (by decide) (Nat.le_of_ble_eq_true rfl) ?_
  intro p e s m args below meth c ls C hr hR hS hl
  have C : Cx E p s m args meth c cX9_throwsBy 5 RX9 := C
  have hl : lv_has ls 5 [(0, .ref (a 9 0)), (1, .int x1), (2, .int x2)] := hl
  have hx := C.1
  have hb := C.2.1
  unfold mX9_throwsBy at h
  refine lv_iconst (v := 0) hx hb dX9_throwsBy_0 (by decide) ?_
  refine lv_istore_n (lv' := [(3, .int 0), (0, .ref (a 9 0)), (1, .int x1), (2, .int x2)]) hx hb dX9_throwsBy_1 rfl hl (by decide) rfl (fun ls hl => ?_)
  refine lv_bipush (v := 24) hx hb dX9_throwsBy_2 (by decide) ?_
  refine lv_iload_n hx hb dX9_throwsBy_4 rfl (lv_at hl 2 rfl) ?_
  refine lv_imul hx hb dX9_throwsBy_5 ?_
  refine lv_topi (fun x101 ex101 => ?_)
  replace h := bd_x ex101 h
  refine lv_istore (lv' := [(4, .int x101), (3, .int 0), (0, .ref (a 9 0)), (1, .int x1), (2, .int x2)]) hx hb dX9_throwsBy_6 hl (by decide) rfl (fun ls hl => ?_)
  refine jp_cut h (fun w105 hw105 h => ?_)
  have Kw105 : ∀ (x104 : Int32) (H : Heap) (locs : List Loc) (ls : Array Slot), w105 x104 = some out → Rel E a u0 H → va_S (AE E) s.heap H locs → lv_has ls 5 [(3, .int x104)] → W p l e { frames := 2, cells := 0, slots := 0, locals := 48 } s m args below meth c H locs 0 0 (MQ below (QW E a (some (.int out)) u0) args s 0 0 (AE E)) (F0 m 54 ls []) := by
    intro x104 H locs ls h hR hS hl
    replace h := jx1 hw105 h
    refine lv_iload_n hx hb dX9_throwsBy_54 rfl (lv_at hl 0 rfl) ?_
    cases h
    exact e_iret C hr hR hS (Nat.le_of_ble_eq_true rfl) (Nat.le_of_ble_eq_true rfl) dX9_throwsBy_55
  have LP : ∀ (fu : Nat) (x102 : Int32) (x103 : Int32) (H : Heap) (locs : List Loc) (ls : Array Slot), mX9_throwsBy_L8 x1 u0 x2 w105 fu x102 x103 = some out → Rel E a u0 H → va_S (AE E) s.heap H locs → lv_has ls 5 [(0, .ref (a 9 0)), (1, .int x1), (2, .int x2), (3, .int x102), (4, .int x103)] → W p l e { frames := 2, cells := 0, slots := 0, locals := 48 } s m args below meth c H locs 0 0 (MQ below (QW E a (some (.int out)) u0) args s 0 0 (AE E)) (F0 m 8 ls []) := by
    intro fu
    induction fu with
    | zero =>
      intro x102 x103 H locs ls h
      have h2 : (none : Option Int32) = some out := h
      cases h2
    | succ fu ih =>
      intro x102 x103 H locs ls h hR hS hl
      rw [mX9_throwsBy_L8.eq_2] at h
      refine lv_iload hx hb dX9_throwsBy_8 (lv_at hl 4 rfl) ?_
      refine lv_bipush (v := 24) hx hb dX9_throwsBy_10 (by decide) ?_
      refine lv_iload_n hx hb dX9_throwsBy_12 rfl (lv_at hl 1 rfl) ?_
      refine lv_imul hx hb dX9_throwsBy_13 ?_
      refine lv_aload_n hx hb dX9_throwsBy_14 rfl (lv_at hl 0 rfl) ?_
      refine r_get C hR 9 0 18 (v := .ref (a 66 0)) (lv0 (by decide) (by decide)) (by decide) (by decide) rfl fl_X9_28 dX9_throwsBy_15 ?_
      refine lv_iload_n hx hb dX9_throwsBy_18 rfl (lv_at hl 1 rfl) ?_
      obtain ⟨k106, hk106, h⟩ := ob h
      refine r_ald C hR 66 0 (lv0 (by decide) (by decide)) (by decide) rfl (fun _ => rfl) rfl hk106 dX9_throwsBy_19 ?_
      refine lv_iadd hx hb dX9_throwsBy_20 ?_
      refine lv_icmp_ge (tgt := 54) hx hb dX9_throwsBy_21 (by decide) (fun c_107 => ?_) (fun c_107 => ?_)
      · rw [if_pos c_107] at h
        exact Kw105 _ _ _ _ h hR hS (lv_sub hl [3] rfl)
      · rw [if_neg c_107] at h
        refine lv_iload_n hx hb dX9_throwsBy_24 rfl (lv_at hl 3 rfl) ?_
        refine lv_aload_n hx hb dX9_throwsBy_25 rfl (lv_at hl 0 rfl) ?_
        refine lv_iload_n hx hb dX9_throwsBy_26 rfl (lv_at hl 1 rfl) ?_
        refine lv_iload_n hx hb dX9_throwsBy_27 rfl (lv_at hl 2 rfl) ?_
        refine lv_aload_n hx hb dX9_throwsBy_28 rfl (lv_at hl 0 rfl) ?_
        refine r_get C hR 9 0 17 (v := .ref (a 64 0)) (lv0 (by decide) (by decide)) (by decide) (by decide) rfl fl_X9_25 dX9_throwsBy_29 ?_
        refine lv_iload hx hb dX9_throwsBy_32 (lv_at hl 4 rfl) ?_
        obtain ⟨k108, hk108, h⟩ := ob h
        have hLk108 : k108 < cntS 65 := by have q1 := (ck_in hk108).2.2; have q2 : cntS 65 = 144 := rfl; omega
        refine r_aald C hR 64 0 65 0 6 (lv0 (by decide) (by decide)) (by decide) rfl rfl rfl (fun _ => rfl) rfl hk108 dX9_throwsBy_34 ?_
        obtain ⟨x110, hc109, h⟩ := ob h
        refine r_callV1 (As := [.int x1, .int x2, .ref (a 65 k108)]) (rest := [.int x102]) (r := 9) (i := 0) C (vX9_isCounted hLk108 hc109) hR hS (lv0 (by decide) (by decide)) (by decide) ml_X9_281 mw_X9_isCounted rfl ⟨Nat.le_of_ble_eq_true rfl, Nat.le_of_ble_eq_true rfl, Nat.le_of_ble_eq_true rfl, Nat.le_of_ble_eq_true rfl⟩ hl.1 rfl (Nat.le_of_ble_eq_true rfl) dX9_throwsBy_35 (fun H locs hR hS => ?_)
        obtain ⟨x111, hz, h⟩ := ob h
        have Kj112 : ∀ (H : Heap) (locs : List Loc) (ls : Array Slot), Rel E a u0 H → va_S (AE E) s.heap H locs → lv_has ls 5 [(0, .ref (a 9 0)), (1, .int x1), (2, .int x2), (4, .int x103)] → W p l e { frames := 2, cells := 0, slots := 0, locals := 48 } s m args below meth c H locs 0 0 (MQ below (QW E a (some (.int out)) u0) args s 0 0 (AE E)) (F0 m 46 ls [.int x111, .int x102]) := by
          intro H locs ls hR hS hl
          clear hz
          refine lv_iadd hx hb dX9_throwsBy_46 ?_
          refine lv_topi (fun x113 ex113 => ?_)
          replace h := bd_x ex113 h
          refine lv_istore_n (lv' := [(3, .int x113), (0, .ref (a 9 0)), (1, .int x1), (2, .int x2), (4, .int x103)]) hx hb dX9_throwsBy_47 rfl hl (by decide) rfl (fun ls hl => ?_)
          obtain ⟨x114, ex114⟩ : ∃ z : Int32, z = x103 + 1 := ⟨_, rfl⟩
          replace h := bd_x ex114 h
          refine lv_iinc (v := x114) (lv' := [(4, .int x114), (3, .int x113), (0, .ref (a 9 0)), (1, .int x1), (2, .int x2)]) hx hb dX9_throwsBy_48 hl (k := 4) rfl (by rw [ex114]; rfl) (by decide) rfl (fun ls hl => ?_)
          refine lv_goto (tgt := 8) hx hb dX9_throwsBy_51 (by decide) ?_
          exact ih _ _ _ _ _ h hR hS (lv_sub hl [2, 3, 4, 1, 0] rfl)
        clear h
        have h := hz
        clear hz
        refine lv_if_eq (tgt := 45) hx hb dX9_throwsBy_38 (by decide) (fun c_115 => ?_) (fun c_115 => ?_)
        · rw [if_pos c_115] at h
          refine lv_iconst (v := 0) hx hb dX9_throwsBy_45 (by decide) ?_
          cases h
          exact Kj112 _ _ _ hR hS (lv_sub hl [0, 1, 2, 4] rfl)
        · rw [if_neg c_115] at h
          refine lv_iconst (v := 1) hx hb dX9_throwsBy_41 (by decide) ?_
          refine lv_goto (tgt := 46) hx hb dX9_throwsBy_42 (by decide) ?_
          cases h
          exact Kj112 _ _ _ hR hS (lv_sub hl [0, 1, 2, 4] rfl)
  exact LP FU _ _ _ _ _ h hR hS (lv_sub hl [2, 3, 4, 1, 0] rfl)
set_option maxHeartbeats 4000000 in
set_option maxRecDepth 100000 in
theorem vX9_throwsOf {l : Launch} {E : EV} {a : Nat → Nat → Nat} {u0 : HS} {x1 : Int32} {x2 : Int32} {out : (Int32 × HS)} (h : mX9_throwsOf u0 x1 x2 = some out) : Ct l E yX9_throwsOf cX9_throwsOf 3 (some .int) 3 72 0 0 a u0 [.ref (a 9 0), .int x1, .int x2] (some (.int out.1)) out.2 := by
  refine Ct.start (by decide) (Nat.le_of_ble_eq_true rfl) ?_
  intro p e s m args below meth c ls C hr hR hS hl
  have C : Cx E p s m args meth c cX9_throwsOf 3 RX9 := C
  have hl : lv_has ls 3 [(0, .ref (a 9 0)), (1, .int x1), (2, .int x2)] := hl
  have hx := C.1
  have hb := C.2.1
  unfold mX9_throwsOf at h
  refine lv_aload_n hx hb dX9_throwsOf_0 rfl (lv_at hl 0 rfl) ?_
  refine lv_iconst (v := 0) hx hb dX9_throwsOf_1 (by decide) ?_
  refine r_putI (ty := .int) C hR hS 9 0 0 (lv0 (by decide) (by decide)) (by decide) (by decide) (fun _ => rfl) fl_X9_76 (by decide) (by decide +kernel) rfl rfl dX9_throwsOf_2 (fun H locs hR hS => ?_)
  obtain ⟨u101, eu101⟩ : ∃ z : HS, z = wI u0 9 0 0 0 := ⟨_, rfl⟩
  rw [← eu101] at hR
  replace h := bd_x eu101 h
  clear eu101
  refine lv_aload_n hx hb dX9_throwsOf_5 rfl (lv_at hl 0 rfl) ?_
  refine lv_aload_n hx hb dX9_throwsOf_6 rfl (lv_at hl 0 rfl) ?_
  refine lv_iload_n hx hb dX9_throwsOf_7 rfl (lv_at hl 1 rfl) ?_
  obtain ⟨x103, hc102, h⟩ := ob h
  refine r_callV1 (As := [.int x1]) (rest := [.ref (a 9 0)]) (r := 9) (i := 0) C (vX9_isScene hc102) hR hS (lv0 (by decide) (by decide)) (by decide) ml_X9_254 mw_X9_isScene rfl ⟨Nat.le_of_ble_eq_true rfl, Nat.le_of_ble_eq_true rfl, Nat.le_of_ble_eq_true rfl, Nat.le_of_ble_eq_true rfl⟩ hl.1 rfl (Nat.le_of_ble_eq_true rfl) dX9_throwsOf_8 (fun H locs hR hS => ?_)
  obtain ⟨x104, hz, h⟩ := ob h
  have Kj105 : ∀ (H : Heap) (locs : List Loc) (ls : Array Slot), Rel E a u101 H → va_S (AE E) s.heap H locs → lv_has ls 3 [(0, .ref (a 9 0)), (1, .int x1), (2, .int x2)] → W p l e { frames := 3, cells := 0, slots := 0, locals := 72 } s m args below meth c H locs 0 0 (MQ below (QW E a (some (.int out.1)) out.2) args s 0 0 (AE E)) (F0 m 19 ls [.int x104, .ref (a 9 0)]) := by
    intro H locs ls hR hS hl
    clear hz
    refine lv_iconst (v := 1) hx hb dX9_throwsOf_19 (by decide) ?_
    obtain ⟨⟨x107, u108⟩, hc106, h⟩ := ob h
    replace h := bd_x (x := x107) rfl h
    replace h := bd_x (x := u108) rfl h
    refine r_callV1 (As := [.int x104, .int 1]) (rest := []) (r := 9) (i := 0) C (vX9_bad hc106) hR hS (lv0 (by decide) (by decide)) (by decide) ml_X9_162 mw_X9_bad rfl ⟨Nat.le_of_ble_eq_true rfl, Nat.le_of_ble_eq_true rfl, Nat.le_of_ble_eq_true rfl, Nat.le_of_ble_eq_true rfl⟩ hl.1 rfl (Nat.le_of_ble_eq_true rfl) dX9_throwsOf_20 (fun H locs hR hS => ?_)
    refine lv_if_ne (tgt := 47) hx hb dX9_throwsOf_23 (by decide) (fun c_109 => ?_) (fun c_109 => ?_)
    · rw [if_neg c_109] at h
      refine lv_iconst (v := 0) hx hb dX9_throwsOf_47 (by decide) ?_
      cases h
      exact e_iret C hr hR hS (Nat.le_of_ble_eq_true rfl) (Nat.le_of_ble_eq_true rfl) dX9_throwsOf_48
    · rw [if_pos c_109] at h
      refine lv_aload_n hx hb dX9_throwsOf_26 rfl (lv_at hl 0 rfl) ?_
      refine lv_aload_n hx hb dX9_throwsOf_27 rfl (lv_at hl 0 rfl) ?_
      refine lv_iload_n hx hb dX9_throwsOf_28 rfl (lv_at hl 2 rfl) ?_
      obtain ⟨x111, hc110, h⟩ := ob h
      refine r_callV1 (As := [.int x2]) (rest := [.ref (a 9 0)]) (r := 9) (i := 0) C (vX9_isTask hc110) hR hS (lv0 (by decide) (by decide)) (by decide) ml_X9_278 mw_X9_isTask rfl ⟨Nat.le_of_ble_eq_true rfl, Nat.le_of_ble_eq_true rfl, Nat.le_of_ble_eq_true rfl, Nat.le_of_ble_eq_true rfl⟩ hl.1 rfl (Nat.le_of_ble_eq_true rfl) dX9_throwsOf_29 (fun H locs hR hS => ?_)
      obtain ⟨x112, hz, h⟩ := ob h
      have Kj113 : ∀ (H : Heap) (locs : List Loc) (ls : Array Slot), Rel E a u108 H → va_S (AE E) s.heap H locs → lv_has ls 3 [(0, .ref (a 9 0)), (1, .int x1), (2, .int x2)] → W p l e { frames := 3, cells := 0, slots := 0, locals := 72 } s m args below meth c H locs 0 0 (MQ below (QW E a (some (.int out.1)) out.2) args s 0 0 (AE E)) (F0 m 40 ls [.int x112, .ref (a 9 0)]) := by
        intro H locs ls hR hS hl
        clear hz
        refine lv_iconst (v := 2) hx hb dX9_throwsOf_40 (by decide) ?_
        obtain ⟨⟨x115, u116⟩, hc114, h⟩ := ob h
        replace h := bd_x (x := x115) rfl h
        replace h := bd_x (x := u116) rfl h
        refine r_callV1 (As := [.int x112, .int 2]) (rest := []) (r := 9) (i := 0) C (vX9_bad hc114) hR hS (lv0 (by decide) (by decide)) (by decide) ml_X9_162 mw_X9_bad rfl ⟨Nat.le_of_ble_eq_true rfl, Nat.le_of_ble_eq_true rfl, Nat.le_of_ble_eq_true rfl, Nat.le_of_ble_eq_true rfl⟩ hl.1 rfl (Nat.le_of_ble_eq_true rfl) dX9_throwsOf_41 (fun H locs hR hS => ?_)
        refine lv_if_eq (tgt := 49) hx hb dX9_throwsOf_44 (by decide) (fun c_117 => ?_) (fun c_117 => ?_)
        · rw [if_pos c_117] at h
          refine lv_aload_n hx hb dX9_throwsOf_49 rfl (lv_at hl 0 rfl) ?_
          refine lv_iload_n hx hb dX9_throwsOf_50 rfl (lv_at hl 1 rfl) ?_
          refine lv_iload_n hx hb dX9_throwsOf_51 rfl (lv_at hl 2 rfl) ?_
          obtain ⟨x119, hc118, h⟩ := ob h
          refine r_callV1 (As := [.int x1, .int x2]) (rest := []) (r := 9) (i := 0) C (vX9_throwsBy hc118) hR hS (lv0 (by decide) (by decide)) (by decide) ml_X9_285 mw_X9_throwsBy rfl ⟨Nat.le_of_ble_eq_true rfl, Nat.le_of_ble_eq_true rfl, Nat.le_of_ble_eq_true rfl, Nat.le_of_ble_eq_true rfl⟩ hl.1 rfl (Nat.le_of_ble_eq_true rfl) dX9_throwsOf_52 (fun H locs hR hS => ?_)
          cases h
          exact e_iret C hr hR hS (Nat.le_of_ble_eq_true rfl) (Nat.le_of_ble_eq_true rfl) dX9_throwsOf_55
        · rw [if_neg c_117] at h
          refine lv_iconst (v := 0) hx hb dX9_throwsOf_47 (by decide) ?_
          cases h
          exact e_iret C hr hR hS (Nat.le_of_ble_eq_true rfl) (Nat.le_of_ble_eq_true rfl) dX9_throwsOf_48
      clear h
      have h := hz
      clear hz
      refine lv_if_ne (tgt := 39) hx hb dX9_throwsOf_32 (by decide) (fun c_120 => ?_) (fun c_120 => ?_)
      · rw [if_neg c_120] at h
        refine lv_iconst (v := 0) hx hb dX9_throwsOf_39 (by decide) ?_
        cases h
        exact Kj113 _ _ _ hR hS (lv_sub hl [0, 1, 2] rfl)
      · rw [if_pos c_120] at h
        refine lv_iconst (v := 1) hx hb dX9_throwsOf_35 (by decide) ?_
        refine lv_goto (tgt := 40) hx hb dX9_throwsOf_36 (by decide) ?_
        cases h
        exact Kj113 _ _ _ hR hS (lv_sub hl [0, 1, 2] rfl)
  clear h
  have h := hz
  clear hz
  refine lv_if_ne (tgt := 18) hx hb dX9_throwsOf_11 (by decide) (fun c_121 => ?_) (fun c_121 => ?_)
  · rw [if_neg c_121] at h
    refine lv_iconst (v := 0) hx hb dX9_throwsOf_18 (by decide) ?_
    cases h
    exact Kj105 _ _ _ hR hS (lv_sub hl [0, 1, 2] rfl)
  · rw [if_pos c_121] at h
    refine lv_iconst (v := 1) hx hb dX9_throwsOf_14 (by decide) ?_
    refine lv_goto (tgt := 19) hx hb dX9_throwsOf_15 (by decide) ?_
    cases h
    exact Kj105 _ _ _ hR hS (lv_sub hl [0, 1, 2] rfl)
set_option maxHeartbeats 4000000 in
set_option maxRecDepth 100000 in
theorem vX9_comes {l : Launch} {E : EV} {a : Nat → Nat → Nat} {u0 : HS} {x1 : Int32} {x2 : Int32} {x3 : Int32} {x4 : Int32} {out : HS} (h : mX9_comes u0 x1 x2 x3 x4 = some out) : Ct l E yX9_comes cX9_comes 6 none 0 0 0 0 a u0 [.ref (a 9 0), .int x1, .int x2, .int x3, .int x4] none out := by
  refine Ct.start (by decide) (Nat.le_of_ble_eq_true rfl) ?_
  intro p e s m args below meth c ls C hr hR hS hl
  have C : Cx E p s m args meth c cX9_comes 6 RX9 := C
  have hl : lv_has ls 6 [(0, .ref (a 9 0)), (1, .int x1), (2, .int x2), (3, .int x3), (4, .int x4)] := hl
  have hx := C.1
  have hb := C.2.1
  unfold mX9_comes at h
  refine lv_aload_n hx hb dX9_comes_0 rfl (lv_at hl 0 rfl) ?_
  refine r_get C hR 9 0 33 (v := .ref (a 80 0)) (lv0 (by decide) (by decide)) (by decide) (by decide) rfl fl_X9_61 dX9_comes_1 ?_
  refine lv_iload_n hx hb dX9_comes_4 rfl (lv_at hl 1 rfl) ?_
  obtain ⟨k101, hk101, h⟩ := ob h
  have hLk101 : k101 < cntS 81 := by have q1 := (ck_in hk101).2.2; have q2 : cntS 81 = 15 := rfl; omega
  refine r_aald C hR 80 0 81 0 6 (lv0 (by decide) (by decide)) (by decide) rfl rfl rfl (fun _ => rfl) rfl hk101 dX9_comes_5 ?_
  refine lv_iconst (v := 0) hx hb dX9_comes_6 (by decide) ?_
  refine lv_iload_n hx hb dX9_comes_7 rfl (lv_at hl 2 rfl) ?_
  obtain ⟨k102, hk102, h⟩ := ob h
  refine r_ast C hR hS 81 k101 (lv0 hLk101 (by decide)) (by decide) rfl (fun _ _ => rfl) rfl hk102 dX9_comes_8 (fun H locs hR hS => ?_)
  obtain ⟨u103, eu103⟩ : ∃ z : HS, z = wI u0 81 k101 k102 x2 := ⟨_, rfl⟩
  rw [← eu103] at hR
  replace h := bd_x eu103 h
  clear eu103
  refine lv_aload_n hx hb dX9_comes_9 rfl (lv_at hl 0 rfl) ?_
  refine r_get C hR 9 0 33 (v := .ref (a 80 0)) (lv0 (by decide) (by decide)) (by decide) (by decide) rfl fl_X9_61 dX9_comes_10 ?_
  refine lv_iload_n hx hb dX9_comes_13 rfl (lv_at hl 1 rfl) ?_
  obtain ⟨k104, hk104, h⟩ := ob h
  have hLk104 : k104 < cntS 81 := by have q1 := (ck_in hk104).2.2; have q2 : cntS 81 = 15 := rfl; omega
  refine r_aald C hR 80 0 81 0 6 (lv0 (by decide) (by decide)) (by decide) rfl rfl rfl (fun _ => rfl) rfl hk104 dX9_comes_14 ?_
  refine lv_iconst (v := 1) hx hb dX9_comes_15 (by decide) ?_
  refine lv_iload_n hx hb dX9_comes_16 rfl (lv_at hl 3 rfl) ?_
  obtain ⟨k105, hk105, h⟩ := ob h
  refine r_ast C hR hS 81 k104 (lv0 hLk104 (by decide)) (by decide) rfl (fun _ _ => rfl) rfl hk105 dX9_comes_17 (fun H locs hR hS => ?_)
  obtain ⟨u106, eu106⟩ : ∃ z : HS, z = wI u103 81 k104 k105 x3 := ⟨_, rfl⟩
  rw [← eu106] at hR
  replace h := bd_x eu106 h
  clear eu106
  refine lv_aload_n hx hb dX9_comes_18 rfl (lv_at hl 0 rfl) ?_
  refine r_get C hR 9 0 33 (v := .ref (a 80 0)) (lv0 (by decide) (by decide)) (by decide) (by decide) rfl fl_X9_61 dX9_comes_19 ?_
  refine lv_iload_n hx hb dX9_comes_22 rfl (lv_at hl 1 rfl) ?_
  obtain ⟨k107, hk107, h⟩ := ob h
  have hLk107 : k107 < cntS 81 := by have q1 := (ck_in hk107).2.2; have q2 : cntS 81 = 15 := rfl; omega
  refine r_aald C hR 80 0 81 0 6 (lv0 (by decide) (by decide)) (by decide) rfl rfl rfl (fun _ => rfl) rfl hk107 dX9_comes_23 ?_
  refine lv_iconst (v := 2) hx hb dX9_comes_24 (by decide) ?_
  refine lv_iload hx hb dX9_comes_25 (lv_at hl 4 rfl) ?_
  obtain ⟨x108, hz, h⟩ := ob h
  have Kj109 : ∀ (H : Heap) (locs : List Loc) (ls : Array Slot), Rel E a u106 H → va_S (AE E) s.heap H locs → lv_has ls 6 [(0, .ref (a 9 0)), (1, .int x1)] → W p l e { frames := 0, cells := 0, slots := 0, locals := 0 } s m args below meth c H locs 0 0 (MQ below (QW E a none out) args s 0 0 (AE E)) (F0 m 35 ls [.int x108, .int 2, .ref (a 81 k107)]) := by
    intro H locs ls hR hS hl
    clear hz
    obtain ⟨k110, hk110, h⟩ := ob h
    refine r_ast C hR hS 81 k107 (lv0 hLk107 (by decide)) (by decide) rfl (fun _ _ => rfl) rfl hk110 dX9_comes_35 (fun H locs hR hS => ?_)
    obtain ⟨u111, eu111⟩ : ∃ z : HS, z = wI u106 81 k107 k110 x108 := ⟨_, rfl⟩
    rw [← eu111] at hR
    replace h := bd_x eu111 h
    clear eu111
    refine lv_iconst (v := 3) hx hb dX9_comes_36 (by decide) ?_
    refine lv_istore (lv' := [(5, .int 3), (0, .ref (a 9 0)), (1, .int x1)]) hx hb dX9_comes_37 hl (by decide) rfl (fun ls hl => ?_)
    refine jp_cut h (fun w115 hw115 h => ?_)
    have Kw115 : ∀ (u114 : HS) (H : Heap) (locs : List Loc) (ls : Array Slot), w115 u114 = some out → Rel E a u114 H → va_S (AE E) s.heap H locs → lv_has ls 6 [] → W p l e { frames := 0, cells := 0, slots := 0, locals := 0 } s m args below meth c H locs 0 0 (MQ below (QW E a none out) args s 0 0 (AE E)) (F0 m 62 ls []) := by
      intro u114 H locs ls h hR hS hl
      replace h := jx1 hw115 h
      cases h
      exact e_vret C hr hR hS (Nat.le_of_ble_eq_true rfl) (Nat.le_of_ble_eq_true rfl) dX9_comes_62
    have LP : ∀ (fu : Nat) (x112 : Int32) (u113 : HS) (H : Heap) (locs : List Loc) (ls : Array Slot), mX9_comes_L39 x1 w115 fu x112 u113 = some out → Rel E a u113 H → va_S (AE E) s.heap H locs → lv_has ls 6 [(0, .ref (a 9 0)), (1, .int x1), (5, .int x112)] → W p l e { frames := 0, cells := 0, slots := 0, locals := 0 } s m args below meth c H locs 0 0 (MQ below (QW E a none out) args s 0 0 (AE E)) (F0 m 39 ls []) := by
      intro fu
      induction fu with
      | zero =>
        intro x112 u113 H locs ls h
        have h2 : (none : Option HS) = some out := h
        cases h2
      | succ fu ih =>
        intro x112 u113 H locs ls h hR hS hl
        rw [mX9_comes_L39.eq_2] at h
        refine lv_iload hx hb dX9_comes_39 (lv_at hl 2 rfl) ?_
        refine lv_bipush (v := 8) hx hb dX9_comes_41 (by decide) ?_
        refine lv_icmp_ge (tgt := 62) hx hb dX9_comes_43 (by decide) (fun c_116 => ?_) (fun c_116 => ?_)
        · rw [if_pos c_116] at h
          exact Kw115 _ _ _ _ h hR hS (lv_sub hl [] rfl)
        · rw [if_neg c_116] at h
          refine lv_aload_n hx hb dX9_comes_46 rfl (lv_at hl 0 rfl) ?_
          refine r_get C hR 9 0 33 (v := .ref (a 80 0)) (lv0 (by decide) (by decide)) (by decide) (by decide) rfl fl_X9_61 dX9_comes_47 ?_
          refine lv_iload_n hx hb dX9_comes_50 rfl (lv_at hl 1 rfl) ?_
          obtain ⟨k117, hk117, h⟩ := ob h
          have hLk117 : k117 < cntS 81 := by have q1 := (ck_in hk117).2.2; have q2 : cntS 81 = 15 := rfl; omega
          refine r_aald C hR 80 0 81 0 6 (lv0 (by decide) (by decide)) (by decide) rfl rfl rfl (fun _ => rfl) rfl hk117 dX9_comes_51 ?_
          refine lv_iload hx hb dX9_comes_52 (lv_at hl 2 rfl) ?_
          refine lv_iconst (v := (-1)) hx hb dX9_comes_54 (by decide) ?_
          obtain ⟨k118, hk118, h⟩ := ob h
          refine r_ast C hR hS 81 k117 (lv0 hLk117 (by decide)) (by decide) rfl (fun _ _ => rfl) rfl hk118 dX9_comes_55 (fun H locs hR hS => ?_)
          obtain ⟨u119, eu119⟩ : ∃ z : HS, z = wI u113 81 k117 k118 (-1) := ⟨_, rfl⟩
          rw [← eu119] at hR
          replace h := bd_x eu119 h
          clear eu119
          obtain ⟨x120, ex120⟩ : ∃ z : Int32, z = x112 + 1 := ⟨_, rfl⟩
          replace h := bd_x ex120 h
          refine lv_iinc (v := x120) (lv' := [(5, .int x120), (0, .ref (a 9 0)), (1, .int x1)]) hx hb dX9_comes_56 hl (k := 2) rfl (by rw [ex120]; rfl) (by decide) rfl (fun ls hl => ?_)
          refine lv_goto (tgt := 39) hx hb dX9_comes_59 (by decide) ?_
          exact ih _ _ _ _ _ h hR hS (lv_sub hl [1, 2, 0] rfl)
    exact LP FU _ _ _ _ _ h hR hS (lv_sub hl [1, 2, 0] rfl)
  clear h
  have h := hz
  clear hz
  refine lv_if_eq (tgt := 34) hx hb dX9_comes_27 (by decide) (fun c_121 => ?_) (fun c_121 => ?_)
  · rw [if_pos c_121] at h
    refine lv_iconst (v := 0) hx hb dX9_comes_34 (by decide) ?_
    cases h
    exact Kj109 _ _ _ hR hS (lv_sub hl [0, 1] rfl)
  · rw [if_neg c_121] at h
    refine lv_iconst (v := 1) hx hb dX9_comes_30 (by decide) ?_
    refine lv_goto (tgt := 35) hx hb dX9_comes_31 (by decide) ?_
    cases h
    exact Kj109 _ _ _ hR hS (lv_sub hl [0, 1] rfl)
set_option maxHeartbeats 4000000 in
set_option maxRecDepth 100000 in
theorem vX9_looker {l : Launch} {E : EV} {a : Nat → Nat → Nat} {u0 : HS} {x1 : Int32} {x2 : Int32} {x3 : Int32} {out : (Int32 × HS)} (h : mX9_looker u0 x1 x2 x3 = some out) : Ct l E yX9_looker cX9_looker 4 (some .int) 2 43 0 0 a u0 [.ref (a 9 0), .int x1, .int x2, .int x3] (some (.int out.1)) out.2 := by
  refine Ct.start (by decide) (Nat.le_of_ble_eq_true rfl) ?_
  intro p e s m args below meth c ls C hr hR hS hl
  have C : Cx E p s m args meth c cX9_looker 4 RX9 := C
  have hl : lv_has ls 4 [(0, .ref (a 9 0)), (1, .int x1), (2, .int x2), (3, .int x3)] := hl
  have hx := C.1
  have hb := C.2.1
  unfold mX9_looker at h
  refine lv_aload_n hx hb dX9_looker_0 rfl (lv_at hl 0 rfl) ?_
  refine lv_iconst (v := 0) hx hb dX9_looker_1 (by decide) ?_
  refine r_putI (ty := .int) C hR hS 9 0 0 (lv0 (by decide) (by decide)) (by decide) (by decide) (fun _ => rfl) fl_X9_76 (by decide) (by decide +kernel) rfl rfl dX9_looker_2 (fun H locs hR hS => ?_)
  obtain ⟨u101, eu101⟩ : ∃ z : HS, z = wI u0 9 0 0 0 := ⟨_, rfl⟩
  rw [← eu101] at hR
  replace h := bd_x eu101 h
  clear eu101
  refine lv_aload_n hx hb dX9_looker_5 rfl (lv_at hl 0 rfl) ?_
  refine lv_aload_n hx hb dX9_looker_6 rfl (lv_at hl 0 rfl) ?_
  refine lv_iload_n hx hb dX9_looker_7 rfl (lv_at hl 1 rfl) ?_
  obtain ⟨x103, hc102, h⟩ := ob h
  refine r_callV1 (As := [.int x1]) (rest := [.ref (a 9 0)]) (r := 9) (i := 0) C (vX9_isScene hc102) hR hS (lv0 (by decide) (by decide)) (by decide) ml_X9_254 mw_X9_isScene rfl ⟨Nat.le_of_ble_eq_true rfl, Nat.le_of_ble_eq_true rfl, Nat.le_of_ble_eq_true rfl, Nat.le_of_ble_eq_true rfl⟩ hl.1 rfl (Nat.le_of_ble_eq_true rfl) dX9_looker_8 (fun H locs hR hS => ?_)
  obtain ⟨x104, hz, h⟩ := ob h
  have Kj105 : ∀ (H : Heap) (locs : List Loc) (ls : Array Slot), Rel E a u101 H → va_S (AE E) s.heap H locs → lv_has ls 4 [(0, .ref (a 9 0)), (1, .int x1), (2, .int x2), (3, .int x3)] → W p l e { frames := 2, cells := 0, slots := 0, locals := 43 } s m args below meth c H locs 0 0 (MQ below (QW E a (some (.int out.1)) out.2) args s 0 0 (AE E)) (F0 m 19 ls [.int x104, .ref (a 9 0)]) := by
    intro H locs ls hR hS hl
    clear hz
    refine lv_iconst (v := 1) hx hb dX9_looker_19 (by decide) ?_
    obtain ⟨⟨x107, u108⟩, hc106, h⟩ := ob h
    replace h := bd_x (x := x107) rfl h
    replace h := bd_x (x := u108) rfl h
    refine r_callV1 (As := [.int x104, .int 1]) (rest := []) (r := 9) (i := 0) C (vX9_bad hc106) hR hS (lv0 (by decide) (by decide)) (by decide) ml_X9_162 mw_X9_bad rfl ⟨Nat.le_of_ble_eq_true rfl, Nat.le_of_ble_eq_true rfl, Nat.le_of_ble_eq_true rfl, Nat.le_of_ble_eq_true rfl⟩ hl.1 rfl (Nat.le_of_ble_eq_true rfl) dX9_looker_20 (fun H locs hR hS => ?_)
    refine lv_if_ne (tgt := 47) hx hb dX9_looker_23 (by decide) (fun c_109 => ?_) (fun c_109 => ?_)
    · rw [if_neg c_109] at h
      refine lv_iconst (v := 0) hx hb dX9_looker_47 (by decide) ?_
      cases h
      exact e_iret C hr hR hS (Nat.le_of_ble_eq_true rfl) (Nat.le_of_ble_eq_true rfl) dX9_looker_48
    · rw [if_pos c_109] at h
      refine lv_aload_n hx hb dX9_looker_26 rfl (lv_at hl 0 rfl) ?_
      refine lv_aload_n hx hb dX9_looker_27 rfl (lv_at hl 0 rfl) ?_
      refine lv_iload_n hx hb dX9_looker_28 rfl (lv_at hl 2 rfl) ?_
      obtain ⟨x111, hc110, h⟩ := ob h
      refine r_callV1 (As := [.int x2]) (rest := [.ref (a 9 0)]) (r := 9) (i := 0) C (vX9_isTask hc110) hR hS (lv0 (by decide) (by decide)) (by decide) ml_X9_278 mw_X9_isTask rfl ⟨Nat.le_of_ble_eq_true rfl, Nat.le_of_ble_eq_true rfl, Nat.le_of_ble_eq_true rfl, Nat.le_of_ble_eq_true rfl⟩ hl.1 rfl (Nat.le_of_ble_eq_true rfl) dX9_looker_29 (fun H locs hR hS => ?_)
      obtain ⟨x112, hz, h⟩ := ob h
      have Kj113 : ∀ (H : Heap) (locs : List Loc) (ls : Array Slot), Rel E a u108 H → va_S (AE E) s.heap H locs → lv_has ls 4 [(0, .ref (a 9 0)), (1, .int x1), (2, .int x2), (3, .int x3)] → W p l e { frames := 2, cells := 0, slots := 0, locals := 43 } s m args below meth c H locs 0 0 (MQ below (QW E a (some (.int out.1)) out.2) args s 0 0 (AE E)) (F0 m 40 ls [.int x112, .ref (a 9 0)]) := by
        intro H locs ls hR hS hl
        clear hz
        refine lv_iconst (v := 2) hx hb dX9_looker_40 (by decide) ?_
        obtain ⟨⟨x115, u116⟩, hc114, h⟩ := ob h
        replace h := bd_x (x := x115) rfl h
        replace h := bd_x (x := u116) rfl h
        refine r_callV1 (As := [.int x112, .int 2]) (rest := []) (r := 9) (i := 0) C (vX9_bad hc114) hR hS (lv0 (by decide) (by decide)) (by decide) ml_X9_162 mw_X9_bad rfl ⟨Nat.le_of_ble_eq_true rfl, Nat.le_of_ble_eq_true rfl, Nat.le_of_ble_eq_true rfl, Nat.le_of_ble_eq_true rfl⟩ hl.1 rfl (Nat.le_of_ble_eq_true rfl) dX9_looker_41 (fun H locs hR hS => ?_)
        refine lv_if_eq (tgt := 49) hx hb dX9_looker_44 (by decide) (fun c_117 => ?_) (fun c_117 => ?_)
        · rw [if_pos c_117] at h
          refine lv_aload_n hx hb dX9_looker_49 rfl (lv_at hl 0 rfl) ?_
          refine r_get C hR 9 0 28 (v := .int (gI u116 9 0 28)) (lv0 (by decide) (by decide)) (by decide) (by decide) rfl fl_X9_288 dX9_looker_50 ?_
          refine lv_bipush (v := 14) hx hb dX9_looker_53 (by decide) ?_
          refine lv_icmp_ne (tgt := 60) hx hb dX9_looker_55 (by decide) (fun c_118 => ?_) (fun c_118 => ?_)
          · rw [if_neg c_118] at h
            refine lv_aload_n hx hb dX9_looker_60 rfl (lv_at hl 0 rfl) ?_
            refine lv_aload_n hx hb dX9_looker_61 rfl (lv_at hl 0 rfl) ?_
            refine r_get C hR 9 0 28 (v := .int (gI u116 9 0 28)) (lv0 (by decide) (by decide)) (by decide) (by decide) rfl fl_X9_288 dX9_looker_62 ?_
            refine lv_iload_n hx hb dX9_looker_65 rfl (lv_at hl 1 rfl) ?_
            refine lv_iload_n hx hb dX9_looker_66 rfl (lv_at hl 2 rfl) ?_
            refine lv_iload_n hx hb dX9_looker_67 rfl (lv_at hl 3 rfl) ?_
            obtain ⟨u120, hc119, h⟩ := ob h
            refine r_callV0 (As := [.int (gI u116 9 0 28), .int x1, .int x2, .int x3]) (rest := []) (r := 9) (i := 0) C (vX9_comes hc119) hR hS (lv0 (by decide) (by decide)) (by decide) ml_X9_291 mw_X9_comes rfl ⟨Nat.le_of_ble_eq_true rfl, Nat.le_of_ble_eq_true rfl, Nat.le_of_ble_eq_true rfl, Nat.le_of_ble_eq_true rfl⟩ hl.1 rfl (Nat.le_of_ble_eq_true rfl) dX9_looker_68 (fun H locs hR hS => ?_)
            refine lv_aload_n hx hb dX9_looker_71 rfl (lv_at hl 0 rfl) ?_
            refine lv_dup hx hb dX9_looker_72 rfl ?_
            refine r_get C hR 9 0 28 (v := .int (gI u120 9 0 28)) (lv0 (by decide) (by decide)) (by decide) (by decide) rfl fl_X9_288 dX9_looker_73 ?_
            refine lv_iconst (v := 1) hx hb dX9_looker_76 (by decide) ?_
            refine lv_iadd hx hb dX9_looker_77 ?_
            refine r_putI (ty := .int) C hR hS 9 0 28 (lv0 (by decide) (by decide)) (by decide) (by decide) (fun _ => rfl) fl_X9_288 (by decide) (by decide +kernel) rfl rfl dX9_looker_78 (fun H locs hR hS => ?_)
            obtain ⟨u121, eu121⟩ : ∃ z : HS, z = wI u120 9 0 28 ((gI u120 9 0 28) + 1) := ⟨_, rfl⟩
            rw [← eu121] at hR
            replace h := bd_x eu121 h
            clear eu121
            refine lv_aload_n hx hb dX9_looker_81 rfl (lv_at hl 0 rfl) ?_
            refine r_get C hR 9 0 28 (v := .int (gI u121 9 0 28)) (lv0 (by decide) (by decide)) (by decide) (by decide) rfl fl_X9_288 dX9_looker_82 ?_
            refine lv_iconst (v := 1) hx hb dX9_looker_85 (by decide) ?_
            refine lv_isub hx hb dX9_looker_86 ?_
            cases h
            exact e_iret C hr hR hS (Nat.le_of_ble_eq_true rfl) (Nat.le_of_ble_eq_true rfl) dX9_looker_87
          · rw [if_pos c_118] at h
            refine lv_iconst (v := (-1)) hx hb dX9_looker_58 (by decide) ?_
            cases h
            exact e_iret C hr hR hS (Nat.le_of_ble_eq_true rfl) (Nat.le_of_ble_eq_true rfl) dX9_looker_59
        · rw [if_neg c_117] at h
          refine lv_iconst (v := 0) hx hb dX9_looker_47 (by decide) ?_
          cases h
          exact e_iret C hr hR hS (Nat.le_of_ble_eq_true rfl) (Nat.le_of_ble_eq_true rfl) dX9_looker_48
      clear h
      have h := hz
      clear hz
      refine lv_if_ne (tgt := 39) hx hb dX9_looker_32 (by decide) (fun c_122 => ?_) (fun c_122 => ?_)
      · rw [if_neg c_122] at h
        refine lv_iconst (v := 0) hx hb dX9_looker_39 (by decide) ?_
        cases h
        exact Kj113 _ _ _ hR hS (lv_sub hl [0, 1, 2, 3] rfl)
      · rw [if_pos c_122] at h
        refine lv_iconst (v := 1) hx hb dX9_looker_35 (by decide) ?_
        refine lv_goto (tgt := 40) hx hb dX9_looker_36 (by decide) ?_
        cases h
        exact Kj113 _ _ _ hR hS (lv_sub hl [0, 1, 2, 3] rfl)
  clear h
  have h := hz
  clear hz
  refine lv_if_ne (tgt := 18) hx hb dX9_looker_11 (by decide) (fun c_123 => ?_) (fun c_123 => ?_)
  · rw [if_neg c_123] at h
    refine lv_iconst (v := 0) hx hb dX9_looker_18 (by decide) ?_
    cases h
    exact Kj105 _ _ _ hR hS (lv_sub hl [0, 1, 2, 3] rfl)
  · rw [if_pos c_123] at h
    refine lv_iconst (v := 1) hx hb dX9_looker_14 (by decide) ?_
    refine lv_goto (tgt := 19) hx hb dX9_looker_15 (by decide) ?_
    cases h
    exact Kj105 _ _ _ hR hS (lv_sub hl [0, 1, 2, 3] rfl)
set_option maxHeartbeats 4000000 in
set_option maxRecDepth 100000 in
theorem vX9_isLooker {l : Launch} {E : EV} {a : Nat → Nat → Nat} {u0 : HS} {x1 : Int32} {out : Int32} (h : mX9_isLooker u0 x1 = some out) : Ct l E yX9_isLooker cX9_isLooker 2 (some .boolean) 1 22 0 0 a u0 [.ref (a 9 0), .int x1] (some (.int out)) u0 := by
  refine Ct.start (by decide) (Nat.le_of_ble_eq_true rfl) ?_
  intro p e s m args below meth c ls C hr hR hS hl
  have C : Cx E p s m args meth c cX9_isLooker 2 RX9 := C
  have hl : lv_has ls 2 [(0, .ref (a 9 0)), (1, .int x1)] := hl
  have hx := C.1
  have hb := C.2.1
  unfold mX9_isLooker at h
  refine lv_iload_n hx hb dX9_isLooker_0 rfl (lv_at hl 1 rfl) ?_
  refine lv_iconst (v := 0) hx hb dX9_isLooker_1 (by decide) ?_
  refine lv_aload_n hx hb dX9_isLooker_2 rfl (lv_at hl 0 rfl) ?_
  refine r_get C hR 9 0 28 (v := .int (gI u0 9 0 28)) (lv0 (by decide) (by decide)) (by decide) (by decide) rfl fl_X9_288 dX9_isLooker_3 ?_
  refine lv_iconst (v := 1) hx hb dX9_isLooker_6 (by decide) ?_
  refine lv_isub hx hb dX9_isLooker_7 ?_
  obtain ⟨x102, hc101, h⟩ := ob h
  refine r_callS1 (As := [.int x1, .int 0, .int ((gI u0 9 0 28) - 1)]) (rest := []) C (vX9_in hc101) hR hS ml_X9_113 ms_X9_in rfl ⟨Nat.le_of_ble_eq_true rfl, Nat.le_of_ble_eq_true rfl, Nat.le_of_ble_eq_true rfl, Nat.le_of_ble_eq_true rfl⟩ hl.1 rfl (Nat.le_of_ble_eq_true rfl) dX9_isLooker_8 (fun H locs hR hS => ?_)
  obtain ⟨_, hz103, h⟩ := ob h
  cases h
  exact e_zret C hr (zb_narrow hz103) hR hS (Nat.le_of_ble_eq_true rfl) (Nat.le_of_ble_eq_true rfl) dX9_isLooker_11
set_option maxHeartbeats 4000000 in
set_option maxRecDepth 100000 in
theorem vX9_eyes {l : Launch} {E : EV} {a : Nat → Nat → Nat} {u0 : HS} {x1 : Int32} {x2 : Int32} {x3 : Int32} {x4 : Int32} {out : (Int32 × HS)} (h : mX9_eyes u0 x1 x2 x3 x4 = some out) : Ct l E yX9_eyes cX9_eyes 5 (some .int) 2 43 0 0 a u0 [.ref (a 9 0), .int x1, .int x2, .int x3, .int x4] (some (.int out.1)) out.2 := by
  refine Ct.start (by decide) (Nat.le_of_ble_eq_true rfl) ?_
  intro p e s m args below meth c ls C hr hR hS hl
  have C : Cx E p s m args meth c cX9_eyes 5 RX9 := C
  have hl : lv_has ls 5 [(0, .ref (a 9 0)), (1, .int x1), (2, .int x2), (3, .int x3), (4, .int x4)] := hl
  have hx := C.1
  have hb := C.2.1
  unfold mX9_eyes at h
  refine lv_aload_n hx hb dX9_eyes_0 rfl (lv_at hl 0 rfl) ?_
  refine lv_iconst (v := 0) hx hb dX9_eyes_1 (by decide) ?_
  refine r_putI (ty := .int) C hR hS 9 0 0 (lv0 (by decide) (by decide)) (by decide) (by decide) (fun _ => rfl) fl_X9_76 (by decide) (by decide +kernel) rfl rfl dX9_eyes_2 (fun H locs hR hS => ?_)
  obtain ⟨u101, eu101⟩ : ∃ z : HS, z = wI u0 9 0 0 0 := ⟨_, rfl⟩
  rw [← eu101] at hR
  replace h := bd_x eu101 h
  clear eu101
  refine lv_aload_n hx hb dX9_eyes_5 rfl (lv_at hl 0 rfl) ?_
  refine lv_aload_n hx hb dX9_eyes_6 rfl (lv_at hl 0 rfl) ?_
  refine lv_iload_n hx hb dX9_eyes_7 rfl (lv_at hl 1 rfl) ?_
  obtain ⟨x103, hc102, h⟩ := ob h
  refine r_callV1 (As := [.int x1]) (rest := [.ref (a 9 0)]) (r := 9) (i := 0) C (vX9_isLooker hc102) hR hS (lv0 (by decide) (by decide)) (by decide) ml_X9_295 mw_X9_isLooker rfl ⟨Nat.le_of_ble_eq_true rfl, Nat.le_of_ble_eq_true rfl, Nat.le_of_ble_eq_true rfl, Nat.le_of_ble_eq_true rfl⟩ hl.1 rfl (Nat.le_of_ble_eq_true rfl) dX9_eyes_8 (fun H locs hR hS => ?_)
  obtain ⟨x104, hz, h⟩ := ob h
  have Kj105 : ∀ (H : Heap) (locs : List Loc) (ls : Array Slot), Rel E a u101 H → va_S (AE E) s.heap H locs → lv_has ls 5 [(0, .ref (a 9 0)), (1, .int x1), (2, .int x2), (3, .int x3), (4, .int x4)] → W p l e { frames := 2, cells := 0, slots := 0, locals := 43 } s m args below meth c H locs 0 0 (MQ below (QW E a (some (.int out.1)) out.2) args s 0 0 (AE E)) (F0 m 51 ls [.int x104, .ref (a 9 0)]) := by
    intro H locs ls hR hS hl
    clear hz
    refine lv_iconst (v := 1) hx hb dX9_eyes_51 (by decide) ?_
    obtain ⟨⟨x107, u108⟩, hc106, h⟩ := ob h
    replace h := bd_x (x := x107) rfl h
    replace h := bd_x (x := u108) rfl h
    refine r_callV1 (As := [.int x104, .int 1]) (rest := []) (r := 9) (i := 0) C (vX9_bad hc106) hR hS (lv0 (by decide) (by decide)) (by decide) ml_X9_162 mw_X9_bad rfl ⟨Nat.le_of_ble_eq_true rfl, Nat.le_of_ble_eq_true rfl, Nat.le_of_ble_eq_true rfl, Nat.le_of_ble_eq_true rfl⟩ hl.1 rfl (Nat.le_of_ble_eq_true rfl) dX9_eyes_52 (fun H locs hR hS => ?_)
    refine lv_if_eq (tgt := 60) hx hb dX9_eyes_55 (by decide) (fun c_109 => ?_) (fun c_109 => ?_)
    · rw [if_pos c_109] at h
      refine lv_aload_n hx hb dX9_eyes_60 rfl (lv_at hl 0 rfl) ?_
      refine r_get C hR 9 0 29 (v := .int (gI u108 9 0 29)) (lv0 (by decide) (by decide)) (by decide) (by decide) rfl fl_X9_298 dX9_eyes_61 ?_
      refine lv_bipush (v := 60) hx hb dX9_eyes_64 (by decide) ?_
      refine lv_icmp_ne (tgt := 71) hx hb dX9_eyes_66 (by decide) (fun c_110 => ?_) (fun c_110 => ?_)
      · rw [if_neg c_110] at h
        refine lv_aload_n hx hb dX9_eyes_71 rfl (lv_at hl 0 rfl) ?_
        refine r_get C hR 9 0 34 (v := .ref (a 82 0)) (lv0 (by decide) (by decide)) (by decide) (by decide) rfl fl_X9_64 dX9_eyes_72 ?_
        refine lv_aload_n hx hb dX9_eyes_75 rfl (lv_at hl 0 rfl) ?_
        refine r_get C hR 9 0 29 (v := .int (gI u108 9 0 29)) (lv0 (by decide) (by decide)) (by decide) (by decide) rfl fl_X9_298 dX9_eyes_76 ?_
        obtain ⟨k111, hk111, h⟩ := ob h
        have hLk111 : k111 < cntS 83 := by have q1 := (ck_in hk111).2.2; have q2 : cntS 83 = 60 := rfl; omega
        refine r_aald C hR 82 0 83 0 6 (lv0 (by decide) (by decide)) (by decide) rfl rfl rfl (fun _ => rfl) rfl hk111 dX9_eyes_79 ?_
        refine lv_iconst (v := 0) hx hb dX9_eyes_80 (by decide) ?_
        refine lv_iload_n hx hb dX9_eyes_81 rfl (lv_at hl 1 rfl) ?_
        obtain ⟨k112, hk112, h⟩ := ob h
        refine r_ast C hR hS 83 k111 (lv0 hLk111 (by decide)) (by decide) rfl (fun _ _ => rfl) rfl hk112 dX9_eyes_82 (fun H locs hR hS => ?_)
        obtain ⟨u113, eu113⟩ : ∃ z : HS, z = wI u108 83 k111 k112 x1 := ⟨_, rfl⟩
        rw [← eu113] at hR
        replace h := bd_x eu113 h
        clear eu113
        refine lv_aload_n hx hb dX9_eyes_83 rfl (lv_at hl 0 rfl) ?_
        refine r_get C hR 9 0 34 (v := .ref (a 82 0)) (lv0 (by decide) (by decide)) (by decide) (by decide) rfl fl_X9_64 dX9_eyes_84 ?_
        refine lv_aload_n hx hb dX9_eyes_87 rfl (lv_at hl 0 rfl) ?_
        refine r_get C hR 9 0 29 (v := .int (gI u113 9 0 29)) (lv0 (by decide) (by decide)) (by decide) (by decide) rfl fl_X9_298 dX9_eyes_88 ?_
        obtain ⟨k114, hk114, h⟩ := ob h
        have hLk114 : k114 < cntS 83 := by have q1 := (ck_in hk114).2.2; have q2 : cntS 83 = 60 := rfl; omega
        refine r_aald C hR 82 0 83 0 6 (lv0 (by decide) (by decide)) (by decide) rfl rfl rfl (fun _ => rfl) rfl hk114 dX9_eyes_91 ?_
        refine lv_iconst (v := 1) hx hb dX9_eyes_92 (by decide) ?_
        refine lv_iload_n hx hb dX9_eyes_93 rfl (lv_at hl 2 rfl) ?_
        obtain ⟨k115, hk115, h⟩ := ob h
        refine r_ast C hR hS 83 k114 (lv0 hLk114 (by decide)) (by decide) rfl (fun _ _ => rfl) rfl hk115 dX9_eyes_94 (fun H locs hR hS => ?_)
        obtain ⟨u116, eu116⟩ : ∃ z : HS, z = wI u113 83 k114 k115 x2 := ⟨_, rfl⟩
        rw [← eu116] at hR
        replace h := bd_x eu116 h
        clear eu116
        refine lv_aload_n hx hb dX9_eyes_95 rfl (lv_at hl 0 rfl) ?_
        refine r_get C hR 9 0 34 (v := .ref (a 82 0)) (lv0 (by decide) (by decide)) (by decide) (by decide) rfl fl_X9_64 dX9_eyes_96 ?_
        refine lv_aload_n hx hb dX9_eyes_99 rfl (lv_at hl 0 rfl) ?_
        refine r_get C hR 9 0 29 (v := .int (gI u116 9 0 29)) (lv0 (by decide) (by decide)) (by decide) (by decide) rfl fl_X9_298 dX9_eyes_100 ?_
        obtain ⟨k117, hk117, h⟩ := ob h
        have hLk117 : k117 < cntS 83 := by have q1 := (ck_in hk117).2.2; have q2 : cntS 83 = 60 := rfl; omega
        refine r_aald C hR 82 0 83 0 6 (lv0 (by decide) (by decide)) (by decide) rfl rfl rfl (fun _ => rfl) rfl hk117 dX9_eyes_103 ?_
        refine lv_iconst (v := 2) hx hb dX9_eyes_104 (by decide) ?_
        refine lv_iload_n hx hb dX9_eyes_105 rfl (lv_at hl 3 rfl) ?_
        obtain ⟨k118, hk118, h⟩ := ob h
        refine r_ast C hR hS 83 k117 (lv0 hLk117 (by decide)) (by decide) rfl (fun _ _ => rfl) rfl hk118 dX9_eyes_106 (fun H locs hR hS => ?_)
        obtain ⟨u119, eu119⟩ : ∃ z : HS, z = wI u116 83 k117 k118 x3 := ⟨_, rfl⟩
        rw [← eu119] at hR
        replace h := bd_x eu119 h
        clear eu119
        refine lv_aload_n hx hb dX9_eyes_107 rfl (lv_at hl 0 rfl) ?_
        refine r_get C hR 9 0 34 (v := .ref (a 82 0)) (lv0 (by decide) (by decide)) (by decide) (by decide) rfl fl_X9_64 dX9_eyes_108 ?_
        refine lv_aload_n hx hb dX9_eyes_111 rfl (lv_at hl 0 rfl) ?_
        refine r_get C hR 9 0 29 (v := .int (gI u119 9 0 29)) (lv0 (by decide) (by decide)) (by decide) (by decide) rfl fl_X9_298 dX9_eyes_112 ?_
        obtain ⟨k120, hk120, h⟩ := ob h
        have hLk120 : k120 < cntS 83 := by have q1 := (ck_in hk120).2.2; have q2 : cntS 83 = 60 := rfl; omega
        refine r_aald C hR 82 0 83 0 6 (lv0 (by decide) (by decide)) (by decide) rfl rfl rfl (fun _ => rfl) rfl hk120 dX9_eyes_115 ?_
        refine lv_iconst (v := 3) hx hb dX9_eyes_116 (by decide) ?_
        refine lv_iload hx hb dX9_eyes_117 (lv_at hl 4 rfl) ?_
        obtain ⟨k121, hk121, h⟩ := ob h
        refine r_ast C hR hS 83 k120 (lv0 hLk120 (by decide)) (by decide) rfl (fun _ _ => rfl) rfl hk121 dX9_eyes_119 (fun H locs hR hS => ?_)
        obtain ⟨u122, eu122⟩ : ∃ z : HS, z = wI u119 83 k120 k121 x4 := ⟨_, rfl⟩
        rw [← eu122] at hR
        replace h := bd_x eu122 h
        clear eu122
        refine lv_aload_n hx hb dX9_eyes_120 rfl (lv_at hl 0 rfl) ?_
        refine lv_dup hx hb dX9_eyes_121 rfl ?_
        refine r_get C hR 9 0 29 (v := .int (gI u122 9 0 29)) (lv0 (by decide) (by decide)) (by decide) (by decide) rfl fl_X9_298 dX9_eyes_122 ?_
        refine lv_iconst (v := 1) hx hb dX9_eyes_125 (by decide) ?_
        refine lv_iadd hx hb dX9_eyes_126 ?_
        refine r_putI (ty := .int) C hR hS 9 0 29 (lv0 (by decide) (by decide)) (by decide) (by decide) (fun _ => rfl) fl_X9_298 (by decide) (by decide +kernel) rfl rfl dX9_eyes_127 (fun H locs hR hS => ?_)
        obtain ⟨u123, eu123⟩ : ∃ z : HS, z = wI u122 9 0 29 ((gI u122 9 0 29) + 1) := ⟨_, rfl⟩
        rw [← eu123] at hR
        replace h := bd_x eu123 h
        clear eu123
        refine lv_aload_n hx hb dX9_eyes_130 rfl (lv_at hl 0 rfl) ?_
        refine r_get C hR 9 0 29 (v := .int (gI u123 9 0 29)) (lv0 (by decide) (by decide)) (by decide) (by decide) rfl fl_X9_298 dX9_eyes_131 ?_
        cases h
        exact e_iret C hr hR hS (Nat.le_of_ble_eq_true rfl) (Nat.le_of_ble_eq_true rfl) dX9_eyes_134
      · rw [if_pos c_110] at h
        refine lv_iconst (v := (-1)) hx hb dX9_eyes_69 (by decide) ?_
        cases h
        exact e_iret C hr hR hS (Nat.le_of_ble_eq_true rfl) (Nat.le_of_ble_eq_true rfl) dX9_eyes_70
    · rw [if_neg c_109] at h
      refine lv_iconst (v := 0) hx hb dX9_eyes_58 (by decide) ?_
      cases h
      exact e_iret C hr hR hS (Nat.le_of_ble_eq_true rfl) (Nat.le_of_ble_eq_true rfl) dX9_eyes_59
  clear h
  have h := hz
  clear hz
  refine jp_cut h (fun j124 hj124 h => ?_)
  have Kj124 : ∀  (H : Heap) (locs : List Loc) (ls : Array Slot), j124 = some x104 → Rel E a u101 H → va_S (AE E) s.heap H locs → lv_has ls 5 [(0, .ref (a 9 0)), (1, .int x1), (2, .int x2), (3, .int x3), (4, .int x4)] → W p l e { frames := 2, cells := 0, slots := 0, locals := 43 } s m args below meth c H locs 0 0 (MQ below (QW E a (some (.int out.1)) out.2) args s 0 0 (AE E)) (F0 m 46 ls [.ref (a 9 0)]) := by
    intro  H locs ls h hR hS hl
    replace h := jx0 hj124 h
    refine lv_iconst (v := 1) hx hb dX9_eyes_46 (by decide) ?_
    refine lv_goto (tgt := 51) hx hb dX9_eyes_47 (by decide) ?_
    cases h
    exact Kj105 _ _ _ hR hS (lv_sub hl [0, 1, 2, 3, 4] rfl)
  refine lv_if_eq (tgt := 46) hx hb dX9_eyes_11 (by decide) (fun c_125 => ?_) (fun c_125 => ?_)
  · rw [if_pos c_125] at h
    exact Kj124  _ _ _ h hR hS (lv_sub hl [0, 1, 2, 3, 4] rfl)
  · rw [if_neg c_125] at h
    refine lv_iload_n hx hb dX9_eyes_14 rfl (lv_at hl 2 rfl) ?_
    refine lv_iconst (v := 0) hx hb dX9_eyes_15 (by decide) ?_
    refine lv_sipush (v := 299) hx hb dX9_eyes_16 (by decide) ?_
    obtain ⟨x127, hc126, h⟩ := ob h
    refine r_callS1 (As := [.int x2, .int 0, .int 299]) (rest := [.ref (a 9 0)]) C (vX9_in hc126) hR hS ml_X9_113 ms_X9_in rfl ⟨Nat.le_of_ble_eq_true rfl, Nat.le_of_ble_eq_true rfl, Nat.le_of_ble_eq_true rfl, Nat.le_of_ble_eq_true rfl⟩ hl.1 rfl (Nat.le_of_ble_eq_true rfl) dX9_eyes_19 (fun H locs hR hS => ?_)
    refine lv_if_eq (tgt := 46) hx hb dX9_eyes_22 (by decide) (fun c_128 => ?_) (fun c_128 => ?_)
    · rw [if_pos c_128] at h
      exact Kj124  _ _ _ h hR hS (lv_sub hl [0, 1, 2, 3, 4] rfl)
    · rw [if_neg c_128] at h
      refine lv_iload_n hx hb dX9_eyes_25 rfl (lv_at hl 3 rfl) ?_
      refine lv_iconst (v := 0) hx hb dX9_eyes_26 (by decide) ?_
      refine lv_bipush (v := 39) hx hb dX9_eyes_27 (by decide) ?_
      obtain ⟨x130, hc129, h⟩ := ob h
      refine r_callS1 (As := [.int x3, .int 0, .int 39]) (rest := [.ref (a 9 0)]) C (vX9_in hc129) hR hS ml_X9_113 ms_X9_in rfl ⟨Nat.le_of_ble_eq_true rfl, Nat.le_of_ble_eq_true rfl, Nat.le_of_ble_eq_true rfl, Nat.le_of_ble_eq_true rfl⟩ hl.1 rfl (Nat.le_of_ble_eq_true rfl) dX9_eyes_29 (fun H locs hR hS => ?_)
      refine lv_if_eq (tgt := 46) hx hb dX9_eyes_32 (by decide) (fun c_131 => ?_) (fun c_131 => ?_)
      · rw [if_pos c_131] at h
        exact Kj124  _ _ _ h hR hS (lv_sub hl [0, 1, 2, 3, 4] rfl)
      · rw [if_neg c_131] at h
        refine lv_iload hx hb dX9_eyes_35 (lv_at hl 4 rfl) ?_
        refine lv_iconst (v := 0) hx hb dX9_eyes_37 (by decide) ?_
        refine lv_bipush (v := 29) hx hb dX9_eyes_38 (by decide) ?_
        obtain ⟨x133, hc132, h⟩ := ob h
        refine r_callS1 (As := [.int x4, .int 0, .int 29]) (rest := [.ref (a 9 0)]) C (vX9_in hc132) hR hS ml_X9_113 ms_X9_in rfl ⟨Nat.le_of_ble_eq_true rfl, Nat.le_of_ble_eq_true rfl, Nat.le_of_ble_eq_true rfl, Nat.le_of_ble_eq_true rfl⟩ hl.1 rfl (Nat.le_of_ble_eq_true rfl) dX9_eyes_40 (fun H locs hR hS => ?_)
        refine lv_if_ne (tgt := 50) hx hb dX9_eyes_43 (by decide) (fun c_134 => ?_) (fun c_134 => ?_)
        · rw [if_neg c_134] at h
          refine lv_iconst (v := 0) hx hb dX9_eyes_50 (by decide) ?_
          cases h
          exact Kj105 _ _ _ hR hS (lv_sub hl [0, 1, 2, 3, 4] rfl)
        · rw [if_pos c_134] at h
          exact Kj124  _ _ _ h hR hS (lv_sub hl [0, 1, 2, 3, 4] rfl)
set_option maxHeartbeats 4000000 in
set_option maxRecDepth 100000 in
theorem vX9_blink {l : Launch} {E : EV} {a : Nat → Nat → Nat} {u0 : HS} {x1 : Int32} {x2 : Int32} {x3 : Int32} {out : (Int32 × HS)} (h : mX9_blink u0 x1 x2 x3 = some out) : Ct l E yX9_blink cX9_blink 4 (some .int) 2 43 0 0 a u0 [.ref (a 9 0), .int x1, .int x2, .int x3] (some (.int out.1)) out.2 := by
  refine Ct.start (by decide) (Nat.le_of_ble_eq_true rfl) ?_
  intro p e s m args below meth c ls C hr hR hS hl
  have C : Cx E p s m args meth c cX9_blink 4 RX9 := C
  have hl : lv_has ls 4 [(0, .ref (a 9 0)), (1, .int x1), (2, .int x2), (3, .int x3)] := hl
  have hx := C.1
  have hb := C.2.1
  unfold mX9_blink at h
  refine lv_aload_n hx hb dX9_blink_0 rfl (lv_at hl 0 rfl) ?_
  refine lv_iconst (v := 0) hx hb dX9_blink_1 (by decide) ?_
  refine r_putI (ty := .int) C hR hS 9 0 0 (lv0 (by decide) (by decide)) (by decide) (by decide) (fun _ => rfl) fl_X9_76 (by decide) (by decide +kernel) rfl rfl dX9_blink_2 (fun H locs hR hS => ?_)
  obtain ⟨u101, eu101⟩ : ∃ z : HS, z = wI u0 9 0 0 0 := ⟨_, rfl⟩
  rw [← eu101] at hR
  replace h := bd_x eu101 h
  clear eu101
  refine lv_aload_n hx hb dX9_blink_5 rfl (lv_at hl 0 rfl) ?_
  refine lv_aload_n hx hb dX9_blink_6 rfl (lv_at hl 0 rfl) ?_
  refine lv_iload_n hx hb dX9_blink_7 rfl (lv_at hl 1 rfl) ?_
  obtain ⟨x103, hc102, h⟩ := ob h
  refine r_callV1 (As := [.int x1]) (rest := [.ref (a 9 0)]) (r := 9) (i := 0) C (vX9_isLooker hc102) hR hS (lv0 (by decide) (by decide)) (by decide) ml_X9_295 mw_X9_isLooker rfl ⟨Nat.le_of_ble_eq_true rfl, Nat.le_of_ble_eq_true rfl, Nat.le_of_ble_eq_true rfl, Nat.le_of_ble_eq_true rfl⟩ hl.1 rfl (Nat.le_of_ble_eq_true rfl) dX9_blink_8 (fun H locs hR hS => ?_)
  obtain ⟨x104, hz, h⟩ := ob h
  have Kj105 : ∀ (H : Heap) (locs : List Loc) (ls : Array Slot), Rel E a u101 H → va_S (AE E) s.heap H locs → lv_has ls 4 [(0, .ref (a 9 0)), (1, .int x1), (2, .int x2), (3, .int x3)] → W p l e { frames := 2, cells := 0, slots := 0, locals := 43 } s m args below meth c H locs 0 0 (MQ below (QW E a (some (.int out.1)) out.2) args s 0 0 (AE E)) (F0 m 41 ls [.int x104, .ref (a 9 0)]) := by
    intro H locs ls hR hS hl
    clear hz
    refine lv_iconst (v := 1) hx hb dX9_blink_41 (by decide) ?_
    obtain ⟨⟨x107, u108⟩, hc106, h⟩ := ob h
    replace h := bd_x (x := x107) rfl h
    replace h := bd_x (x := u108) rfl h
    refine r_callV1 (As := [.int x104, .int 1]) (rest := []) (r := 9) (i := 0) C (vX9_bad hc106) hR hS (lv0 (by decide) (by decide)) (by decide) ml_X9_162 mw_X9_bad rfl ⟨Nat.le_of_ble_eq_true rfl, Nat.le_of_ble_eq_true rfl, Nat.le_of_ble_eq_true rfl, Nat.le_of_ble_eq_true rfl⟩ hl.1 rfl (Nat.le_of_ble_eq_true rfl) dX9_blink_42 (fun H locs hR hS => ?_)
    refine lv_if_eq (tgt := 50) hx hb dX9_blink_45 (by decide) (fun c_109 => ?_) (fun c_109 => ?_)
    · rw [if_pos c_109] at h
      refine lv_aload_n hx hb dX9_blink_50 rfl (lv_at hl 0 rfl) ?_
      refine r_get C hR 9 0 30 (v := .int (gI u108 9 0 30)) (lv0 (by decide) (by decide)) (by decide) (by decide) rfl fl_X9_301 dX9_blink_51 ?_
      refine lv_bipush (v := 40) hx hb dX9_blink_54 (by decide) ?_
      refine lv_icmp_ne (tgt := 61) hx hb dX9_blink_56 (by decide) (fun c_110 => ?_) (fun c_110 => ?_)
      · rw [if_neg c_110] at h
        refine lv_aload_n hx hb dX9_blink_61 rfl (lv_at hl 0 rfl) ?_
        refine r_get C hR 9 0 35 (v := .ref (a 84 0)) (lv0 (by decide) (by decide)) (by decide) (by decide) rfl fl_X9_67 dX9_blink_62 ?_
        refine lv_aload_n hx hb dX9_blink_65 rfl (lv_at hl 0 rfl) ?_
        refine r_get C hR 9 0 30 (v := .int (gI u108 9 0 30)) (lv0 (by decide) (by decide)) (by decide) (by decide) rfl fl_X9_301 dX9_blink_66 ?_
        obtain ⟨k111, hk111, h⟩ := ob h
        have hLk111 : k111 < cntS 85 := by have q1 := (ck_in hk111).2.2; have q2 : cntS 85 = 40 := rfl; omega
        refine r_aald C hR 84 0 85 0 6 (lv0 (by decide) (by decide)) (by decide) rfl rfl rfl (fun _ => rfl) rfl hk111 dX9_blink_69 ?_
        refine lv_iconst (v := 0) hx hb dX9_blink_70 (by decide) ?_
        refine lv_iload_n hx hb dX9_blink_71 rfl (lv_at hl 1 rfl) ?_
        obtain ⟨k112, hk112, h⟩ := ob h
        refine r_ast C hR hS 85 k111 (lv0 hLk111 (by decide)) (by decide) rfl (fun _ _ => rfl) rfl hk112 dX9_blink_72 (fun H locs hR hS => ?_)
        obtain ⟨u113, eu113⟩ : ∃ z : HS, z = wI u108 85 k111 k112 x1 := ⟨_, rfl⟩
        rw [← eu113] at hR
        replace h := bd_x eu113 h
        clear eu113
        refine lv_aload_n hx hb dX9_blink_73 rfl (lv_at hl 0 rfl) ?_
        refine r_get C hR 9 0 35 (v := .ref (a 84 0)) (lv0 (by decide) (by decide)) (by decide) (by decide) rfl fl_X9_67 dX9_blink_74 ?_
        refine lv_aload_n hx hb dX9_blink_77 rfl (lv_at hl 0 rfl) ?_
        refine r_get C hR 9 0 30 (v := .int (gI u113 9 0 30)) (lv0 (by decide) (by decide)) (by decide) (by decide) rfl fl_X9_301 dX9_blink_78 ?_
        obtain ⟨k114, hk114, h⟩ := ob h
        have hLk114 : k114 < cntS 85 := by have q1 := (ck_in hk114).2.2; have q2 : cntS 85 = 40 := rfl; omega
        refine r_aald C hR 84 0 85 0 6 (lv0 (by decide) (by decide)) (by decide) rfl rfl rfl (fun _ => rfl) rfl hk114 dX9_blink_81 ?_
        refine lv_iconst (v := 1) hx hb dX9_blink_82 (by decide) ?_
        refine lv_iload_n hx hb dX9_blink_83 rfl (lv_at hl 2 rfl) ?_
        obtain ⟨k115, hk115, h⟩ := ob h
        refine r_ast C hR hS 85 k114 (lv0 hLk114 (by decide)) (by decide) rfl (fun _ _ => rfl) rfl hk115 dX9_blink_84 (fun H locs hR hS => ?_)
        obtain ⟨u116, eu116⟩ : ∃ z : HS, z = wI u113 85 k114 k115 x2 := ⟨_, rfl⟩
        rw [← eu116] at hR
        replace h := bd_x eu116 h
        clear eu116
        refine lv_aload_n hx hb dX9_blink_85 rfl (lv_at hl 0 rfl) ?_
        refine r_get C hR 9 0 35 (v := .ref (a 84 0)) (lv0 (by decide) (by decide)) (by decide) (by decide) rfl fl_X9_67 dX9_blink_86 ?_
        refine lv_aload_n hx hb dX9_blink_89 rfl (lv_at hl 0 rfl) ?_
        refine r_get C hR 9 0 30 (v := .int (gI u116 9 0 30)) (lv0 (by decide) (by decide)) (by decide) (by decide) rfl fl_X9_301 dX9_blink_90 ?_
        obtain ⟨k117, hk117, h⟩ := ob h
        have hLk117 : k117 < cntS 85 := by have q1 := (ck_in hk117).2.2; have q2 : cntS 85 = 40 := rfl; omega
        refine r_aald C hR 84 0 85 0 6 (lv0 (by decide) (by decide)) (by decide) rfl rfl rfl (fun _ => rfl) rfl hk117 dX9_blink_93 ?_
        refine lv_iconst (v := 2) hx hb dX9_blink_94 (by decide) ?_
        refine lv_iload_n hx hb dX9_blink_95 rfl (lv_at hl 3 rfl) ?_
        obtain ⟨k118, hk118, h⟩ := ob h
        refine r_ast C hR hS 85 k117 (lv0 hLk117 (by decide)) (by decide) rfl (fun _ _ => rfl) rfl hk118 dX9_blink_96 (fun H locs hR hS => ?_)
        obtain ⟨u119, eu119⟩ : ∃ z : HS, z = wI u116 85 k117 k118 x3 := ⟨_, rfl⟩
        rw [← eu119] at hR
        replace h := bd_x eu119 h
        clear eu119
        refine lv_aload_n hx hb dX9_blink_97 rfl (lv_at hl 0 rfl) ?_
        refine lv_dup hx hb dX9_blink_98 rfl ?_
        refine r_get C hR 9 0 30 (v := .int (gI u119 9 0 30)) (lv0 (by decide) (by decide)) (by decide) (by decide) rfl fl_X9_301 dX9_blink_99 ?_
        refine lv_iconst (v := 1) hx hb dX9_blink_102 (by decide) ?_
        refine lv_iadd hx hb dX9_blink_103 ?_
        refine r_putI (ty := .int) C hR hS 9 0 30 (lv0 (by decide) (by decide)) (by decide) (by decide) (fun _ => rfl) fl_X9_301 (by decide) (by decide +kernel) rfl rfl dX9_blink_104 (fun H locs hR hS => ?_)
        obtain ⟨u120, eu120⟩ : ∃ z : HS, z = wI u119 9 0 30 ((gI u119 9 0 30) + 1) := ⟨_, rfl⟩
        rw [← eu120] at hR
        replace h := bd_x eu120 h
        clear eu120
        refine lv_aload_n hx hb dX9_blink_107 rfl (lv_at hl 0 rfl) ?_
        refine r_get C hR 9 0 30 (v := .int (gI u120 9 0 30)) (lv0 (by decide) (by decide)) (by decide) (by decide) rfl fl_X9_301 dX9_blink_108 ?_
        cases h
        exact e_iret C hr hR hS (Nat.le_of_ble_eq_true rfl) (Nat.le_of_ble_eq_true rfl) dX9_blink_111
      · rw [if_pos c_110] at h
        refine lv_iconst (v := (-1)) hx hb dX9_blink_59 (by decide) ?_
        cases h
        exact e_iret C hr hR hS (Nat.le_of_ble_eq_true rfl) (Nat.le_of_ble_eq_true rfl) dX9_blink_60
    · rw [if_neg c_109] at h
      refine lv_iconst (v := 0) hx hb dX9_blink_48 (by decide) ?_
      cases h
      exact e_iret C hr hR hS (Nat.le_of_ble_eq_true rfl) (Nat.le_of_ble_eq_true rfl) dX9_blink_49
  clear h
  have h := hz
  clear hz
  refine jp_cut h (fun j121 hj121 h => ?_)
  have Kj121 : ∀  (H : Heap) (locs : List Loc) (ls : Array Slot), j121 = some x104 → Rel E a u101 H → va_S (AE E) s.heap H locs → lv_has ls 4 [(0, .ref (a 9 0)), (1, .int x1), (2, .int x2), (3, .int x3)] → W p l e { frames := 2, cells := 0, slots := 0, locals := 43 } s m args below meth c H locs 0 0 (MQ below (QW E a (some (.int out.1)) out.2) args s 0 0 (AE E)) (F0 m 36 ls [.ref (a 9 0)]) := by
    intro  H locs ls h hR hS hl
    replace h := jx0 hj121 h
    refine lv_iconst (v := 1) hx hb dX9_blink_36 (by decide) ?_
    refine lv_goto (tgt := 41) hx hb dX9_blink_37 (by decide) ?_
    cases h
    exact Kj105 _ _ _ hR hS (lv_sub hl [0, 1, 2, 3] rfl)
  refine lv_if_eq (tgt := 36) hx hb dX9_blink_11 (by decide) (fun c_122 => ?_) (fun c_122 => ?_)
  · rw [if_pos c_122] at h
    exact Kj121  _ _ _ h hR hS (lv_sub hl [0, 1, 2, 3] rfl)
  · rw [if_neg c_122] at h
    refine lv_iload_n hx hb dX9_blink_14 rfl (lv_at hl 2 rfl) ?_
    refine lv_iconst (v := 0) hx hb dX9_blink_15 (by decide) ?_
    refine lv_sipush (v := 299) hx hb dX9_blink_16 (by decide) ?_
    obtain ⟨x124, hc123, h⟩ := ob h
    refine r_callS1 (As := [.int x2, .int 0, .int 299]) (rest := [.ref (a 9 0)]) C (vX9_in hc123) hR hS ml_X9_113 ms_X9_in rfl ⟨Nat.le_of_ble_eq_true rfl, Nat.le_of_ble_eq_true rfl, Nat.le_of_ble_eq_true rfl, Nat.le_of_ble_eq_true rfl⟩ hl.1 rfl (Nat.le_of_ble_eq_true rfl) dX9_blink_19 (fun H locs hR hS => ?_)
    refine lv_if_eq (tgt := 36) hx hb dX9_blink_22 (by decide) (fun c_125 => ?_) (fun c_125 => ?_)
    · rw [if_pos c_125] at h
      exact Kj121  _ _ _ h hR hS (lv_sub hl [0, 1, 2, 3] rfl)
    · rw [if_neg c_125] at h
      refine lv_iload_n hx hb dX9_blink_25 rfl (lv_at hl 3 rfl) ?_
      refine lv_iload_n hx hb dX9_blink_26 rfl (lv_at hl 2 rfl) ?_
      refine lv_sipush (v := 299) hx hb dX9_blink_27 (by decide) ?_
      obtain ⟨x127, hc126, h⟩ := ob h
      refine r_callS1 (As := [.int x3, .int x2, .int 299]) (rest := [.ref (a 9 0)]) C (vX9_in hc126) hR hS ml_X9_113 ms_X9_in rfl ⟨Nat.le_of_ble_eq_true rfl, Nat.le_of_ble_eq_true rfl, Nat.le_of_ble_eq_true rfl, Nat.le_of_ble_eq_true rfl⟩ hl.1 rfl (Nat.le_of_ble_eq_true rfl) dX9_blink_30 (fun H locs hR hS => ?_)
      refine lv_if_ne (tgt := 40) hx hb dX9_blink_33 (by decide) (fun c_128 => ?_) (fun c_128 => ?_)
      · rw [if_neg c_128] at h
        refine lv_iconst (v := 0) hx hb dX9_blink_40 (by decide) ?_
        cases h
        exact Kj105 _ _ _ hR hS (lv_sub hl [0, 1, 2, 3] rfl)
      · rw [if_pos c_128] at h
        exact Kj121  _ _ _ h hR hS (lv_sub hl [0, 1, 2, 3] rfl)
set_option maxHeartbeats 4000000 in
set_option maxRecDepth 100000 in
theorem vX9_isShut {l : Launch} {E : EV} {a : Nat → Nat → Nat} {u0 : HS} {x1 : Int32} {x2 : Int32} {out : Int32} (h : mX9_isShut u0 x1 x2 = some out) : Ct l E yX9_isShut cX9_isShut 4 (some .boolean) 1 22 0 0 a u0 [.ref (a 9 0), .int x1, .int x2] (some (.int out)) u0 := by
  refine Ct.start (by decide) (Nat.le_of_ble_eq_true rfl) ?_
  intro p e s m args below meth c ls C hr hR hS hl
  have C : Cx E p s m args meth c cX9_isShut 4 RX9 := C
  have hl : lv_has ls 4 [(0, .ref (a 9 0)), (1, .int x1), (2, .int x2)] := hl
  have hx := C.1
  have hb := C.2.1
  unfold mX9_isShut at h
  refine lv_iconst (v := 0) hx hb dX9_isShut_0 (by decide) ?_
  refine lv_istore_n (lv' := [(3, .int 0), (0, .ref (a 9 0)), (1, .int x1), (2, .int x2)]) hx hb dX9_isShut_1 rfl hl (by decide) rfl (fun ls hl => ?_)
  refine jp_cut h (fun w102 hw102 h => ?_)
  have Kw102 : ∀  (H : Heap) (locs : List Loc) (ls : Array Slot), w102 = some out → Rel E a u0 H → va_S (AE E) s.heap H locs → lv_has ls 4 [] → W p l e { frames := 1, cells := 0, slots := 0, locals := 22 } s m args below meth c H locs 0 0 (MQ below (QW E a (some (.int out)) u0) args s 0 0 (AE E)) (F0 m 53 ls []) := by
    intro  H locs ls h hR hS hl
    replace h := jx0 hw102 h
    refine lv_iconst (v := 0) hx hb dX9_isShut_53 (by decide) ?_
    cases h
    exact e_zret (v := 0) C hr rfl hR hS (Nat.le_of_ble_eq_true rfl) (Nat.le_of_ble_eq_true rfl) dX9_isShut_54
  have LP : ∀ (fu : Nat) (x101 : Int32) (H : Heap) (locs : List Loc) (ls : Array Slot), mX9_isShut_L2 u0 x1 x2 w102 fu x101 = some out → Rel E a u0 H → va_S (AE E) s.heap H locs → lv_has ls 4 [(0, .ref (a 9 0)), (1, .int x1), (2, .int x2), (3, .int x101)] → W p l e { frames := 1, cells := 0, slots := 0, locals := 22 } s m args below meth c H locs 0 0 (MQ below (QW E a (some (.int out)) u0) args s 0 0 (AE E)) (F0 m 2 ls []) := by
    intro fu
    induction fu with
    | zero =>
      intro x101 H locs ls h
      have h2 : (none : Option Int32) = some out := h
      cases h2
    | succ fu ih =>
      intro x101 H locs ls h hR hS hl
      rw [mX9_isShut_L2.eq_2] at h
      refine lv_iload_n hx hb dX9_isShut_2 rfl (lv_at hl 3 rfl) ?_
      refine lv_aload_n hx hb dX9_isShut_3 rfl (lv_at hl 0 rfl) ?_
      refine r_get C hR 9 0 30 (v := .int (gI u0 9 0 30)) (lv0 (by decide) (by decide)) (by decide) (by decide) rfl fl_X9_301 dX9_isShut_4 ?_
      refine lv_icmp_ge (tgt := 53) hx hb dX9_isShut_7 (by decide) (fun c_103 => ?_) (fun c_103 => ?_)
      · rw [if_pos c_103] at h
        exact Kw102  _ _ _ h hR hS (lv_sub hl [] rfl)
      · rw [if_neg c_103] at h
        refine lv_aload_n hx hb dX9_isShut_10 rfl (lv_at hl 0 rfl) ?_
        refine r_get C hR 9 0 35 (v := .ref (a 84 0)) (lv0 (by decide) (by decide)) (by decide) (by decide) rfl fl_X9_67 dX9_isShut_11 ?_
        refine lv_iload_n hx hb dX9_isShut_14 rfl (lv_at hl 3 rfl) ?_
        obtain ⟨k104, hk104, h⟩ := ob h
        have hLk104 : k104 < cntS 85 := by have q1 := (ck_in hk104).2.2; have q2 : cntS 85 = 40 := rfl; omega
        refine r_aald C hR 84 0 85 0 6 (lv0 (by decide) (by decide)) (by decide) rfl rfl rfl (fun _ => rfl) rfl hk104 dX9_isShut_15 ?_
        refine lv_iconst (v := 0) hx hb dX9_isShut_16 (by decide) ?_
        obtain ⟨k105, hk105, h⟩ := ob h
        refine r_ald C hR 85 k104 (lv0 hLk104 (by decide)) (by decide) rfl (fun _ => rfl) rfl hk105 dX9_isShut_17 ?_
        refine lv_iload_n hx hb dX9_isShut_18 rfl (lv_at hl 1 rfl) ?_
        refine jp_cut h (fun j106 hj106 h => ?_)
        have Kj106 : ∀  (H : Heap) (locs : List Loc) (ls : Array Slot), j106 = some out → Rel E a u0 H → va_S (AE E) s.heap H locs → lv_has ls 4 [(0, .ref (a 9 0)), (1, .int x1), (2, .int x2), (3, .int x101)] → W p l e { frames := 1, cells := 0, slots := 0, locals := 22 } s m args below meth c H locs 0 0 (MQ below (QW E a (some (.int out)) u0) args s 0 0 (AE E)) (F0 m 47 ls []) := by
          intro  H locs ls h hR hS hl
          replace h := jx0 hj106 h
          obtain ⟨x107, ex107⟩ : ∃ z : Int32, z = x101 + 1 := ⟨_, rfl⟩
          replace h := bd_x ex107 h
          refine lv_iinc (v := x107) (lv' := [(3, .int x107), (0, .ref (a 9 0)), (1, .int x1), (2, .int x2)]) hx hb dX9_isShut_47 hl (k := 3) rfl (by rw [ex107]; rfl) (by decide) rfl (fun ls hl => ?_)
          refine lv_goto (tgt := 2) hx hb dX9_isShut_50 (by decide) ?_
          exact ih _ _ _ _ h hR hS (lv_sub hl [1, 2, 3, 0] rfl)
        refine lv_icmp_ne (tgt := 47) hx hb dX9_isShut_19 (by decide) (fun c_108 => ?_) (fun c_108 => ?_)
        · rw [if_neg c_108] at h
          exact Kj106  _ _ _ h hR hS (lv_sub hl [0, 1, 2, 3] rfl)
        · rw [if_pos c_108] at h
          refine lv_iload_n hx hb dX9_isShut_22 rfl (lv_at hl 2 rfl) ?_
          refine lv_aload_n hx hb dX9_isShut_23 rfl (lv_at hl 0 rfl) ?_
          refine r_get C hR 9 0 35 (v := .ref (a 84 0)) (lv0 (by decide) (by decide)) (by decide) (by decide) rfl fl_X9_67 dX9_isShut_24 ?_
          refine lv_iload_n hx hb dX9_isShut_27 rfl (lv_at hl 3 rfl) ?_
          obtain ⟨k109, hk109, h⟩ := ob h
          have hLk109 : k109 < cntS 85 := by have q1 := (ck_in hk109).2.2; have q2 : cntS 85 = 40 := rfl; omega
          refine r_aald C hR 84 0 85 0 6 (lv0 (by decide) (by decide)) (by decide) rfl rfl rfl (fun _ => rfl) rfl hk109 dX9_isShut_28 ?_
          refine lv_iconst (v := 1) hx hb dX9_isShut_29 (by decide) ?_
          obtain ⟨k110, hk110, h⟩ := ob h
          refine r_ald C hR 85 k109 (lv0 hLk109 (by decide)) (by decide) rfl (fun _ => rfl) rfl hk110 dX9_isShut_30 ?_
          refine lv_aload_n hx hb dX9_isShut_31 rfl (lv_at hl 0 rfl) ?_
          refine r_get C hR 9 0 35 (v := .ref (a 84 0)) (lv0 (by decide) (by decide)) (by decide) (by decide) rfl fl_X9_67 dX9_isShut_32 ?_
          refine lv_iload_n hx hb dX9_isShut_35 rfl (lv_at hl 3 rfl) ?_
          obtain ⟨k111, hk111, h⟩ := ob h
          have hLk111 : k111 < cntS 85 := by have q1 := (ck_in hk111).2.2; have q2 : cntS 85 = 40 := rfl; omega
          refine r_aald C hR 84 0 85 0 6 (lv0 (by decide) (by decide)) (by decide) rfl rfl rfl (fun _ => rfl) rfl hk111 dX9_isShut_36 ?_
          refine lv_iconst (v := 2) hx hb dX9_isShut_37 (by decide) ?_
          obtain ⟨k112, hk112, h⟩ := ob h
          refine r_ald C hR 85 k111 (lv0 hLk111 (by decide)) (by decide) rfl (fun _ => rfl) rfl hk112 dX9_isShut_38 ?_
          obtain ⟨x114, hc113, h⟩ := ob h
          refine r_callS1 (As := [.int x2, .int (gI u0 85 k109 k110), .int (gI u0 85 k111 k112)]) (rest := []) C (vX9_in hc113) hR hS ml_X9_113 ms_X9_in rfl ⟨Nat.le_of_ble_eq_true rfl, Nat.le_of_ble_eq_true rfl, Nat.le_of_ble_eq_true rfl, Nat.le_of_ble_eq_true rfl⟩ hl.1 rfl (Nat.le_of_ble_eq_true rfl) dX9_isShut_39 (fun H locs hR hS => ?_)
          refine lv_if_eq (tgt := 47) hx hb dX9_isShut_42 (by decide) (fun c_115 => ?_) (fun c_115 => ?_)
          · rw [if_pos c_115] at h
            exact Kj106  _ _ _ h hR hS (lv_sub hl [0, 1, 2, 3] rfl)
          · rw [if_neg c_115] at h
            refine lv_iconst (v := 1) hx hb dX9_isShut_45 (by decide) ?_
            cases h
            exact e_zret (v := 1) C hr rfl hR hS (Nat.le_of_ble_eq_true rfl) (Nat.le_of_ble_eq_true rfl) dX9_isShut_46
  exact LP FU _ _ _ _ h hR hS (lv_sub hl [1, 2, 3, 0] rfl)
set_option maxHeartbeats 4000000 in
set_option maxRecDepth 100000 in
theorem vX9_looks {l : Launch} {E : EV} {a : Nat → Nat → Nat} {u0 : HS} {x1 : Int32} {x2 : Int32} {out : Int32} (h : mX9_looks u0 x1 x2 = some out) : Ct l E yX9_looks cX9_looks 7 (some .int) 3 73 0 0 a u0 [.ref (a 9 0), .int x1, .int x2] (some (.int out)) u0 := by
  refine Ct.start (by decide) (Nat.le_of_ble_eq_true rfl) ?_
  intro p e s m args below meth c ls C hr hR hS hl
  have C : Cx E p s m args meth c cX9_looks 7 RX9 := C
  have hl : lv_has ls 7 [(0, .ref (a 9 0)), (1, .int x1), (2, .int x2)] := hl
  have hx := C.1
  have hb := C.2.1
  unfold mX9_looks at h
  refine lv_iconst (v := (-1)) hx hb dX9_looks_0 (by decide) ?_
  refine lv_istore_n (lv' := [(3, .int (-1)), (0, .ref (a 9 0)), (1, .int x1), (2, .int x2)]) hx hb dX9_looks_1 rfl hl (by decide) rfl (fun ls hl => ?_)
  refine lv_aload_n hx hb dX9_looks_2 rfl (lv_at hl 1 rfl) ?_
  refine r_get C hR 9 0 33 (v := .ref (a 80 0)) (lv0 (by decide) (by decide)) (by decide) (by decide) rfl fl_X9_61 dX9_looks_3 ?_
  refine lv_iload_n hx hb dX9_looks_6 rfl (lv_at hl 2 rfl) ?_
  obtain ⟨k101, hk101, h⟩ := ob h
  have hLk101 : k101 < cntS 81 := by have q1 := (ck_in hk101).2.2; have q2 : cntS 81 = 15 := rfl; omega
  refine r_aald C hR 80 0 81 0 6 (lv0 (by decide) (by decide)) (by decide) rfl rfl rfl (fun _ => rfl) rfl hk101 dX9_looks_7 ?_
  refine lv_iconst (v := 0) hx hb dX9_looks_8 (by decide) ?_
  obtain ⟨k102, hk102, h⟩ := ob h
  refine r_ald C hR 81 k101 (lv0 hLk101 (by decide)) (by decide) rfl (fun _ => rfl) rfl hk102 dX9_looks_9 ?_
  refine lv_topi (fun x103 ex103 => ?_)
  replace h := bd_x ex103 h
  refine lv_istore (lv' := [(4, .int x103), (3, .int (-1)), (0, .ref (a 9 0)), (1, .int x1), (2, .int x2)]) hx hb dX9_looks_10 hl (by decide) rfl (fun ls hl => ?_)
  refine lv_iconst (v := (-1)) hx hb dX9_looks_12 (by decide) ?_
  refine lv_istore (lv' := [(5, .int (-1)), (4, .int x103), (3, .int (-1)), (0, .ref (a 9 0)), (1, .int x1), (2, .int x2)]) hx hb dX9_looks_13 hl (by decide) rfl (fun ls hl => ?_)
  refine lv_iconst (v := 0) hx hb dX9_looks_15 (by decide) ?_
  refine lv_istore (lv' := [(6, .int 0), (5, .int (-1)), (4, .int x103), (3, .int (-1)), (0, .ref (a 9 0)), (1, .int x1), (2, .int x2)]) hx hb dX9_looks_16 hl (by decide) rfl (fun ls hl => ?_)
  refine jp_cut h (fun w107 hw107 h => ?_)
  have Kw107 : ∀ (x106 : Int32) (H : Heap) (locs : List Loc) (ls : Array Slot), w107 x106 = some out → Rel E a u0 H → va_S (AE E) s.heap H locs → lv_has ls 7 [(0, .ref (a 9 0)), (1, .int x1), (2, .int x2), (3, .int x106), (4, .int x103), (5, .int (-1))] → W p l e { frames := 3, cells := 0, slots := 0, locals := 73 } s m args below meth c H locs 0 0 (MQ below (QW E a (some (.int out)) u0) args s 0 0 (AE E)) (F0 m 87 ls []) := by
    intro x106 H locs ls h hR hS hl
    replace h := jx1 hw107 h
    refine lv_iload_n hx hb dX9_looks_87 rfl (lv_at hl 3 rfl) ?_
    refine lv_iconst (v := (-1)) hx hb dX9_looks_88 (by decide) ?_
    refine lv_icmp_eq (tgt := 113) hx hb dX9_looks_89 (by decide) (fun c_108 => ?_) (fun c_108 => ?_)
    · rw [if_pos c_108] at h
      refine lv_bipush (v := 24) hx hb dX9_looks_113 (by decide) ?_
      refine lv_iload hx hb dX9_looks_115 (lv_at hl 4 rfl) ?_
      refine lv_imul hx hb dX9_looks_117 ?_
      refine lv_topi (fun x109 ex109 => ?_)
      replace h := bd_x ex109 h
      refine lv_istore (lv' := [(6, .int x109), (0, .ref (a 9 0)), (1, .int x1), (2, .int x2), (3, .int x106), (4, .int x103), (5, .int (-1))]) hx hb dX9_looks_118 hl (by decide) rfl (fun ls hl => ?_)
      refine jp_cut h (fun w113 hw113 h => ?_)
      have Kw113 : ∀ (x112 : Int32) (H : Heap) (locs : List Loc) (ls : Array Slot), w113 x112 = some out → Rel E a u0 H → va_S (AE E) s.heap H locs → lv_has ls 7 [(0, .ref (a 9 0)), (2, .int x2), (4, .int x103), (5, .int x112)] → W p l e { frames := 3, cells := 0, slots := 0, locals := 73 } s m args below meth c H locs 0 0 (MQ below (QW E a (some (.int out)) u0) args s 0 0 (AE E)) (F0 m 212 ls []) := by
        intro x112 H locs ls h hR hS hl
        replace h := jx1 hw113 h
        refine lv_iload hx hb dX9_looks_212 (lv_at hl 3 rfl) ?_
        refine lv_iconst (v := (-1)) hx hb dX9_looks_214 (by decide) ?_
        refine jp_cut h (fun j114 hj114 h => ?_)
        have Kj114 : ∀  (H : Heap) (locs : List Loc) (ls : Array Slot), j114 = some out → Rel E a u0 H → va_S (AE E) s.heap H locs → lv_has ls 7 [] → W p l e { frames := 3, cells := 0, slots := 0, locals := 73 } s m args below meth c H locs 0 0 (MQ below (QW E a (some (.int out)) u0) args s 0 0 (AE E)) (F0 m 237 ls []) := by
          intro  H locs ls h hR hS hl
          replace h := jx0 hj114 h
          refine lv_sipush (v := 2015) hx hb dX9_looks_237 (by decide) ?_
          cases h
          exact e_iret C hr hR hS (Nat.le_of_ble_eq_true rfl) (Nat.le_of_ble_eq_true rfl) dX9_looks_240
        refine lv_icmp_eq (tgt := 237) hx hb dX9_looks_215 (by decide) (fun c_115 => ?_) (fun c_115 => ?_)
        · rw [if_pos c_115] at h
          exact Kj114  _ _ _ h hR hS (lv_sub hl [] rfl)
        · rw [if_neg c_115] at h
          refine lv_aload_n hx hb dX9_looks_218 rfl (lv_at hl 0 rfl) ?_
          refine lv_iload hx hb dX9_looks_219 (lv_at hl 2 rfl) ?_
          refine lv_aload_n hx hb dX9_looks_221 rfl (lv_at hl 0 rfl) ?_
          refine r_get C hR 9 0 17 (v := .ref (a 64 0)) (lv0 (by decide) (by decide)) (by decide) (by decide) rfl fl_X9_25 dX9_looks_222 ?_
          refine lv_iload hx hb dX9_looks_225 (lv_at hl 3 rfl) ?_
          obtain ⟨k116, hk116, h⟩ := ob h
          have hLk116 : k116 < cntS 65 := by have q1 := (ck_in hk116).2.2; have q2 : cntS 65 = 144 := rfl; omega
          refine r_aald C hR 64 0 65 0 6 (lv0 (by decide) (by decide)) (by decide) rfl rfl rfl (fun _ => rfl) rfl hk116 dX9_looks_227 ?_
          refine lv_iconst (v := 2) hx hb dX9_looks_228 (by decide) ?_
          obtain ⟨k117, hk117, h⟩ := ob h
          refine r_ald C hR 65 k116 (lv0 hLk116 (by decide)) (by decide) rfl (fun _ => rfl) rfl hk117 dX9_looks_229 ?_
          refine lv_iload_n hx hb dX9_looks_230 rfl (lv_at hl 1 rfl) ?_
          obtain ⟨x119, hc118, h⟩ := ob h
          refine r_callV1 (As := [.int x103, .int (gI u0 65 k116 k117), .int x2]) (rest := []) (r := 9) (i := 0) C (vX9_isThere hc118) hR hS (lv0 (by decide) (by decide)) (by decide) ml_X9_241 mw_X9_isThere rfl ⟨Nat.le_of_ble_eq_true rfl, Nat.le_of_ble_eq_true rfl, Nat.le_of_ble_eq_true rfl, Nat.le_of_ble_eq_true rfl⟩ hl.1 rfl (Nat.le_of_ble_eq_true rfl) dX9_looks_231 (fun H locs hR hS => ?_)
          refine lv_if_ne (tgt := 241) hx hb dX9_looks_234 (by decide) (fun c_120 => ?_) (fun c_120 => ?_)
          · rw [if_neg c_120] at h
            refine lv_bipush (v := 100) hx hb dX9_looks_241 (by decide) ?_
            refine lv_aload_n hx hb dX9_looks_243 rfl (lv_at hl 0 rfl) ?_
            refine lv_iload hx hb dX9_looks_244 (lv_at hl 2 rfl) ?_
            refine lv_aload_n hx hb dX9_looks_246 rfl (lv_at hl 0 rfl) ?_
            refine r_get C hR 9 0 17 (v := .ref (a 64 0)) (lv0 (by decide) (by decide)) (by decide) (by decide) rfl fl_X9_25 dX9_looks_247 ?_
            refine lv_iload hx hb dX9_looks_250 (lv_at hl 3 rfl) ?_
            obtain ⟨k121, hk121, h⟩ := ob h
            have hLk121 : k121 < cntS 65 := by have q1 := (ck_in hk121).2.2; have q2 : cntS 65 = 144 := rfl; omega
            refine r_aald C hR 64 0 65 0 6 (lv0 (by decide) (by decide)) (by decide) rfl rfl rfl (fun _ => rfl) rfl hk121 dX9_looks_252 ?_
            refine lv_iconst (v := 2) hx hb dX9_looks_253 (by decide) ?_
            obtain ⟨k122, hk122, h⟩ := ob h
            refine r_ald C hR 65 k121 (lv0 hLk121 (by decide)) (by decide) rfl (fun _ => rfl) rfl hk122 dX9_looks_254 ?_
            refine lv_iload_n hx hb dX9_looks_255 rfl (lv_at hl 1 rfl) ?_
            refine lv_iconst (v := 0) hx hb dX9_looks_256 (by decide) ?_
            obtain ⟨x124, hc123, h⟩ := ob h
            refine r_callV1 (As := [.int x103, .int (gI u0 65 k121 k122), .int x2, .int 0]) (rest := [.int 100]) (r := 9) (i := 0) C (vX9_placeOf hc123) hR hS (lv0 (by decide) (by decide)) (by decide) ml_X9_244 mw_X9_placeOf rfl ⟨Nat.le_of_ble_eq_true rfl, Nat.le_of_ble_eq_true rfl, Nat.le_of_ble_eq_true rfl, Nat.le_of_ble_eq_true rfl⟩ hl.1 rfl (Nat.le_of_ble_eq_true rfl) dX9_looks_257 (fun H locs hR hS => ?_)
            refine lv_imul hx hb dX9_looks_260 ?_
            refine lv_aload_n hx hb dX9_looks_261 rfl (lv_at hl 0 rfl) ?_
            refine lv_iload hx hb dX9_looks_262 (lv_at hl 2 rfl) ?_
            refine lv_aload_n hx hb dX9_looks_264 rfl (lv_at hl 0 rfl) ?_
            refine r_get C hR 9 0 17 (v := .ref (a 64 0)) (lv0 (by decide) (by decide)) (by decide) (by decide) rfl fl_X9_25 dX9_looks_265 ?_
            refine lv_iload hx hb dX9_looks_268 (lv_at hl 3 rfl) ?_
            obtain ⟨k125, hk125, h⟩ := ob h
            have hLk125 : k125 < cntS 65 := by have q1 := (ck_in hk125).2.2; have q2 : cntS 65 = 144 := rfl; omega
            refine r_aald C hR 64 0 65 0 6 (lv0 (by decide) (by decide)) (by decide) rfl rfl rfl (fun _ => rfl) rfl hk125 dX9_looks_270 ?_
            refine lv_iconst (v := 2) hx hb dX9_looks_271 (by decide) ?_
            obtain ⟨k126, hk126, h⟩ := ob h
            refine r_ald C hR 65 k125 (lv0 hLk125 (by decide)) (by decide) rfl (fun _ => rfl) rfl hk126 dX9_looks_272 ?_
            refine lv_iload_n hx hb dX9_looks_273 rfl (lv_at hl 1 rfl) ?_
            refine lv_iconst (v := 1) hx hb dX9_looks_274 (by decide) ?_
            obtain ⟨x128, hc127, h⟩ := ob h
            refine r_callV1 (As := [.int x103, .int (gI u0 65 k125 k126), .int x2, .int 1]) (rest := [.int (100 * x124)]) (r := 9) (i := 0) C (vX9_placeOf hc127) hR hS (lv0 (by decide) (by decide)) (by decide) ml_X9_244 mw_X9_placeOf rfl ⟨Nat.le_of_ble_eq_true rfl, Nat.le_of_ble_eq_true rfl, Nat.le_of_ble_eq_true rfl, Nat.le_of_ble_eq_true rfl⟩ hl.1 rfl (Nat.le_of_ble_eq_true rfl) dX9_looks_275 (fun H locs hR hS => ?_)
            refine lv_iadd hx hb dX9_looks_278 ?_
            cases h
            exact e_iret C hr hR hS (Nat.le_of_ble_eq_true rfl) (Nat.le_of_ble_eq_true rfl) dX9_looks_279
          · rw [if_pos c_120] at h
            exact Kj114  _ _ _ h hR hS (lv_sub hl [] rfl)
      have LP : ∀ (fu : Nat) (x110 : Int32) (x111 : Int32) (H : Heap) (locs : List Loc) (ls : Array Slot), mX9_looks_L120 x103 u0 x1 x2 w113 fu x110 x111 = some out → Rel E a u0 H → va_S (AE E) s.heap H locs → lv_has ls 7 [(0, .ref (a 9 0)), (1, .int x1), (2, .int x2), (4, .int x103), (5, .int x110), (6, .int x111)] → W p l e { frames := 3, cells := 0, slots := 0, locals := 73 } s m args below meth c H locs 0 0 (MQ below (QW E a (some (.int out)) u0) args s 0 0 (AE E)) (F0 m 120 ls []) := by
        intro fu
        induction fu with
        | zero =>
          intro x110 x111 H locs ls h
          have h2 : (none : Option Int32) = some out := h
          cases h2
        | succ fu ih =>
          intro x110 x111 H locs ls h hR hS hl
          rw [mX9_looks_L120.eq_2] at h
          refine lv_iload hx hb dX9_looks_120 (lv_at hl 5 rfl) ?_
          refine lv_bipush (v := 24) hx hb dX9_looks_122 (by decide) ?_
          refine lv_iload hx hb dX9_looks_124 (lv_at hl 3 rfl) ?_
          refine lv_imul hx hb dX9_looks_126 ?_
          refine lv_aload_n hx hb dX9_looks_127 rfl (lv_at hl 0 rfl) ?_
          refine r_get C hR 9 0 18 (v := .ref (a 66 0)) (lv0 (by decide) (by decide)) (by decide) (by decide) rfl fl_X9_28 dX9_looks_128 ?_
          refine lv_iload hx hb dX9_looks_131 (lv_at hl 3 rfl) ?_
          obtain ⟨k129, hk129, h⟩ := ob h
          refine r_ald C hR 66 0 (lv0 (by decide) (by decide)) (by decide) rfl (fun _ => rfl) rfl hk129 dX9_looks_133 ?_
          refine lv_iadd hx hb dX9_looks_134 ?_
          refine lv_icmp_ge (tgt := 212) hx hb dX9_looks_135 (by decide) (fun c_130 => ?_) (fun c_130 => ?_)
          · rw [if_pos c_130] at h
            exact Kw113 _ _ _ _ h hR hS (lv_sub hl [0, 2, 3, 4] rfl)
          · rw [if_neg c_130] at h
            refine lv_aload_n hx hb dX9_looks_138 rfl (lv_at hl 0 rfl) ?_
            refine lv_iload hx hb dX9_looks_139 (lv_at hl 3 rfl) ?_
            refine lv_aload_n hx hb dX9_looks_141 rfl (lv_at hl 0 rfl) ?_
            refine r_get C hR 9 0 33 (v := .ref (a 80 0)) (lv0 (by decide) (by decide)) (by decide) (by decide) rfl fl_X9_61 dX9_looks_142 ?_
            refine lv_iload_n hx hb dX9_looks_145 rfl (lv_at hl 1 rfl) ?_
            obtain ⟨k131, hk131, h⟩ := ob h
            have hLk131 : k131 < cntS 81 := by have q1 := (ck_in hk131).2.2; have q2 : cntS 81 = 15 := rfl; omega
            refine r_aald C hR 80 0 81 0 6 (lv0 (by decide) (by decide)) (by decide) rfl rfl rfl (fun _ => rfl) rfl hk131 dX9_looks_146 ?_
            refine lv_iconst (v := 1) hx hb dX9_looks_147 (by decide) ?_
            obtain ⟨k132, hk132, h⟩ := ob h
            refine r_ald C hR 81 k131 (lv0 hLk131 (by decide)) (by decide) rfl (fun _ => rfl) rfl hk132 dX9_looks_148 ?_
            refine lv_aload_n hx hb dX9_looks_149 rfl (lv_at hl 0 rfl) ?_
            refine r_get C hR 9 0 17 (v := .ref (a 64 0)) (lv0 (by decide) (by decide)) (by decide) (by decide) rfl fl_X9_25 dX9_looks_150 ?_
            refine lv_iload hx hb dX9_looks_153 (lv_at hl 5 rfl) ?_
            obtain ⟨k133, hk133, h⟩ := ob h
            have hLk133 : k133 < cntS 65 := by have q1 := (ck_in hk133).2.2; have q2 : cntS 65 = 144 := rfl; omega
            refine r_aald C hR 64 0 65 0 6 (lv0 (by decide) (by decide)) (by decide) rfl rfl rfl (fun _ => rfl) rfl hk133 dX9_looks_155 ?_
            obtain ⟨x135, hc134, h⟩ := ob h
            refine r_callV1 (As := [.int x103, .int (gI u0 81 k131 k132), .ref (a 65 k133)]) (rest := []) (r := 9) (i := 0) C (vX9_isCounted hLk133 hc134) hR hS (lv0 (by decide) (by decide)) (by decide) ml_X9_281 mw_X9_isCounted rfl ⟨Nat.le_of_ble_eq_true rfl, Nat.le_of_ble_eq_true rfl, Nat.le_of_ble_eq_true rfl, Nat.le_of_ble_eq_true rfl⟩ hl.1 rfl (Nat.le_of_ble_eq_true rfl) dX9_looks_156 (fun H locs hR hS => ?_)
            obtain ⟨x136, hz, h⟩ := ob h
            have Kj137 : ∀ (H : Heap) (locs : List Loc) (ls : Array Slot), Rel E a u0 H → va_S (AE E) s.heap H locs → lv_has ls 7 [(0, .ref (a 9 0)), (1, .int x1), (2, .int x2), (4, .int x103), (5, .int x136), (6, .int x111)] → W p l e { frames := 3, cells := 0, slots := 0, locals := 73 } s m args below meth c H locs 0 0 (MQ below (QW E a (some (.int out)) u0) args s 0 0 (AE E)) (F0 m 206 ls []) := by
              intro H locs ls hR hS hl
              clear hz
              obtain ⟨x138, ex138⟩ : ∃ z : Int32, z = x111 + 1 := ⟨_, rfl⟩
              replace h := bd_x ex138 h
              refine lv_iinc (v := x138) (lv' := [(6, .int x138), (0, .ref (a 9 0)), (1, .int x1), (2, .int x2), (4, .int x103), (5, .int x136)]) hx hb dX9_looks_206 hl (k := 5) rfl (by rw [ex138]; rfl) (by decide) rfl (fun ls hl => ?_)
              refine lv_goto (tgt := 120) hx hb dX9_looks_209 (by decide) ?_
              exact ih _ _ _ _ _ h hR hS (lv_sub hl [1, 2, 3, 4, 5, 0] rfl)
            clear h
            have h := hz
            clear hz
            refine lv_if_eq (tgt := 206) hx hb dX9_looks_159 (by decide) (fun c_139 => ?_) (fun c_139 => ?_)
            · rw [if_pos c_139] at h
              cases h
              exact Kj137 _ _ _ hR hS (lv_sub hl [0, 1, 2, 3, 4, 5] rfl)
            · rw [if_neg c_139] at h
              refine lv_aload_n hx hb dX9_looks_162 rfl (lv_at hl 0 rfl) ?_
              refine r_get C hR 9 0 17 (v := .ref (a 64 0)) (lv0 (by decide) (by decide)) (by decide) (by decide) rfl fl_X9_25 dX9_looks_163 ?_
              refine lv_iload hx hb dX9_looks_166 (lv_at hl 5 rfl) ?_
              obtain ⟨k140, hk140, h⟩ := ob h
              have hLk140 : k140 < cntS 65 := by have q1 := (ck_in hk140).2.2; have q2 : cntS 65 = 144 := rfl; omega
              refine r_aald C hR 64 0 65 0 6 (lv0 (by decide) (by decide)) (by decide) rfl rfl rfl (fun _ => rfl) rfl hk140 dX9_looks_168 ?_
              refine lv_iconst (v := 3) hx hb dX9_looks_169 (by decide) ?_
              obtain ⟨k141, hk141, h⟩ := ob h
              refine r_ald C hR 65 k140 (lv0 hLk140 (by decide)) (by decide) rfl (fun _ => rfl) rfl hk141 dX9_looks_170 ?_
              refine lv_iload_n hx hb dX9_looks_171 rfl (lv_at hl 2 rfl) ?_
              refine lv_icmp_gt (tgt := 206) hx hb dX9_looks_172 (by decide) (fun c_142 => ?_) (fun c_142 => ?_)
              · rw [if_pos c_142] at h
                cases h
                exact Kj137 _ _ _ hR hS (lv_sub hl [0, 1, 2, 3, 4, 5] rfl)
              · rw [if_neg c_142] at h
                refine lv_iload hx hb dX9_looks_175 (lv_at hl 4 rfl) ?_
                refine lv_iconst (v := (-1)) hx hb dX9_looks_177 (by decide) ?_
                refine jp_cut h (fun j143 hj143 h => ?_)
                have Kj143 : ∀  (H : Heap) (locs : List Loc) (ls : Array Slot), j143 = some x136 → Rel E a u0 H → va_S (AE E) s.heap H locs → lv_has ls 7 [(0, .ref (a 9 0)), (1, .int x1), (2, .int x2), (4, .int x103), (6, .int x111)] → W p l e { frames := 3, cells := 0, slots := 0, locals := 73 } s m args below meth c H locs 0 0 (MQ below (QW E a (some (.int out)) u0) args s 0 0 (AE E)) (F0 m 202 ls []) := by
                  intro  H locs ls h hR hS hl
                  replace h := jx0 hj143 h
                  refine lv_iload hx hb dX9_looks_202 (lv_at hl 4 rfl) ?_
                  refine lv_istore (lv' := [(5, .int x111), (0, .ref (a 9 0)), (1, .int x1), (2, .int x2), (4, .int x103), (6, .int x111)]) hx hb dX9_looks_204 hl (by decide) rfl (fun ls hl => ?_)
                  cases h
                  exact Kj137 _ _ _ hR hS (lv_sub hl [1, 2, 3, 4, 0, 5] rfl)
                refine lv_icmp_eq (tgt := 202) hx hb dX9_looks_178 (by decide) (fun c_144 => ?_) (fun c_144 => ?_)
                · rw [if_pos c_144] at h
                  exact Kj143  _ _ _ h hR hS (lv_sub hl [0, 1, 2, 3, 5] rfl)
                · rw [if_neg c_144] at h
                  refine lv_aload_n hx hb dX9_looks_181 rfl (lv_at hl 0 rfl) ?_
                  refine r_get C hR 9 0 17 (v := .ref (a 64 0)) (lv0 (by decide) (by decide)) (by decide) (by decide) rfl fl_X9_25 dX9_looks_182 ?_
                  refine lv_iload hx hb dX9_looks_185 (lv_at hl 5 rfl) ?_
                  obtain ⟨k145, hk145, h⟩ := ob h
                  have hLk145 : k145 < cntS 65 := by have q1 := (ck_in hk145).2.2; have q2 : cntS 65 = 144 := rfl; omega
                  refine r_aald C hR 64 0 65 0 6 (lv0 (by decide) (by decide)) (by decide) rfl rfl rfl (fun _ => rfl) rfl hk145 dX9_looks_187 ?_
                  refine lv_iconst (v := 3) hx hb dX9_looks_188 (by decide) ?_
                  obtain ⟨k146, hk146, h⟩ := ob h
                  refine r_ald C hR 65 k145 (lv0 hLk145 (by decide)) (by decide) rfl (fun _ => rfl) rfl hk146 dX9_looks_189 ?_
                  refine lv_aload_n hx hb dX9_looks_190 rfl (lv_at hl 0 rfl) ?_
                  refine r_get C hR 9 0 17 (v := .ref (a 64 0)) (lv0 (by decide) (by decide)) (by decide) (by decide) rfl fl_X9_25 dX9_looks_191 ?_
                  refine lv_iload hx hb dX9_looks_194 (lv_at hl 4 rfl) ?_
                  obtain ⟨k147, hk147, h⟩ := ob h
                  have hLk147 : k147 < cntS 65 := by have q1 := (ck_in hk147).2.2; have q2 : cntS 65 = 144 := rfl; omega
                  refine r_aald C hR 64 0 65 0 6 (lv0 (by decide) (by decide)) (by decide) rfl rfl rfl (fun _ => rfl) rfl hk147 dX9_looks_196 ?_
                  refine lv_iconst (v := 3) hx hb dX9_looks_197 (by decide) ?_
                  obtain ⟨k148, hk148, h⟩ := ob h
                  refine r_ald C hR 65 k147 (lv0 hLk147 (by decide)) (by decide) rfl (fun _ => rfl) rfl hk148 dX9_looks_198 ?_
                  refine lv_icmp_lt (tgt := 206) hx hb dX9_looks_199 (by decide) (fun c_149 => ?_) (fun c_149 => ?_)
                  · rw [if_pos c_149] at h
                    cases h
                    exact Kj137 _ _ _ hR hS (lv_sub hl [0, 1, 2, 3, 4, 5] rfl)
                  · rw [if_neg c_149] at h
                    exact Kj143  _ _ _ h hR hS (lv_sub hl [0, 1, 2, 3, 5] rfl)
      exact LP FU _ _ _ _ _ h hR hS (lv_sub hl [1, 2, 3, 5, 6, 0] rfl)
    · rw [if_neg c_108] at h
      refine lv_bipush (v := 100) hx hb dX9_looks_92 (by decide) ?_
      refine lv_aload_n hx hb dX9_looks_94 rfl (lv_at hl 0 rfl) ?_
      refine r_get C hR 9 0 34 (v := .ref (a 82 0)) (lv0 (by decide) (by decide)) (by decide) (by decide) rfl fl_X9_64 dX9_looks_95 ?_
      refine lv_iload_n hx hb dX9_looks_98 rfl (lv_at hl 3 rfl) ?_
      obtain ⟨k150, hk150, h⟩ := ob h
      have hLk150 : k150 < cntS 83 := by have q1 := (ck_in hk150).2.2; have q2 : cntS 83 = 60 := rfl; omega
      refine r_aald C hR 82 0 83 0 6 (lv0 (by decide) (by decide)) (by decide) rfl rfl rfl (fun _ => rfl) rfl hk150 dX9_looks_99 ?_
      refine lv_iconst (v := 2) hx hb dX9_looks_100 (by decide) ?_
      obtain ⟨k151, hk151, h⟩ := ob h
      refine r_ald C hR 83 k150 (lv0 hLk150 (by decide)) (by decide) rfl (fun _ => rfl) rfl hk151 dX9_looks_101 ?_
      refine lv_imul hx hb dX9_looks_102 ?_
      refine lv_aload_n hx hb dX9_looks_103 rfl (lv_at hl 0 rfl) ?_
      refine r_get C hR 9 0 34 (v := .ref (a 82 0)) (lv0 (by decide) (by decide)) (by decide) (by decide) rfl fl_X9_64 dX9_looks_104 ?_
      refine lv_iload_n hx hb dX9_looks_107 rfl (lv_at hl 3 rfl) ?_
      obtain ⟨k152, hk152, h⟩ := ob h
      have hLk152 : k152 < cntS 83 := by have q1 := (ck_in hk152).2.2; have q2 : cntS 83 = 60 := rfl; omega
      refine r_aald C hR 82 0 83 0 6 (lv0 (by decide) (by decide)) (by decide) rfl rfl rfl (fun _ => rfl) rfl hk152 dX9_looks_108 ?_
      refine lv_iconst (v := 3) hx hb dX9_looks_109 (by decide) ?_
      obtain ⟨k153, hk153, h⟩ := ob h
      refine r_ald C hR 83 k152 (lv0 hLk152 (by decide)) (by decide) rfl (fun _ => rfl) rfl hk153 dX9_looks_110 ?_
      refine lv_iadd hx hb dX9_looks_111 ?_
      cases h
      exact e_iret C hr hR hS (Nat.le_of_ble_eq_true rfl) (Nat.le_of_ble_eq_true rfl) dX9_looks_112
  have LP : ∀ (fu : Nat) (x104 : Int32) (x105 : Int32) (H : Heap) (locs : List Loc) (ls : Array Slot), mX9_looks_L18 u0 x1 x2 w107 fu x104 x105 = some out → Rel E a u0 H → va_S (AE E) s.heap H locs → lv_has ls 7 [(0, .ref (a 9 0)), (1, .int x1), (2, .int x2), (3, .int x104), (4, .int x103), (5, .int (-1)), (6, .int x105)] → W p l e { frames := 3, cells := 0, slots := 0, locals := 73 } s m args below meth c H locs 0 0 (MQ below (QW E a (some (.int out)) u0) args s 0 0 (AE E)) (F0 m 18 ls []) := by
    intro fu
    induction fu with
    | zero =>
      intro x104 x105 H locs ls h
      have h2 : (none : Option Int32) = some out := h
      cases h2
    | succ fu ih =>
      intro x104 x105 H locs ls h hR hS hl
      rw [mX9_looks_L18.eq_2] at h
      refine lv_iload hx hb dX9_looks_18 (lv_at hl 6 rfl) ?_
      refine lv_aload_n hx hb dX9_looks_20 rfl (lv_at hl 0 rfl) ?_
      refine r_get C hR 9 0 29 (v := .int (gI u0 9 0 29)) (lv0 (by decide) (by decide)) (by decide) (by decide) rfl fl_X9_298 dX9_looks_21 ?_
      refine lv_icmp_ge (tgt := 87) hx hb dX9_looks_24 (by decide) (fun c_154 => ?_) (fun c_154 => ?_)
      · rw [if_pos c_154] at h
        exact Kw107 _ _ _ _ h hR hS (lv_sub hl [0, 1, 2, 3, 4, 5] rfl)
      · rw [if_neg c_154] at h
        refine lv_aload_n hx hb dX9_looks_27 rfl (lv_at hl 0 rfl) ?_
        refine r_get C hR 9 0 34 (v := .ref (a 82 0)) (lv0 (by decide) (by decide)) (by decide) (by decide) rfl fl_X9_64 dX9_looks_28 ?_
        refine lv_iload hx hb dX9_looks_31 (lv_at hl 6 rfl) ?_
        obtain ⟨k155, hk155, h⟩ := ob h
        have hLk155 : k155 < cntS 83 := by have q1 := (ck_in hk155).2.2; have q2 : cntS 83 = 60 := rfl; omega
        refine r_aald C hR 82 0 83 0 6 (lv0 (by decide) (by decide)) (by decide) rfl rfl rfl (fun _ => rfl) rfl hk155 dX9_looks_33 ?_
        refine lv_iconst (v := 0) hx hb dX9_looks_34 (by decide) ?_
        obtain ⟨k156, hk156, h⟩ := ob h
        refine r_ald C hR 83 k155 (lv0 hLk155 (by decide)) (by decide) rfl (fun _ => rfl) rfl hk156 dX9_looks_35 ?_
        refine lv_iload_n hx hb dX9_looks_36 rfl (lv_at hl 1 rfl) ?_
        obtain ⟨x157, hz, h⟩ := ob h
        have Kj158 : ∀ (H : Heap) (locs : List Loc) (ls : Array Slot), Rel E a u0 H → va_S (AE E) s.heap H locs → lv_has ls 7 [(0, .ref (a 9 0)), (1, .int x1), (2, .int x2), (3, .int x157), (4, .int x103), (5, .int (-1)), (6, .int x105)] → W p l e { frames := 3, cells := 0, slots := 0, locals := 73 } s m args below meth c H locs 0 0 (MQ below (QW E a (some (.int out)) u0) args s 0 0 (AE E)) (F0 m 81 ls []) := by
          intro H locs ls hR hS hl
          clear hz
          obtain ⟨x159, ex159⟩ : ∃ z : Int32, z = x105 + 1 := ⟨_, rfl⟩
          replace h := bd_x ex159 h
          refine lv_iinc (v := x159) (lv' := [(6, .int x159), (0, .ref (a 9 0)), (1, .int x1), (2, .int x2), (3, .int x157), (4, .int x103), (5, .int (-1))]) hx hb dX9_looks_81 hl (k := 6) rfl (by rw [ex159]; rfl) (by decide) rfl (fun ls hl => ?_)
          refine lv_goto (tgt := 18) hx hb dX9_looks_84 (by decide) ?_
          exact ih _ _ _ _ _ h hR hS (lv_sub hl [1, 2, 3, 4, 5, 6, 0] rfl)
        clear h
        have h := hz
        clear hz
        refine lv_icmp_ne (tgt := 81) hx hb dX9_looks_37 (by decide) (fun c_160 => ?_) (fun c_160 => ?_)
        · rw [if_neg c_160] at h
          cases h
          exact Kj158 _ _ _ hR hS (lv_sub hl [0, 1, 2, 3, 4, 5, 6] rfl)
        · rw [if_pos c_160] at h
          refine lv_aload_n hx hb dX9_looks_40 rfl (lv_at hl 0 rfl) ?_
          refine r_get C hR 9 0 34 (v := .ref (a 82 0)) (lv0 (by decide) (by decide)) (by decide) (by decide) rfl fl_X9_64 dX9_looks_41 ?_
          refine lv_iload hx hb dX9_looks_44 (lv_at hl 6 rfl) ?_
          obtain ⟨k161, hk161, h⟩ := ob h
          have hLk161 : k161 < cntS 83 := by have q1 := (ck_in hk161).2.2; have q2 : cntS 83 = 60 := rfl; omega
          refine r_aald C hR 82 0 83 0 6 (lv0 (by decide) (by decide)) (by decide) rfl rfl rfl (fun _ => rfl) rfl hk161 dX9_looks_46 ?_
          refine lv_iconst (v := 1) hx hb dX9_looks_47 (by decide) ?_
          obtain ⟨k162, hk162, h⟩ := ob h
          refine r_ald C hR 83 k161 (lv0 hLk161 (by decide)) (by decide) rfl (fun _ => rfl) rfl hk162 dX9_looks_48 ?_
          refine lv_iload_n hx hb dX9_looks_49 rfl (lv_at hl 2 rfl) ?_
          refine lv_icmp_gt (tgt := 81) hx hb dX9_looks_50 (by decide) (fun c_163 => ?_) (fun c_163 => ?_)
          · rw [if_pos c_163] at h
            cases h
            exact Kj158 _ _ _ hR hS (lv_sub hl [0, 1, 2, 3, 4, 5, 6] rfl)
          · rw [if_neg c_163] at h
            refine lv_iload_n hx hb dX9_looks_53 rfl (lv_at hl 3 rfl) ?_
            refine lv_iconst (v := (-1)) hx hb dX9_looks_54 (by decide) ?_
            refine jp_cut h (fun j164 hj164 h => ?_)
            have Kj164 : ∀  (H : Heap) (locs : List Loc) (ls : Array Slot), j164 = some x157 → Rel E a u0 H → va_S (AE E) s.heap H locs → lv_has ls 7 [(0, .ref (a 9 0)), (1, .int x1), (2, .int x2), (4, .int x103), (5, .int (-1)), (6, .int x105)] → W p l e { frames := 3, cells := 0, slots := 0, locals := 73 } s m args below meth c H locs 0 0 (MQ below (QW E a (some (.int out)) u0) args s 0 0 (AE E)) (F0 m 78 ls []) := by
              intro  H locs ls h hR hS hl
              replace h := jx0 hj164 h
              refine lv_iload hx hb dX9_looks_78 (lv_at hl 5 rfl) ?_
              refine lv_istore_n (lv' := [(3, .int x105), (0, .ref (a 9 0)), (1, .int x1), (2, .int x2), (4, .int x103), (5, .int (-1)), (6, .int x105)]) hx hb dX9_looks_80 rfl hl (by decide) rfl (fun ls hl => ?_)
              cases h
              exact Kj158 _ _ _ hR hS (lv_sub hl [1, 2, 3, 0, 4, 5, 6] rfl)
            refine lv_icmp_eq (tgt := 78) hx hb dX9_looks_55 (by decide) (fun c_165 => ?_) (fun c_165 => ?_)
            · rw [if_pos c_165] at h
              exact Kj164  _ _ _ h hR hS (lv_sub hl [0, 1, 2, 4, 5, 6] rfl)
            · rw [if_neg c_165] at h
              refine lv_aload_n hx hb dX9_looks_58 rfl (lv_at hl 0 rfl) ?_
              refine r_get C hR 9 0 34 (v := .ref (a 82 0)) (lv0 (by decide) (by decide)) (by decide) (by decide) rfl fl_X9_64 dX9_looks_59 ?_
              refine lv_iload hx hb dX9_looks_62 (lv_at hl 6 rfl) ?_
              obtain ⟨k166, hk166, h⟩ := ob h
              have hLk166 : k166 < cntS 83 := by have q1 := (ck_in hk166).2.2; have q2 : cntS 83 = 60 := rfl; omega
              refine r_aald C hR 82 0 83 0 6 (lv0 (by decide) (by decide)) (by decide) rfl rfl rfl (fun _ => rfl) rfl hk166 dX9_looks_64 ?_
              refine lv_iconst (v := 1) hx hb dX9_looks_65 (by decide) ?_
              obtain ⟨k167, hk167, h⟩ := ob h
              refine r_ald C hR 83 k166 (lv0 hLk166 (by decide)) (by decide) rfl (fun _ => rfl) rfl hk167 dX9_looks_66 ?_
              refine lv_aload_n hx hb dX9_looks_67 rfl (lv_at hl 0 rfl) ?_
              refine r_get C hR 9 0 34 (v := .ref (a 82 0)) (lv0 (by decide) (by decide)) (by decide) (by decide) rfl fl_X9_64 dX9_looks_68 ?_
              refine lv_iload_n hx hb dX9_looks_71 rfl (lv_at hl 3 rfl) ?_
              obtain ⟨k168, hk168, h⟩ := ob h
              have hLk168 : k168 < cntS 83 := by have q1 := (ck_in hk168).2.2; have q2 : cntS 83 = 60 := rfl; omega
              refine r_aald C hR 82 0 83 0 6 (lv0 (by decide) (by decide)) (by decide) rfl rfl rfl (fun _ => rfl) rfl hk168 dX9_looks_72 ?_
              refine lv_iconst (v := 1) hx hb dX9_looks_73 (by decide) ?_
              obtain ⟨k169, hk169, h⟩ := ob h
              refine r_ald C hR 83 k168 (lv0 hLk168 (by decide)) (by decide) rfl (fun _ => rfl) rfl hk169 dX9_looks_74 ?_
              refine lv_icmp_lt (tgt := 81) hx hb dX9_looks_75 (by decide) (fun c_170 => ?_) (fun c_170 => ?_)
              · rw [if_pos c_170] at h
                cases h
                exact Kj158 _ _ _ hR hS (lv_sub hl [0, 1, 2, 3, 4, 5, 6] rfl)
              · rw [if_neg c_170] at h
                exact Kj164  _ _ _ h hR hS (lv_sub hl [0, 1, 2, 4, 5, 6] rfl)
  exact LP FU _ _ _ _ _ h hR hS (lv_sub hl [4, 5, 6, 3, 2, 1, 0] rfl)
set_option maxHeartbeats 4000000 in
set_option maxRecDepth 100000 in
theorem vX9_eyeOf {l : Launch} {E : EV} {a : Nat → Nat → Nat} {u0 : HS} {x1 : Int32} {x2 : Int32} {out : Int32} (h : mX9_eyeOf u0 x1 x2 = some out) : Ct l E yX9_eyeOf cX9_eyeOf 3 (some .int) 4 99 0 0 a u0 [.ref (a 9 0), .int x1, .int x2] (some (.int out)) u0 := by
  refine Ct.start (by decide) (Nat.le_of_ble_eq_true rfl) ?_
  intro p e s m args below meth c ls C hr hR hS hl
  have C : Cx E p s m args meth c cX9_eyeOf 3 RX9 := C
  have hl : lv_has ls 3 [(0, .ref (a 9 0)), (1, .int x1), (2, .int x2)] := hl
  have hx := C.1
  have hb := C.2.1
  unfold mX9_eyeOf at h
  refine lv_aload_n hx hb dX9_eyeOf_0 rfl (lv_at hl 0 rfl) ?_
  refine lv_iload_n hx hb dX9_eyeOf_1 rfl (lv_at hl 1 rfl) ?_
  refine lv_iload_n hx hb dX9_eyeOf_2 rfl (lv_at hl 2 rfl) ?_
  obtain ⟨x102, hc101, h⟩ := ob h
  refine r_callV1 (As := [.int x1, .int x2]) (rest := []) (r := 9) (i := 0) C (vX9_isShut hc101) hR hS (lv0 (by decide) (by decide)) (by decide) ml_X9_304 mw_X9_isShut rfl ⟨Nat.le_of_ble_eq_true rfl, Nat.le_of_ble_eq_true rfl, Nat.le_of_ble_eq_true rfl, Nat.le_of_ble_eq_true rfl⟩ hl.1 rfl (Nat.le_of_ble_eq_true rfl) dX9_eyeOf_3 (fun H locs hR hS => ?_)
  refine lv_if_eq (tgt := 13) hx hb dX9_eyeOf_6 (by decide) (fun c_103 => ?_) (fun c_103 => ?_)
  · rw [if_pos c_103] at h
    refine lv_aload_n hx hb dX9_eyeOf_13 rfl (lv_at hl 0 rfl) ?_
    refine lv_iload_n hx hb dX9_eyeOf_14 rfl (lv_at hl 1 rfl) ?_
    refine lv_iload_n hx hb dX9_eyeOf_15 rfl (lv_at hl 2 rfl) ?_
    obtain ⟨x105, hc104, h⟩ := ob h
    refine r_callV1 (As := [.int x1, .int x2]) (rest := []) (r := 9) (i := 0) C (vX9_looks hc104) hR hS (lv0 (by decide) (by decide)) (by decide) ml_X9_308 mw_X9_looks rfl ⟨Nat.le_of_ble_eq_true rfl, Nat.le_of_ble_eq_true rfl, Nat.le_of_ble_eq_true rfl, Nat.le_of_ble_eq_true rfl⟩ hl.1 rfl (Nat.le_of_ble_eq_true rfl) dX9_eyeOf_16 (fun H locs hR hS => ?_)
    cases h
    exact e_iret C hr hR hS (Nat.le_of_ble_eq_true rfl) (Nat.le_of_ble_eq_true rfl) dX9_eyeOf_19
  · rw [if_neg c_103] at h
    refine lv_iconst (v := (-1)) hx hb dX9_eyeOf_9 (by decide) ?_
    refine lv_goto (tgt := 19) hx hb dX9_eyeOf_10 (by decide) ?_
    cases h
    exact e_iret C hr hR hS (Nat.le_of_ble_eq_true rfl) (Nat.le_of_ble_eq_true rfl) dX9_eyeOf_19
set_option maxHeartbeats 4000000 in
set_option maxRecDepth 100000 in
theorem vX9_eye {l : Launch} {E : EV} {a : Nat → Nat → Nat} {u0 : HS} {x1 : Int32} {x2 : Int32} {out : (Int32 × HS)} (h : mX9_eye u0 x1 x2 = some out) : Ct l E yX9_eye cX9_eye 3 (some .int) 5 121 0 0 a u0 [.ref (a 9 0), .int x1, .int x2] (some (.int out.1)) out.2 := by
  refine Ct.start (by decide) (Nat.le_of_ble_eq_true rfl) ?_
  intro p e s m args below meth c ls C hr hR hS hl
  have C : Cx E p s m args meth c cX9_eye 3 RX9 := C
  have hl : lv_has ls 3 [(0, .ref (a 9 0)), (1, .int x1), (2, .int x2)] := hl
  have hx := C.1
  have hb := C.2.1
  unfold mX9_eye at h
  refine lv_aload_n hx hb dX9_eye_0 rfl (lv_at hl 0 rfl) ?_
  refine lv_iconst (v := 0) hx hb dX9_eye_1 (by decide) ?_
  refine r_putI (ty := .int) C hR hS 9 0 0 (lv0 (by decide) (by decide)) (by decide) (by decide) (fun _ => rfl) fl_X9_76 (by decide) (by decide +kernel) rfl rfl dX9_eye_2 (fun H locs hR hS => ?_)
  obtain ⟨u101, eu101⟩ : ∃ z : HS, z = wI u0 9 0 0 0 := ⟨_, rfl⟩
  rw [← eu101] at hR
  replace h := bd_x eu101 h
  clear eu101
  refine lv_aload_n hx hb dX9_eye_5 rfl (lv_at hl 0 rfl) ?_
  refine lv_aload_n hx hb dX9_eye_6 rfl (lv_at hl 0 rfl) ?_
  refine lv_iload_n hx hb dX9_eye_7 rfl (lv_at hl 1 rfl) ?_
  obtain ⟨x103, hc102, h⟩ := ob h
  refine r_callV1 (As := [.int x1]) (rest := [.ref (a 9 0)]) (r := 9) (i := 0) C (vX9_isLooker hc102) hR hS (lv0 (by decide) (by decide)) (by decide) ml_X9_295 mw_X9_isLooker rfl ⟨Nat.le_of_ble_eq_true rfl, Nat.le_of_ble_eq_true rfl, Nat.le_of_ble_eq_true rfl, Nat.le_of_ble_eq_true rfl⟩ hl.1 rfl (Nat.le_of_ble_eq_true rfl) dX9_eye_8 (fun H locs hR hS => ?_)
  obtain ⟨x104, hz, h⟩ := ob h
  have Kj105 : ∀ (H : Heap) (locs : List Loc) (ls : Array Slot), Rel E a u101 H → va_S (AE E) s.heap H locs → lv_has ls 3 [(0, .ref (a 9 0)), (1, .int x1), (2, .int x2)] → W p l e { frames := 5, cells := 0, slots := 0, locals := 121 } s m args below meth c H locs 0 0 (MQ below (QW E a (some (.int out.1)) out.2) args s 0 0 (AE E)) (F0 m 30 ls [.int x104, .ref (a 9 0)]) := by
    intro H locs ls hR hS hl
    clear hz
    refine lv_iconst (v := 1) hx hb dX9_eye_30 (by decide) ?_
    obtain ⟨⟨x107, u108⟩, hc106, h⟩ := ob h
    replace h := bd_x (x := x107) rfl h
    replace h := bd_x (x := u108) rfl h
    refine r_callV1 (As := [.int x104, .int 1]) (rest := []) (r := 9) (i := 0) C (vX9_bad hc106) hR hS (lv0 (by decide) (by decide)) (by decide) ml_X9_162 mw_X9_bad rfl ⟨Nat.le_of_ble_eq_true rfl, Nat.le_of_ble_eq_true rfl, Nat.le_of_ble_eq_true rfl, Nat.le_of_ble_eq_true rfl⟩ hl.1 rfl (Nat.le_of_ble_eq_true rfl) dX9_eye_31 (fun H locs hR hS => ?_)
    refine lv_if_eq (tgt := 39) hx hb dX9_eye_34 (by decide) (fun c_109 => ?_) (fun c_109 => ?_)
    · rw [if_pos c_109] at h
      refine lv_aload_n hx hb dX9_eye_39 rfl (lv_at hl 0 rfl) ?_
      refine lv_iload_n hx hb dX9_eye_40 rfl (lv_at hl 1 rfl) ?_
      refine lv_iload_n hx hb dX9_eye_41 rfl (lv_at hl 2 rfl) ?_
      obtain ⟨x111, hc110, h⟩ := ob h
      refine r_callV1 (As := [.int x1, .int x2]) (rest := []) (r := 9) (i := 0) C (vX9_eyeOf hc110) hR hS (lv0 (by decide) (by decide)) (by decide) ml_X9_311 mw_X9_eyeOf rfl ⟨Nat.le_of_ble_eq_true rfl, Nat.le_of_ble_eq_true rfl, Nat.le_of_ble_eq_true rfl, Nat.le_of_ble_eq_true rfl⟩ hl.1 rfl (Nat.le_of_ble_eq_true rfl) dX9_eye_42 (fun H locs hR hS => ?_)
      cases h
      exact e_iret C hr hR hS (Nat.le_of_ble_eq_true rfl) (Nat.le_of_ble_eq_true rfl) dX9_eye_45
    · rw [if_neg c_109] at h
      refine lv_iconst (v := 0) hx hb dX9_eye_37 (by decide) ?_
      cases h
      exact e_iret C hr hR hS (Nat.le_of_ble_eq_true rfl) (Nat.le_of_ble_eq_true rfl) dX9_eye_38
  clear h
  have h := hz
  clear hz
  refine jp_cut h (fun j112 hj112 h => ?_)
  have Kj112 : ∀  (H : Heap) (locs : List Loc) (ls : Array Slot), j112 = some x104 → Rel E a u101 H → va_S (AE E) s.heap H locs → lv_has ls 3 [(0, .ref (a 9 0)), (1, .int x1), (2, .int x2)] → W p l e { frames := 5, cells := 0, slots := 0, locals := 121 } s m args below meth c H locs 0 0 (MQ below (QW E a (some (.int out.1)) out.2) args s 0 0 (AE E)) (F0 m 25 ls [.ref (a 9 0)]) := by
    intro  H locs ls h hR hS hl
    replace h := jx0 hj112 h
    refine lv_iconst (v := 1) hx hb dX9_eye_25 (by decide) ?_
    refine lv_goto (tgt := 30) hx hb dX9_eye_26 (by decide) ?_
    cases h
    exact Kj105 _ _ _ hR hS (lv_sub hl [0, 1, 2] rfl)
  refine lv_if_eq (tgt := 25) hx hb dX9_eye_11 (by decide) (fun c_113 => ?_) (fun c_113 => ?_)
  · rw [if_pos c_113] at h
    exact Kj112  _ _ _ h hR hS (lv_sub hl [0, 1, 2] rfl)
  · rw [if_neg c_113] at h
    refine lv_iload_n hx hb dX9_eye_14 rfl (lv_at hl 2 rfl) ?_
    refine lv_iconst (v := 0) hx hb dX9_eye_15 (by decide) ?_
    refine lv_sipush (v := 299) hx hb dX9_eye_16 (by decide) ?_
    obtain ⟨x115, hc114, h⟩ := ob h
    refine r_callS1 (As := [.int x2, .int 0, .int 299]) (rest := [.ref (a 9 0)]) C (vX9_in hc114) hR hS ml_X9_113 ms_X9_in rfl ⟨Nat.le_of_ble_eq_true rfl, Nat.le_of_ble_eq_true rfl, Nat.le_of_ble_eq_true rfl, Nat.le_of_ble_eq_true rfl⟩ hl.1 rfl (Nat.le_of_ble_eq_true rfl) dX9_eye_19 (fun H locs hR hS => ?_)
    refine lv_if_ne (tgt := 29) hx hb dX9_eye_22 (by decide) (fun c_116 => ?_) (fun c_116 => ?_)
    · rw [if_neg c_116] at h
      refine lv_iconst (v := 0) hx hb dX9_eye_29 (by decide) ?_
      cases h
      exact Kj105 _ _ _ hR hS (lv_sub hl [0, 1, 2] rfl)
    · rw [if_pos c_116] at h
      exact Kj112  _ _ _ h hR hS (lv_sub hl [0, 1, 2] rfl)
set_option maxHeartbeats 4000000 in
set_option maxRecDepth 100000 in
theorem vX9_nearOf {l : Launch} {E : EV} {a : Nat → Nat → Nat} {u0 : HS} {x1 : Int32} {x2 : Int32} {x3 : Int32} {out : Int32} (h : mX9_nearOf u0 x1 x2 x3 = some out) : Ct l E yX9_nearOf cX9_nearOf 8 (some .int) 5 121 0 0 a u0 [.ref (a 9 0), .int x1, .int x2, .int x3] (some (.int out)) u0 := by
  refine Ct.start (by decide) (Nat.le_of_ble_eq_true rfl) ?_
  intro p e s m args below meth c ls C hr hR hS hl
  have C : Cx E p s m args meth c cX9_nearOf 8 RX9 := C
  have hl : lv_has ls 8 [(0, .ref (a 9 0)), (1, .int x1), (2, .int x2), (3, .int x3)] := hl
  have hx := C.1
  have hb := C.2.1
  unfold mX9_nearOf at h
  refine lv_aload_n hx hb dX9_nearOf_0 rfl (lv_at hl 0 rfl) ?_
  refine r_get C hR 9 0 33 (v := .ref (a 80 0)) (lv0 (by decide) (by decide)) (by decide) (by decide) rfl fl_X9_61 dX9_nearOf_1 ?_
  refine lv_iload_n hx hb dX9_nearOf_4 rfl (lv_at hl 1 rfl) ?_
  obtain ⟨k101, hk101, h⟩ := ob h
  have hLk101 : k101 < cntS 81 := by have q1 := (ck_in hk101).2.2; have q2 : cntS 81 = 15 := rfl; omega
  refine r_aald C hR 80 0 81 0 6 (lv0 (by decide) (by decide)) (by decide) rfl rfl rfl (fun _ => rfl) rfl hk101 dX9_nearOf_5 ?_
  refine lv_iconst (v := 0) hx hb dX9_nearOf_6 (by decide) ?_
  obtain ⟨k102, hk102, h⟩ := ob h
  refine r_ald C hR 81 k101 (lv0 hLk101 (by decide)) (by decide) rfl (fun _ => rfl) rfl hk102 dX9_nearOf_7 ?_
  refine lv_topi (fun x103 ex103 => ?_)
  replace h := bd_x ex103 h
  refine lv_istore (lv' := [(4, .int x103), (0, .ref (a 9 0)), (1, .int x1), (2, .int x2), (3, .int x3)]) hx hb dX9_nearOf_8 hl (by decide) rfl (fun ls hl => ?_)
  refine lv_aload_n hx hb dX9_nearOf_10 rfl (lv_at hl 1 rfl) ?_
  refine lv_iload_n hx hb dX9_nearOf_11 rfl (lv_at hl 2 rfl) ?_
  refine lv_iload_n hx hb dX9_nearOf_12 rfl (lv_at hl 4 rfl) ?_
  obtain ⟨x105, hc104, h⟩ := ob h
  refine r_callV1 (As := [.int x1, .int x3]) (rest := []) (r := 9) (i := 0) C (vX9_eyeOf hc104) hR hS (lv0 (by decide) (by decide)) (by decide) ml_X9_311 mw_X9_eyeOf rfl ⟨Nat.le_of_ble_eq_true rfl, Nat.le_of_ble_eq_true rfl, Nat.le_of_ble_eq_true rfl, Nat.le_of_ble_eq_true rfl⟩ hl.1 rfl (Nat.le_of_ble_eq_true rfl) dX9_nearOf_13 (fun H locs hR hS => ?_)
  refine lv_istore (lv' := [(5, .int x105), (4, .int x103), (0, .ref (a 9 0)), (1, .int x1), (2, .int x2), (3, .int x3)]) hx hb dX9_nearOf_16 hl (by decide) rfl (fun ls hl => ?_)
  refine lv_iload hx hb dX9_nearOf_18 (lv_at hl 0 rfl) ?_
  refine lv_iconst (v := (-1)) hx hb dX9_nearOf_20 (by decide) ?_
  refine lv_icmp_eq (tgt := 35) hx hb dX9_nearOf_21 (by decide) (fun c_106 => ?_) (fun c_106 => ?_)
  · rw [if_pos c_106] at h
    refine lv_bipush (v := 99) hx hb dX9_nearOf_35 (by decide) ?_
    cases h
    exact e_iret C hr hR hS (Nat.le_of_ble_eq_true rfl) (Nat.le_of_ble_eq_true rfl) dX9_nearOf_37
  · rw [if_neg c_106] at h
    refine lv_aload_n hx hb dX9_nearOf_24 rfl (lv_at hl 2 rfl) ?_
    refine lv_iload hx hb dX9_nearOf_25 (lv_at hl 1 rfl) ?_
    refine lv_iload_n hx hb dX9_nearOf_27 rfl (lv_at hl 4 rfl) ?_
    refine lv_iload_n hx hb dX9_nearOf_28 rfl (lv_at hl 5 rfl) ?_
    obtain ⟨x108, hc107, h⟩ := ob h
    refine r_callV1 (As := [.int x103, .int x2, .int x3]) (rest := []) (r := 9) (i := 0) C (vX9_isThere hc107) hR hS (lv0 (by decide) (by decide)) (by decide) ml_X9_241 mw_X9_isThere rfl ⟨Nat.le_of_ble_eq_true rfl, Nat.le_of_ble_eq_true rfl, Nat.le_of_ble_eq_true rfl, Nat.le_of_ble_eq_true rfl⟩ hl.1 rfl (Nat.le_of_ble_eq_true rfl) dX9_nearOf_29 (fun H locs hR hS => ?_)
    refine lv_if_ne (tgt := 38) hx hb dX9_nearOf_32 (by decide) (fun c_109 => ?_) (fun c_109 => ?_)
    · rw [if_neg c_109] at h
      refine lv_aload_n hx hb dX9_nearOf_38 rfl (lv_at hl 2 rfl) ?_
      refine lv_iload hx hb dX9_nearOf_39 (lv_at hl 1 rfl) ?_
      refine lv_iload_n hx hb dX9_nearOf_41 rfl (lv_at hl 4 rfl) ?_
      refine lv_iload_n hx hb dX9_nearOf_42 rfl (lv_at hl 5 rfl) ?_
      refine lv_iconst (v := 0) hx hb dX9_nearOf_43 (by decide) ?_
      obtain ⟨x111, hc110, h⟩ := ob h
      refine r_callV1 (As := [.int x103, .int x2, .int x3, .int 0]) (rest := []) (r := 9) (i := 0) C (vX9_placeOf hc110) hR hS (lv0 (by decide) (by decide)) (by decide) ml_X9_244 mw_X9_placeOf rfl ⟨Nat.le_of_ble_eq_true rfl, Nat.le_of_ble_eq_true rfl, Nat.le_of_ble_eq_true rfl, Nat.le_of_ble_eq_true rfl⟩ hl.1 rfl (Nat.le_of_ble_eq_true rfl) dX9_nearOf_44 (fun H locs hR hS => ?_)
      refine lv_iload hx hb dX9_nearOf_47 (lv_at hl 0 rfl) ?_
      refine lv_bipush (v := 100) hx hb dX9_nearOf_49 (by decide) ?_
      refine lv_idiv hx hb dX9_nearOf_51 (by decide) ?_
      refine lv_isub hx hb dX9_nearOf_52 ?_
      obtain ⟨x113, hc112, h⟩ := ob h
      refine r_callS1 (As := [.int (x111 - (x105 / 100))]) (rest := []) C (vX9_amount hc112) hR hS ml_X9_248 ms_X9_amount rfl ⟨Nat.le_of_ble_eq_true rfl, Nat.le_of_ble_eq_true rfl, Nat.le_of_ble_eq_true rfl, Nat.le_of_ble_eq_true rfl⟩ hl.1 rfl (Nat.le_of_ble_eq_true rfl) dX9_nearOf_53 (fun H locs hR hS => ?_)
      refine lv_istore (lv' := [(6, .int x113), (5, .int x105), (4, .int x103), (0, .ref (a 9 0)), (1, .int x1), (2, .int x2), (3, .int x3)]) hx hb dX9_nearOf_56 hl (by decide) rfl (fun ls hl => ?_)
      refine lv_aload_n hx hb dX9_nearOf_58 rfl (lv_at hl 3 rfl) ?_
      refine lv_iload hx hb dX9_nearOf_59 (lv_at hl 2 rfl) ?_
      refine lv_iload_n hx hb dX9_nearOf_61 rfl (lv_at hl 5 rfl) ?_
      refine lv_iload_n hx hb dX9_nearOf_62 rfl (lv_at hl 6 rfl) ?_
      refine lv_iconst (v := 1) hx hb dX9_nearOf_63 (by decide) ?_
      obtain ⟨x115, hc114, h⟩ := ob h
      refine r_callV1 (As := [.int x103, .int x2, .int x3, .int 1]) (rest := []) (r := 9) (i := 0) C (vX9_placeOf hc114) hR hS (lv0 (by decide) (by decide)) (by decide) ml_X9_244 mw_X9_placeOf rfl ⟨Nat.le_of_ble_eq_true rfl, Nat.le_of_ble_eq_true rfl, Nat.le_of_ble_eq_true rfl, Nat.le_of_ble_eq_true rfl⟩ hl.1 rfl (Nat.le_of_ble_eq_true rfl) dX9_nearOf_64 (fun H locs hR hS => ?_)
      refine lv_iload hx hb dX9_nearOf_67 (lv_at hl 1 rfl) ?_
      refine lv_bipush (v := 100) hx hb dX9_nearOf_69 (by decide) ?_
      refine lv_irem hx hb dX9_nearOf_71 (by decide) ?_
      refine lv_isub hx hb dX9_nearOf_72 ?_
      obtain ⟨x117, hc116, h⟩ := ob h
      refine r_callS1 (As := [.int (x115 - (x105 - x105 / 100 * 100))]) (rest := []) C (vX9_amount hc116) hR hS ml_X9_248 ms_X9_amount rfl ⟨Nat.le_of_ble_eq_true rfl, Nat.le_of_ble_eq_true rfl, Nat.le_of_ble_eq_true rfl, Nat.le_of_ble_eq_true rfl⟩ hl.1 rfl (Nat.le_of_ble_eq_true rfl) dX9_nearOf_73 (fun H locs hR hS => ?_)
      refine lv_istore (lv' := [(7, .int x117), (6, .int x113), (5, .int x105), (4, .int x103), (0, .ref (a 9 0)), (1, .int x1), (2, .int x2), (3, .int x3)]) hx hb dX9_nearOf_76 hl (by decide) rfl (fun ls hl => ?_)
      refine lv_iconst (v := 0) hx hb dX9_nearOf_78 (by decide) ?_
      refine lv_iload hx hb dX9_nearOf_79 (lv_at hl 1 rfl) ?_
      refine lv_aload_n hx hb dX9_nearOf_81 rfl (lv_at hl 4 rfl) ?_
      refine r_get C hR 9 0 39 (v := .int (gI u0 9 0 39)) (lv0 (by decide) (by decide)) (by decide) (by decide) rfl fl_X9_314 dX9_nearOf_82 ?_
      refine lv_isub hx hb dX9_nearOf_85 ?_
      obtain ⟨x119, hc118, h⟩ := ob h
      refine r_callS1 (As := [.int 0, .int (x113 - (gI u0 9 0 39))]) (rest := []) C (vX9_more hc118) hR hS ml_X9_251 ms_X9_more rfl ⟨Nat.le_of_ble_eq_true rfl, Nat.le_of_ble_eq_true rfl, Nat.le_of_ble_eq_true rfl, Nat.le_of_ble_eq_true rfl⟩ hl.1 rfl (Nat.le_of_ble_eq_true rfl) dX9_nearOf_86 (fun H locs hR hS => ?_)
      refine lv_iload hx hb dX9_nearOf_89 (lv_at hl 0 rfl) ?_
      obtain ⟨x121, hc120, h⟩ := ob h
      refine r_callS1 (As := [.int x119, .int x117]) (rest := []) C (vX9_more hc120) hR hS ml_X9_251 ms_X9_more rfl ⟨Nat.le_of_ble_eq_true rfl, Nat.le_of_ble_eq_true rfl, Nat.le_of_ble_eq_true rfl, Nat.le_of_ble_eq_true rfl⟩ hl.1 rfl (Nat.le_of_ble_eq_true rfl) dX9_nearOf_91 (fun H locs hR hS => ?_)
      cases h
      exact e_iret C hr hR hS (Nat.le_of_ble_eq_true rfl) (Nat.le_of_ble_eq_true rfl) dX9_nearOf_94
    · rw [if_pos c_109] at h
      refine lv_bipush (v := 99) hx hb dX9_nearOf_35 (by decide) ?_
      cases h
      exact e_iret C hr hR hS (Nat.le_of_ble_eq_true rfl) (Nat.le_of_ble_eq_true rfl) dX9_nearOf_37
set_option maxHeartbeats 4000000 in
set_option maxRecDepth 100000 in
theorem vX9_fullOf {l : Launch} {E : EV} {a : Nat → Nat → Nat} {u0 : HS} {x1 : Int32} {x2 : Int32} {out : Int32} (h : mX9_fullOf u0 x1 x2 = some out) : Ct l E yX9_fullOf cX9_fullOf 6 (some .int) 3 70 0 0 a u0 [.ref (a 9 0), .int x1, .int x2] (some (.int out)) u0 := by
  refine Ct.start (by decide) (Nat.le_of_ble_eq_true rfl) ?_
  intro p e s m args below meth c ls C hr hR hS hl
  have C : Cx E p s m args meth c cX9_fullOf 6 RX9 := C
  have hl : lv_has ls 6 [(0, .ref (a 9 0)), (1, .int x1), (2, .int x2)] := hl
  have hx := C.1
  have hb := C.2.1
  unfold mX9_fullOf at h
  refine lv_aload_n hx hb dX9_fullOf_0 rfl (lv_at hl 0 rfl) ?_
  refine r_get C hR 9 0 33 (v := .ref (a 80 0)) (lv0 (by decide) (by decide)) (by decide) (by decide) rfl fl_X9_61 dX9_fullOf_1 ?_
  refine lv_iload_n hx hb dX9_fullOf_4 rfl (lv_at hl 1 rfl) ?_
  obtain ⟨k101, hk101, h⟩ := ob h
  have hLk101 : k101 < cntS 81 := by have q1 := (ck_in hk101).2.2; have q2 : cntS 81 = 15 := rfl; omega
  refine r_aald C hR 80 0 81 0 6 (lv0 (by decide) (by decide)) (by decide) rfl rfl rfl (fun _ => rfl) rfl hk101 dX9_fullOf_5 ?_
  refine lv_iconst (v := 0) hx hb dX9_fullOf_6 (by decide) ?_
  obtain ⟨k102, hk102, h⟩ := ob h
  refine r_ald C hR 81 k101 (lv0 hLk101 (by decide)) (by decide) rfl (fun _ => rfl) rfl hk102 dX9_fullOf_7 ?_
  refine lv_topi (fun x103 ex103 => ?_)
  replace h := bd_x ex103 h
  refine lv_istore_n (lv' := [(3, .int x103), (0, .ref (a 9 0)), (1, .int x1), (2, .int x2)]) hx hb dX9_fullOf_8 rfl hl (by decide) rfl (fun ls hl => ?_)
  refine lv_iconst (v := 0) hx hb dX9_fullOf_9 (by decide) ?_
  refine lv_istore (lv' := [(4, .int 0), (3, .int x103), (0, .ref (a 9 0)), (1, .int x1), (2, .int x2)]) hx hb dX9_fullOf_10 hl (by decide) rfl (fun ls hl => ?_)
  refine lv_iconst (v := 0) hx hb dX9_fullOf_12 (by decide) ?_
  refine lv_istore (lv' := [(5, .int 0), (4, .int 0), (3, .int x103), (0, .ref (a 9 0)), (1, .int x1), (2, .int x2)]) hx hb dX9_fullOf_13 hl (by decide) rfl (fun ls hl => ?_)
  refine jp_cut h (fun w107 hw107 h => ?_)
  have Kw107 : ∀ (x106 : Int32) (H : Heap) (locs : List Loc) (ls : Array Slot), w107 x106 = some out → Rel E a u0 H → va_S (AE E) s.heap H locs → lv_has ls 6 [(0, .ref (a 9 0)), (1, .int x1), (4, .int x106)] → W p l e { frames := 3, cells := 0, slots := 0, locals := 70 } s m args below meth c H locs 0 0 (MQ below (QW E a (some (.int out)) u0) args s 0 0 (AE E)) (F0 m 83 ls []) := by
    intro x106 H locs ls h hR hS hl
    replace h := jx1 hw107 h
    refine lv_iconst (v := 0) hx hb dX9_fullOf_83 (by decide) ?_
    refine lv_iload hx hb dX9_fullOf_84 (lv_at hl 2 rfl) ?_
    refine lv_aload_n hx hb dX9_fullOf_86 rfl (lv_at hl 0 rfl) ?_
    refine r_get C hR 9 0 21 (v := .ref (a 70 0)) (lv0 (by decide) (by decide)) (by decide) (by decide) rfl fl_X9_37 dX9_fullOf_87 ?_
    refine lv_aload_n hx hb dX9_fullOf_90 rfl (lv_at hl 0 rfl) ?_
    refine r_get C hR 9 0 33 (v := .ref (a 80 0)) (lv0 (by decide) (by decide)) (by decide) (by decide) rfl fl_X9_61 dX9_fullOf_91 ?_
    refine lv_iload_n hx hb dX9_fullOf_94 rfl (lv_at hl 1 rfl) ?_
    obtain ⟨k108, hk108, h⟩ := ob h
    have hLk108 : k108 < cntS 81 := by have q1 := (ck_in hk108).2.2; have q2 : cntS 81 = 15 := rfl; omega
    refine r_aald C hR 80 0 81 0 6 (lv0 (by decide) (by decide)) (by decide) rfl rfl rfl (fun _ => rfl) rfl hk108 dX9_fullOf_95 ?_
    refine lv_iconst (v := 1) hx hb dX9_fullOf_96 (by decide) ?_
    obtain ⟨k109, hk109, h⟩ := ob h
    refine r_ald C hR 81 k108 (lv0 hLk108 (by decide)) (by decide) rfl (fun _ => rfl) rfl hk109 dX9_fullOf_97 ?_
    obtain ⟨k110, hk110, h⟩ := ob h
    have hLk110 : k110 < cntS 71 := by have q1 := (ck_in hk110).2.2; have q2 : cntS 71 = 6 := rfl; omega
    refine r_aald C hR 70 0 71 0 6 (lv0 (by decide) (by decide)) (by decide) rfl rfl rfl (fun _ => rfl) rfl hk110 dX9_fullOf_98 ?_
    refine lv_iconst (v := 3) hx hb dX9_fullOf_99 (by decide) ?_
    obtain ⟨k111, hk111, h⟩ := ob h
    refine r_ald C hR 71 k110 (lv0 hLk110 (by decide)) (by decide) rfl (fun _ => rfl) rfl hk111 dX9_fullOf_100 ?_
    refine lv_isub hx hb dX9_fullOf_101 ?_
    obtain ⟨x113, hc112, h⟩ := ob h
    refine r_callS1 (As := [.int 0, .int (x106 - (gI u0 71 k110 k111))]) (rest := []) C (vX9_more hc112) hR hS ml_X9_251 ms_X9_more rfl ⟨Nat.le_of_ble_eq_true rfl, Nat.le_of_ble_eq_true rfl, Nat.le_of_ble_eq_true rfl, Nat.le_of_ble_eq_true rfl⟩ hl.1 rfl (Nat.le_of_ble_eq_true rfl) dX9_fullOf_102 (fun H locs hR hS => ?_)
    cases h
    exact e_iret C hr hR hS (Nat.le_of_ble_eq_true rfl) (Nat.le_of_ble_eq_true rfl) dX9_fullOf_105
  have LP : ∀ (fu : Nat) (x104 : Int32) (x105 : Int32) (H : Heap) (locs : List Loc) (ls : Array Slot), mX9_fullOf_L15 x103 u0 x2 x1 w107 fu x104 x105 = some out → Rel E a u0 H → va_S (AE E) s.heap H locs → lv_has ls 6 [(0, .ref (a 9 0)), (1, .int x1), (2, .int x2), (3, .int x103), (4, .int x104), (5, .int x105)] → W p l e { frames := 3, cells := 0, slots := 0, locals := 70 } s m args below meth c H locs 0 0 (MQ below (QW E a (some (.int out)) u0) args s 0 0 (AE E)) (F0 m 15 ls []) := by
    intro fu
    induction fu with
    | zero =>
      intro x104 x105 H locs ls h
      have h2 : (none : Option Int32) = some out := h
      cases h2
    | succ fu ih =>
      intro x104 x105 H locs ls h hR hS hl
      rw [mX9_fullOf_L15.eq_2] at h
      refine lv_iload hx hb dX9_fullOf_15 (lv_at hl 5 rfl) ?_
      refine lv_aload_n hx hb dX9_fullOf_17 rfl (lv_at hl 0 rfl) ?_
      refine r_get C hR 9 0 19 (v := .ref (a 67 0)) (lv0 (by decide) (by decide)) (by decide) (by decide) rfl fl_X9_31 dX9_fullOf_18 ?_
      refine lv_iload_n hx hb dX9_fullOf_21 rfl (lv_at hl 3 rfl) ?_
      obtain ⟨k114, hk114, h⟩ := ob h
      refine r_ald C hR 67 0 (lv0 (by decide) (by decide)) (by decide) rfl (fun _ => rfl) rfl hk114 dX9_fullOf_22 ?_
      refine lv_icmp_ge (tgt := 83) hx hb dX9_fullOf_23 (by decide) (fun c_115 => ?_) (fun c_115 => ?_)
      · rw [if_pos c_115] at h
        exact Kw107 _ _ _ _ h hR hS (lv_sub hl [0, 1, 4] rfl)
      · rw [if_neg c_115] at h
        refine lv_iload hx hb dX9_fullOf_26 (lv_at hl 4 rfl) ?_
        refine lv_aload_n hx hb dX9_fullOf_28 rfl (lv_at hl 0 rfl) ?_
        refine lv_iload_n hx hb dX9_fullOf_29 rfl (lv_at hl 3 rfl) ?_
        refine lv_iload hx hb dX9_fullOf_30 (lv_at hl 5 rfl) ?_
        refine lv_iload_n hx hb dX9_fullOf_32 rfl (lv_at hl 2 rfl) ?_
        obtain ⟨x117, hc116, h⟩ := ob h
        refine r_callV1 (As := [.int x103, .int x105, .int x2]) (rest := [.int x104]) (r := 9) (i := 0) C (vX9_isThere hc116) hR hS (lv0 (by decide) (by decide)) (by decide) ml_X9_241 mw_X9_isThere rfl ⟨Nat.le_of_ble_eq_true rfl, Nat.le_of_ble_eq_true rfl, Nat.le_of_ble_eq_true rfl, Nat.le_of_ble_eq_true rfl⟩ hl.1 rfl (Nat.le_of_ble_eq_true rfl) dX9_fullOf_33 (fun H locs hR hS => ?_)
        obtain ⟨x118, hz, h⟩ := ob h
        have Kj119 : ∀ (H : Heap) (locs : List Loc) (ls : Array Slot), Rel E a u0 H → va_S (AE E) s.heap H locs → lv_has ls 6 [(0, .ref (a 9 0)), (1, .int x1), (2, .int x2), (3, .int x103), (5, .int x105)] → W p l e { frames := 3, cells := 0, slots := 0, locals := 70 } s m args below meth c H locs 0 0 (MQ below (QW E a (some (.int out)) u0) args s 0 0 (AE E)) (F0 m 74 ls [.int x118, .int x104]) := by
          intro H locs ls hR hS hl
          clear hz
          refine lv_iadd hx hb dX9_fullOf_74 ?_
          refine lv_topi (fun x120 ex120 => ?_)
          replace h := bd_x ex120 h
          refine lv_istore (lv' := [(4, .int x120), (0, .ref (a 9 0)), (1, .int x1), (2, .int x2), (3, .int x103), (5, .int x105)]) hx hb dX9_fullOf_75 hl (by decide) rfl (fun ls hl => ?_)
          obtain ⟨x121, ex121⟩ : ∃ z : Int32, z = x105 + 1 := ⟨_, rfl⟩
          replace h := bd_x ex121 h
          refine lv_iinc (v := x121) (lv' := [(5, .int x121), (4, .int x120), (0, .ref (a 9 0)), (1, .int x1), (2, .int x2), (3, .int x103)]) hx hb dX9_fullOf_77 hl (k := 5) rfl (by rw [ex121]; rfl) (by decide) rfl (fun ls hl => ?_)
          refine lv_goto (tgt := 15) hx hb dX9_fullOf_80 (by decide) ?_
          exact ih _ _ _ _ _ h hR hS (lv_sub hl [2, 3, 4, 5, 1, 0] rfl)
        clear h
        have h := hz
        clear hz
        refine jp_cut h (fun j122 hj122 h => ?_)
        have Kj122 : ∀  (H : Heap) (locs : List Loc) (ls : Array Slot), j122 = some x118 → Rel E a u0 H → va_S (AE E) s.heap H locs → lv_has ls 6 [(0, .ref (a 9 0)), (1, .int x1), (2, .int x2), (3, .int x103), (5, .int x105)] → W p l e { frames := 3, cells := 0, slots := 0, locals := 70 } s m args below meth c H locs 0 0 (MQ below (QW E a (some (.int out)) u0) args s 0 0 (AE E)) (F0 m 73 ls [.int x104]) := by
          intro  H locs ls h hR hS hl
          replace h := jx0 hj122 h
          refine lv_iconst (v := 0) hx hb dX9_fullOf_73 (by decide) ?_
          cases h
          exact Kj119 _ _ _ hR hS (lv_sub hl [0, 1, 2, 3, 4] rfl)
        refine lv_if_eq (tgt := 73) hx hb dX9_fullOf_36 (by decide) (fun c_123 => ?_) (fun c_123 => ?_)
        · rw [if_pos c_123] at h
          exact Kj122  _ _ _ h hR hS (lv_sub hl [0, 1, 2, 3, 5] rfl)
        · rw [if_neg c_123] at h
          refine lv_aload_n hx hb dX9_fullOf_39 rfl (lv_at hl 0 rfl) ?_
          refine r_get C hR 9 0 21 (v := .ref (a 70 0)) (lv0 (by decide) (by decide)) (by decide) (by decide) rfl fl_X9_37 dX9_fullOf_40 ?_
          refine lv_aload_n hx hb dX9_fullOf_43 rfl (lv_at hl 0 rfl) ?_
          refine r_get C hR 9 0 33 (v := .ref (a 80 0)) (lv0 (by decide) (by decide)) (by decide) (by decide) rfl fl_X9_61 dX9_fullOf_44 ?_
          refine lv_iload_n hx hb dX9_fullOf_47 rfl (lv_at hl 1 rfl) ?_
          obtain ⟨k124, hk124, h⟩ := ob h
          have hLk124 : k124 < cntS 81 := by have q1 := (ck_in hk124).2.2; have q2 : cntS 81 = 15 := rfl; omega
          refine r_aald C hR 80 0 81 0 6 (lv0 (by decide) (by decide)) (by decide) rfl rfl rfl (fun _ => rfl) rfl hk124 dX9_fullOf_48 ?_
          refine lv_iconst (v := 1) hx hb dX9_fullOf_49 (by decide) ?_
          obtain ⟨k125, hk125, h⟩ := ob h
          refine r_ald C hR 81 k124 (lv0 hLk124 (by decide)) (by decide) rfl (fun _ => rfl) rfl hk125 dX9_fullOf_50 ?_
          obtain ⟨k126, hk126, h⟩ := ob h
          have hLk126 : k126 < cntS 71 := by have q1 := (ck_in hk126).2.2; have q2 : cntS 71 = 6 := rfl; omega
          refine r_aald C hR 70 0 71 0 6 (lv0 (by decide) (by decide)) (by decide) rfl rfl rfl (fun _ => rfl) rfl hk126 dX9_fullOf_51 ?_
          refine lv_iconst (v := 0) hx hb dX9_fullOf_52 (by decide) ?_
          obtain ⟨k127, hk127, h⟩ := ob h
          refine r_ald C hR 71 k126 (lv0 hLk126 (by decide)) (by decide) rfl (fun _ => rfl) rfl hk127 dX9_fullOf_53 ?_
          refine lv_aload_n hx hb dX9_fullOf_54 rfl (lv_at hl 0 rfl) ?_
          refine lv_iload_n hx hb dX9_fullOf_55 rfl (lv_at hl 3 rfl) ?_
          refine lv_iload hx hb dX9_fullOf_56 (lv_at hl 5 rfl) ?_
          refine lv_iload_n hx hb dX9_fullOf_58 rfl (lv_at hl 2 rfl) ?_
          obtain ⟨x129, hc128, h⟩ := ob h
          refine r_callV1 (As := [.int x103, .int x105, .int x2]) (rest := [.int (gI u0 71 k126 k127), .int x104]) (r := 9) (i := 0) C (vX9_colourOf hc128) hR hS (lv0 (by decide) (by decide)) (by decide) ml_X9_269 mw_X9_colourOf rfl ⟨Nat.le_of_ble_eq_true rfl, Nat.le_of_ble_eq_true rfl, Nat.le_of_ble_eq_true rfl, Nat.le_of_ble_eq_true rfl⟩ hl.1 rfl (Nat.le_of_ble_eq_true rfl) dX9_fullOf_59 (fun H locs hR hS => ?_)
          refine lv_ishr hx hb dX9_fullOf_62 ?_
          refine lv_iconst (v := 1) hx hb dX9_fullOf_63 (by decide) ?_
          refine lv_iand hx hb dX9_fullOf_64 ?_
          refine lv_iconst (v := 1) hx hb dX9_fullOf_65 (by decide) ?_
          refine lv_icmp_ne (tgt := 73) hx hb dX9_fullOf_66 (by decide) (fun c_130 => ?_) (fun c_130 => ?_)
          · rw [if_neg c_130] at h
            exact Kj122  _ _ _ h hR hS (lv_sub hl [0, 1, 2, 3, 5] rfl)
          · rw [if_pos c_130] at h
            refine lv_iconst (v := 1) hx hb dX9_fullOf_69 (by decide) ?_
            refine lv_goto (tgt := 74) hx hb dX9_fullOf_70 (by decide) ?_
            cases h
            exact Kj119 _ _ _ hR hS (lv_sub hl [0, 1, 2, 3, 5] rfl)
  exact LP FU _ _ _ _ _ h hR hS (lv_sub hl [3, 4, 5, 2, 1, 0] rfl)
set_option maxHeartbeats 4000000 in
set_option maxRecDepth 100000 in
theorem vX9_tellsNames {l : Launch} {E : EV} {a : Nat → Nat → Nat} {u0 : HS} {x1 : Int32} {x2 : Int32} {x3 : Int32} {out : HS} (h : mX9_tellsNames u0 x1 x2 x3 = some out) : Ct l E yX9_tellsNames cX9_tellsNames 7 none 6 148 0 0 a u0 [.ref (a 9 0), .int x1, .int x2, .int x3] none out := by
  refine Ct.start (by decide) (Nat.le_of_ble_eq_true rfl) ?_
  intro p e s m args below meth c ls C hr hR hS hl
  have C : Cx E p s m args meth c cX9_tellsNames 7 RX9 := C
  have hl : lv_has ls 7 [(0, .ref (a 9 0)), (1, .int x1), (2, .int x2), (3, .int x3)] := hl
  have hx := C.1
  have hb := C.2.1
  unfold mX9_tellsNames at h
  refine lv_aload_n hx hb dX9_tellsNames_0 rfl (lv_at hl 0 rfl) ?_
  refine r_get C hR 9 0 33 (v := .ref (a 80 0)) (lv0 (by decide) (by decide)) (by decide) (by decide) rfl fl_X9_61 dX9_tellsNames_1 ?_
  refine lv_iload_n hx hb dX9_tellsNames_4 rfl (lv_at hl 1 rfl) ?_
  obtain ⟨k101, hk101, h⟩ := ob h
  have hLk101 : k101 < cntS 81 := by have q1 := (ck_in hk101).2.2; have q2 : cntS 81 = 15 := rfl; omega
  refine r_aald C hR 80 0 81 0 6 (lv0 (by decide) (by decide)) (by decide) rfl rfl rfl (fun _ => rfl) rfl hk101 dX9_tellsNames_5 ?_
  refine lv_iconst (v := 0) hx hb dX9_tellsNames_6 (by decide) ?_
  obtain ⟨k102, hk102, h⟩ := ob h
  refine r_ald C hR 81 k101 (lv0 hLk101 (by decide)) (by decide) rfl (fun _ => rfl) rfl hk102 dX9_tellsNames_7 ?_
  refine lv_topi (fun x103 ex103 => ?_)
  replace h := bd_x ex103 h
  refine lv_istore (lv' := [(4, .int x103), (0, .ref (a 9 0)), (1, .int x1), (2, .int x2), (3, .int x3)]) hx hb dX9_tellsNames_8 hl (by decide) rfl (fun ls hl => ?_)
  refine lv_aload_n hx hb dX9_tellsNames_10 rfl (lv_at hl 1 rfl) ?_
  refine r_get C hR 9 0 21 (v := .ref (a 70 0)) (lv0 (by decide) (by decide)) (by decide) (by decide) rfl fl_X9_37 dX9_tellsNames_11 ?_
  refine lv_aload_n hx hb dX9_tellsNames_14 rfl (lv_at hl 1 rfl) ?_
  refine r_get C hR 9 0 33 (v := .ref (a 80 0)) (lv0 (by decide) (by decide)) (by decide) (by decide) rfl fl_X9_61 dX9_tellsNames_15 ?_
  refine lv_iload_n hx hb dX9_tellsNames_18 rfl (lv_at hl 2 rfl) ?_
  obtain ⟨k104, hk104, h⟩ := ob h
  have hLk104 : k104 < cntS 81 := by have q1 := (ck_in hk104).2.2; have q2 : cntS 81 = 15 := rfl; omega
  refine r_aald C hR 80 0 81 0 6 (lv0 (by decide) (by decide)) (by decide) rfl rfl rfl (fun _ => rfl) rfl hk104 dX9_tellsNames_19 ?_
  refine lv_iconst (v := 1) hx hb dX9_tellsNames_20 (by decide) ?_
  obtain ⟨k105, hk105, h⟩ := ob h
  refine r_ald C hR 81 k104 (lv0 hLk104 (by decide)) (by decide) rfl (fun _ => rfl) rfl hk105 dX9_tellsNames_21 ?_
  obtain ⟨k106, hk106, h⟩ := ob h
  have hLk106 : k106 < cntS 71 := by have q1 := (ck_in hk106).2.2; have q2 : cntS 71 = 6 := rfl; omega
  refine r_aald C hR 70 0 71 0 6 (lv0 (by decide) (by decide)) (by decide) rfl rfl rfl (fun _ => rfl) rfl hk106 dX9_tellsNames_22 ?_
  refine lv_astore (lv' := [(5, .ref (a 71 k106)), (4, .int x103), (0, .ref (a 9 0)), (1, .int x1), (2, .int x2), (3, .int x3)]) hx hb dX9_tellsNames_23 hl (by decide) rfl (fun ls hl => ?_)
  refine lv_aload_n hx hb dX9_tellsNames_25 rfl (lv_at hl 2 rfl) ?_
  refine lv_iload hx hb dX9_tellsNames_26 (lv_at hl 1 rfl) ?_
  refine lv_iload_n hx hb dX9_tellsNames_28 rfl (lv_at hl 4 rfl) ?_
  refine lv_iload_n hx hb dX9_tellsNames_29 rfl (lv_at hl 5 rfl) ?_
  obtain ⟨x108, hc107, h⟩ := ob h
  refine r_callV1 (As := [.int x103, .int x2, .int x3]) (rest := []) (r := 9) (i := 0) C (vX9_colourOf hc107) hR hS (lv0 (by decide) (by decide)) (by decide) ml_X9_269 mw_X9_colourOf rfl ⟨Nat.le_of_ble_eq_true rfl, Nat.le_of_ble_eq_true rfl, Nat.le_of_ble_eq_true rfl, Nat.le_of_ble_eq_true rfl⟩ hl.1 rfl (Nat.le_of_ble_eq_true rfl) dX9_tellsNames_30 (fun H locs hR hS => ?_)
  refine lv_istore (lv' := [(6, .int x108), (5, .ref (a 71 k106)), (4, .int x103), (0, .ref (a 9 0)), (1, .int x1), (2, .int x2), (3, .int x3)]) hx hb dX9_tellsNames_33 hl (by decide) rfl (fun ls hl => ?_)
  refine lv_aload_n hx hb dX9_tellsNames_35 rfl (lv_at hl 3 rfl) ?_
  refine r_get C hR 9 0 27 (v := .ref (a 79 0)) (lv0 (by decide) (by decide)) (by decide) (by decide) rfl fl_X9_55 dX9_tellsNames_36 ?_
  refine lv_iconst (v := 0) hx hb dX9_tellsNames_39 (by decide) ?_
  refine lv_aload hx hb dX9_tellsNames_40 (lv_at hl 1 rfl) ?_
  refine lv_iconst (v := 0) hx hb dX9_tellsNames_42 (by decide) ?_
  obtain ⟨k109, hk109, h⟩ := ob h
  refine r_ald C hR 71 k106 (lv0 hLk106 (by decide)) (by decide) rfl (fun _ => rfl) rfl hk109 dX9_tellsNames_43 ?_
  refine lv_iload hx hb dX9_tellsNames_44 (lv_at hl 0 rfl) ?_
  refine lv_ishr hx hb dX9_tellsNames_46 ?_
  refine lv_iconst (v := 1) hx hb dX9_tellsNames_47 (by decide) ?_
  refine lv_iand hx hb dX9_tellsNames_48 ?_
  obtain ⟨k110, hk110, h⟩ := ob h
  refine r_ast C hR hS 79 0 (lv0 (by decide) (by decide)) (by decide) rfl (fun _ _ => rfl) rfl hk110 dX9_tellsNames_49 (fun H locs hR hS => ?_)
  obtain ⟨u111, eu111⟩ : ∃ z : HS, z = wI u0 79 0 k110 (((gI u0 71 k106 k109) >>> (x108 &&& 31)) &&& 1) := ⟨_, rfl⟩
  rw [← eu111] at hR
  replace h := bd_x eu111 h
  clear eu111
  refine lv_aload_n hx hb dX9_tellsNames_50 rfl (lv_at hl 3 rfl) ?_
  refine r_get C hR 9 0 27 (v := .ref (a 79 0)) (lv0 (by decide) (by decide)) (by decide) (by decide) rfl fl_X9_55 dX9_tellsNames_51 ?_
  refine lv_iconst (v := 1) hx hb dX9_tellsNames_54 (by decide) ?_
  refine lv_aload hx hb dX9_tellsNames_55 (lv_at hl 1 rfl) ?_
  refine lv_iconst (v := 1) hx hb dX9_tellsNames_57 (by decide) ?_
  obtain ⟨k112, hk112, h⟩ := ob h
  refine r_ald C hR 71 k106 (lv0 hLk106 (by decide)) (by decide) rfl (fun _ => rfl) rfl hk112 dX9_tellsNames_58 ?_
  refine lv_iload hx hb dX9_tellsNames_59 (lv_at hl 0 rfl) ?_
  refine lv_ishr hx hb dX9_tellsNames_61 ?_
  refine lv_iconst (v := 1) hx hb dX9_tellsNames_62 (by decide) ?_
  refine lv_iand hx hb dX9_tellsNames_63 ?_
  obtain ⟨k113, hk113, h⟩ := ob h
  refine r_ast C hR hS 79 0 (lv0 (by decide) (by decide)) (by decide) rfl (fun _ _ => rfl) rfl hk113 dX9_tellsNames_64 (fun H locs hR hS => ?_)
  obtain ⟨u114, eu114⟩ : ∃ z : HS, z = wI u111 79 0 k113 (((gI u111 71 k106 k112) >>> (x108 &&& 31)) &&& 1) := ⟨_, rfl⟩
  rw [← eu114] at hR
  replace h := bd_x eu114 h
  clear eu114
  refine lv_aload_n hx hb dX9_tellsNames_65 rfl (lv_at hl 3 rfl) ?_
  refine r_get C hR 9 0 27 (v := .ref (a 79 0)) (lv0 (by decide) (by decide)) (by decide) (by decide) rfl fl_X9_55 dX9_tellsNames_66 ?_
  refine lv_iconst (v := 2) hx hb dX9_tellsNames_69 (by decide) ?_
  refine lv_aload_n hx hb dX9_tellsNames_70 rfl (lv_at hl 3 rfl) ?_
  refine lv_iload_n hx hb dX9_tellsNames_71 rfl (lv_at hl 4 rfl) ?_
  refine lv_iload_n hx hb dX9_tellsNames_72 rfl (lv_at hl 5 rfl) ?_
  refine lv_iload_n hx hb dX9_tellsNames_73 rfl (lv_at hl 6 rfl) ?_
  obtain ⟨x116, hc115, h⟩ := ob h
  refine r_callV1 (As := [.int x1, .int x2, .int x3]) (rest := [.int 2, .ref (a 79 0)]) (r := 9) (i := 0) C (vX9_nearOf hc115) hR hS (lv0 (by decide) (by decide)) (by decide) ml_X9_317 mw_X9_nearOf rfl ⟨Nat.le_of_ble_eq_true rfl, Nat.le_of_ble_eq_true rfl, Nat.le_of_ble_eq_true rfl, Nat.le_of_ble_eq_true rfl⟩ hl.1 rfl (Nat.le_of_ble_eq_true rfl) dX9_tellsNames_74 (fun H locs hR hS => ?_)
  obtain ⟨k117, hk117, h⟩ := ob h
  refine r_ast C hR hS 79 0 (lv0 (by decide) (by decide)) (by decide) rfl (fun _ _ => rfl) rfl hk117 dX9_tellsNames_77 (fun H locs hR hS => ?_)
  obtain ⟨u118, eu118⟩ : ∃ z : HS, z = wI u114 79 0 k117 x116 := ⟨_, rfl⟩
  rw [← eu118] at hR
  replace h := bd_x eu118 h
  clear eu118
  refine lv_aload_n hx hb dX9_tellsNames_78 rfl (lv_at hl 3 rfl) ?_
  refine r_get C hR 9 0 27 (v := .ref (a 79 0)) (lv0 (by decide) (by decide)) (by decide) (by decide) rfl fl_X9_55 dX9_tellsNames_79 ?_
  refine lv_iconst (v := 3) hx hb dX9_tellsNames_82 (by decide) ?_
  refine lv_aload_n hx hb dX9_tellsNames_83 rfl (lv_at hl 3 rfl) ?_
  refine r_get C hR 9 0 38 (v := .int (gI u118 9 0 38)) (lv0 (by decide) (by decide)) (by decide) (by decide) rfl fl_X9_320 dX9_tellsNames_84 ?_
  obtain ⟨x119, hz, h⟩ := ob h
  have Kj120 : ∀ (H : Heap) (locs : List Loc) (ls : Array Slot), Rel E a u118 H → va_S (AE E) s.heap H locs → lv_has ls 7 [(0, .ref (a 9 0)), (1, .int x1), (2, .int x2), (3, .int x3), (4, .int x103), (5, .ref (a 71 k106))] → W p l e { frames := 6, cells := 0, slots := 0, locals := 148 } s m args below meth c H locs 0 0 (MQ below (QW E a none out) args s 0 0 (AE E)) (F0 m 111 ls [.int x119, .int 3, .ref (a 79 0)]) := by
    intro H locs ls hR hS hl
    clear hz
    obtain ⟨k121, hk121, h⟩ := ob h
    refine r_ast C hR hS 79 0 (lv0 (by decide) (by decide)) (by decide) rfl (fun _ _ => rfl) rfl hk121 dX9_tellsNames_111 (fun H locs hR hS => ?_)
    obtain ⟨u122, eu122⟩ : ∃ z : HS, z = wI u118 79 0 k121 x119 := ⟨_, rfl⟩
    rw [← eu122] at hR
    replace h := bd_x eu122 h
    clear eu122
    refine lv_aload_n hx hb dX9_tellsNames_112 rfl (lv_at hl 0 rfl) ?_
    refine r_get C hR 9 0 27 (v := .ref (a 79 0)) (lv0 (by decide) (by decide)) (by decide) (by decide) rfl fl_X9_55 dX9_tellsNames_113 ?_
    refine lv_iconst (v := 4) hx hb dX9_tellsNames_116 (by decide) ?_
    refine lv_aload_n hx hb dX9_tellsNames_117 rfl (lv_at hl 0 rfl) ?_
    refine lv_iload hx hb dX9_tellsNames_118 (lv_at hl 4 rfl) ?_
    refine lv_iload_n hx hb dX9_tellsNames_120 rfl (lv_at hl 2 rfl) ?_
    refine lv_iload_n hx hb dX9_tellsNames_121 rfl (lv_at hl 3 rfl) ?_
    obtain ⟨x124, hc123, h⟩ := ob h
    refine r_callV1 (As := [.int x103, .int x2, .int x3]) (rest := [.int 4, .ref (a 79 0)]) (r := 9) (i := 0) C (vX9_paceOf hc123) hR hS (lv0 (by decide) (by decide)) (by decide) ml_X9_272 mw_X9_paceOf rfl ⟨Nat.le_of_ble_eq_true rfl, Nat.le_of_ble_eq_true rfl, Nat.le_of_ble_eq_true rfl, Nat.le_of_ble_eq_true rfl⟩ hl.1 rfl (Nat.le_of_ble_eq_true rfl) dX9_tellsNames_122 (fun H locs hR hS => ?_)
    refine lv_aload_n hx hb dX9_tellsNames_125 rfl (lv_at hl 0 rfl) ?_
    refine r_get C hR 9 0 40 (v := .int (gI u122 9 0 40)) (lv0 (by decide) (by decide)) (by decide) (by decide) rfl fl_X9_73 dX9_tellsNames_126 ?_
    obtain ⟨_, hn125, h⟩ := ob h
    refine lv_idiv hx hb dX9_tellsNames_129 (nz_ne hn125) ?_
    obtain ⟨k126, hk126, h⟩ := ob h
    refine r_ast C hR hS 79 0 (lv0 (by decide) (by decide)) (by decide) rfl (fun _ _ => rfl) rfl hk126 dX9_tellsNames_130 (fun H locs hR hS => ?_)
    obtain ⟨u127, eu127⟩ : ∃ z : HS, z = wI u122 79 0 k126 (x124 / (gI u122 9 0 40)) := ⟨_, rfl⟩
    rw [← eu127] at hR
    replace h := bd_x eu127 h
    clear eu127
    refine lv_aload_n hx hb dX9_tellsNames_131 rfl (lv_at hl 0 rfl) ?_
    refine r_get C hR 9 0 27 (v := .ref (a 79 0)) (lv0 (by decide) (by decide)) (by decide) (by decide) rfl fl_X9_55 dX9_tellsNames_132 ?_
    refine lv_iconst (v := 5) hx hb dX9_tellsNames_135 (by decide) ?_
    refine lv_aload_n hx hb dX9_tellsNames_136 rfl (lv_at hl 0 rfl) ?_
    refine lv_iload_n hx hb dX9_tellsNames_137 rfl (lv_at hl 1 rfl) ?_
    refine lv_iload_n hx hb dX9_tellsNames_138 rfl (lv_at hl 3 rfl) ?_
    obtain ⟨x129, hc128, h⟩ := ob h
    refine r_callV1 (As := [.int x1, .int x3]) (rest := [.int 5, .ref (a 79 0)]) (r := 9) (i := 0) C (vX9_fullOf hc128) hR hS (lv0 (by decide) (by decide)) (by decide) ml_X9_323 mw_X9_fullOf rfl ⟨Nat.le_of_ble_eq_true rfl, Nat.le_of_ble_eq_true rfl, Nat.le_of_ble_eq_true rfl, Nat.le_of_ble_eq_true rfl⟩ hl.1 rfl (Nat.le_of_ble_eq_true rfl) dX9_tellsNames_139 (fun H locs hR hS => ?_)
    obtain ⟨k130, hk130, h⟩ := ob h
    refine r_ast C hR hS 79 0 (lv0 (by decide) (by decide)) (by decide) rfl (fun _ _ => rfl) rfl hk130 dX9_tellsNames_142 (fun H locs hR hS => ?_)
    obtain ⟨u131, eu131⟩ : ∃ z : HS, z = wI u127 79 0 k130 x129 := ⟨_, rfl⟩
    rw [← eu131] at hR
    replace h := bd_x eu131 h
    clear eu131
    refine lv_aload_n hx hb dX9_tellsNames_143 rfl (lv_at hl 0 rfl) ?_
    refine r_get C hR 9 0 27 (v := .ref (a 79 0)) (lv0 (by decide) (by decide)) (by decide) (by decide) rfl fl_X9_55 dX9_tellsNames_144 ?_
    refine lv_bipush (v := 6) hx hb dX9_tellsNames_147 (by decide) ?_
    refine lv_aload_n hx hb dX9_tellsNames_149 rfl (lv_at hl 0 rfl) ?_
    refine lv_iload hx hb dX9_tellsNames_150 (lv_at hl 4 rfl) ?_
    obtain ⟨x133, hc132, h⟩ := ob h
    refine r_callV1 (As := [.int x103]) (rest := [.int 6, .ref (a 79 0)]) (r := 9) (i := 0) C (vX9_oddOf hc132) hR hS (lv0 (by decide) (by decide)) (by decide) ml_X9_263 mw_X9_oddOf rfl ⟨Nat.le_of_ble_eq_true rfl, Nat.le_of_ble_eq_true rfl, Nat.le_of_ble_eq_true rfl, Nat.le_of_ble_eq_true rfl⟩ hl.1 rfl (Nat.le_of_ble_eq_true rfl) dX9_tellsNames_152 (fun H locs hR hS => ?_)
    refine lv_iload_n hx hb dX9_tellsNames_155 rfl (lv_at hl 2 rfl) ?_
    obtain ⟨x134, hz, h⟩ := ob h
    have Kj135 : ∀ (H : Heap) (locs : List Loc) (ls : Array Slot), Rel E a u131 H → va_S (AE E) s.heap H locs → lv_has ls 7 [(0, .ref (a 9 0)), (1, .int x1), (2, .int x2), (3, .int x3), (4, .int x103), (5, .ref (a 71 k106))] → W p l e { frames := 6, cells := 0, slots := 0, locals := 148 } s m args below meth c H locs 0 0 (MQ below (QW E a none out) args s 0 0 (AE E)) (F0 m 164 ls [.int x134, .int 6, .ref (a 79 0)]) := by
      intro H locs ls hR hS hl
      clear hz
      obtain ⟨k136, hk136, h⟩ := ob h
      refine r_ast C hR hS 79 0 (lv0 (by decide) (by decide)) (by decide) rfl (fun _ _ => rfl) rfl hk136 dX9_tellsNames_164 (fun H locs hR hS => ?_)
      obtain ⟨u137, eu137⟩ : ∃ z : HS, z = wI u131 79 0 k136 x134 := ⟨_, rfl⟩
      rw [← eu137] at hR
      replace h := bd_x eu137 h
      clear eu137
      refine lv_aload_n hx hb dX9_tellsNames_165 rfl (lv_at hl 0 rfl) ?_
      refine r_get C hR 9 0 27 (v := .ref (a 79 0)) (lv0 (by decide) (by decide)) (by decide) (by decide) rfl fl_X9_55 dX9_tellsNames_166 ?_
      refine lv_bipush (v := 7) hx hb dX9_tellsNames_169 (by decide) ?_
      refine lv_aload hx hb dX9_tellsNames_171 (lv_at hl 5 rfl) ?_
      refine lv_iconst (v := 4) hx hb dX9_tellsNames_173 (by decide) ?_
      obtain ⟨k138, hk138, h⟩ := ob h
      refine r_ald C hR 71 k106 (lv0 hLk106 (by decide)) (by decide) rfl (fun _ => rfl) rfl hk138 dX9_tellsNames_174 ?_
      obtain ⟨k139, hk139, h⟩ := ob h
      refine r_ast C hR hS 79 0 (lv0 (by decide) (by decide)) (by decide) rfl (fun _ _ => rfl) rfl hk139 dX9_tellsNames_175 (fun H locs hR hS => ?_)
      obtain ⟨u140, eu140⟩ : ∃ z : HS, z = wI u137 79 0 k139 (gI u137 71 k106 k138) := ⟨_, rfl⟩
      rw [← eu140] at hR
      replace h := bd_x eu140 h
      clear eu140
      refine lv_aload_n hx hb dX9_tellsNames_176 rfl (lv_at hl 0 rfl) ?_
      refine r_get C hR 9 0 27 (v := .ref (a 79 0)) (lv0 (by decide) (by decide)) (by decide) (by decide) rfl fl_X9_55 dX9_tellsNames_177 ?_
      refine lv_bipush (v := 8) hx hb dX9_tellsNames_180 (by decide) ?_
      refine lv_aload_n hx hb dX9_tellsNames_182 rfl (lv_at hl 0 rfl) ?_
      refine lv_iload hx hb dX9_tellsNames_183 (lv_at hl 4 rfl) ?_
      refine lv_iload_n hx hb dX9_tellsNames_185 rfl (lv_at hl 2 rfl) ?_
      refine lv_iload_n hx hb dX9_tellsNames_186 rfl (lv_at hl 3 rfl) ?_
      obtain ⟨x142, hc141, h⟩ := ob h
      refine r_callV1 (As := [.int x103, .int x2, .int x3]) (rest := [.int 8, .ref (a 79 0)]) (r := 9) (i := 0) C (vX9_isChanged hc141) hR hS (lv0 (by decide) (by decide)) (by decide) ml_X9_275 mw_X9_isChanged rfl ⟨Nat.le_of_ble_eq_true rfl, Nat.le_of_ble_eq_true rfl, Nat.le_of_ble_eq_true rfl, Nat.le_of_ble_eq_true rfl⟩ hl.1 rfl (Nat.le_of_ble_eq_true rfl) dX9_tellsNames_187 (fun H locs hR hS => ?_)
      obtain ⟨x143, hz, h⟩ := ob h
      have Kj144 : ∀ (H : Heap) (locs : List Loc) (ls : Array Slot), Rel E a u140 H → va_S (AE E) s.heap H locs → lv_has ls 7 [(0, .ref (a 9 0)), (1, .int x1), (3, .int x3)] → W p l e { frames := 6, cells := 0, slots := 0, locals := 148 } s m args below meth c H locs 0 0 (MQ below (QW E a none out) args s 0 0 (AE E)) (F0 m 198 ls [.int x143, .int 8, .ref (a 79 0)]) := by
        intro H locs ls hR hS hl
        clear hz
        obtain ⟨k145, hk145, h⟩ := ob h
        refine r_ast C hR hS 79 0 (lv0 (by decide) (by decide)) (by decide) rfl (fun _ _ => rfl) rfl hk145 dX9_tellsNames_198 (fun H locs hR hS => ?_)
        obtain ⟨u146, eu146⟩ : ∃ z : HS, z = wI u140 79 0 k145 x143 := ⟨_, rfl⟩
        rw [← eu146] at hR
        replace h := bd_x eu146 h
        clear eu146
        refine lv_aload_n hx hb dX9_tellsNames_199 rfl (lv_at hl 0 rfl) ?_
        refine r_get C hR 9 0 27 (v := .ref (a 79 0)) (lv0 (by decide) (by decide)) (by decide) (by decide) rfl fl_X9_55 dX9_tellsNames_200 ?_
        refine lv_bipush (v := 9) hx hb dX9_tellsNames_203 (by decide) ?_
        refine lv_aload_n hx hb dX9_tellsNames_205 rfl (lv_at hl 0 rfl) ?_
        refine r_get C hR 9 0 33 (v := .ref (a 80 0)) (lv0 (by decide) (by decide)) (by decide) (by decide) rfl fl_X9_61 dX9_tellsNames_206 ?_
        refine lv_iload_n hx hb dX9_tellsNames_209 rfl (lv_at hl 1 rfl) ?_
        obtain ⟨k147, hk147, h⟩ := ob h
        have hLk147 : k147 < cntS 81 := by have q1 := (ck_in hk147).2.2; have q2 : cntS 81 = 15 := rfl; omega
        refine r_aald C hR 80 0 81 0 6 (lv0 (by decide) (by decide)) (by decide) rfl rfl rfl (fun _ => rfl) rfl hk147 dX9_tellsNames_210 ?_
        refine lv_iconst (v := 2) hx hb dX9_tellsNames_211 (by decide) ?_
        obtain ⟨k148, hk148, h⟩ := ob h
        refine r_ald C hR 81 k147 (lv0 hLk147 (by decide)) (by decide) rfl (fun _ => rfl) rfl hk148 dX9_tellsNames_212 ?_
        obtain ⟨k149, hk149, h⟩ := ob h
        refine r_ast C hR hS 79 0 (lv0 (by decide) (by decide)) (by decide) rfl (fun _ _ => rfl) rfl hk149 dX9_tellsNames_213 (fun H locs hR hS => ?_)
        obtain ⟨u150, eu150⟩ : ∃ z : HS, z = wI u146 79 0 k149 (gI u146 81 k147 k148) := ⟨_, rfl⟩
        rw [← eu150] at hR
        replace h := bd_x eu150 h
        clear eu150
        refine lv_aload_n hx hb dX9_tellsNames_214 rfl (lv_at hl 0 rfl) ?_
        refine r_get C hR 9 0 27 (v := .ref (a 79 0)) (lv0 (by decide) (by decide)) (by decide) (by decide) rfl fl_X9_55 dX9_tellsNames_215 ?_
        refine lv_bipush (v := 10) hx hb dX9_tellsNames_218 (by decide) ?_
        refine lv_iload_n hx hb dX9_tellsNames_220 rfl (lv_at hl 2 rfl) ?_
        obtain ⟨k151, hk151, h⟩ := ob h
        refine r_ast C hR hS 79 0 (lv0 (by decide) (by decide)) (by decide) rfl (fun _ _ => rfl) rfl hk151 dX9_tellsNames_221 (fun H locs hR hS => ?_)
        obtain ⟨u152, eu152⟩ : ∃ z : HS, z = wI u150 79 0 k151 x3 := ⟨_, rfl⟩
        rw [← eu152] at hR
        replace h := bd_x eu152 h
        clear eu152
        cases h
        exact e_vret C hr hR hS (Nat.le_of_ble_eq_true rfl) (Nat.le_of_ble_eq_true rfl) dX9_tellsNames_222
      clear h
      have h := hz
      clear hz
      refine lv_if_eq (tgt := 197) hx hb dX9_tellsNames_190 (by decide) (fun c_153 => ?_) (fun c_153 => ?_)
      · rw [if_pos c_153] at h
        refine lv_iconst (v := 0) hx hb dX9_tellsNames_197 (by decide) ?_
        cases h
        exact Kj144 _ _ _ hR hS (lv_sub hl [0, 1, 3] rfl)
      · rw [if_neg c_153] at h
        refine lv_iconst (v := 1) hx hb dX9_tellsNames_193 (by decide) ?_
        refine lv_goto (tgt := 198) hx hb dX9_tellsNames_194 (by decide) ?_
        cases h
        exact Kj144 _ _ _ hR hS (lv_sub hl [0, 1, 3] rfl)
    clear h
    have h := hz
    clear hz
    refine lv_icmp_ne (tgt := 163) hx hb dX9_tellsNames_156 (by decide) (fun c_154 => ?_) (fun c_154 => ?_)
    · rw [if_neg c_154] at h
      refine lv_iconst (v := 0) hx hb dX9_tellsNames_163 (by decide) ?_
      cases h
      exact Kj135 _ _ _ hR hS (lv_sub hl [0, 1, 2, 3, 4, 5] rfl)
    · rw [if_pos c_154] at h
      refine lv_iconst (v := 1) hx hb dX9_tellsNames_159 (by decide) ?_
      refine lv_goto (tgt := 164) hx hb dX9_tellsNames_160 (by decide) ?_
      cases h
      exact Kj135 _ _ _ hR hS (lv_sub hl [0, 1, 2, 3, 4, 5] rfl)
  clear h
  have h := hz
  clear hz
  refine lv_if_le (tgt := 97) hx hb dX9_tellsNames_87 (by decide) (fun c_155 => ?_) (fun c_155 => ?_)
  · rw [if_pos c_155] at h
    refine lv_aload_n hx hb dX9_tellsNames_97 rfl (lv_at hl 3 rfl) ?_
    refine r_get C hR 9 0 20 (v := .ref (a 68 0)) (lv0 (by decide) (by decide)) (by decide) (by decide) rfl fl_X9_34 dX9_tellsNames_98 ?_
    refine lv_bipush (v := 8) hx hb dX9_tellsNames_101 (by decide) ?_
    refine lv_iload hx hb dX9_tellsNames_103 (lv_at hl 2 rfl) ?_
    refine lv_imul hx hb dX9_tellsNames_105 ?_
    refine lv_iload_n hx hb dX9_tellsNames_106 rfl (lv_at hl 5 rfl) ?_
    refine lv_iadd hx hb dX9_tellsNames_107 ?_
    obtain ⟨k156, hk156, h⟩ := ob h
    have hLk156 : k156 < cntS 69 := by have q1 := (ck_in hk156).2.2; have q2 : cntS 69 = 48 := rfl; omega
    refine r_aald C hR 68 0 69 0 6 (lv0 (by decide) (by decide)) (by decide) rfl rfl rfl (fun _ => rfl) rfl hk156 dX9_tellsNames_108 ?_
    refine lv_iconst (v := 1) hx hb dX9_tellsNames_109 (by decide) ?_
    obtain ⟨k157, hk157, h⟩ := ob h
    refine r_ald C hR 69 k156 (lv0 hLk156 (by decide)) (by decide) rfl (fun _ => rfl) rfl hk157 dX9_tellsNames_110 ?_
    cases h
    exact Kj120 _ _ _ hR hS (lv_sub hl [3, 4, 5, 6, 2, 1] rfl)
  · rw [if_neg c_155] at h
    refine lv_aload_n hx hb dX9_tellsNames_90 rfl (lv_at hl 3 rfl) ?_
    refine r_get C hR 9 0 38 (v := .int (gI u118 9 0 38)) (lv0 (by decide) (by decide)) (by decide) (by decide) rfl fl_X9_320 dX9_tellsNames_91 ?_
    refine lv_goto (tgt := 111) hx hb dX9_tellsNames_94 (by decide) ?_
    cases h
    exact Kj120 _ _ _ hR hS (lv_sub hl [3, 4, 5, 6, 2, 1] rfl)
set_option maxHeartbeats 4000000 in
set_option maxRecDepth 100000 in
theorem vX9_isThing {l : Launch} {E : EV} {a : Nat → Nat → Nat} {u0 : HS} {x1 : Int32} {x2 : Int32} {out : Int32} (h : mX9_isThing u0 x1 x2 = some out) : Ct l E yX9_isThing cX9_isThing 3 (some .boolean) 1 22 0 0 a u0 [.ref (a 9 0), .int x1, .int x2] (some (.int out)) u0 := by
  refine Ct.start (by decide) (Nat.le_of_ble_eq_true rfl) ?_
  intro p e s m args below meth c ls C hr hR hS hl
  have C : Cx E p s m args meth c cX9_isThing 3 RX9 := C
  have hl : lv_has ls 3 [(0, .ref (a 9 0)), (1, .int x1), (2, .int x2)] := hl
  have hx := C.1
  have hb := C.2.1
  unfold mX9_isThing at h
  refine lv_iload_n hx hb dX9_isThing_0 rfl (lv_at hl 2 rfl) ?_
  refine lv_iconst (v := 0) hx hb dX9_isThing_1 (by decide) ?_
  refine lv_aload_n hx hb dX9_isThing_2 rfl (lv_at hl 0 rfl) ?_
  refine r_get C hR 9 0 19 (v := .ref (a 67 0)) (lv0 (by decide) (by decide)) (by decide) (by decide) rfl fl_X9_31 dX9_isThing_3 ?_
  refine lv_aload_n hx hb dX9_isThing_6 rfl (lv_at hl 0 rfl) ?_
  refine r_get C hR 9 0 33 (v := .ref (a 80 0)) (lv0 (by decide) (by decide)) (by decide) (by decide) rfl fl_X9_61 dX9_isThing_7 ?_
  refine lv_iload_n hx hb dX9_isThing_10 rfl (lv_at hl 1 rfl) ?_
  obtain ⟨k101, hk101, h⟩ := ob h
  have hLk101 : k101 < cntS 81 := by have q1 := (ck_in hk101).2.2; have q2 : cntS 81 = 15 := rfl; omega
  refine r_aald C hR 80 0 81 0 6 (lv0 (by decide) (by decide)) (by decide) rfl rfl rfl (fun _ => rfl) rfl hk101 dX9_isThing_11 ?_
  refine lv_iconst (v := 0) hx hb dX9_isThing_12 (by decide) ?_
  obtain ⟨k102, hk102, h⟩ := ob h
  refine r_ald C hR 81 k101 (lv0 hLk101 (by decide)) (by decide) rfl (fun _ => rfl) rfl hk102 dX9_isThing_13 ?_
  obtain ⟨k103, hk103, h⟩ := ob h
  refine r_ald C hR 67 0 (lv0 (by decide) (by decide)) (by decide) rfl (fun _ => rfl) rfl hk103 dX9_isThing_14 ?_
  refine lv_iconst (v := 1) hx hb dX9_isThing_15 (by decide) ?_
  refine lv_isub hx hb dX9_isThing_16 ?_
  obtain ⟨x105, hc104, h⟩ := ob h
  refine r_callS1 (As := [.int x2, .int 0, .int ((gI u0 67 0 k103) - 1)]) (rest := []) C (vX9_in hc104) hR hS ml_X9_113 ms_X9_in rfl ⟨Nat.le_of_ble_eq_true rfl, Nat.le_of_ble_eq_true rfl, Nat.le_of_ble_eq_true rfl, Nat.le_of_ble_eq_true rfl⟩ hl.1 rfl (Nat.le_of_ble_eq_true rfl) dX9_isThing_17 (fun H locs hR hS => ?_)
  obtain ⟨_, hz106, h⟩ := ob h
  cases h
  exact e_zret C hr (zb_narrow hz106) hR hS (Nat.le_of_ble_eq_true rfl) (Nat.le_of_ble_eq_true rfl) dX9_isThing_20
set_option maxHeartbeats 4000000 in
set_option maxRecDepth 100000 in
theorem vX9_name {l : Launch} {E : EV} {a : Nat → Nat → Nat} {u0 : HS} {x1 : Int32} {x2 : Int32} {x3 : Int32} {x4 : Int32} {out : (Int32 × HS)} (h : mX9_name u0 x1 x2 x3 x4 = some out) : Ct l E yX9_name cX9_name 5 (some .int) 7 174 0 0 a u0 [.ref (a 9 0), .int x1, .int x2, .int x3, .int x4] (some (.int out.1)) out.2 := by
  refine Ct.start (by decide) (Nat.le_of_ble_eq_true rfl) ?_
  intro p e s m args below meth c ls C hr hR hS hl
  have C : Cx E p s m args meth c cX9_name 5 RX9 := C
  have hl : lv_has ls 5 [(0, .ref (a 9 0)), (1, .int x1), (2, .int x2), (3, .int x3), (4, .int x4)] := hl
  have hx := C.1
  have hb := C.2.1
  unfold mX9_name at h
  refine lv_aload_n hx hb dX9_name_0 rfl (lv_at hl 0 rfl) ?_
  refine lv_iconst (v := 0) hx hb dX9_name_1 (by decide) ?_
  refine r_putI (ty := .int) C hR hS 9 0 0 (lv0 (by decide) (by decide)) (by decide) (by decide) (fun _ => rfl) fl_X9_76 (by decide) (by decide +kernel) rfl rfl dX9_name_2 (fun H locs hR hS => ?_)
  obtain ⟨u101, eu101⟩ : ∃ z : HS, z = wI u0 9 0 0 0 := ⟨_, rfl⟩
  rw [← eu101] at hR
  replace h := bd_x eu101 h
  clear eu101
  refine lv_aload_n hx hb dX9_name_5 rfl (lv_at hl 0 rfl) ?_
  refine lv_aload_n hx hb dX9_name_6 rfl (lv_at hl 0 rfl) ?_
  refine lv_iload_n hx hb dX9_name_7 rfl (lv_at hl 1 rfl) ?_
  obtain ⟨x103, hc102, h⟩ := ob h
  refine r_callV1 (As := [.int x1]) (rest := [.ref (a 9 0)]) (r := 9) (i := 0) C (vX9_isLooker hc102) hR hS (lv0 (by decide) (by decide)) (by decide) ml_X9_295 mw_X9_isLooker rfl ⟨Nat.le_of_ble_eq_true rfl, Nat.le_of_ble_eq_true rfl, Nat.le_of_ble_eq_true rfl, Nat.le_of_ble_eq_true rfl⟩ hl.1 rfl (Nat.le_of_ble_eq_true rfl) dX9_name_8 (fun H locs hR hS => ?_)
  obtain ⟨x104, hz, h⟩ := ob h
  have Kj105 : ∀ (H : Heap) (locs : List Loc) (ls : Array Slot), Rel E a u101 H → va_S (AE E) s.heap H locs → lv_has ls 5 [(0, .ref (a 9 0)), (1, .int x1), (2, .int x2), (3, .int x3), (4, .int x4)] → W p l e { frames := 7, cells := 0, slots := 0, locals := 174 } s m args below meth c H locs 0 0 (MQ below (QW E a (some (.int out.1)) out.2) args s 0 0 (AE E)) (F0 m 19 ls [.int x104, .ref (a 9 0)]) := by
    intro H locs ls hR hS hl
    clear hz
    refine lv_iconst (v := 1) hx hb dX9_name_19 (by decide) ?_
    obtain ⟨⟨x107, u108⟩, hc106, h⟩ := ob h
    replace h := bd_x (x := x107) rfl h
    replace h := bd_x (x := u108) rfl h
    refine r_callV1 (As := [.int x104, .int 1]) (rest := []) (r := 9) (i := 0) C (vX9_bad hc106) hR hS (lv0 (by decide) (by decide)) (by decide) ml_X9_162 mw_X9_bad rfl ⟨Nat.le_of_ble_eq_true rfl, Nat.le_of_ble_eq_true rfl, Nat.le_of_ble_eq_true rfl, Nat.le_of_ble_eq_true rfl⟩ hl.1 rfl (Nat.le_of_ble_eq_true rfl) dX9_name_20 (fun H locs hR hS => ?_)
    refine lv_if_ne (tgt := 70) hx hb dX9_name_23 (by decide) (fun c_109 => ?_) (fun c_109 => ?_)
    · rw [if_neg c_109] at h
      refine lv_iconst (v := 0) hx hb dX9_name_70 (by decide) ?_
      cases h
      exact e_iret C hr hR hS (Nat.le_of_ble_eq_true rfl) (Nat.le_of_ble_eq_true rfl) dX9_name_71
    · rw [if_pos c_109] at h
      refine lv_aload_n hx hb dX9_name_26 rfl (lv_at hl 0 rfl) ?_
      refine lv_aload_n hx hb dX9_name_27 rfl (lv_at hl 0 rfl) ?_
      refine lv_iload_n hx hb dX9_name_28 rfl (lv_at hl 1 rfl) ?_
      refine lv_iload_n hx hb dX9_name_29 rfl (lv_at hl 2 rfl) ?_
      obtain ⟨x111, hc110, h⟩ := ob h
      refine r_callV1 (As := [.int x1, .int x2]) (rest := [.ref (a 9 0)]) (r := 9) (i := 0) C (vX9_isThing hc110) hR hS (lv0 (by decide) (by decide)) (by decide) ml_X9_326 mw_X9_isThing rfl ⟨Nat.le_of_ble_eq_true rfl, Nat.le_of_ble_eq_true rfl, Nat.le_of_ble_eq_true rfl, Nat.le_of_ble_eq_true rfl⟩ hl.1 rfl (Nat.le_of_ble_eq_true rfl) dX9_name_30 (fun H locs hR hS => ?_)
      obtain ⟨x112, hz, h⟩ := ob h
      have Kj113 : ∀ (H : Heap) (locs : List Loc) (ls : Array Slot), Rel E a u108 H → va_S (AE E) s.heap H locs → lv_has ls 5 [(0, .ref (a 9 0)), (1, .int x1), (2, .int x2), (3, .int x3), (4, .int x4)] → W p l e { frames := 7, cells := 0, slots := 0, locals := 174 } s m args below meth c H locs 0 0 (MQ below (QW E a (some (.int out.1)) out.2) args s 0 0 (AE E)) (F0 m 63 ls [.int x112, .ref (a 9 0)]) := by
        intro H locs ls hR hS hl
        clear hz
        refine lv_iconst (v := 1) hx hb dX9_name_63 (by decide) ?_
        obtain ⟨⟨x115, u116⟩, hc114, h⟩ := ob h
        replace h := bd_x (x := x115) rfl h
        replace h := bd_x (x := u116) rfl h
        refine r_callV1 (As := [.int x112, .int 1]) (rest := []) (r := 9) (i := 0) C (vX9_bad hc114) hR hS (lv0 (by decide) (by decide)) (by decide) ml_X9_162 mw_X9_bad rfl ⟨Nat.le_of_ble_eq_true rfl, Nat.le_of_ble_eq_true rfl, Nat.le_of_ble_eq_true rfl, Nat.le_of_ble_eq_true rfl⟩ hl.1 rfl (Nat.le_of_ble_eq_true rfl) dX9_name_64 (fun H locs hR hS => ?_)
        refine lv_if_eq (tgt := 72) hx hb dX9_name_67 (by decide) (fun c_117 => ?_) (fun c_117 => ?_)
        · rw [if_pos c_117] at h
          refine lv_aload_n hx hb dX9_name_72 rfl (lv_at hl 0 rfl) ?_
          refine lv_iload_n hx hb dX9_name_73 rfl (lv_at hl 1 rfl) ?_
          refine lv_iload_n hx hb dX9_name_74 rfl (lv_at hl 2 rfl) ?_
          refine lv_iload_n hx hb dX9_name_75 rfl (lv_at hl 3 rfl) ?_
          obtain ⟨u119, hc118, h⟩ := ob h
          refine r_callV0 (As := [.int x1, .int x2, .int x3]) (rest := []) (r := 9) (i := 0) C (vX9_tellsNames hc118) hR hS (lv0 (by decide) (by decide)) (by decide) ml_X9_329 mw_X9_tellsNames rfl ⟨Nat.le_of_ble_eq_true rfl, Nat.le_of_ble_eq_true rfl, Nat.le_of_ble_eq_true rfl, Nat.le_of_ble_eq_true rfl⟩ hl.1 rfl (Nat.le_of_ble_eq_true rfl) dX9_name_76 (fun H locs hR hS => ?_)
          refine lv_aload_n hx hb dX9_name_79 rfl (lv_at hl 0 rfl) ?_
          refine r_get C hR 9 0 27 (v := .ref (a 79 0)) (lv0 (by decide) (by decide)) (by decide) (by decide) rfl fl_X9_55 dX9_name_80 ?_
          refine lv_iload hx hb dX9_name_83 (lv_at hl 4 rfl) ?_
          obtain ⟨k120, hk120, h⟩ := ob h
          refine r_ald C hR 79 0 (lv0 (by decide) (by decide)) (by decide) rfl (fun _ => rfl) rfl hk120 dX9_name_85 ?_
          cases h
          exact e_iret C hr hR hS (Nat.le_of_ble_eq_true rfl) (Nat.le_of_ble_eq_true rfl) dX9_name_86
        · rw [if_neg c_117] at h
          refine lv_iconst (v := 0) hx hb dX9_name_70 (by decide) ?_
          cases h
          exact e_iret C hr hR hS (Nat.le_of_ble_eq_true rfl) (Nat.le_of_ble_eq_true rfl) dX9_name_71
      clear h
      have h := hz
      clear hz
      refine jp_cut h (fun j121 hj121 h => ?_)
      have Kj121 : ∀  (H : Heap) (locs : List Loc) (ls : Array Slot), j121 = some x112 → Rel E a u108 H → va_S (AE E) s.heap H locs → lv_has ls 5 [(0, .ref (a 9 0)), (1, .int x1), (2, .int x2), (3, .int x3), (4, .int x4)] → W p l e { frames := 7, cells := 0, slots := 0, locals := 174 } s m args below meth c H locs 0 0 (MQ below (QW E a (some (.int out.1)) out.2) args s 0 0 (AE E)) (F0 m 58 ls [.ref (a 9 0)]) := by
        intro  H locs ls h hR hS hl
        replace h := jx0 hj121 h
        refine lv_iconst (v := 1) hx hb dX9_name_58 (by decide) ?_
        refine lv_goto (tgt := 63) hx hb dX9_name_59 (by decide) ?_
        cases h
        exact Kj113 _ _ _ hR hS (lv_sub hl [0, 1, 2, 3, 4] rfl)
      refine lv_if_eq (tgt := 58) hx hb dX9_name_33 (by decide) (fun c_122 => ?_) (fun c_122 => ?_)
      · rw [if_pos c_122] at h
        exact Kj121  _ _ _ h hR hS (lv_sub hl [0, 1, 2, 3, 4] rfl)
      · rw [if_neg c_122] at h
        refine lv_iload_n hx hb dX9_name_36 rfl (lv_at hl 3 rfl) ?_
        refine lv_iconst (v := 0) hx hb dX9_name_37 (by decide) ?_
        refine lv_sipush (v := 299) hx hb dX9_name_38 (by decide) ?_
        obtain ⟨x124, hc123, h⟩ := ob h
        refine r_callS1 (As := [.int x3, .int 0, .int 299]) (rest := [.ref (a 9 0)]) C (vX9_in hc123) hR hS ml_X9_113 ms_X9_in rfl ⟨Nat.le_of_ble_eq_true rfl, Nat.le_of_ble_eq_true rfl, Nat.le_of_ble_eq_true rfl, Nat.le_of_ble_eq_true rfl⟩ hl.1 rfl (Nat.le_of_ble_eq_true rfl) dX9_name_41 (fun H locs hR hS => ?_)
        refine lv_if_eq (tgt := 58) hx hb dX9_name_44 (by decide) (fun c_125 => ?_) (fun c_125 => ?_)
        · rw [if_pos c_125] at h
          exact Kj121  _ _ _ h hR hS (lv_sub hl [0, 1, 2, 3, 4] rfl)
        · rw [if_neg c_125] at h
          refine lv_iload hx hb dX9_name_47 (lv_at hl 4 rfl) ?_
          refine lv_iconst (v := 0) hx hb dX9_name_49 (by decide) ?_
          refine lv_bipush (v := 10) hx hb dX9_name_50 (by decide) ?_
          obtain ⟨x127, hc126, h⟩ := ob h
          refine r_callS1 (As := [.int x4, .int 0, .int 10]) (rest := [.ref (a 9 0)]) C (vX9_in hc126) hR hS ml_X9_113 ms_X9_in rfl ⟨Nat.le_of_ble_eq_true rfl, Nat.le_of_ble_eq_true rfl, Nat.le_of_ble_eq_true rfl, Nat.le_of_ble_eq_true rfl⟩ hl.1 rfl (Nat.le_of_ble_eq_true rfl) dX9_name_52 (fun H locs hR hS => ?_)
          refine lv_if_ne (tgt := 62) hx hb dX9_name_55 (by decide) (fun c_128 => ?_) (fun c_128 => ?_)
          · rw [if_neg c_128] at h
            refine lv_iconst (v := 0) hx hb dX9_name_62 (by decide) ?_
            cases h
            exact Kj113 _ _ _ hR hS (lv_sub hl [0, 1, 2, 3, 4] rfl)
          · rw [if_pos c_128] at h
            exact Kj121  _ _ _ h hR hS (lv_sub hl [0, 1, 2, 3, 4] rfl)
  clear h
  have h := hz
  clear hz
  refine lv_if_ne (tgt := 18) hx hb dX9_name_11 (by decide) (fun c_129 => ?_) (fun c_129 => ?_)
  · rw [if_neg c_129] at h
    refine lv_iconst (v := 0) hx hb dX9_name_18 (by decide) ?_
    cases h
    exact Kj105 _ _ _ hR hS (lv_sub hl [0, 1, 2, 3, 4] rfl)
  · rw [if_pos c_129] at h
    refine lv_iconst (v := 1) hx hb dX9_name_14 (by decide) ?_
    refine lv_goto (tgt := 19) hx hb dX9_name_15 (by decide) ?_
    cases h
    exact Kj105 _ _ _ hR hS (lv_sub hl [0, 1, 2, 3, 4] rfl)
set_option maxHeartbeats 4000000 in
set_option maxRecDepth 100000 in
theorem vX9_on {l : Launch} {E : EV} {a : Nat → Nat → Nat} {u0 : HS} {x1 : Int32} {x2 : Int32} {out : (Int32 × HS)} (h : mX9_on u0 x1 x2 = some out) : Ct l E yX9_on cX9_on 6 (some .int) 6 148 0 0 a u0 [.ref (a 9 0), .int x1, .int x2] (some (.int out.1)) out.2 := by
  refine Ct.start (by decide) (Nat.le_of_ble_eq_true rfl) ?_
  intro p e s m args below meth c ls C hr hR hS hl
  have C : Cx E p s m args meth c cX9_on 6 RX9 := C
  have hl : lv_has ls 6 [(0, .ref (a 9 0)), (1, .int x1), (2, .int x2)] := hl
  have hx := C.1
  have hb := C.2.1
  unfold mX9_on at h
  refine lv_aload_n hx hb dX9_on_0 rfl (lv_at hl 0 rfl) ?_
  refine lv_iconst (v := 0) hx hb dX9_on_1 (by decide) ?_
  refine r_putI (ty := .int) C hR hS 9 0 0 (lv0 (by decide) (by decide)) (by decide) (by decide) (fun _ => rfl) fl_X9_76 (by decide) (by decide +kernel) rfl rfl dX9_on_2 (fun H locs hR hS => ?_)
  obtain ⟨u101, eu101⟩ : ∃ z : HS, z = wI u0 9 0 0 0 := ⟨_, rfl⟩
  rw [← eu101] at hR
  replace h := bd_x eu101 h
  clear eu101
  refine lv_aload_n hx hb dX9_on_5 rfl (lv_at hl 0 rfl) ?_
  refine lv_aload_n hx hb dX9_on_6 rfl (lv_at hl 0 rfl) ?_
  refine lv_iload_n hx hb dX9_on_7 rfl (lv_at hl 1 rfl) ?_
  obtain ⟨x103, hc102, h⟩ := ob h
  refine r_callV1 (As := [.int x1]) (rest := [.ref (a 9 0)]) (r := 9) (i := 0) C (vX9_isLooker hc102) hR hS (lv0 (by decide) (by decide)) (by decide) ml_X9_295 mw_X9_isLooker rfl ⟨Nat.le_of_ble_eq_true rfl, Nat.le_of_ble_eq_true rfl, Nat.le_of_ble_eq_true rfl, Nat.le_of_ble_eq_true rfl⟩ hl.1 rfl (Nat.le_of_ble_eq_true rfl) dX9_on_8 (fun H locs hR hS => ?_)
  obtain ⟨x104, hz, h⟩ := ob h
  have Kj105 : ∀ (H : Heap) (locs : List Loc) (ls : Array Slot), Rel E a u101 H → va_S (AE E) s.heap H locs → lv_has ls 6 [(0, .ref (a 9 0)), (1, .int x1), (2, .int x2)] → W p l e { frames := 6, cells := 0, slots := 0, locals := 148 } s m args below meth c H locs 0 0 (MQ below (QW E a (some (.int out.1)) out.2) args s 0 0 (AE E)) (F0 m 29 ls [.int x104, .ref (a 9 0)]) := by
    intro H locs ls hR hS hl
    clear hz
    refine lv_iconst (v := 1) hx hb dX9_on_29 (by decide) ?_
    obtain ⟨⟨x107, u108⟩, hc106, h⟩ := ob h
    replace h := bd_x (x := x107) rfl h
    replace h := bd_x (x := u108) rfl h
    refine r_callV1 (As := [.int x104, .int 1]) (rest := []) (r := 9) (i := 0) C (vX9_bad hc106) hR hS (lv0 (by decide) (by decide)) (by decide) ml_X9_162 mw_X9_bad rfl ⟨Nat.le_of_ble_eq_true rfl, Nat.le_of_ble_eq_true rfl, Nat.le_of_ble_eq_true rfl, Nat.le_of_ble_eq_true rfl⟩ hl.1 rfl (Nat.le_of_ble_eq_true rfl) dX9_on_30 (fun H locs hR hS => ?_)
    refine lv_if_eq (tgt := 38) hx hb dX9_on_33 (by decide) (fun c_109 => ?_) (fun c_109 => ?_)
    · rw [if_pos c_109] at h
      refine lv_aload_n hx hb dX9_on_38 rfl (lv_at hl 0 rfl) ?_
      refine lv_aload_n hx hb dX9_on_39 rfl (lv_at hl 0 rfl) ?_
      refine r_get C hR 9 0 33 (v := .ref (a 80 0)) (lv0 (by decide) (by decide)) (by decide) (by decide) rfl fl_X9_61 dX9_on_40 ?_
      refine lv_iload_n hx hb dX9_on_43 rfl (lv_at hl 1 rfl) ?_
      obtain ⟨k110, hk110, h⟩ := ob h
      have hLk110 : k110 < cntS 81 := by have q1 := (ck_in hk110).2.2; have q2 : cntS 81 = 15 := rfl; omega
      refine r_aald C hR 80 0 81 0 6 (lv0 (by decide) (by decide)) (by decide) rfl rfl rfl (fun _ => rfl) rfl hk110 dX9_on_44 ?_
      refine lv_iconst (v := 0) hx hb dX9_on_45 (by decide) ?_
      obtain ⟨k111, hk111, h⟩ := ob h
      refine r_ald C hR 81 k110 (lv0 hLk110 (by decide)) (by decide) rfl (fun _ => rfl) rfl hk111 dX9_on_46 ?_
      obtain ⟨x113, hc112, h⟩ := ob h
      refine r_callV1 (As := [.int (gI u108 81 k110 k111)]) (rest := []) (r := 9) (i := 0) C (vX9_oddOf hc112) hR hS (lv0 (by decide) (by decide)) (by decide) ml_X9_263 mw_X9_oddOf rfl ⟨Nat.le_of_ble_eq_true rfl, Nat.le_of_ble_eq_true rfl, Nat.le_of_ble_eq_true rfl, Nat.le_of_ble_eq_true rfl⟩ hl.1 rfl (Nat.le_of_ble_eq_true rfl) dX9_on_47 (fun H locs hR hS => ?_)
      refine lv_istore_n (lv' := [(3, .int x113), (0, .ref (a 9 0)), (1, .int x1), (2, .int x2)]) hx hb dX9_on_50 rfl hl (by decide) rfl (fun ls hl => ?_)
      refine lv_iconst (v := 0) hx hb dX9_on_51 (by decide) ?_
      refine lv_istore (lv' := [(4, .int 0), (3, .int x113), (0, .ref (a 9 0)), (1, .int x1), (2, .int x2)]) hx hb dX9_on_52 hl (by decide) rfl (fun ls hl => ?_)
      refine lv_iconst (v := 0) hx hb dX9_on_54 (by decide) ?_
      refine lv_istore (lv' := [(5, .int 0), (4, .int 0), (3, .int x113), (0, .ref (a 9 0)), (1, .int x1), (2, .int x2)]) hx hb dX9_on_55 hl (by decide) rfl (fun ls hl => ?_)
      refine jp_cut h (fun w117 hw117 h => ?_)
      have Kw117 : ∀ (x116 : Int32) (H : Heap) (locs : List Loc) (ls : Array Slot), w117 x116 = some out → Rel E a u108 H → va_S (AE E) s.heap H locs → lv_has ls 6 [(4, .int x116)] → W p l e { frames := 6, cells := 0, slots := 0, locals := 148 } s m args below meth c H locs 0 0 (MQ below (QW E a (some (.int out.1)) out.2) args s 0 0 (AE E)) (F0 m 107 ls []) := by
        intro x116 H locs ls h hR hS hl
        replace h := jx1 hw117 h
        refine lv_iload hx hb dX9_on_107 (lv_at hl 0 rfl) ?_
        cases h
        exact e_iret C hr hR hS (Nat.le_of_ble_eq_true rfl) (Nat.le_of_ble_eq_true rfl) dX9_on_109
      have LP : ∀ (fu : Nat) (x114 : Int32) (x115 : Int32) (H : Heap) (locs : List Loc) (ls : Array Slot), mX9_on_L57 x113 x1 u108 x2 w117 fu x114 x115 = some out → Rel E a u108 H → va_S (AE E) s.heap H locs → lv_has ls 6 [(0, .ref (a 9 0)), (1, .int x1), (2, .int x2), (3, .int x113), (4, .int x114), (5, .int x115)] → W p l e { frames := 6, cells := 0, slots := 0, locals := 148 } s m args below meth c H locs 0 0 (MQ below (QW E a (some (.int out.1)) out.2) args s 0 0 (AE E)) (F0 m 57 ls []) := by
        intro fu
        induction fu with
        | zero =>
          intro x114 x115 H locs ls h
          have h2 : (none : Option (Int32 × HS)) = some out := h
          cases h2
        | succ fu ih =>
          intro x114 x115 H locs ls h hR hS hl
          rw [mX9_on_L57.eq_2] at h
          refine lv_iload_n hx hb dX9_on_57 rfl (lv_at hl 3 rfl) ?_
          refine lv_iconst (v := (-1)) hx hb dX9_on_58 (by decide) ?_
          refine lv_icmp_eq (tgt := 107) hx hb dX9_on_59 (by decide) (fun c_118 => ?_) (fun c_118 => ?_)
          · rw [if_pos c_118] at h
            exact Kw117 _ _ _ _ h hR hS (lv_sub hl [4] rfl)
          · rw [if_neg c_118] at h
            refine lv_iload hx hb dX9_on_62 (lv_at hl 5 rfl) ?_
            refine lv_aload_n hx hb dX9_on_64 rfl (lv_at hl 0 rfl) ?_
            refine lv_aload_n hx hb dX9_on_65 rfl (lv_at hl 0 rfl) ?_
            refine r_get C hR 9 0 33 (v := .ref (a 80 0)) (lv0 (by decide) (by decide)) (by decide) (by decide) rfl fl_X9_61 dX9_on_66 ?_
            refine lv_iload_n hx hb dX9_on_69 rfl (lv_at hl 1 rfl) ?_
            obtain ⟨k119, hk119, h⟩ := ob h
            have hLk119 : k119 < cntS 81 := by have q1 := (ck_in hk119).2.2; have q2 : cntS 81 = 15 := rfl; omega
            refine r_aald C hR 80 0 81 0 6 (lv0 (by decide) (by decide)) (by decide) rfl rfl rfl (fun _ => rfl) rfl hk119 dX9_on_70 ?_
            refine lv_iconst (v := 0) hx hb dX9_on_71 (by decide) ?_
            obtain ⟨k120, hk120, h⟩ := ob h
            refine r_ald C hR 81 k119 (lv0 hLk119 (by decide)) (by decide) rfl (fun _ => rfl) rfl hk120 dX9_on_72 ?_
            obtain ⟨x122, hc121, h⟩ := ob h
            refine r_callV1 (As := [.int (gI u108 81 k119 k120)]) (rest := [.int x115]) (r := 9) (i := 0) C (vX9_endOf hc121) hR hS (lv0 (by decide) (by decide)) (by decide) ml_X9_260 mw_X9_endOf rfl ⟨Nat.le_of_ble_eq_true rfl, Nat.le_of_ble_eq_true rfl, Nat.le_of_ble_eq_true rfl, Nat.le_of_ble_eq_true rfl⟩ hl.1 rfl (Nat.le_of_ble_eq_true rfl) dX9_on_73 (fun H locs hR hS => ?_)
            refine lv_icmp_gt (tgt := 107) hx hb dX9_on_76 (by decide) (fun c_123 => ?_) (fun c_123 => ?_)
            · rw [if_pos c_123] at h
              exact Kw117 _ _ _ _ h hR hS (lv_sub hl [4] rfl)
            · rw [if_neg c_123] at h
              refine lv_iload hx hb dX9_on_79 (lv_at hl 4 rfl) ?_
              refine lv_aload_n hx hb dX9_on_81 rfl (lv_at hl 0 rfl) ?_
              refine lv_iload_n hx hb dX9_on_82 rfl (lv_at hl 1 rfl) ?_
              refine lv_iload_n hx hb dX9_on_83 rfl (lv_at hl 3 rfl) ?_
              refine lv_iload hx hb dX9_on_84 (lv_at hl 5 rfl) ?_
              obtain ⟨x125, hc124, h⟩ := ob h
              refine r_callV1 (As := [.int x1, .int x113, .int x115]) (rest := [.int x114]) (r := 9) (i := 0) C (vX9_nearOf hc124) hR hS (lv0 (by decide) (by decide)) (by decide) ml_X9_317 mw_X9_nearOf rfl ⟨Nat.le_of_ble_eq_true rfl, Nat.le_of_ble_eq_true rfl, Nat.le_of_ble_eq_true rfl, Nat.le_of_ble_eq_true rfl⟩ hl.1 rfl (Nat.le_of_ble_eq_true rfl) dX9_on_86 (fun H locs hR hS => ?_)
              refine lv_iload_n hx hb dX9_on_89 rfl (lv_at hl 2 rfl) ?_
              obtain ⟨x126, hz, h⟩ := ob h
              have Kj127 : ∀ (H : Heap) (locs : List Loc) (ls : Array Slot), Rel E a u108 H → va_S (AE E) s.heap H locs → lv_has ls 6 [(0, .ref (a 9 0)), (1, .int x1), (2, .int x2), (3, .int x113), (5, .int x115)] → W p l e { frames := 6, cells := 0, slots := 0, locals := 148 } s m args below meth c H locs 0 0 (MQ below (QW E a (some (.int out.1)) out.2) args s 0 0 (AE E)) (F0 m 98 ls [.int x126, .int x114]) := by
                intro H locs ls hR hS hl
                clear hz
                refine lv_iadd hx hb dX9_on_98 ?_
                refine lv_topi (fun x128 ex128 => ?_)
                replace h := bd_x ex128 h
                refine lv_istore (lv' := [(4, .int x128), (0, .ref (a 9 0)), (1, .int x1), (2, .int x2), (3, .int x113), (5, .int x115)]) hx hb dX9_on_99 hl (by decide) rfl (fun ls hl => ?_)
                obtain ⟨x129, ex129⟩ : ∃ z : Int32, z = x115 + 1 := ⟨_, rfl⟩
                replace h := bd_x ex129 h
                refine lv_iinc (v := x129) (lv' := [(5, .int x129), (4, .int x128), (0, .ref (a 9 0)), (1, .int x1), (2, .int x2), (3, .int x113)]) hx hb dX9_on_101 hl (k := 5) rfl (by rw [ex129]; rfl) (by decide) rfl (fun ls hl => ?_)
                refine lv_goto (tgt := 57) hx hb dX9_on_104 (by decide) ?_
                exact ih _ _ _ _ _ h hR hS (lv_sub hl [2, 3, 4, 5, 1, 0] rfl)
              clear h
              have h := hz
              clear hz
              refine lv_icmp_gt (tgt := 97) hx hb dX9_on_90 (by decide) (fun c_130 => ?_) (fun c_130 => ?_)
              · rw [if_pos c_130] at h
                refine lv_iconst (v := 0) hx hb dX9_on_97 (by decide) ?_
                cases h
                exact Kj127 _ _ _ hR hS (lv_sub hl [0, 1, 2, 3, 5] rfl)
              · rw [if_neg c_130] at h
                refine lv_iconst (v := 1) hx hb dX9_on_93 (by decide) ?_
                refine lv_goto (tgt := 98) hx hb dX9_on_94 (by decide) ?_
                cases h
                exact Kj127 _ _ _ hR hS (lv_sub hl [0, 1, 2, 3, 5] rfl)
      exact LP FU _ _ _ _ _ h hR hS (lv_sub hl [3, 4, 5, 2, 1, 0] rfl)
    · rw [if_neg c_109] at h
      refine lv_iconst (v := 0) hx hb dX9_on_36 (by decide) ?_
      cases h
      exact e_iret C hr hR hS (Nat.le_of_ble_eq_true rfl) (Nat.le_of_ble_eq_true rfl) dX9_on_37
  clear h
  have h := hz
  clear hz
  refine jp_cut h (fun j131 hj131 h => ?_)
  have Kj131 : ∀  (H : Heap) (locs : List Loc) (ls : Array Slot), j131 = some x104 → Rel E a u101 H → va_S (AE E) s.heap H locs → lv_has ls 6 [(0, .ref (a 9 0)), (1, .int x1), (2, .int x2)] → W p l e { frames := 6, cells := 0, slots := 0, locals := 148 } s m args below meth c H locs 0 0 (MQ below (QW E a (some (.int out.1)) out.2) args s 0 0 (AE E)) (F0 m 24 ls [.ref (a 9 0)]) := by
    intro  H locs ls h hR hS hl
    replace h := jx0 hj131 h
    refine lv_iconst (v := 1) hx hb dX9_on_24 (by decide) ?_
    refine lv_goto (tgt := 29) hx hb dX9_on_25 (by decide) ?_
    cases h
    exact Kj105 _ _ _ hR hS (lv_sub hl [0, 1, 2] rfl)
  refine lv_if_eq (tgt := 24) hx hb dX9_on_11 (by decide) (fun c_132 => ?_) (fun c_132 => ?_)
  · rw [if_pos c_132] at h
    exact Kj131  _ _ _ h hR hS (lv_sub hl [0, 1, 2] rfl)
  · rw [if_neg c_132] at h
    refine lv_iload_n hx hb dX9_on_14 rfl (lv_at hl 2 rfl) ?_
    refine lv_iconst (v := 0) hx hb dX9_on_15 (by decide) ?_
    refine lv_bipush (v := 40) hx hb dX9_on_16 (by decide) ?_
    obtain ⟨x134, hc133, h⟩ := ob h
    refine r_callS1 (As := [.int x2, .int 0, .int 40]) (rest := [.ref (a 9 0)]) C (vX9_in hc133) hR hS ml_X9_113 ms_X9_in rfl ⟨Nat.le_of_ble_eq_true rfl, Nat.le_of_ble_eq_true rfl, Nat.le_of_ble_eq_true rfl, Nat.le_of_ble_eq_true rfl⟩ hl.1 rfl (Nat.le_of_ble_eq_true rfl) dX9_on_18 (fun H locs hR hS => ?_)
    refine lv_if_ne (tgt := 28) hx hb dX9_on_21 (by decide) (fun c_135 => ?_) (fun c_135 => ?_)
    · rw [if_neg c_135] at h
      refine lv_iconst (v := 0) hx hb dX9_on_28 (by decide) ?_
      cases h
      exact Kj105 _ _ _ hR hS (lv_sub hl [0, 1, 2] rfl)
    · rw [if_pos c_135] at h
      exact Kj131  _ _ _ h hR hS (lv_sub hl [0, 1, 2] rfl)
