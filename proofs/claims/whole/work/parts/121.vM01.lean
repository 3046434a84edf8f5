set_option maxHeartbeats 4000000 in
set_option maxRecDepth 100000 in
theorem vX9_task {l : Launch} {E : EV} {a : Nat → Nat → Nat} {u0 : HS} {x1 : Int32} {out : (Int32 × HS)} (h : mX9_task u0 x1 = some out) : Ct l E yX9_task cX9_task 2 (some .int) 6 131 0 0 a u0 [.ref (a 9 0), .int x1] (some (.int out.1)) out.2 := by
  refine Ct.start (by decide) (Nat.le_of_ble_eq_true rfl) ?_
  intro p e s m args below meth c ls C hr hR hS hl
  have C : Cx E p s m args meth c cX9_task 2 RX9 := C
  have hl : lv_has ls 2 [(0, .ref (a 9 0)), (1, .int x1)] := hl
  have hx := C.1
  have hb := C.2.1
  unfold mX9_task at h
  refine lv_aload_n hx hb dX9_task_0 rfl (lv_at hl 0 rfl) ?_
  refine lv_iconst (v := 0) hx hb dX9_task_1 (by decide) ?_
  refine r_putI (ty := .int) C hR hS 9 0 0 (lv0 (by decide) (by decide)) (by decide) (by decide) (fun _ => rfl) fl_X9_76 (by decide) (by decide +kernel) rfl rfl dX9_task_2 (fun H locs hR hS => ?_)
  obtain ⟨u101, eu101⟩ : ∃ z : HS, z = wI u0 9 0 0 0 := ⟨_, rfl⟩
  rw [← eu101] at hR
  replace h := bd_x eu101 h
  clear eu101
  refine lv_aload_n hx hb dX9_task_5 rfl (lv_at hl 0 rfl) ?_
  refine lv_iload_n hx hb dX9_task_6 rfl (lv_at hl 1 rfl) ?_
  refine lv_iconst (v := 0) hx hb dX9_task_7 (by decide) ?_
  refine lv_aload_n hx hb dX9_task_8 rfl (lv_at hl 0 rfl) ?_
  refine r_get C hR 9 0 1 (v := .int (gI u101 9 0 1)) (lv0 (by decide) (by decide)) (by decide) (by decide) rfl fl_X9_79 dX9_task_9 ?_
  refine lv_sipush (v := 200) hx hb dX9_task_12 (by decide) ?_
  obtain ⟨x103, hc102, h⟩ := ob h
  refine r_callS1 (As := [.int (gI u101 9 0 1), .int 200]) (rest := [.int 0, .int x1, .ref (a 9 0)]) C (vX9_less hc102) hR hS ml_X9_182 ms_X9_less rfl ⟨Nat.le_of_ble_eq_true rfl, Nat.le_of_ble_eq_true rfl, Nat.le_of_ble_eq_true rfl, Nat.le_of_ble_eq_true rfl⟩ hl.1 rfl (Nat.le_of_ble_eq_true rfl) dX9_task_15 (fun H locs hR hS => ?_)
  obtain ⟨x105, hc104, h⟩ := ob h
  refine r_callS1 (As := [.int x1, .int 0, .int x103]) (rest := [.ref (a 9 0)]) C (vX9_in hc104) hR hS ml_X9_113 ms_X9_in rfl ⟨Nat.le_of_ble_eq_true rfl, Nat.le_of_ble_eq_true rfl, Nat.le_of_ble_eq_true rfl, Nat.le_of_ble_eq_true rfl⟩ hl.1 rfl (Nat.le_of_ble_eq_true rfl) dX9_task_18 (fun H locs hR hS => ?_)
  obtain ⟨x106, hz, h⟩ := ob h
  have Kj107 : ∀ (H : Heap) (locs : List Loc) (ls : Array Slot), Rel E a u101 H → va_S (AE E) s.heap H locs → lv_has ls 2 [(0, .ref (a 9 0)), (1, .int x1)] → W p l e { frames := 6, cells := 0, slots := 0, locals := 131 } s m args below meth c H locs 0 0 (MQ below (QW E a (some (.int out.1)) out.2) args s 0 0 (AE E)) (F0 m 29 ls [.int x106, .ref (a 9 0)]) := by
    intro H locs ls hR hS hl
    clear hz
    refine lv_iconst (v := 1) hx hb dX9_task_29 (by decide) ?_
    obtain ⟨⟨x109, u110⟩, hc108, h⟩ := ob h
    replace h := bd_x (x := x109) rfl h
    replace h := bd_x (x := u110) rfl h
    refine r_callV1 (As := [.int x106, .int 1]) (rest := []) (r := 9) (i := 0) C (vX9_bad hc108) hR hS (lv0 (by decide) (by decide)) (by decide) ml_X9_162 mw_X9_bad rfl ⟨Nat.le_of_ble_eq_true rfl, Nat.le_of_ble_eq_true rfl, Nat.le_of_ble_eq_true rfl, Nat.le_of_ble_eq_true rfl⟩ hl.1 rfl (Nat.le_of_ble_eq_true rfl) dX9_task_30 (fun H locs hR hS => ?_)
    refine lv_if_eq (tgt := 38) hx hb dX9_task_33 (by decide) (fun c_111 => ?_) (fun c_111 => ?_)
    · rw [if_pos c_111] at h
      refine lv_aload_n hx hb dX9_task_38 rfl (lv_at hl 0 rfl) ?_
      refine lv_iload_n hx hb dX9_task_39 rfl (lv_at hl 1 rfl) ?_
      refine lv_aload_n hx hb dX9_task_40 rfl (lv_at hl 0 rfl) ?_
      refine r_get C hR 9 0 15 (v := .int (gI u110 9 0 15)) (lv0 (by decide) (by decide)) (by decide) (by decide) rfl fl_X9_179 dX9_task_41 ?_
      refine lv_bipush (v := 6) hx hb dX9_task_44 (by decide) ?_
      obtain ⟨x112, hz, h⟩ := ob h
      have Kj113 : ∀ (H : Heap) (locs : List Loc) (ls : Array Slot), Rel E a u110 H → va_S (AE E) s.heap H locs → lv_has ls 2 [(0, .ref (a 9 0))] → W p l e { frames := 6, cells := 0, slots := 0, locals := 131 } s m args below meth c H locs 0 0 (MQ below (QW E a (some (.int out.1)) out.2) args s 0 0 (AE E)) (F0 m 54 ls [.int x112, .int x1, .ref (a 9 0)]) := by
        intro H locs ls hR hS hl
        clear hz
        obtain ⟨⟨x115, u116⟩, hc114, h⟩ := ob h
        replace h := bd_x (x := x115) rfl h
        replace h := bd_x (x := u116) rfl h
        refine r_callV1 (As := [.int x1, .int x112]) (rest := []) (r := 9) (i := 0) C (vX9_isRead hc114) hR hS (lv0 (by decide) (by decide)) (by decide) ml_X9_169 mw_X9_isRead rfl ⟨Nat.le_of_ble_eq_true rfl, Nat.le_of_ble_eq_true rfl, Nat.le_of_ble_eq_true rfl, Nat.le_of_ble_eq_true rfl⟩ hl.1 rfl (Nat.le_of_ble_eq_true rfl) dX9_task_54 (fun H locs hR hS => ?_)
        refine lv_if_ne (tgt := 62) hx hb dX9_task_57 (by decide) (fun c_117 => ?_) (fun c_117 => ?_)
        · rw [if_neg c_117] at h
          refine lv_aload_n hx hb dX9_task_62 rfl (lv_at hl 0 rfl) ?_
          refine r_get C hR 9 0 21 (v := .ref (a 70 0)) (lv0 (by decide) (by decide)) (by decide) (by decide) rfl fl_X9_37 dX9_task_63 ?_
          refine lv_aload_n hx hb dX9_task_66 rfl (lv_at hl 0 rfl) ?_
          refine r_get C hR 9 0 15 (v := .int (gI u116 9 0 15)) (lv0 (by decide) (by decide)) (by decide) (by decide) rfl fl_X9_179 dX9_task_67 ?_
          obtain ⟨k118, hk118, h⟩ := ob h
          have hLk118 : k118 < cntS 71 := by have q1 := (ck_in hk118).2.2; have q2 : cntS 71 = 6 := rfl; omega
          refine r_aald C hR 70 0 71 0 6 (lv0 (by decide) (by decide)) (by decide) rfl rfl rfl (fun _ => rfl) rfl hk118 dX9_task_70 ?_
          refine lv_iconst (v := 0) hx hb dX9_task_71 (by decide) ?_
          refine lv_iconst (v := 0) hx hb dX9_task_72 (by decide) ?_
          obtain ⟨k119, hk119, h⟩ := ob h
          refine r_ast C hR hS 71 k118 (lv0 hLk118 (by decide)) (by decide) rfl (fun _ _ => rfl) rfl hk119 dX9_task_73 (fun H locs hR hS => ?_)
          obtain ⟨u120, eu120⟩ : ∃ z : HS, z = wI u116 71 k118 k119 0 := ⟨_, rfl⟩
          rw [← eu120] at hR
          replace h := bd_x eu120 h
          clear eu120
          refine lv_aload_n hx hb dX9_task_74 rfl (lv_at hl 0 rfl) ?_
          refine r_get C hR 9 0 21 (v := .ref (a 70 0)) (lv0 (by decide) (by decide)) (by decide) (by decide) rfl fl_X9_37 dX9_task_75 ?_
          refine lv_aload_n hx hb dX9_task_78 rfl (lv_at hl 0 rfl) ?_
          refine r_get C hR 9 0 15 (v := .int (gI u120 9 0 15)) (lv0 (by decide) (by decide)) (by decide) (by decide) rfl fl_X9_179 dX9_task_79 ?_
          obtain ⟨k121, hk121, h⟩ := ob h
          have hLk121 : k121 < cntS 71 := by have q1 := (ck_in hk121).2.2; have q2 : cntS 71 = 6 := rfl; omega
          refine r_aald C hR 70 0 71 0 6 (lv0 (by decide) (by decide)) (by decide) rfl rfl rfl (fun _ => rfl) rfl hk121 dX9_task_82 ?_
          refine lv_iconst (v := 1) hx hb dX9_task_83 (by decide) ?_
          refine lv_iconst (v := 0) hx hb dX9_task_84 (by decide) ?_
          obtain ⟨k122, hk122, h⟩ := ob h
          refine r_ast C hR hS 71 k121 (lv0 hLk121 (by decide)) (by decide) rfl (fun _ _ => rfl) rfl hk122 dX9_task_85 (fun H locs hR hS => ?_)
          obtain ⟨u123, eu123⟩ : ∃ z : HS, z = wI u120 71 k121 k122 0 := ⟨_, rfl⟩
          rw [← eu123] at hR
          replace h := bd_x eu123 h
          clear eu123
          refine lv_aload_n hx hb dX9_task_86 rfl (lv_at hl 0 rfl) ?_
          refine r_get C hR 9 0 21 (v := .ref (a 70 0)) (lv0 (by decide) (by decide)) (by decide) (by decide) rfl fl_X9_37 dX9_task_87 ?_
          refine lv_aload_n hx hb dX9_task_90 rfl (lv_at hl 0 rfl) ?_
          refine r_get C hR 9 0 15 (v := .int (gI u123 9 0 15)) (lv0 (by decide) (by decide)) (by decide) (by decide) rfl fl_X9_179 dX9_task_91 ?_
          obtain ⟨k124, hk124, h⟩ := ob h
          have hLk124 : k124 < cntS 71 := by have q1 := (ck_in hk124).2.2; have q2 : cntS 71 = 6 := rfl; omega
          refine r_aald C hR 70 0 71 0 6 (lv0 (by decide) (by decide)) (by decide) rfl rfl rfl (fun _ => rfl) rfl hk124 dX9_task_94 ?_
          refine lv_iconst (v := 2) hx hb dX9_task_95 (by decide) ?_
          refine lv_iconst (v := (-1)) hx hb dX9_task_96 (by decide) ?_
          obtain ⟨k125, hk125, h⟩ := ob h
          refine r_ast C hR hS 71 k124 (lv0 hLk124 (by decide)) (by decide) rfl (fun _ _ => rfl) rfl hk125 dX9_task_97 (fun H locs hR hS => ?_)
          obtain ⟨u126, eu126⟩ : ∃ z : HS, z = wI u123 71 k124 k125 (-1) := ⟨_, rfl⟩
          rw [← eu126] at hR
          replace h := bd_x eu126 h
          clear eu126
          refine lv_aload_n hx hb dX9_task_98 rfl (lv_at hl 0 rfl) ?_
          refine r_get C hR 9 0 21 (v := .ref (a 70 0)) (lv0 (by decide) (by decide)) (by decide) (by decide) rfl fl_X9_37 dX9_task_99 ?_
          refine lv_aload_n hx hb dX9_task_102 rfl (lv_at hl 0 rfl) ?_
          refine r_get C hR 9 0 15 (v := .int (gI u126 9 0 15)) (lv0 (by decide) (by decide)) (by decide) (by decide) rfl fl_X9_179 dX9_task_103 ?_
          obtain ⟨k127, hk127, h⟩ := ob h
          have hLk127 : k127 < cntS 71 := by have q1 := (ck_in hk127).2.2; have q2 : cntS 71 = 6 := rfl; omega
          refine r_aald C hR 70 0 71 0 6 (lv0 (by decide) (by decide)) (by decide) rfl rfl rfl (fun _ => rfl) rfl hk127 dX9_task_106 ?_
          refine lv_iconst (v := 3) hx hb dX9_task_107 (by decide) ?_
          refine lv_iconst (v := 4) hx hb dX9_task_108 (by decide) ?_
          obtain ⟨k128, hk128, h⟩ := ob h
          refine r_ast C hR hS 71 k127 (lv0 hLk127 (by decide)) (by decide) rfl (fun _ _ => rfl) rfl hk128 dX9_task_109 (fun H locs hR hS => ?_)
          obtain ⟨u129, eu129⟩ : ∃ z : HS, z = wI u126 71 k127 k128 4 := ⟨_, rfl⟩
          rw [← eu129] at hR
          replace h := bd_x eu129 h
          clear eu129
          refine lv_aload_n hx hb dX9_task_110 rfl (lv_at hl 0 rfl) ?_
          refine r_get C hR 9 0 21 (v := .ref (a 70 0)) (lv0 (by decide) (by decide)) (by decide) (by decide) rfl fl_X9_37 dX9_task_111 ?_
          refine lv_aload_n hx hb dX9_task_114 rfl (lv_at hl 0 rfl) ?_
          refine r_get C hR 9 0 15 (v := .int (gI u129 9 0 15)) (lv0 (by decide) (by decide)) (by decide) (by decide) rfl fl_X9_179 dX9_task_115 ?_
          obtain ⟨k130, hk130, h⟩ := ob h
          have hLk130 : k130 < cntS 71 := by have q1 := (ck_in hk130).2.2; have q2 : cntS 71 = 6 := rfl; omega
          refine r_aald C hR 70 0 71 0 6 (lv0 (by decide) (by decide)) (by decide) rfl rfl rfl (fun _ => rfl) rfl hk130 dX9_task_118 ?_
          refine lv_iconst (v := 4) hx hb dX9_task_119 (by decide) ?_
          refine lv_iconst (v := 0) hx hb dX9_task_120 (by decide) ?_
          obtain ⟨k131, hk131, h⟩ := ob h
          refine r_ast C hR hS 71 k130 (lv0 hLk130 (by decide)) (by decide) rfl (fun _ _ => rfl) rfl hk131 dX9_task_121 (fun H locs hR hS => ?_)
          obtain ⟨u132, eu132⟩ : ∃ z : HS, z = wI u129 71 k130 k131 0 := ⟨_, rfl⟩
          rw [← eu132] at hR
          replace h := bd_x eu132 h
          clear eu132
          refine jp_cut h (fun w135 hw135 h => ?_)
          have Kw135 : ∀ (u134 : HS) (H : Heap) (locs : List Loc) (ls : Array Slot), w135 u134 = some out → Rel E a u134 H → va_S (AE E) s.heap H locs → lv_has ls 2 [(0, .ref (a 9 0))] → W p l e { frames := 6, cells := 0, slots := 0, locals := 131 } s m args below meth c H locs 0 0 (MQ below (QW E a (some (.int out.1)) out.2) args s 0 0 (AE E)) (F0 m 151 ls []) := by
            intro u134 H locs ls h hR hS hl
            replace h := jx1 hw135 h
            refine lv_aload_n hx hb dX9_task_151 rfl (lv_at hl 0 rfl) ?_
            refine lv_aload_n hx hb dX9_task_152 rfl (lv_at hl 0 rfl) ?_
            refine r_get C hR 9 0 7 (v := .int (gI u134 9 0 7)) (lv0 (by decide) (by decide)) (by decide) (by decide) rfl fl_X9_95 dX9_task_153 ?_
            refine r_putI (ty := .int) C hR hS 9 0 3 (lv0 (by decide) (by decide)) (by decide) (by decide) (fun _ => rfl) fl_X9_9 (by decide) (by decide +kernel) rfl rfl dX9_task_156 (fun H locs hR hS => ?_)
            obtain ⟨u136, eu136⟩ : ∃ z : HS, z = wI u134 9 0 3 (gI u134 9 0 7) := ⟨_, rfl⟩
            rw [← eu136] at hR
            replace h := bd_x eu136 h
            clear eu136
            refine lv_aload_n hx hb dX9_task_159 rfl (lv_at hl 0 rfl) ?_
            refine r_get C hR 9 0 6 (v := .int (gI u136 9 0 6)) (lv0 (by decide) (by decide)) (by decide) (by decide) rfl fl_X9_92 dX9_task_160 ?_
            refine lv_if_eq (tgt := 174) hx hb dX9_task_163 (by decide) (fun c_137 => ?_) (fun c_137 => ?_)
            · rw [if_pos c_137] at h
              refine lv_aload_n hx hb dX9_task_174 rfl (lv_at hl 0 rfl) ?_
              refine lv_dup hx hb dX9_task_175 rfl ?_
              refine r_get C hR 9 0 15 (v := .int (gI u136 9 0 15)) (lv0 (by decide) (by decide)) (by decide) (by decide) rfl fl_X9_179 dX9_task_176 ?_
              refine lv_iconst (v := 1) hx hb dX9_task_179 (by decide) ?_
              refine lv_iadd hx hb dX9_task_180 ?_
              refine r_putI (ty := .int) C hR hS 9 0 15 (lv0 (by decide) (by decide)) (by decide) (by decide) (fun _ => rfl) fl_X9_179 (by decide) (by decide +kernel) rfl rfl dX9_task_181 (fun H locs hR hS => ?_)
              obtain ⟨u138, eu138⟩ : ∃ z : HS, z = wI u136 9 0 15 ((gI u136 9 0 15) + 1) := ⟨_, rfl⟩
              rw [← eu138] at hR
              replace h := bd_x eu138 h
              clear eu138
              refine lv_aload_n hx hb dX9_task_184 rfl (lv_at hl 0 rfl) ?_
              refine r_get C hR 9 0 15 (v := .int (gI u138 9 0 15)) (lv0 (by decide) (by decide)) (by decide) (by decide) rfl fl_X9_179 dX9_task_185 ?_
              refine lv_iconst (v := 1) hx hb dX9_task_188 (by decide) ?_
              refine lv_isub hx hb dX9_task_189 ?_
              cases h
              exact e_iret C hr hR hS (Nat.le_of_ble_eq_true rfl) (Nat.le_of_ble_eq_true rfl) dX9_task_190
            · rw [if_neg c_137] at h
              refine lv_aload_n hx hb dX9_task_166 rfl (lv_at hl 0 rfl) ?_
              refine r_get C hR 9 0 6 (v := .int (gI u136 9 0 6)) (lv0 (by decide) (by decide)) (by decide) (by decide) rfl fl_X9_92 dX9_task_167 ?_
              refine lv_bipush (v := 10) hx hb dX9_task_170 (by decide) ?_
              refine lv_isub hx hb dX9_task_172 ?_
              cases h
              exact e_iret C hr hR hS (Nat.le_of_ble_eq_true rfl) (Nat.le_of_ble_eq_true rfl) dX9_task_173
          have LP : ∀ (fu : Nat) (u133 : HS) (H : Heap) (locs : List Loc) (ls : Array Slot), mX9_task_L122  w135 fu u133 = some out → Rel E a u133 H → va_S (AE E) s.heap H locs → lv_has ls 2 [(0, .ref (a 9 0))] → W p l e { frames := 6, cells := 0, slots := 0, locals := 131 } s m args below meth c H locs 0 0 (MQ below (QW E a (some (.int out.1)) out.2) args s 0 0 (AE E)) (F0 m 122 ls []) := by
            intro fu
            induction fu with
            | zero =>
              intro u133 H locs ls h
              have h2 : (none : Option (Int32 × HS)) = some out := h
              cases h2
            | succ fu ih =>
              intro u133 H locs ls h hR hS hl
              rw [mX9_task_L122.eq_2] at h
              refine lv_aload_n hx hb dX9_task_122 rfl (lv_at hl 0 rfl) ?_
              refine r_get C hR 9 0 6 (v := .int (gI u133 9 0 6)) (lv0 (by decide) (by decide)) (by decide) (by decide) rfl fl_X9_92 dX9_task_123 ?_
              refine lv_if_ne (tgt := 151) hx hb dX9_task_126 (by decide) (fun c_139 => ?_) (fun c_139 => ?_)
              · rw [if_neg c_139] at h
                exact Kw135 _ _ _ _ h hR hS (lv_sub hl [0] rfl)
              · rw [if_pos c_139] at h
                refine lv_aload_n hx hb dX9_task_129 rfl (lv_at hl 0 rfl) ?_
                refine r_get C hR 9 0 4 (v := .int (gI u133 9 0 4)) (lv0 (by decide) (by decide)) (by decide) (by decide) rfl fl_X9_85 dX9_task_130 ?_
                refine lv_aload_n hx hb dX9_task_133 rfl (lv_at hl 0 rfl) ?_
                refine r_get C hR 9 0 2 (v := .int (gI u133 9 0 2)) (lv0 (by decide) (by decide)) (by decide) (by decide) rfl fl_X9_82 dX9_task_134 ?_
                refine lv_icmp_ge (tgt := 151) hx hb dX9_task_137 (by decide) (fun c_140 => ?_) (fun c_140 => ?_)
                · rw [if_pos c_140] at h
                  exact Kw135 _ _ _ _ h hR hS (lv_sub hl [0] rfl)
                · rw [if_neg c_140] at h
                  refine lv_aload_n hx hb dX9_task_140 rfl (lv_at hl 0 rfl) ?_
                  obtain ⟨u142, hc141, h⟩ := ob h
                  refine r_callV0 (As := []) (rest := []) (r := 9) (i := 0) C (vX9_taskClause hc141) hR hS (lv0 (by decide) (by decide)) (by decide) ml_X9_186 mw_X9_taskClause rfl ⟨Nat.le_of_ble_eq_true rfl, Nat.le_of_ble_eq_true rfl, Nat.le_of_ble_eq_true rfl, Nat.le_of_ble_eq_true rfl⟩ hl.1 rfl (Nat.le_of_ble_eq_true rfl) dX9_task_141 (fun H locs hR hS => ?_)
                  refine lv_aload_n hx hb dX9_task_144 rfl (lv_at hl 0 rfl) ?_
                  obtain ⟨u144, hc143, h⟩ := ob h
                  refine r_callV0 (As := []) (rest := []) (r := 9) (i := 0) C (vX9_blanks hc143) hR hS (lv0 (by decide) (by decide)) (by decide) ml_X9_101 mw_X9_blanks rfl ⟨Nat.le_of_ble_eq_true rfl, Nat.le_of_ble_eq_true rfl, Nat.le_of_ble_eq_true rfl, Nat.le_of_ble_eq_true rfl⟩ hl.1 rfl (Nat.le_of_ble_eq_true rfl) dX9_task_145 (fun H locs hR hS => ?_)
                  refine lv_goto (tgt := 122) hx hb dX9_task_148 (by decide) ?_
                  exact ih _ _ _ _ h hR hS (lv_sub hl [0] rfl)
          exact LP FU _ _ _ _ h hR hS (lv_sub hl [0] rfl)
        · rw [if_pos c_117] at h
          refine lv_iconst (v := (-1)) hx hb dX9_task_60 (by decide) ?_
          cases h
          exact e_iret C hr hR hS (Nat.le_of_ble_eq_true rfl) (Nat.le_of_ble_eq_true rfl) dX9_task_61
      clear h
      have h := hz
      clear hz
      refine lv_icmp_ne (tgt := 53) hx hb dX9_task_46 (by decide) (fun c_145 => ?_) (fun c_145 => ?_)
      · rw [if_neg c_145] at h
        refine lv_iconst (v := 0) hx hb dX9_task_53 (by decide) ?_
        cases h
        exact Kj113 _ _ _ hR hS (lv_sub hl [0] rfl)
      · rw [if_pos c_145] at h
        refine lv_iconst (v := 1) hx hb dX9_task_49 (by decide) ?_
        refine lv_goto (tgt := 54) hx hb dX9_task_50 (by decide) ?_
        cases h
        exact Kj113 _ _ _ hR hS (lv_sub hl [0] rfl)
    · rw [if_neg c_111] at h
      refine lv_iconst (v := 0) hx hb dX9_task_36 (by decide) ?_
      cases h
      exact e_iret C hr hR hS (Nat.le_of_ble_eq_true rfl) (Nat.le_of_ble_eq_true rfl) dX9_task_37
  clear h
  have h := hz
  clear hz
  refine lv_if_ne (tgt := 28) hx hb dX9_task_21 (by decide) (fun c_146 => ?_) (fun c_146 => ?_)
  · rw [if_neg c_146] at h
    refine lv_iconst (v := 0) hx hb dX9_task_28 (by decide) ?_
    cases h
    exact Kj107 _ _ _ hR hS (lv_sub hl [0, 1] rfl)
  · rw [if_pos c_146] at h
    refine lv_iconst (v := 1) hx hb dX9_task_24 (by decide) ?_
    refine lv_goto (tgt := 29) hx hb dX9_task_25 (by decide) ?_
    cases h
    exact Kj107 _ _ _ hR hS (lv_sub hl [0, 1] rfl)
set_option maxHeartbeats 4000000 in
set_option maxRecDepth 100000 in
theorem vX9_nameHere {l : Launch} {E : EV} {a : Nat → Nat → Nat} {u0 : HS}  {out : (Int32 × HS)} (h : mX9_nameHere u0 = some out) : Ct l E yX9_nameHere cX9_nameHere 1 (some .int) 4 89 0 0 a u0 [.ref (a 9 0)] (some (.int out.1)) out.2 := by
  refine Ct.start (by decide) (Nat.le_of_ble_eq_true rfl) ?_
  intro p e s m args below meth c ls C hr hR hS hl
  have C : Cx E p s m args meth c cX9_nameHere 1 RX9 := C
  have hl : lv_has ls 1 [(0, .ref (a 9 0))] := hl
  have hx := C.1
  have hb := C.2.1
  unfold mX9_nameHere at h
  refine lv_aload_n hx hb dX9_nameHere_0 rfl (lv_at hl 0 rfl) ?_
  refine lv_bipush (v := 12) hx hb dX9_nameHere_1 (by decide) ?_
  refine lv_bipush (v := 9) hx hb dX9_nameHere_3 (by decide) ?_
  refine lv_bipush (v := 11) hx hb dX9_nameHere_5 (by decide) ?_
  refine lv_iconst (v := 5) hx hb dX9_nameHere_7 (by decide) ?_
  refine lv_iconst (v := 0) hx hb dX9_nameHere_8 (by decide) ?_
  refine lv_iconst (v := 0) hx hb dX9_nameHere_9 (by decide) ?_
  obtain ⟨⟨x102, u103⟩, hc101, h⟩ := ob h
  replace h := bd_x (x := x102) rfl h
  replace h := bd_x (x := u103) rfl h
  refine r_callV1 (As := [.int 12, .int 9, .int 11, .int 5, .int 0, .int 0]) (rest := []) (r := 9) (i := 0) C (vX9_isWord hc101) hR hS (lv0 (by decide) (by decide)) (by decide) ml_X9_134 mw_X9_isWord rfl ⟨Nat.le_of_ble_eq_true rfl, Nat.le_of_ble_eq_true rfl, Nat.le_of_ble_eq_true rfl, Nat.le_of_ble_eq_true rfl⟩ hl.1 rfl (Nat.le_of_ble_eq_true rfl) dX9_nameHere_10 (fun H locs hR hS => ?_)
  refine lv_if_eq (tgt := 18) hx hb dX9_nameHere_13 (by decide) (fun c_104 => ?_) (fun c_104 => ?_)
  · rw [if_pos c_104] at h
    refine lv_aload_n hx hb dX9_nameHere_18 rfl (lv_at hl 0 rfl) ?_
    refine lv_iconst (v := 4) hx hb dX9_nameHere_19 (by decide) ?_
    refine lv_bipush (v := 18) hx hb dX9_nameHere_20 (by decide) ?_
    refine lv_bipush (v := 15) hx hb dX9_nameHere_22 (by decide) ?_
    refine lv_bipush (v := 16) hx hb dX9_nameHere_24 (by decide) ?_
    refine lv_iconst (v := 0) hx hb dX9_nameHere_26 (by decide) ?_
    refine lv_iconst (v := 0) hx hb dX9_nameHere_27 (by decide) ?_
    obtain ⟨⟨x106, u107⟩, hc105, h⟩ := ob h
    replace h := bd_x (x := x106) rfl h
    replace h := bd_x (x := u107) rfl h
    refine r_callV1 (As := [.int 4, .int 18, .int 15, .int 16, .int 0, .int 0]) (rest := []) (r := 9) (i := 0) C (vX9_isWord hc105) hR hS (lv0 (by decide) (by decide)) (by decide) ml_X9_134 mw_X9_isWord rfl ⟨Nat.le_of_ble_eq_true rfl, Nat.le_of_ble_eq_true rfl, Nat.le_of_ble_eq_true rfl, Nat.le_of_ble_eq_true rfl⟩ hl.1 rfl (Nat.le_of_ble_eq_true rfl) dX9_nameHere_28 (fun H locs hR hS => ?_)
    refine lv_if_eq (tgt := 36) hx hb dX9_nameHere_31 (by decide) (fun c_108 => ?_) (fun c_108 => ?_)
    · rw [if_pos c_108] at h
      refine lv_aload_n hx hb dX9_nameHere_36 rfl (lv_at hl 0 rfl) ?_
      refine lv_bipush (v := 14) hx hb dX9_nameHere_37 (by decide) ?_
      refine lv_iconst (v := 5) hx hb dX9_nameHere_39 (by decide) ?_
      refine lv_iconst (v := 1) hx hb dX9_nameHere_40 (by decide) ?_
      refine lv_bipush (v := 18) hx hb dX9_nameHere_41 (by decide) ?_
      refine lv_iconst (v := 0) hx hb dX9_nameHere_43 (by decide) ?_
      refine lv_iconst (v := 0) hx hb dX9_nameHere_44 (by decide) ?_
      obtain ⟨⟨x110, u111⟩, hc109, h⟩ := ob h
      replace h := bd_x (x := x110) rfl h
      replace h := bd_x (x := u111) rfl h
      refine r_callV1 (As := [.int 14, .int 5, .int 1, .int 18, .int 0, .int 0]) (rest := []) (r := 9) (i := 0) C (vX9_isWord hc109) hR hS (lv0 (by decide) (by decide)) (by decide) ml_X9_134 mw_X9_isWord rfl ⟨Nat.le_of_ble_eq_true rfl, Nat.le_of_ble_eq_true rfl, Nat.le_of_ble_eq_true rfl, Nat.le_of_ble_eq_true rfl⟩ hl.1 rfl (Nat.le_of_ble_eq_true rfl) dX9_nameHere_45 (fun H locs hR hS => ?_)
      refine lv_if_eq (tgt := 53) hx hb dX9_nameHere_48 (by decide) (fun c_112 => ?_) (fun c_112 => ?_)
      · rw [if_pos c_112] at h
        refine lv_aload_n hx hb dX9_nameHere_53 rfl (lv_at hl 0 rfl) ?_
        refine lv_bipush (v := 19) hx hb dX9_nameHere_54 (by decide) ?_
        refine lv_bipush (v := 9) hx hb dX9_nameHere_56 (by decide) ?_
        refine lv_bipush (v := 26) hx hb dX9_nameHere_58 (by decide) ?_
        refine lv_iconst (v := 5) hx hb dX9_nameHere_60 (by decide) ?_
        refine lv_iconst (v := 0) hx hb dX9_nameHere_61 (by decide) ?_
        refine lv_iconst (v := 0) hx hb dX9_nameHere_62 (by decide) ?_
        obtain ⟨⟨x114, u115⟩, hc113, h⟩ := ob h
        replace h := bd_x (x := x114) rfl h
        replace h := bd_x (x := u115) rfl h
        refine r_callV1 (As := [.int 19, .int 9, .int 26, .int 5, .int 0, .int 0]) (rest := []) (r := 9) (i := 0) C (vX9_isWord hc113) hR hS (lv0 (by decide) (by decide)) (by decide) ml_X9_134 mw_X9_isWord rfl ⟨Nat.le_of_ble_eq_true rfl, Nat.le_of_ble_eq_true rfl, Nat.le_of_ble_eq_true rfl, Nat.le_of_ble_eq_true rfl⟩ hl.1 rfl (Nat.le_of_ble_eq_true rfl) dX9_nameHere_63 (fun H locs hR hS => ?_)
        refine lv_if_eq (tgt := 71) hx hb dX9_nameHere_66 (by decide) (fun c_116 => ?_) (fun c_116 => ?_)
        · rw [if_pos c_116] at h
          refine lv_aload_n hx hb dX9_nameHere_71 rfl (lv_at hl 0 rfl) ?_
          refine lv_bipush (v := 16) hx hb dX9_nameHere_72 (by decide) ?_
          refine lv_iconst (v := 1) hx hb dX9_nameHere_74 (by decide) ?_
          refine lv_iconst (v := 3) hx hb dX9_nameHere_75 (by decide) ?_
          refine lv_iconst (v := 5) hx hb dX9_nameHere_76 (by decide) ?_
          refine lv_iconst (v := 0) hx hb dX9_nameHere_77 (by decide) ?_
          refine lv_iconst (v := 0) hx hb dX9_nameHere_78 (by decide) ?_
          obtain ⟨⟨x118, u119⟩, hc117, h⟩ := ob h
          replace h := bd_x (x := x118) rfl h
          replace h := bd_x (x := u119) rfl h
          refine r_callV1 (As := [.int 16, .int 1, .int 3, .int 5, .int 0, .int 0]) (rest := []) (r := 9) (i := 0) C (vX9_isWord hc117) hR hS (lv0 (by decide) (by decide)) (by decide) ml_X9_134 mw_X9_isWord rfl ⟨Nat.le_of_ble_eq_true rfl, Nat.le_of_ble_eq_true rfl, Nat.le_of_ble_eq_true rfl, Nat.le_of_ble_eq_true rfl⟩ hl.1 rfl (Nat.le_of_ble_eq_true rfl) dX9_nameHere_79 (fun H locs hR hS => ?_)
          refine lv_if_eq (tgt := 87) hx hb dX9_nameHere_82 (by decide) (fun c_120 => ?_) (fun c_120 => ?_)
          · rw [if_pos c_120] at h
            refine lv_aload_n hx hb dX9_nameHere_87 rfl (lv_at hl 0 rfl) ?_
            refine lv_bipush (v := 6) hx hb dX9_nameHere_88 (by decide) ?_
            refine lv_bipush (v := 21) hx hb dX9_nameHere_90 (by decide) ?_
            refine lv_bipush (v := 12) hx hb dX9_nameHere_92 (by decide) ?_
            refine lv_bipush (v := 12) hx hb dX9_nameHere_94 (by decide) ?_
            refine lv_iconst (v := 0) hx hb dX9_nameHere_96 (by decide) ?_
            refine lv_iconst (v := 0) hx hb dX9_nameHere_97 (by decide) ?_
            obtain ⟨⟨x122, u123⟩, hc121, h⟩ := ob h
            replace h := bd_x (x := x122) rfl h
            replace h := bd_x (x := u123) rfl h
            refine r_callV1 (As := [.int 6, .int 21, .int 12, .int 12, .int 0, .int 0]) (rest := []) (r := 9) (i := 0) C (vX9_isWord hc121) hR hS (lv0 (by decide) (by decide)) (by decide) ml_X9_134 mw_X9_isWord rfl ⟨Nat.le_of_ble_eq_true rfl, Nat.le_of_ble_eq_true rfl, Nat.le_of_ble_eq_true rfl, Nat.le_of_ble_eq_true rfl⟩ hl.1 rfl (Nat.le_of_ble_eq_true rfl) dX9_nameHere_98 (fun H locs hR hS => ?_)
            refine lv_if_eq (tgt := 106) hx hb dX9_nameHere_101 (by decide) (fun c_124 => ?_) (fun c_124 => ?_)
            · rw [if_pos c_124] at h
              refine lv_aload_n hx hb dX9_nameHere_106 rfl (lv_at hl 0 rfl) ?_
              refine lv_bipush (v := 15) hx hb dX9_nameHere_107 (by decide) ?_
              refine lv_iconst (v := 4) hx hb dX9_nameHere_109 (by decide) ?_
              refine lv_iconst (v := 4) hx hb dX9_nameHere_110 (by decide) ?_
              refine lv_iconst (v := 0) hx hb dX9_nameHere_111 (by decide) ?_
              refine lv_iconst (v := 0) hx hb dX9_nameHere_112 (by decide) ?_
              refine lv_iconst (v := 0) hx hb dX9_nameHere_113 (by decide) ?_
              obtain ⟨⟨x126, u127⟩, hc125, h⟩ := ob h
              replace h := bd_x (x := x126) rfl h
              replace h := bd_x (x := u127) rfl h
              refine r_callV1 (As := [.int 15, .int 4, .int 4, .int 0, .int 0, .int 0]) (rest := []) (r := 9) (i := 0) C (vX9_isWord hc125) hR hS (lv0 (by decide) (by decide)) (by decide) ml_X9_134 mw_X9_isWord rfl ⟨Nat.le_of_ble_eq_true rfl, Nat.le_of_ble_eq_true rfl, Nat.le_of_ble_eq_true rfl, Nat.le_of_ble_eq_true rfl⟩ hl.1 rfl (Nat.le_of_ble_eq_true rfl) dX9_nameHere_114 (fun H locs hR hS => ?_)
              refine lv_if_eq (tgt := 123) hx hb dX9_nameHere_117 (by decide) (fun c_128 => ?_) (fun c_128 => ?_)
              · rw [if_pos c_128] at h
                refine lv_aload_n hx hb dX9_nameHere_123 rfl (lv_at hl 0 rfl) ?_
                refine lv_bipush (v := 23) hx hb dX9_nameHere_124 (by decide) ?_
                refine lv_iconst (v := 1) hx hb dX9_nameHere_126 (by decide) ?_
                refine lv_bipush (v := 20) hx hb dX9_nameHere_127 (by decide) ?_
                refine lv_iconst (v := 3) hx hb dX9_nameHere_129 (by decide) ?_
                refine lv_bipush (v := 8) hx hb dX9_nameHere_130 (by decide) ?_
                refine lv_iconst (v := 0) hx hb dX9_nameHere_132 (by decide) ?_
                obtain ⟨⟨x130, u131⟩, hc129, h⟩ := ob h
                replace h := bd_x (x := x130) rfl h
                replace h := bd_x (x := u131) rfl h
                refine r_callV1 (As := [.int 23, .int 1, .int 20, .int 3, .int 8, .int 0]) (rest := []) (r := 9) (i := 0) C (vX9_isWord hc129) hR hS (lv0 (by decide) (by decide)) (by decide) ml_X9_134 mw_X9_isWord rfl ⟨Nat.le_of_ble_eq_true rfl, Nat.le_of_ble_eq_true rfl, Nat.le_of_ble_eq_true rfl, Nat.le_of_ble_eq_true rfl⟩ hl.1 rfl (Nat.le_of_ble_eq_true rfl) dX9_nameHere_133 (fun H locs hR hS => ?_)
                refine lv_if_eq (tgt := 142) hx hb dX9_nameHere_136 (by decide) (fun c_132 => ?_) (fun c_132 => ?_)
                · rw [if_pos c_132] at h
                  refine lv_aload_n hx hb dX9_nameHere_142 rfl (lv_at hl 0 rfl) ?_
                  refine lv_iconst (v := 3) hx hb dX9_nameHere_143 (by decide) ?_
                  refine lv_bipush (v := 8) hx hb dX9_nameHere_144 (by decide) ?_
                  refine lv_iconst (v := 1) hx hb dX9_nameHere_146 (by decide) ?_
                  refine lv_bipush (v := 14) hx hb dX9_nameHere_147 (by decide) ?_
                  refine lv_bipush (v := 7) hx hb dX9_nameHere_149 (by decide) ?_
                  refine lv_iconst (v := 5) hx hb dX9_nameHere_151 (by decide) ?_
                  obtain ⟨⟨x134, u135⟩, hc133, h⟩ := ob h
                  replace h := bd_x (x := x134) rfl h
                  replace h := bd_x (x := u135) rfl h
                  refine r_callV1 (As := [.int 3, .int 8, .int 1, .int 14, .int 7, .int 5]) (rest := []) (r := 9) (i := 0) C (vX9_isWord hc133) hR hS (lv0 (by decide) (by decide)) (by decide) ml_X9_134 mw_X9_isWord rfl ⟨Nat.le_of_ble_eq_true rfl, Nat.le_of_ble_eq_true rfl, Nat.le_of_ble_eq_true rfl, Nat.le_of_ble_eq_true rfl⟩ hl.1 rfl (Nat.le_of_ble_eq_true rfl) dX9_nameHere_152 (fun H locs hR hS => ?_)
                  refine lv_if_eq (tgt := 161) hx hb dX9_nameHere_155 (by decide) (fun c_136 => ?_) (fun c_136 => ?_)
                  · rw [if_pos c_136] at h
                    refine lv_aload_n hx hb dX9_nameHere_161 rfl (lv_at hl 0 rfl) ?_
                    refine lv_bipush (v := 11) hx hb dX9_nameHere_162 (by decide) ?_
                    refine lv_bipush (v := 14) hx hb dX9_nameHere_164 (by decide) ?_
                    refine lv_bipush (v := 15) hx hb dX9_nameHere_166 (by decide) ?_
                    refine lv_bipush (v := 23) hx hb dX9_nameHere_168 (by decide) ?_
                    refine lv_bipush (v := 19) hx hb dX9_nameHere_170 (by decide) ?_
                    refine lv_iconst (v := 0) hx hb dX9_nameHere_172 (by decide) ?_
                    obtain ⟨⟨x138, u139⟩, hc137, h⟩ := ob h
                    replace h := bd_x (x := x138) rfl h
                    replace h := bd_x (x := u139) rfl h
                    refine r_callV1 (As := [.int 11, .int 14, .int 15, .int 23, .int 19, .int 0]) (rest := []) (r := 9) (i := 0) C (vX9_isWord hc137) hR hS (lv0 (by decide) (by decide)) (by decide) ml_X9_134 mw_X9_isWord rfl ⟨Nat.le_of_ble_eq_true rfl, Nat.le_of_ble_eq_true rfl, Nat.le_of_ble_eq_true rfl, Nat.le_of_ble_eq_true rfl⟩ hl.1 rfl (Nat.le_of_ble_eq_true rfl) dX9_nameHere_173 (fun H locs hR hS => ?_)
                    refine lv_if_eq (tgt := 182) hx hb dX9_nameHere_176 (by decide) (fun c_140 => ?_) (fun c_140 => ?_)
                    · rw [if_pos c_140] at h
                      refine lv_aload_n hx hb dX9_nameHere_182 rfl (lv_at hl 0 rfl) ?_
                      refine lv_bipush (v := 20) hx hb dX9_nameHere_183 (by decide) ?_
                      refine lv_iconst (v := 5) hx hb dX9_nameHere_185 (by decide) ?_
                      refine lv_bipush (v := 14) hx hb dX9_nameHere_186 (by decide) ?_
                      refine lv_bipush (v := 20) hx hb dX9_nameHere_188 (by decide) ?_
                      refine lv_bipush (v := 8) hx hb dX9_nameHere_190 (by decide) ?_
                      refine lv_iconst (v := 0) hx hb dX9_nameHere_192 (by decide) ?_
                      obtain ⟨⟨x142, u143⟩, hc141, h⟩ := ob h
                      replace h := bd_x (x := x142) rfl h
                      replace h := bd_x (x := u143) rfl h
                      refine r_callV1 (As := [.int 20, .int 5, .int 14, .int 20, .int 8, .int 0]) (rest := []) (r := 9) (i := 0) C (vX9_isWord hc141) hR hS (lv0 (by decide) (by decide)) (by decide) ml_X9_134 mw_X9_isWord rfl ⟨Nat.le_of_ble_eq_true rfl, Nat.le_of_ble_eq_true rfl, Nat.le_of_ble_eq_true rfl, Nat.le_of_ble_eq_true rfl⟩ hl.1 rfl (Nat.le_of_ble_eq_true rfl) dX9_nameHere_193 (fun H locs hR hS => ?_)
                      refine lv_if_eq (tgt := 204) hx hb dX9_nameHere_196 (by decide) (fun c_144 => ?_) (fun c_144 => ?_)
                      · rw [if_pos c_144] at h
                        refine lv_iconst (v := (-1)) hx hb dX9_nameHere_204 (by decide) ?_
                        cases h
                        exact e_iret C hr hR hS (Nat.le_of_ble_eq_true rfl) (Nat.le_of_ble_eq_true rfl) dX9_nameHere_205
                      · rw [if_neg c_144] at h
                        refine lv_bipush (v := 10) hx hb dX9_nameHere_199 (by decide) ?_
                        refine lv_goto (tgt := 205) hx hb dX9_nameHere_201 (by decide) ?_
                        cases h
                        exact e_iret C hr hR hS (Nat.le_of_ble_eq_true rfl) (Nat.le_of_ble_eq_true rfl) dX9_nameHere_205
                    · rw [if_neg c_140] at h
                      refine lv_bipush (v := 9) hx hb dX9_nameHere_179 (by decide) ?_
                      cases h
                      exact e_iret C hr hR hS (Nat.le_of_ble_eq_true rfl) (Nat.le_of_ble_eq_true rfl) dX9_nameHere_181
                  · rw [if_neg c_136] at h
                    refine lv_bipush (v := 8) hx hb dX9_nameHere_158 (by decide) ?_
                    cases h
                    exact e_iret C hr hR hS (Nat.le_of_ble_eq_true rfl) (Nat.le_of_ble_eq_true rfl) dX9_nameHere_160
                · rw [if_neg c_132] at h
                  refine lv_bipush (v := 7) hx hb dX9_nameHere_139 (by decide) ?_
                  cases h
                  exact e_iret C hr hR hS (Nat.le_of_ble_eq_true rfl) (Nat.le_of_ble_eq_true rfl) dX9_nameHere_141
              · rw [if_neg c_128] at h
                refine lv_bipush (v := 6) hx hb dX9_nameHere_120 (by decide) ?_
                cases h
                exact e_iret C hr hR hS (Nat.le_of_ble_eq_true rfl) (Nat.le_of_ble_eq_true rfl) dX9_nameHere_122
            · rw [if_neg c_124] at h
              refine lv_iconst (v := 5) hx hb dX9_nameHere_104 (by decide) ?_
              cases h
              exact e_iret C hr hR hS (Nat.le_of_ble_eq_true rfl) (Nat.le_of_ble_eq_true rfl) dX9_nameHere_105
          · rw [if_neg c_120] at h
            refine lv_iconst (v := 4) hx hb dX9_nameHere_85 (by decide) ?_
            cases h
            exact e_iret C hr hR hS (Nat.le_of_ble_eq_true rfl) (Nat.le_of_ble_eq_true rfl) dX9_nameHere_86
        · rw [if_neg c_116] at h
          refine lv_iconst (v := 3) hx hb dX9_nameHere_69 (by decide) ?_
          cases h
          exact e_iret C hr hR hS (Nat.le_of_ble_eq_true rfl) (Nat.le_of_ble_eq_true rfl) dX9_nameHere_70
      · rw [if_neg c_112] at h
        refine lv_iconst (v := 2) hx hb dX9_nameHere_51 (by decide) ?_
        cases h
        exact e_iret C hr hR hS (Nat.le_of_ble_eq_true rfl) (Nat.le_of_ble_eq_true rfl) dX9_nameHere_52
    · rw [if_neg c_108] at h
      refine lv_iconst (v := 1) hx hb dX9_nameHere_34 (by decide) ?_
      cases h
      exact e_iret C hr hR hS (Nat.le_of_ble_eq_true rfl) (Nat.le_of_ble_eq_true rfl) dX9_nameHere_35
  · rw [if_neg c_104] at h
    refine lv_iconst (v := 0) hx hb dX9_nameHere_16 (by decide) ?_
    cases h
    exact e_iret C hr hR hS (Nat.le_of_ble_eq_true rfl) (Nat.le_of_ble_eq_true rfl) dX9_nameHere_17
set_option maxHeartbeats 4000000 in
set_option maxRecDepth 100000 in
theorem vX9_lawHere {l : Launch} {E : EV} {a : Nat → Nat → Nat} {u0 : HS}  {out : (Int32 × HS)} (h : mX9_lawHere u0 = some out) : Ct l E yX9_lawHere cX9_lawHere 1 (some .int) 4 89 0 0 a u0 [.ref (a 9 0)] (some (.int out.1)) out.2 := by
  refine Ct.start (by decide) (Nat.le_of_ble_eq_true rfl) ?_
  intro p e s m args below meth c ls C hr hR hS hl
  have C : Cx E p s m args meth c cX9_lawHere 1 RX9 := C
  have hl : lv_has ls 1 [(0, .ref (a 9 0))] := hl
  have hx := C.1
  have hb := C.2.1
  unfold mX9_lawHere at h
  refine lv_aload_n hx hb dX9_lawHere_0 rfl (lv_at hl 0 rfl) ?_
  refine lv_bipush (v := 7) hx hb dX9_lawHere_1 (by decide) ?_
  refine lv_iconst (v := 5) hx hb dX9_lawHere_3 (by decide) ?_
  refine lv_bipush (v := 20) hx hb dX9_lawHere_4 (by decide) ?_
  refine lv_bipush (v := 19) hx hb dX9_lawHere_6 (by decide) ?_
  refine lv_iconst (v := 0) hx hb dX9_lawHere_8 (by decide) ?_
  refine lv_iconst (v := 0) hx hb dX9_lawHere_9 (by decide) ?_
  obtain ⟨⟨x102, u103⟩, hc101, h⟩ := ob h
  replace h := bd_x (x := x102) rfl h
  replace h := bd_x (x := u103) rfl h
  refine r_callV1 (As := [.int 7, .int 5, .int 20, .int 19, .int 0, .int 0]) (rest := []) (r := 9) (i := 0) C (vX9_isWord hc101) hR hS (lv0 (by decide) (by decide)) (by decide) ml_X9_134 mw_X9_isWord rfl ⟨Nat.le_of_ble_eq_true rfl, Nat.le_of_ble_eq_true rfl, Nat.le_of_ble_eq_true rfl, Nat.le_of_ble_eq_true rfl⟩ hl.1 rfl (Nat.le_of_ble_eq_true rfl) dX9_lawHere_10 (fun H locs hR hS => ?_)
  refine lv_if_eq (tgt := 18) hx hb dX9_lawHere_13 (by decide) (fun c_104 => ?_) (fun c_104 => ?_)
  · rw [if_pos c_104] at h
    refine lv_aload_n hx hb dX9_lawHere_18 rfl (lv_at hl 0 rfl) ?_
    refine lv_bipush (v := 12) hx hb dX9_lawHere_19 (by decide) ?_
    refine lv_bipush (v := 9) hx hb dX9_lawHere_21 (by decide) ?_
    refine lv_bipush (v := 14) hx hb dX9_lawHere_23 (by decide) ?_
    refine lv_iconst (v := 5) hx hb dX9_lawHere_25 (by decide) ?_
    refine lv_iconst (v := 0) hx hb dX9_lawHere_26 (by decide) ?_
    refine lv_iconst (v := 0) hx hb dX9_lawHere_27 (by decide) ?_
    obtain ⟨⟨x106, u107⟩, hc105, h⟩ := ob h
    replace h := bd_x (x := x106) rfl h
    replace h := bd_x (x := u107) rfl h
    refine r_callV1 (As := [.int 12, .int 9, .int 14, .int 5, .int 0, .int 0]) (rest := []) (r := 9) (i := 0) C (vX9_isWord hc105) hR hS (lv0 (by decide) (by decide)) (by decide) ml_X9_134 mw_X9_isWord rfl ⟨Nat.le_of_ble_eq_true rfl, Nat.le_of_ble_eq_true rfl, Nat.le_of_ble_eq_true rfl, Nat.le_of_ble_eq_true rfl⟩ hl.1 rfl (Nat.le_of_ble_eq_true rfl) dX9_lawHere_28 (fun H locs hR hS => ?_)
    refine lv_if_eq (tgt := 36) hx hb dX9_lawHere_31 (by decide) (fun c_108 => ?_) (fun c_108 => ?_)
    · rw [if_pos c_108] at h
      refine lv_aload_n hx hb dX9_lawHere_36 rfl (lv_at hl 0 rfl) ?_
      refine lv_bipush (v := 11) hx hb dX9_lawHere_37 (by decide) ?_
      refine lv_iconst (v := 5) hx hb dX9_lawHere_39 (by decide) ?_
      refine lv_iconst (v := 5) hx hb dX9_lawHere_40 (by decide) ?_
      refine lv_bipush (v := 16) hx hb dX9_lawHere_41 (by decide) ?_
      refine lv_bipush (v := 19) hx hb dX9_lawHere_43 (by decide) ?_
      refine lv_iconst (v := 0) hx hb dX9_lawHere_45 (by decide) ?_
      obtain ⟨⟨x110, u111⟩, hc109, h⟩ := ob h
      replace h := bd_x (x := x110) rfl h
      replace h := bd_x (x := u111) rfl h
      refine r_callV1 (As := [.int 11, .int 5, .int 5, .int 16, .int 19, .int 0]) (rest := []) (r := 9) (i := 0) C (vX9_isWord hc109) hR hS (lv0 (by decide) (by decide)) (by decide) ml_X9_134 mw_X9_isWord rfl ⟨Nat.le_of_ble_eq_true rfl, Nat.le_of_ble_eq_true rfl, Nat.le_of_ble_eq_true rfl, Nat.le_of_ble_eq_true rfl⟩ hl.1 rfl (Nat.le_of_ble_eq_true rfl) dX9_lawHere_46 (fun H locs hR hS => ?_)
      refine lv_if_eq (tgt := 54) hx hb dX9_lawHere_49 (by decide) (fun c_112 => ?_) (fun c_112 => ?_)
      · rw [if_pos c_112] at h
        refine lv_aload_n hx hb dX9_lawHere_54 rfl (lv_at hl 0 rfl) ?_
        refine lv_bipush (v := 19) hx hb dX9_lawHere_55 (by decide) ?_
        refine lv_bipush (v := 21) hx hb dX9_lawHere_57 (by decide) ?_
        refine lv_bipush (v := 18) hx hb dX9_lawHere_59 (by decide) ?_
        refine lv_iconst (v := 5) hx hb dX9_lawHere_61 (by decide) ?_
        refine lv_iconst (v := 0) hx hb dX9_lawHere_62 (by decide) ?_
        refine lv_iconst (v := 0) hx hb dX9_lawHere_63 (by decide) ?_
        obtain ⟨⟨x114, u115⟩, hc113, h⟩ := ob h
        replace h := bd_x (x := x114) rfl h
        replace h := bd_x (x := u115) rfl h
        refine r_callV1 (As := [.int 19, .int 21, .int 18, .int 5, .int 0, .int 0]) (rest := []) (r := 9) (i := 0) C (vX9_isWord hc113) hR hS (lv0 (by decide) (by decide)) (by decide) ml_X9_134 mw_X9_isWord rfl ⟨Nat.le_of_ble_eq_true rfl, Nat.le_of_ble_eq_true rfl, Nat.le_of_ble_eq_true rfl, Nat.le_of_ble_eq_true rfl⟩ hl.1 rfl (Nat.le_of_ble_eq_true rfl) dX9_lawHere_64 (fun H locs hR hS => ?_)
        refine lv_if_eq (tgt := 74) hx hb dX9_lawHere_67 (by decide) (fun c_116 => ?_) (fun c_116 => ?_)
        · rw [if_pos c_116] at h
          refine lv_iconst (v := (-1)) hx hb dX9_lawHere_74 (by decide) ?_
          cases h
          exact e_iret C hr hR hS (Nat.le_of_ble_eq_true rfl) (Nat.le_of_ble_eq_true rfl) dX9_lawHere_75
        · rw [if_neg c_116] at h
          refine lv_iconst (v := 3) hx hb dX9_lawHere_70 (by decide) ?_
          refine lv_goto (tgt := 75) hx hb dX9_lawHere_71 (by decide) ?_
          cases h
          exact e_iret C hr hR hS (Nat.le_of_ble_eq_true rfl) (Nat.le_of_ble_eq_true rfl) dX9_lawHere_75
      · rw [if_neg c_112] at h
        refine lv_iconst (v := 2) hx hb dX9_lawHere_52 (by decide) ?_
        cases h
        exact e_iret C hr hR hS (Nat.le_of_ble_eq_true rfl) (Nat.le_of_ble_eq_true rfl) dX9_lawHere_53
    · rw [if_neg c_108] at h
      refine lv_iconst (v := 1) hx hb dX9_lawHere_34 (by decide) ?_
      cases h
      exact e_iret C hr hR hS (Nat.le_of_ble_eq_true rfl) (Nat.le_of_ble_eq_true rfl) dX9_lawHere_35
  · rw [if_neg c_104] at h
    refine lv_iconst (v := 0) hx hb dX9_lawHere_16 (by decide) ?_
    cases h
    exact e_iret C hr hR hS (Nat.le_of_ble_eq_true rfl) (Nat.le_of_ble_eq_true rfl) dX9_lawHere_17
set_option maxHeartbeats 4000000 in
set_option maxRecDepth 100000 in
theorem vX9_fault {l : Launch} {E : EV} {a : Nat → Nat → Nat} {u0 : HS}  {out : (Int32 × HS)} (h : mX9_fault u0 = some out) : Ct l E yX9_fault cX9_fault 1 (some .int) 0 0 0 0 a u0 [.ref (a 9 0)] (some (.int out.1)) out.2 := by
  refine Ct.start (by decide) (Nat.le_of_ble_eq_true rfl) ?_
  intro p e s m args below meth c ls C hr hR hS hl
  have C : Cx E p s m args meth c cX9_fault 1 RX9 := C
  have hl : lv_has ls 1 [(0, .ref (a 9 0))] := hl
  have hx := C.1
  have hb := C.2.1
  unfold mX9_fault at h
  refine lv_aload_n hx hb dX9_fault_0 rfl (lv_at hl 0 rfl) ?_
  refine lv_iconst (v := 0) hx hb dX9_fault_1 (by decide) ?_
  refine r_putI (ty := .int) C hR hS 9 0 0 (lv0 (by decide) (by decide)) (by decide) (by decide) (fun _ => rfl) fl_X9_76 (by decide) (by decide +kernel) rfl rfl dX9_fault_2 (fun H locs hR hS => ?_)
  obtain ⟨u101, eu101⟩ : ∃ z : HS, z = wI u0 9 0 0 0 := ⟨_, rfl⟩
  rw [← eu101] at hR
  replace h := bd_x eu101 h
  clear eu101
  refine lv_aload_n hx hb dX9_fault_5 rfl (lv_at hl 0 rfl) ?_
  refine r_get C hR 9 0 3 (v := .int (gI u101 9 0 3)) (lv0 (by decide) (by decide)) (by decide) (by decide) rfl fl_X9_9 dX9_fault_6 ?_
  cases h
  exact e_iret C hr hR hS (Nat.le_of_ble_eq_true rfl) (Nat.le_of_ble_eq_true rfl) dX9_fault_9
set_option maxHeartbeats 4000000 in
set_option maxRecDepth 100000 in
theorem vX9_worked {l : Launch} {E : EV} {a : Nat → Nat → Nat} {u0 : HS} {x0 : Int32} {x1 : Int32} {x2 : Int32} {out : Int32} (h : mX9_worked x0 x1 x2 = some out) : Ct l E yX9_worked cX9_worked 3 (some .int) 0 0 0 0 a u0 [.int x0, .int x1, .int x2] (some (.int out)) u0 := by
  refine Ct.start (by decide) (Nat.le_of_ble_eq_true rfl) ?_
  intro p e s m args below meth c ls C hr hR hS hl
  have C : Cx E p s m args meth c cX9_worked 3 RX9 := C
  have hl : lv_has ls 3 [(0, .int x0), (1, .int x1), (2, .int x2)] := hl
  have hx := C.1
  have hb := C.2.1
  unfold mX9_worked at h
  refine lv_iload_n hx hb dX9_worked_0 rfl (lv_at hl 0 rfl) ?_
  by_cases c_101 : x0 = 10020
  · rw [if_pos c_101] at h
    refine sw_in c_101 hx hb dX9_worked_1 (by decide) (by decide) rfl (by decide) (tgt := 76) ?_
    refine lv_iload_n hx hb dX9_worked_76 rfl (lv_at hl 1 rfl) ?_
    refine lv_iload_n hx hb dX9_worked_77 rfl (lv_at hl 2 rfl) ?_
    refine lv_iadd hx hb dX9_worked_78 ?_
    cases h
    exact e_iret C hr hR hS (Nat.le_of_ble_eq_true rfl) (Nat.le_of_ble_eq_true rfl) dX9_worked_79
  rw [if_neg c_101] at h
  by_cases c_102 : x0 = 10021
  · rw [if_pos c_102] at h
    refine sw_in c_102 hx hb dX9_worked_1 (by decide) (by decide) rfl (by decide) (tgt := 80) ?_
    refine lv_iload_n hx hb dX9_worked_80 rfl (lv_at hl 1 rfl) ?_
    refine lv_iload_n hx hb dX9_worked_81 rfl (lv_at hl 2 rfl) ?_
    refine lv_isub hx hb dX9_worked_82 ?_
    cases h
    exact e_iret C hr hR hS (Nat.le_of_ble_eq_true rfl) (Nat.le_of_ble_eq_true rfl) dX9_worked_83
  rw [if_neg c_102] at h
  by_cases c_103 : x0 = 10022
  · rw [if_pos c_103] at h
    refine sw_in c_103 hx hb dX9_worked_1 (by decide) (by decide) rfl (by decide) (tgt := 84) ?_
    refine lv_iload_n hx hb dX9_worked_84 rfl (lv_at hl 1 rfl) ?_
    refine lv_iload_n hx hb dX9_worked_85 rfl (lv_at hl 2 rfl) ?_
    refine lv_imul hx hb dX9_worked_86 ?_
    cases h
    exact e_iret C hr hR hS (Nat.le_of_ble_eq_true rfl) (Nat.le_of_ble_eq_true rfl) dX9_worked_87
  rw [if_neg c_103] at h
  by_cases c_104 : x0 = 10023
  · rw [if_pos c_104] at h
    refine sw_in c_104 hx hb dX9_worked_1 (by decide) (by decide) rfl (by decide) (tgt := 88) ?_
    refine lv_iload_n hx hb dX9_worked_88 rfl (lv_at hl 2 rfl) ?_
    refine lv_if_ne (tgt := 96) hx hb dX9_worked_89 (by decide) (fun c_105 => ?_) (fun c_105 => ?_)
    · rw [if_neg c_105] at h
      refine lv_iload_n hx hb dX9_worked_96 rfl (lv_at hl 1 rfl) ?_
      refine lv_iload_n hx hb dX9_worked_97 rfl (lv_at hl 2 rfl) ?_
      obtain ⟨_, hn106, h⟩ := ob h
      refine lv_idiv hx hb dX9_worked_98 (nz_ne hn106) ?_
      cases h
      exact e_iret C hr hR hS (Nat.le_of_ble_eq_true rfl) (Nat.le_of_ble_eq_true rfl) dX9_worked_99
    · rw [if_pos c_105] at h
      refine lv_iconst (v := 0) hx hb dX9_worked_92 (by decide) ?_
      refine lv_goto (tgt := 99) hx hb dX9_worked_93 (by decide) ?_
      cases h
      exact e_iret C hr hR hS (Nat.le_of_ble_eq_true rfl) (Nat.le_of_ble_eq_true rfl) dX9_worked_99
  rw [if_neg c_104] at h
  by_cases c_107 : x0 = 10024
  · rw [if_pos c_107] at h
    refine sw_in c_107 hx hb dX9_worked_1 (by decide) (by decide) rfl (by decide) (tgt := 100) ?_
    refine lv_iload_n hx hb dX9_worked_100 rfl (lv_at hl 1 rfl) ?_
    refine lv_iload_n hx hb dX9_worked_101 rfl (lv_at hl 2 rfl) ?_
    refine lv_icmp_ge (tgt := 109) hx hb dX9_worked_102 (by decide) (fun c_108 => ?_) (fun c_108 => ?_)
    · rw [if_pos c_108] at h
      refine lv_iload_n hx hb dX9_worked_109 rfl (lv_at hl 2 rfl) ?_
      cases h
      exact e_iret C hr hR hS (Nat.le_of_ble_eq_true rfl) (Nat.le_of_ble_eq_true rfl) dX9_worked_110
    · rw [if_neg c_108] at h
      refine lv_iload_n hx hb dX9_worked_105 rfl (lv_at hl 1 rfl) ?_
      refine lv_goto (tgt := 110) hx hb dX9_worked_106 (by decide) ?_
      cases h
      exact e_iret C hr hR hS (Nat.le_of_ble_eq_true rfl) (Nat.le_of_ble_eq_true rfl) dX9_worked_110
  rw [if_neg c_107] at h
  by_cases c_109 : x0 = 10025
  · rw [if_pos c_109] at h
    refine sw_in c_109 hx hb dX9_worked_1 (by decide) (by decide) rfl (by decide) (tgt := 111) ?_
    refine lv_iload_n hx hb dX9_worked_111 rfl (lv_at hl 1 rfl) ?_
    refine lv_iload_n hx hb dX9_worked_112 rfl (lv_at hl 2 rfl) ?_
    refine lv_icmp_le (tgt := 120) hx hb dX9_worked_113 (by decide) (fun c_110 => ?_) (fun c_110 => ?_)
    · rw [if_pos c_110] at h
      refine lv_iload_n hx hb dX9_worked_120 rfl (lv_at hl 2 rfl) ?_
      cases h
      exact e_iret C hr hR hS (Nat.le_of_ble_eq_true rfl) (Nat.le_of_ble_eq_true rfl) dX9_worked_121
    · rw [if_neg c_110] at h
      refine lv_iload_n hx hb dX9_worked_116 rfl (lv_at hl 1 rfl) ?_
      refine lv_goto (tgt := 121) hx hb dX9_worked_117 (by decide) ?_
      cases h
      exact e_iret C hr hR hS (Nat.le_of_ble_eq_true rfl) (Nat.le_of_ble_eq_true rfl) dX9_worked_121
  rw [if_neg c_109] at h
  by_cases c_111 : x0 = 10026
  · rw [if_pos c_111] at h
    refine sw_in c_111 hx hb dX9_worked_1 (by decide) (by decide) rfl (by decide) (tgt := 159) ?_
    refine lv_iload_n hx hb dX9_worked_159 rfl (lv_at hl 1 rfl) ?_
    refine lv_iload_n hx hb dX9_worked_160 rfl (lv_at hl 2 rfl) ?_
    refine lv_ior hx hb dX9_worked_161 ?_
    cases h
    exact e_iret C hr hR hS (Nat.le_of_ble_eq_true rfl) (Nat.le_of_ble_eq_true rfl) dX9_worked_162
  rw [if_neg c_111] at h
  by_cases c_112 : x0 = 10027
  · rw [if_pos c_112] at h
    refine sw_in c_112 hx hb dX9_worked_1 (by decide) (by decide) rfl (by decide) (tgt := 159) ?_
    refine lv_iload_n hx hb dX9_worked_159 rfl (lv_at hl 1 rfl) ?_
    refine lv_iload_n hx hb dX9_worked_160 rfl (lv_at hl 2 rfl) ?_
    refine lv_ior hx hb dX9_worked_161 ?_
    cases h
    exact e_iret C hr hR hS (Nat.le_of_ble_eq_true rfl) (Nat.le_of_ble_eq_true rfl) dX9_worked_162
  rw [if_neg c_112] at h
  by_cases c_113 : x0 = 10028
  · rw [if_pos c_113] at h
    refine sw_in c_113 hx hb dX9_worked_1 (by decide) (by decide) rfl (by decide) (tgt := 159) ?_
    refine lv_iload_n hx hb dX9_worked_159 rfl (lv_at hl 1 rfl) ?_
    refine lv_iload_n hx hb dX9_worked_160 rfl (lv_at hl 2 rfl) ?_
    refine lv_ior hx hb dX9_worked_161 ?_
    cases h
    exact e_iret C hr hR hS (Nat.le_of_ble_eq_true rfl) (Nat.le_of_ble_eq_true rfl) dX9_worked_162
  rw [if_neg c_113] at h
  by_cases c_114 : x0 = 10029
  · rw [if_pos c_114] at h
    refine sw_in c_114 hx hb dX9_worked_1 (by decide) (by decide) rfl (by decide) (tgt := 159) ?_
    refine lv_iload_n hx hb dX9_worked_159 rfl (lv_at hl 1 rfl) ?_
    refine lv_iload_n hx hb dX9_worked_160 rfl (lv_at hl 2 rfl) ?_
    refine lv_ior hx hb dX9_worked_161 ?_
    cases h
    exact e_iret C hr hR hS (Nat.le_of_ble_eq_true rfl) (Nat.le_of_ble_eq_true rfl) dX9_worked_162
  rw [if_neg c_114] at h
  by_cases c_115 : x0 = 10030
  · rw [if_pos c_115] at h
    refine sw_in c_115 hx hb dX9_worked_1 (by decide) (by decide) rfl (by decide) (tgt := 122) ?_
    refine lv_iload_n hx hb dX9_worked_122 rfl (lv_at hl 1 rfl) ?_
    refine lv_iload_n hx hb dX9_worked_123 rfl (lv_at hl 2 rfl) ?_
    refine lv_icmp_ge (tgt := 131) hx hb dX9_worked_124 (by decide) (fun c_116 => ?_) (fun c_116 => ?_)
    · rw [if_pos c_116] at h
      refine lv_iconst (v := 0) hx hb dX9_worked_131 (by decide) ?_
      cases h
      exact e_iret C hr hR hS (Nat.le_of_ble_eq_true rfl) (Nat.le_of_ble_eq_true rfl) dX9_worked_132
    · rw [if_neg c_116] at h
      refine lv_iconst (v := 1) hx hb dX9_worked_127 (by decide) ?_
      refine lv_goto (tgt := 132) hx hb dX9_worked_128 (by decide) ?_
      cases h
      exact e_iret C hr hR hS (Nat.le_of_ble_eq_true rfl) (Nat.le_of_ble_eq_true rfl) dX9_worked_132
  rw [if_neg c_115] at h
  by_cases c_117 : x0 = 10031
  · rw [if_pos c_117] at h
    refine sw_in c_117 hx hb dX9_worked_1 (by decide) (by decide) rfl (by decide) (tgt := 133) ?_
    refine lv_iload_n hx hb dX9_worked_133 rfl (lv_at hl 1 rfl) ?_
    refine lv_iload_n hx hb dX9_worked_134 rfl (lv_at hl 2 rfl) ?_
    refine lv_icmp_le (tgt := 142) hx hb dX9_worked_135 (by decide) (fun c_118 => ?_) (fun c_118 => ?_)
    · rw [if_pos c_118] at h
      refine lv_iconst (v := 0) hx hb dX9_worked_142 (by decide) ?_
      cases h
      exact e_iret C hr hR hS (Nat.le_of_ble_eq_true rfl) (Nat.le_of_ble_eq_true rfl) dX9_worked_143
    · rw [if_neg c_118] at h
      refine lv_iconst (v := 1) hx hb dX9_worked_138 (by decide) ?_
      refine lv_goto (tgt := 143) hx hb dX9_worked_139 (by decide) ?_
      cases h
      exact e_iret C hr hR hS (Nat.le_of_ble_eq_true rfl) (Nat.le_of_ble_eq_true rfl) dX9_worked_143
  rw [if_neg c_117] at h
  by_cases c_119 : x0 = 10032
  · rw [if_pos c_119] at h
    refine sw_in c_119 hx hb dX9_worked_1 (by decide) (by decide) rfl (by decide) (tgt := 144) ?_
    refine lv_iload_n hx hb dX9_worked_144 rfl (lv_at hl 1 rfl) ?_
    refine lv_iload_n hx hb dX9_worked_145 rfl (lv_at hl 2 rfl) ?_
    refine lv_icmp_ne (tgt := 153) hx hb dX9_worked_146 (by decide) (fun c_120 => ?_) (fun c_120 => ?_)
    · rw [if_neg c_120] at h
      refine lv_iconst (v := 0) hx hb dX9_worked_153 (by decide) ?_
      cases h
      exact e_iret C hr hR hS (Nat.le_of_ble_eq_true rfl) (Nat.le_of_ble_eq_true rfl) dX9_worked_154
    · rw [if_pos c_120] at h
      refine lv_iconst (v := 1) hx hb dX9_worked_149 (by decide) ?_
      refine lv_goto (tgt := 154) hx hb dX9_worked_150 (by decide) ?_
      cases h
      exact e_iret C hr hR hS (Nat.le_of_ble_eq_true rfl) (Nat.le_of_ble_eq_true rfl) dX9_worked_154
  rw [if_neg c_119] at h
  by_cases c_121 : x0 = 10033
  · rw [if_pos c_121] at h
    refine sw_in c_121 hx hb dX9_worked_1 (by decide) (by decide) rfl (by decide) (tgt := 159) ?_
    refine lv_iload_n hx hb dX9_worked_159 rfl (lv_at hl 1 rfl) ?_
    refine lv_iload_n hx hb dX9_worked_160 rfl (lv_at hl 2 rfl) ?_
    refine lv_ior hx hb dX9_worked_161 ?_
    cases h
    exact e_iret C hr hR hS (Nat.le_of_ble_eq_true rfl) (Nat.le_of_ble_eq_true rfl) dX9_worked_162
  rw [if_neg c_121] at h
  by_cases c_122 : x0 = 10034
  · rw [if_pos c_122] at h
    refine sw_in c_122 hx hb dX9_worked_1 (by decide) (by decide) rfl (by decide) (tgt := 155) ?_
    refine lv_iload_n hx hb dX9_worked_155 rfl (lv_at hl 1 rfl) ?_
    refine lv_iload_n hx hb dX9_worked_156 rfl (lv_at hl 2 rfl) ?_
    refine lv_iand hx hb dX9_worked_157 ?_
    cases h
    exact e_iret C hr hR hS (Nat.le_of_ble_eq_true rfl) (Nat.le_of_ble_eq_true rfl) dX9_worked_158
  rw [if_neg c_122] at h
  refine lv_tableOut (tgt := 159) hx hb dX9_worked_1 (by have z0 := sw_ne (k := 10020) c_101 rfl; have z1 := sw_ne (k := 10021) c_102 rfl; have z2 := sw_ne (k := 10022) c_103 rfl; have z3 := sw_ne (k := 10023) c_104 rfl; have z4 := sw_ne (k := 10024) c_107 rfl; have z5 := sw_ne (k := 10025) c_109 rfl; have z6 := sw_ne (k := 10026) c_111 rfl; have z7 := sw_ne (k := 10027) c_112 rfl; have z8 := sw_ne (k := 10028) c_113 rfl; have z9 := sw_ne (k := 10029) c_114 rfl; have z10 := sw_ne (k := 10030) c_115 rfl; have z11 := sw_ne (k := 10031) c_117 rfl; have z12 := sw_ne (k := 10032) c_119 rfl; have z13 := sw_ne (k := 10033) c_121 rfl; have z14 := sw_ne (k := 10034) c_122 rfl; omega) (by decide) ?_
  refine lv_iload_n hx hb dX9_worked_159 rfl (lv_at hl 1 rfl) ?_
  refine lv_iload_n hx hb dX9_worked_160 rfl (lv_at hl 2 rfl) ?_
  refine lv_ior hx hb dX9_worked_161 ?_
  cases h
  exact e_iret C hr hR hS (Nat.le_of_ble_eq_true rfl) (Nat.le_of_ble_eq_true rfl) dX9_worked_162
set_option maxHeartbeats 4000000 in
set_option maxRecDepth 100000 in
theorem vX9_work {l : Launch} {E : EV} {a : Nat → Nat → Nat} {u0 : HS} {x1 : Int32} {x2 : Int32} {x3 : Int32} {out : (Int32 × HS)} (h : mX9_work u0 x1 x2 x3 = some out) : Ct l E yX9_work cX9_work 7 (some .int) 1 22 0 0 a u0 [.ref (a 9 0), .int x1, .int x2, .int x3] (some (.int out.1)) out.2 := by
  refine Ct.start (by decide) (Nat.le_of_ble_eq_true rfl) ?_
  intro p e s m args below meth c ls C hr hR hS hl
  have C : Cx E p s m args meth c cX9_work 7 RX9 := C
  have hl : lv_has ls 7 [(0, .ref (a 9 0)), (1, .int x1), (2, .int x2), (3, .int x3)] := hl
  have hx := C.1
  have hb := C.2.1
  unfold mX9_work at h
  refine lv_iconst (v := 0) hx hb dX9_work_0 (by decide) ?_
  refine lv_istore (lv' := [(4, .int 0), (0, .ref (a 9 0)), (1, .int x1), (2, .int x2), (3, .int x3)]) hx hb dX9_work_1 hl (by decide) rfl (fun ls hl => ?_)
  refine lv_iload_n hx hb dX9_work_3 rfl (lv_at hl 3 rfl) ?_
  refine lv_istore (lv' := [(5, .int x2), (4, .int 0), (0, .ref (a 9 0)), (1, .int x1), (2, .int x2), (3, .int x3)]) hx hb dX9_work_4 hl (by decide) rfl (fun ls hl => ?_)
  refine jp_cut h (fun w105 hw105 h => ?_)
  have Kw105 : ∀ (u104 : HS) (H : Heap) (locs : List Loc) (ls : Array Slot), w105 u104 = some out → Rel E a u104 H → va_S (AE E) s.heap H locs → lv_has ls 7 [(0, .ref (a 9 0))] → W p l e { frames := 1, cells := 0, slots := 0, locals := 22 } s m args below meth c H locs 0 0 (MQ below (QW E a (some (.int out.1)) out.2) args s 0 0 (AE E)) (F0 m 138 ls []) := by
    intro u104 H locs ls h hR hS hl
    replace h := jx1 hw105 h
    refine lv_aload_n hx hb dX9_work_138 rfl (lv_at hl 0 rfl) ?_
    refine r_get C hR 9 0 26 (v := .ref (a 78 0)) (lv0 (by decide) (by decide)) (by decide) (by decide) rfl fl_X9_52 dX9_work_139 ?_
    refine lv_iconst (v := 0) hx hb dX9_work_142 (by decide) ?_
    obtain ⟨k106, hk106, h⟩ := ob h
    refine r_ald C hR 78 0 (lv0 (by decide) (by decide)) (by decide) rfl (fun _ => rfl) rfl hk106 dX9_work_143 ?_
    cases h
    exact e_iret C hr hR hS (Nat.le_of_ble_eq_true rfl) (Nat.le_of_ble_eq_true rfl) dX9_work_144
  have LP : ∀ (fu : Nat) (x101 : Int32) (x102 : Int32) (u103 : HS) (H : Heap) (locs : List Loc) (ls : Array Slot), mX9_work_L6 x3 x1 w105 fu x101 x102 u103 = some out → Rel E a u103 H → va_S (AE E) s.heap H locs → lv_has ls 7 [(0, .ref (a 9 0)), (1, .int x1), (3, .int x3), (4, .int x101), (5, .int x102)] → W p l e { frames := 1, cells := 0, slots := 0, locals := 22 } s m args below meth c H locs 0 0 (MQ below (QW E a (some (.int out.1)) out.2) args s 0 0 (AE E)) (F0 m 6 ls []) := by
    intro fu
    induction fu with
    | zero =>
      intro x101 x102 u103 H locs ls h
      have h2 : (none : Option (Int32 × HS)) = some out := h
      cases h2
    | succ fu ih =>
      intro x101 x102 u103 H locs ls h hR hS hl
      rw [mX9_work_L6.eq_2] at h
      refine lv_iload hx hb dX9_work_6 (lv_at hl 4 rfl) ?_
      refine lv_iload_n hx hb dX9_work_8 rfl (lv_at hl 2 rfl) ?_
      refine lv_icmp_ge (tgt := 138) hx hb dX9_work_9 (by decide) (fun c_107 => ?_) (fun c_107 => ?_)
      · rw [if_pos c_107] at h
        exact Kw105 _ _ _ _ h hR hS (lv_sub hl [0] rfl)
      · rw [if_neg c_107] at h
        refine lv_aload_n hx hb dX9_work_12 rfl (lv_at hl 0 rfl) ?_
        refine r_get C hR 9 0 22 (v := .ref (a 72 0)) (lv0 (by decide) (by decide)) (by decide) (by decide) rfl fl_X9_40 dX9_work_13 ?_
        refine lv_iload_n hx hb dX9_work_16 rfl (lv_at hl 1 rfl) ?_
        obtain ⟨k108, hk108, h⟩ := ob h
        have hLk108 : k108 < cntS 73 := by have q1 := (ck_in hk108).2.2; have q2 : cntS 73 = 4 := rfl; omega
        refine r_aald C hR 72 0 73 0 6 (lv0 (by decide) (by decide)) (by decide) rfl rfl rfl (fun _ => rfl) rfl hk108 dX9_work_17 ?_
        refine lv_iload hx hb dX9_work_18 (lv_at hl 4 rfl) ?_
        obtain ⟨k109, hk109, h⟩ := ob h
        refine r_ald C hR 73 k108 (lv0 hLk108 (by decide)) (by decide) rfl (fun _ => rfl) rfl hk109 dX9_work_20 ?_
        refine lv_topi (fun x110 ex110 => ?_)
        replace h := bd_x ex110 h
        refine lv_istore (lv' := [(6, .int x110), (0, .ref (a 9 0)), (1, .int x1), (3, .int x3), (4, .int x101), (5, .int x102)]) hx hb dX9_work_21 hl (by decide) rfl (fun ls hl => ?_)
        refine lv_iload hx hb dX9_work_23 (lv_at hl 0 rfl) ?_
        refine lv_sipush (v := 10020) hx hb dX9_work_25 (by decide) ?_
        refine jp_cut h (fun j113 hj113 h => ?_)
        have Kj113 : ∀ (x111 : Int32) (u112 : HS) (H : Heap) (locs : List Loc) (ls : Array Slot), j113 x111 u112 = some out → Rel E a u112 H → va_S (AE E) s.heap H locs → lv_has ls 7 [(0, .ref (a 9 0)), (1, .int x1), (3, .int x3), (4, .int x111), (5, .int x102)] → W p l e { frames := 1, cells := 0, slots := 0, locals := 22 } s m args below meth c H locs 0 0 (MQ below (QW E a (some (.int out.1)) out.2) args s 0 0 (AE E)) (F0 m 132 ls []) := by
          intro x111 u112 H locs ls h hR hS hl
          replace h := jx2 hj113 h
          obtain ⟨x114, ex114⟩ : ∃ z : Int32, z = x102 + 1 := ⟨_, rfl⟩
          replace h := bd_x ex114 h
          refine lv_iinc (v := x114) (lv' := [(5, .int x114), (0, .ref (a 9 0)), (1, .int x1), (3, .int x3), (4, .int x111)]) hx hb dX9_work_132 hl (k := 4) rfl (by rw [ex114]; rfl) (by decide) rfl (fun ls hl => ?_)
          refine lv_goto (tgt := 6) hx hb dX9_work_135 (by decide) ?_
          exact ih _ _ _ _ _ _ h hR hS (lv_sub hl [1, 2, 3, 4, 0] rfl)
        refine lv_icmp_ge (tgt := 68) hx hb dX9_work_28 (by decide) (fun c_115 => ?_) (fun c_115 => ?_)
        · rw [if_pos c_115] at h
          refine lv_iload hx hb dX9_work_68 (lv_at hl 0 rfl) ?_
          refine lv_sipush (v := 10033) hx hb dX9_work_70 (by decide) ?_
          refine lv_icmp_ne (tgt := 99) hx hb dX9_work_73 (by decide) (fun c_116 => ?_) (fun c_116 => ?_)
          · rw [if_neg c_116] at h
            obtain ⟨x117, ex117⟩ : ∃ z : Int32, z = x101 + (-1) := ⟨_, rfl⟩
            replace h := bd_x ex117 h
            refine lv_iinc (v := x117) (lv' := [(4, .int x117), (6, .int x110), (0, .ref (a 9 0)), (1, .int x1), (3, .int x3), (5, .int x102)]) hx hb dX9_work_99 hl (k := 4) rfl (by rw [ex117]; rfl) (by decide) rfl (fun ls hl => ?_)
            refine lv_aload_n hx hb dX9_work_102 rfl (lv_at hl 2 rfl) ?_
            refine r_get C hR 9 0 26 (v := .ref (a 78 0)) (lv0 (by decide) (by decide)) (by decide) (by decide) rfl fl_X9_52 dX9_work_103 ?_
            refine lv_iload hx hb dX9_work_106 (lv_at hl 0 rfl) ?_
            refine lv_iconst (v := 1) hx hb dX9_work_108 (by decide) ?_
            refine lv_isub hx hb dX9_work_109 ?_
            refine lv_iload hx hb dX9_work_110 (lv_at hl 1 rfl) ?_
            refine lv_aload_n hx hb dX9_work_112 rfl (lv_at hl 2 rfl) ?_
            refine r_get C hR 9 0 26 (v := .ref (a 78 0)) (lv0 (by decide) (by decide)) (by decide) (by decide) rfl fl_X9_52 dX9_work_113 ?_
            refine lv_iload hx hb dX9_work_116 (lv_at hl 0 rfl) ?_
            refine lv_iconst (v := 1) hx hb dX9_work_118 (by decide) ?_
            refine lv_isub hx hb dX9_work_119 ?_
            obtain ⟨k118, hk118, h⟩ := ob h
            refine r_ald C hR 78 0 (lv0 (by decide) (by decide)) (by decide) rfl (fun _ => rfl) rfl hk118 dX9_work_120 ?_
            refine lv_aload_n hx hb dX9_work_121 rfl (lv_at hl 2 rfl) ?_
            refine r_get C hR 9 0 26 (v := .ref (a 78 0)) (lv0 (by decide) (by decide)) (by decide) (by decide) rfl fl_X9_52 dX9_work_122 ?_
            refine lv_iload hx hb dX9_work_125 (lv_at hl 0 rfl) ?_
            obtain ⟨k119, hk119, h⟩ := ob h
            refine r_ald C hR 78 0 (lv0 (by decide) (by decide)) (by decide) rfl (fun _ => rfl) rfl hk119 dX9_work_127 ?_
            obtain ⟨x121, hc120, h⟩ := ob h
            refine r_callS1 (As := [.int x110, .int (gI u103 78 0 k118), .int (gI u103 78 0 k119)]) (rest := [.int (x117 - 1), .ref (a 78 0)]) C (vX9_worked hc120) hR hS ml_X9_225 ms_X9_worked rfl ⟨Nat.le_of_ble_eq_true rfl, Nat.le_of_ble_eq_true rfl, Nat.le_of_ble_eq_true rfl, Nat.le_of_ble_eq_true rfl⟩ hl.1 rfl (Nat.le_of_ble_eq_true rfl) dX9_work_128 (fun H locs hR hS => ?_)
            obtain ⟨k122, hk122, h⟩ := ob h
            refine r_ast C hR hS 78 0 (lv0 (by decide) (by decide)) (by decide) rfl (fun _ _ => rfl) rfl hk122 dX9_work_131 (fun H locs hR hS => ?_)
            obtain ⟨u123, eu123⟩ : ∃ z : HS, z = wI u103 78 0 k122 x121 := ⟨_, rfl⟩
            rw [← eu123] at hR
            replace h := bd_x eu123 h
            clear eu123
            exact Kj113 _ _ _ _ _ h hR hS (lv_sub hl [2, 3, 4, 0, 5] rfl)
          · rw [if_pos c_116] at h
            refine lv_aload_n hx hb dX9_work_76 rfl (lv_at hl 1 rfl) ?_
            refine r_get C hR 9 0 26 (v := .ref (a 78 0)) (lv0 (by decide) (by decide)) (by decide) (by decide) rfl fl_X9_52 dX9_work_77 ?_
            refine lv_iload hx hb dX9_work_80 (lv_at hl 4 rfl) ?_
            refine lv_iconst (v := 1) hx hb dX9_work_82 (by decide) ?_
            refine lv_isub hx hb dX9_work_83 ?_
            refine lv_iconst (v := 1) hx hb dX9_work_84 (by decide) ?_
            refine lv_aload_n hx hb dX9_work_85 rfl (lv_at hl 1 rfl) ?_
            refine r_get C hR 9 0 26 (v := .ref (a 78 0)) (lv0 (by decide) (by decide)) (by decide) (by decide) rfl fl_X9_52 dX9_work_86 ?_
            refine lv_iload hx hb dX9_work_89 (lv_at hl 4 rfl) ?_
            refine lv_iconst (v := 1) hx hb dX9_work_91 (by decide) ?_
            refine lv_isub hx hb dX9_work_92 ?_
            obtain ⟨k124, hk124, h⟩ := ob h
            refine r_ald C hR 78 0 (lv0 (by decide) (by decide)) (by decide) rfl (fun _ => rfl) rfl hk124 dX9_work_93 ?_
            refine lv_isub hx hb dX9_work_94 ?_
            obtain ⟨k125, hk125, h⟩ := ob h
            refine r_ast C hR hS 78 0 (lv0 (by decide) (by decide)) (by decide) rfl (fun _ _ => rfl) rfl hk125 dX9_work_95 (fun H locs hR hS => ?_)
            obtain ⟨u126, eu126⟩ : ∃ z : HS, z = wI u103 78 0 k125 (1 - (gI u103 78 0 k124)) := ⟨_, rfl⟩
            rw [← eu126] at hR
            replace h := bd_x eu126 h
            clear eu126
            refine lv_goto (tgt := 132) hx hb dX9_work_96 (by decide) ?_
            exact Kj113 _ _ _ _ _ h hR hS (lv_sub hl [1, 2, 3, 4, 5] rfl)
        · rw [if_neg c_115] at h
          refine lv_aload_n hx hb dX9_work_31 rfl (lv_at hl 1 rfl) ?_
          refine r_get C hR 9 0 26 (v := .ref (a 78 0)) (lv0 (by decide) (by decide)) (by decide) (by decide) rfl fl_X9_52 dX9_work_32 ?_
          refine lv_iload hx hb dX9_work_35 (lv_at hl 4 rfl) ?_
          refine lv_iload hx hb dX9_work_37 (lv_at hl 0 rfl) ?_
          refine lv_sipush (v := 10000) hx hb dX9_work_39 (by decide) ?_
          obtain ⟨x127, hz, h⟩ := ob h
          have Kj128 : ∀ (H : Heap) (locs : List Loc) (ls : Array Slot), Rel E a u103 H → va_S (AE E) s.heap H locs → lv_has ls 7 [(0, .ref (a 9 0)), (1, .int x1), (3, .int x3), (4, .int x101), (5, .int x102)] → W p l e { frames := 1, cells := 0, slots := 0, locals := 22 } s m args below meth c H locs 0 0 (MQ below (QW E a (some (.int out.1)) out.2) args s 0 0 (AE E)) (F0 m 61 ls [.int x127, .int x101, .ref (a 78 0)]) := by
            intro H locs ls hR hS hl
            clear hz
            obtain ⟨k129, hk129, h⟩ := ob h
            refine r_ast C hR hS 78 0 (lv0 (by decide) (by decide)) (by decide) rfl (fun _ _ => rfl) rfl hk129 dX9_work_61 (fun H locs hR hS => ?_)
            obtain ⟨u130, eu130⟩ : ∃ z : HS, z = wI u103 78 0 k129 x127 := ⟨_, rfl⟩
            rw [← eu130] at hR
            replace h := bd_x eu130 h
            clear eu130
            obtain ⟨x131, ex131⟩ : ∃ z : Int32, z = x101 + 1 := ⟨_, rfl⟩
            replace h := bd_x ex131 h
            refine lv_iinc (v := x131) (lv' := [(4, .int x131), (0, .ref (a 9 0)), (1, .int x1), (3, .int x3), (5, .int x102)]) hx hb dX9_work_62 hl (k := 3) rfl (by rw [ex131]; rfl) (by decide) rfl (fun ls hl => ?_)
            refine lv_goto (tgt := 132) hx hb dX9_work_65 (by decide) ?_
            exact Kj113 _ _ _ _ _ h hR hS (lv_sub hl [1, 2, 3, 0, 4] rfl)
          clear h
          have h := hz
          clear hz
          refine lv_icmp_ge (tgt := 50) hx hb dX9_work_42 (by decide) (fun c_132 => ?_) (fun c_132 => ?_)
          · rw [if_pos c_132] at h
            refine lv_aload_n hx hb dX9_work_50 rfl (lv_at hl 1 rfl) ?_
            refine r_get C hR 9 0 27 (v := .ref (a 79 0)) (lv0 (by decide) (by decide)) (by decide) (by decide) rfl fl_X9_55 dX9_work_51 ?_
            refine lv_iload hx hb dX9_work_54 (lv_at hl 0 rfl) ?_
            refine lv_sipush (v := 10000) hx hb dX9_work_56 (by decide) ?_
            refine lv_isub hx hb dX9_work_59 ?_
            obtain ⟨k133, hk133, h⟩ := ob h
            refine r_ald C hR 79 0 (lv0 (by decide) (by decide)) (by decide) rfl (fun _ => rfl) rfl hk133 dX9_work_60 ?_
            cases h
            exact Kj128 _ _ _ hR hS (lv_sub hl [1, 2, 3, 4, 5] rfl)
          · rw [if_neg c_132] at h
            refine lv_iload hx hb dX9_work_45 (lv_at hl 0 rfl) ?_
            refine lv_goto (tgt := 61) hx hb dX9_work_47 (by decide) ?_
            cases h
            exact Kj128 _ _ _ hR hS (lv_sub hl [1, 2, 3, 4, 5] rfl)
  exact LP FU _ _ _ _ _ _ h hR hS (lv_sub hl [2, 3, 5, 1, 0] rfl)
set_option maxHeartbeats 4000000 in
set_option maxRecDepth 100000 in
theorem vX9_holds {l : Launch} {E : EV} {a : Nat → Nat → Nat} {u0 : HS} {x1 : Int32} {i2 : Nat} {out : (Int32 × HS)} (hi2 : i2 < cntS 75) (h : mX9_holds u0 x1 i2 = some out) : Ct l E yX9_holds cX9_holds 3 (some .boolean) 2 48 0 0 a u0 [.ref (a 9 0), .int x1, .ref (a 75 i2)] (some (.int out.1)) out.2 := by
  refine Ct.start (by decide) (Nat.le_of_ble_eq_true rfl) ?_
  intro p e s m args below meth c ls C hr hR hS hl
  have C : Cx E p s m args meth c cX9_holds 3 RX9 := C
  have hl : lv_has ls 3 [(0, .ref (a 9 0)), (1, .int x1), (2, .ref (a 75 i2))] := hl
  have hx := C.1
  have hb := C.2.1
  unfold mX9_holds at h
  refine lv_aload_n hx hb dX9_holds_0 rfl (lv_at hl 2 rfl) ?_
  refine lv_iconst (v := 3) hx hb dX9_holds_1 (by decide) ?_
  obtain ⟨k101, hk101, h⟩ := ob h
  refine r_ald C hR 75 i2 (lv0 hi2 (by decide)) (by decide) rfl (fun _ => rfl) rfl hk101 dX9_holds_2 ?_
  refine lv_iconst (v := (-1)) hx hb dX9_holds_3 (by decide) ?_
  refine lv_icmp_eq (tgt := 22) hx hb dX9_holds_4 (by decide) (fun c_102 => ?_) (fun c_102 => ?_)
  · rw [if_pos c_102] at h
    refine lv_iconst (v := 1) hx hb dX9_holds_22 (by decide) ?_
    refine lv_goto (tgt := 27) hx hb dX9_holds_23 (by decide) ?_
    cases h
    exact e_zret (v := 1) C hr rfl hR hS (Nat.le_of_ble_eq_true rfl) (Nat.le_of_ble_eq_true rfl) dX9_holds_27
  · rw [if_neg c_102] at h
    refine lv_aload_n hx hb dX9_holds_7 rfl (lv_at hl 0 rfl) ?_
    refine lv_iload_n hx hb dX9_holds_8 rfl (lv_at hl 1 rfl) ?_
    refine lv_aload_n hx hb dX9_holds_9 rfl (lv_at hl 2 rfl) ?_
    refine lv_iconst (v := 2) hx hb dX9_holds_10 (by decide) ?_
    obtain ⟨k103, hk103, h⟩ := ob h
    refine r_ald C hR 75 i2 (lv0 hi2 (by decide)) (by decide) rfl (fun _ => rfl) rfl hk103 dX9_holds_11 ?_
    refine lv_aload_n hx hb dX9_holds_12 rfl (lv_at hl 2 rfl) ?_
    refine lv_iconst (v := 3) hx hb dX9_holds_13 (by decide) ?_
    obtain ⟨k104, hk104, h⟩ := ob h
    refine r_ald C hR 75 i2 (lv0 hi2 (by decide)) (by decide) rfl (fun _ => rfl) rfl hk104 dX9_holds_14 ?_
    obtain ⟨⟨x106, u107⟩, hc105, h⟩ := ob h
    replace h := bd_x (x := x106) rfl h
    replace h := bd_x (x := u107) rfl h
    refine r_callV1 (As := [.int x1, .int (gI u0 75 i2 k103), .int (gI u0 75 i2 k104)]) (rest := []) (r := 9) (i := 0) C (vX9_work hc105) hR hS (lv0 (by decide) (by decide)) (by decide) ml_X9_228 mw_X9_work rfl ⟨Nat.le_of_ble_eq_true rfl, Nat.le_of_ble_eq_true rfl, Nat.le_of_ble_eq_true rfl, Nat.le_of_ble_eq_true rfl⟩ hl.1 rfl (Nat.le_of_ble_eq_true rfl) dX9_holds_15 (fun H locs hR hS => ?_)
    refine lv_iconst (v := 1) hx hb dX9_holds_18 (by decide) ?_
    refine lv_icmp_ne (tgt := 26) hx hb dX9_holds_19 (by decide) (fun c_108 => ?_) (fun c_108 => ?_)
    · rw [if_neg c_108] at h
      refine lv_iconst (v := 0) hx hb dX9_holds_26 (by decide) ?_
      cases h
      exact e_zret (v := 0) C hr rfl hR hS (Nat.le_of_ble_eq_true rfl) (Nat.le_of_ble_eq_true rfl) dX9_holds_27
    · rw [if_pos c_108] at h
      refine lv_iconst (v := 1) hx hb dX9_holds_22 (by decide) ?_
      refine lv_goto (tgt := 27) hx hb dX9_holds_23 (by decide) ?_
      cases h
      exact e_zret (v := 1) C hr rfl hR hS (Nat.le_of_ble_eq_true rfl) (Nat.le_of_ble_eq_true rfl) dX9_holds_27
set_option maxHeartbeats 4000000 in
set_option maxRecDepth 100000 in
theorem vX9_lastOf {l : Launch} {E : EV} {a : Nat → Nat → Nat} {u0 : HS} {x1 : Int32} {x2 : Int32} {x3 : Int32} {x4 : Int32} {x5 : Int32} {out : (Int32 × HS)} (h : mX9_lastOf u0 x1 x2 x3 x4 x5 = some out) : Ct l E yX9_lastOf cX9_lastOf 9 (some .int) 3 70 0 0 a u0 [.ref (a 9 0), .int x1, .int x2, .int x3, .int x4, .int x5] (some (.int out.1)) out.2 := by
  refine Ct.start (by decide) (Nat.le_of_ble_eq_true rfl) ?_
  intro p e s m args below meth c ls C hr hR hS hl
  have C : Cx E p s m args meth c cX9_lastOf 9 RX9 := C
  have hl : lv_has ls 9 [(0, .ref (a 9 0)), (1, .int x1), (2, .int x2), (3, .int x3), (4, .int x4), (5, .int x5)] := hl
  have hx := C.1
  have hb := C.2.1
  unfold mX9_lastOf at h
  refine lv_iload hx hb dX9_lastOf_0 (lv_at hl 5 rfl) ?_
  refine lv_istore (lv' := [(6, .int x5), (0, .ref (a 9 0)), (1, .int x1), (2, .int x2), (3, .int x3), (4, .int x4), (5, .int x5)]) hx hb dX9_lastOf_2 hl (by decide) rfl (fun ls hl => ?_)
  refine lv_iconst (v := 0) hx hb dX9_lastOf_4 (by decide) ?_
  refine lv_istore (lv' := [(7, .int 0), (6, .int x5), (0, .ref (a 9 0)), (1, .int x1), (2, .int x2), (3, .int x3), (4, .int x4), (5, .int x5)]) hx hb dX9_lastOf_5 hl (by decide) rfl (fun ls hl => ?_)
  refine jp_cut h (fun w106 hw106 h => ?_)
  have Kw106 : ∀ (x104 : Int32) (u105 : HS) (H : Heap) (locs : List Loc) (ls : Array Slot), w106 x104 u105 = some out → Rel E a u105 H → va_S (AE E) s.heap H locs → lv_has ls 9 [(6, .int x104)] → W p l e { frames := 3, cells := 0, slots := 0, locals := 70 } s m args below meth c H locs 0 0 (MQ below (QW E a (some (.int out.1)) out.2) args s 0 0 (AE E)) (F0 m 77 ls []) := by
    intro x104 u105 H locs ls h hR hS hl
    replace h := jx2 hw106 h
    refine lv_iload hx hb dX9_lastOf_77 (lv_at hl 0 rfl) ?_
    cases h
    exact e_iret C hr hR hS (Nat.le_of_ble_eq_true rfl) (Nat.le_of_ble_eq_true rfl) dX9_lastOf_79
  have LP : ∀ (fu : Nat) (x101 : Int32) (x102 : Int32) (u103 : HS) (H : Heap) (locs : List Loc) (ls : Array Slot), mX9_lastOf_L7 x1 x2 x3 x4 w106 fu x101 x102 u103 = some out → Rel E a u103 H → va_S (AE E) s.heap H locs → lv_has ls 9 [(0, .ref (a 9 0)), (1, .int x1), (2, .int x2), (3, .int x3), (4, .int x4), (6, .int x101), (7, .int x102)] → W p l e { frames := 3, cells := 0, slots := 0, locals := 70 } s m args below meth c H locs 0 0 (MQ below (QW E a (some (.int out.1)) out.2) args s 0 0 (AE E)) (F0 m 7 ls []) := by
    intro fu
    induction fu with
    | zero =>
      intro x101 x102 u103 H locs ls h
      have h2 : (none : Option (Int32 × HS)) = some out := h
      cases h2
    | succ fu ih =>
      intro x101 x102 u103 H locs ls h hR hS hl
      rw [mX9_lastOf_L7.eq_2] at h
      refine lv_iload hx hb dX9_lastOf_7 (lv_at hl 6 rfl) ?_
      refine lv_aload_n hx hb dX9_lastOf_9 rfl (lv_at hl 0 rfl) ?_
      refine r_get C hR 9 0 24 (v := .ref (a 76 0)) (lv0 (by decide) (by decide)) (by decide) (by decide) rfl fl_X9_46 dX9_lastOf_10 ?_
      refine lv_iload_n hx hb dX9_lastOf_13 rfl (lv_at hl 1 rfl) ?_
      obtain ⟨k107, hk107, h⟩ := ob h
      refine r_ald C hR 76 0 (lv0 (by decide) (by decide)) (by decide) rfl (fun _ => rfl) rfl hk107 dX9_lastOf_14 ?_
      refine lv_icmp_ge (tgt := 77) hx hb dX9_lastOf_15 (by decide) (fun c_108 => ?_) (fun c_108 => ?_)
      · rw [if_pos c_108] at h
        exact Kw106 _ _ _ _ _ h hR hS (lv_sub hl [5] rfl)
      · rw [if_neg c_108] at h
        refine lv_aload_n hx hb dX9_lastOf_18 rfl (lv_at hl 0 rfl) ?_
        refine r_get C hR 9 0 23 (v := .ref (a 74 0)) (lv0 (by decide) (by decide)) (by decide) (by decide) rfl fl_X9_43 dX9_lastOf_19 ?_
        refine lv_bipush (v := 16) hx hb dX9_lastOf_22 (by decide) ?_
        refine lv_iload_n hx hb dX9_lastOf_24 rfl (lv_at hl 1 rfl) ?_
        refine lv_imul hx hb dX9_lastOf_25 ?_
        refine lv_iload hx hb dX9_lastOf_26 (lv_at hl 6 rfl) ?_
        refine lv_iadd hx hb dX9_lastOf_28 ?_
        obtain ⟨k109, hk109, h⟩ := ob h
        have hLk109 : k109 < cntS 75 := by have q1 := (ck_in hk109).2.2; have q2 : cntS 75 = 64 := rfl; omega
        refine r_aald C hR 74 0 75 0 6 (lv0 (by decide) (by decide)) (by decide) rfl rfl rfl (fun _ => rfl) rfl hk109 dX9_lastOf_29 ?_
        refine lv_astore (lv' := [(8, .ref (a 75 k109)), (0, .ref (a 9 0)), (1, .int x1), (2, .int x2), (3, .int x3), (4, .int x4), (6, .int x101), (7, .int x102)]) hx hb dX9_lastOf_30 hl (by decide) rfl (fun ls hl => ?_)
        refine lv_aload hx hb dX9_lastOf_32 (lv_at hl 0 rfl) ?_
        refine lv_iconst (v := 0) hx hb dX9_lastOf_34 (by decide) ?_
        obtain ⟨k110, hk110, h⟩ := ob h
        refine r_ald C hR 75 k109 (lv0 hLk109 (by decide)) (by decide) rfl (fun _ => rfl) rfl hk110 dX9_lastOf_35 ?_
        refine lv_iload_n hx hb dX9_lastOf_36 rfl (lv_at hl 3 rfl) ?_
        refine jp_cut h (fun j113 hj113 h => ?_)
        have Kj113 : ∀ (x111 : Int32) (u112 : HS) (H : Heap) (locs : List Loc) (ls : Array Slot), j113 x111 u112 = some out → Rel E a u112 H → va_S (AE E) s.heap H locs → lv_has ls 9 [(0, .ref (a 9 0)), (1, .int x1), (2, .int x2), (3, .int x3), (4, .int x4), (6, .int x111), (7, .int x102)] → W p l e { frames := 3, cells := 0, slots := 0, locals := 70 } s m args below meth c H locs 0 0 (MQ below (QW E a (some (.int out.1)) out.2) args s 0 0 (AE E)) (F0 m 71 ls []) := by
          intro x111 u112 H locs ls h hR hS hl
          replace h := jx2 hj113 h
          obtain ⟨x114, ex114⟩ : ∃ z : Int32, z = x102 + 1 := ⟨_, rfl⟩
          replace h := bd_x ex114 h
          refine lv_iinc (v := x114) (lv' := [(7, .int x114), (0, .ref (a 9 0)), (1, .int x1), (2, .int x2), (3, .int x3), (4, .int x4), (6, .int x111)]) hx hb dX9_lastOf_71 hl (k := 6) rfl (by rw [ex114]; rfl) (by decide) rfl (fun ls hl => ?_)
          refine lv_goto (tgt := 7) hx hb dX9_lastOf_74 (by decide) ?_
          exact ih _ _ _ _ _ _ h hR hS (lv_sub hl [1, 2, 3, 4, 5, 6, 0] rfl)
        refine lv_icmp_ne (tgt := 71) hx hb dX9_lastOf_37 (by decide) (fun c_115 => ?_) (fun c_115 => ?_)
        · rw [if_neg c_115] at h
          exact Kj113 _ _ _ _ _ h hR hS (lv_sub hl [1, 2, 3, 4, 5, 6, 7] rfl)
        · rw [if_pos c_115] at h
          refine lv_aload_n hx hb dX9_lastOf_40 rfl (lv_at hl 1 rfl) ?_
          refine lv_iload_n hx hb dX9_lastOf_41 rfl (lv_at hl 2 rfl) ?_
          refine lv_aload hx hb dX9_lastOf_42 (lv_at hl 0 rfl) ?_
          obtain ⟨⟨x117, u118⟩, hc116, h⟩ := ob h
          replace h := bd_x (x := x117) rfl h
          replace h := bd_x (x := u118) rfl h
          refine r_callV1 (As := [.int x1, .ref (a 75 k109)]) (rest := []) (r := 9) (i := 0) C (vX9_holds hLk109 hc116) hR hS (lv0 (by decide) (by decide)) (by decide) ml_X9_231 mw_X9_holds rfl ⟨Nat.le_of_ble_eq_true rfl, Nat.le_of_ble_eq_true rfl, Nat.le_of_ble_eq_true rfl, Nat.le_of_ble_eq_true rfl⟩ hl.1 rfl (Nat.le_of_ble_eq_true rfl) dX9_lastOf_44 (fun H locs hR hS => ?_)
          refine lv_if_eq (tgt := 71) hx hb dX9_lastOf_47 (by decide) (fun c_119 => ?_) (fun c_119 => ?_)
          · rw [if_pos c_119] at h
            exact Kj113 _ _ _ _ _ h hR hS (lv_sub hl [1, 2, 3, 4, 5, 6, 7] rfl)
          · rw [if_neg c_119] at h
            refine lv_aload_n hx hb dX9_lastOf_50 rfl (lv_at hl 1 rfl) ?_
            refine lv_iload_n hx hb dX9_lastOf_51 rfl (lv_at hl 2 rfl) ?_
            refine lv_aload hx hb dX9_lastOf_52 (lv_at hl 0 rfl) ?_
            refine lv_iconst (v := 1) hx hb dX9_lastOf_54 (by decide) ?_
            obtain ⟨k120, hk120, h⟩ := ob h
            refine r_ald C hR 75 k109 (lv0 hLk109 (by decide)) (by decide) rfl (fun _ => rfl) rfl hk120 dX9_lastOf_55 ?_
            refine lv_aload hx hb dX9_lastOf_56 (lv_at hl 0 rfl) ?_
            refine lv_iconst (v := 2) hx hb dX9_lastOf_58 (by decide) ?_
            obtain ⟨k121, hk121, h⟩ := ob h
            refine r_ald C hR 75 k109 (lv0 hLk109 (by decide)) (by decide) rfl (fun _ => rfl) rfl hk121 dX9_lastOf_59 ?_
            obtain ⟨⟨x123, u124⟩, hc122, h⟩ := ob h
            replace h := bd_x (x := x123) rfl h
            replace h := bd_x (x := u124) rfl h
            refine r_callV1 (As := [.int x1, .int (gI u118 75 k109 k120), .int (gI u118 75 k109 k121)]) (rest := []) (r := 9) (i := 0) C (vX9_work hc122) hR hS (lv0 (by decide) (by decide)) (by decide) ml_X9_228 mw_X9_work rfl ⟨Nat.le_of_ble_eq_true rfl, Nat.le_of_ble_eq_true rfl, Nat.le_of_ble_eq_true rfl, Nat.le_of_ble_eq_true rfl⟩ hl.1 rfl (Nat.le_of_ble_eq_true rfl) dX9_lastOf_60 (fun H locs hR hS => ?_)
            refine lv_iload_n hx hb dX9_lastOf_63 rfl (lv_at hl 4 rfl) ?_
            refine lv_iload hx hb dX9_lastOf_64 (lv_at hl 5 rfl) ?_
            obtain ⟨x126, hc125, h⟩ := ob h
            refine r_callS1 (As := [.int x123, .int x3, .int x4]) (rest := []) C (vX9_within hc125) hR hS ml_X9_235 ms_X9_within rfl ⟨Nat.le_of_ble_eq_true rfl, Nat.le_of_ble_eq_true rfl, Nat.le_of_ble_eq_true rfl, Nat.le_of_ble_eq_true rfl⟩ hl.1 rfl (Nat.le_of_ble_eq_true rfl) dX9_lastOf_66 (fun H locs hR hS => ?_)
            refine lv_istore (lv' := [(6, .int x126), (8, .ref (a 75 k109)), (0, .ref (a 9 0)), (1, .int x1), (2, .int x2), (3, .int x3), (4, .int x4), (7, .int x102)]) hx hb dX9_lastOf_69 hl (by decide) rfl (fun ls hl => ?_)
            exact Kj113 _ _ _ _ _ h hR hS (lv_sub hl [2, 3, 4, 5, 6, 0, 7] rfl)
  exact LP FU _ _ _ _ _ _ h hR hS (lv_sub hl [2, 3, 4, 5, 6, 1, 0] rfl)
set_option maxHeartbeats 4000000 in
set_option maxRecDepth 100000 in
theorem vX9_getsNow {l : Launch} {E : EV} {a : Nat → Nat → Nat} {u0 : HS} {x1 : Int32} {out : (Int32 × HS)} (h : mX9_getsNow u0 x1 = some out) : Ct l E yX9_getsNow cX9_getsNow 5 (some .int) 3 70 0 0 a u0 [.ref (a 9 0), .int x1] (some (.int out.1)) out.2 := by
  refine Ct.start (by decide) (Nat.le_of_ble_eq_true rfl) ?_
  intro p e s m args below meth c ls C hr hR hS hl
  have C : Cx E p s m args meth c cX9_getsNow 5 RX9 := C
  have hl : lv_has ls 5 [(0, .ref (a 9 0)), (1, .int x1)] := hl
  have hx := C.1
  have hb := C.2.1
  unfold mX9_getsNow at h
  refine lv_iconst (v := 0) hx hb dX9_getsNow_0 (by decide) ?_
  refine lv_istore_n (lv' := [(2, .int 0), (0, .ref (a 9 0)), (1, .int x1)]) hx hb dX9_getsNow_1 rfl hl (by decide) rfl (fun ls hl => ?_)
  refine lv_iconst (v := 0) hx hb dX9_getsNow_2 (by decide) ?_
  refine lv_istore_n (lv' := [(3, .int 0), (2, .int 0), (0, .ref (a 9 0)), (1, .int x1)]) hx hb dX9_getsNow_3 rfl hl (by decide) rfl (fun ls hl => ?_)
  refine jp_cut h (fun w106 hw106 h => ?_)
  have Kw106 : ∀ (x104 : Int32) (u105 : HS) (H : Heap) (locs : List Loc) (ls : Array Slot), w106 x104 u105 = some out → Rel E a u105 H → va_S (AE E) s.heap H locs → lv_has ls 5 [(2, .int x104)] → W p l e { frames := 3, cells := 0, slots := 0, locals := 70 } s m args below meth c H locs 0 0 (MQ below (QW E a (some (.int out.1)) out.2) args s 0 0 (AE E)) (F0 m 66 ls []) := by
    intro x104 u105 H locs ls h hR hS hl
    replace h := jx2 hw106 h
    refine lv_iload_n hx hb dX9_getsNow_66 rfl (lv_at hl 0 rfl) ?_
    refine lv_iconst (v := 0) hx hb dX9_getsNow_67 (by decide) ?_
    refine lv_sipush (v := 1000) hx hb dX9_getsNow_68 (by decide) ?_
    obtain ⟨x108, hc107, h⟩ := ob h
    refine r_callS1 (As := [.int x104, .int 0, .int 1000]) (rest := []) C (vX9_within hc107) hR hS ml_X9_235 ms_X9_within rfl ⟨Nat.le_of_ble_eq_true rfl, Nat.le_of_ble_eq_true rfl, Nat.le_of_ble_eq_true rfl, Nat.le_of_ble_eq_true rfl⟩ hl.1 rfl (Nat.le_of_ble_eq_true rfl) dX9_getsNow_71 (fun H locs hR hS => ?_)
    cases h
    exact e_iret C hr hR hS (Nat.le_of_ble_eq_true rfl) (Nat.le_of_ble_eq_true rfl) dX9_getsNow_74
  have LP : ∀ (fu : Nat) (x101 : Int32) (x102 : Int32) (u103 : HS) (H : Heap) (locs : List Loc) (ls : Array Slot), mX9_getsNow_L4 x1 w106 fu x101 x102 u103 = some out → Rel E a u103 H → va_S (AE E) s.heap H locs → lv_has ls 5 [(0, .ref (a 9 0)), (1, .int x1), (2, .int x101), (3, .int x102)] → W p l e { frames := 3, cells := 0, slots := 0, locals := 70 } s m args below meth c H locs 0 0 (MQ below (QW E a (some (.int out.1)) out.2) args s 0 0 (AE E)) (F0 m 4 ls []) := by
    intro fu
    induction fu with
    | zero =>
      intro x101 x102 u103 H locs ls h
      have h2 : (none : Option (Int32 × HS)) = some out := h
      cases h2
    | succ fu ih =>
      intro x101 x102 u103 H locs ls h hR hS hl
      rw [mX9_getsNow_L4.eq_2] at h
      refine lv_iload_n hx hb dX9_getsNow_4 rfl (lv_at hl 3 rfl) ?_
      refine lv_aload_n hx hb dX9_getsNow_5 rfl (lv_at hl 0 rfl) ?_
      refine r_get C hR 9 0 24 (v := .ref (a 76 0)) (lv0 (by decide) (by decide)) (by decide) (by decide) rfl fl_X9_46 dX9_getsNow_6 ?_
      refine lv_iload_n hx hb dX9_getsNow_9 rfl (lv_at hl 1 rfl) ?_
      obtain ⟨k109, hk109, h⟩ := ob h
      refine r_ald C hR 76 0 (lv0 (by decide) (by decide)) (by decide) rfl (fun _ => rfl) rfl hk109 dX9_getsNow_10 ?_
      refine lv_icmp_ge (tgt := 66) hx hb dX9_getsNow_11 (by decide) (fun c_110 => ?_) (fun c_110 => ?_)
      · rw [if_pos c_110] at h
        exact Kw106 _ _ _ _ _ h hR hS (lv_sub hl [2] rfl)
      · rw [if_neg c_110] at h
        refine lv_aload_n hx hb dX9_getsNow_14 rfl (lv_at hl 0 rfl) ?_
        refine r_get C hR 9 0 23 (v := .ref (a 74 0)) (lv0 (by decide) (by decide)) (by decide) (by decide) rfl fl_X9_43 dX9_getsNow_15 ?_
        refine lv_bipush (v := 16) hx hb dX9_getsNow_18 (by decide) ?_
        refine lv_iload_n hx hb dX9_getsNow_20 rfl (lv_at hl 1 rfl) ?_
        refine lv_imul hx hb dX9_getsNow_21 ?_
        refine lv_iload_n hx hb dX9_getsNow_22 rfl (lv_at hl 3 rfl) ?_
        refine lv_iadd hx hb dX9_getsNow_23 ?_
        obtain ⟨k111, hk111, h⟩ := ob h
        have hLk111 : k111 < cntS 75 := by have q1 := (ck_in hk111).2.2; have q2 : cntS 75 = 64 := rfl; omega
        refine r_aald C hR 74 0 75 0 6 (lv0 (by decide) (by decide)) (by decide) rfl rfl rfl (fun _ => rfl) rfl hk111 dX9_getsNow_24 ?_
        refine lv_astore (lv' := [(4, .ref (a 75 k111)), (0, .ref (a 9 0)), (1, .int x1), (2, .int x101), (3, .int x102)]) hx hb dX9_getsNow_25 hl (by decide) rfl (fun ls hl => ?_)
        refine lv_aload hx hb dX9_getsNow_27 (lv_at hl 0 rfl) ?_
        refine lv_iconst (v := 0) hx hb dX9_getsNow_29 (by decide) ?_
        obtain ⟨k112, hk112, h⟩ := ob h
        refine r_ald C hR 75 k111 (lv0 hLk111 (by decide)) (by decide) rfl (fun _ => rfl) rfl hk112 dX9_getsNow_30 ?_
        refine jp_cut h (fun j115 hj115 h => ?_)
        have Kj115 : ∀ (x113 : Int32) (u114 : HS) (H : Heap) (locs : List Loc) (ls : Array Slot), j115 x113 u114 = some out → Rel E a u114 H → va_S (AE E) s.heap H locs → lv_has ls 5 [(0, .ref (a 9 0)), (1, .int x1), (2, .int x113), (3, .int x102)] → W p l e { frames := 3, cells := 0, slots := 0, locals := 70 } s m args below meth c H locs 0 0 (MQ below (QW E a (some (.int out.1)) out.2) args s 0 0 (AE E)) (F0 m 60 ls []) := by
          intro x113 u114 H locs ls h hR hS hl
          replace h := jx2 hj115 h
          obtain ⟨x116, ex116⟩ : ∃ z : Int32, z = x102 + 1 := ⟨_, rfl⟩
          replace h := bd_x ex116 h
          refine lv_iinc (v := x116) (lv' := [(3, .int x116), (0, .ref (a 9 0)), (1, .int x1), (2, .int x113)]) hx hb dX9_getsNow_60 hl (k := 3) rfl (by rw [ex116]; rfl) (by decide) rfl (fun ls hl => ?_)
          refine lv_goto (tgt := 4) hx hb dX9_getsNow_63 (by decide) ?_
          exact ih _ _ _ _ _ _ h hR hS (lv_sub hl [1, 2, 3, 0] rfl)
        refine lv_if_ne (tgt := 60) hx hb dX9_getsNow_31 (by decide) (fun c_117 => ?_) (fun c_117 => ?_)
        · rw [if_neg c_117] at h
          exact Kj115 _ _ _ _ _ h hR hS (lv_sub hl [1, 2, 3, 4] rfl)
        · rw [if_pos c_117] at h
          refine lv_aload_n hx hb dX9_getsNow_34 rfl (lv_at hl 1 rfl) ?_
          refine lv_iload_n hx hb dX9_getsNow_35 rfl (lv_at hl 2 rfl) ?_
          refine lv_aload hx hb dX9_getsNow_36 (lv_at hl 0 rfl) ?_
          obtain ⟨⟨x119, u120⟩, hc118, h⟩ := ob h
          replace h := bd_x (x := x119) rfl h
          replace h := bd_x (x := u120) rfl h
          refine r_callV1 (As := [.int x1, .ref (a 75 k111)]) (rest := []) (r := 9) (i := 0) C (vX9_holds hLk111 hc118) hR hS (lv0 (by decide) (by decide)) (by decide) ml_X9_231 mw_X9_holds rfl ⟨Nat.le_of_ble_eq_true rfl, Nat.le_of_ble_eq_true rfl, Nat.le_of_ble_eq_true rfl, Nat.le_of_ble_eq_true rfl⟩ hl.1 rfl (Nat.le_of_ble_eq_true rfl) dX9_getsNow_38 (fun H locs hR hS => ?_)
          refine lv_if_eq (tgt := 60) hx hb dX9_getsNow_41 (by decide) (fun c_121 => ?_) (fun c_121 => ?_)
          · rw [if_pos c_121] at h
            exact Kj115 _ _ _ _ _ h hR hS (lv_sub hl [1, 2, 3, 4] rfl)
          · rw [if_neg c_121] at h
            refine lv_iload_n hx hb dX9_getsNow_44 rfl (lv_at hl 3 rfl) ?_
            refine lv_aload_n hx hb dX9_getsNow_45 rfl (lv_at hl 1 rfl) ?_
            refine lv_iload_n hx hb dX9_getsNow_46 rfl (lv_at hl 2 rfl) ?_
            refine lv_aload hx hb dX9_getsNow_47 (lv_at hl 0 rfl) ?_
            refine lv_iconst (v := 1) hx hb dX9_getsNow_49 (by decide) ?_
            obtain ⟨k122, hk122, h⟩ := ob h
            refine r_ald C hR 75 k111 (lv0 hLk111 (by decide)) (by decide) rfl (fun _ => rfl) rfl hk122 dX9_getsNow_50 ?_
            refine lv_aload hx hb dX9_getsNow_51 (lv_at hl 0 rfl) ?_
            refine lv_iconst (v := 2) hx hb dX9_getsNow_53 (by decide) ?_
            obtain ⟨k123, hk123, h⟩ := ob h
            refine r_ald C hR 75 k111 (lv0 hLk111 (by decide)) (by decide) rfl (fun _ => rfl) rfl hk123 dX9_getsNow_54 ?_
            obtain ⟨⟨x125, u126⟩, hc124, h⟩ := ob h
            replace h := bd_x (x := x125) rfl h
            replace h := bd_x (x := u126) rfl h
            refine r_callV1 (As := [.int x1, .int (gI u120 75 k111 k122), .int (gI u120 75 k111 k123)]) (rest := [.int x101]) (r := 9) (i := 0) C (vX9_work hc124) hR hS (lv0 (by decide) (by decide)) (by decide) ml_X9_228 mw_X9_work rfl ⟨Nat.le_of_ble_eq_true rfl, Nat.le_of_ble_eq_true rfl, Nat.le_of_ble_eq_true rfl, Nat.le_of_ble_eq_true rfl⟩ hl.1 rfl (Nat.le_of_ble_eq_true rfl) dX9_getsNow_55 (fun H locs hR hS => ?_)
            refine lv_iadd hx hb dX9_getsNow_58 ?_
            refine lv_topi (fun x127 ex127 => ?_)
            replace h := bd_x ex127 h
            refine lv_istore_n (lv' := [(2, .int x127), (4, .ref (a 75 k111)), (0, .ref (a 9 0)), (1, .int x1), (3, .int x102)]) hx hb dX9_getsNow_59 rfl hl (by decide) rfl (fun ls hl => ?_)
            exact Kj115 _ _ _ _ _ h hR hS (lv_sub hl [2, 3, 0, 4] rfl)
  exact LP FU _ _ _ _ _ _ h hR hS (lv_sub hl [2, 3, 1, 0] rfl)
set_option maxHeartbeats 4000000 in
set_option maxRecDepth 100000 in
theorem vX9_isScene {l : Launch} {E : EV} {a : Nat → Nat → Nat} {u0 : HS} {x1 : Int32} {out : Int32} (h : mX9_isScene u0 x1 = some out) : Ct l E yX9_isScene cX9_isScene 2 (some .boolean) 1 22 0 0 a u0 [.ref (a 9 0), .int x1] (some (.int out)) u0 := by
  refine Ct.start (by decide) (Nat.le_of_ble_eq_true rfl) ?_
  intro p e s m args below meth c ls C hr hR hS hl
  have C : Cx E p s m args meth c cX9_isScene 2 RX9 := C
  have hl : lv_has ls 2 [(0, .ref (a 9 0)), (1, .int x1)] := hl
  have hx := C.1
  have hb := C.2.1
  unfold mX9_isScene at h
  refine lv_iload_n hx hb dX9_isScene_0 rfl (lv_at hl 1 rfl) ?_
  refine lv_iconst (v := 0) hx hb dX9_isScene_1 (by decide) ?_
  refine lv_aload_n hx hb dX9_isScene_2 rfl (lv_at hl 0 rfl) ?_
  refine r_get C hR 9 0 14 (v := .int (gI u0 9 0 14)) (lv0 (by decide) (by decide)) (by decide) (by decide) rfl fl_X9_166 dX9_isScene_3 ?_
  refine lv_iconst (v := 1) hx hb dX9_isScene_6 (by decide) ?_
  refine lv_isub hx hb dX9_isScene_7 ?_
  obtain ⟨x102, hc101, h⟩ := ob h
  refine r_callS1 (As := [.int x1, .int 0, .int ((gI u0 9 0 14) - 1)]) (rest := []) C (vX9_in hc101) hR hS ml_X9_113 ms_X9_in rfl ⟨Nat.le_of_ble_eq_true rfl, Nat.le_of_ble_eq_true rfl, Nat.le_of_ble_eq_true rfl, Nat.le_of_ble_eq_true rfl⟩ hl.1 rfl (Nat.le_of_ble_eq_true rfl) dX9_isScene_8 (fun H locs hR hS => ?_)
  obtain ⟨_, hz103, h⟩ := ob h
  cases h
  exact e_zret C hr (zb_narrow hz103) hR hS (Nat.le_of_ble_eq_true rfl) (Nat.le_of_ble_eq_true rfl) dX9_isScene_11
set_option maxHeartbeats 4000000 in
set_option maxRecDepth 100000 in
theorem vX9_isTask {l : Launch} {E : EV} {a : Nat → Nat → Nat} {u0 : HS} {x1 : Int32} {out : Int32} (h : mX9_isTask u0 x1 = some out) : Ct l E yX9_isTask cX9_isTask 2 (some .boolean) 1 22 0 0 a u0 [.ref (a 9 0), .int x1] (some (.int out)) u0 := by
  refine Ct.start (by decide) (Nat.le_of_ble_eq_true rfl) ?_
  intro p e s m args below meth c ls C hr hR hS hl
  have C : Cx E p s m args meth c cX9_isTask 2 RX9 := C
  have hl : lv_has ls 2 [(0, .ref (a 9 0)), (1, .int x1)] := hl
  have hx := C.1
  have hb := C.2.1
  unfold mX9_isTask at h
  refine lv_iload_n hx hb dX9_isTask_0 rfl (lv_at hl 1 rfl) ?_
  refine lv_iconst (v := 0) hx hb dX9_isTask_1 (by decide) ?_
  refine lv_aload_n hx hb dX9_isTask_2 rfl (lv_at hl 0 rfl) ?_
  refine r_get C hR 9 0 15 (v := .int (gI u0 9 0 15)) (lv0 (by decide) (by decide)) (by decide) (by decide) rfl fl_X9_179 dX9_isTask_3 ?_
  refine lv_iconst (v := 1) hx hb dX9_isTask_6 (by decide) ?_
  refine lv_isub hx hb dX9_isTask_7 ?_
  obtain ⟨x102, hc101, h⟩ := ob h
  refine r_callS1 (As := [.int x1, .int 0, .int ((gI u0 9 0 15) - 1)]) (rest := []) C (vX9_in hc101) hR hS ml_X9_113 ms_X9_in rfl ⟨Nat.le_of_ble_eq_true rfl, Nat.le_of_ble_eq_true rfl, Nat.le_of_ble_eq_true rfl, Nat.le_of_ble_eq_true rfl⟩ hl.1 rfl (Nat.le_of_ble_eq_true rfl) dX9_isTask_8 (fun H locs hR hS => ?_)
  obtain ⟨_, hz103, h⟩ := ob h
  cases h
  exact e_zret C hr (zb_narrow hz103) hR hS (Nat.le_of_ble_eq_true rfl) (Nat.le_of_ble_eq_true rfl) dX9_isTask_11
set_option maxHeartbeats 4000000 in
set_option maxRecDepth 100000 in
theorem vX9_isLaw {l : Launch} {E : EV} {a : Nat → Nat → Nat} {u0 : HS} {x1 : Int32} {out : Int32} (h : mX9_isLaw u0 x1 = some out) : Ct l E yX9_isLaw cX9_isLaw 2 (some .boolean) 1 22 0 0 a u0 [.ref (a 9 0), .int x1] (some (.int out)) u0 := by
  refine Ct.start (by decide) (Nat.le_of_ble_eq_true rfl) ?_
  intro p e s m args below meth c ls C hr hR hS hl
  have C : Cx E p s m args meth c cX9_isLaw 2 RX9 := C
  have hl : lv_has ls 2 [(0, .ref (a 9 0)), (1, .int x1)] := hl
  have hx := C.1
  have hb := C.2.1
  unfold mX9_isLaw at h
  refine lv_iload_n hx hb dX9_isLaw_0 rfl (lv_at hl 1 rfl) ?_
  refine lv_iconst (v := 0) hx hb dX9_isLaw_1 (by decide) ?_
  refine lv_aload_n hx hb dX9_isLaw_2 rfl (lv_at hl 0 rfl) ?_
  refine r_get C hR 9 0 16 (v := .int (gI u0 9 0 16)) (lv0 (by decide) (by decide)) (by decide) (by decide) rfl fl_X9_219 dX9_isLaw_3 ?_
  refine lv_iconst (v := 1) hx hb dX9_isLaw_6 (by decide) ?_
  refine lv_isub hx hb dX9_isLaw_7 ?_
  obtain ⟨x102, hc101, h⟩ := ob h
  refine r_callS1 (As := [.int x1, .int 0, .int ((gI u0 9 0 16) - 1)]) (rest := []) C (vX9_in hc101) hR hS ml_X9_113 ms_X9_in rfl ⟨Nat.le_of_ble_eq_true rfl, Nat.le_of_ble_eq_true rfl, Nat.le_of_ble_eq_true rfl, Nat.le_of_ble_eq_true rfl⟩ hl.1 rfl (Nat.le_of_ble_eq_true rfl) dX9_isLaw_8 (fun H locs hR hS => ?_)
  obtain ⟨_, hz103, h⟩ := ob h
  cases h
  exact e_zret C hr (zb_narrow hz103) hR hS (Nat.le_of_ble_eq_true rfl) (Nat.le_of_ble_eq_true rfl) dX9_isLaw_11
set_option maxHeartbeats 4000000 in
set_option maxRecDepth 100000 in
theorem vX9_wayOf {l : Launch} {E : EV} {a : Nat → Nat → Nat} {u0 : HS} {x1 : Int32} {x2 : Int32} {x3 : Int32} {out : Int32} (h : mX9_wayOf u0 x1 x2 x3 = some out) : Ct l E yX9_wayOf cX9_wayOf 6 (some .int) 1 22 0 0 a u0 [.ref (a 9 0), .int x1, .int x2, .int x3] (some (.int out)) u0 := by
  refine Ct.start (by decide) (Nat.le_of_ble_eq_true rfl) ?_
  intro p e s m args below meth c ls C hr hR hS hl
  have C : Cx E p s m args meth c cX9_wayOf 6 RX9 := C
  have hl : lv_has ls 6 [(0, .ref (a 9 0)), (1, .int x1), (2, .int x2), (3, .int x3)] := hl
  have hx := C.1
  have hb := C.2.1
  unfold mX9_wayOf at h
  refine lv_iconst (v := (-1)) hx hb dX9_wayOf_0 (by decide) ?_
  refine lv_istore (lv' := [(4, .int (-1)), (0, .ref (a 9 0)), (1, .int x1), (2, .int x2), (3, .int x3)]) hx hb dX9_wayOf_1 hl (by decide) rfl (fun ls hl => ?_)
  refine lv_bipush (v := 24) hx hb dX9_wayOf_3 (by decide) ?_
  refine lv_iload_n hx hb dX9_wayOf_5 rfl (lv_at hl 2 rfl) ?_
  refine lv_imul hx hb dX9_wayOf_6 ?_
  refine lv_topi (fun x101 ex101 => ?_)
  replace h := bd_x ex101 h
  refine lv_istore (lv' := [(5, .int x101), (4, .int (-1)), (0, .ref (a 9 0)), (1, .int x1), (2, .int x2), (3, .int x3)]) hx hb dX9_wayOf_7 hl (by decide) rfl (fun ls hl => ?_)
  refine jp_cut h (fun w105 hw105 h => ?_)
  have Kw105 : ∀ (x104 : Int32) (H : Heap) (locs : List Loc) (ls : Array Slot), w105 x104 = some out → Rel E a u0 H → va_S (AE E) s.heap H locs → lv_has ls 6 [(4, .int x104)] → W p l e { frames := 1, cells := 0, slots := 0, locals := 22 } s m args below meth c H locs 0 0 (MQ below (QW E a (some (.int out)) u0) args s 0 0 (AE E)) (F0 m 91 ls []) := by
    intro x104 H locs ls h hR hS hl
    replace h := jx1 hw105 h
    refine lv_iload hx hb dX9_wayOf_91 (lv_at hl 0 rfl) ?_
    cases h
    exact e_iret C hr hR hS (Nat.le_of_ble_eq_true rfl) (Nat.le_of_ble_eq_true rfl) dX9_wayOf_93
  have LP : ∀ (fu : Nat) (x102 : Int32) (x103 : Int32) (H : Heap) (locs : List Loc) (ls : Array Slot), mX9_wayOf_L9 x1 u0 x2 x3 w105 fu x102 x103 = some out → Rel E a u0 H → va_S (AE E) s.heap H locs → lv_has ls 6 [(0, .ref (a 9 0)), (1, .int x1), (2, .int x2), (3, .int x3), (4, .int x102), (5, .int x103)] → W p l e { frames := 1, cells := 0, slots := 0, locals := 22 } s m args below meth c H locs 0 0 (MQ below (QW E a (some (.int out)) u0) args s 0 0 (AE E)) (F0 m 9 ls []) := by
    intro fu
    induction fu with
    | zero =>
      intro x102 x103 H locs ls h
      have h2 : (none : Option Int32) = some out := h
      cases h2
    | succ fu ih =>
      intro x102 x103 H locs ls h hR hS hl
      rw [mX9_wayOf_L9.eq_2] at h
      refine lv_iload hx hb dX9_wayOf_9 (lv_at hl 5 rfl) ?_
      refine lv_bipush (v := 24) hx hb dX9_wayOf_11 (by decide) ?_
      refine lv_iload_n hx hb dX9_wayOf_13 rfl (lv_at hl 1 rfl) ?_
      refine lv_imul hx hb dX9_wayOf_14 ?_
      refine lv_aload_n hx hb dX9_wayOf_15 rfl (lv_at hl 0 rfl) ?_
      refine r_get C hR 9 0 18 (v := .ref (a 66 0)) (lv0 (by decide) (by decide)) (by decide) (by decide) rfl fl_X9_28 dX9_wayOf_16 ?_
      refine lv_iload_n hx hb dX9_wayOf_19 rfl (lv_at hl 1 rfl) ?_
      obtain ⟨k106, hk106, h⟩ := ob h
      refine r_ald C hR 66 0 (lv0 (by decide) (by decide)) (by decide) rfl (fun _ => rfl) rfl hk106 dX9_wayOf_20 ?_
      refine lv_iadd hx hb dX9_wayOf_21 ?_
      refine lv_icmp_ge (tgt := 91) hx hb dX9_wayOf_22 (by decide) (fun c_107 => ?_) (fun c_107 => ?_)
      · rw [if_pos c_107] at h
        exact Kw105 _ _ _ _ h hR hS (lv_sub hl [4] rfl)
      · rw [if_neg c_107] at h
        refine lv_aload_n hx hb dX9_wayOf_25 rfl (lv_at hl 0 rfl) ?_
        refine r_get C hR 9 0 17 (v := .ref (a 64 0)) (lv0 (by decide) (by decide)) (by decide) (by decide) rfl fl_X9_25 dX9_wayOf_26 ?_
        refine lv_iload hx hb dX9_wayOf_29 (lv_at hl 5 rfl) ?_
        obtain ⟨k108, hk108, h⟩ := ob h
        have hLk108 : k108 < cntS 65 := by have q1 := (ck_in hk108).2.2; have q2 : cntS 65 = 144 := rfl; omega
        refine r_aald C hR 64 0 65 0 6 (lv0 (by decide) (by decide)) (by decide) rfl rfl rfl (fun _ => rfl) rfl hk108 dX9_wayOf_31 ?_
        refine lv_iconst (v := 0) hx hb dX9_wayOf_32 (by decide) ?_
        obtain ⟨k109, hk109, h⟩ := ob h
        refine r_ald C hR 65 k108 (lv0 hLk108 (by decide)) (by decide) rfl (fun _ => rfl) rfl hk109 dX9_wayOf_33 ?_
        refine lv_iconst (v := 1) hx hb dX9_wayOf_34 (by decide) ?_
        obtain ⟨x110, hz, h⟩ := ob h
        have Kj111 : ∀ (H : Heap) (locs : List Loc) (ls : Array Slot), Rel E a u0 H → va_S (AE E) s.heap H locs → lv_has ls 6 [(0, .ref (a 9 0)), (1, .int x1), (2, .int x2), (3, .int x3), (5, .int x103)] → W p l e { frames := 1, cells := 0, slots := 0, locals := 22 } s m args below meth c H locs 0 0 (MQ below (QW E a (some (.int out)) u0) args s 0 0 (AE E)) (F0 m 83 ls [.int x110]) := by
          intro H locs ls hR hS hl
          clear hz
          refine lv_istore (lv' := [(4, .int x110), (0, .ref (a 9 0)), (1, .int x1), (2, .int x2), (3, .int x3), (5, .int x103)]) hx hb dX9_wayOf_83 hl (by decide) rfl (fun ls hl => ?_)
          obtain ⟨x112, ex112⟩ : ∃ z : Int32, z = x103 + 1 := ⟨_, rfl⟩
          replace h := bd_x ex112 h
          refine lv_iinc (v := x112) (lv' := [(5, .int x112), (4, .int x110), (0, .ref (a 9 0)), (1, .int x1), (2, .int x2), (3, .int x3)]) hx hb dX9_wayOf_85 hl (k := 5) rfl (by rw [ex112]; rfl) (by decide) rfl (fun ls hl => ?_)
          refine lv_goto (tgt := 9) hx hb dX9_wayOf_88 (by decide) ?_
          exact ih _ _ _ _ _ h hR hS (lv_sub hl [2, 3, 4, 5, 1, 0] rfl)
        clear h
        have h := hz
        clear hz
        refine jp_cut h (fun j113 hj113 h => ?_)
        have Kj113 : ∀  (H : Heap) (locs : List Loc) (ls : Array Slot), j113 = some x110 → Rel E a u0 H → va_S (AE E) s.heap H locs → lv_has ls 6 [(0, .ref (a 9 0)), (1, .int x1), (2, .int x2), (3, .int x3), (4, .int x102), (5, .int x103)] → W p l e { frames := 1, cells := 0, slots := 0, locals := 22 } s m args below meth c H locs 0 0 (MQ below (QW E a (some (.int out)) u0) args s 0 0 (AE E)) (F0 m 81 ls []) := by
          intro  H locs ls h hR hS hl
          replace h := jx0 hj113 h
          refine lv_iload hx hb dX9_wayOf_81 (lv_at hl 4 rfl) ?_
          cases h
          exact Kj111 _ _ _ hR hS (lv_sub hl [0, 1, 2, 3, 5] rfl)
        refine lv_icmp_ne (tgt := 81) hx hb dX9_wayOf_35 (by decide) (fun c_114 => ?_) (fun c_114 => ?_)
        · rw [if_neg c_114] at h
          exact Kj113  _ _ _ h hR hS (lv_sub hl [0, 1, 2, 3, 4, 5] rfl)
        · rw [if_pos c_114] at h
          refine lv_aload_n hx hb dX9_wayOf_38 rfl (lv_at hl 0 rfl) ?_
          refine r_get C hR 9 0 17 (v := .ref (a 64 0)) (lv0 (by decide) (by decide)) (by decide) (by decide) rfl fl_X9_25 dX9_wayOf_39 ?_
          refine lv_iload hx hb dX9_wayOf_42 (lv_at hl 5 rfl) ?_
          obtain ⟨k115, hk115, h⟩ := ob h
          have hLk115 : k115 < cntS 65 := by have q1 := (ck_in hk115).2.2; have q2 : cntS 65 = 144 := rfl; omega
          refine r_aald C hR 64 0 65 0 6 (lv0 (by decide) (by decide)) (by decide) rfl rfl rfl (fun _ => rfl) rfl hk115 dX9_wayOf_44 ?_
          refine lv_iconst (v := 1) hx hb dX9_wayOf_45 (by decide) ?_
          obtain ⟨k116, hk116, h⟩ := ob h
          refine r_ald C hR 65 k115 (lv0 hLk115 (by decide)) (by decide) rfl (fun _ => rfl) rfl hk116 dX9_wayOf_46 ?_
          refine lv_iload_n hx hb dX9_wayOf_47 rfl (lv_at hl 2 rfl) ?_
          refine lv_icmp_ne (tgt := 81) hx hb dX9_wayOf_48 (by decide) (fun c_117 => ?_) (fun c_117 => ?_)
          · rw [if_neg c_117] at h
            exact Kj113  _ _ _ h hR hS (lv_sub hl [0, 1, 2, 3, 4, 5] rfl)
          · rw [if_pos c_117] at h
            refine lv_iload_n hx hb dX9_wayOf_51 rfl (lv_at hl 3 rfl) ?_
            refine lv_aload_n hx hb dX9_wayOf_52 rfl (lv_at hl 0 rfl) ?_
            refine r_get C hR 9 0 17 (v := .ref (a 64 0)) (lv0 (by decide) (by decide)) (by decide) (by decide) rfl fl_X9_25 dX9_wayOf_53 ?_
            refine lv_iload hx hb dX9_wayOf_56 (lv_at hl 5 rfl) ?_
            obtain ⟨k118, hk118, h⟩ := ob h
            have hLk118 : k118 < cntS 65 := by have q1 := (ck_in hk118).2.2; have q2 : cntS 65 = 144 := rfl; omega
            refine r_aald C hR 64 0 65 0 6 (lv0 (by decide) (by decide)) (by decide) rfl rfl rfl (fun _ => rfl) rfl hk118 dX9_wayOf_58 ?_
            refine lv_iconst (v := 2) hx hb dX9_wayOf_59 (by decide) ?_
            obtain ⟨k119, hk119, h⟩ := ob h
            refine r_ald C hR 65 k118 (lv0 hLk118 (by decide)) (by decide) rfl (fun _ => rfl) rfl hk119 dX9_wayOf_60 ?_
            refine lv_aload_n hx hb dX9_wayOf_61 rfl (lv_at hl 0 rfl) ?_
            refine r_get C hR 9 0 17 (v := .ref (a 64 0)) (lv0 (by decide) (by decide)) (by decide) (by decide) rfl fl_X9_25 dX9_wayOf_62 ?_
            refine lv_iload hx hb dX9_wayOf_65 (lv_at hl 5 rfl) ?_
            obtain ⟨k120, hk120, h⟩ := ob h
            have hLk120 : k120 < cntS 65 := by have q1 := (ck_in hk120).2.2; have q2 : cntS 65 = 144 := rfl; omega
            refine r_aald C hR 64 0 65 0 6 (lv0 (by decide) (by decide)) (by decide) rfl rfl rfl (fun _ => rfl) rfl hk120 dX9_wayOf_67 ?_
            refine lv_iconst (v := 5) hx hb dX9_wayOf_68 (by decide) ?_
            obtain ⟨k121, hk121, h⟩ := ob h
            refine r_ald C hR 65 k120 (lv0 hLk120 (by decide)) (by decide) rfl (fun _ => rfl) rfl hk121 dX9_wayOf_69 ?_
            obtain ⟨x123, hc122, h⟩ := ob h
            refine r_callS1 (As := [.int x3, .int (gI u0 65 k118 k119), .int (gI u0 65 k120 k121)]) (rest := []) C (vX9_in hc122) hR hS ml_X9_113 ms_X9_in rfl ⟨Nat.le_of_ble_eq_true rfl, Nat.le_of_ble_eq_true rfl, Nat.le_of_ble_eq_true rfl, Nat.le_of_ble_eq_true rfl⟩ hl.1 rfl (Nat.le_of_ble_eq_true rfl) dX9_wayOf_70 (fun H locs hR hS => ?_)
            refine lv_if_eq (tgt := 81) hx hb dX9_wayOf_73 (by decide) (fun c_124 => ?_) (fun c_124 => ?_)
            · rw [if_pos c_124] at h
              exact Kj113  _ _ _ h hR hS (lv_sub hl [0, 1, 2, 3, 4, 5] rfl)
            · rw [if_neg c_124] at h
              refine lv_iload hx hb dX9_wayOf_76 (lv_at hl 5 rfl) ?_
              refine lv_goto (tgt := 83) hx hb dX9_wayOf_78 (by decide) ?_
              cases h
              exact Kj111 _ _ _ hR hS (lv_sub hl [0, 1, 2, 3, 5] rfl)
  exact LP FU _ _ _ _ _ h hR hS (lv_sub hl [2, 3, 4, 5, 1, 0] rfl)
set_option maxHeartbeats 4000000 in
set_option maxRecDepth 100000 in
theorem vX9_placeOf {l : Launch} {E : EV} {a : Nat → Nat → Nat} {u0 : HS} {x1 : Int32} {x2 : Int32} {x3 : Int32} {x4 : Int32} {out : Int32} (h : mX9_placeOf u0 x1 x2 x3 x4 = some out) : Ct l E yX9_placeOf cX9_placeOf 7 (some .int) 2 47 0 0 a u0 [.ref (a 9 0), .int x1, .int x2, .int x3, .int x4] (some (.int out)) u0 := by
  refine Ct.start (by decide) (Nat.le_of_ble_eq_true rfl) ?_
  intro p e s m args below meth c ls C hr hR hS hl
  have C : Cx E p s m args meth c cX9_placeOf 7 RX9 := C
  have hl : lv_has ls 7 [(0, .ref (a 9 0)), (1, .int x1), (2, .int x2), (3, .int x3), (4, .int x4)] := hl
  have hx := C.1
  have hb := C.2.1
  unfold mX9_placeOf at h
  refine lv_aload_n hx hb dX9_placeOf_0 rfl (lv_at hl 0 rfl) ?_
  refine lv_iload_n hx hb dX9_placeOf_1 rfl (lv_at hl 1 rfl) ?_
  refine lv_iload_n hx hb dX9_placeOf_2 rfl (lv_at hl 2 rfl) ?_
  refine lv_iload_n hx hb dX9_placeOf_3 rfl (lv_at hl 3 rfl) ?_
  obtain ⟨x102, hc101, h⟩ := ob h
  refine r_callV1 (As := [.int x1, .int x2, .int x3]) (rest := []) (r := 9) (i := 0) C (vX9_wayOf hc101) hR hS (lv0 (by decide) (by decide)) (by decide) ml_X9_238 mw_X9_wayOf rfl ⟨Nat.le_of_ble_eq_true rfl, Nat.le_of_ble_eq_true rfl, Nat.le_of_ble_eq_true rfl, Nat.le_of_ble_eq_true rfl⟩ hl.1 rfl (Nat.le_of_ble_eq_true rfl) dX9_placeOf_4 (fun H locs hR hS => ?_)
  refine lv_istore (lv' := [(5, .int x102), (0, .ref (a 9 0)), (1, .int x1), (2, .int x2), (3, .int x3), (4, .int x4)]) hx hb dX9_placeOf_7 hl (by decide) rfl (fun ls hl => ?_)
  refine lv_iload hx hb dX9_placeOf_9 (lv_at hl 0 rfl) ?_
  refine lv_iconst (v := (-1)) hx hb dX9_placeOf_11 (by decide) ?_
  refine lv_icmp_ne (tgt := 17) hx hb dX9_placeOf_12 (by decide) (fun c_103 => ?_) (fun c_103 => ?_)
  · rw [if_neg c_103] at h
    refine lv_aload_n hx hb dX9_placeOf_17 rfl (lv_at hl 1 rfl) ?_
    refine r_get C hR 9 0 17 (v := .ref (a 64 0)) (lv0 (by decide) (by decide)) (by decide) (by decide) rfl fl_X9_25 dX9_placeOf_18 ?_
    refine lv_iload hx hb dX9_placeOf_21 (lv_at hl 0 rfl) ?_
    obtain ⟨k104, hk104, h⟩ := ob h
    have hLk104 : k104 < cntS 65 := by have q1 := (ck_in hk104).2.2; have q2 : cntS 65 = 144 := rfl; omega
    refine r_aald C hR 64 0 65 0 6 (lv0 (by decide) (by decide)) (by decide) rfl rfl rfl (fun _ => rfl) rfl hk104 dX9_placeOf_23 ?_
    refine lv_astore (lv' := [(6, .ref (a 65 k104)), (5, .int x102), (0, .ref (a 9 0)), (1, .int x1), (2, .int x2), (3, .int x3), (4, .int x4)]) hx hb dX9_placeOf_24 hl (by decide) rfl (fun ls hl => ?_)
    refine lv_aload hx hb dX9_placeOf_26 (lv_at hl 0 rfl) ?_
    refine lv_iconst (v := 2) hx hb dX9_placeOf_28 (by decide) ?_
    obtain ⟨k105, hk105, h⟩ := ob h
    refine r_ald C hR 65 k104 (lv0 hLk104 (by decide)) (by decide) rfl (fun _ => rfl) rfl hk105 dX9_placeOf_29 ?_
    refine lv_aload hx hb dX9_placeOf_30 (lv_at hl 0 rfl) ?_
    refine lv_iconst (v := 5) hx hb dX9_placeOf_32 (by decide) ?_
    obtain ⟨k106, hk106, h⟩ := ob h
    refine r_ald C hR 65 k104 (lv0 hLk104 (by decide)) (by decide) rfl (fun _ => rfl) rfl hk106 dX9_placeOf_33 ?_
    refine lv_icmp_ne (tgt := 47) hx hb dX9_placeOf_34 (by decide) (fun c_107 => ?_) (fun c_107 => ?_)
    · rw [if_neg c_107] at h
      refine lv_aload hx hb dX9_placeOf_47 (lv_at hl 0 rfl) ?_
      refine lv_iconst (v := 3) hx hb dX9_placeOf_49 (by decide) ?_
      refine lv_iload hx hb dX9_placeOf_50 (lv_at hl 6 rfl) ?_
      refine lv_iadd hx hb dX9_placeOf_52 ?_
      obtain ⟨k108, hk108, h⟩ := ob h
      refine r_ald C hR 65 k104 (lv0 hLk104 (by decide)) (by decide) rfl (fun _ => rfl) rfl hk108 dX9_placeOf_53 ?_
      refine lv_aload hx hb dX9_placeOf_54 (lv_at hl 0 rfl) ?_
      refine lv_bipush (v := 6) hx hb dX9_placeOf_56 (by decide) ?_
      refine lv_iload hx hb dX9_placeOf_58 (lv_at hl 6 rfl) ?_
      refine lv_iadd hx hb dX9_placeOf_60 ?_
      obtain ⟨k109, hk109, h⟩ := ob h
      refine r_ald C hR 65 k104 (lv0 hLk104 (by decide)) (by decide) rfl (fun _ => rfl) rfl hk109 dX9_placeOf_61 ?_
      refine lv_aload hx hb dX9_placeOf_62 (lv_at hl 0 rfl) ?_
      refine lv_iconst (v := 3) hx hb dX9_placeOf_64 (by decide) ?_
      refine lv_iload hx hb dX9_placeOf_65 (lv_at hl 6 rfl) ?_
      refine lv_iadd hx hb dX9_placeOf_67 ?_
      obtain ⟨k110, hk110, h⟩ := ob h
      refine r_ald C hR 65 k104 (lv0 hLk104 (by decide)) (by decide) rfl (fun _ => rfl) rfl hk110 dX9_placeOf_68 ?_
      refine lv_isub hx hb dX9_placeOf_69 ?_
      refine lv_iload_n hx hb dX9_placeOf_70 rfl (lv_at hl 5 rfl) ?_
      refine lv_aload hx hb dX9_placeOf_71 (lv_at hl 0 rfl) ?_
      refine lv_iconst (v := 2) hx hb dX9_placeOf_73 (by decide) ?_
      obtain ⟨k111, hk111, h⟩ := ob h
      refine r_ald C hR 65 k104 (lv0 hLk104 (by decide)) (by decide) rfl (fun _ => rfl) rfl hk111 dX9_placeOf_74 ?_
      refine lv_isub hx hb dX9_placeOf_75 ?_
      refine lv_imul hx hb dX9_placeOf_76 ?_
      refine lv_aload hx hb dX9_placeOf_77 (lv_at hl 0 rfl) ?_
      refine lv_iconst (v := 5) hx hb dX9_placeOf_79 (by decide) ?_
      obtain ⟨k112, hk112, h⟩ := ob h
      refine r_ald C hR 65 k104 (lv0 hLk104 (by decide)) (by decide) rfl (fun _ => rfl) rfl hk112 dX9_placeOf_80 ?_
      refine lv_aload hx hb dX9_placeOf_81 (lv_at hl 0 rfl) ?_
      refine lv_iconst (v := 2) hx hb dX9_placeOf_83 (by decide) ?_
      obtain ⟨k113, hk113, h⟩ := ob h
      refine r_ald C hR 65 k104 (lv0 hLk104 (by decide)) (by decide) rfl (fun _ => rfl) rfl hk113 dX9_placeOf_84 ?_
      refine lv_isub hx hb dX9_placeOf_85 ?_
      obtain ⟨_, hn114, h⟩ := ob h
      refine lv_idiv hx hb dX9_placeOf_86 (nz_ne hn114) ?_
      refine lv_iadd hx hb dX9_placeOf_87 ?_
      cases h
      exact e_iret C hr hR hS (Nat.le_of_ble_eq_true rfl) (Nat.le_of_ble_eq_true rfl) dX9_placeOf_88
    · rw [if_pos c_107] at h
      refine lv_aload hx hb dX9_placeOf_37 (lv_at hl 0 rfl) ?_
      refine lv_iconst (v := 3) hx hb dX9_placeOf_39 (by decide) ?_
      refine lv_iload hx hb dX9_placeOf_40 (lv_at hl 6 rfl) ?_
      refine lv_iadd hx hb dX9_placeOf_42 ?_
      obtain ⟨k115, hk115, h⟩ := ob h
      refine r_ald C hR 65 k104 (lv0 hLk104 (by decide)) (by decide) rfl (fun _ => rfl) rfl hk115 dX9_placeOf_43 ?_
      refine lv_goto (tgt := 88) hx hb dX9_placeOf_44 (by decide) ?_
      cases h
      exact e_iret C hr hR hS (Nat.le_of_ble_eq_true rfl) (Nat.le_of_ble_eq_true rfl) dX9_placeOf_88
  · rw [if_pos c_103] at h
    refine lv_iconst (v := (-1)) hx hb dX9_placeOf_15 (by decide) ?_
    cases h
    exact e_iret C hr hR hS (Nat.le_of_ble_eq_true rfl) (Nat.le_of_ble_eq_true rfl) dX9_placeOf_16
set_option maxHeartbeats 4000000 in
set_option maxRecDepth 100000 in
theorem vX9_isThere {l : Launch} {E : EV} {a : Nat → Nat → Nat} {u0 : HS} {x1 : Int32} {x2 : Int32} {x3 : Int32} {out : Int32} (h : mX9_isThere u0 x1 x2 x3 = some out) : Ct l E yX9_isThere cX9_isThere 4 (some .boolean) 2 47 0 0 a u0 [.ref (a 9 0), .int x1, .int x2, .int x3] (some (.int out)) u0 := by
  refine Ct.start (by decide) (Nat.le_of_ble_eq_true rfl) ?_
  intro p e s m args below meth c ls C hr hR hS hl
  have C : Cx E p s m args meth c cX9_isThere 4 RX9 := C
  have hl : lv_has ls 4 [(0, .ref (a 9 0)), (1, .int x1), (2, .int x2), (3, .int x3)] := hl
  have hx := C.1
  have hb := C.2.1
  unfold mX9_isThere at h
  refine lv_aload_n hx hb dX9_isThere_0 rfl (lv_at hl 0 rfl) ?_
  refine lv_iload_n hx hb dX9_isThere_1 rfl (lv_at hl 1 rfl) ?_
  refine lv_iload_n hx hb dX9_isThere_2 rfl (lv_at hl 2 rfl) ?_
  refine lv_iload_n hx hb dX9_isThere_3 rfl (lv_at hl 3 rfl) ?_
  obtain ⟨x102, hc101, h⟩ := ob h
  refine r_callV1 (As := [.int x1, .int x2, .int x3]) (rest := []) (r := 9) (i := 0) C (vX9_wayOf hc101) hR hS (lv0 (by decide) (by decide)) (by decide) ml_X9_238 mw_X9_wayOf rfl ⟨Nat.le_of_ble_eq_true rfl, Nat.le_of_ble_eq_true rfl, Nat.le_of_ble_eq_true rfl, Nat.le_of_ble_eq_true rfl⟩ hl.1 rfl (Nat.le_of_ble_eq_true rfl) dX9_isThere_4 (fun H locs hR hS => ?_)
  refine lv_iconst (v := (-1)) hx hb dX9_isThere_7 (by decide) ?_
  refine lv_icmp_eq (tgt := 15) hx hb dX9_isThere_8 (by decide) (fun c_103 => ?_) (fun c_103 => ?_)
  · rw [if_pos c_103] at h
    refine lv_iconst (v := 0) hx hb dX9_isThere_15 (by decide) ?_
    cases h
    exact e_zret (v := 0) C hr rfl hR hS (Nat.le_of_ble_eq_true rfl) (Nat.le_of_ble_eq_true rfl) dX9_isThere_16
  · rw [if_neg c_103] at h
    refine lv_iconst (v := 1) hx hb dX9_isThere_11 (by decide) ?_
    refine lv_goto (tgt := 16) hx hb dX9_isThere_12 (by decide) ?_
    cases h
    exact e_zret (v := 1) C hr rfl hR hS (Nat.le_of_ble_eq_true rfl) (Nat.le_of_ble_eq_true rfl) dX9_isThere_16
set_option maxHeartbeats 4000000 in
set_option maxRecDepth 100000 in
theorem vX9_paceOf {l : Launch} {E : EV} {a : Nat → Nat → Nat} {u0 : HS} {x1 : Int32} {x2 : Int32} {x3 : Int32} {out : Int32} (h : mX9_paceOf u0 x1 x2 x3 = some out) : Ct l E yX9_paceOf cX9_paceOf 4 (some .int) 3 73 0 0 a u0 [.ref (a 9 0), .int x1, .int x2, .int x3] (some (.int out)) u0 := by
  refine Ct.start (by decide) (Nat.le_of_ble_eq_true rfl) ?_
  intro p e s m args below meth c ls C hr hR hS hl
  have C : Cx E p s m args meth c cX9_paceOf 4 RX9 := C
  have hl : lv_has ls 4 [(0, .ref (a 9 0)), (1, .int x1), (2, .int x2), (3, .int x3)] := hl
  have hx := C.1
  have hb := C.2.1
  unfold mX9_paceOf at h
  refine lv_iload_n hx hb dX9_paceOf_0 rfl (lv_at hl 3 rfl) ?_
  refine lv_if_eq (tgt := 26) hx hb dX9_paceOf_1 (by decide) (fun c_101 => ?_) (fun c_101 => ?_)
  · rw [if_pos c_101] at h
    refine lv_iconst (v := 0) hx hb dX9_paceOf_26 (by decide) ?_
    cases h
    exact e_iret C hr hR hS (Nat.le_of_ble_eq_true rfl) (Nat.le_of_ble_eq_true rfl) dX9_paceOf_27
  · rw [if_neg c_101] at h
    refine lv_aload_n hx hb dX9_paceOf_4 rfl (lv_at hl 0 rfl) ?_
    refine lv_iload_n hx hb dX9_paceOf_5 rfl (lv_at hl 1 rfl) ?_
    refine lv_iload_n hx hb dX9_paceOf_6 rfl (lv_at hl 2 rfl) ?_
    refine lv_iload_n hx hb dX9_paceOf_7 rfl (lv_at hl 3 rfl) ?_
    obtain ⟨x103, hc102, h⟩ := ob h
    refine r_callV1 (As := [.int x1, .int x2, .int x3]) (rest := []) (r := 9) (i := 0) C (vX9_isThere hc102) hR hS (lv0 (by decide) (by decide)) (by decide) ml_X9_241 mw_X9_isThere rfl ⟨Nat.le_of_ble_eq_true rfl, Nat.le_of_ble_eq_true rfl, Nat.le_of_ble_eq_true rfl, Nat.le_of_ble_eq_true rfl⟩ hl.1 rfl (Nat.le_of_ble_eq_true rfl) dX9_paceOf_8 (fun H locs hR hS => ?_)
    refine lv_if_eq (tgt := 26) hx hb dX9_paceOf_11 (by decide) (fun c_104 => ?_) (fun c_104 => ?_)
    · rw [if_pos c_104] at h
      refine lv_iconst (v := 0) hx hb dX9_paceOf_26 (by decide) ?_
      cases h
      exact e_iret C hr hR hS (Nat.le_of_ble_eq_true rfl) (Nat.le_of_ble_eq_true rfl) dX9_paceOf_27
    · rw [if_neg c_104] at h
      refine lv_aload_n hx hb dX9_paceOf_14 rfl (lv_at hl 0 rfl) ?_
      refine lv_iload_n hx hb dX9_paceOf_15 rfl (lv_at hl 1 rfl) ?_
      refine lv_iload_n hx hb dX9_paceOf_16 rfl (lv_at hl 2 rfl) ?_
      refine lv_iload_n hx hb dX9_paceOf_17 rfl (lv_at hl 3 rfl) ?_
      refine lv_iconst (v := 1) hx hb dX9_paceOf_18 (by decide) ?_
      refine lv_isub hx hb dX9_paceOf_19 ?_
      obtain ⟨x106, hc105, h⟩ := ob h
      refine r_callV1 (As := [.int x1, .int x2, .int (x3 - 1)]) (rest := []) (r := 9) (i := 0) C (vX9_isThere hc105) hR hS (lv0 (by decide) (by decide)) (by decide) ml_X9_241 mw_X9_isThere rfl ⟨Nat.le_of_ble_eq_true rfl, Nat.le_of_ble_eq_true rfl, Nat.le_of_ble_eq_true rfl, Nat.le_of_ble_eq_true rfl⟩ hl.1 rfl (Nat.le_of_ble_eq_true rfl) dX9_paceOf_20 (fun H locs hR hS => ?_)
      refine lv_if_ne (tgt := 28) hx hb dX9_paceOf_23 (by decide) (fun c_107 => ?_) (fun c_107 => ?_)
      · rw [if_neg c_107] at h
        refine lv_aload_n hx hb dX9_paceOf_28 rfl (lv_at hl 0 rfl) ?_
        refine lv_iload_n hx hb dX9_paceOf_29 rfl (lv_at hl 1 rfl) ?_
        refine lv_iload_n hx hb dX9_paceOf_30 rfl (lv_at hl 2 rfl) ?_
        refine lv_iload_n hx hb dX9_paceOf_31 rfl (lv_at hl 3 rfl) ?_
        refine lv_iconst (v := 0) hx hb dX9_paceOf_32 (by decide) ?_
        obtain ⟨x109, hc108, h⟩ := ob h
        refine r_callV1 (As := [.int x1, .int x2, .int x3, .int 0]) (rest := []) (r := 9) (i := 0) C (vX9_placeOf hc108) hR hS (lv0 (by decide) (by decide)) (by decide) ml_X9_244 mw_X9_placeOf rfl ⟨Nat.le_of_ble_eq_true rfl, Nat.le_of_ble_eq_true rfl, Nat.le_of_ble_eq_true rfl, Nat.le_of_ble_eq_true rfl⟩ hl.1 rfl (Nat.le_of_ble_eq_true rfl) dX9_paceOf_33 (fun H locs hR hS => ?_)
        refine lv_aload_n hx hb dX9_paceOf_36 rfl (lv_at hl 0 rfl) ?_
        refine lv_iload_n hx hb dX9_paceOf_37 rfl (lv_at hl 1 rfl) ?_
        refine lv_iload_n hx hb dX9_paceOf_38 rfl (lv_at hl 2 rfl) ?_
        refine lv_iload_n hx hb dX9_paceOf_39 rfl (lv_at hl 3 rfl) ?_
        refine lv_iconst (v := 1) hx hb dX9_paceOf_40 (by decide) ?_
        refine lv_isub hx hb dX9_paceOf_41 ?_
        refine lv_iconst (v := 0) hx hb dX9_paceOf_42 (by decide) ?_
        obtain ⟨x111, hc110, h⟩ := ob h
        refine r_callV1 (As := [.int x1, .int x2, .int (x3 - 1), .int 0]) (rest := [.int x109]) (r := 9) (i := 0) C (vX9_placeOf hc110) hR hS (lv0 (by decide) (by decide)) (by decide) ml_X9_244 mw_X9_placeOf rfl ⟨Nat.le_of_ble_eq_true rfl, Nat.le_of_ble_eq_true rfl, Nat.le_of_ble_eq_true rfl, Nat.le_of_ble_eq_true rfl⟩ hl.1 rfl (Nat.le_of_ble_eq_true rfl) dX9_paceOf_43 (fun H locs hR hS => ?_)
        refine lv_isub hx hb dX9_paceOf_46 ?_
        obtain ⟨x113, hc112, h⟩ := ob h
        refine r_callS1 (As := [.int (x109 - x111)]) (rest := []) C (vX9_amount hc112) hR hS ml_X9_248 ms_X9_amount rfl ⟨Nat.le_of_ble_eq_true rfl, Nat.le_of_ble_eq_true rfl, Nat.le_of_ble_eq_true rfl, Nat.le_of_ble_eq_true rfl⟩ hl.1 rfl (Nat.le_of_ble_eq_true rfl) dX9_paceOf_47 (fun H locs hR hS => ?_)
        refine lv_aload_n hx hb dX9_paceOf_50 rfl (lv_at hl 0 rfl) ?_
        refine lv_iload_n hx hb dX9_paceOf_51 rfl (lv_at hl 1 rfl) ?_
        refine lv_iload_n hx hb dX9_paceOf_52 rfl (lv_at hl 2 rfl) ?_
        refine lv_iload_n hx hb dX9_paceOf_53 rfl (lv_at hl 3 rfl) ?_
        refine lv_iconst (v := 1) hx hb dX9_paceOf_54 (by decide) ?_
        obtain ⟨x115, hc114, h⟩ := ob h
        refine r_callV1 (As := [.int x1, .int x2, .int x3, .int 1]) (rest := [.int x113]) (r := 9) (i := 0) C (vX9_placeOf hc114) hR hS (lv0 (by decide) (by decide)) (by decide) ml_X9_244 mw_X9_placeOf rfl ⟨Nat.le_of_ble_eq_true rfl, Nat.le_of_ble_eq_true rfl, Nat.le_of_ble_eq_true rfl, Nat.le_of_ble_eq_true rfl⟩ hl.1 rfl (Nat.le_of_ble_eq_true rfl) dX9_paceOf_55 (fun H locs hR hS => ?_)
        refine lv_aload_n hx hb dX9_paceOf_58 rfl (lv_at hl 0 rfl) ?_
        refine lv_iload_n hx hb dX9_paceOf_59 rfl (lv_at hl 1 rfl) ?_
        refine lv_iload_n hx hb dX9_paceOf_60 rfl (lv_at hl 2 rfl) ?_
        refine lv_iload_n hx hb dX9_paceOf_61 rfl (lv_at hl 3 rfl) ?_
        refine lv_iconst (v := 1) hx hb dX9_paceOf_62 (by decide) ?_
        refine lv_isub hx hb dX9_paceOf_63 ?_
        refine lv_iconst (v := 1) hx hb dX9_paceOf_64 (by decide) ?_
        obtain ⟨x117, hc116, h⟩ := ob h
        refine r_callV1 (As := [.int x1, .int x2, .int (x3 - 1), .int 1]) (rest := [.int x115, .int x113]) (r := 9) (i := 0) C (vX9_placeOf hc116) hR hS (lv0 (by decide) (by decide)) (by decide) ml_X9_244 mw_X9_placeOf rfl ⟨Nat.le_of_ble_eq_true rfl, Nat.le_of_ble_eq_true rfl, Nat.le_of_ble_eq_true rfl, Nat.le_of_ble_eq_true rfl⟩ hl.1 rfl (Nat.le_of_ble_eq_true rfl) dX9_paceOf_65 (fun H locs hR hS => ?_)
        refine lv_isub hx hb dX9_paceOf_68 ?_
        obtain ⟨x119, hc118, h⟩ := ob h
        refine r_callS1 (As := [.int (x115 - x117)]) (rest := [.int x113]) C (vX9_amount hc118) hR hS ml_X9_248 ms_X9_amount rfl ⟨Nat.le_of_ble_eq_true rfl, Nat.le_of_ble_eq_true rfl, Nat.le_of_ble_eq_true rfl, Nat.le_of_ble_eq_true rfl⟩ hl.1 rfl (Nat.le_of_ble_eq_true rfl) dX9_paceOf_69 (fun H locs hR hS => ?_)
        obtain ⟨x121, hc120, h⟩ := ob h
        refine r_callS1 (As := [.int x113, .int x119]) (rest := []) C (vX9_more hc120) hR hS ml_X9_251 ms_X9_more rfl ⟨Nat.le_of_ble_eq_true rfl, Nat.le_of_ble_eq_true rfl, Nat.le_of_ble_eq_true rfl, Nat.le_of_ble_eq_true rfl⟩ hl.1 rfl (Nat.le_of_ble_eq_true rfl) dX9_paceOf_72 (fun H locs hR hS => ?_)
        cases h
        exact e_iret C hr hR hS (Nat.le_of_ble_eq_true rfl) (Nat.le_of_ble_eq_true rfl) dX9_paceOf_75
      · rw [if_pos c_107] at h
        refine lv_iconst (v := 0) hx hb dX9_paceOf_26 (by decide) ?_
        cases h
        exact e_iret C hr hR hS (Nat.le_of_ble_eq_true rfl) (Nat.le_of_ble_eq_true rfl) dX9_paceOf_27
set_option maxHeartbeats 4000000 in
set_option maxRecDepth 100000 in
theorem vX9_colourOf {l : Launch} {E : EV} {a : Nat → Nat → Nat} {u0 : HS} {x1 : Int32} {x2 : Int32} {x3 : Int32} {out : Int32} (h : mX9_colourOf u0 x1 x2 x3 = some out) : Ct l E yX9_colourOf cX9_colourOf 6 (some .int) 0 0 0 0 a u0 [.ref (a 9 0), .int x1, .int x2, .int x3] (some (.int out)) u0 := by
  refine Ct.start (by decide) (Nat.le_of_ble_eq_true rfl) ?_
  intro p e s m args below meth c ls C hr hR hS hl
  have C : Cx E p s m args meth c cX9_colourOf 6 RX9 := C
  have hl : lv_has ls 6 [(0, .ref (a 9 0)), (1, .int x1), (2, .int x2), (3, .int x3)] := hl
  have hx := C.1
  have hb := C.2.1
  unfold mX9_colourOf at h
  refine lv_iconst (v := (-1)) hx hb dX9_colourOf_0 (by decide) ?_
  refine lv_istore (lv' := [(4, .int (-1)), (0, .ref (a 9 0)), (1, .int x1), (2, .int x2), (3, .int x3)]) hx hb dX9_colourOf_1 hl (by decide) rfl (fun ls hl => ?_)
  refine lv_bipush (v := 24) hx hb dX9_colourOf_3 (by decide) ?_
  refine lv_iload_n hx hb dX9_colourOf_5 rfl (lv_at hl 2 rfl) ?_
  refine lv_imul hx hb dX9_colourOf_6 ?_
  refine lv_topi (fun x101 ex101 => ?_)
  replace h := bd_x ex101 h
  refine lv_istore (lv' := [(5, .int x101), (4, .int (-1)), (0, .ref (a 9 0)), (1, .int x1), (2, .int x2), (3, .int x3)]) hx hb dX9_colourOf_7 hl (by decide) rfl (fun ls hl => ?_)
  refine jp_cut h (fun w105 hw105 h => ?_)
  have Kw105 : ∀ (x104 : Int32) (H : Heap) (locs : List Loc) (ls : Array Slot), w105 x104 = some out → Rel E a u0 H → va_S (AE E) s.heap H locs → lv_has ls 6 [(0, .ref (a 9 0)), (1, .int x1), (2, .int x2), (4, .int x104)] → W p l e { frames := 0, cells := 0, slots := 0, locals := 0 } s m args below meth c H locs 0 0 (MQ below (QW E a (some (.int out)) u0) args s 0 0 (AE E)) (F0 m 101 ls []) := by
    intro x104 H locs ls h hR hS hl
    replace h := jx1 hw105 h
    refine lv_iload hx hb dX9_colourOf_101 (lv_at hl 3 rfl) ?_
    refine lv_iconst (v := (-1)) hx hb dX9_colourOf_103 (by decide) ?_
    refine lv_icmp_ne (tgt := 123) hx hb dX9_colourOf_104 (by decide) (fun c_106 => ?_) (fun c_106 => ?_)
    · rw [if_neg c_106] at h
      refine lv_aload_n hx hb dX9_colourOf_123 rfl (lv_at hl 0 rfl) ?_
      refine r_get C hR 9 0 17 (v := .ref (a 64 0)) (lv0 (by decide) (by decide)) (by decide) (by decide) rfl fl_X9_25 dX9_colourOf_124 ?_
      refine lv_iload hx hb dX9_colourOf_127 (lv_at hl 3 rfl) ?_
      obtain ⟨k107, hk107, h⟩ := ob h
      have hLk107 : k107 < cntS 65 := by have q1 := (ck_in hk107).2.2; have q2 : cntS 65 = 144 := rfl; omega
      refine r_aald C hR 64 0 65 0 6 (lv0 (by decide) (by decide)) (by decide) rfl rfl rfl (fun _ => rfl) rfl hk107 dX9_colourOf_129 ?_
      refine lv_iconst (v := 3) hx hb dX9_colourOf_130 (by decide) ?_
      obtain ⟨k108, hk108, h⟩ := ob h
      refine r_ald C hR 65 k107 (lv0 hLk107 (by decide)) (by decide) rfl (fun _ => rfl) rfl hk108 dX9_colourOf_131 ?_
      cases h
      exact e_iret C hr hR hS (Nat.le_of_ble_eq_true rfl) (Nat.le_of_ble_eq_true rfl) dX9_colourOf_132
    · rw [if_pos c_106] at h
      refine lv_aload_n hx hb dX9_colourOf_107 rfl (lv_at hl 0 rfl) ?_
      refine r_get C hR 9 0 20 (v := .ref (a 68 0)) (lv0 (by decide) (by decide)) (by decide) (by decide) rfl fl_X9_34 dX9_colourOf_108 ?_
      refine lv_bipush (v := 8) hx hb dX9_colourOf_111 (by decide) ?_
      refine lv_iload_n hx hb dX9_colourOf_113 rfl (lv_at hl 1 rfl) ?_
      refine lv_imul hx hb dX9_colourOf_114 ?_
      refine lv_iload_n hx hb dX9_colourOf_115 rfl (lv_at hl 2 rfl) ?_
      refine lv_iadd hx hb dX9_colourOf_116 ?_
      obtain ⟨k109, hk109, h⟩ := ob h
      have hLk109 : k109 < cntS 69 := by have q1 := (ck_in hk109).2.2; have q2 : cntS 69 = 48 := rfl; omega
      refine r_aald C hR 68 0 69 0 6 (lv0 (by decide) (by decide)) (by decide) rfl rfl rfl (fun _ => rfl) rfl hk109 dX9_colourOf_117 ?_
      refine lv_iconst (v := 0) hx hb dX9_colourOf_118 (by decide) ?_
      obtain ⟨k110, hk110, h⟩ := ob h
      refine r_ald C hR 69 k109 (lv0 hLk109 (by decide)) (by decide) rfl (fun _ => rfl) rfl hk110 dX9_colourOf_119 ?_
      refine lv_goto (tgt := 132) hx hb dX9_colourOf_120 (by decide) ?_
      cases h
      exact e_iret C hr hR hS (Nat.le_of_ble_eq_true rfl) (Nat.le_of_ble_eq_true rfl) dX9_colourOf_132
  have LP : ∀ (fu : Nat) (x102 : Int32) (x103 : Int32) (H : Heap) (locs : List Loc) (ls : Array Slot), mX9_colourOf_L9 x1 u0 x2 x3 w105 fu x102 x103 = some out → Rel E a u0 H → va_S (AE E) s.heap H locs → lv_has ls 6 [(0, .ref (a 9 0)), (1, .int x1), (2, .int x2), (3, .int x3), (4, .int x102), (5, .int x103)] → W p l e { frames := 0, cells := 0, slots := 0, locals := 0 } s m args below meth c H locs 0 0 (MQ below (QW E a (some (.int out)) u0) args s 0 0 (AE E)) (F0 m 9 ls []) := by
    intro fu
    induction fu with
    | zero =>
      intro x102 x103 H locs ls h
      have h2 : (none : Option Int32) = some out := h
      cases h2
    | succ fu ih =>
      intro x102 x103 H locs ls h hR hS hl
      rw [mX9_colourOf_L9.eq_2] at h
      refine lv_iload hx hb dX9_colourOf_9 (lv_at hl 5 rfl) ?_
      refine lv_bipush (v := 24) hx hb dX9_colourOf_11 (by decide) ?_
      refine lv_iload_n hx hb dX9_colourOf_13 rfl (lv_at hl 1 rfl) ?_
      refine lv_imul hx hb dX9_colourOf_14 ?_
      refine lv_aload_n hx hb dX9_colourOf_15 rfl (lv_at hl 0 rfl) ?_
      refine r_get C hR 9 0 18 (v := .ref (a 66 0)) (lv0 (by decide) (by decide)) (by decide) (by decide) rfl fl_X9_28 dX9_colourOf_16 ?_
      refine lv_iload_n hx hb dX9_colourOf_19 rfl (lv_at hl 1 rfl) ?_
      obtain ⟨k111, hk111, h⟩ := ob h
      refine r_ald C hR 66 0 (lv0 (by decide) (by decide)) (by decide) rfl (fun _ => rfl) rfl hk111 dX9_colourOf_20 ?_
      refine lv_iadd hx hb dX9_colourOf_21 ?_
      refine lv_icmp_ge (tgt := 101) hx hb dX9_colourOf_22 (by decide) (fun c_112 => ?_) (fun c_112 => ?_)
      · rw [if_pos c_112] at h
        exact Kw105 _ _ _ _ h hR hS (lv_sub hl [0, 1, 2, 4] rfl)
      · rw [if_neg c_112] at h
        refine lv_aload_n hx hb dX9_colourOf_25 rfl (lv_at hl 0 rfl) ?_
        refine r_get C hR 9 0 17 (v := .ref (a 64 0)) (lv0 (by decide) (by decide)) (by decide) (by decide) rfl fl_X9_25 dX9_colourOf_26 ?_
        refine lv_iload hx hb dX9_colourOf_29 (lv_at hl 5 rfl) ?_
        obtain ⟨k113, hk113, h⟩ := ob h
        have hLk113 : k113 < cntS 65 := by have q1 := (ck_in hk113).2.2; have q2 : cntS 65 = 144 := rfl; omega
        refine r_aald C hR 64 0 65 0 6 (lv0 (by decide) (by decide)) (by decide) rfl rfl rfl (fun _ => rfl) rfl hk113 dX9_colourOf_31 ?_
        refine lv_iconst (v := 0) hx hb dX9_colourOf_32 (by decide) ?_
        obtain ⟨k114, hk114, h⟩ := ob h
        refine r_ald C hR 65 k113 (lv0 hLk113 (by decide)) (by decide) rfl (fun _ => rfl) rfl hk114 dX9_colourOf_33 ?_
        refine lv_iconst (v := 4) hx hb dX9_colourOf_34 (by decide) ?_
        obtain ⟨x115, hz, h⟩ := ob h
        have Kj116 : ∀ (H : Heap) (locs : List Loc) (ls : Array Slot), Rel E a u0 H → va_S (AE E) s.heap H locs → lv_has ls 6 [(0, .ref (a 9 0)), (1, .int x1), (2, .int x2), (3, .int x3), (4, .int x115), (5, .int x103)] → W p l e { frames := 0, cells := 0, slots := 0, locals := 0 } s m args below meth c H locs 0 0 (MQ below (QW E a (some (.int out)) u0) args s 0 0 (AE E)) (F0 m 95 ls []) := by
          intro H locs ls hR hS hl
          clear hz
          obtain ⟨x117, ex117⟩ : ∃ z : Int32, z = x103 + 1 := ⟨_, rfl⟩
          replace h := bd_x ex117 h
          refine lv_iinc (v := x117) (lv' := [(5, .int x117), (0, .ref (a 9 0)), (1, .int x1), (2, .int x2), (3, .int x3), (4, .int x115)]) hx hb dX9_colourOf_95 hl (k := 5) rfl (by rw [ex117]; rfl) (by decide) rfl (fun ls hl => ?_)
          refine lv_goto (tgt := 9) hx hb dX9_colourOf_98 (by decide) ?_
          exact ih _ _ _ _ _ h hR hS (lv_sub hl [1, 2, 3, 4, 5, 0] rfl)
        clear h
        have h := hz
        clear hz
        refine lv_icmp_ne (tgt := 95) hx hb dX9_colourOf_35 (by decide) (fun c_118 => ?_) (fun c_118 => ?_)
        · rw [if_neg c_118] at h
          cases h
          exact Kj116 _ _ _ hR hS (lv_sub hl [0, 1, 2, 3, 4, 5] rfl)
        · rw [if_pos c_118] at h
          refine lv_aload_n hx hb dX9_colourOf_38 rfl (lv_at hl 0 rfl) ?_
          refine r_get C hR 9 0 17 (v := .ref (a 64 0)) (lv0 (by decide) (by decide)) (by decide) (by decide) rfl fl_X9_25 dX9_colourOf_39 ?_
          refine lv_iload hx hb dX9_colourOf_42 (lv_at hl 5 rfl) ?_
          obtain ⟨k119, hk119, h⟩ := ob h
          have hLk119 : k119 < cntS 65 := by have q1 := (ck_in hk119).2.2; have q2 : cntS 65 = 144 := rfl; omega
          refine r_aald C hR 64 0 65 0 6 (lv0 (by decide) (by decide)) (by decide) rfl rfl rfl (fun _ => rfl) rfl hk119 dX9_colourOf_44 ?_
          refine lv_iconst (v := 1) hx hb dX9_colourOf_45 (by decide) ?_
          obtain ⟨k120, hk120, h⟩ := ob h
          refine r_ald C hR 65 k119 (lv0 hLk119 (by decide)) (by decide) rfl (fun _ => rfl) rfl hk120 dX9_colourOf_46 ?_
          refine lv_iload_n hx hb dX9_colourOf_47 rfl (lv_at hl 2 rfl) ?_
          refine lv_icmp_ne (tgt := 95) hx hb dX9_colourOf_48 (by decide) (fun c_121 => ?_) (fun c_121 => ?_)
          · rw [if_neg c_121] at h
            cases h
            exact Kj116 _ _ _ hR hS (lv_sub hl [0, 1, 2, 3, 4, 5] rfl)
          · rw [if_pos c_121] at h
            refine lv_aload_n hx hb dX9_colourOf_51 rfl (lv_at hl 0 rfl) ?_
            refine r_get C hR 9 0 17 (v := .ref (a 64 0)) (lv0 (by decide) (by decide)) (by decide) (by decide) rfl fl_X9_25 dX9_colourOf_52 ?_
            refine lv_iload hx hb dX9_colourOf_55 (lv_at hl 5 rfl) ?_
            obtain ⟨k122, hk122, h⟩ := ob h
            have hLk122 : k122 < cntS 65 := by have q1 := (ck_in hk122).2.2; have q2 : cntS 65 = 144 := rfl; omega
            refine r_aald C hR 64 0 65 0 6 (lv0 (by decide) (by decide)) (by decide) rfl rfl rfl (fun _ => rfl) rfl hk122 dX9_colourOf_57 ?_
            refine lv_iconst (v := 2) hx hb dX9_colourOf_58 (by decide) ?_
            obtain ⟨k123, hk123, h⟩ := ob h
            refine r_ald C hR 65 k122 (lv0 hLk122 (by decide)) (by decide) rfl (fun _ => rfl) rfl hk123 dX9_colourOf_59 ?_
            refine lv_iload_n hx hb dX9_colourOf_60 rfl (lv_at hl 3 rfl) ?_
            refine lv_icmp_gt (tgt := 95) hx hb dX9_colourOf_61 (by decide) (fun c_124 => ?_) (fun c_124 => ?_)
            · rw [if_pos c_124] at h
              cases h
              exact Kj116 _ _ _ hR hS (lv_sub hl [0, 1, 2, 3, 4, 5] rfl)
            · rw [if_neg c_124] at h
              refine lv_iload hx hb dX9_colourOf_64 (lv_at hl 4 rfl) ?_
              refine lv_iconst (v := (-1)) hx hb dX9_colourOf_66 (by decide) ?_
              refine jp_cut h (fun j125 hj125 h => ?_)
              have Kj125 : ∀  (H : Heap) (locs : List Loc) (ls : Array Slot), j125 = some x115 → Rel E a u0 H → va_S (AE E) s.heap H locs → lv_has ls 6 [(0, .ref (a 9 0)), (1, .int x1), (2, .int x2), (3, .int x3), (5, .int x103)] → W p l e { frames := 0, cells := 0, slots := 0, locals := 0 } s m args below meth c H locs 0 0 (MQ below (QW E a (some (.int out)) u0) args s 0 0 (AE E)) (F0 m 91 ls []) := by
                intro  H locs ls h hR hS hl
                replace h := jx0 hj125 h
                refine lv_iload hx hb dX9_colourOf_91 (lv_at hl 4 rfl) ?_
                refine lv_istore (lv' := [(4, .int x103), (0, .ref (a 9 0)), (1, .int x1), (2, .int x2), (3, .int x3), (5, .int x103)]) hx hb dX9_colourOf_93 hl (by decide) rfl (fun ls hl => ?_)
                cases h
                exact Kj116 _ _ _ hR hS (lv_sub hl [1, 2, 3, 4, 0, 5] rfl)
              refine lv_icmp_eq (tgt := 91) hx hb dX9_colourOf_67 (by decide) (fun c_126 => ?_) (fun c_126 => ?_)
              · rw [if_pos c_126] at h
                exact Kj125  _ _ _ h hR hS (lv_sub hl [0, 1, 2, 3, 5] rfl)
              · rw [if_neg c_126] at h
                refine lv_aload_n hx hb dX9_colourOf_70 rfl (lv_at hl 0 rfl) ?_
                refine r_get C hR 9 0 17 (v := .ref (a 64 0)) (lv0 (by decide) (by decide)) (by decide) (by decide) rfl fl_X9_25 dX9_colourOf_71 ?_
                refine lv_iload hx hb dX9_colourOf_74 (lv_at hl 5 rfl) ?_
                obtain ⟨k127, hk127, h⟩ := ob h
                have hLk127 : k127 < cntS 65 := by have q1 := (ck_in hk127).2.2; have q2 : cntS 65 = 144 := rfl; omega
                refine r_aald C hR 64 0 65 0 6 (lv0 (by decide) (by decide)) (by decide) rfl rfl rfl (fun _ => rfl) rfl hk127 dX9_colourOf_76 ?_
                refine lv_iconst (v := 2) hx hb dX9_colourOf_77 (by decide) ?_
                obtain ⟨k128, hk128, h⟩ := ob h
                refine r_ald C hR 65 k127 (lv0 hLk127 (by decide)) (by decide) rfl (fun _ => rfl) rfl hk128 dX9_colourOf_78 ?_
                refine lv_aload_n hx hb dX9_colourOf_79 rfl (lv_at hl 0 rfl) ?_
                refine r_get C hR 9 0 17 (v := .ref (a 64 0)) (lv0 (by decide) (by decide)) (by decide) (by decide) rfl fl_X9_25 dX9_colourOf_80 ?_
                refine lv_iload hx hb dX9_colourOf_83 (lv_at hl 4 rfl) ?_
                obtain ⟨k129, hk129, h⟩ := ob h
                have hLk129 : k129 < cntS 65 := by have q1 := (ck_in hk129).2.2; have q2 : cntS 65 = 144 := rfl; omega
                refine r_aald C hR 64 0 65 0 6 (lv0 (by decide) (by decide)) (by decide) rfl rfl rfl (fun _ => rfl) rfl hk129 dX9_colourOf_85 ?_
                refine lv_iconst (v := 2) hx hb dX9_colourOf_86 (by decide) ?_
                obtain ⟨k130, hk130, h⟩ := ob h
                refine r_ald C hR 65 k129 (lv0 hLk129 (by decide)) (by decide) rfl (fun _ => rfl) rfl hk130 dX9_colourOf_87 ?_
                refine lv_icmp_lt (tgt := 95) hx hb dX9_colourOf_88 (by decide) (fun c_131 => ?_) (fun c_131 => ?_)
                · rw [if_pos c_131] at h
                  cases h
                  exact Kj116 _ _ _ hR hS (lv_sub hl [0, 1, 2, 3, 4, 5] rfl)
                · rw [if_neg c_131] at h
                  exact Kj125  _ _ _ h hR hS (lv_sub hl [0, 1, 2, 3, 5] rfl)
  exact LP FU _ _ _ _ _ h hR hS (lv_sub hl [2, 3, 4, 5, 1, 0] rfl)
set_option maxHeartbeats 4000000 in
set_option maxRecDepth 100000 in
theorem vX9_isChanged {l : Launch} {E : EV} {a : Nat → Nat → Nat} {u0 : HS} {x1 : Int32} {x2 : Int32} {x3 : Int32} {out : Int32} (h : mX9_isChanged u0 x1 x2 x3 = some out) : Ct l E yX9_isChanged cX9_isChanged 5 (some .boolean) 1 22 0 0 a u0 [.ref (a 9 0), .int x1, .int x2, .int x3] (some (.int out)) u0 := by
  refine Ct.start (by decide) (Nat.le_of_ble_eq_true rfl) ?_
  intro p e s m args below meth c ls C hr hR hS hl
  have C : Cx E p s m args meth c cX9_isChanged 5 RX9 := C
  have hl : lv_has ls 5 [(0, .ref (a 9 0)), (1, .int x1), (2, .int x2), (3, .int x3)] := hl
  have hx := C.1
  have hb := C.2.1
  unfold mX9_isChanged at h
  refine lv_bipush (v := 24) hx hb dX9_isChanged_0 (by decide) ?_
  refine lv_iload_n hx hb dX9_isChanged_2 rfl (lv_at hl 1 rfl) ?_
  refine lv_imul hx hb dX9_isChanged_3 ?_
  refine lv_topi (fun x101 ex101 => ?_)
  replace h := bd_x ex101 h
  refine lv_istore (lv' := [(4, .int x101), (0, .ref (a 9 0)), (1, .int x1), (2, .int x2), (3, .int x3)]) hx hb dX9_isChanged_4 hl (by decide) rfl (fun ls hl => ?_)
  refine jp_cut h (fun w103 hw103 h => ?_)
  have Kw103 : ∀  (H : Heap) (locs : List Loc) (ls : Array Slot), w103 = some out → Rel E a u0 H → va_S (AE E) s.heap H locs → lv_has ls 5 [] → W p l e { frames := 1, cells := 0, slots := 0, locals := 22 } s m args below meth c H locs 0 0 (MQ below (QW E a (some (.int out)) u0) args s 0 0 (AE E)) (F0 m 76 ls []) := by
    intro  H locs ls h hR hS hl
    replace h := jx0 hw103 h
    refine lv_iconst (v := 0) hx hb dX9_isChanged_76 (by decide) ?_
    cases h
    exact e_zret (v := 0) C hr rfl hR hS (Nat.le_of_ble_eq_true rfl) (Nat.le_of_ble_eq_true rfl) dX9_isChanged_77
  have LP : ∀ (fu : Nat) (x102 : Int32) (H : Heap) (locs : List Loc) (ls : Array Slot), mX9_isChanged_L6 x1 u0 x2 x3 w103 fu x102 = some out → Rel E a u0 H → va_S (AE E) s.heap H locs → lv_has ls 5 [(0, .ref (a 9 0)), (1, .int x1), (2, .int x2), (3, .int x3), (4, .int x102)] → W p l e { frames := 1, cells := 0, slots := 0, locals := 22 } s m args below meth c H locs 0 0 (MQ below (QW E a (some (.int out)) u0) args s 0 0 (AE E)) (F0 m 6 ls []) := by
    intro fu
    induction fu with
    | zero =>
      intro x102 H locs ls h
      have h2 : (none : Option Int32) = some out := h
      cases h2
    | succ fu ih =>
      intro x102 H locs ls h hR hS hl
      rw [mX9_isChanged_L6.eq_2] at h
      refine lv_iload hx hb dX9_isChanged_6 (lv_at hl 4 rfl) ?_
      refine lv_bipush (v := 24) hx hb dX9_isChanged_8 (by decide) ?_
      refine lv_iload_n hx hb dX9_isChanged_10 rfl (lv_at hl 1 rfl) ?_
      refine lv_imul hx hb dX9_isChanged_11 ?_
      refine lv_aload_n hx hb dX9_isChanged_12 rfl (lv_at hl 0 rfl) ?_
      refine r_get C hR 9 0 18 (v := .ref (a 66 0)) (lv0 (by decide) (by decide)) (by decide) (by decide) rfl fl_X9_28 dX9_isChanged_13 ?_
      refine lv_iload_n hx hb dX9_isChanged_16 rfl (lv_at hl 1 rfl) ?_
      obtain ⟨k104, hk104, h⟩ := ob h
      refine r_ald C hR 66 0 (lv0 (by decide) (by decide)) (by decide) rfl (fun _ => rfl) rfl hk104 dX9_isChanged_17 ?_
      refine lv_iadd hx hb dX9_isChanged_18 ?_
      refine lv_icmp_ge (tgt := 76) hx hb dX9_isChanged_19 (by decide) (fun c_105 => ?_) (fun c_105 => ?_)
      · rw [if_pos c_105] at h
        exact Kw103  _ _ _ h hR hS (lv_sub hl [] rfl)
      · rw [if_neg c_105] at h
        refine lv_aload_n hx hb dX9_isChanged_22 rfl (lv_at hl 0 rfl) ?_
        refine r_get C hR 9 0 17 (v := .ref (a 64 0)) (lv0 (by decide) (by decide)) (by decide) (by decide) rfl fl_X9_25 dX9_isChanged_23 ?_
        refine lv_iload hx hb dX9_isChanged_26 (lv_at hl 4 rfl) ?_
        obtain ⟨k106, hk106, h⟩ := ob h
        have hLk106 : k106 < cntS 65 := by have q1 := (ck_in hk106).2.2; have q2 : cntS 65 = 144 := rfl; omega
        refine r_aald C hR 64 0 65 0 6 (lv0 (by decide) (by decide)) (by decide) rfl rfl rfl (fun _ => rfl) rfl hk106 dX9_isChanged_28 ?_
        refine lv_iconst (v := 0) hx hb dX9_isChanged_29 (by decide) ?_
        obtain ⟨k107, hk107, h⟩ := ob h
        refine r_ald C hR 65 k106 (lv0 hLk106 (by decide)) (by decide) rfl (fun _ => rfl) rfl hk107 dX9_isChanged_30 ?_
        refine lv_iconst (v := 4) hx hb dX9_isChanged_31 (by decide) ?_
        refine jp_cut h (fun j108 hj108 h => ?_)
        have Kj108 : ∀  (H : Heap) (locs : List Loc) (ls : Array Slot), j108 = some out → Rel E a u0 H → va_S (AE E) s.heap H locs → lv_has ls 5 [(0, .ref (a 9 0)), (1, .int x1), (2, .int x2), (3, .int x3), (4, .int x102)] → W p l e { frames := 1, cells := 0, slots := 0, locals := 22 } s m args below meth c H locs 0 0 (MQ below (QW E a (some (.int out)) u0) args s 0 0 (AE E)) (F0 m 70 ls []) := by
          intro  H locs ls h hR hS hl
          replace h := jx0 hj108 h
          obtain ⟨x109, ex109⟩ : ∃ z : Int32, z = x102 + 1 := ⟨_, rfl⟩
          replace h := bd_x ex109 h
          refine lv_iinc (v := x109) (lv' := [(4, .int x109), (0, .ref (a 9 0)), (1, .int x1), (2, .int x2), (3, .int x3)]) hx hb dX9_isChanged_70 hl (k := 4) rfl (by rw [ex109]; rfl) (by decide) rfl (fun ls hl => ?_)
          refine lv_goto (tgt := 6) hx hb dX9_isChanged_73 (by decide) ?_
          exact ih _ _ _ _ h hR hS (lv_sub hl [1, 2, 3, 4, 0] rfl)
        refine lv_icmp_ne (tgt := 70) hx hb dX9_isChanged_32 (by decide) (fun c_110 => ?_) (fun c_110 => ?_)
        · rw [if_neg c_110] at h
          exact Kj108  _ _ _ h hR hS (lv_sub hl [0, 1, 2, 3, 4] rfl)
        · rw [if_pos c_110] at h
          refine lv_aload_n hx hb dX9_isChanged_35 rfl (lv_at hl 0 rfl) ?_
          refine r_get C hR 9 0 17 (v := .ref (a 64 0)) (lv0 (by decide) (by decide)) (by decide) (by decide) rfl fl_X9_25 dX9_isChanged_36 ?_
          refine lv_iload hx hb dX9_isChanged_39 (lv_at hl 4 rfl) ?_
          obtain ⟨k111, hk111, h⟩ := ob h
          have hLk111 : k111 < cntS 65 := by have q1 := (ck_in hk111).2.2; have q2 : cntS 65 = 144 := rfl; omega
          refine r_aald C hR 64 0 65 0 6 (lv0 (by decide) (by decide)) (by decide) rfl rfl rfl (fun _ => rfl) rfl hk111 dX9_isChanged_41 ?_
          refine lv_iconst (v := 1) hx hb dX9_isChanged_42 (by decide) ?_
          obtain ⟨k112, hk112, h⟩ := ob h
          refine r_ald C hR 65 k111 (lv0 hLk111 (by decide)) (by decide) rfl (fun _ => rfl) rfl hk112 dX9_isChanged_43 ?_
          refine lv_iload_n hx hb dX9_isChanged_44 rfl (lv_at hl 2 rfl) ?_
          refine lv_icmp_ne (tgt := 70) hx hb dX9_isChanged_45 (by decide) (fun c_113 => ?_) (fun c_113 => ?_)
          · rw [if_neg c_113] at h
            exact Kj108  _ _ _ h hR hS (lv_sub hl [0, 1, 2, 3, 4] rfl)
          · rw [if_pos c_113] at h
            refine lv_aload_n hx hb dX9_isChanged_48 rfl (lv_at hl 0 rfl) ?_
            refine r_get C hR 9 0 17 (v := .ref (a 64 0)) (lv0 (by decide) (by decide)) (by decide) (by decide) rfl fl_X9_25 dX9_isChanged_49 ?_
            refine lv_iload hx hb dX9_isChanged_52 (lv_at hl 4 rfl) ?_
            obtain ⟨k114, hk114, h⟩ := ob h
            have hLk114 : k114 < cntS 65 := by have q1 := (ck_in hk114).2.2; have q2 : cntS 65 = 144 := rfl; omega
            refine r_aald C hR 64 0 65 0 6 (lv0 (by decide) (by decide)) (by decide) rfl rfl rfl (fun _ => rfl) rfl hk114 dX9_isChanged_54 ?_
            refine lv_iconst (v := 2) hx hb dX9_isChanged_55 (by decide) ?_
            obtain ⟨k115, hk115, h⟩ := ob h
            refine r_ald C hR 65 k114 (lv0 hLk114 (by decide)) (by decide) rfl (fun _ => rfl) rfl hk115 dX9_isChanged_56 ?_
            refine lv_iload_n hx hb dX9_isChanged_57 rfl (lv_at hl 3 rfl) ?_
            refine lv_bipush (v := 9) hx hb dX9_isChanged_58 (by decide) ?_
            refine lv_isub hx hb dX9_isChanged_60 ?_
            refine lv_iload_n hx hb dX9_isChanged_61 rfl (lv_at hl 3 rfl) ?_
            obtain ⟨x117, hc116, h⟩ := ob h
            refine r_callS1 (As := [.int (gI u0 65 k114 k115), .int (x3 - 9), .int x3]) (rest := []) C (vX9_in hc116) hR hS ml_X9_113 ms_X9_in rfl ⟨Nat.le_of_ble_eq_true rfl, Nat.le_of_ble_eq_true rfl, Nat.le_of_ble_eq_true rfl, Nat.le_of_ble_eq_true rfl⟩ hl.1 rfl (Nat.le_of_ble_eq_true rfl) dX9_isChanged_62 (fun H locs hR hS => ?_)
            refine lv_if_eq (tgt := 70) hx hb dX9_isChanged_65 (by decide) (fun c_118 => ?_) (fun c_118 => ?_)
            · rw [if_pos c_118] at h
              exact Kj108  _ _ _ h hR hS (lv_sub hl [0, 1, 2, 3, 4] rfl)
            · rw [if_neg c_118] at h
              refine lv_iconst (v := 1) hx hb dX9_isChanged_68 (by decide) ?_
              cases h
              exact e_zret (v := 1) C hr rfl hR hS (Nat.le_of_ble_eq_true rfl) (Nat.le_of_ble_eq_true rfl) dX9_isChanged_69
  exact LP FU _ _ _ _ h hR hS (lv_sub hl [1, 2, 3, 4, 0] rfl)
set_option maxHeartbeats 4000000 in
set_option maxRecDepth 100000 in
theorem vX9_countOf {l : Launch} {E : EV} {a : Nat → Nat → Nat} {u0 : HS} {x1 : Int32} {x2 : Int32} {out : Int32} (h : mX9_countOf u0 x1 x2 = some out) : Ct l E yX9_countOf cX9_countOf 5 (some .int) 0 0 0 0 a u0 [.ref (a 9 0), .int x1, .int x2] (some (.int out)) u0 := by
  refine Ct.start (by decide) (Nat.le_of_ble_eq_true rfl) ?_
  intro p e s m args below meth c ls C hr hR hS hl
  have C : Cx E p s m args meth c cX9_countOf 5 RX9 := C
  have hl : lv_has ls 5 [(0, .ref (a 9 0)), (1, .int x1), (2, .int x2)] := hl
  have hx := C.1
  have hb := C.2.1
  unfold mX9_countOf at h
  refine lv_iconst (v := 0) hx hb dX9_countOf_0 (by decide) ?_
  refine lv_istore_n (lv' := [(3, .int 0), (0, .ref (a 9 0)), (1, .int x1), (2, .int x2)]) hx hb dX9_countOf_1 rfl hl (by decide) rfl (fun ls hl => ?_)
  refine lv_bipush (v := 24) hx hb dX9_countOf_2 (by decide) ?_
  refine lv_iload_n hx hb dX9_countOf_4 rfl (lv_at hl 2 rfl) ?_
  refine lv_imul hx hb dX9_countOf_5 ?_
  refine lv_topi (fun x101 ex101 => ?_)
  replace h := bd_x ex101 h
  refine lv_istore (lv' := [(4, .int x101), (3, .int 0), (0, .ref (a 9 0)), (1, .int x1), (2, .int x2)]) hx hb dX9_countOf_6 hl (by decide) rfl (fun ls hl => ?_)
  refine jp_cut h (fun w105 hw105 h => ?_)
  have Kw105 : ∀ (x104 : Int32) (H : Heap) (locs : List Loc) (ls : Array Slot), w105 x104 = some out → Rel E a u0 H → va_S (AE E) s.heap H locs → lv_has ls 5 [(3, .int x104)] → W p l e { frames := 0, cells := 0, slots := 0, locals := 0 } s m args below meth c H locs 0 0 (MQ below (QW E a (some (.int out)) u0) args s 0 0 (AE E)) (F0 m 51 ls []) := by
    intro x104 H locs ls h hR hS hl
    replace h := jx1 hw105 h
    refine lv_iload_n hx hb dX9_countOf_51 rfl (lv_at hl 0 rfl) ?_
    cases h
    exact e_iret C hr hR hS (Nat.le_of_ble_eq_true rfl) (Nat.le_of_ble_eq_true rfl) dX9_countOf_52
  have LP : ∀ (fu : Nat) (x102 : Int32) (x103 : Int32) (H : Heap) (locs : List Loc) (ls : Array Slot), mX9_countOf_L8 x1 u0 x2 w105 fu x102 x103 = some out → Rel E a u0 H → va_S (AE E) s.heap H locs → lv_has ls 5 [(0, .ref (a 9 0)), (1, .int x1), (2, .int x2), (3, .int x102), (4, .int x103)] → W p l e { frames := 0, cells := 0, slots := 0, locals := 0 } s m args below meth c H locs 0 0 (MQ below (QW E a (some (.int out)) u0) args s 0 0 (AE E)) (F0 m 8 ls []) := by
    intro fu
    induction fu with
    | zero =>
      intro x102 x103 H locs ls h
      have h2 : (none : Option Int32) = some out := h
      cases h2
    | succ fu ih =>
      intro x102 x103 H locs ls h hR hS hl
      rw [mX9_countOf_L8.eq_2] at h
      refine lv_iload hx hb dX9_countOf_8 (lv_at hl 4 rfl) ?_
      refine lv_bipush (v := 24) hx hb dX9_countOf_10 (by decide) ?_
      refine lv_iload_n hx hb dX9_countOf_12 rfl (lv_at hl 1 rfl) ?_
      refine lv_imul hx hb dX9_countOf_13 ?_
      refine lv_aload_n hx hb dX9_countOf_14 rfl (lv_at hl 0 rfl) ?_
      refine r_get C hR 9 0 18 (v := .ref (a 66 0)) (lv0 (by decide) (by decide)) (by decide) (by decide) rfl fl_X9_28 dX9_countOf_15 ?_
      refine lv_iload_n hx hb dX9_countOf_18 rfl (lv_at hl 1 rfl) ?_
      obtain ⟨k106, hk106, h⟩ := ob h
      refine r_ald C hR 66 0 (lv0 (by decide) (by decide)) (by decide) rfl (fun _ => rfl) rfl hk106 dX9_countOf_19 ?_
      refine lv_iadd hx hb dX9_countOf_20 ?_
      refine lv_icmp_ge (tgt := 51) hx hb dX9_countOf_21 (by decide) (fun c_107 => ?_) (fun c_107 => ?_)
      · rw [if_pos c_107] at h
        exact Kw105 _ _ _ _ h hR hS (lv_sub hl [3] rfl)
      · rw [if_neg c_107] at h
        refine lv_iload_n hx hb dX9_countOf_24 rfl (lv_at hl 3 rfl) ?_
        refine lv_aload_n hx hb dX9_countOf_25 rfl (lv_at hl 0 rfl) ?_
        refine r_get C hR 9 0 17 (v := .ref (a 64 0)) (lv0 (by decide) (by decide)) (by decide) (by decide) rfl fl_X9_25 dX9_countOf_26 ?_
        refine lv_iload hx hb dX9_countOf_29 (lv_at hl 4 rfl) ?_
        obtain ⟨k108, hk108, h⟩ := ob h
        have hLk108 : k108 < cntS 65 := by have q1 := (ck_in hk108).2.2; have q2 : cntS 65 = 144 := rfl; omega
        refine r_aald C hR 64 0 65 0 6 (lv0 (by decide) (by decide)) (by decide) rfl rfl rfl (fun _ => rfl) rfl hk108 dX9_countOf_31 ?_
        refine lv_iconst (v := 0) hx hb dX9_countOf_32 (by decide) ?_
        obtain ⟨k109, hk109, h⟩ := ob h
        refine r_ald C hR 65 k108 (lv0 hLk108 (by decide)) (by decide) rfl (fun _ => rfl) rfl hk109 dX9_countOf_33 ?_
        refine lv_iload_n hx hb dX9_countOf_34 rfl (lv_at hl 2 rfl) ?_
        obtain ⟨x110, hz, h⟩ := ob h
        have Kj111 : ∀ (H : Heap) (locs : List Loc) (ls : Array Slot), Rel E a u0 H → va_S (AE E) s.heap H locs → lv_has ls 5 [(0, .ref (a 9 0)), (1, .int x1), (2, .int x2), (4, .int x103)] → W p l e { frames := 0, cells := 0, slots := 0, locals := 0 } s m args below meth c H locs 0 0 (MQ below (QW E a (some (.int out)) u0) args s 0 0 (AE E)) (F0 m 43 ls [.int x110, .int x102]) := by
          intro H locs ls hR hS hl
          clear hz
          refine lv_iadd hx hb dX9_countOf_43 ?_
          refine lv_topi (fun x112 ex112 => ?_)
          replace h := bd_x ex112 h
          refine lv_istore_n (lv' := [(3, .int x112), (0, .ref (a 9 0)), (1, .int x1), (2, .int x2), (4, .int x103)]) hx hb dX9_countOf_44 rfl hl (by decide) rfl (fun ls hl => ?_)
          obtain ⟨x113, ex113⟩ : ∃ z : Int32, z = x103 + 1 := ⟨_, rfl⟩
          replace h := bd_x ex113 h
          refine lv_iinc (v := x113) (lv' := [(4, .int x113), (3, .int x112), (0, .ref (a 9 0)), (1, .int x1), (2, .int x2)]) hx hb dX9_countOf_45 hl (k := 4) rfl (by rw [ex113]; rfl) (by decide) rfl (fun ls hl => ?_)
          refine lv_goto (tgt := 8) hx hb dX9_countOf_48 (by decide) ?_
          exact ih _ _ _ _ _ h hR hS (lv_sub hl [2, 3, 4, 1, 0] rfl)
        clear h
        have h := hz
        clear hz
        refine lv_icmp_ne (tgt := 42) hx hb dX9_countOf_35 (by decide) (fun c_114 => ?_) (fun c_114 => ?_)
        · rw [if_neg c_114] at h
          refine lv_iconst (v := 0) hx hb dX9_countOf_42 (by decide) ?_
          cases h
          exact Kj111 _ _ _ hR hS (lv_sub hl [0, 1, 2, 4] rfl)
        · rw [if_pos c_114] at h
          refine lv_iconst (v := 1) hx hb dX9_countOf_38 (by decide) ?_
          refine lv_goto (tgt := 43) hx hb dX9_countOf_39 (by decide) ?_
          cases h
          exact Kj111 _ _ _ hR hS (lv_sub hl [0, 1, 2, 4] rfl)
  exact LP FU _ _ _ _ _ h hR hS (lv_sub hl [2, 3, 4, 1, 0] rfl)
set_option maxHeartbeats 4000000 in
set_option maxRecDepth 100000 in
theorem vX9_endOf {l : Launch} {E : EV} {a : Nat → Nat → Nat} {u0 : HS} {x1 : Int32} {out : Int32} (h : mX9_endOf u0 x1 = some out) : Ct l E yX9_endOf cX9_endOf 4 (some .int) 1 21 0 0 a u0 [.ref (a 9 0), .int x1] (some (.int out)) u0 := by
  refine Ct.start (by decide) (Nat.le_of_ble_eq_true rfl) ?_
  intro p e s m args below meth c ls C hr hR hS hl
  have C : Cx E p s m args meth c cX9_endOf 4 RX9 := C
  have hl : lv_has ls 4 [(0, .ref (a 9 0)), (1, .int x1)] := hl
  have hx := C.1
  have hb := C.2.1
  unfold mX9_endOf at h
  refine lv_iconst (v := 0) hx hb dX9_endOf_0 (by decide) ?_
  refine lv_istore_n (lv' := [(2, .int 0), (0, .ref (a 9 0)), (1, .int x1)]) hx hb dX9_endOf_1 rfl hl (by decide) rfl (fun ls hl => ?_)
  refine lv_bipush (v := 24) hx hb dX9_endOf_2 (by decide) ?_
  refine lv_iload_n hx hb dX9_endOf_4 rfl (lv_at hl 2 rfl) ?_
  refine lv_imul hx hb dX9_endOf_5 ?_
  refine lv_topi (fun x101 ex101 => ?_)
  replace h := bd_x ex101 h
  refine lv_istore_n (lv' := [(3, .int x101), (2, .int 0), (0, .ref (a 9 0)), (1, .int x1)]) hx hb dX9_endOf_6 rfl hl (by decide) rfl (fun ls hl => ?_)
  refine jp_cut h (fun w105 hw105 h => ?_)
  have Kw105 : ∀ (x104 : Int32) (H : Heap) (locs : List Loc) (ls : Array Slot), w105 x104 = some out → Rel E a u0 H → va_S (AE E) s.heap H locs → lv_has ls 4 [(2, .int x104)] → W p l e { frames := 1, cells := 0, slots := 0, locals := 21 } s m args below meth c H locs 0 0 (MQ below (QW E a (some (.int out)) u0) args s 0 0 (AE E)) (F0 m 57 ls []) := by
    intro x104 H locs ls h hR hS hl
    replace h := jx1 hw105 h
    refine lv_iload_n hx hb dX9_endOf_57 rfl (lv_at hl 0 rfl) ?_
    cases h
    exact e_iret C hr hR hS (Nat.le_of_ble_eq_true rfl) (Nat.le_of_ble_eq_true rfl) dX9_endOf_58
  have LP : ∀ (fu : Nat) (x102 : Int32) (x103 : Int32) (H : Heap) (locs : List Loc) (ls : Array Slot), mX9_endOf_L7 x1 u0 w105 fu x102 x103 = some out → Rel E a u0 H → va_S (AE E) s.heap H locs → lv_has ls 4 [(0, .ref (a 9 0)), (1, .int x1), (2, .int x102), (3, .int x103)] → W p l e { frames := 1, cells := 0, slots := 0, locals := 21 } s m args below meth c H locs 0 0 (MQ below (QW E a (some (.int out)) u0) args s 0 0 (AE E)) (F0 m 7 ls []) := by
    intro fu
    induction fu with
    | zero =>
      intro x102 x103 H locs ls h
      have h2 : (none : Option Int32) = some out := h
      cases h2
    | succ fu ih =>
      intro x102 x103 H locs ls h hR hS hl
      rw [mX9_endOf_L7.eq_2] at h
      refine lv_iload_n hx hb dX9_endOf_7 rfl (lv_at hl 3 rfl) ?_
      refine lv_bipush (v := 24) hx hb dX9_endOf_8 (by decide) ?_
      refine lv_iload_n hx hb dX9_endOf_10 rfl (lv_at hl 1 rfl) ?_
      refine lv_imul hx hb dX9_endOf_11 ?_
      refine lv_aload_n hx hb dX9_endOf_12 rfl (lv_at hl 0 rfl) ?_
      refine r_get C hR 9 0 18 (v := .ref (a 66 0)) (lv0 (by decide) (by decide)) (by decide) (by decide) rfl fl_X9_28 dX9_endOf_13 ?_
      refine lv_iload_n hx hb dX9_endOf_16 rfl (lv_at hl 1 rfl) ?_
      obtain ⟨k106, hk106, h⟩ := ob h
      refine r_ald C hR 66 0 (lv0 (by decide) (by decide)) (by decide) rfl (fun _ => rfl) rfl hk106 dX9_endOf_17 ?_
      refine lv_iadd hx hb dX9_endOf_18 ?_
      refine lv_icmp_ge (tgt := 57) hx hb dX9_endOf_19 (by decide) (fun c_107 => ?_) (fun c_107 => ?_)
      · rw [if_pos c_107] at h
        exact Kw105 _ _ _ _ h hR hS (lv_sub hl [2] rfl)
      · rw [if_neg c_107] at h
        refine lv_aload_n hx hb dX9_endOf_22 rfl (lv_at hl 0 rfl) ?_
        refine r_get C hR 9 0 17 (v := .ref (a 64 0)) (lv0 (by decide) (by decide)) (by decide) (by decide) rfl fl_X9_25 dX9_endOf_23 ?_
        refine lv_iload_n hx hb dX9_endOf_26 rfl (lv_at hl 3 rfl) ?_
        obtain ⟨k108, hk108, h⟩ := ob h
        have hLk108 : k108 < cntS 65 := by have q1 := (ck_in hk108).2.2; have q2 : cntS 65 = 144 := rfl; omega
        refine r_aald C hR 64 0 65 0 6 (lv0 (by decide) (by decide)) (by decide) rfl rfl rfl (fun _ => rfl) rfl hk108 dX9_endOf_27 ?_
        refine lv_iconst (v := 0) hx hb dX9_endOf_28 (by decide) ?_
        obtain ⟨k109, hk109, h⟩ := ob h
        refine r_ald C hR 65 k108 (lv0 hLk108 (by decide)) (by decide) rfl (fun _ => rfl) rfl hk109 dX9_endOf_29 ?_
        refine lv_iconst (v := 1) hx hb dX9_endOf_30 (by decide) ?_
        obtain ⟨x110, hz, h⟩ := ob h
        have Kj111 : ∀ (H : Heap) (locs : List Loc) (ls : Array Slot), Rel E a u0 H → va_S (AE E) s.heap H locs → lv_has ls 4 [(0, .ref (a 9 0)), (1, .int x1), (3, .int x103)] → W p l e { frames := 1, cells := 0, slots := 0, locals := 21 } s m args below meth c H locs 0 0 (MQ below (QW E a (some (.int out)) u0) args s 0 0 (AE E)) (F0 m 50 ls [.int x110]) := by
          intro H locs ls hR hS hl
          clear hz
          refine lv_istore_n (lv' := [(2, .int x110), (0, .ref (a 9 0)), (1, .int x1), (3, .int x103)]) hx hb dX9_endOf_50 rfl hl (by decide) rfl (fun ls hl => ?_)
          obtain ⟨x112, ex112⟩ : ∃ z : Int32, z = x103 + 1 := ⟨_, rfl⟩
          replace h := bd_x ex112 h
          refine lv_iinc (v := x112) (lv' := [(3, .int x112), (2, .int x110), (0, .ref (a 9 0)), (1, .int x1)]) hx hb dX9_endOf_51 hl (k := 3) rfl (by rw [ex112]; rfl) (by decide) rfl (fun ls hl => ?_)
          refine lv_goto (tgt := 7) hx hb dX9_endOf_54 (by decide) ?_
          exact ih _ _ _ _ _ h hR hS (lv_sub hl [2, 3, 1, 0] rfl)
        clear h
        have h := hz
        clear hz
        refine lv_icmp_ne (tgt := 49) hx hb dX9_endOf_31 (by decide) (fun c_113 => ?_) (fun c_113 => ?_)
        · rw [if_neg c_113] at h
          refine lv_iload_n hx hb dX9_endOf_49 rfl (lv_at hl 2 rfl) ?_
          cases h
          exact Kj111 _ _ _ hR hS (lv_sub hl [0, 1, 3] rfl)
        · rw [if_pos c_113] at h
          refine lv_iload_n hx hb dX9_endOf_34 rfl (lv_at hl 2 rfl) ?_
          refine lv_aload_n hx hb dX9_endOf_35 rfl (lv_at hl 0 rfl) ?_
          refine r_get C hR 9 0 17 (v := .ref (a 64 0)) (lv0 (by decide) (by decide)) (by decide) (by decide) rfl fl_X9_25 dX9_endOf_36 ?_
          refine lv_iload_n hx hb dX9_endOf_39 rfl (lv_at hl 3 rfl) ?_
          obtain ⟨k114, hk114, h⟩ := ob h
          have hLk114 : k114 < cntS 65 := by have q1 := (ck_in hk114).2.2; have q2 : cntS 65 = 144 := rfl; omega
          refine r_aald C hR 64 0 65 0 6 (lv0 (by decide) (by decide)) (by decide) rfl rfl rfl (fun _ => rfl) rfl hk114 dX9_endOf_40 ?_
          refine lv_iconst (v := 5) hx hb dX9_endOf_41 (by decide) ?_
          obtain ⟨k115, hk115, h⟩ := ob h
          refine r_ald C hR 65 k114 (lv0 hLk114 (by decide)) (by decide) rfl (fun _ => rfl) rfl hk115 dX9_endOf_42 ?_
          obtain ⟨x117, hc116, h⟩ := ob h
          refine r_callS1 (As := [.int x102, .int (gI u0 65 k114 k115)]) (rest := []) C (vX9_more hc116) hR hS ml_X9_251 ms_X9_more rfl ⟨Nat.le_of_ble_eq_true rfl, Nat.le_of_ble_eq_true rfl, Nat.le_of_ble_eq_true rfl, Nat.le_of_ble_eq_true rfl⟩ hl.1 rfl (Nat.le_of_ble_eq_true rfl) dX9_endOf_43 (fun H locs hR hS => ?_)
          refine lv_goto (tgt := 50) hx hb dX9_endOf_46 (by decide) ?_
          cases h
          exact Kj111 _ _ _ hR hS (lv_sub hl [0, 1, 3] rfl)
  exact LP FU _ _ _ _ _ h hR hS (lv_sub hl [2, 3, 1, 0] rfl)
set_option maxHeartbeats 4000000 in
set_option maxRecDepth 100000 in
theorem vX9_oddOf {l : Launch} {E : EV} {a : Nat → Nat → Nat} {u0 : HS} {x1 : Int32} {out : Int32} (h : mX9_oddOf u0 x1 = some out) : Ct l E yX9_oddOf cX9_oddOf 4 (some .int) 0 0 0 0 a u0 [.ref (a 9 0), .int x1] (some (.int out)) u0 := by
  refine Ct.start (by decide) (Nat.le_of_ble_eq_true rfl) ?_
  intro p e s m args below meth c ls C hr hR hS hl
  have C : Cx E p s m args meth c cX9_oddOf 4 RX9 := C
  have hl : lv_has ls 4 [(0, .ref (a 9 0)), (1, .int x1)] := hl
  have hx := C.1
  have hb := C.2.1
  unfold mX9_oddOf at h
  refine lv_iconst (v := (-1)) hx hb dX9_oddOf_0 (by decide) ?_
  refine lv_istore_n (lv' := [(2, .int (-1)), (0, .ref (a 9 0)), (1, .int x1)]) hx hb dX9_oddOf_1 rfl hl (by decide) rfl (fun ls hl => ?_)
  refine lv_bipush (v := 24) hx hb dX9_oddOf_2 (by decide) ?_
  refine lv_iload_n hx hb dX9_oddOf_4 rfl (lv_at hl 2 rfl) ?_
  refine lv_imul hx hb dX9_oddOf_5 ?_
  refine lv_topi (fun x101 ex101 => ?_)
  replace h := bd_x ex101 h
  refine lv_istore_n (lv' := [(3, .int x101), (2, .int (-1)), (0, .ref (a 9 0)), (1, .int x1)]) hx hb dX9_oddOf_6 rfl hl (by decide) rfl (fun ls hl => ?_)
  refine jp_cut h (fun w105 hw105 h => ?_)
  have Kw105 : ∀ (x104 : Int32) (H : Heap) (locs : List Loc) (ls : Array Slot), w105 x104 = some out → Rel E a u0 H → va_S (AE E) s.heap H locs → lv_has ls 4 [(2, .int x104)] → W p l e { frames := 0, cells := 0, slots := 0, locals := 0 } s m args below meth c H locs 0 0 (MQ below (QW E a (some (.int out)) u0) args s 0 0 (AE E)) (F0 m 53 ls []) := by
    intro x104 H locs ls h hR hS hl
    replace h := jx1 hw105 h
    refine lv_iload_n hx hb dX9_oddOf_53 rfl (lv_at hl 0 rfl) ?_
    cases h
    exact e_iret C hr hR hS (Nat.le_of_ble_eq_true rfl) (Nat.le_of_ble_eq_true rfl) dX9_oddOf_54
  have LP : ∀ (fu : Nat) (x102 : Int32) (x103 : Int32) (H : Heap) (locs : List Loc) (ls : Array Slot), mX9_oddOf_L7 x1 u0 w105 fu x102 x103 = some out → Rel E a u0 H → va_S (AE E) s.heap H locs → lv_has ls 4 [(0, .ref (a 9 0)), (1, .int x1), (2, .int x102), (3, .int x103)] → W p l e { frames := 0, cells := 0, slots := 0, locals := 0 } s m args below meth c H locs 0 0 (MQ below (QW E a (some (.int out)) u0) args s 0 0 (AE E)) (F0 m 7 ls []) := by
    intro fu
    induction fu with
    | zero =>
      intro x102 x103 H locs ls h
      have h2 : (none : Option Int32) = some out := h
      cases h2
    | succ fu ih =>
      intro x102 x103 H locs ls h hR hS hl
      rw [mX9_oddOf_L7.eq_2] at h
      refine lv_iload_n hx hb dX9_oddOf_7 rfl (lv_at hl 3 rfl) ?_
      refine lv_bipush (v := 24) hx hb dX9_oddOf_8 (by decide) ?_
      refine lv_iload_n hx hb dX9_oddOf_10 rfl (lv_at hl 1 rfl) ?_
      refine lv_imul hx hb dX9_oddOf_11 ?_
      refine lv_aload_n hx hb dX9_oddOf_12 rfl (lv_at hl 0 rfl) ?_
      refine r_get C hR 9 0 18 (v := .ref (a 66 0)) (lv0 (by decide) (by decide)) (by decide) (by decide) rfl fl_X9_28 dX9_oddOf_13 ?_
      refine lv_iload_n hx hb dX9_oddOf_16 rfl (lv_at hl 1 rfl) ?_
      obtain ⟨k106, hk106, h⟩ := ob h
      refine r_ald C hR 66 0 (lv0 (by decide) (by decide)) (by decide) rfl (fun _ => rfl) rfl hk106 dX9_oddOf_17 ?_
      refine lv_iadd hx hb dX9_oddOf_18 ?_
      refine lv_icmp_ge (tgt := 53) hx hb dX9_oddOf_19 (by decide) (fun c_107 => ?_) (fun c_107 => ?_)
      · rw [if_pos c_107] at h
        exact Kw105 _ _ _ _ h hR hS (lv_sub hl [2] rfl)
      · rw [if_neg c_107] at h
        refine lv_aload_n hx hb dX9_oddOf_22 rfl (lv_at hl 0 rfl) ?_
        refine r_get C hR 9 0 17 (v := .ref (a 64 0)) (lv0 (by decide) (by decide)) (by decide) (by decide) rfl fl_X9_25 dX9_oddOf_23 ?_
        refine lv_iload_n hx hb dX9_oddOf_26 rfl (lv_at hl 3 rfl) ?_
        obtain ⟨k108, hk108, h⟩ := ob h
        have hLk108 : k108 < cntS 65 := by have q1 := (ck_in hk108).2.2; have q2 : cntS 65 = 144 := rfl; omega
        refine r_aald C hR 64 0 65 0 6 (lv0 (by decide) (by decide)) (by decide) rfl rfl rfl (fun _ => rfl) rfl hk108 dX9_oddOf_27 ?_
        refine lv_iconst (v := 0) hx hb dX9_oddOf_28 (by decide) ?_
        obtain ⟨k109, hk109, h⟩ := ob h
        refine r_ald C hR 65 k108 (lv0 hLk108 (by decide)) (by decide) rfl (fun _ => rfl) rfl hk109 dX9_oddOf_29 ?_
        refine lv_iconst (v := 3) hx hb dX9_oddOf_30 (by decide) ?_
        obtain ⟨x110, hz, h⟩ := ob h
        have Kj111 : ∀ (H : Heap) (locs : List Loc) (ls : Array Slot), Rel E a u0 H → va_S (AE E) s.heap H locs → lv_has ls 4 [(0, .ref (a 9 0)), (1, .int x1), (3, .int x103)] → W p l e { frames := 0, cells := 0, slots := 0, locals := 0 } s m args below meth c H locs 0 0 (MQ below (QW E a (some (.int out)) u0) args s 0 0 (AE E)) (F0 m 46 ls [.int x110]) := by
          intro H locs ls hR hS hl
          clear hz
          refine lv_istore_n (lv' := [(2, .int x110), (0, .ref (a 9 0)), (1, .int x1), (3, .int x103)]) hx hb dX9_oddOf_46 rfl hl (by decide) rfl (fun ls hl => ?_)
          obtain ⟨x112, ex112⟩ : ∃ z : Int32, z = x103 + 1 := ⟨_, rfl⟩
          replace h := bd_x ex112 h
          refine lv_iinc (v := x112) (lv' := [(3, .int x112), (2, .int x110), (0, .ref (a 9 0)), (1, .int x1)]) hx hb dX9_oddOf_47 hl (k := 3) rfl (by rw [ex112]; rfl) (by decide) rfl (fun ls hl => ?_)
          refine lv_goto (tgt := 7) hx hb dX9_oddOf_50 (by decide) ?_
          exact ih _ _ _ _ _ h hR hS (lv_sub hl [2, 3, 1, 0] rfl)
        clear h
        have h := hz
        clear hz
        refine lv_icmp_ne (tgt := 45) hx hb dX9_oddOf_31 (by decide) (fun c_113 => ?_) (fun c_113 => ?_)
        · rw [if_neg c_113] at h
          refine lv_iload_n hx hb dX9_oddOf_45 rfl (lv_at hl 2 rfl) ?_
          cases h
          exact Kj111 _ _ _ hR hS (lv_sub hl [0, 1, 3] rfl)
        · rw [if_pos c_113] at h
          refine lv_aload_n hx hb dX9_oddOf_34 rfl (lv_at hl 0 rfl) ?_
          refine r_get C hR 9 0 17 (v := .ref (a 64 0)) (lv0 (by decide) (by decide)) (by decide) (by decide) rfl fl_X9_25 dX9_oddOf_35 ?_
          refine lv_iload_n hx hb dX9_oddOf_38 rfl (lv_at hl 3 rfl) ?_
          obtain ⟨k114, hk114, h⟩ := ob h
          have hLk114 : k114 < cntS 65 := by have q1 := (ck_in hk114).2.2; have q2 : cntS 65 = 144 := rfl; omega
          refine r_aald C hR 64 0 65 0 6 (lv0 (by decide) (by decide)) (by decide) rfl rfl rfl (fun _ => rfl) rfl hk114 dX9_oddOf_39 ?_
          refine lv_iconst (v := 1) hx hb dX9_oddOf_40 (by decide) ?_
          obtain ⟨k115, hk115, h⟩ := ob h
          refine r_ald C hR 65 k114 (lv0 hLk114 (by decide)) (by decide) rfl (fun _ => rfl) rfl hk115 dX9_oddOf_41 ?_
          refine lv_goto (tgt := 46) hx hb dX9_oddOf_42 (by decide) ?_
          cases h
          exact Kj111 _ _ _ hR hS (lv_sub hl [0, 1, 3] rfl)
  exact LP FU _ _ _ _ _ h hR hS (lv_sub hl [2, 3, 1, 0] rfl)
set_option maxHeartbeats 4000000 in
set_option maxRecDepth 100000 in
theorem vX9_turnsOf {l : Launch} {E : EV} {a : Nat → Nat → Nat} {u0 : HS} {x1 : Int32} {out : Int32} (h : mX9_turnsOf u0 x1 = some out) : Ct l E yX9_turnsOf cX9_turnsOf 3 (some .int) 0 0 0 0 a u0 [.ref (a 9 0), .int x1] (some (.int out)) u0 := by
  refine Ct.start (by decide) (Nat.le_of_ble_eq_true rfl) ?_
  intro p e s m args below meth c ls C hr hR hS hl
  have C : Cx E p s m args meth c cX9_turnsOf 3 RX9 := C
  have hl : lv_has ls 3 [(0, .ref (a 9 0)), (1, .int x1)] := hl
  have hx := C.1
  have hb := C.2.1
  unfold mX9_turnsOf at h
  refine lv_bipush (v := 24) hx hb dX9_turnsOf_0 (by decide) ?_
  refine lv_iload_n hx hb dX9_turnsOf_2 rfl (lv_at hl 1 rfl) ?_
  refine lv_imul hx hb dX9_turnsOf_3 ?_
  refine lv_topi (fun x101 ex101 => ?_)
  replace h := bd_x ex101 h
  refine lv_istore_n (lv' := [(2, .int x101), (0, .ref (a 9 0)), (1, .int x1)]) hx hb dX9_turnsOf_4 rfl hl (by decide) rfl (fun ls hl => ?_)
  refine jp_cut h (fun w103 hw103 h => ?_)
  have Kw103 : ∀  (H : Heap) (locs : List Loc) (ls : Array Slot), w103 = some out → Rel E a u0 H → va_S (AE E) s.heap H locs → lv_has ls 3 [] → W p l e { frames := 0, cells := 0, slots := 0, locals := 0 } s m args below meth c H locs 0 0 (MQ below (QW E a (some (.int out)) u0) args s 0 0 (AE E)) (F0 m 47 ls []) := by
    intro  H locs ls h hR hS hl
    replace h := jx0 hw103 h
    refine lv_iconst (v := (-1)) hx hb dX9_turnsOf_47 (by decide) ?_
    cases h
    exact e_iret C hr hR hS (Nat.le_of_ble_eq_true rfl) (Nat.le_of_ble_eq_true rfl) dX9_turnsOf_48
  have LP : ∀ (fu : Nat) (x102 : Int32) (H : Heap) (locs : List Loc) (ls : Array Slot), mX9_turnsOf_L5 x1 u0 w103 fu x102 = some out → Rel E a u0 H → va_S (AE E) s.heap H locs → lv_has ls 3 [(0, .ref (a 9 0)), (1, .int x1), (2, .int x102)] → W p l e { frames := 0, cells := 0, slots := 0, locals := 0 } s m args below meth c H locs 0 0 (MQ below (QW E a (some (.int out)) u0) args s 0 0 (AE E)) (F0 m 5 ls []) := by
    intro fu
    induction fu with
    | zero =>
      intro x102 H locs ls h
      have h2 : (none : Option Int32) = some out := h
      cases h2
    | succ fu ih =>
      intro x102 H locs ls h hR hS hl
      rw [mX9_turnsOf_L5.eq_2] at h
      refine lv_iload_n hx hb dX9_turnsOf_5 rfl (lv_at hl 2 rfl) ?_
      refine lv_bipush (v := 24) hx hb dX9_turnsOf_6 (by decide) ?_
      refine lv_iload_n hx hb dX9_turnsOf_8 rfl (lv_at hl 1 rfl) ?_
      refine lv_imul hx hb dX9_turnsOf_9 ?_
      refine lv_aload_n hx hb dX9_turnsOf_10 rfl (lv_at hl 0 rfl) ?_
      refine r_get C hR 9 0 18 (v := .ref (a 66 0)) (lv0 (by decide) (by decide)) (by decide) (by decide) rfl fl_X9_28 dX9_turnsOf_11 ?_
      refine lv_iload_n hx hb dX9_turnsOf_14 rfl (lv_at hl 1 rfl) ?_
      obtain ⟨k104, hk104, h⟩ := ob h
      refine r_ald C hR 66 0 (lv0 (by decide) (by decide)) (by decide) rfl (fun _ => rfl) rfl hk104 dX9_turnsOf_15 ?_
      refine lv_iadd hx hb dX9_turnsOf_16 ?_
      refine lv_icmp_ge (tgt := 47) hx hb dX9_turnsOf_17 (by decide) (fun c_105 => ?_) (fun c_105 => ?_)
      · rw [if_pos c_105] at h
        exact Kw103  _ _ _ h hR hS (lv_sub hl [] rfl)
      · rw [if_neg c_105] at h
        refine lv_aload_n hx hb dX9_turnsOf_20 rfl (lv_at hl 0 rfl) ?_
        refine r_get C hR 9 0 17 (v := .ref (a 64 0)) (lv0 (by decide) (by decide)) (by decide) (by decide) rfl fl_X9_25 dX9_turnsOf_21 ?_
        refine lv_iload_n hx hb dX9_turnsOf_24 rfl (lv_at hl 2 rfl) ?_
        obtain ⟨k106, hk106, h⟩ := ob h
        have hLk106 : k106 < cntS 65 := by have q1 := (ck_in hk106).2.2; have q2 : cntS 65 = 144 := rfl; omega
        refine r_aald C hR 64 0 65 0 6 (lv0 (by decide) (by decide)) (by decide) rfl rfl rfl (fun _ => rfl) rfl hk106 dX9_turnsOf_25 ?_
        refine lv_iconst (v := 0) hx hb dX9_turnsOf_26 (by decide) ?_
        obtain ⟨k107, hk107, h⟩ := ob h
        refine r_ald C hR 65 k106 (lv0 hLk106 (by decide)) (by decide) rfl (fun _ => rfl) rfl hk107 dX9_turnsOf_27 ?_
        refine lv_iconst (v := 4) hx hb dX9_turnsOf_28 (by decide) ?_
        refine lv_icmp_ne (tgt := 41) hx hb dX9_turnsOf_29 (by decide) (fun c_108 => ?_) (fun c_108 => ?_)
        · rw [if_neg c_108] at h
          obtain ⟨x109, ex109⟩ : ∃ z : Int32, z = x102 + 1 := ⟨_, rfl⟩
          replace h := bd_x ex109 h
          refine lv_iinc (v := x109) (lv' := [(2, .int x109), (0, .ref (a 9 0)), (1, .int x1)]) hx hb dX9_turnsOf_41 hl (k := 2) rfl (by rw [ex109]; rfl) (by decide) rfl (fun ls hl => ?_)
          refine lv_goto (tgt := 5) hx hb dX9_turnsOf_44 (by decide) ?_
          exact ih _ _ _ _ h hR hS (lv_sub hl [1, 2, 0] rfl)
        · rw [if_pos c_108] at h
          refine lv_aload_n hx hb dX9_turnsOf_32 rfl (lv_at hl 0 rfl) ?_
          refine r_get C hR 9 0 17 (v := .ref (a 64 0)) (lv0 (by decide) (by decide)) (by decide) (by decide) rfl fl_X9_25 dX9_turnsOf_33 ?_
          refine lv_iload_n hx hb dX9_turnsOf_36 rfl (lv_at hl 2 rfl) ?_
          obtain ⟨k110, hk110, h⟩ := ob h
          have hLk110 : k110 < cntS 65 := by have q1 := (ck_in hk110).2.2; have q2 : cntS 65 = 144 := rfl; omega
          refine r_aald C hR 64 0 65 0 6 (lv0 (by decide) (by decide)) (by decide) rfl rfl rfl (fun _ => rfl) rfl hk110 dX9_turnsOf_37 ?_
          refine lv_iconst (v := 1) hx hb dX9_turnsOf_38 (by decide) ?_
          obtain ⟨k111, hk111, h⟩ := ob h
          refine r_ald C hR 65 k110 (lv0 hLk110 (by decide)) (by decide) rfl (fun _ => rfl) rfl hk111 dX9_turnsOf_39 ?_
          cases h
          exact e_iret C hr hR hS (Nat.le_of_ble_eq_true rfl) (Nat.le_of_ble_eq_true rfl) dX9_turnsOf_40
  exact LP FU _ _ _ _ h hR hS (lv_sub hl [1, 2, 0] rfl)
set_option maxHeartbeats 4000000 in
set_option maxRecDepth 100000 in
theorem vX9_told {l : Launch} {E : EV} {a : Nat → Nat → Nat} {u0 : HS} {x1 : Int32} {x2 : Int32} {out : (Int32 × HS)} (h : mX9_told u0 x1 x2 = some out) : Ct l E yX9_told cX9_told 3 (some .int) 2 44 0 0 a u0 [.ref (a 9 0), .int x1, .int x2] (some (.int out.1)) out.2 := by
  refine Ct.start (by decide) (Nat.le_of_ble_eq_true rfl) ?_
  intro p e s m args below meth c ls C hr hR hS hl
  have C : Cx E p s m args meth c cX9_told 3 RX9 := C
  have hl : lv_has ls 3 [(0, .ref (a 9 0)), (1, .int x1), (2, .int x2)] := hl
  have hx := C.1
  have hb := C.2.1
  unfold mX9_told at h
  refine lv_aload_n hx hb dX9_told_0 rfl (lv_at hl 0 rfl) ?_
  refine lv_iconst (v := 0) hx hb dX9_told_1 (by decide) ?_
  refine r_putI (ty := .int) C hR hS 9 0 0 (lv0 (by decide) (by decide)) (by decide) (by decide) (fun _ => rfl) fl_X9_76 (by decide) (by decide +kernel) rfl rfl dX9_told_2 (fun H locs hR hS => ?_)
  obtain ⟨u101, eu101⟩ : ∃ z : HS, z = wI u0 9 0 0 0 := ⟨_, rfl⟩
  rw [← eu101] at hR
  replace h := bd_x eu101 h
  clear eu101
  refine lv_aload_n hx hb dX9_told_5 rfl (lv_at hl 0 rfl) ?_
  refine lv_aload_n hx hb dX9_told_6 rfl (lv_at hl 0 rfl) ?_
  refine lv_iload_n hx hb dX9_told_7 rfl (lv_at hl 1 rfl) ?_
  obtain ⟨x103, hc102, h⟩ := ob h
  refine r_callV1 (As := [.int x1]) (rest := [.ref (a 9 0)]) (r := 9) (i := 0) C (vX9_isScene hc102) hR hS (lv0 (by decide) (by decide)) (by decide) ml_X9_254 mw_X9_isScene rfl ⟨Nat.le_of_ble_eq_true rfl, Nat.le_of_ble_eq_true rfl, Nat.le_of_ble_eq_true rfl, Nat.le_of_ble_eq_true rfl⟩ hl.1 rfl (Nat.le_of_ble_eq_true rfl) dX9_told_8 (fun H locs hR hS => ?_)
  obtain ⟨x104, hz, h⟩ := ob h
  have Kj105 : ∀ (H : Heap) (locs : List Loc) (ls : Array Slot), Rel E a u101 H → va_S (AE E) s.heap H locs → lv_has ls 3 [(0, .ref (a 9 0)), (1, .int x1), (2, .int x2)] → W p l e { frames := 2, cells := 0, slots := 0, locals := 44 } s m args below meth c H locs 0 0 (MQ below (QW E a (some (.int out.1)) out.2) args s 0 0 (AE E)) (F0 m 19 ls [.int x104, .ref (a 9 0)]) := by
    intro H locs ls hR hS hl
    clear hz
    refine lv_iconst (v := 1) hx hb dX9_told_19 (by decide) ?_
    obtain ⟨⟨x107, u108⟩, hc106, h⟩ := ob h
    replace h := bd_x (x := x107) rfl h
    replace h := bd_x (x := u108) rfl h
    refine r_callV1 (As := [.int x104, .int 1]) (rest := []) (r := 9) (i := 0) C (vX9_bad hc106) hR hS (lv0 (by decide) (by decide)) (by decide) ml_X9_162 mw_X9_bad rfl ⟨Nat.le_of_ble_eq_true rfl, Nat.le_of_ble_eq_true rfl, Nat.le_of_ble_eq_true rfl, Nat.le_of_ble_eq_true rfl⟩ hl.1 rfl (Nat.le_of_ble_eq_true rfl) dX9_told_20 (fun H locs hR hS => ?_)
    refine lv_if_ne (tgt := 48) hx hb dX9_told_23 (by decide) (fun c_109 => ?_) (fun c_109 => ?_)
    · rw [if_neg c_109] at h
      refine lv_iconst (v := 0) hx hb dX9_told_48 (by decide) ?_
      cases h
      exact e_iret C hr hR hS (Nat.le_of_ble_eq_true rfl) (Nat.le_of_ble_eq_true rfl) dX9_told_49
    · rw [if_pos c_109] at h
      refine lv_aload_n hx hb dX9_told_26 rfl (lv_at hl 0 rfl) ?_
      refine lv_iload_n hx hb dX9_told_27 rfl (lv_at hl 2 rfl) ?_
      refine lv_iconst (v := 0) hx hb dX9_told_28 (by decide) ?_
      refine lv_iconst (v := 5) hx hb dX9_told_29 (by decide) ?_
      obtain ⟨x111, hc110, h⟩ := ob h
      refine r_callS1 (As := [.int x2, .int 0, .int 5]) (rest := [.ref (a 9 0)]) C (vX9_in hc110) hR hS ml_X9_113 ms_X9_in rfl ⟨Nat.le_of_ble_eq_true rfl, Nat.le_of_ble_eq_true rfl, Nat.le_of_ble_eq_true rfl, Nat.le_of_ble_eq_true rfl⟩ hl.1 rfl (Nat.le_of_ble_eq_true rfl) dX9_told_30 (fun H locs hR hS => ?_)
      obtain ⟨x112, hz, h⟩ := ob h
      have Kj113 : ∀ (H : Heap) (locs : List Loc) (ls : Array Slot), Rel E a u108 H → va_S (AE E) s.heap H locs → lv_has ls 3 [(0, .ref (a 9 0)), (1, .int x1), (2, .int x2)] → W p l e { frames := 2, cells := 0, slots := 0, locals := 44 } s m args below meth c H locs 0 0 (MQ below (QW E a (some (.int out.1)) out.2) args s 0 0 (AE E)) (F0 m 41 ls [.int x112, .ref (a 9 0)]) := by
        intro H locs ls hR hS hl
        clear hz
        refine lv_iconst (v := 2) hx hb dX9_told_41 (by decide) ?_
        obtain ⟨⟨x115, u116⟩, hc114, h⟩ := ob h
        replace h := bd_x (x := x115) rfl h
        replace h := bd_x (x := u116) rfl h
        refine r_callV1 (As := [.int x112, .int 2]) (rest := []) (r := 9) (i := 0) C (vX9_bad hc114) hR hS (lv0 (by decide) (by decide)) (by decide) ml_X9_162 mw_X9_bad rfl ⟨Nat.le_of_ble_eq_true rfl, Nat.le_of_ble_eq_true rfl, Nat.le_of_ble_eq_true rfl, Nat.le_of_ble_eq_true rfl⟩ hl.1 rfl (Nat.le_of_ble_eq_true rfl) dX9_told_42 (fun H locs hR hS => ?_)
        refine lv_if_eq (tgt := 50) hx hb dX9_told_45 (by decide) (fun c_117 => ?_) (fun c_117 => ?_)
        · rw [if_pos c_117] at h
          refine lv_iload_n hx hb dX9_told_50 rfl (lv_at hl 2 rfl) ?_
          refine lv_if_ne (tgt := 63) hx hb dX9_told_51 (by decide) (fun c_118 => ?_) (fun c_118 => ?_)
          · rw [if_neg c_118] at h
            refine lv_iload_n hx hb dX9_told_63 rfl (lv_at hl 2 rfl) ?_
            refine lv_iconst (v := 3) hx hb dX9_told_64 (by decide) ?_
            refine lv_icmp_ge (tgt := 77) hx hb dX9_told_65 (by decide) (fun c_119 => ?_) (fun c_119 => ?_)
            · rw [if_pos c_119] at h
              refine lv_iload_n hx hb dX9_told_77 rfl (lv_at hl 2 rfl) ?_
              refine lv_iconst (v := 3) hx hb dX9_told_78 (by decide) ?_
              refine lv_icmp_ne (tgt := 90) hx hb dX9_told_79 (by decide) (fun c_120 => ?_) (fun c_120 => ?_)
              · rw [if_neg c_120] at h
                refine lv_iload_n hx hb dX9_told_90 rfl (lv_at hl 2 rfl) ?_
                refine lv_iconst (v := 4) hx hb dX9_told_91 (by decide) ?_
                refine lv_icmp_ne (tgt := 103) hx hb dX9_told_92 (by decide) (fun c_121 => ?_) (fun c_121 => ?_)
                · rw [if_neg c_121] at h
                  refine lv_aload_n hx hb dX9_told_103 rfl (lv_at hl 0 rfl) ?_
                  refine lv_iload_n hx hb dX9_told_104 rfl (lv_at hl 1 rfl) ?_
                  obtain ⟨x123, hc122, h⟩ := ob h
                  refine r_callV1 (As := [.int x1]) (rest := []) (r := 9) (i := 0) C (vX9_turnsOf hc122) hR hS (lv0 (by decide) (by decide)) (by decide) ml_X9_266 mw_X9_turnsOf rfl ⟨Nat.le_of_ble_eq_true rfl, Nat.le_of_ble_eq_true rfl, Nat.le_of_ble_eq_true rfl, Nat.le_of_ble_eq_true rfl⟩ hl.1 rfl (Nat.le_of_ble_eq_true rfl) dX9_told_105 (fun H locs hR hS => ?_)
                  cases h
                  exact e_iret C hr hR hS (Nat.le_of_ble_eq_true rfl) (Nat.le_of_ble_eq_true rfl) dX9_told_108
                · rw [if_pos c_121] at h
                  refine lv_aload_n hx hb dX9_told_95 rfl (lv_at hl 0 rfl) ?_
                  refine lv_iload_n hx hb dX9_told_96 rfl (lv_at hl 1 rfl) ?_
                  obtain ⟨x125, hc124, h⟩ := ob h
                  refine r_callV1 (As := [.int x1]) (rest := []) (r := 9) (i := 0) C (vX9_oddOf hc124) hR hS (lv0 (by decide) (by decide)) (by decide) ml_X9_263 mw_X9_oddOf rfl ⟨Nat.le_of_ble_eq_true rfl, Nat.le_of_ble_eq_true rfl, Nat.le_of_ble_eq_true rfl, Nat.le_of_ble_eq_true rfl⟩ hl.1 rfl (Nat.le_of_ble_eq_true rfl) dX9_told_97 (fun H locs hR hS => ?_)
                  refine lv_goto (tgt := 108) hx hb dX9_told_100 (by decide) ?_
                  cases h
                  exact e_iret C hr hR hS (Nat.le_of_ble_eq_true rfl) (Nat.le_of_ble_eq_true rfl) dX9_told_108
              · rw [if_pos c_120] at h
                refine lv_aload_n hx hb dX9_told_82 rfl (lv_at hl 0 rfl) ?_
                refine lv_iload_n hx hb dX9_told_83 rfl (lv_at hl 1 rfl) ?_
                obtain ⟨x127, hc126, h⟩ := ob h
                refine r_callV1 (As := [.int x1]) (rest := []) (r := 9) (i := 0) C (vX9_endOf hc126) hR hS (lv0 (by decide) (by decide)) (by decide) ml_X9_260 mw_X9_endOf rfl ⟨Nat.le_of_ble_eq_true rfl, Nat.le_of_ble_eq_true rfl, Nat.le_of_ble_eq_true rfl, Nat.le_of_ble_eq_true rfl⟩ hl.1 rfl (Nat.le_of_ble_eq_true rfl) dX9_told_84 (fun H locs hR hS => ?_)
                refine lv_goto (tgt := 108) hx hb dX9_told_87 (by decide) ?_
                cases h
                exact e_iret C hr hR hS (Nat.le_of_ble_eq_true rfl) (Nat.le_of_ble_eq_true rfl) dX9_told_108
            · rw [if_neg c_119] at h
              refine lv_aload_n hx hb dX9_told_68 rfl (lv_at hl 0 rfl) ?_
              refine lv_iload_n hx hb dX9_told_69 rfl (lv_at hl 1 rfl) ?_
              refine lv_iload_n hx hb dX9_told_70 rfl (lv_at hl 2 rfl) ?_
              obtain ⟨x129, hc128, h⟩ := ob h
              refine r_callV1 (As := [.int x1, .int x2]) (rest := []) (r := 9) (i := 0) C (vX9_countOf hc128) hR hS (lv0 (by decide) (by decide)) (by decide) ml_X9_257 mw_X9_countOf rfl ⟨Nat.le_of_ble_eq_true rfl, Nat.le_of_ble_eq_true rfl, Nat.le_of_ble_eq_true rfl, Nat.le_of_ble_eq_true rfl⟩ hl.1 rfl (Nat.le_of_ble_eq_true rfl) dX9_told_71 (fun H locs hR hS => ?_)
              refine lv_goto (tgt := 108) hx hb dX9_told_74 (by decide) ?_
              cases h
              exact e_iret C hr hR hS (Nat.le_of_ble_eq_true rfl) (Nat.le_of_ble_eq_true rfl) dX9_told_108
          · rw [if_pos c_118] at h
            refine lv_aload_n hx hb dX9_told_54 rfl (lv_at hl 0 rfl) ?_
            refine r_get C hR 9 0 19 (v := .ref (a 67 0)) (lv0 (by decide) (by decide)) (by decide) (by decide) rfl fl_X9_31 dX9_told_55 ?_
            refine lv_iload_n hx hb dX9_told_58 rfl (lv_at hl 1 rfl) ?_
            obtain ⟨k130, hk130, h⟩ := ob h
            refine r_ald C hR 67 0 (lv0 (by decide) (by decide)) (by decide) rfl (fun _ => rfl) rfl hk130 dX9_told_59 ?_
            refine lv_goto (tgt := 108) hx hb dX9_told_60 (by decide) ?_
            cases h
            exact e_iret C hr hR hS (Nat.le_of_ble_eq_true rfl) (Nat.le_of_ble_eq_true rfl) dX9_told_108
        · rw [if_neg c_117] at h
          refine lv_iconst (v := 0) hx hb dX9_told_48 (by decide) ?_
          cases h
          exact e_iret C hr hR hS (Nat.le_of_ble_eq_true rfl) (Nat.le_of_ble_eq_true rfl) dX9_told_49
      clear h
      have h := hz
      clear hz
      refine lv_if_ne (tgt := 40) hx hb dX9_told_33 (by decide) (fun c_131 => ?_) (fun c_131 => ?_)
      · rw [if_neg c_131] at h
        refine lv_iconst (v := 0) hx hb dX9_told_40 (by decide) ?_
        cases h
        exact Kj113 _ _ _ hR hS (lv_sub hl [0, 1, 2] rfl)
      · rw [if_pos c_131] at h
        refine lv_iconst (v := 1) hx hb dX9_told_36 (by decide) ?_
        refine lv_goto (tgt := 41) hx hb dX9_told_37 (by decide) ?_
        cases h
        exact Kj113 _ _ _ hR hS (lv_sub hl [0, 1, 2] rfl)
  clear h
  have h := hz
  clear hz
  refine lv_if_ne (tgt := 18) hx hb dX9_told_11 (by decide) (fun c_132 => ?_) (fun c_132 => ?_)
  · rw [if_neg c_132] at h
    refine lv_iconst (v := 0) hx hb dX9_told_18 (by decide) ?_
    cases h
    exact Kj105 _ _ _ hR hS (lv_sub hl [0, 1, 2] rfl)
  · rw [if_pos c_132] at h
    refine lv_iconst (v := 1) hx hb dX9_told_14 (by decide) ?_
    refine lv_goto (tgt := 19) hx hb dX9_told_15 (by decide) ?_
    cases h
    exact Kj105 _ _ _ hR hS (lv_sub hl [0, 1, 2] rfl)
