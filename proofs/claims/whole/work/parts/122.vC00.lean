set_option maxHeartbeats 4000000 in
set_option maxRecDepth 100000 in
theorem vX0_addLooker {l : Launch} {E : EV} {a : Nat → Nat → Nat} {u0 : HS} {i0 : Nat} {x1 : Int32} {x2 : Int32} {x3 : Int32} {out : (Int32 × HS)} (hi0 : i0 < cntS 0) (h : mX0_addLooker u0 i0 x1 x2 x3 = some out) : Ct l E yX0_addLooker cX0_addLooker 5 (some .int) 0 0 0 0 a u0 [.ref (a 0 i0), .int x1, .int x2, .int x3] (some (.int out.1)) out.2 := by
  refine Ct.start (by decide) (Nat.le_of_ble_eq_true rfl) ?_
  intro p e s m args below meth c ls C hr hR hS hl
  have C : Cx E p s m args meth c cX0_addLooker 5 RX0 := C
  have hl : lv_has ls 5 [(0, .ref (a 0 i0)), (1, .int x1), (2, .int x2), (3, .int x3)] := hl
  have hx := C.1
  have hb := C.2.1
  unfold mX0_addLooker at h
  refine lv_aload_n hx hb dX0_addLooker_0 rfl (lv_at hl 0 rfl) ?_
  refine r_get C hR 0 i0 0 (v := .int (gI u0 0 i0 0)) (lv0 hi0 (by decide)) (by decide) (by decide) rfl fl_X0_9 dX0_addLooker_1 ?_
  refine lv_bipush (v := 14) hx hb dX0_addLooker_4 (by decide) ?_
  refine lv_icmp_ne (tgt := 11) hx hb dX0_addLooker_6 (by decide) (fun c_101 => ?_) (fun c_101 => ?_)
  · rw [if_neg c_101] at h
    refine lv_aload_n hx hb dX0_addLooker_11 rfl (lv_at hl 0 rfl) ?_
    refine r_get C hR 0 i0 1 (v := .ref (a 20 i0)) (lv0 hi0 (by decide)) (by decide) (by decide) rfl fl_X0_15 dX0_addLooker_12 ?_
    refine lv_aload_n hx hb dX0_addLooker_15 rfl (lv_at hl 0 rfl) ?_
    refine r_get C hR 0 i0 0 (v := .int (gI u0 0 i0 0)) (lv0 hi0 (by decide)) (by decide) (by decide) rfl fl_X0_9 dX0_addLooker_16 ?_
    refine lv_iload_n hx hb dX0_addLooker_19 rfl (lv_at hl 1 rfl) ?_
    obtain ⟨k102, hk102, h⟩ := ob h
    refine r_ast C hR hS 20 i0 (lv0 hi0 (by decide)) (by decide) rfl (fun _ _ => rfl) rfl hk102 dX0_addLooker_20 (fun H locs hR hS => ?_)
    obtain ⟨u103, eu103⟩ : ∃ z : HS, z = wI u0 20 i0 k102 x1 := ⟨_, rfl⟩
    rw [← eu103] at hR
    replace h := bd_x eu103 h
    clear eu103
    refine lv_aload_n hx hb dX0_addLooker_21 rfl (lv_at hl 0 rfl) ?_
    refine r_get C hR 0 i0 2 (v := .ref (a 21 i0)) (lv0 hi0 (by decide)) (by decide) (by decide) rfl fl_X0_19 dX0_addLooker_22 ?_
    refine lv_aload_n hx hb dX0_addLooker_25 rfl (lv_at hl 0 rfl) ?_
    refine r_get C hR 0 i0 0 (v := .int (gI u103 0 i0 0)) (lv0 hi0 (by decide)) (by decide) (by decide) rfl fl_X0_9 dX0_addLooker_26 ?_
    refine lv_iload_n hx hb dX0_addLooker_29 rfl (lv_at hl 2 rfl) ?_
    obtain ⟨k104, hk104, h⟩ := ob h
    refine r_ast C hR hS 21 i0 (lv0 hi0 (by decide)) (by decide) rfl (fun _ _ => rfl) rfl hk104 dX0_addLooker_30 (fun H locs hR hS => ?_)
    obtain ⟨u105, eu105⟩ : ∃ z : HS, z = wI u103 21 i0 k104 x2 := ⟨_, rfl⟩
    rw [← eu105] at hR
    replace h := bd_x eu105 h
    clear eu105
    refine lv_aload_n hx hb dX0_addLooker_31 rfl (lv_at hl 0 rfl) ?_
    refine lv_aload_n hx hb dX0_addLooker_32 rfl (lv_at hl 0 rfl) ?_
    refine r_get C hR 0 i0 3 (v := .int (gI u105 0 i0 3)) (lv0 hi0 (by decide)) (by decide) (by decide) rfl fl_X0_22 dX0_addLooker_33 ?_
    refine lv_iconst (v := 1) hx hb dX0_addLooker_36 (by decide) ?_
    refine lv_aload_n hx hb dX0_addLooker_37 rfl (lv_at hl 0 rfl) ?_
    refine r_get C hR 0 i0 0 (v := .int (gI u105 0 i0 0)) (lv0 hi0 (by decide)) (by decide) (by decide) rfl fl_X0_9 dX0_addLooker_38 ?_
    refine lv_ishl hx hb dX0_addLooker_41 ?_
    refine lv_iconst (v := (-1)) hx hb dX0_addLooker_42 (by decide) ?_
    refine lv_ixor hx hb dX0_addLooker_43 ?_
    refine lv_iand hx hb dX0_addLooker_44 ?_
    refine lv_iload_n hx hb dX0_addLooker_45 rfl (lv_at hl 3 rfl) ?_
    obtain ⟨x106, hz, h⟩ := ob h
    have Kj107 : ∀ (H : Heap) (locs : List Loc) (ls : Array Slot), Rel E a u105 H → va_S (AE E) s.heap H locs → lv_has ls 5 [(0, .ref (a 0 i0))] → W p l e { frames := 0, cells := 0, slots := 0, locals := 0 } s m args below meth c H locs 0 0 (MQ below (QW E a (some (.int out.1)) out.2) args s 0 0 (AE E)) (F0 m 59 ls [.int x106, .int ((gI u105 0 i0 3) &&& (((1 : Int32) <<< ((gI u105 0 i0 0) &&& 31)) ^^^ (-1))), .ref (a 0 i0)]) := by
      intro H locs ls hR hS hl
      clear hz
      refine lv_ior hx hb dX0_addLooker_59 ?_
      refine r_putI (ty := .int) C hR hS 0 i0 3 (lv0 hi0 (by decide)) (by decide) (by decide) (fun _ => rfl) fl_X0_22 (by decide) (by decide +kernel) rfl rfl dX0_addLooker_60 (fun H locs hR hS => ?_)
      obtain ⟨u108, eu108⟩ : ∃ z : HS, z = wI u105 0 i0 3 (((gI u105 0 i0 3) &&& (((1 : Int32) <<< ((gI u105 0 i0 0) &&& 31)) ^^^ (-1))) ||| x106) := ⟨_, rfl⟩
      rw [← eu108] at hR
      replace h := bd_x eu108 h
      clear eu108
      refine lv_iconst (v := 0) hx hb dX0_addLooker_63 (by decide) ?_
      refine lv_istore (lv' := [(4, .int 0), (0, .ref (a 0 i0))]) hx hb dX0_addLooker_64 hl (by decide) rfl (fun ls hl => ?_)
      refine jp_cut h (fun w112 hw112 h => ?_)
      have Kw112 : ∀ (u111 : HS) (H : Heap) (locs : List Loc) (ls : Array Slot), w112 u111 = some out → Rel E a u111 H → va_S (AE E) s.heap H locs → lv_has ls 5 [(0, .ref (a 0 i0))] → W p l e { frames := 0, cells := 0, slots := 0, locals := 0 } s m args below meth c H locs 0 0 (MQ below (QW E a (some (.int out.1)) out.2) args s 0 0 (AE E)) (F0 m 93 ls []) := by
        intro u111 H locs ls h hR hS hl
        replace h := jx1 hw112 h
        refine lv_aload_n hx hb dX0_addLooker_93 rfl (lv_at hl 0 rfl) ?_
        refine r_get C hR 0 i0 5 (v := .ref (a 23 i0)) (lv0 hi0 (by decide)) (by decide) (by decide) rfl fl_X0_28 dX0_addLooker_94 ?_
        refine lv_aload_n hx hb dX0_addLooker_97 rfl (lv_at hl 0 rfl) ?_
        refine r_get C hR 0 i0 0 (v := .int (gI u111 0 i0 0)) (lv0 hi0 (by decide)) (by decide) (by decide) rfl fl_X0_9 dX0_addLooker_98 ?_
        refine lv_iconst (v := (-1)) hx hb dX0_addLooker_101 (by decide) ?_
        obtain ⟨k113, hk113, h⟩ := ob h
        refine r_ast C hR hS 23 i0 (lv0 hi0 (by decide)) (by decide) rfl (fun _ _ => rfl) rfl hk113 dX0_addLooker_102 (fun H locs hR hS => ?_)
        obtain ⟨u114, eu114⟩ : ∃ z : HS, z = wI u111 23 i0 k113 (-1) := ⟨_, rfl⟩
        rw [← eu114] at hR
        replace h := bd_x eu114 h
        clear eu114
        refine lv_aload_n hx hb dX0_addLooker_103 rfl (lv_at hl 0 rfl) ?_
        refine r_get C hR 0 i0 6 (v := .ref (a 24 i0)) (lv0 hi0 (by decide)) (by decide) (by decide) rfl fl_X0_31 dX0_addLooker_104 ?_
        refine lv_aload_n hx hb dX0_addLooker_107 rfl (lv_at hl 0 rfl) ?_
        refine r_get C hR 0 i0 0 (v := .int (gI u114 0 i0 0)) (lv0 hi0 (by decide)) (by decide) (by decide) rfl fl_X0_9 dX0_addLooker_108 ?_
        refine lv_iconst (v := (-1)) hx hb dX0_addLooker_111 (by decide) ?_
        obtain ⟨k115, hk115, h⟩ := ob h
        refine r_ast C hR hS 24 i0 (lv0 hi0 (by decide)) (by decide) rfl (fun _ _ => rfl) rfl hk115 dX0_addLooker_112 (fun H locs hR hS => ?_)
        obtain ⟨u116, eu116⟩ : ∃ z : HS, z = wI u114 24 i0 k115 (-1) := ⟨_, rfl⟩
        rw [← eu116] at hR
        replace h := bd_x eu116 h
        clear eu116
        refine lv_aload_n hx hb dX0_addLooker_113 rfl (lv_at hl 0 rfl) ?_
        refine lv_dup hx hb dX0_addLooker_114 rfl ?_
        refine r_get C hR 0 i0 0 (v := .int (gI u116 0 i0 0)) (lv0 hi0 (by decide)) (by decide) (by decide) rfl fl_X0_9 dX0_addLooker_115 ?_
        refine lv_dup_x1 hx hb dX0_addLooker_118 rfl rfl ?_
        refine lv_iconst (v := 1) hx hb dX0_addLooker_119 (by decide) ?_
        refine lv_iadd hx hb dX0_addLooker_120 ?_
        refine r_putI (ty := .int) C hR hS 0 i0 0 (lv0 hi0 (by decide)) (by decide) (by decide) (fun _ => rfl) fl_X0_9 (by decide) (by decide +kernel) rfl rfl dX0_addLooker_121 (fun H locs hR hS => ?_)
        obtain ⟨u117, eu117⟩ : ∃ z : HS, z = wI u116 0 i0 0 ((gI u116 0 i0 0) + 1) := ⟨_, rfl⟩
        rw [← eu117] at hR
        replace h := bd_x eu117 h
        clear eu117
        cases h
        exact e_iret C hr hR hS (Nat.le_of_ble_eq_true rfl) (Nat.le_of_ble_eq_true rfl) dX0_addLooker_124
      have LP : ∀ (fu : Nat) (x109 : Int32) (u110 : HS) (H : Heap) (locs : List Loc) (ls : Array Slot), mX0_addLooker_L66 i0 w112 fu x109 u110 = some out → Rel E a u110 H → va_S (AE E) s.heap H locs → lv_has ls 5 [(0, .ref (a 0 i0)), (4, .int x109)] → W p l e { frames := 0, cells := 0, slots := 0, locals := 0 } s m args below meth c H locs 0 0 (MQ below (QW E a (some (.int out.1)) out.2) args s 0 0 (AE E)) (F0 m 66 ls []) := by
        intro fu
        induction fu with
        | zero =>
          intro x109 u110 H locs ls h
          have h2 : (none : Option (Int32 × HS)) = some out := h
          cases h2
        | succ fu ih =>
          intro x109 u110 H locs ls h hR hS hl
          rw [mX0_addLooker_L66.eq_2] at h
          refine lv_iload hx hb dX0_addLooker_66 (lv_at hl 1 rfl) ?_
          refine lv_iconst (v := 3) hx hb dX0_addLooker_68 (by decide) ?_
          refine lv_icmp_ge (tgt := 93) hx hb dX0_addLooker_69 (by decide) (fun c_118 => ?_) (fun c_118 => ?_)
          · rw [if_pos c_118] at h
            exact Kw112 _ _ _ _ h hR hS (lv_sub hl [0] rfl)
          · rw [if_neg c_118] at h
            refine lv_aload_n hx hb dX0_addLooker_72 rfl (lv_at hl 0 rfl) ?_
            refine r_get C hR 0 i0 4 (v := .ref (a 22 i0)) (lv0 hi0 (by decide)) (by decide) (by decide) rfl fl_X0_25 dX0_addLooker_73 ?_
            refine lv_aload_n hx hb dX0_addLooker_76 rfl (lv_at hl 0 rfl) ?_
            refine r_get C hR 0 i0 0 (v := .int (gI u110 0 i0 0)) (lv0 hi0 (by decide)) (by decide) (by decide) rfl fl_X0_9 dX0_addLooker_77 ?_
            refine lv_iconst (v := 3) hx hb dX0_addLooker_80 (by decide) ?_
            refine lv_imul hx hb dX0_addLooker_81 ?_
            refine lv_iload hx hb dX0_addLooker_82 (lv_at hl 1 rfl) ?_
            refine lv_iadd hx hb dX0_addLooker_84 ?_
            refine lv_iconst (v := (-1)) hx hb dX0_addLooker_85 (by decide) ?_
            obtain ⟨k119, hk119, h⟩ := ob h
            refine r_ast C hR hS 22 i0 (lv0 hi0 (by decide)) (by decide) rfl (fun _ _ => rfl) rfl hk119 dX0_addLooker_86 (fun H locs hR hS => ?_)
            obtain ⟨u120, eu120⟩ : ∃ z : HS, z = wI u110 22 i0 k119 (-1) := ⟨_, rfl⟩
            rw [← eu120] at hR
            replace h := bd_x eu120 h
            clear eu120
            obtain ⟨x121, ex121⟩ : ∃ z : Int32, z = x109 + 1 := ⟨_, rfl⟩
            replace h := bd_x ex121 h
            refine lv_iinc (v := x121) (lv' := [(4, .int x121), (0, .ref (a 0 i0))]) hx hb dX0_addLooker_87 hl (k := 1) rfl (by rw [ex121]; rfl) (by decide) rfl (fun ls hl => ?_)
            refine lv_goto (tgt := 66) hx hb dX0_addLooker_90 (by decide) ?_
            exact ih _ _ _ _ _ h hR hS (lv_sub hl [1, 0] rfl)
      exact LP FU _ _ _ _ _ h hR hS (lv_sub hl [1, 0] rfl)
    clear h
    have h := hz
    clear hz
    refine lv_if_eq (tgt := 58) hx hb dX0_addLooker_46 (by decide) (fun c_122 => ?_) (fun c_122 => ?_)
    · rw [if_pos c_122] at h
      refine lv_iconst (v := 0) hx hb dX0_addLooker_58 (by decide) ?_
      cases h
      exact Kj107 _ _ _ hR hS (lv_sub hl [0] rfl)
    · rw [if_neg c_122] at h
      refine lv_iconst (v := 1) hx hb dX0_addLooker_49 (by decide) ?_
      refine lv_aload_n hx hb dX0_addLooker_50 rfl (lv_at hl 0 rfl) ?_
      refine r_get C hR 0 i0 0 (v := .int (gI u105 0 i0 0)) (lv0 hi0 (by decide)) (by decide) (by decide) rfl fl_X0_9 dX0_addLooker_51 ?_
      refine lv_ishl hx hb dX0_addLooker_54 ?_
      refine lv_goto (tgt := 59) hx hb dX0_addLooker_55 (by decide) ?_
      cases h
      exact Kj107 _ _ _ hR hS (lv_sub hl [0] rfl)
  · rw [if_pos c_101] at h
    refine lv_iconst (v := (-1)) hx hb dX0_addLooker_9 (by decide) ?_
    cases h
    exact e_iret C hr hR hS (Nat.le_of_ble_eq_true rfl) (Nat.le_of_ble_eq_true rfl) dX0_addLooker_10
set_option maxHeartbeats 4000000 in
set_option maxRecDepth 100000 in
theorem vX0_addEyes {l : Launch} {E : EV} {a : Nat → Nat → Nat} {u0 : HS} {i0 : Nat} {x1 : Int32} {x2 : Int32} {x3 : Int32} {out : (Int32 × HS)} (hi0 : i0 < cntS 0) (h : mX0_addEyes u0 i0 x1 x2 x3 = some out) : Ct l E yX0_addEyes cX0_addEyes 4 (some .int) 0 0 0 0 a u0 [.ref (a 0 i0), .int x1, .int x2, .int x3] (some (.int out.1)) out.2 := by
  refine Ct.start (by decide) (Nat.le_of_ble_eq_true rfl) ?_
  intro p e s m args below meth c ls C hr hR hS hl
  have C : Cx E p s m args meth c cX0_addEyes 4 RX0 := C
  have hl : lv_has ls 4 [(0, .ref (a 0 i0)), (1, .int x1), (2, .int x2), (3, .int x3)] := hl
  have hx := C.1
  have hb := C.2.1
  unfold mX0_addEyes at h
  refine lv_aload_n hx hb dX0_addEyes_0 rfl (lv_at hl 0 rfl) ?_
  refine r_get C hR 0 i0 7 (v := .int (gI u0 0 i0 7)) (lv0 hi0 (by decide)) (by decide) (by decide) rfl fl_X0_34 dX0_addEyes_1 ?_
  refine lv_bipush (v := 60) hx hb dX0_addEyes_4 (by decide) ?_
  refine lv_icmp_ne (tgt := 11) hx hb dX0_addEyes_6 (by decide) (fun c_101 => ?_) (fun c_101 => ?_)
  · rw [if_neg c_101] at h
    refine lv_aload_n hx hb dX0_addEyes_11 rfl (lv_at hl 0 rfl) ?_
    refine r_get C hR 0 i0 8 (v := .ref (a 25 i0)) (lv0 hi0 (by decide)) (by decide) (by decide) rfl fl_X0_37 dX0_addEyes_12 ?_
    refine lv_aload_n hx hb dX0_addEyes_15 rfl (lv_at hl 0 rfl) ?_
    refine r_get C hR 0 i0 7 (v := .int (gI u0 0 i0 7)) (lv0 hi0 (by decide)) (by decide) (by decide) rfl fl_X0_34 dX0_addEyes_16 ?_
    refine lv_iload_n hx hb dX0_addEyes_19 rfl (lv_at hl 1 rfl) ?_
    obtain ⟨k102, hk102, h⟩ := ob h
    refine r_ast C hR hS 25 i0 (lv0 hi0 (by decide)) (by decide) rfl (fun _ _ => rfl) rfl hk102 dX0_addEyes_20 (fun H locs hR hS => ?_)
    obtain ⟨u103, eu103⟩ : ∃ z : HS, z = wI u0 25 i0 k102 x1 := ⟨_, rfl⟩
    rw [← eu103] at hR
    replace h := bd_x eu103 h
    clear eu103
    refine lv_aload_n hx hb dX0_addEyes_21 rfl (lv_at hl 0 rfl) ?_
    refine r_get C hR 0 i0 9 (v := .ref (a 26 i0)) (lv0 hi0 (by decide)) (by decide) (by decide) rfl fl_X0_40 dX0_addEyes_22 ?_
    refine lv_aload_n hx hb dX0_addEyes_25 rfl (lv_at hl 0 rfl) ?_
    refine r_get C hR 0 i0 7 (v := .int (gI u103 0 i0 7)) (lv0 hi0 (by decide)) (by decide) (by decide) rfl fl_X0_34 dX0_addEyes_26 ?_
    refine lv_iload_n hx hb dX0_addEyes_29 rfl (lv_at hl 2 rfl) ?_
    obtain ⟨k104, hk104, h⟩ := ob h
    refine r_ast C hR hS 26 i0 (lv0 hi0 (by decide)) (by decide) rfl (fun _ _ => rfl) rfl hk104 dX0_addEyes_30 (fun H locs hR hS => ?_)
    obtain ⟨u105, eu105⟩ : ∃ z : HS, z = wI u103 26 i0 k104 x2 := ⟨_, rfl⟩
    rw [← eu105] at hR
    replace h := bd_x eu105 h
    clear eu105
    refine lv_aload_n hx hb dX0_addEyes_31 rfl (lv_at hl 0 rfl) ?_
    refine r_get C hR 0 i0 10 (v := .ref (a 27 i0)) (lv0 hi0 (by decide)) (by decide) (by decide) rfl fl_X0_43 dX0_addEyes_32 ?_
    refine lv_aload_n hx hb dX0_addEyes_35 rfl (lv_at hl 0 rfl) ?_
    refine r_get C hR 0 i0 7 (v := .int (gI u105 0 i0 7)) (lv0 hi0 (by decide)) (by decide) (by decide) rfl fl_X0_34 dX0_addEyes_36 ?_
    refine lv_iload_n hx hb dX0_addEyes_39 rfl (lv_at hl 3 rfl) ?_
    obtain ⟨k106, hk106, h⟩ := ob h
    refine r_ast C hR hS 27 i0 (lv0 hi0 (by decide)) (by decide) rfl (fun _ _ => rfl) rfl hk106 dX0_addEyes_40 (fun H locs hR hS => ?_)
    obtain ⟨u107, eu107⟩ : ∃ z : HS, z = wI u105 27 i0 k106 x3 := ⟨_, rfl⟩
    rw [← eu107] at hR
    replace h := bd_x eu107 h
    clear eu107
    refine lv_aload_n hx hb dX0_addEyes_41 rfl (lv_at hl 0 rfl) ?_
    refine lv_dup hx hb dX0_addEyes_42 rfl ?_
    refine r_get C hR 0 i0 7 (v := .int (gI u107 0 i0 7)) (lv0 hi0 (by decide)) (by decide) (by decide) rfl fl_X0_34 dX0_addEyes_43 ?_
    refine lv_iconst (v := 1) hx hb dX0_addEyes_46 (by decide) ?_
    refine lv_iadd hx hb dX0_addEyes_47 ?_
    refine r_putI (ty := .int) C hR hS 0 i0 7 (lv0 hi0 (by decide)) (by decide) (by decide) (fun _ => rfl) fl_X0_34 (by decide) (by decide +kernel) rfl rfl dX0_addEyes_48 (fun H locs hR hS => ?_)
    obtain ⟨u108, eu108⟩ : ∃ z : HS, z = wI u107 0 i0 7 ((gI u107 0 i0 7) + 1) := ⟨_, rfl⟩
    rw [← eu108] at hR
    replace h := bd_x eu108 h
    clear eu108
    refine lv_aload_n hx hb dX0_addEyes_51 rfl (lv_at hl 0 rfl) ?_
    refine r_get C hR 0 i0 7 (v := .int (gI u108 0 i0 7)) (lv0 hi0 (by decide)) (by decide) (by decide) rfl fl_X0_34 dX0_addEyes_52 ?_
    cases h
    exact e_iret C hr hR hS (Nat.le_of_ble_eq_true rfl) (Nat.le_of_ble_eq_true rfl) dX0_addEyes_55
  · rw [if_pos c_101] at h
    refine lv_iconst (v := (-1)) hx hb dX0_addEyes_9 (by decide) ?_
    cases h
    exact e_iret C hr hR hS (Nat.le_of_ble_eq_true rfl) (Nat.le_of_ble_eq_true rfl) dX0_addEyes_10
set_option maxHeartbeats 4000000 in
set_option maxRecDepth 100000 in
theorem vX0_addBlink {l : Launch} {E : EV} {a : Nat → Nat → Nat} {u0 : HS} {i0 : Nat} {x1 : Int32} {x2 : Int32} {x3 : Int32} {out : (Int32 × HS)} (hi0 : i0 < cntS 0) (h : mX0_addBlink u0 i0 x1 x2 x3 = some out) : Ct l E yX0_addBlink cX0_addBlink 4 (some .int) 0 0 0 0 a u0 [.ref (a 0 i0), .int x1, .int x2, .int x3] (some (.int out.1)) out.2 := by
  refine Ct.start (by decide) (Nat.le_of_ble_eq_true rfl) ?_
  intro p e s m args below meth c ls C hr hR hS hl
  have C : Cx E p s m args meth c cX0_addBlink 4 RX0 := C
  have hl : lv_has ls 4 [(0, .ref (a 0 i0)), (1, .int x1), (2, .int x2), (3, .int x3)] := hl
  have hx := C.1
  have hb := C.2.1
  unfold mX0_addBlink at h
  refine lv_aload_n hx hb dX0_addBlink_0 rfl (lv_at hl 0 rfl) ?_
  refine r_get C hR 0 i0 11 (v := .int (gI u0 0 i0 11)) (lv0 hi0 (by decide)) (by decide) (by decide) rfl fl_X0_46 dX0_addBlink_1 ?_
  refine lv_bipush (v := 40) hx hb dX0_addBlink_4 (by decide) ?_
  refine lv_icmp_ne (tgt := 11) hx hb dX0_addBlink_6 (by decide) (fun c_101 => ?_) (fun c_101 => ?_)
  · rw [if_neg c_101] at h
    refine lv_aload_n hx hb dX0_addBlink_11 rfl (lv_at hl 0 rfl) ?_
    refine r_get C hR 0 i0 12 (v := .ref (a 28 i0)) (lv0 hi0 (by decide)) (by decide) (by decide) rfl fl_X0_49 dX0_addBlink_12 ?_
    refine lv_aload_n hx hb dX0_addBlink_15 rfl (lv_at hl 0 rfl) ?_
    refine r_get C hR 0 i0 11 (v := .int (gI u0 0 i0 11)) (lv0 hi0 (by decide)) (by decide) (by decide) rfl fl_X0_46 dX0_addBlink_16 ?_
    refine lv_iload_n hx hb dX0_addBlink_19 rfl (lv_at hl 1 rfl) ?_
    obtain ⟨k102, hk102, h⟩ := ob h
    refine r_ast C hR hS 28 i0 (lv0 hi0 (by decide)) (by decide) rfl (fun _ _ => rfl) rfl hk102 dX0_addBlink_20 (fun H locs hR hS => ?_)
    obtain ⟨u103, eu103⟩ : ∃ z : HS, z = wI u0 28 i0 k102 x1 := ⟨_, rfl⟩
    rw [← eu103] at hR
    replace h := bd_x eu103 h
    clear eu103
    refine lv_aload_n hx hb dX0_addBlink_21 rfl (lv_at hl 0 rfl) ?_
    refine r_get C hR 0 i0 13 (v := .ref (a 29 i0)) (lv0 hi0 (by decide)) (by decide) (by decide) rfl fl_X0_52 dX0_addBlink_22 ?_
    refine lv_aload_n hx hb dX0_addBlink_25 rfl (lv_at hl 0 rfl) ?_
    refine r_get C hR 0 i0 11 (v := .int (gI u103 0 i0 11)) (lv0 hi0 (by decide)) (by decide) (by decide) rfl fl_X0_46 dX0_addBlink_26 ?_
    refine lv_iload_n hx hb dX0_addBlink_29 rfl (lv_at hl 2 rfl) ?_
    obtain ⟨k104, hk104, h⟩ := ob h
    refine r_ast C hR hS 29 i0 (lv0 hi0 (by decide)) (by decide) rfl (fun _ _ => rfl) rfl hk104 dX0_addBlink_30 (fun H locs hR hS => ?_)
    obtain ⟨u105, eu105⟩ : ∃ z : HS, z = wI u103 29 i0 k104 x2 := ⟨_, rfl⟩
    rw [← eu105] at hR
    replace h := bd_x eu105 h
    clear eu105
    refine lv_aload_n hx hb dX0_addBlink_31 rfl (lv_at hl 0 rfl) ?_
    refine r_get C hR 0 i0 14 (v := .ref (a 30 i0)) (lv0 hi0 (by decide)) (by decide) (by decide) rfl fl_X0_55 dX0_addBlink_32 ?_
    refine lv_aload_n hx hb dX0_addBlink_35 rfl (lv_at hl 0 rfl) ?_
    refine r_get C hR 0 i0 11 (v := .int (gI u105 0 i0 11)) (lv0 hi0 (by decide)) (by decide) (by decide) rfl fl_X0_46 dX0_addBlink_36 ?_
    refine lv_iload_n hx hb dX0_addBlink_39 rfl (lv_at hl 3 rfl) ?_
    obtain ⟨k106, hk106, h⟩ := ob h
    refine r_ast C hR hS 30 i0 (lv0 hi0 (by decide)) (by decide) rfl (fun _ _ => rfl) rfl hk106 dX0_addBlink_40 (fun H locs hR hS => ?_)
    obtain ⟨u107, eu107⟩ : ∃ z : HS, z = wI u105 30 i0 k106 x3 := ⟨_, rfl⟩
    rw [← eu107] at hR
    replace h := bd_x eu107 h
    clear eu107
    refine lv_aload_n hx hb dX0_addBlink_41 rfl (lv_at hl 0 rfl) ?_
    refine lv_dup hx hb dX0_addBlink_42 rfl ?_
    refine r_get C hR 0 i0 11 (v := .int (gI u107 0 i0 11)) (lv0 hi0 (by decide)) (by decide) (by decide) rfl fl_X0_46 dX0_addBlink_43 ?_
    refine lv_iconst (v := 1) hx hb dX0_addBlink_46 (by decide) ?_
    refine lv_iadd hx hb dX0_addBlink_47 ?_
    refine r_putI (ty := .int) C hR hS 0 i0 11 (lv0 hi0 (by decide)) (by decide) (by decide) (fun _ => rfl) fl_X0_46 (by decide) (by decide +kernel) rfl rfl dX0_addBlink_48 (fun H locs hR hS => ?_)
    obtain ⟨u108, eu108⟩ : ∃ z : HS, z = wI u107 0 i0 11 ((gI u107 0 i0 11) + 1) := ⟨_, rfl⟩
    rw [← eu108] at hR
    replace h := bd_x eu108 h
    clear eu108
    refine lv_aload_n hx hb dX0_addBlink_51 rfl (lv_at hl 0 rfl) ?_
    refine r_get C hR 0 i0 11 (v := .int (gI u108 0 i0 11)) (lv0 hi0 (by decide)) (by decide) (by decide) rfl fl_X0_46 dX0_addBlink_52 ?_
    cases h
    exact e_iret C hr hR hS (Nat.le_of_ble_eq_true rfl) (Nat.le_of_ble_eq_true rfl) dX0_addBlink_55
  · rw [if_pos c_101] at h
    refine lv_iconst (v := (-1)) hx hb dX0_addBlink_9 (by decide) ?_
    cases h
    exact e_iret C hr hR hS (Nat.le_of_ble_eq_true rfl) (Nat.le_of_ble_eq_true rfl) dX0_addBlink_10
set_option maxHeartbeats 4000000 in
set_option maxRecDepth 100000 in
theorem vX0_isKnowing {l : Launch} {E : EV} {a : Nat → Nat → Nat} {u0 : HS} {i0 : Nat} {x1 : Int32} {out : Int32} (hi0 : i0 < cntS 0) (h : mX0_isKnowing u0 i0 x1 = some out) : Ct l E yX0_isKnowing cX0_isKnowing 2 (some .boolean) 0 0 0 0 a u0 [.ref (a 0 i0), .int x1] (some (.int out)) u0 := by
  refine Ct.start (by decide) (Nat.le_of_ble_eq_true rfl) ?_
  intro p e s m args below meth c ls C hr hR hS hl
  have C : Cx E p s m args meth c cX0_isKnowing 2 RX0 := C
  have hl : lv_has ls 2 [(0, .ref (a 0 i0)), (1, .int x1)] := hl
  have hx := C.1
  have hb := C.2.1
  unfold mX0_isKnowing at h
  refine lv_aload_n hx hb dX0_isKnowing_0 rfl (lv_at hl 0 rfl) ?_
  refine r_get C hR 0 i0 3 (v := .int (gI u0 0 i0 3)) (lv0 hi0 (by decide)) (by decide) (by decide) rfl fl_X0_22 dX0_isKnowing_1 ?_
  refine lv_iload_n hx hb dX0_isKnowing_4 rfl (lv_at hl 1 rfl) ?_
  refine lv_ishr hx hb dX0_isKnowing_5 ?_
  refine lv_iconst (v := 1) hx hb dX0_isKnowing_6 (by decide) ?_
  refine lv_iand hx hb dX0_isKnowing_7 ?_
  refine lv_if_eq (tgt := 15) hx hb dX0_isKnowing_8 (by decide) (fun c_101 => ?_) (fun c_101 => ?_)
  · rw [if_pos c_101] at h
    refine lv_iconst (v := 0) hx hb dX0_isKnowing_15 (by decide) ?_
    cases h
    exact e_zret (v := 0) C hr rfl hR hS (Nat.le_of_ble_eq_true rfl) (Nat.le_of_ble_eq_true rfl) dX0_isKnowing_16
  · rw [if_neg c_101] at h
    refine lv_iconst (v := 1) hx hb dX0_isKnowing_11 (by decide) ?_
    refine lv_goto (tgt := 16) hx hb dX0_isKnowing_12 (by decide) ?_
    cases h
    exact e_zret (v := 1) C hr rfl hR hS (Nat.le_of_ble_eq_true rfl) (Nat.le_of_ble_eq_true rfl) dX0_isKnowing_16
set_option maxHeartbeats 4000000 in
set_option maxRecDepth 100000 in
theorem vX0_reply {l : Launch} {E : EV} {a : Nat → Nat → Nat} {u0 : HS} {i0 : Nat} {x1 : Int32} {x2 : Int32} {out : Int32} (hi0 : i0 < cntS 0) (h : mX0_reply u0 i0 x1 x2 = some out) : Ct l E yX0_reply cX0_reply 3 (some .int) 0 0 0 0 a u0 [.ref (a 0 i0), .int x1, .int x2] (some (.int out)) u0 := by
  refine Ct.start (by decide) (Nat.le_of_ble_eq_true rfl) ?_
  intro p e s m args below meth c ls C hr hR hS hl
  have C : Cx E p s m args meth c cX0_reply 3 RX0 := C
  have hl : lv_has ls 3 [(0, .ref (a 0 i0)), (1, .int x1), (2, .int x2)] := hl
  have hx := C.1
  have hb := C.2.1
  unfold mX0_reply at h
  refine lv_aload_n hx hb dX0_reply_0 rfl (lv_at hl 0 rfl) ?_
  refine r_get C hR 0 i0 4 (v := .ref (a 22 i0)) (lv0 hi0 (by decide)) (by decide) (by decide) rfl fl_X0_25 dX0_reply_1 ?_
  refine lv_iload_n hx hb dX0_reply_4 rfl (lv_at hl 1 rfl) ?_
  refine lv_iconst (v := 3) hx hb dX0_reply_5 (by decide) ?_
  refine lv_imul hx hb dX0_reply_6 ?_
  refine lv_iload_n hx hb dX0_reply_7 rfl (lv_at hl 2 rfl) ?_
  refine lv_iadd hx hb dX0_reply_8 ?_
  obtain ⟨k101, hk101, h⟩ := ob h
  refine r_ald C hR 22 i0 (lv0 hi0 (by decide)) (by decide) rfl (fun _ => rfl) rfl hk101 dX0_reply_9 ?_
  cases h
  exact e_iret C hr hR hS (Nat.le_of_ble_eq_true rfl) (Nat.le_of_ble_eq_true rfl) dX0_reply_10
set_option maxHeartbeats 4000000 in
set_option maxRecDepth 100000 in
theorem vX0_inGroup {l : Launch} {E : EV} {a : Nat → Nat → Nat} {u0 : HS} {i0 : Nat} {x1 : Int32} {x2 : Int32} {x3 : Int32} {x4 : Int32} {out : Int32} (hi0 : i0 < cntS 0) (h : mX0_inGroup u0 i0 x1 x2 x3 x4 = some out) : Ct l E yX0_inGroup cX0_inGroup 5 (some .boolean) 1 22 0 0 a u0 [.ref (a 0 i0), .int x1, .int x2, .int x3, .int x4] (some (.int out)) u0 := by
  refine Ct.start (by decide) (Nat.le_of_ble_eq_true rfl) ?_
  intro p e s m args below meth c ls C hr hR hS hl
  have C : Cx E p s m args meth c cX0_inGroup 5 RX0 := C
  have hl : lv_has ls 5 [(0, .ref (a 0 i0)), (1, .int x1), (2, .int x2), (3, .int x3), (4, .int x4)] := hl
  have hx := C.1
  have hb := C.2.1
  unfold mX0_inGroup at h
  refine lv_aload_n hx hb dX0_inGroup_0 rfl (lv_at hl 0 rfl) ?_
  refine r_get C hR 0 i0 1 (v := .ref (a 20 i0)) (lv0 hi0 (by decide)) (by decide) (by decide) rfl fl_X0_15 dX0_inGroup_1 ?_
  refine lv_iload_n hx hb dX0_inGroup_4 rfl (lv_at hl 1 rfl) ?_
  obtain ⟨k101, hk101, h⟩ := ob h
  refine r_ald C hR 20 i0 (lv0 hi0 (by decide)) (by decide) rfl (fun _ => rfl) rfl hk101 dX0_inGroup_5 ?_
  refine lv_iload_n hx hb dX0_inGroup_6 rfl (lv_at hl 2 rfl) ?_
  refine lv_icmp_ne (tgt := 43) hx hb dX0_inGroup_7 (by decide) (fun c_102 => ?_) (fun c_102 => ?_)
  · rw [if_neg c_102] at h
    refine lv_iconst (v := 0) hx hb dX0_inGroup_43 (by decide) ?_
    cases h
    exact e_zret (v := 0) C hr rfl hR hS (Nat.le_of_ble_eq_true rfl) (Nat.le_of_ble_eq_true rfl) dX0_inGroup_44
  · rw [if_pos c_102] at h
    refine lv_aload_n hx hb dX0_inGroup_10 rfl (lv_at hl 0 rfl) ?_
    refine r_get C hR 0 i0 2 (v := .ref (a 21 i0)) (lv0 hi0 (by decide)) (by decide) (by decide) rfl fl_X0_19 dX0_inGroup_11 ?_
    refine lv_iload_n hx hb dX0_inGroup_14 rfl (lv_at hl 1 rfl) ?_
    obtain ⟨k103, hk103, h⟩ := ob h
    refine r_ald C hR 21 i0 (lv0 hi0 (by decide)) (by decide) rfl (fun _ => rfl) rfl hk103 dX0_inGroup_15 ?_
    refine lv_iload_n hx hb dX0_inGroup_16 rfl (lv_at hl 3 rfl) ?_
    refine lv_icmp_ne (tgt := 43) hx hb dX0_inGroup_17 (by decide) (fun c_104 => ?_) (fun c_104 => ?_)
    · rw [if_neg c_104] at h
      refine lv_iconst (v := 0) hx hb dX0_inGroup_43 (by decide) ?_
      cases h
      exact e_zret (v := 0) C hr rfl hR hS (Nat.le_of_ble_eq_true rfl) (Nat.le_of_ble_eq_true rfl) dX0_inGroup_44
    · rw [if_pos c_104] at h
      refine lv_aload_n hx hb dX0_inGroup_20 rfl (lv_at hl 0 rfl) ?_
      refine lv_iload_n hx hb dX0_inGroup_21 rfl (lv_at hl 1 rfl) ?_
      obtain ⟨x106, hc105, h⟩ := ob h
      refine r_callV1 (As := [.int x1]) (rest := []) (r := 0) (i := i0) C (vX0_isKnowing hi0 hc105) hR hS (lv0 hi0 (by decide)) (by decide) ml_X0_64 mw_X0_isKnowing rfl ⟨Nat.le_of_ble_eq_true rfl, Nat.le_of_ble_eq_true rfl, Nat.le_of_ble_eq_true rfl, Nat.le_of_ble_eq_true rfl⟩ hl.1 rfl (Nat.le_of_ble_eq_true rfl) dX0_inGroup_22 (fun H locs hR hS => ?_)
      refine lv_if_ne (tgt := 43) hx hb dX0_inGroup_25 (by decide) (fun c_107 => ?_) (fun c_107 => ?_)
      · rw [if_neg c_107] at h
        refine lv_iconst (v := 0) hx hb dX0_inGroup_43 (by decide) ?_
        cases h
        exact e_zret (v := 0) C hr rfl hR hS (Nat.le_of_ble_eq_true rfl) (Nat.le_of_ble_eq_true rfl) dX0_inGroup_44
      · rw [if_pos c_107] at h
        refine lv_aload_n hx hb dX0_inGroup_28 rfl (lv_at hl 0 rfl) ?_
        refine lv_iload_n hx hb dX0_inGroup_29 rfl (lv_at hl 1 rfl) ?_
        refine lv_iload hx hb dX0_inGroup_30 (lv_at hl 4 rfl) ?_
        obtain ⟨x109, hc108, h⟩ := ob h
        refine r_callV1 (As := [.int x1, .int x4]) (rest := []) (r := 0) (i := i0) C (vX0_reply hi0 hc108) hR hS (lv0 hi0 (by decide)) (by decide) ml_X0_68 mw_X0_reply rfl ⟨Nat.le_of_ble_eq_true rfl, Nat.le_of_ble_eq_true rfl, Nat.le_of_ble_eq_true rfl, Nat.le_of_ble_eq_true rfl⟩ hl.1 rfl (Nat.le_of_ble_eq_true rfl) dX0_inGroup_32 (fun H locs hR hS => ?_)
        refine lv_iconst (v := (-1)) hx hb dX0_inGroup_35 (by decide) ?_
        refine lv_icmp_eq (tgt := 43) hx hb dX0_inGroup_36 (by decide) (fun c_110 => ?_) (fun c_110 => ?_)
        · rw [if_pos c_110] at h
          refine lv_iconst (v := 0) hx hb dX0_inGroup_43 (by decide) ?_
          cases h
          exact e_zret (v := 0) C hr rfl hR hS (Nat.le_of_ble_eq_true rfl) (Nat.le_of_ble_eq_true rfl) dX0_inGroup_44
        · rw [if_neg c_110] at h
          refine lv_iconst (v := 1) hx hb dX0_inGroup_39 (by decide) ?_
          refine lv_goto (tgt := 44) hx hb dX0_inGroup_40 (by decide) ?_
          cases h
          exact e_zret (v := 1) C hr rfl hR hS (Nat.le_of_ble_eq_true rfl) (Nat.le_of_ble_eq_true rfl) dX0_inGroup_44
set_option maxHeartbeats 4000000 in
set_option maxRecDepth 100000 in
theorem vX0_repliedAll {l : Launch} {E : EV} {a : Nat → Nat → Nat} {u0 : HS} {i0 : Nat} {x1 : Int32} {x2 : Int32} {x3 : Int32} {out : Int32} (hi0 : i0 < cntS 0) (h : mX0_repliedAll u0 i0 x1 x2 x3 = some out) : Ct l E yX0_repliedAll cX0_repliedAll 4 (some .boolean) 2 46 0 0 a u0 [.ref (a 0 i0), .int x1, .int x2, .int x3] (some (.int out)) u0 := by
  refine Ct.start (by decide) (Nat.le_of_ble_eq_true rfl) ?_
  intro p e s m args below meth c ls C hr hR hS hl
  have C : Cx E p s m args meth c cX0_repliedAll 4 RX0 := C
  have hl : lv_has ls 4 [(0, .ref (a 0 i0)), (1, .int x1), (2, .int x2), (3, .int x3)] := hl
  have hx := C.1
  have hb := C.2.1
  unfold mX0_repliedAll at h
  refine lv_aload_n hx hb dX0_repliedAll_0 rfl (lv_at hl 0 rfl) ?_
  refine lv_iload_n hx hb dX0_repliedAll_1 rfl (lv_at hl 1 rfl) ?_
  refine lv_iload_n hx hb dX0_repliedAll_2 rfl (lv_at hl 2 rfl) ?_
  refine lv_iload_n hx hb dX0_repliedAll_3 rfl (lv_at hl 3 rfl) ?_
  refine lv_iconst (v := 0) hx hb dX0_repliedAll_4 (by decide) ?_
  obtain ⟨x102, hc101, h⟩ := ob h
  refine r_callV1 (As := [.int x1, .int x2, .int x3, .int 0]) (rest := []) (r := 0) (i := i0) C (vX0_inGroup hi0 hc101) hR hS (lv0 hi0 (by decide)) (by decide) ml_X0_72 mw_X0_inGroup rfl ⟨Nat.le_of_ble_eq_true rfl, Nat.le_of_ble_eq_true rfl, Nat.le_of_ble_eq_true rfl, Nat.le_of_ble_eq_true rfl⟩ hl.1 rfl (Nat.le_of_ble_eq_true rfl) dX0_repliedAll_5 (fun H locs hR hS => ?_)
  refine lv_if_eq (tgt := 37) hx hb dX0_repliedAll_8 (by decide) (fun c_103 => ?_) (fun c_103 => ?_)
  · rw [if_pos c_103] at h
    refine lv_iconst (v := 0) hx hb dX0_repliedAll_37 (by decide) ?_
    cases h
    exact e_zret (v := 0) C hr rfl hR hS (Nat.le_of_ble_eq_true rfl) (Nat.le_of_ble_eq_true rfl) dX0_repliedAll_38
  · rw [if_neg c_103] at h
    refine lv_aload_n hx hb dX0_repliedAll_11 rfl (lv_at hl 0 rfl) ?_
    refine lv_iload_n hx hb dX0_repliedAll_12 rfl (lv_at hl 1 rfl) ?_
    refine lv_iload_n hx hb dX0_repliedAll_13 rfl (lv_at hl 2 rfl) ?_
    refine lv_iload_n hx hb dX0_repliedAll_14 rfl (lv_at hl 3 rfl) ?_
    refine lv_iconst (v := 1) hx hb dX0_repliedAll_15 (by decide) ?_
    obtain ⟨x105, hc104, h⟩ := ob h
    refine r_callV1 (As := [.int x1, .int x2, .int x3, .int 1]) (rest := []) (r := 0) (i := i0) C (vX0_inGroup hi0 hc104) hR hS (lv0 hi0 (by decide)) (by decide) ml_X0_72 mw_X0_inGroup rfl ⟨Nat.le_of_ble_eq_true rfl, Nat.le_of_ble_eq_true rfl, Nat.le_of_ble_eq_true rfl, Nat.le_of_ble_eq_true rfl⟩ hl.1 rfl (Nat.le_of_ble_eq_true rfl) dX0_repliedAll_16 (fun H locs hR hS => ?_)
    refine lv_if_eq (tgt := 37) hx hb dX0_repliedAll_19 (by decide) (fun c_106 => ?_) (fun c_106 => ?_)
    · rw [if_pos c_106] at h
      refine lv_iconst (v := 0) hx hb dX0_repliedAll_37 (by decide) ?_
      cases h
      exact e_zret (v := 0) C hr rfl hR hS (Nat.le_of_ble_eq_true rfl) (Nat.le_of_ble_eq_true rfl) dX0_repliedAll_38
    · rw [if_neg c_106] at h
      refine lv_aload_n hx hb dX0_repliedAll_22 rfl (lv_at hl 0 rfl) ?_
      refine lv_iload_n hx hb dX0_repliedAll_23 rfl (lv_at hl 1 rfl) ?_
      refine lv_iload_n hx hb dX0_repliedAll_24 rfl (lv_at hl 2 rfl) ?_
      refine lv_iload_n hx hb dX0_repliedAll_25 rfl (lv_at hl 3 rfl) ?_
      refine lv_iconst (v := 2) hx hb dX0_repliedAll_26 (by decide) ?_
      obtain ⟨x108, hc107, h⟩ := ob h
      refine r_callV1 (As := [.int x1, .int x2, .int x3, .int 2]) (rest := []) (r := 0) (i := i0) C (vX0_inGroup hi0 hc107) hR hS (lv0 hi0 (by decide)) (by decide) ml_X0_72 mw_X0_inGroup rfl ⟨Nat.le_of_ble_eq_true rfl, Nat.le_of_ble_eq_true rfl, Nat.le_of_ble_eq_true rfl, Nat.le_of_ble_eq_true rfl⟩ hl.1 rfl (Nat.le_of_ble_eq_true rfl) dX0_repliedAll_27 (fun H locs hR hS => ?_)
      refine lv_if_eq (tgt := 37) hx hb dX0_repliedAll_30 (by decide) (fun c_109 => ?_) (fun c_109 => ?_)
      · rw [if_pos c_109] at h
        refine lv_iconst (v := 0) hx hb dX0_repliedAll_37 (by decide) ?_
        cases h
        exact e_zret (v := 0) C hr rfl hR hS (Nat.le_of_ble_eq_true rfl) (Nat.le_of_ble_eq_true rfl) dX0_repliedAll_38
      · rw [if_neg c_109] at h
        refine lv_iconst (v := 1) hx hb dX0_repliedAll_33 (by decide) ?_
        refine lv_goto (tgt := 38) hx hb dX0_repliedAll_34 (by decide) ?_
        cases h
        exact e_zret (v := 1) C hr rfl hR hS (Nat.le_of_ble_eq_true rfl) (Nat.le_of_ble_eq_true rfl) dX0_repliedAll_38
set_option maxHeartbeats 4000000 in
set_option maxRecDepth 100000 in
theorem vX0_isLostTo {l : Launch} {E : EV} {a : Nat → Nat → Nat} {u0 : HS} {i0 : Nat} {x1 : Int32} {x2 : Int32} {out : Int32} (hi0 : i0 < cntS 0) (h : mX0_isLostTo u0 i0 x1 x2 = some out) : Ct l E yX0_isLostTo cX0_isLostTo 3 (some .boolean) 1 22 0 0 a u0 [.ref (a 0 i0), .int x1, .int x2] (some (.int out)) u0 := by
  refine Ct.start (by decide) (Nat.le_of_ble_eq_true rfl) ?_
  intro p e s m args below meth c ls C hr hR hS hl
  have C : Cx E p s m args meth c cX0_isLostTo 3 RX0 := C
  have hl : lv_has ls 3 [(0, .ref (a 0 i0)), (1, .int x1), (2, .int x2)] := hl
  have hx := C.1
  have hb := C.2.1
  unfold mX0_isLostTo at h
  refine lv_aload_n hx hb dX0_isLostTo_0 rfl (lv_at hl 0 rfl) ?_
  refine lv_iload_n hx hb dX0_isLostTo_1 rfl (lv_at hl 1 rfl) ?_
  refine lv_iconst (v := 0) hx hb dX0_isLostTo_2 (by decide) ?_
  obtain ⟨x102, hc101, h⟩ := ob h
  refine r_callV1 (As := [.int x1, .int 0]) (rest := []) (r := 0) (i := i0) C (vX0_reply hi0 hc101) hR hS (lv0 hi0 (by decide)) (by decide) ml_X0_68 mw_X0_reply rfl ⟨Nat.le_of_ble_eq_true rfl, Nat.le_of_ble_eq_true rfl, Nat.le_of_ble_eq_true rfl, Nat.le_of_ble_eq_true rfl⟩ hl.1 rfl (Nat.le_of_ble_eq_true rfl) dX0_isLostTo_3 (fun H locs hR hS => ?_)
  refine lv_iconst (v := 1) hx hb dX0_isLostTo_6 (by decide) ?_
  refine lv_icmp_ne (tgt := 12) hx hb dX0_isLostTo_7 (by decide) (fun c_103 => ?_) (fun c_103 => ?_)
  · rw [if_neg c_103] at h
    refine lv_iload_n hx hb dX0_isLostTo_12 rfl (lv_at hl 2 rfl) ?_
    refine lv_if_eq (tgt := 34) hx hb dX0_isLostTo_13 (by decide) (fun c_104 => ?_) (fun c_104 => ?_)
    · rw [if_pos c_104] at h
      refine lv_aload_n hx hb dX0_isLostTo_34 rfl (lv_at hl 0 rfl) ?_
      refine lv_iload_n hx hb dX0_isLostTo_35 rfl (lv_at hl 1 rfl) ?_
      refine lv_iconst (v := 1) hx hb dX0_isLostTo_36 (by decide) ?_
      obtain ⟨x106, hc105, h⟩ := ob h
      refine r_callV1 (As := [.int x1, .int 1]) (rest := []) (r := 0) (i := i0) C (vX0_reply hi0 hc105) hR hS (lv0 hi0 (by decide)) (by decide) ml_X0_68 mw_X0_reply rfl ⟨Nat.le_of_ble_eq_true rfl, Nat.le_of_ble_eq_true rfl, Nat.le_of_ble_eq_true rfl, Nat.le_of_ble_eq_true rfl⟩ hl.1 rfl (Nat.le_of_ble_eq_true rfl) dX0_isLostTo_37 (fun H locs hR hS => ?_)
      refine lv_if_ne (tgt := 56) hx hb dX0_isLostTo_40 (by decide) (fun c_107 => ?_) (fun c_107 => ?_)
      · rw [if_neg c_107] at h
        refine lv_iconst (v := 0) hx hb dX0_isLostTo_56 (by decide) ?_
        cases h
        exact e_zret (v := 0) C hr rfl hR hS (Nat.le_of_ble_eq_true rfl) (Nat.le_of_ble_eq_true rfl) dX0_isLostTo_57
      · rw [if_pos c_107] at h
        refine lv_aload_n hx hb dX0_isLostTo_43 rfl (lv_at hl 0 rfl) ?_
        refine lv_iload_n hx hb dX0_isLostTo_44 rfl (lv_at hl 1 rfl) ?_
        refine lv_iconst (v := 2) hx hb dX0_isLostTo_45 (by decide) ?_
        obtain ⟨x109, hc108, h⟩ := ob h
        refine r_callV1 (As := [.int x1, .int 2]) (rest := []) (r := 0) (i := i0) C (vX0_reply hi0 hc108) hR hS (lv0 hi0 (by decide)) (by decide) ml_X0_68 mw_X0_reply rfl ⟨Nat.le_of_ble_eq_true rfl, Nat.le_of_ble_eq_true rfl, Nat.le_of_ble_eq_true rfl, Nat.le_of_ble_eq_true rfl⟩ hl.1 rfl (Nat.le_of_ble_eq_true rfl) dX0_isLostTo_46 (fun H locs hR hS => ?_)
        refine lv_if_ne (tgt := 56) hx hb dX0_isLostTo_49 (by decide) (fun c_110 => ?_) (fun c_110 => ?_)
        · rw [if_neg c_110] at h
          refine lv_iconst (v := 0) hx hb dX0_isLostTo_56 (by decide) ?_
          cases h
          exact e_zret (v := 0) C hr rfl hR hS (Nat.le_of_ble_eq_true rfl) (Nat.le_of_ble_eq_true rfl) dX0_isLostTo_57
        · rw [if_pos c_110] at h
          refine lv_iconst (v := 1) hx hb dX0_isLostTo_52 (by decide) ?_
          refine lv_goto (tgt := 57) hx hb dX0_isLostTo_53 (by decide) ?_
          cases h
          exact e_zret (v := 1) C hr rfl hR hS (Nat.le_of_ble_eq_true rfl) (Nat.le_of_ble_eq_true rfl) dX0_isLostTo_57
    · rw [if_neg c_104] at h
      refine lv_aload_n hx hb dX0_isLostTo_16 rfl (lv_at hl 0 rfl) ?_
      refine lv_iload_n hx hb dX0_isLostTo_17 rfl (lv_at hl 1 rfl) ?_
      refine lv_iconst (v := 2) hx hb dX0_isLostTo_18 (by decide) ?_
      obtain ⟨x112, hc111, h⟩ := ob h
      refine r_callV1 (As := [.int x1, .int 2]) (rest := []) (r := 0) (i := i0) C (vX0_reply hi0 hc111) hR hS (lv0 hi0 (by decide)) (by decide) ml_X0_68 mw_X0_reply rfl ⟨Nat.le_of_ble_eq_true rfl, Nat.le_of_ble_eq_true rfl, Nat.le_of_ble_eq_true rfl, Nat.le_of_ble_eq_true rfl⟩ hl.1 rfl (Nat.le_of_ble_eq_true rfl) dX0_isLostTo_19 (fun H locs hR hS => ?_)
      refine lv_iconst (v := 1) hx hb dX0_isLostTo_22 (by decide) ?_
      refine lv_icmp_ne (tgt := 30) hx hb dX0_isLostTo_23 (by decide) (fun c_113 => ?_) (fun c_113 => ?_)
      · rw [if_neg c_113] at h
        refine lv_iconst (v := 0) hx hb dX0_isLostTo_30 (by decide) ?_
        refine lv_goto (tgt := 57) hx hb dX0_isLostTo_31 (by decide) ?_
        cases h
        exact e_zret (v := 0) C hr rfl hR hS (Nat.le_of_ble_eq_true rfl) (Nat.le_of_ble_eq_true rfl) dX0_isLostTo_57
      · rw [if_pos c_113] at h
        refine lv_iconst (v := 1) hx hb dX0_isLostTo_26 (by decide) ?_
        refine lv_goto (tgt := 57) hx hb dX0_isLostTo_27 (by decide) ?_
        cases h
        exact e_zret (v := 1) C hr rfl hR hS (Nat.le_of_ble_eq_true rfl) (Nat.le_of_ble_eq_true rfl) dX0_isLostTo_57
  · rw [if_pos c_103] at h
    refine lv_iconst (v := 0) hx hb dX0_isLostTo_10 (by decide) ?_
    cases h
    exact e_zret (v := 0) C hr rfl hR hS (Nat.le_of_ble_eq_true rfl) (Nat.le_of_ble_eq_true rfl) dX0_isLostTo_11
set_option maxHeartbeats 4000000 in
set_option maxRecDepth 100000 in
theorem vX0_askedOf {l : Launch} {E : EV} {a : Nat → Nat → Nat} {u0 : HS} {i0 : Nat} {x1 : Int32} {x2 : Int32} {x3 : Int32} {out : Int32} (hi0 : i0 < cntS 0) (h : mX0_askedOf u0 i0 x1 x2 x3 = some out) : Ct l E yX0_askedOf cX0_askedOf 6 (some .int) 2 46 0 0 a u0 [.ref (a 0 i0), .int x1, .int x2, .int x3] (some (.int out)) u0 := by
  refine Ct.start (by decide) (Nat.le_of_ble_eq_true rfl) ?_
  intro p e s m args below meth c ls C hr hR hS hl
  have C : Cx E p s m args meth c cX0_askedOf 6 RX0 := C
  have hl : lv_has ls 6 [(0, .ref (a 0 i0)), (1, .int x1), (2, .int x2), (3, .int x3)] := hl
  have hx := C.1
  have hb := C.2.1
  unfold mX0_askedOf at h
  refine lv_iconst (v := 0) hx hb dX0_askedOf_0 (by decide) ?_
  refine lv_istore (lv' := [(4, .int 0), (0, .ref (a 0 i0)), (1, .int x1), (2, .int x2), (3, .int x3)]) hx hb dX0_askedOf_1 hl (by decide) rfl (fun ls hl => ?_)
  refine lv_iconst (v := 0) hx hb dX0_askedOf_3 (by decide) ?_
  refine lv_istore (lv' := [(5, .int 0), (4, .int 0), (0, .ref (a 0 i0)), (1, .int x1), (2, .int x2), (3, .int x3)]) hx hb dX0_askedOf_4 hl (by decide) rfl (fun ls hl => ?_)
  refine jp_cut h (fun w104 hw104 h => ?_)
  have Kw104 : ∀ (x103 : Int32) (H : Heap) (locs : List Loc) (ls : Array Slot), w104 x103 = some out → Rel E a u0 H → va_S (AE E) s.heap H locs → lv_has ls 6 [(4, .int x103)] → W p l e { frames := 2, cells := 0, slots := 0, locals := 46 } s m args below meth c H locs 0 0 (MQ below (QW E a (some (.int out)) u0) args s 0 0 (AE E)) (F0 m 43 ls []) := by
    intro x103 H locs ls h hR hS hl
    replace h := jx1 hw104 h
    refine lv_iload hx hb dX0_askedOf_43 (lv_at hl 0 rfl) ?_
    cases h
    exact e_iret C hr hR hS (Nat.le_of_ble_eq_true rfl) (Nat.le_of_ble_eq_true rfl) dX0_askedOf_45
  have LP : ∀ (fu : Nat) (x101 : Int32) (x102 : Int32) (H : Heap) (locs : List Loc) (ls : Array Slot), mX0_askedOf_L6 u0 i0 x1 x2 x3 w104 fu x101 x102 = some out → Rel E a u0 H → va_S (AE E) s.heap H locs → lv_has ls 6 [(0, .ref (a 0 i0)), (1, .int x1), (2, .int x2), (3, .int x3), (4, .int x101), (5, .int x102)] → W p l e { frames := 2, cells := 0, slots := 0, locals := 46 } s m args below meth c H locs 0 0 (MQ below (QW E a (some (.int out)) u0) args s 0 0 (AE E)) (F0 m 6 ls []) := by
    intro fu
    induction fu with
    | zero =>
      intro x101 x102 H locs ls h
      have h2 : (none : Option Int32) = some out := h
      cases h2
    | succ fu ih =>
      intro x101 x102 H locs ls h hR hS hl
      rw [mX0_askedOf_L6.eq_2] at h
      refine lv_iload hx hb dX0_askedOf_6 (lv_at hl 5 rfl) ?_
      refine lv_aload_n hx hb dX0_askedOf_8 rfl (lv_at hl 0 rfl) ?_
      refine r_get C hR 0 i0 0 (v := .int (gI u0 0 i0 0)) (lv0 hi0 (by decide)) (by decide) (by decide) rfl fl_X0_9 dX0_askedOf_9 ?_
      refine lv_icmp_ge (tgt := 43) hx hb dX0_askedOf_12 (by decide) (fun c_105 => ?_) (fun c_105 => ?_)
      · rw [if_pos c_105] at h
        exact Kw104 _ _ _ _ h hR hS (lv_sub hl [4] rfl)
      · rw [if_neg c_105] at h
        refine lv_iload hx hb dX0_askedOf_15 (lv_at hl 4 rfl) ?_
        refine lv_aload_n hx hb dX0_askedOf_17 rfl (lv_at hl 0 rfl) ?_
        refine lv_iload hx hb dX0_askedOf_18 (lv_at hl 5 rfl) ?_
        refine lv_iload_n hx hb dX0_askedOf_20 rfl (lv_at hl 1 rfl) ?_
        refine lv_iload_n hx hb dX0_askedOf_21 rfl (lv_at hl 2 rfl) ?_
        refine lv_iload_n hx hb dX0_askedOf_22 rfl (lv_at hl 3 rfl) ?_
        obtain ⟨x107, hc106, h⟩ := ob h
        refine r_callV1 (As := [.int x102, .int x1, .int x2, .int x3]) (rest := [.int x101]) (r := 0) (i := i0) C (vX0_inGroup hi0 hc106) hR hS (lv0 hi0 (by decide)) (by decide) ml_X0_72 mw_X0_inGroup rfl ⟨Nat.le_of_ble_eq_true rfl, Nat.le_of_ble_eq_true rfl, Nat.le_of_ble_eq_true rfl, Nat.le_of_ble_eq_true rfl⟩ hl.1 rfl (Nat.le_of_ble_eq_true rfl) dX0_askedOf_23 (fun H locs hR hS => ?_)
        obtain ⟨x108, hz, h⟩ := ob h
        have Kj109 : ∀ (H : Heap) (locs : List Loc) (ls : Array Slot), Rel E a u0 H → va_S (AE E) s.heap H locs → lv_has ls 6 [(0, .ref (a 0 i0)), (1, .int x1), (2, .int x2), (3, .int x3), (5, .int x102)] → W p l e { frames := 2, cells := 0, slots := 0, locals := 46 } s m args below meth c H locs 0 0 (MQ below (QW E a (some (.int out)) u0) args s 0 0 (AE E)) (F0 m 34 ls [.int x108, .int x101]) := by
          intro H locs ls hR hS hl
          clear hz
          refine lv_iadd hx hb dX0_askedOf_34 ?_
          refine lv_topi (fun x110 ex110 => ?_)
          replace h := bd_x ex110 h
          refine lv_istore (lv' := [(4, .int x110), (0, .ref (a 0 i0)), (1, .int x1), (2, .int x2), (3, .int x3), (5, .int x102)]) hx hb dX0_askedOf_35 hl (by decide) rfl (fun ls hl => ?_)
          obtain ⟨x111, ex111⟩ : ∃ z : Int32, z = x102 + 1 := ⟨_, rfl⟩
          replace h := bd_x ex111 h
          refine lv_iinc (v := x111) (lv' := [(5, .int x111), (4, .int x110), (0, .ref (a 0 i0)), (1, .int x1), (2, .int x2), (3, .int x3)]) hx hb dX0_askedOf_37 hl (k := 5) rfl (by rw [ex111]; rfl) (by decide) rfl (fun ls hl => ?_)
          refine lv_goto (tgt := 6) hx hb dX0_askedOf_40 (by decide) ?_
          exact ih _ _ _ _ _ h hR hS (lv_sub hl [2, 3, 4, 5, 1, 0] rfl)
        clear h
        have h := hz
        clear hz
        refine lv_if_eq (tgt := 33) hx hb dX0_askedOf_26 (by decide) (fun c_112 => ?_) (fun c_112 => ?_)
        · rw [if_pos c_112] at h
          refine lv_iconst (v := 0) hx hb dX0_askedOf_33 (by decide) ?_
          cases h
          exact Kj109 _ _ _ hR hS (lv_sub hl [0, 1, 2, 3, 5] rfl)
        · rw [if_neg c_112] at h
          refine lv_iconst (v := 1) hx hb dX0_askedOf_29 (by decide) ?_
          refine lv_goto (tgt := 34) hx hb dX0_askedOf_30 (by decide) ?_
          cases h
          exact Kj109 _ _ _ hR hS (lv_sub hl [0, 1, 2, 3, 5] rfl)
  exact LP FU _ _ _ _ _ h hR hS (lv_sub hl [2, 3, 4, 5, 1, 0] rfl)
set_option maxHeartbeats 4000000 in
set_option maxRecDepth 100000 in
theorem vX0_yesOf {l : Launch} {E : EV} {a : Nat → Nat → Nat} {u0 : HS} {i0 : Nat} {x1 : Int32} {x2 : Int32} {x3 : Int32} {out : Int32} (hi0 : i0 < cntS 0) (h : mX0_yesOf u0 i0 x1 x2 x3 = some out) : Ct l E yX0_yesOf cX0_yesOf 6 (some .int) 2 46 0 0 a u0 [.ref (a 0 i0), .int x1, .int x2, .int x3] (some (.int out)) u0 := by
  refine Ct.start (by decide) (Nat.le_of_ble_eq_true rfl) ?_
  intro p e s m args below meth c ls C hr hR hS hl
  have C : Cx E p s m args meth c cX0_yesOf 6 RX0 := C
  have hl : lv_has ls 6 [(0, .ref (a 0 i0)), (1, .int x1), (2, .int x2), (3, .int x3)] := hl
  have hx := C.1
  have hb := C.2.1
  unfold mX0_yesOf at h
  refine lv_iconst (v := 0) hx hb dX0_yesOf_0 (by decide) ?_
  refine lv_istore (lv' := [(4, .int 0), (0, .ref (a 0 i0)), (1, .int x1), (2, .int x2), (3, .int x3)]) hx hb dX0_yesOf_1 hl (by decide) rfl (fun ls hl => ?_)
  refine lv_iconst (v := 0) hx hb dX0_yesOf_3 (by decide) ?_
  refine lv_istore (lv' := [(5, .int 0), (4, .int 0), (0, .ref (a 0 i0)), (1, .int x1), (2, .int x2), (3, .int x3)]) hx hb dX0_yesOf_4 hl (by decide) rfl (fun ls hl => ?_)
  refine jp_cut h (fun w104 hw104 h => ?_)
  have Kw104 : ∀ (x103 : Int32) (H : Heap) (locs : List Loc) (ls : Array Slot), w104 x103 = some out → Rel E a u0 H → va_S (AE E) s.heap H locs → lv_has ls 6 [(4, .int x103)] → W p l e { frames := 2, cells := 0, slots := 0, locals := 46 } s m args below meth c H locs 0 0 (MQ below (QW E a (some (.int out)) u0) args s 0 0 (AE E)) (F0 m 49 ls []) := by
    intro x103 H locs ls h hR hS hl
    replace h := jx1 hw104 h
    refine lv_iload hx hb dX0_yesOf_49 (lv_at hl 0 rfl) ?_
    cases h
    exact e_iret C hr hR hS (Nat.le_of_ble_eq_true rfl) (Nat.le_of_ble_eq_true rfl) dX0_yesOf_51
  have LP : ∀ (fu : Nat) (x101 : Int32) (x102 : Int32) (H : Heap) (locs : List Loc) (ls : Array Slot), mX0_yesOf_L6 u0 i0 x1 x2 x3 w104 fu x101 x102 = some out → Rel E a u0 H → va_S (AE E) s.heap H locs → lv_has ls 6 [(0, .ref (a 0 i0)), (1, .int x1), (2, .int x2), (3, .int x3), (4, .int x101), (5, .int x102)] → W p l e { frames := 2, cells := 0, slots := 0, locals := 46 } s m args below meth c H locs 0 0 (MQ below (QW E a (some (.int out)) u0) args s 0 0 (AE E)) (F0 m 6 ls []) := by
    intro fu
    induction fu with
    | zero =>
      intro x101 x102 H locs ls h
      have h2 : (none : Option Int32) = some out := h
      cases h2
    | succ fu ih =>
      intro x101 x102 H locs ls h hR hS hl
      rw [mX0_yesOf_L6.eq_2] at h
      refine lv_iload hx hb dX0_yesOf_6 (lv_at hl 5 rfl) ?_
      refine lv_aload_n hx hb dX0_yesOf_8 rfl (lv_at hl 0 rfl) ?_
      refine r_get C hR 0 i0 0 (v := .int (gI u0 0 i0 0)) (lv0 hi0 (by decide)) (by decide) (by decide) rfl fl_X0_9 dX0_yesOf_9 ?_
      refine lv_icmp_ge (tgt := 49) hx hb dX0_yesOf_12 (by decide) (fun c_105 => ?_) (fun c_105 => ?_)
      · rw [if_pos c_105] at h
        exact Kw104 _ _ _ _ h hR hS (lv_sub hl [4] rfl)
      · rw [if_neg c_105] at h
        refine lv_iload hx hb dX0_yesOf_15 (lv_at hl 4 rfl) ?_
        refine lv_aload_n hx hb dX0_yesOf_17 rfl (lv_at hl 0 rfl) ?_
        refine lv_iload hx hb dX0_yesOf_18 (lv_at hl 5 rfl) ?_
        refine lv_iload_n hx hb dX0_yesOf_20 rfl (lv_at hl 1 rfl) ?_
        refine lv_iload_n hx hb dX0_yesOf_21 rfl (lv_at hl 2 rfl) ?_
        refine lv_iload_n hx hb dX0_yesOf_22 rfl (lv_at hl 3 rfl) ?_
        obtain ⟨x107, hc106, h⟩ := ob h
        refine r_callV1 (As := [.int x102, .int x1, .int x2, .int x3]) (rest := [.int x101]) (r := 0) (i := i0) C (vX0_inGroup hi0 hc106) hR hS (lv0 hi0 (by decide)) (by decide) ml_X0_72 mw_X0_inGroup rfl ⟨Nat.le_of_ble_eq_true rfl, Nat.le_of_ble_eq_true rfl, Nat.le_of_ble_eq_true rfl, Nat.le_of_ble_eq_true rfl⟩ hl.1 rfl (Nat.le_of_ble_eq_true rfl) dX0_yesOf_23 (fun H locs hR hS => ?_)
        obtain ⟨x108, hz, h⟩ := ob h
        have Kj109 : ∀ (H : Heap) (locs : List Loc) (ls : Array Slot), Rel E a u0 H → va_S (AE E) s.heap H locs → lv_has ls 6 [(0, .ref (a 0 i0)), (1, .int x1), (2, .int x2), (3, .int x3), (5, .int x102)] → W p l e { frames := 2, cells := 0, slots := 0, locals := 46 } s m args below meth c H locs 0 0 (MQ below (QW E a (some (.int out)) u0) args s 0 0 (AE E)) (F0 m 40 ls [.int x108, .int x101]) := by
          intro H locs ls hR hS hl
          clear hz
          refine lv_iadd hx hb dX0_yesOf_40 ?_
          refine lv_topi (fun x110 ex110 => ?_)
          replace h := bd_x ex110 h
          refine lv_istore (lv' := [(4, .int x110), (0, .ref (a 0 i0)), (1, .int x1), (2, .int x2), (3, .int x3), (5, .int x102)]) hx hb dX0_yesOf_41 hl (by decide) rfl (fun ls hl => ?_)
          obtain ⟨x111, ex111⟩ : ∃ z : Int32, z = x102 + 1 := ⟨_, rfl⟩
          replace h := bd_x ex111 h
          refine lv_iinc (v := x111) (lv' := [(5, .int x111), (4, .int x110), (0, .ref (a 0 i0)), (1, .int x1), (2, .int x2), (3, .int x3)]) hx hb dX0_yesOf_43 hl (k := 5) rfl (by rw [ex111]; rfl) (by decide) rfl (fun ls hl => ?_)
          refine lv_goto (tgt := 6) hx hb dX0_yesOf_46 (by decide) ?_
          exact ih _ _ _ _ _ h hR hS (lv_sub hl [2, 3, 4, 5, 1, 0] rfl)
        clear h
        have h := hz
        clear hz
        refine lv_if_eq (tgt := 39) hx hb dX0_yesOf_26 (by decide) (fun c_112 => ?_) (fun c_112 => ?_)
        · rw [if_pos c_112] at h
          refine lv_iconst (v := 0) hx hb dX0_yesOf_39 (by decide) ?_
          cases h
          exact Kj109 _ _ _ hR hS (lv_sub hl [0, 1, 2, 3, 5] rfl)
        · rw [if_neg c_112] at h
          refine lv_aload_n hx hb dX0_yesOf_29 rfl (lv_at hl 0 rfl) ?_
          refine lv_iload hx hb dX0_yesOf_30 (lv_at hl 5 rfl) ?_
          refine lv_iload_n hx hb dX0_yesOf_32 rfl (lv_at hl 3 rfl) ?_
          obtain ⟨x114, hc113, h⟩ := ob h
          refine r_callV1 (As := [.int x102, .int x3]) (rest := [.int x101]) (r := 0) (i := i0) C (vX0_reply hi0 hc113) hR hS (lv0 hi0 (by decide)) (by decide) ml_X0_68 mw_X0_reply rfl ⟨Nat.le_of_ble_eq_true rfl, Nat.le_of_ble_eq_true rfl, Nat.le_of_ble_eq_true rfl, Nat.le_of_ble_eq_true rfl⟩ hl.1 rfl (Nat.le_of_ble_eq_true rfl) dX0_yesOf_33 (fun H locs hR hS => ?_)
          refine lv_goto (tgt := 40) hx hb dX0_yesOf_36 (by decide) ?_
          cases h
          exact Kj109 _ _ _ hR hS (lv_sub hl [0, 1, 2, 3, 5] rfl)
  exact LP FU _ _ _ _ _ h hR hS (lv_sub hl [2, 3, 4, 5, 1, 0] rfl)
set_option maxHeartbeats 4000000 in
set_option maxRecDepth 100000 in
theorem vX0_hasTallied {l : Launch} {E : EV} {a : Nat → Nat → Nat} {u0 : HS} {i0 : Nat} {x1 : Int32} {x2 : Int32} {x3 : Int32} {out : Int32} (hi0 : i0 < cntS 0) (h : mX0_hasTallied u0 i0 x1 x2 x3 = some out) : Ct l E yX0_hasTallied cX0_hasTallied 4 (some .boolean) 0 0 0 0 a u0 [.ref (a 0 i0), .int x1, .int x2, .int x3] (some (.int out)) u0 := by
  refine Ct.start (by decide) (Nat.le_of_ble_eq_true rfl) ?_
  intro p e s m args below meth c ls C hr hR hS hl
  have C : Cx E p s m args meth c cX0_hasTallied 4 RX0 := C
  have hl : lv_has ls 4 [(0, .ref (a 0 i0)), (1, .int x1), (2, .int x2), (3, .int x3)] := hl
  have hx := C.1
  have hb := C.2.1
  unfold mX0_hasTallied at h
  refine lv_aload_n hx hb dX0_hasTallied_0 rfl (lv_at hl 0 rfl) ?_
  refine r_get C hR 0 i0 1 (v := .ref (a 20 i0)) (lv0 hi0 (by decide)) (by decide) (by decide) rfl fl_X0_15 dX0_hasTallied_1 ?_
  refine lv_iload_n hx hb dX0_hasTallied_4 rfl (lv_at hl 1 rfl) ?_
  obtain ⟨k101, hk101, h⟩ := ob h
  refine r_ald C hR 20 i0 (lv0 hi0 (by decide)) (by decide) rfl (fun _ => rfl) rfl hk101 dX0_hasTallied_5 ?_
  refine lv_iload_n hx hb dX0_hasTallied_6 rfl (lv_at hl 2 rfl) ?_
  refine lv_icmp_ne (tgt := 34) hx hb dX0_hasTallied_7 (by decide) (fun c_102 => ?_) (fun c_102 => ?_)
  · rw [if_neg c_102] at h
    refine lv_iconst (v := 0) hx hb dX0_hasTallied_34 (by decide) ?_
    cases h
    exact e_zret (v := 0) C hr rfl hR hS (Nat.le_of_ble_eq_true rfl) (Nat.le_of_ble_eq_true rfl) dX0_hasTallied_35
  · rw [if_pos c_102] at h
    refine lv_aload_n hx hb dX0_hasTallied_10 rfl (lv_at hl 0 rfl) ?_
    refine r_get C hR 0 i0 2 (v := .ref (a 21 i0)) (lv0 hi0 (by decide)) (by decide) (by decide) rfl fl_X0_19 dX0_hasTallied_11 ?_
    refine lv_iload_n hx hb dX0_hasTallied_14 rfl (lv_at hl 1 rfl) ?_
    obtain ⟨k103, hk103, h⟩ := ob h
    refine r_ald C hR 21 i0 (lv0 hi0 (by decide)) (by decide) rfl (fun _ => rfl) rfl hk103 dX0_hasTallied_15 ?_
    refine lv_iload_n hx hb dX0_hasTallied_16 rfl (lv_at hl 3 rfl) ?_
    refine lv_icmp_ne (tgt := 34) hx hb dX0_hasTallied_17 (by decide) (fun c_104 => ?_) (fun c_104 => ?_)
    · rw [if_neg c_104] at h
      refine lv_iconst (v := 0) hx hb dX0_hasTallied_34 (by decide) ?_
      cases h
      exact e_zret (v := 0) C hr rfl hR hS (Nat.le_of_ble_eq_true rfl) (Nat.le_of_ble_eq_true rfl) dX0_hasTallied_35
    · rw [if_pos c_104] at h
      refine lv_aload_n hx hb dX0_hasTallied_20 rfl (lv_at hl 0 rfl) ?_
      refine r_get C hR 0 i0 5 (v := .ref (a 23 i0)) (lv0 hi0 (by decide)) (by decide) (by decide) rfl fl_X0_28 dX0_hasTallied_21 ?_
      refine lv_iload_n hx hb dX0_hasTallied_24 rfl (lv_at hl 1 rfl) ?_
      obtain ⟨k105, hk105, h⟩ := ob h
      refine r_ald C hR 23 i0 (lv0 hi0 (by decide)) (by decide) rfl (fun _ => rfl) rfl hk105 dX0_hasTallied_25 ?_
      refine lv_iconst (v := (-1)) hx hb dX0_hasTallied_26 (by decide) ?_
      refine lv_icmp_eq (tgt := 34) hx hb dX0_hasTallied_27 (by decide) (fun c_106 => ?_) (fun c_106 => ?_)
      · rw [if_pos c_106] at h
        refine lv_iconst (v := 0) hx hb dX0_hasTallied_34 (by decide) ?_
        cases h
        exact e_zret (v := 0) C hr rfl hR hS (Nat.le_of_ble_eq_true rfl) (Nat.le_of_ble_eq_true rfl) dX0_hasTallied_35
      · rw [if_neg c_106] at h
        refine lv_iconst (v := 1) hx hb dX0_hasTallied_30 (by decide) ?_
        refine lv_goto (tgt := 35) hx hb dX0_hasTallied_31 (by decide) ?_
        cases h
        exact e_zret (v := 1) C hr rfl hR hS (Nat.le_of_ble_eq_true rfl) (Nat.le_of_ble_eq_true rfl) dX0_hasTallied_35
set_option maxHeartbeats 4000000 in
set_option maxRecDepth 100000 in
theorem vX0_talliedOf {l : Launch} {E : EV} {a : Nat → Nat → Nat} {u0 : HS} {i0 : Nat} {x1 : Int32} {x2 : Int32} {out : Int32} (hi0 : i0 < cntS 0) (h : mX0_talliedOf u0 i0 x1 x2 = some out) : Ct l E yX0_talliedOf cX0_talliedOf 5 (some .int) 1 23 0 0 a u0 [.ref (a 0 i0), .int x1, .int x2] (some (.int out)) u0 := by
  refine Ct.start (by decide) (Nat.le_of_ble_eq_true rfl) ?_
  intro p e s m args below meth c ls C hr hR hS hl
  have C : Cx E p s m args meth c cX0_talliedOf 5 RX0 := C
  have hl : lv_has ls 5 [(0, .ref (a 0 i0)), (1, .int x1), (2, .int x2)] := hl
  have hx := C.1
  have hb := C.2.1
  unfold mX0_talliedOf at h
  refine lv_iconst (v := 0) hx hb dX0_talliedOf_0 (by decide) ?_
  refine lv_istore_n (lv' := [(3, .int 0), (0, .ref (a 0 i0)), (1, .int x1), (2, .int x2)]) hx hb dX0_talliedOf_1 rfl hl (by decide) rfl (fun ls hl => ?_)
  refine lv_iconst (v := 0) hx hb dX0_talliedOf_2 (by decide) ?_
  refine lv_istore (lv' := [(4, .int 0), (3, .int 0), (0, .ref (a 0 i0)), (1, .int x1), (2, .int x2)]) hx hb dX0_talliedOf_3 hl (by decide) rfl (fun ls hl => ?_)
  refine jp_cut h (fun w104 hw104 h => ?_)
  have Kw104 : ∀ (x103 : Int32) (H : Heap) (locs : List Loc) (ls : Array Slot), w104 x103 = some out → Rel E a u0 H → va_S (AE E) s.heap H locs → lv_has ls 5 [(3, .int x103)] → W p l e { frames := 1, cells := 0, slots := 0, locals := 23 } s m args below meth c H locs 0 0 (MQ below (QW E a (some (.int out)) u0) args s 0 0 (AE E)) (F0 m 39 ls []) := by
    intro x103 H locs ls h hR hS hl
    replace h := jx1 hw104 h
    refine lv_iload_n hx hb dX0_talliedOf_39 rfl (lv_at hl 0 rfl) ?_
    cases h
    exact e_iret C hr hR hS (Nat.le_of_ble_eq_true rfl) (Nat.le_of_ble_eq_true rfl) dX0_talliedOf_40
  have LP : ∀ (fu : Nat) (x101 : Int32) (x102 : Int32) (H : Heap) (locs : List Loc) (ls : Array Slot), mX0_talliedOf_L5 u0 i0 x1 x2 w104 fu x101 x102 = some out → Rel E a u0 H → va_S (AE E) s.heap H locs → lv_has ls 5 [(0, .ref (a 0 i0)), (1, .int x1), (2, .int x2), (3, .int x101), (4, .int x102)] → W p l e { frames := 1, cells := 0, slots := 0, locals := 23 } s m args below meth c H locs 0 0 (MQ below (QW E a (some (.int out)) u0) args s 0 0 (AE E)) (F0 m 5 ls []) := by
    intro fu
    induction fu with
    | zero =>
      intro x101 x102 H locs ls h
      have h2 : (none : Option Int32) = some out := h
      cases h2
    | succ fu ih =>
      intro x101 x102 H locs ls h hR hS hl
      rw [mX0_talliedOf_L5.eq_2] at h
      refine lv_iload hx hb dX0_talliedOf_5 (lv_at hl 4 rfl) ?_
      refine lv_aload_n hx hb dX0_talliedOf_7 rfl (lv_at hl 0 rfl) ?_
      refine r_get C hR 0 i0 0 (v := .int (gI u0 0 i0 0)) (lv0 hi0 (by decide)) (by decide) (by decide) rfl fl_X0_9 dX0_talliedOf_8 ?_
      refine lv_icmp_ge (tgt := 39) hx hb dX0_talliedOf_11 (by decide) (fun c_105 => ?_) (fun c_105 => ?_)
      · rw [if_pos c_105] at h
        exact Kw104 _ _ _ _ h hR hS (lv_sub hl [3] rfl)
      · rw [if_neg c_105] at h
        refine lv_iload_n hx hb dX0_talliedOf_14 rfl (lv_at hl 3 rfl) ?_
        refine lv_aload_n hx hb dX0_talliedOf_15 rfl (lv_at hl 0 rfl) ?_
        refine lv_iload hx hb dX0_talliedOf_16 (lv_at hl 4 rfl) ?_
        refine lv_iload_n hx hb dX0_talliedOf_18 rfl (lv_at hl 1 rfl) ?_
        refine lv_iload_n hx hb dX0_talliedOf_19 rfl (lv_at hl 2 rfl) ?_
        obtain ⟨x107, hc106, h⟩ := ob h
        refine r_callV1 (As := [.int x102, .int x1, .int x2]) (rest := [.int x101]) (r := 0) (i := i0) C (vX0_hasTallied hi0 hc106) hR hS (lv0 hi0 (by decide)) (by decide) ml_X0_76 mw_X0_hasTallied rfl ⟨Nat.le_of_ble_eq_true rfl, Nat.le_of_ble_eq_true rfl, Nat.le_of_ble_eq_true rfl, Nat.le_of_ble_eq_true rfl⟩ hl.1 rfl (Nat.le_of_ble_eq_true rfl) dX0_talliedOf_20 (fun H locs hR hS => ?_)
        obtain ⟨x108, hz, h⟩ := ob h
        have Kj109 : ∀ (H : Heap) (locs : List Loc) (ls : Array Slot), Rel E a u0 H → va_S (AE E) s.heap H locs → lv_has ls 5 [(0, .ref (a 0 i0)), (1, .int x1), (2, .int x2), (4, .int x102)] → W p l e { frames := 1, cells := 0, slots := 0, locals := 23 } s m args below meth c H locs 0 0 (MQ below (QW E a (some (.int out)) u0) args s 0 0 (AE E)) (F0 m 31 ls [.int x108, .int x101]) := by
          intro H locs ls hR hS hl
          clear hz
          refine lv_iadd hx hb dX0_talliedOf_31 ?_
          refine lv_topi (fun x110 ex110 => ?_)
          replace h := bd_x ex110 h
          refine lv_istore_n (lv' := [(3, .int x110), (0, .ref (a 0 i0)), (1, .int x1), (2, .int x2), (4, .int x102)]) hx hb dX0_talliedOf_32 rfl hl (by decide) rfl (fun ls hl => ?_)
          obtain ⟨x111, ex111⟩ : ∃ z : Int32, z = x102 + 1 := ⟨_, rfl⟩
          replace h := bd_x ex111 h
          refine lv_iinc (v := x111) (lv' := [(4, .int x111), (3, .int x110), (0, .ref (a 0 i0)), (1, .int x1), (2, .int x2)]) hx hb dX0_talliedOf_33 hl (k := 4) rfl (by rw [ex111]; rfl) (by decide) rfl (fun ls hl => ?_)
          refine lv_goto (tgt := 5) hx hb dX0_talliedOf_36 (by decide) ?_
          exact ih _ _ _ _ _ h hR hS (lv_sub hl [2, 3, 4, 1, 0] rfl)
        clear h
        have h := hz
        clear hz
        refine lv_if_eq (tgt := 30) hx hb dX0_talliedOf_23 (by decide) (fun c_112 => ?_) (fun c_112 => ?_)
        · rw [if_pos c_112] at h
          refine lv_iconst (v := 0) hx hb dX0_talliedOf_30 (by decide) ?_
          cases h
          exact Kj109 _ _ _ hR hS (lv_sub hl [0, 1, 2, 4] rfl)
        · rw [if_neg c_112] at h
          refine lv_iconst (v := 1) hx hb dX0_talliedOf_26 (by decide) ?_
          refine lv_goto (tgt := 31) hx hb dX0_talliedOf_27 (by decide) ?_
          cases h
          exact Kj109 _ _ _ hR hS (lv_sub hl [0, 1, 2, 4] rfl)
  exact LP FU _ _ _ _ _ h hR hS (lv_sub hl [2, 3, 4, 1, 0] rfl)
set_option maxHeartbeats 4000000 in
set_option maxRecDepth 100000 in
theorem vX0_copyFrom {l : Launch} {E : EV} {a : Nat → Nat → Nat} {u0 : HS} {i0 : Nat} {i1 : Nat} {out : HS} (hi0 : i0 < cntS 0) (hi1 : i1 < cntS 0) (h : mX0_copyFrom u0 i0 i1 = some out) : Ct l E yX0_copyFrom cX0_copyFrom 2 none 1 64 0 0 a u0 [.ref (a 0 i0), .ref (a 0 i1)] none out := by
  refine Ct.start (by decide) (Nat.le_of_ble_eq_true rfl) ?_
  intro p e s m args below meth c ls C hr hR hS hl
  have C : Cx E p s m args meth c cX0_copyFrom 2 RX0 := C
  have hl : lv_has ls 2 [(0, .ref (a 0 i0)), (1, .ref (a 0 i1))] := hl
  have hx := C.1
  have hb := C.2.1
  unfold mX0_copyFrom at h
  refine lv_aload_n hx hb dX0_copyFrom_0 rfl (lv_at hl 0 rfl) ?_
  refine lv_aload_n hx hb dX0_copyFrom_1 rfl (lv_at hl 1 rfl) ?_
  refine r_get C hR 0 i1 0 (v := .int (gI u0 0 i1 0)) (lv0 hi1 (by decide)) (by decide) (by decide) rfl fl_X0_9 dX0_copyFrom_2 ?_
  refine r_putI (ty := .int) C hR hS 0 i0 0 (lv0 hi0 (by decide)) (by decide) (by decide) (fun _ => rfl) fl_X0_9 (by decide) (by decide +kernel) rfl rfl dX0_copyFrom_5 (fun H locs hR hS => ?_)
  obtain ⟨u101, eu101⟩ : ∃ z : HS, z = wI u0 0 i0 0 (gI u0 0 i1 0) := ⟨_, rfl⟩
  rw [← eu101] at hR
  replace h := bd_x eu101 h
  clear eu101
  refine lv_aload_n hx hb dX0_copyFrom_8 rfl (lv_at hl 1 rfl) ?_
  refine r_get C hR 0 i1 1 (v := .ref (a 20 i1)) (lv0 hi1 (by decide)) (by decide) (by decide) rfl fl_X0_15 dX0_copyFrom_9 ?_
  refine lv_iconst (v := 0) hx hb dX0_copyFrom_12 (by decide) ?_
  refine lv_aload_n hx hb dX0_copyFrom_13 rfl (lv_at hl 0 rfl) ?_
  refine r_get C hR 0 i0 1 (v := .ref (a 20 i0)) (lv0 hi0 (by decide)) (by decide) (by decide) rfl fl_X0_15 dX0_copyFrom_14 ?_
  refine lv_iconst (v := 0) hx hb dX0_copyFrom_17 (by decide) ?_
  refine lv_bipush (v := 14) hx hb dX0_copyFrom_18 (by decide) ?_
  refine r_copy C hR hS 20 i1 i0 (lv0 hi1 (by decide)) (lv0 hi0 (by decide)) (by decide) rfl (fun _ _ _ => rfl) (fun _ => rfl) (by decide) ml_X0_80 hl.1 (Nat.le_of_ble_eq_true rfl) (Nat.le_of_ble_eq_true rfl) dX0_copyFrom_20 (fun H locs hR hS => ?_)
  obtain ⟨u102, eu102⟩ : ∃ z : HS, z = cpA u101 20 i1 i0 := ⟨_, rfl⟩
  rw [← eu102] at hR
  replace h := bd_x eu102 h
  clear eu102
  refine lv_aload_n hx hb dX0_copyFrom_23 rfl (lv_at hl 1 rfl) ?_
  refine r_get C hR 0 i1 2 (v := .ref (a 21 i1)) (lv0 hi1 (by decide)) (by decide) (by decide) rfl fl_X0_19 dX0_copyFrom_24 ?_
  refine lv_iconst (v := 0) hx hb dX0_copyFrom_27 (by decide) ?_
  refine lv_aload_n hx hb dX0_copyFrom_28 rfl (lv_at hl 0 rfl) ?_
  refine r_get C hR 0 i0 2 (v := .ref (a 21 i0)) (lv0 hi0 (by decide)) (by decide) (by decide) rfl fl_X0_19 dX0_copyFrom_29 ?_
  refine lv_iconst (v := 0) hx hb dX0_copyFrom_32 (by decide) ?_
  refine lv_bipush (v := 14) hx hb dX0_copyFrom_33 (by decide) ?_
  refine r_copy C hR hS 21 i1 i0 (lv0 hi1 (by decide)) (lv0 hi0 (by decide)) (by decide) rfl (fun _ _ _ => rfl) (fun _ => rfl) (by decide) ml_X0_80 hl.1 (Nat.le_of_ble_eq_true rfl) (Nat.le_of_ble_eq_true rfl) dX0_copyFrom_35 (fun H locs hR hS => ?_)
  obtain ⟨u103, eu103⟩ : ∃ z : HS, z = cpA u102 21 i1 i0 := ⟨_, rfl⟩
  rw [← eu103] at hR
  replace h := bd_x eu103 h
  clear eu103
  refine lv_aload_n hx hb dX0_copyFrom_38 rfl (lv_at hl 0 rfl) ?_
  refine lv_aload_n hx hb dX0_copyFrom_39 rfl (lv_at hl 1 rfl) ?_
  refine r_get C hR 0 i1 3 (v := .int (gI u103 0 i1 3)) (lv0 hi1 (by decide)) (by decide) (by decide) rfl fl_X0_22 dX0_copyFrom_40 ?_
  refine r_putI (ty := .int) C hR hS 0 i0 3 (lv0 hi0 (by decide)) (by decide) (by decide) (fun _ => rfl) fl_X0_22 (by decide) (by decide +kernel) rfl rfl dX0_copyFrom_43 (fun H locs hR hS => ?_)
  obtain ⟨u104, eu104⟩ : ∃ z : HS, z = wI u103 0 i0 3 (gI u103 0 i1 3) := ⟨_, rfl⟩
  rw [← eu104] at hR
  replace h := bd_x eu104 h
  clear eu104
  refine lv_aload_n hx hb dX0_copyFrom_46 rfl (lv_at hl 1 rfl) ?_
  refine r_get C hR 0 i1 4 (v := .ref (a 22 i1)) (lv0 hi1 (by decide)) (by decide) (by decide) rfl fl_X0_25 dX0_copyFrom_47 ?_
  refine lv_iconst (v := 0) hx hb dX0_copyFrom_50 (by decide) ?_
  refine lv_aload_n hx hb dX0_copyFrom_51 rfl (lv_at hl 0 rfl) ?_
  refine r_get C hR 0 i0 4 (v := .ref (a 22 i0)) (lv0 hi0 (by decide)) (by decide) (by decide) rfl fl_X0_25 dX0_copyFrom_52 ?_
  refine lv_iconst (v := 0) hx hb dX0_copyFrom_55 (by decide) ?_
  refine lv_bipush (v := 42) hx hb dX0_copyFrom_56 (by decide) ?_
  refine r_copy C hR hS 22 i1 i0 (lv0 hi1 (by decide)) (lv0 hi0 (by decide)) (by decide) rfl (fun _ _ _ => rfl) (fun _ => rfl) (by decide) ml_X0_80 hl.1 (Nat.le_of_ble_eq_true rfl) (Nat.le_of_ble_eq_true rfl) dX0_copyFrom_58 (fun H locs hR hS => ?_)
  obtain ⟨u105, eu105⟩ : ∃ z : HS, z = cpA u104 22 i1 i0 := ⟨_, rfl⟩
  rw [← eu105] at hR
  replace h := bd_x eu105 h
  clear eu105
  refine lv_aload_n hx hb dX0_copyFrom_61 rfl (lv_at hl 1 rfl) ?_
  refine r_get C hR 0 i1 5 (v := .ref (a 23 i1)) (lv0 hi1 (by decide)) (by decide) (by decide) rfl fl_X0_28 dX0_copyFrom_62 ?_
  refine lv_iconst (v := 0) hx hb dX0_copyFrom_65 (by decide) ?_
  refine lv_aload_n hx hb dX0_copyFrom_66 rfl (lv_at hl 0 rfl) ?_
  refine r_get C hR 0 i0 5 (v := .ref (a 23 i0)) (lv0 hi0 (by decide)) (by decide) (by decide) rfl fl_X0_28 dX0_copyFrom_67 ?_
  refine lv_iconst (v := 0) hx hb dX0_copyFrom_70 (by decide) ?_
  refine lv_bipush (v := 14) hx hb dX0_copyFrom_71 (by decide) ?_
  refine r_copy C hR hS 23 i1 i0 (lv0 hi1 (by decide)) (lv0 hi0 (by decide)) (by decide) rfl (fun _ _ _ => rfl) (fun _ => rfl) (by decide) ml_X0_80 hl.1 (Nat.le_of_ble_eq_true rfl) (Nat.le_of_ble_eq_true rfl) dX0_copyFrom_73 (fun H locs hR hS => ?_)
  obtain ⟨u106, eu106⟩ : ∃ z : HS, z = cpA u105 23 i1 i0 := ⟨_, rfl⟩
  rw [← eu106] at hR
  replace h := bd_x eu106 h
  clear eu106
  refine lv_aload_n hx hb dX0_copyFrom_76 rfl (lv_at hl 1 rfl) ?_
  refine r_get C hR 0 i1 6 (v := .ref (a 24 i1)) (lv0 hi1 (by decide)) (by decide) (by decide) rfl fl_X0_31 dX0_copyFrom_77 ?_
  refine lv_iconst (v := 0) hx hb dX0_copyFrom_80 (by decide) ?_
  refine lv_aload_n hx hb dX0_copyFrom_81 rfl (lv_at hl 0 rfl) ?_
  refine r_get C hR 0 i0 6 (v := .ref (a 24 i0)) (lv0 hi0 (by decide)) (by decide) (by decide) rfl fl_X0_31 dX0_copyFrom_82 ?_
  refine lv_iconst (v := 0) hx hb dX0_copyFrom_85 (by decide) ?_
  refine lv_bipush (v := 14) hx hb dX0_copyFrom_86 (by decide) ?_
  refine r_copy C hR hS 24 i1 i0 (lv0 hi1 (by decide)) (lv0 hi0 (by decide)) (by decide) rfl (fun _ _ _ => rfl) (fun _ => rfl) (by decide) ml_X0_80 hl.1 (Nat.le_of_ble_eq_true rfl) (Nat.le_of_ble_eq_true rfl) dX0_copyFrom_88 (fun H locs hR hS => ?_)
  obtain ⟨u107, eu107⟩ : ∃ z : HS, z = cpA u106 24 i1 i0 := ⟨_, rfl⟩
  rw [← eu107] at hR
  replace h := bd_x eu107 h
  clear eu107
  refine lv_aload_n hx hb dX0_copyFrom_91 rfl (lv_at hl 0 rfl) ?_
  refine lv_aload_n hx hb dX0_copyFrom_92 rfl (lv_at hl 1 rfl) ?_
  refine r_get C hR 0 i1 7 (v := .int (gI u107 0 i1 7)) (lv0 hi1 (by decide)) (by decide) (by decide) rfl fl_X0_34 dX0_copyFrom_93 ?_
  refine r_putI (ty := .int) C hR hS 0 i0 7 (lv0 hi0 (by decide)) (by decide) (by decide) (fun _ => rfl) fl_X0_34 (by decide) (by decide +kernel) rfl rfl dX0_copyFrom_96 (fun H locs hR hS => ?_)
  obtain ⟨u108, eu108⟩ : ∃ z : HS, z = wI u107 0 i0 7 (gI u107 0 i1 7) := ⟨_, rfl⟩
  rw [← eu108] at hR
  replace h := bd_x eu108 h
  clear eu108
  refine lv_aload_n hx hb dX0_copyFrom_99 rfl (lv_at hl 1 rfl) ?_
  refine r_get C hR 0 i1 8 (v := .ref (a 25 i1)) (lv0 hi1 (by decide)) (by decide) (by decide) rfl fl_X0_37 dX0_copyFrom_100 ?_
  refine lv_iconst (v := 0) hx hb dX0_copyFrom_103 (by decide) ?_
  refine lv_aload_n hx hb dX0_copyFrom_104 rfl (lv_at hl 0 rfl) ?_
  refine r_get C hR 0 i0 8 (v := .ref (a 25 i0)) (lv0 hi0 (by decide)) (by decide) (by decide) rfl fl_X0_37 dX0_copyFrom_105 ?_
  refine lv_iconst (v := 0) hx hb dX0_copyFrom_108 (by decide) ?_
  refine lv_bipush (v := 60) hx hb dX0_copyFrom_109 (by decide) ?_
  refine r_copy C hR hS 25 i1 i0 (lv0 hi1 (by decide)) (lv0 hi0 (by decide)) (by decide) rfl (fun _ _ _ => rfl) (fun _ => rfl) (by decide) ml_X0_80 hl.1 (Nat.le_of_ble_eq_true rfl) (Nat.le_of_ble_eq_true rfl) dX0_copyFrom_111 (fun H locs hR hS => ?_)
  obtain ⟨u109, eu109⟩ : ∃ z : HS, z = cpA u108 25 i1 i0 := ⟨_, rfl⟩
  rw [← eu109] at hR
  replace h := bd_x eu109 h
  clear eu109
  refine lv_aload_n hx hb dX0_copyFrom_114 rfl (lv_at hl 1 rfl) ?_
  refine r_get C hR 0 i1 9 (v := .ref (a 26 i1)) (lv0 hi1 (by decide)) (by decide) (by decide) rfl fl_X0_40 dX0_copyFrom_115 ?_
  refine lv_iconst (v := 0) hx hb dX0_copyFrom_118 (by decide) ?_
  refine lv_aload_n hx hb dX0_copyFrom_119 rfl (lv_at hl 0 rfl) ?_
  refine r_get C hR 0 i0 9 (v := .ref (a 26 i0)) (lv0 hi0 (by decide)) (by decide) (by decide) rfl fl_X0_40 dX0_copyFrom_120 ?_
  refine lv_iconst (v := 0) hx hb dX0_copyFrom_123 (by decide) ?_
  refine lv_bipush (v := 60) hx hb dX0_copyFrom_124 (by decide) ?_
  refine r_copy C hR hS 26 i1 i0 (lv0 hi1 (by decide)) (lv0 hi0 (by decide)) (by decide) rfl (fun _ _ _ => rfl) (fun _ => rfl) (by decide) ml_X0_80 hl.1 (Nat.le_of_ble_eq_true rfl) (Nat.le_of_ble_eq_true rfl) dX0_copyFrom_126 (fun H locs hR hS => ?_)
  obtain ⟨u110, eu110⟩ : ∃ z : HS, z = cpA u109 26 i1 i0 := ⟨_, rfl⟩
  rw [← eu110] at hR
  replace h := bd_x eu110 h
  clear eu110
  refine lv_aload_n hx hb dX0_copyFrom_129 rfl (lv_at hl 1 rfl) ?_
  refine r_get C hR 0 i1 10 (v := .ref (a 27 i1)) (lv0 hi1 (by decide)) (by decide) (by decide) rfl fl_X0_43 dX0_copyFrom_130 ?_
  refine lv_iconst (v := 0) hx hb dX0_copyFrom_133 (by decide) ?_
  refine lv_aload_n hx hb dX0_copyFrom_134 rfl (lv_at hl 0 rfl) ?_
  refine r_get C hR 0 i0 10 (v := .ref (a 27 i0)) (lv0 hi0 (by decide)) (by decide) (by decide) rfl fl_X0_43 dX0_copyFrom_135 ?_
  refine lv_iconst (v := 0) hx hb dX0_copyFrom_138 (by decide) ?_
  refine lv_bipush (v := 60) hx hb dX0_copyFrom_139 (by decide) ?_
  refine r_copy C hR hS 27 i1 i0 (lv0 hi1 (by decide)) (lv0 hi0 (by decide)) (by decide) rfl (fun _ _ _ => rfl) (fun _ => rfl) (by decide) ml_X0_80 hl.1 (Nat.le_of_ble_eq_true rfl) (Nat.le_of_ble_eq_true rfl) dX0_copyFrom_141 (fun H locs hR hS => ?_)
  obtain ⟨u111, eu111⟩ : ∃ z : HS, z = cpA u110 27 i1 i0 := ⟨_, rfl⟩
  rw [← eu111] at hR
  replace h := bd_x eu111 h
  clear eu111
  refine lv_aload_n hx hb dX0_copyFrom_144 rfl (lv_at hl 0 rfl) ?_
  refine lv_aload_n hx hb dX0_copyFrom_145 rfl (lv_at hl 1 rfl) ?_
  refine r_get C hR 0 i1 11 (v := .int (gI u111 0 i1 11)) (lv0 hi1 (by decide)) (by decide) (by decide) rfl fl_X0_46 dX0_copyFrom_146 ?_
  refine r_putI (ty := .int) C hR hS 0 i0 11 (lv0 hi0 (by decide)) (by decide) (by decide) (fun _ => rfl) fl_X0_46 (by decide) (by decide +kernel) rfl rfl dX0_copyFrom_149 (fun H locs hR hS => ?_)
  obtain ⟨u112, eu112⟩ : ∃ z : HS, z = wI u111 0 i0 11 (gI u111 0 i1 11) := ⟨_, rfl⟩
  rw [← eu112] at hR
  replace h := bd_x eu112 h
  clear eu112
  refine lv_aload_n hx hb dX0_copyFrom_152 rfl (lv_at hl 1 rfl) ?_
  refine r_get C hR 0 i1 12 (v := .ref (a 28 i1)) (lv0 hi1 (by decide)) (by decide) (by decide) rfl fl_X0_49 dX0_copyFrom_153 ?_
  refine lv_iconst (v := 0) hx hb dX0_copyFrom_156 (by decide) ?_
  refine lv_aload_n hx hb dX0_copyFrom_157 rfl (lv_at hl 0 rfl) ?_
  refine r_get C hR 0 i0 12 (v := .ref (a 28 i0)) (lv0 hi0 (by decide)) (by decide) (by decide) rfl fl_X0_49 dX0_copyFrom_158 ?_
  refine lv_iconst (v := 0) hx hb dX0_copyFrom_161 (by decide) ?_
  refine lv_bipush (v := 40) hx hb dX0_copyFrom_162 (by decide) ?_
  refine r_copy C hR hS 28 i1 i0 (lv0 hi1 (by decide)) (lv0 hi0 (by decide)) (by decide) rfl (fun _ _ _ => rfl) (fun _ => rfl) (by decide) ml_X0_80 hl.1 (Nat.le_of_ble_eq_true rfl) (Nat.le_of_ble_eq_true rfl) dX0_copyFrom_164 (fun H locs hR hS => ?_)
  obtain ⟨u113, eu113⟩ : ∃ z : HS, z = cpA u112 28 i1 i0 := ⟨_, rfl⟩
  rw [← eu113] at hR
  replace h := bd_x eu113 h
  clear eu113
  refine lv_aload_n hx hb dX0_copyFrom_167 rfl (lv_at hl 1 rfl) ?_
  refine r_get C hR 0 i1 13 (v := .ref (a 29 i1)) (lv0 hi1 (by decide)) (by decide) (by decide) rfl fl_X0_52 dX0_copyFrom_168 ?_
  refine lv_iconst (v := 0) hx hb dX0_copyFrom_171 (by decide) ?_
  refine lv_aload_n hx hb dX0_copyFrom_172 rfl (lv_at hl 0 rfl) ?_
  refine r_get C hR 0 i0 13 (v := .ref (a 29 i0)) (lv0 hi0 (by decide)) (by decide) (by decide) rfl fl_X0_52 dX0_copyFrom_173 ?_
  refine lv_iconst (v := 0) hx hb dX0_copyFrom_176 (by decide) ?_
  refine lv_bipush (v := 40) hx hb dX0_copyFrom_177 (by decide) ?_
  refine r_copy C hR hS 29 i1 i0 (lv0 hi1 (by decide)) (lv0 hi0 (by decide)) (by decide) rfl (fun _ _ _ => rfl) (fun _ => rfl) (by decide) ml_X0_80 hl.1 (Nat.le_of_ble_eq_true rfl) (Nat.le_of_ble_eq_true rfl) dX0_copyFrom_179 (fun H locs hR hS => ?_)
  obtain ⟨u114, eu114⟩ : ∃ z : HS, z = cpA u113 29 i1 i0 := ⟨_, rfl⟩
  rw [← eu114] at hR
  replace h := bd_x eu114 h
  clear eu114
  refine lv_aload_n hx hb dX0_copyFrom_182 rfl (lv_at hl 1 rfl) ?_
  refine r_get C hR 0 i1 14 (v := .ref (a 30 i1)) (lv0 hi1 (by decide)) (by decide) (by decide) rfl fl_X0_55 dX0_copyFrom_183 ?_
  refine lv_iconst (v := 0) hx hb dX0_copyFrom_186 (by decide) ?_
  refine lv_aload_n hx hb dX0_copyFrom_187 rfl (lv_at hl 0 rfl) ?_
  refine r_get C hR 0 i0 14 (v := .ref (a 30 i0)) (lv0 hi0 (by decide)) (by decide) (by decide) rfl fl_X0_55 dX0_copyFrom_188 ?_
  refine lv_iconst (v := 0) hx hb dX0_copyFrom_191 (by decide) ?_
  refine lv_bipush (v := 40) hx hb dX0_copyFrom_192 (by decide) ?_
  refine r_copy C hR hS 30 i1 i0 (lv0 hi1 (by decide)) (lv0 hi0 (by decide)) (by decide) rfl (fun _ _ _ => rfl) (fun _ => rfl) (by decide) ml_X0_80 hl.1 (Nat.le_of_ble_eq_true rfl) (Nat.le_of_ble_eq_true rfl) dX0_copyFrom_194 (fun H locs hR hS => ?_)
  obtain ⟨u115, eu115⟩ : ∃ z : HS, z = cpA u114 30 i1 i0 := ⟨_, rfl⟩
  rw [← eu115] at hR
  replace h := bd_x eu115 h
  clear eu115
  refine lv_aload_n hx hb dX0_copyFrom_197 rfl (lv_at hl 1 rfl) ?_
  refine r_get C hR 0 i1 15 (v := .ref (a 31 i1)) (lv0 hi1 (by decide)) (by decide) (by decide) rfl fl_X0_58 dX0_copyFrom_198 ?_
  refine lv_iconst (v := 0) hx hb dX0_copyFrom_201 (by decide) ?_
  refine lv_aload_n hx hb dX0_copyFrom_202 rfl (lv_at hl 0 rfl) ?_
  refine r_get C hR 0 i0 15 (v := .ref (a 31 i0)) (lv0 hi0 (by decide)) (by decide) (by decide) rfl fl_X0_58 dX0_copyFrom_203 ?_
  refine lv_iconst (v := 0) hx hb dX0_copyFrom_206 (by decide) ?_
  refine lv_iconst (v := 4) hx hb dX0_copyFrom_207 (by decide) ?_
  refine r_copy C hR hS 31 i1 i0 (lv0 hi1 (by decide)) (lv0 hi0 (by decide)) (by decide) rfl (fun _ _ _ => rfl) (fun _ => rfl) (by decide) ml_X0_80 hl.1 (Nat.le_of_ble_eq_true rfl) (Nat.le_of_ble_eq_true rfl) dX0_copyFrom_208 (fun H locs hR hS => ?_)
  obtain ⟨u116, eu116⟩ : ∃ z : HS, z = cpA u115 31 i1 i0 := ⟨_, rfl⟩
  rw [← eu116] at hR
  replace h := bd_x eu116 h
  clear eu116
  refine lv_aload_n hx hb dX0_copyFrom_211 rfl (lv_at hl 0 rfl) ?_
  refine lv_aload_n hx hb dX0_copyFrom_212 rfl (lv_at hl 1 rfl) ?_
  refine r_get C hR 0 i1 16 (v := .int (gI u116 0 i1 16)) (lv0 hi1 (by decide)) (by decide) (by decide) rfl fl_X0_61 dX0_copyFrom_213 ?_
  refine r_putI (ty := .int) C hR hS 0 i0 16 (lv0 hi0 (by decide)) (by decide) (by decide) (fun _ => rfl) fl_X0_61 (by decide) (by decide +kernel) rfl rfl dX0_copyFrom_216 (fun H locs hR hS => ?_)
  obtain ⟨u117, eu117⟩ : ∃ z : HS, z = wI u116 0 i0 16 (gI u116 0 i1 16) := ⟨_, rfl⟩
  rw [← eu117] at hR
  replace h := bd_x eu117 h
  clear eu117
  cases h
  exact e_vret C hr hR hS (Nat.le_of_ble_eq_true rfl) (Nat.le_of_ble_eq_true rfl) dX0_copyFrom_219
set_option maxHeartbeats 4000000 in
set_option maxRecDepth 100000 in
theorem vX1_emit {l : Launch} {E : EV} {a : Nat → Nat → Nat} {u0 : HS} {i0 : Nat} {x1 : Int32} {out : HS} (hi0 : i0 < cntS 1) (h : mX1_emit u0 i0 x1 = some out) : Ct l E yX1_emit cX1_emit 2 none 0 0 0 0 a u0 [.ref (a 1 i0), .int x1] none out := by
  refine Ct.start (by decide) (Nat.le_of_ble_eq_true rfl) ?_
  intro p e s m args below meth c ls C hr hR hS hl
  have C : Cx E p s m args meth c cX1_emit 2 RX1 := C
  have hl : lv_has ls 2 [(0, .ref (a 1 i0)), (1, .int x1)] := hl
  have hx := C.1
  have hb := C.2.1
  unfold mX1_emit at h
  refine lv_aload_n hx hb dX1_emit_0 rfl (lv_at hl 0 rfl) ?_
  refine r_get C hR 1 i0 1 (v := .int (gI u0 1 i0 1)) (lv0 hi0 (by decide)) (by decide) (by decide) rfl fl_X1_15 dX1_emit_1 ?_
  refine lv_aload_n hx hb dX1_emit_4 rfl (lv_at hl 0 rfl) ?_
  refine r_get C hR 1 i0 0 (v := .ref (a 32 i0)) (lv0 hi0 (by decide)) (by decide) (by decide) rfl fl_X1_9 dX1_emit_5 ?_
  refine r_alen (n := 400) C hR 32 i0 0 (lv0 hi0 (by decide)) (by decide) rfl rfl rfl dX1_emit_8 ?_
  refine lv_icmp_ge (tgt := 32) hx hb dX1_emit_9 (by decide) (fun c_101 => ?_) (fun c_101 => ?_)
  · rw [if_pos c_101] at h
    cases h
    exact e_vret C hr hR hS (Nat.le_of_ble_eq_true rfl) (Nat.le_of_ble_eq_true rfl) dX1_emit_32
  · rw [if_neg c_101] at h
    refine lv_aload_n hx hb dX1_emit_12 rfl (lv_at hl 0 rfl) ?_
    refine r_get C hR 1 i0 0 (v := .ref (a 32 i0)) (lv0 hi0 (by decide)) (by decide) (by decide) rfl fl_X1_9 dX1_emit_13 ?_
    refine lv_aload_n hx hb dX1_emit_16 rfl (lv_at hl 0 rfl) ?_
    refine r_get C hR 1 i0 1 (v := .int (gI u0 1 i0 1)) (lv0 hi0 (by decide)) (by decide) (by decide) rfl fl_X1_15 dX1_emit_17 ?_
    refine lv_iload_n hx hb dX1_emit_20 rfl (lv_at hl 1 rfl) ?_
    obtain ⟨k102, hk102, h⟩ := ob h
    refine r_ast C hR hS 32 i0 (lv0 hi0 (by decide)) (by decide) rfl (fun _ _ => rfl) rfl hk102 dX1_emit_21 (fun H locs hR hS => ?_)
    obtain ⟨u103, eu103⟩ : ∃ z : HS, z = wI u0 32 i0 k102 x1 := ⟨_, rfl⟩
    rw [← eu103] at hR
    replace h := bd_x eu103 h
    clear eu103
    refine lv_aload_n hx hb dX1_emit_22 rfl (lv_at hl 0 rfl) ?_
    refine lv_dup hx hb dX1_emit_23 rfl ?_
    refine r_get C hR 1 i0 1 (v := .int (gI u103 1 i0 1)) (lv0 hi0 (by decide)) (by decide) (by decide) rfl fl_X1_15 dX1_emit_24 ?_
    refine lv_iconst (v := 1) hx hb dX1_emit_27 (by decide) ?_
    refine lv_iadd hx hb dX1_emit_28 ?_
    refine r_putI (ty := .int) C hR hS 1 i0 1 (lv0 hi0 (by decide)) (by decide) (by decide) (fun _ => rfl) fl_X1_15 (by decide) (by decide +kernel) rfl rfl dX1_emit_29 (fun H locs hR hS => ?_)
    obtain ⟨u104, eu104⟩ : ∃ z : HS, z = wI u103 1 i0 1 ((gI u103 1 i0 1) + 1) := ⟨_, rfl⟩
    rw [← eu104] at hR
    replace h := bd_x eu104 h
    clear eu104
    cases h
    exact e_vret C hr hR hS (Nat.le_of_ble_eq_true rfl) (Nat.le_of_ble_eq_true rfl) dX1_emit_32
set_option maxHeartbeats 4000000 in
set_option maxRecDepth 100000 in
theorem vX5_blame {l : Launch} {E : EV} {a : Nat → Nat → Nat} {u0 : HS} {x1 : Int32} {x2 : Int32} {out : HS} (h : mX5_blame u0 x1 x2 = some out) : Ct l E yX5_blame cX5_blame 3 none 0 0 0 0 a u0 [.ref (a 5 0), .int x1, .int x2] none out := by
  refine Ct.start (by decide) (Nat.le_of_ble_eq_true rfl) ?_
  intro p e s m args below meth c ls C hr hR hS hl
  have C : Cx E p s m args meth c cX5_blame 3 RX5 := C
  have hl : lv_has ls 3 [(0, .ref (a 5 0)), (1, .int x1), (2, .int x2)] := hl
  have hx := C.1
  have hb := C.2.1
  unfold mX5_blame at h
  refine lv_aload_n hx hb dX5_blame_0 rfl (lv_at hl 0 rfl) ?_
  refine r_get C hR 5 0 5 (v := .int (gI u0 5 0 5)) (lv0 (by decide) (by decide)) (by decide) (by decide) rfl fl_X5_28 dX5_blame_1 ?_
  refine lv_if_ne (tgt := 17) hx hb dX5_blame_4 (by decide) (fun c_101 => ?_) (fun c_101 => ?_)
  · rw [if_neg c_101] at h
    cases h
    exact e_vret C hr hR hS (Nat.le_of_ble_eq_true rfl) (Nat.le_of_ble_eq_true rfl) dX5_blame_17
  · rw [if_pos c_101] at h
    refine lv_aload_n hx hb dX5_blame_7 rfl (lv_at hl 0 rfl) ?_
    refine lv_iload_n hx hb dX5_blame_8 rfl (lv_at hl 1 rfl) ?_
    refine r_putI (ty := .int) C hR hS 5 0 5 (lv0 (by decide) (by decide)) (by decide) (by decide) (fun _ => rfl) fl_X5_28 (by decide) (by decide +kernel) rfl rfl dX5_blame_9 (fun H locs hR hS => ?_)
    obtain ⟨u102, eu102⟩ : ∃ z : HS, z = wI u0 5 0 5 x1 := ⟨_, rfl⟩
    rw [← eu102] at hR
    replace h := bd_x eu102 h
    clear eu102
    refine lv_aload_n hx hb dX5_blame_12 rfl (lv_at hl 0 rfl) ?_
    refine lv_iload_n hx hb dX5_blame_13 rfl (lv_at hl 2 rfl) ?_
    refine r_putI (ty := .int) C hR hS 5 0 6 (lv0 (by decide) (by decide)) (by decide) (by decide) (fun _ => rfl) fl_X5_31 (by decide) (by decide +kernel) rfl rfl dX5_blame_14 (fun H locs hR hS => ?_)
    obtain ⟨u103, eu103⟩ : ∃ z : HS, z = wI u102 5 0 6 x2 := ⟨_, rfl⟩
    rw [← eu103] at hR
    replace h := bd_x eu103 h
    clear eu103
    cases h
    exact e_vret C hr hR hS (Nat.le_of_ble_eq_true rfl) (Nat.le_of_ble_eq_true rfl) dX5_blame_17
set_option maxHeartbeats 4000000 in
set_option maxRecDepth 100000 in
theorem vX2_isTooDeep {l : Launch} {E : EV} {a : Nat → Nat → Nat} {u0 : HS} {x1 : Int32} {out : (Int32 × HS)} (h : mX2_isTooDeep u0 x1 = some out) : Ct l E yX2_isTooDeep cX2_isTooDeep 2 (some .boolean) 1 22 0 0 a u0 [.ref (a 2 0), .int x1] (some (.int out.1)) out.2 := by
  refine Ct.start (by decide) (Nat.le_of_ble_eq_true rfl) ?_
  intro p e s m args below meth c ls C hr hR hS hl
  have C : Cx E p s m args meth c cX2_isTooDeep 2 RX2 := C
  have hl : lv_has ls 2 [(0, .ref (a 2 0)), (1, .int x1)] := hl
  have hx := C.1
  have hb := C.2.1
  unfold mX2_isTooDeep at h
  refine lv_iload_n hx hb dX2_isTooDeep_0 rfl (lv_at hl 1 rfl) ?_
  refine lv_bipush (v := 6) hx hb dX2_isTooDeep_1 (by decide) ?_
  refine lv_icmp_lt (tgt := 23) hx hb dX2_isTooDeep_3 (by decide) (fun c_101 => ?_) (fun c_101 => ?_)
  · rw [if_pos c_101] at h
    refine lv_iconst (v := 0) hx hb dX2_isTooDeep_23 (by decide) ?_
    cases h
    exact e_zret (v := 0) C hr rfl hR hS (Nat.le_of_ble_eq_true rfl) (Nat.le_of_ble_eq_true rfl) dX2_isTooDeep_24
  · rw [if_neg c_101] at h
    refine lv_aload_n hx hb dX2_isTooDeep_6 rfl (lv_at hl 0 rfl) ?_
    refine r_get C hR 2 0 0 (v := .ref (a 5 0)) (lv0 (by decide) (by decide)) (by decide) (by decide) rfl fl_X2_18 dX2_isTooDeep_7 ?_
    refine lv_iconst (v := 3) hx hb dX2_isTooDeep_10 (by decide) ?_
    refine lv_aload_n hx hb dX2_isTooDeep_11 rfl (lv_at hl 0 rfl) ?_
    refine r_get C hR 2 0 0 (v := .ref (a 5 0)) (lv0 (by decide) (by decide)) (by decide) (by decide) rfl fl_X2_18 dX2_isTooDeep_12 ?_
    refine r_get C hR 5 0 4 (v := .int (gI u0 5 0 4)) (lv0 (by decide) (by decide)) (by decide) (by decide) rfl fl_X2_133 dX2_isTooDeep_15 ?_
    obtain ⟨u103, hc102, h⟩ := ob h
    refine r_callV0 (As := [.int 3, .int (gI u0 5 0 4)]) (rest := []) (r := 5) (i := 0) C (vX5_blame hc102) hR hS (lv0 (by decide) (by decide)) (by decide) ml_X2_136 mw_X5_blame rfl ⟨Nat.le_of_ble_eq_true rfl, Nat.le_of_ble_eq_true rfl, Nat.le_of_ble_eq_true rfl, Nat.le_of_ble_eq_true rfl⟩ hl.1 rfl (Nat.le_of_ble_eq_true rfl) dX2_isTooDeep_18 (fun H locs hR hS => ?_)
    refine lv_iconst (v := 1) hx hb dX2_isTooDeep_21 (by decide) ?_
    cases h
    exact e_zret (v := 1) C hr rfl hR hS (Nat.le_of_ble_eq_true rfl) (Nat.le_of_ble_eq_true rfl) dX2_isTooDeep_22
set_option maxHeartbeats 4000000 in
set_option maxRecDepth 100000 in
theorem vX5_skipBlanks {l : Launch} {E : EV} {a : Nat → Nat → Nat} {u0 : HS}  {out : HS} (h : mX5_skipBlanks u0 = some out) : Ct l E yX5_skipBlanks cX5_skipBlanks 1 none 0 0 0 0 a u0 [.ref (a 5 0)] none out := by
  refine Ct.start (by decide) (Nat.le_of_ble_eq_true rfl) ?_
  intro p e s m args below meth c ls C hr hR hS hl
  have C : Cx E p s m args meth c cX5_skipBlanks 1 RX5 := C
  have hl : lv_has ls 1 [(0, .ref (a 5 0))] := hl
  have hx := C.1
  have hb := C.2.1
  unfold mX5_skipBlanks at h
  refine jp_cut h (fun w103 hw103 h => ?_)
  have Kw103 : ∀ (u102 : HS) (H : Heap) (locs : List Loc) (ls : Array Slot), w103 u102 = some out → Rel E a u102 H → va_S (AE E) s.heap H locs → lv_has ls 1 [] → W p l e { frames := 0, cells := 0, slots := 0, locals := 0 } s m args below meth c H locs 0 0 (MQ below (QW E a none out) args s 0 0 (AE E)) (F0 m 38 ls []) := by
    intro u102 H locs ls h hR hS hl
    replace h := jx1 hw103 h
    cases h
    exact e_vret C hr hR hS (Nat.le_of_ble_eq_true rfl) (Nat.le_of_ble_eq_true rfl) dX5_skipBlanks_38
  have LP : ∀ (fu : Nat) (u101 : HS) (H : Heap) (locs : List Loc) (ls : Array Slot), mX5_skipBlanks_L0  w103 fu u101 = some out → Rel E a u101 H → va_S (AE E) s.heap H locs → lv_has ls 1 [(0, .ref (a 5 0))] → W p l e { frames := 0, cells := 0, slots := 0, locals := 0 } s m args below meth c H locs 0 0 (MQ below (QW E a none out) args s 0 0 (AE E)) (F0 m 0 ls []) := by
    intro fu
    induction fu with
    | zero =>
      intro u101 H locs ls h
      have h2 : (none : Option HS) = some out := h
      cases h2
    | succ fu ih =>
      intro u101 H locs ls h hR hS hl
      rw [mX5_skipBlanks_L0.eq_2] at h
      refine lv_aload_n hx hb dX5_skipBlanks_0 rfl (lv_at hl 0 rfl) ?_
      refine r_get C hR 5 0 3 (v := .int (gI u101 5 0 3)) (lv0 (by decide) (by decide)) (by decide) (by decide) rfl fl_X5_22 dX5_skipBlanks_1 ?_
      refine lv_aload_n hx hb dX5_skipBlanks_4 rfl (lv_at hl 0 rfl) ?_
      refine r_get C hR 5 0 2 (v := .int (gI u101 5 0 2)) (lv0 (by decide) (by decide)) (by decide) (by decide) rfl fl_X5_19 dX5_skipBlanks_5 ?_
      refine lv_icmp_ge (tgt := 38) hx hb dX5_skipBlanks_8 (by decide) (fun c_104 => ?_) (fun c_104 => ?_)
      · rw [if_pos c_104] at h
        exact Kw103 _ _ _ _ h hR hS (lv_sub hl [] rfl)
      · rw [if_neg c_104] at h
        refine lv_aload_n hx hb dX5_skipBlanks_11 rfl (lv_at hl 0 rfl) ?_
        refine r_get C hR 5 0 0 (v := .ref (a 45 0)) (lv0 (by decide) (by decide)) (by decide) (by decide) rfl fl_X5_9 dX5_skipBlanks_12 ?_
        refine lv_aload_n hx hb dX5_skipBlanks_15 rfl (lv_at hl 0 rfl) ?_
        refine r_get C hR 5 0 3 (v := .int (gI u101 5 0 3)) (lv0 (by decide) (by decide)) (by decide) (by decide) rfl fl_X5_22 dX5_skipBlanks_16 ?_
        obtain ⟨k105, hk105, h⟩ := ob h
        refine r_ald C hR 45 0 (lv0 (by decide) (by decide)) (by decide) rfl (fun _ => rfl) rfl hk105 dX5_skipBlanks_19 ?_
        refine lv_bipush (v := 32) hx hb dX5_skipBlanks_20 (by decide) ?_
        refine lv_icmp_ne (tgt := 38) hx hb dX5_skipBlanks_22 (by decide) (fun c_106 => ?_) (fun c_106 => ?_)
        · rw [if_neg c_106] at h
          exact Kw103 _ _ _ _ h hR hS (lv_sub hl [] rfl)
        · rw [if_pos c_106] at h
          refine lv_aload_n hx hb dX5_skipBlanks_25 rfl (lv_at hl 0 rfl) ?_
          refine lv_dup hx hb dX5_skipBlanks_26 rfl ?_
          refine r_get C hR 5 0 3 (v := .int (gI u101 5 0 3)) (lv0 (by decide) (by decide)) (by decide) (by decide) rfl fl_X5_22 dX5_skipBlanks_27 ?_
          refine lv_iconst (v := 1) hx hb dX5_skipBlanks_30 (by decide) ?_
          refine lv_iadd hx hb dX5_skipBlanks_31 ?_
          refine r_putI (ty := .int) C hR hS 5 0 3 (lv0 (by decide) (by decide)) (by decide) (by decide) (fun _ => rfl) fl_X5_22 (by decide) (by decide +kernel) rfl rfl dX5_skipBlanks_32 (fun H locs hR hS => ?_)
          obtain ⟨u107, eu107⟩ : ∃ z : HS, z = wI u101 5 0 3 ((gI u101 5 0 3) + 1) := ⟨_, rfl⟩
          rw [← eu107] at hR
          replace h := bd_x eu107 h
          clear eu107
          refine lv_goto (tgt := 0) hx hb dX5_skipBlanks_35 (by decide) ?_
          exact ih _ _ _ _ h hR hS (lv_sub hl [0] rfl)
  exact LP FU _ _ _ _ h hR hS (lv_sub hl [0] rfl)
set_option maxHeartbeats 4000000 in
set_option maxRecDepth 100000 in
theorem vX5_isAt {l : Launch} {E : EV} {a : Nat → Nat → Nat} {u0 : HS} {x1 : Int32} {x2 : Int32} {x3 : Int32} {out : Int32} (h : mX5_isAt u0 x1 x2 x3 = some out) : Ct l E yX5_isAt cX5_isAt 4 (some .boolean) 0 0 0 0 a u0 [.ref (a 5 0), .int x1, .int x2, .int x3] (some (.int out)) u0 := by
  refine Ct.start (by decide) (Nat.le_of_ble_eq_true rfl) ?_
  intro p e s m args below meth c ls C hr hR hS hl
  have C : Cx E p s m args meth c cX5_isAt 4 RX5 := C
  have hl : lv_has ls 4 [(0, .ref (a 5 0)), (1, .int x1), (2, .int x2), (3, .int x3)] := hl
  have hx := C.1
  have hb := C.2.1
  unfold mX5_isAt at h
  refine lv_iload_n hx hb dX5_isAt_0 rfl (lv_at hl 1 rfl) ?_
  refine lv_aload_n hx hb dX5_isAt_1 rfl (lv_at hl 0 rfl) ?_
  refine r_get C hR 5 0 2 (v := .int (gI u0 5 0 2)) (lv0 (by decide) (by decide)) (by decide) (by decide) rfl fl_X5_19 dX5_isAt_2 ?_
  refine lv_icmp_ge (tgt := 32) hx hb dX5_isAt_5 (by decide) (fun c_101 => ?_) (fun c_101 => ?_)
  · rw [if_pos c_101] at h
    refine lv_iconst (v := 0) hx hb dX5_isAt_32 (by decide) ?_
    cases h
    exact e_zret (v := 0) C hr rfl hR hS (Nat.le_of_ble_eq_true rfl) (Nat.le_of_ble_eq_true rfl) dX5_isAt_33
  · rw [if_neg c_101] at h
    refine lv_aload_n hx hb dX5_isAt_8 rfl (lv_at hl 0 rfl) ?_
    refine r_get C hR 5 0 0 (v := .ref (a 45 0)) (lv0 (by decide) (by decide)) (by decide) (by decide) rfl fl_X5_9 dX5_isAt_9 ?_
    refine lv_iload_n hx hb dX5_isAt_12 rfl (lv_at hl 1 rfl) ?_
    obtain ⟨k102, hk102, h⟩ := ob h
    refine r_ald C hR 45 0 (lv0 (by decide) (by decide)) (by decide) rfl (fun _ => rfl) rfl hk102 dX5_isAt_13 ?_
    refine lv_iload_n hx hb dX5_isAt_14 rfl (lv_at hl 2 rfl) ?_
    refine lv_icmp_lt (tgt := 32) hx hb dX5_isAt_15 (by decide) (fun c_103 => ?_) (fun c_103 => ?_)
    · rw [if_pos c_103] at h
      refine lv_iconst (v := 0) hx hb dX5_isAt_32 (by decide) ?_
      cases h
      exact e_zret (v := 0) C hr rfl hR hS (Nat.le_of_ble_eq_true rfl) (Nat.le_of_ble_eq_true rfl) dX5_isAt_33
    · rw [if_neg c_103] at h
      refine lv_aload_n hx hb dX5_isAt_18 rfl (lv_at hl 0 rfl) ?_
      refine r_get C hR 5 0 0 (v := .ref (a 45 0)) (lv0 (by decide) (by decide)) (by decide) (by decide) rfl fl_X5_9 dX5_isAt_19 ?_
      refine lv_iload_n hx hb dX5_isAt_22 rfl (lv_at hl 1 rfl) ?_
      obtain ⟨k104, hk104, h⟩ := ob h
      refine r_ald C hR 45 0 (lv0 (by decide) (by decide)) (by decide) rfl (fun _ => rfl) rfl hk104 dX5_isAt_23 ?_
      refine lv_iload_n hx hb dX5_isAt_24 rfl (lv_at hl 3 rfl) ?_
      refine lv_icmp_gt (tgt := 32) hx hb dX5_isAt_25 (by decide) (fun c_105 => ?_) (fun c_105 => ?_)
      · rw [if_pos c_105] at h
        refine lv_iconst (v := 0) hx hb dX5_isAt_32 (by decide) ?_
        cases h
        exact e_zret (v := 0) C hr rfl hR hS (Nat.le_of_ble_eq_true rfl) (Nat.le_of_ble_eq_true rfl) dX5_isAt_33
      · rw [if_neg c_105] at h
        refine lv_iconst (v := 1) hx hb dX5_isAt_28 (by decide) ?_
        refine lv_goto (tgt := 33) hx hb dX5_isAt_29 (by decide) ?_
        cases h
        exact e_zret (v := 1) C hr rfl hR hS (Nat.le_of_ble_eq_true rfl) (Nat.le_of_ble_eq_true rfl) dX5_isAt_33
set_option maxHeartbeats 4000000 in
set_option maxRecDepth 100000 in
theorem vX5_wordIn {l : Launch} {E : EV} {a : Nat → Nat → Nat} {u0 : HS} {i1 : Nat} {x2 : Int32} {out : Int32} (hi1 : i1 < 18) (h : mX5_wordIn u0 i1 x2 = some out) : Ct l E yX5_wordIn cX5_wordIn 7 (some .int) 4 90 0 0 a u0 [.ref (a 5 0), .ref (eK E i1), .int x2] (some (.int out)) u0 := by
  refine Ct.start (by decide) (Nat.le_of_ble_eq_true rfl) ?_
  intro p e s m args below meth c ls C hr hR hS hl
  have C : Cx E p s m args meth c cX5_wordIn 7 RX5 := C
  have hl : lv_has ls 7 [(0, .ref (a 5 0)), (1, .ref (eK E i1)), (2, .int x2)] := hl
  have hx := C.1
  have hb := C.2.1
  unfold mX5_wordIn at h
  refine lv_iconst (v := 0) hx hb dX5_wordIn_0 (by decide) ?_
  refine lv_istore_n (lv' := [(3, .int 0), (0, .ref (a 5 0)), (1, .ref (eK E i1)), (2, .int x2)]) hx hb dX5_wordIn_1 rfl hl (by decide) rfl (fun ls hl => ?_)
  refine lv_iconst (v := 0) hx hb dX5_wordIn_2 (by decide) ?_
  refine lv_istore (lv' := [(4, .int 0), (3, .int 0), (0, .ref (a 5 0)), (1, .ref (eK E i1)), (2, .int x2)]) hx hb dX5_wordIn_3 hl (by decide) rfl (fun ls hl => ?_)
  refine lv_iconst (v := 0) hx hb dX5_wordIn_5 (by decide) ?_
  refine lv_istore (lv' := [(5, .int 0), (4, .int 0), (3, .int 0), (0, .ref (a 5 0)), (1, .ref (eK E i1)), (2, .int x2)]) hx hb dX5_wordIn_6 hl (by decide) rfl (fun ls hl => ?_)
  refine jp_cut h (fun w104 hw104 h => ?_)
  have Kw104 : ∀  (H : Heap) (locs : List Loc) (ls : Array Slot), w104 = some out → Rel E a u0 H → va_S (AE E) s.heap H locs → lv_has ls 7 [] → W p l e { frames := 4, cells := 0, slots := 0, locals := 90 } s m args below meth c H locs 0 0 (MQ below (QW E a (some (.int out)) u0) args s 0 0 (AE E)) (F0 m 93 ls []) := by
    intro  H locs ls h hR hS hl
    replace h := jx0 hw104 h
    refine lv_iconst (v := (-1)) hx hb dX5_wordIn_93 (by decide) ?_
    cases h
    exact e_iret C hr hR hS (Nat.le_of_ble_eq_true rfl) (Nat.le_of_ble_eq_true rfl) dX5_wordIn_94
  have LP : ∀ (fu : Nat) (x101 : Int32) (x102 : Int32) (x103 : Int32) (H : Heap) (locs : List Loc) (ls : Array Slot), mX5_wordIn_L8 i1 x2 u0 w104 fu x101 x102 x103 = some out → Rel E a u0 H → va_S (AE E) s.heap H locs → lv_has ls 7 [(0, .ref (a 5 0)), (1, .ref (eK E i1)), (2, .int x2), (3, .int x101), (4, .int x102), (5, .int x103)] → W p l e { frames := 4, cells := 0, slots := 0, locals := 90 } s m args below meth c H locs 0 0 (MQ below (QW E a (some (.int out)) u0) args s 0 0 (AE E)) (F0 m 8 ls []) := by
    intro fu
    induction fu with
    | zero =>
      intro x101 x102 x103 H locs ls h
      have h2 : (none : Option Int32) = some out := h
      cases h2
    | succ fu ih =>
      intro x101 x102 x103 H locs ls h hR hS hl
      rw [mX5_wordIn_L8.eq_2] at h
      refine lv_iload hx hb dX5_wordIn_8 (lv_at hl 5 rfl) ?_
      refine lv_aload_n hx hb dX5_wordIn_10 rfl (lv_at hl 1 rfl) ?_
      refine r_slen C hi1 hR hS ml_X5_53 hl.1 (Nat.le_of_ble_eq_true rfl) (Nat.le_of_ble_eq_true rfl) (Nat.le_of_ble_eq_true rfl) (Nat.le_of_ble_eq_true rfl) (Nat.le_of_ble_eq_true rfl) dX5_wordIn_11 (fun H locs hR hS => ?_)
      refine lv_icmp_ge (tgt := 93) hx hb dX5_wordIn_14 (by decide) (fun c_105 => ?_) (fun c_105 => ?_)
      · rw [if_pos c_105] at h
        exact Kw104  _ _ _ h hR hS (lv_sub hl [] rfl)
      · rw [if_neg c_105] at h
        refine lv_aload_n hx hb dX5_wordIn_17 rfl (lv_at hl 1 rfl) ?_
        refine lv_iload hx hb dX5_wordIn_18 (lv_at hl 5 rfl) ?_
        obtain ⟨x106, hx106, h⟩ := ob h
        refine r_sch C hi1 hx106 hR hS ml_X5_59 hl.1 (Nat.le_of_ble_eq_true rfl) (Nat.le_of_ble_eq_true rfl) (Nat.le_of_ble_eq_true rfl) (Nat.le_of_ble_eq_true rfl) (Nat.le_of_ble_eq_true rfl) dX5_wordIn_20 (fun H locs hR hS => ?_)
        refine lv_istore (lv' := [(6, .int x106), (0, .ref (a 5 0)), (1, .ref (eK E i1)), (2, .int x2), (3, .int x101), (4, .int x102), (5, .int x103)]) hx hb dX5_wordIn_23 hl (by decide) rfl (fun ls hl => ?_)
        refine lv_iload hx hb dX5_wordIn_25 (lv_at hl 0 rfl) ?_
        refine lv_bipush (v := 32) hx hb dX5_wordIn_27 (by decide) ?_
        refine jp_cut h (fun j109 hj109 h => ?_)
        have Kj109 : ∀ (x107 : Int32) (x108 : Int32) (H : Heap) (locs : List Loc) (ls : Array Slot), j109 x107 x108 = some out → Rel E a u0 H → va_S (AE E) s.heap H locs → lv_has ls 7 [(0, .ref (a 5 0)), (1, .ref (eK E i1)), (2, .int x2), (3, .int x107), (4, .int x108), (5, .int x103)] → W p l e { frames := 4, cells := 0, slots := 0, locals := 90 } s m args below meth c H locs 0 0 (MQ below (QW E a (some (.int out)) u0) args s 0 0 (AE E)) (F0 m 87 ls []) := by
          intro x107 x108 H locs ls h hR hS hl
          replace h := jx2 hj109 h
          obtain ⟨x110, ex110⟩ : ∃ z : Int32, z = x103 + 1 := ⟨_, rfl⟩
          replace h := bd_x ex110 h
          refine lv_iinc (v := x110) (lv' := [(5, .int x110), (0, .ref (a 5 0)), (1, .ref (eK E i1)), (2, .int x2), (3, .int x107), (4, .int x108)]) hx hb dX5_wordIn_87 hl (k := 5) rfl (by rw [ex110]; rfl) (by decide) rfl (fun ls hl => ?_)
          refine lv_goto (tgt := 8) hx hb dX5_wordIn_90 (by decide) ?_
          exact ih _ _ _ _ _ _ h hR hS (lv_sub hl [1, 2, 3, 4, 5, 0] rfl)
        refine lv_icmp_eq (tgt := 73) hx hb dX5_wordIn_29 (by decide) (fun c_111 => ?_) (fun c_111 => ?_)
        · rw [if_pos c_111] at h
          refine lv_iload hx hb dX5_wordIn_73 (lv_at hl 5 rfl) ?_
          refine lv_iload_n hx hb dX5_wordIn_75 rfl (lv_at hl 3 rfl) ?_
          refine lv_icmp_ne (tgt := 81) hx hb dX5_wordIn_76 (by decide) (fun c_112 => ?_) (fun c_112 => ?_)
          · rw [if_neg c_112] at h
            obtain ⟨x113, ex113⟩ : ∃ z : Int32, z = x101 + 1 := ⟨_, rfl⟩
            replace h := bd_x ex113 h
            refine lv_iinc (v := x113) (lv' := [(3, .int x113), (6, .int x106), (0, .ref (a 5 0)), (1, .ref (eK E i1)), (2, .int x2), (4, .int x102), (5, .int x103)]) hx hb dX5_wordIn_81 hl (k := 4) rfl (by rw [ex113]; rfl) (by decide) rfl (fun ls hl => ?_)
            refine lv_iconst (v := 0) hx hb dX5_wordIn_84 (by decide) ?_
            refine lv_istore (lv' := [(4, .int 0), (3, .int x113), (6, .int x106), (0, .ref (a 5 0)), (1, .ref (eK E i1)), (2, .int x2), (5, .int x103)]) hx hb dX5_wordIn_85 hl (by decide) rfl (fun ls hl => ?_)
            exact Kj109 _ _ _ _ _ h hR hS (lv_sub hl [3, 4, 5, 1, 0, 6] rfl)
          · rw [if_pos c_112] at h
            refine lv_iload_n hx hb dX5_wordIn_79 rfl (lv_at hl 4 rfl) ?_
            cases h
            exact e_iret C hr hR hS (Nat.le_of_ble_eq_true rfl) (Nat.le_of_ble_eq_true rfl) dX5_wordIn_80
        · rw [if_neg c_111] at h
          refine lv_iload hx hb dX5_wordIn_32 (lv_at hl 5 rfl) ?_
          obtain ⟨x114, hz, h⟩ := ob h
          have Kj115 : ∀ (H : Heap) (locs : List Loc) (ls : Array Slot), Rel E a u0 H → va_S (AE E) s.heap H locs → lv_has ls 7 [(0, .ref (a 5 0)), (1, .ref (eK E i1)), (2, .int x2), (3, .int x101), (5, .int x103)] → W p l e { frames := 4, cells := 0, slots := 0, locals := 90 } s m args below meth c H locs 0 0 (MQ below (QW E a (some (.int out)) u0) args s 0 0 (AE E)) (F0 m 68 ls [.int x114]) := by
            intro H locs ls hR hS hl
            clear hz
            refine lv_istore (lv' := [(4, .int x114), (0, .ref (a 5 0)), (1, .ref (eK E i1)), (2, .int x2), (3, .int x101), (5, .int x103)]) hx hb dX5_wordIn_68 hl (by decide) rfl (fun ls hl => ?_)
            refine lv_goto (tgt := 87) hx hb dX5_wordIn_70 (by decide) ?_
            exact Kj109 _ _ _ _ _ h hR hS (lv_sub hl [1, 2, 3, 4, 0, 5] rfl)
          clear h
          have h := hz
          clear hz
          refine jp_cut h (fun j116 hj116 h => ?_)
          have Kj116 : ∀  (H : Heap) (locs : List Loc) (ls : Array Slot), j116 = some x114 → Rel E a u0 H → va_S (AE E) s.heap H locs → lv_has ls 7 [(0, .ref (a 5 0)), (1, .ref (eK E i1)), (2, .int x2), (3, .int x101), (5, .int x103)] → W p l e { frames := 4, cells := 0, slots := 0, locals := 90 } s m args below meth c H locs 0 0 (MQ below (QW E a (some (.int out)) u0) args s 0 0 (AE E)) (F0 m 67 ls []) := by
            intro  H locs ls h hR hS hl
            replace h := jx0 hj116 h
            refine lv_iconst (v := (-1)) hx hb dX5_wordIn_67 (by decide) ?_
            cases h
            exact Kj115 _ _ _ hR hS (lv_sub hl [0, 1, 2, 3, 4] rfl)
          refine lv_if_lt (tgt := 67) hx hb dX5_wordIn_34 (by decide) (fun c_117 => ?_) (fun c_117 => ?_)
          · rw [if_pos c_117] at h
            exact Kj116  _ _ _ h hR hS (lv_sub hl [1, 2, 3, 4, 6] rfl)
          · rw [if_neg c_117] at h
            refine lv_iload hx hb dX5_wordIn_37 (lv_at hl 5 rfl) ?_
            refine lv_iload_n hx hb dX5_wordIn_39 rfl (lv_at hl 3 rfl) ?_
            refine lv_icmp_ge (tgt := 67) hx hb dX5_wordIn_40 (by decide) (fun c_118 => ?_) (fun c_118 => ?_)
            · rw [if_pos c_118] at h
              exact Kj116  _ _ _ h hR hS (lv_sub hl [1, 2, 3, 4, 6] rfl)
            · rw [if_neg c_118] at h
              refine lv_aload_n hx hb dX5_wordIn_43 rfl (lv_at hl 1 rfl) ?_
              refine r_get C hR 5 0 0 (v := .ref (a 45 0)) (lv0 (by decide) (by decide)) (by decide) (by decide) rfl fl_X5_9 dX5_wordIn_44 ?_
              refine lv_aload_n hx hb dX5_wordIn_47 rfl (lv_at hl 1 rfl) ?_
              refine r_get C hR 5 0 3 (v := .int (gI u0 5 0 3)) (lv0 (by decide) (by decide)) (by decide) (by decide) rfl fl_X5_22 dX5_wordIn_48 ?_
              refine lv_iload hx hb dX5_wordIn_51 (lv_at hl 5 rfl) ?_
              refine lv_iadd hx hb dX5_wordIn_53 ?_
              obtain ⟨k119, hk119, h⟩ := ob h
              refine r_ald C hR 45 0 (lv0 (by decide) (by decide)) (by decide) rfl (fun _ => rfl) rfl hk119 dX5_wordIn_54 ?_
              refine lv_iload hx hb dX5_wordIn_55 (lv_at hl 0 rfl) ?_
              refine lv_icmp_ne (tgt := 67) hx hb dX5_wordIn_57 (by decide) (fun c_120 => ?_) (fun c_120 => ?_)
              · rw [if_neg c_120] at h
                exact Kj116  _ _ _ h hR hS (lv_sub hl [1, 2, 3, 4, 6] rfl)
              · rw [if_pos c_120] at h
                refine lv_iload hx hb dX5_wordIn_60 (lv_at hl 5 rfl) ?_
                refine lv_iconst (v := 1) hx hb dX5_wordIn_62 (by decide) ?_
                refine lv_iadd hx hb dX5_wordIn_63 ?_
                refine lv_goto (tgt := 68) hx hb dX5_wordIn_64 (by decide) ?_
                cases h
                exact Kj115 _ _ _ hR hS (lv_sub hl [1, 2, 3, 4, 6] rfl)
  exact LP FU _ _ _ _ _ _ h hR hS (lv_sub hl [3, 4, 5, 2, 1, 0] rfl)
set_option maxHeartbeats 4000000 in
set_option maxRecDepth 100000 in
theorem vX5_takeWord {l : Launch} {E : EV} {a : Nat → Nat → Nat} {u0 : HS} {i1 : Nat} {out : (Int32 × HS)} (hi1 : i1 < 18) (h : mX5_takeWord u0 i1 = some out) : Ct l E yX5_takeWord cX5_takeWord 4 (some .int) 5 116 0 0 a u0 [.ref (a 5 0), .ref (eK E i1)] (some (.int out.1)) out.2 := by
  refine Ct.start (by decide) (Nat.le_of_ble_eq_true rfl) ?_
  intro p e s m args below meth c ls C hr hR hS hl
  have C : Cx E p s m args meth c cX5_takeWord 4 RX5 := C
  have hl : lv_has ls 4 [(0, .ref (a 5 0)), (1, .ref (eK E i1))] := hl
  have hx := C.1
  have hb := C.2.1
  unfold mX5_takeWord at h
  refine lv_aload_n hx hb dX5_takeWord_0 rfl (lv_at hl 0 rfl) ?_
  refine r_get C hR 5 0 5 (v := .int (gI u0 5 0 5)) (lv0 (by decide) (by decide)) (by decide) (by decide) rfl fl_X5_28 dX5_takeWord_1 ?_
  refine lv_if_eq (tgt := 9) hx hb dX5_takeWord_4 (by decide) (fun c_101 => ?_) (fun c_101 => ?_)
  · rw [if_pos c_101] at h
    refine lv_aload_n hx hb dX5_takeWord_9 rfl (lv_at hl 0 rfl) ?_
    obtain ⟨u103, hc102, h⟩ := ob h
    refine r_callV0 (As := []) (rest := []) (r := 5) (i := 0) C (vX5_skipBlanks hc102) hR hS (lv0 (by decide) (by decide)) (by decide) ml_X5_42 mw_X5_skipBlanks rfl ⟨Nat.le_of_ble_eq_true rfl, Nat.le_of_ble_eq_true rfl, Nat.le_of_ble_eq_true rfl, Nat.le_of_ble_eq_true rfl⟩ hl.1 rfl (Nat.le_of_ble_eq_true rfl) dX5_takeWord_10 (fun H locs hR hS => ?_)
    refine lv_aload_n hx hb dX5_takeWord_13 rfl (lv_at hl 0 rfl) ?_
    refine r_get C hR 5 0 3 (v := .int (gI u103 5 0 3)) (lv0 (by decide) (by decide)) (by decide) (by decide) rfl fl_X5_22 dX5_takeWord_14 ?_
    refine lv_topi (fun x104 ex104 => ?_)
    replace h := bd_x ex104 h
    refine lv_istore_n (lv' := [(2, .int x104), (0, .ref (a 5 0)), (1, .ref (eK E i1))]) hx hb dX5_takeWord_17 rfl hl (by decide) rfl (fun ls hl => ?_)
    refine jp_cut h (fun w107 hw107 h => ?_)
    have Kw107 : ∀ (x106 : Int32) (H : Heap) (locs : List Loc) (ls : Array Slot), w107 x106 = some out → Rel E a u103 H → va_S (AE E) s.heap H locs → lv_has ls 4 [(0, .ref (a 5 0)), (1, .ref (eK E i1)), (2, .int x106)] → W p l e { frames := 5, cells := 0, slots := 0, locals := 116 } s m args below meth c H locs 0 0 (MQ below (QW E a (some (.int out.1)) out.2) args s 0 0 (AE E)) (F0 m 44 ls []) := by
      intro x106 H locs ls h hR hS hl
      replace h := jx1 hw107 h
      refine lv_aload_n hx hb dX5_takeWord_44 rfl (lv_at hl 0 rfl) ?_
      refine lv_aload_n hx hb dX5_takeWord_45 rfl (lv_at hl 1 rfl) ?_
      refine lv_iload_n hx hb dX5_takeWord_46 rfl (lv_at hl 2 rfl) ?_
      refine lv_aload_n hx hb dX5_takeWord_47 rfl (lv_at hl 0 rfl) ?_
      refine r_get C hR 5 0 3 (v := .int (gI u103 5 0 3)) (lv0 (by decide) (by decide)) (by decide) (by decide) rfl fl_X5_22 dX5_takeWord_48 ?_
      refine lv_isub hx hb dX5_takeWord_51 ?_
      obtain ⟨x109, hc108, h⟩ := ob h
      refine r_callV1 (As := [.ref (eK E i1), .int (x106 - (gI u103 5 0 3))]) (rest := []) (r := 5) (i := 0) C (vX5_wordIn hi1 hc108) hR hS (lv0 (by decide) (by decide)) (by decide) ml_X5_49 mw_X5_wordIn rfl ⟨Nat.le_of_ble_eq_true rfl, Nat.le_of_ble_eq_true rfl, Nat.le_of_ble_eq_true rfl, Nat.le_of_ble_eq_true rfl⟩ hl.1 rfl (Nat.le_of_ble_eq_true rfl) dX5_takeWord_52 (fun H locs hR hS => ?_)
      refine lv_istore_n (lv' := [(3, .int x109), (0, .ref (a 5 0)), (1, .ref (eK E i1)), (2, .int x106)]) hx hb dX5_takeWord_55 rfl hl (by decide) rfl (fun ls hl => ?_)
      refine lv_iload_n hx hb dX5_takeWord_56 rfl (lv_at hl 0 rfl) ?_
      refine lv_iconst (v := (-1)) hx hb dX5_takeWord_57 (by decide) ?_
      refine lv_icmp_eq (tgt := 74) hx hb dX5_takeWord_58 (by decide) (fun c_110 => ?_) (fun c_110 => ?_)
      · rw [if_pos c_110] at h
        refine lv_iload_n hx hb dX5_takeWord_74 rfl (lv_at hl 0 rfl) ?_
        cases h
        exact e_iret C hr hR hS (Nat.le_of_ble_eq_true rfl) (Nat.le_of_ble_eq_true rfl) dX5_takeWord_75
      · rw [if_neg c_110] at h
        refine lv_aload_n hx hb dX5_takeWord_61 rfl (lv_at hl 1 rfl) ?_
        refine lv_aload_n hx hb dX5_takeWord_62 rfl (lv_at hl 1 rfl) ?_
        refine r_get C hR 5 0 3 (v := .int (gI u103 5 0 3)) (lv0 (by decide) (by decide)) (by decide) (by decide) rfl fl_X5_22 dX5_takeWord_63 ?_
        refine r_putI (ty := .int) C hR hS 5 0 4 (lv0 (by decide) (by decide)) (by decide) (by decide) (fun _ => rfl) fl_X5_25 (by decide) (by decide +kernel) rfl rfl dX5_takeWord_66 (fun H locs hR hS => ?_)
        obtain ⟨u111, eu111⟩ : ∃ z : HS, z = wI u103 5 0 4 (gI u103 5 0 3) := ⟨_, rfl⟩
        rw [← eu111] at hR
        replace h := bd_x eu111 h
        clear eu111
        refine lv_aload_n hx hb dX5_takeWord_69 rfl (lv_at hl 1 rfl) ?_
        refine lv_iload_n hx hb dX5_takeWord_70 rfl (lv_at hl 3 rfl) ?_
        refine r_putI (ty := .int) C hR hS 5 0 3 (lv0 (by decide) (by decide)) (by decide) (by decide) (fun _ => rfl) fl_X5_22 (by decide) (by decide +kernel) rfl rfl dX5_takeWord_71 (fun H locs hR hS => ?_)
        obtain ⟨u112, eu112⟩ : ∃ z : HS, z = wI u111 5 0 3 x106 := ⟨_, rfl⟩
        rw [← eu112] at hR
        replace h := bd_x eu112 h
        clear eu112
        refine lv_iload_n hx hb dX5_takeWord_74 rfl (lv_at hl 0 rfl) ?_
        cases h
        exact e_iret C hr hR hS (Nat.le_of_ble_eq_true rfl) (Nat.le_of_ble_eq_true rfl) dX5_takeWord_75
    have LP : ∀ (fu : Nat) (x105 : Int32) (H : Heap) (locs : List Loc) (ls : Array Slot), mX5_takeWord_L18 u103 w107 fu x105 = some out → Rel E a u103 H → va_S (AE E) s.heap H locs → lv_has ls 4 [(0, .ref (a 5 0)), (1, .ref (eK E i1)), (2, .int x105)] → W p l e { frames := 5, cells := 0, slots := 0, locals := 116 } s m args below meth c H locs 0 0 (MQ below (QW E a (some (.int out.1)) out.2) args s 0 0 (AE E)) (F0 m 18 ls []) := by
      intro fu
      induction fu with
      | zero =>
        intro x105 H locs ls h
        have h2 : (none : Option (Int32 × HS)) = some out := h
        cases h2
      | succ fu ih =>
        intro x105 H locs ls h hR hS hl
        rw [mX5_takeWord_L18.eq_2] at h
        refine lv_iload_n hx hb dX5_takeWord_18 rfl (lv_at hl 2 rfl) ?_
        refine lv_aload_n hx hb dX5_takeWord_19 rfl (lv_at hl 0 rfl) ?_
        refine r_get C hR 5 0 2 (v := .int (gI u103 5 0 2)) (lv0 (by decide) (by decide)) (by decide) (by decide) rfl fl_X5_19 dX5_takeWord_20 ?_
        refine lv_icmp_ge (tgt := 44) hx hb dX5_takeWord_23 (by decide) (fun c_113 => ?_) (fun c_113 => ?_)
        · rw [if_pos c_113] at h
          exact Kw107 _ _ _ _ h hR hS (lv_sub hl [0, 1, 2] rfl)
        · rw [if_neg c_113] at h
          refine lv_aload_n hx hb dX5_takeWord_26 rfl (lv_at hl 0 rfl) ?_
          refine lv_iload_n hx hb dX5_takeWord_27 rfl (lv_at hl 2 rfl) ?_
          refine lv_bipush (v := 97) hx hb dX5_takeWord_28 (by decide) ?_
          refine lv_bipush (v := 122) hx hb dX5_takeWord_30 (by decide) ?_
          obtain ⟨x115, hc114, h⟩ := ob h
          refine r_callV1 (As := [.int x105, .int 97, .int 122]) (rest := []) (r := 5) (i := 0) C (vX5_isAt hc114) hR hS (lv0 (by decide) (by decide)) (by decide) ml_X5_45 mw_X5_isAt rfl ⟨Nat.le_of_ble_eq_true rfl, Nat.le_of_ble_eq_true rfl, Nat.le_of_ble_eq_true rfl, Nat.le_of_ble_eq_true rfl⟩ hl.1 rfl (Nat.le_of_ble_eq_true rfl) dX5_takeWord_32 (fun H locs hR hS => ?_)
          refine lv_if_eq (tgt := 44) hx hb dX5_takeWord_35 (by decide) (fun c_116 => ?_) (fun c_116 => ?_)
          · rw [if_pos c_116] at h
            exact Kw107 _ _ _ _ h hR hS (lv_sub hl [0, 1, 2] rfl)
          · rw [if_neg c_116] at h
            obtain ⟨x117, ex117⟩ : ∃ z : Int32, z = x105 + 1 := ⟨_, rfl⟩
            replace h := bd_x ex117 h
            refine lv_iinc (v := x117) (lv' := [(2, .int x117), (0, .ref (a 5 0)), (1, .ref (eK E i1))]) hx hb dX5_takeWord_38 hl (k := 2) rfl (by rw [ex117]; rfl) (by decide) rfl (fun ls hl => ?_)
            refine lv_goto (tgt := 18) hx hb dX5_takeWord_41 (by decide) ?_
            exact ih _ _ _ _ h hR hS (lv_sub hl [1, 2, 0] rfl)
    exact LP FU _ _ _ _ h hR hS (lv_sub hl [1, 2, 0] rfl)
  · rw [if_neg c_101] at h
    refine lv_iconst (v := (-1)) hx hb dX5_takeWord_7 (by decide) ?_
    cases h
    exact e_iret C hr hR hS (Nat.le_of_ble_eq_true rfl) (Nat.le_of_ble_eq_true rfl) dX5_takeWord_8
set_option maxHeartbeats 4000000 in
set_option maxRecDepth 100000 in
theorem vX5_clauseWord {l : Launch} {E : EV} {a : Nat → Nat → Nat} {u0 : HS} {i1 : Nat} {x2 : Int32} {x3 : Int32} {out : (Int32 × HS)} (hi1 : i1 < 18) (h : mX5_clauseWord u0 i1 x2 x3 = some out) : Ct l E yX5_clauseWord cX5_clauseWord 5 (some .int) 6 139 0 0 a u0 [.ref (a 5 0), .ref (eK E i1), .int x2, .int x3] (some (.int out.1)) out.2 := by
  refine Ct.start (by decide) (Nat.le_of_ble_eq_true rfl) ?_
  intro p e s m args below meth c ls C hr hR hS hl
  have C : Cx E p s m args meth c cX5_clauseWord 5 RX5 := C
  have hl : lv_has ls 5 [(0, .ref (a 5 0)), (1, .ref (eK E i1)), (2, .int x2), (3, .int x3)] := hl
  have hx := C.1
  have hb := C.2.1
  unfold mX5_clauseWord at h
  refine lv_aload_n hx hb dX5_clauseWord_0 rfl (lv_at hl 0 rfl) ?_
  refine lv_aload_n hx hb dX5_clauseWord_1 rfl (lv_at hl 1 rfl) ?_
  obtain ⟨⟨x102, u103⟩, hc101, h⟩ := ob h
  replace h := bd_x (x := x102) rfl h
  replace h := bd_x (x := u103) rfl h
  refine r_callV1 (As := [.ref (eK E i1)]) (rest := []) (r := 5) (i := 0) C (vX5_takeWord hi1 hc101) hR hS (lv0 (by decide) (by decide)) (by decide) ml_X5_34 mw_X5_takeWord rfl ⟨Nat.le_of_ble_eq_true rfl, Nat.le_of_ble_eq_true rfl, Nat.le_of_ble_eq_true rfl, Nat.le_of_ble_eq_true rfl⟩ hl.1 rfl (Nat.le_of_ble_eq_true rfl) dX5_clauseWord_2 (fun H locs hR hS => ?_)
  refine lv_istore (lv' := [(4, .int x102), (0, .ref (a 5 0)), (1, .ref (eK E i1)), (2, .int x2), (3, .int x3)]) hx hb dX5_clauseWord_5 hl (by decide) rfl (fun ls hl => ?_)
  refine lv_aload_n hx hb dX5_clauseWord_7 rfl (lv_at hl 1 rfl) ?_
  refine r_get C hR 5 0 5 (v := .int (gI u103 5 0 5)) (lv0 (by decide) (by decide)) (by decide) (by decide) rfl fl_X5_28 dX5_clauseWord_8 ?_
  refine lv_if_ne (tgt := 31) hx hb dX5_clauseWord_11 (by decide) (fun c_104 => ?_) (fun c_104 => ?_)
  · rw [if_neg c_104] at h
    refine lv_iconst (v := (-1)) hx hb dX5_clauseWord_31 (by decide) ?_
    cases h
    exact e_iret C hr hR hS (Nat.le_of_ble_eq_true rfl) (Nat.le_of_ble_eq_true rfl) dX5_clauseWord_32
  · rw [if_pos c_104] at h
    refine lv_iload hx hb dX5_clauseWord_14 (lv_at hl 0 rfl) ?_
    refine lv_iconst (v := (-1)) hx hb dX5_clauseWord_16 (by decide) ?_
    refine jp_cut h (fun j105 hj105 h => ?_)
    have Kj105 : ∀  (H : Heap) (locs : List Loc) (ls : Array Slot), j105 = some out → Rel E a u103 H → va_S (AE E) s.heap H locs → lv_has ls 5 [(0, .ref (a 5 0)), (2, .int x2), (3, .int x3), (4, .int x102)] → W p l e { frames := 6, cells := 0, slots := 0, locals := 139 } s m args below meth c H locs 0 0 (MQ below (QW E a (some (.int out.1)) out.2) args s 0 0 (AE E)) (F0 m 33 ls []) := by
      intro  H locs ls h hR hS hl
      replace h := jx0 hj105 h
      refine lv_iload hx hb dX5_clauseWord_33 (lv_at hl 3 rfl) ?_
      refine lv_iconst (v := (-1)) hx hb dX5_clauseWord_35 (by decide) ?_
      obtain ⟨u106, hz, h⟩ := ob h
      have Kj107 : ∀ (H : Heap) (locs : List Loc) (ls : Array Slot), Rel E a u106 H → va_S (AE E) s.heap H locs → lv_has ls 5 [(0, .ref (a 5 0)), (4, .int x102)] → W p l e { frames := 6, cells := 0, slots := 0, locals := 139 } s m args below meth c H locs 0 0 (MQ below (QW E a (some (.int out.1)) out.2) args s 0 0 (AE E)) (F0 m 65 ls []) := by
        intro H locs ls hR hS hl
        clear hz
        refine lv_aload_n hx hb dX5_clauseWord_65 rfl (lv_at hl 0 rfl) ?_
        refine r_get C hR 5 0 5 (v := .int (gI u106 5 0 5)) (lv0 (by decide) (by decide)) (by decide) (by decide) rfl fl_X5_28 dX5_clauseWord_66 ?_
        refine lv_if_ne (tgt := 77) hx hb dX5_clauseWord_69 (by decide) (fun c_108 => ?_) (fun c_108 => ?_)
        · rw [if_neg c_108] at h
          refine lv_iconst (v := (-1)) hx hb dX5_clauseWord_77 (by decide) ?_
          cases h
          exact e_iret C hr hR hS (Nat.le_of_ble_eq_true rfl) (Nat.le_of_ble_eq_true rfl) dX5_clauseWord_78
        · rw [if_pos c_108] at h
          refine lv_iload hx hb dX5_clauseWord_72 (lv_at hl 1 rfl) ?_
          refine lv_goto (tgt := 78) hx hb dX5_clauseWord_74 (by decide) ?_
          cases h
          exact e_iret C hr hR hS (Nat.le_of_ble_eq_true rfl) (Nat.le_of_ble_eq_true rfl) dX5_clauseWord_78
      clear h
      have h := hz
      clear hz
      refine lv_icmp_ne (tgt := 51) hx hb dX5_clauseWord_36 (by decide) (fun c_109 => ?_) (fun c_109 => ?_)
      · rw [if_neg c_109] at h
        refine lv_iload_n hx hb dX5_clauseWord_51 rfl (lv_at hl 1 rfl) ?_
        refine lv_iload_n hx hb dX5_clauseWord_52 rfl (lv_at hl 2 rfl) ?_
        refine lv_icmp_lt (tgt := 65) hx hb dX5_clauseWord_53 (by decide) (fun c_110 => ?_) (fun c_110 => ?_)
        · rw [if_pos c_110] at h
          cases h
          exact Kj107 _ _ _ hR hS (lv_sub hl [0, 3] rfl)
        · rw [if_neg c_110] at h
          refine lv_aload_n hx hb dX5_clauseWord_56 rfl (lv_at hl 0 rfl) ?_
          refine lv_iconst (v := 3) hx hb dX5_clauseWord_57 (by decide) ?_
          refine lv_aload_n hx hb dX5_clauseWord_58 rfl (lv_at hl 0 rfl) ?_
          refine r_get C hR 5 0 4 (v := .int (gI u103 5 0 4)) (lv0 (by decide) (by decide)) (by decide) (by decide) rfl fl_X5_25 dX5_clauseWord_59 ?_
          obtain ⟨u112, hc111, h⟩ := ob h
          refine r_callV0 (As := [.int 3, .int (gI u103 5 0 4)]) (rest := []) (r := 5) (i := 0) C (vX5_blame hc111) hR hS (lv0 (by decide) (by decide)) (by decide) ml_X5_38 mw_X5_blame rfl ⟨Nat.le_of_ble_eq_true rfl, Nat.le_of_ble_eq_true rfl, Nat.le_of_ble_eq_true rfl, Nat.le_of_ble_eq_true rfl⟩ hl.1 rfl (Nat.le_of_ble_eq_true rfl) dX5_clauseWord_62 (fun H locs hR hS => ?_)
          cases h
          exact Kj107 _ _ _ hR hS (lv_sub hl [0, 3] rfl)
      · rw [if_pos c_109] at h
        refine lv_aload_n hx hb dX5_clauseWord_39 rfl (lv_at hl 0 rfl) ?_
        refine lv_iconst (v := 1) hx hb dX5_clauseWord_40 (by decide) ?_
        refine lv_aload_n hx hb dX5_clauseWord_41 rfl (lv_at hl 0 rfl) ?_
        refine r_get C hR 5 0 3 (v := .int (gI u103 5 0 3)) (lv0 (by decide) (by decide)) (by decide) (by decide) rfl fl_X5_22 dX5_clauseWord_42 ?_
        obtain ⟨u114, hc113, h⟩ := ob h
        refine r_callV0 (As := [.int 1, .int (gI u103 5 0 3)]) (rest := []) (r := 5) (i := 0) C (vX5_blame hc113) hR hS (lv0 (by decide) (by decide)) (by decide) ml_X5_38 mw_X5_blame rfl ⟨Nat.le_of_ble_eq_true rfl, Nat.le_of_ble_eq_true rfl, Nat.le_of_ble_eq_true rfl, Nat.le_of_ble_eq_true rfl⟩ hl.1 rfl (Nat.le_of_ble_eq_true rfl) dX5_clauseWord_45 (fun H locs hR hS => ?_)
        refine lv_goto (tgt := 65) hx hb dX5_clauseWord_48 (by decide) ?_
        cases h
        exact Kj107 _ _ _ hR hS (lv_sub hl [0, 3] rfl)
    refine lv_icmp_ne (tgt := 33) hx hb dX5_clauseWord_17 (by decide) (fun c_115 => ?_) (fun c_115 => ?_)
    · rw [if_neg c_115] at h
      exact Kj105  _ _ _ h hR hS (lv_sub hl [1, 3, 4, 0] rfl)
    · rw [if_pos c_115] at h
      refine lv_aload_n hx hb dX5_clauseWord_20 rfl (lv_at hl 1 rfl) ?_
      refine r_get C hR 5 0 3 (v := .int (gI u103 5 0 3)) (lv0 (by decide) (by decide)) (by decide) (by decide) rfl fl_X5_22 dX5_clauseWord_21 ?_
      refine lv_aload_n hx hb dX5_clauseWord_24 rfl (lv_at hl 1 rfl) ?_
      refine r_get C hR 5 0 2 (v := .int (gI u103 5 0 2)) (lv0 (by decide) (by decide)) (by decide) (by decide) rfl fl_X5_19 dX5_clauseWord_25 ?_
      refine lv_icmp_ne (tgt := 33) hx hb dX5_clauseWord_28 (by decide) (fun c_116 => ?_) (fun c_116 => ?_)
      · rw [if_neg c_116] at h
        exact Kj105  _ _ _ h hR hS (lv_sub hl [1, 3, 4, 0] rfl)
      · rw [if_pos c_116] at h
        refine lv_iconst (v := (-1)) hx hb dX5_clauseWord_31 (by decide) ?_
        cases h
        exact e_iret C hr hR hS (Nat.le_of_ble_eq_true rfl) (Nat.le_of_ble_eq_true rfl) dX5_clauseWord_32
set_option maxHeartbeats 4000000 in
set_option maxRecDepth 100000 in
theorem vX5_isNumberNext {l : Launch} {E : EV} {a : Nat → Nat → Nat} {u0 : HS}  {out : (Int32 × HS)} (h : mX5_isNumberNext u0 = some out) : Ct l E yX5_isNumberNext cX5_isNumberNext 1 (some .boolean) 1 23 0 0 a u0 [.ref (a 5 0)] (some (.int out.1)) out.2 := by
  refine Ct.start (by decide) (Nat.le_of_ble_eq_true rfl) ?_
  intro p e s m args below meth c ls C hr hR hS hl
  have C : Cx E p s m args meth c cX5_isNumberNext 1 RX5 := C
  have hl : lv_has ls 1 [(0, .ref (a 5 0))] := hl
  have hx := C.1
  have hb := C.2.1
  unfold mX5_isNumberNext at h
  refine lv_aload_n hx hb dX5_isNumberNext_0 rfl (lv_at hl 0 rfl) ?_
  obtain ⟨u102, hc101, h⟩ := ob h
  refine r_callV0 (As := []) (rest := []) (r := 5) (i := 0) C (vX5_skipBlanks hc101) hR hS (lv0 (by decide) (by decide)) (by decide) ml_X5_42 mw_X5_skipBlanks rfl ⟨Nat.le_of_ble_eq_true rfl, Nat.le_of_ble_eq_true rfl, Nat.le_of_ble_eq_true rfl, Nat.le_of_ble_eq_true rfl⟩ hl.1 rfl (Nat.le_of_ble_eq_true rfl) dX5_isNumberNext_1 (fun H locs hR hS => ?_)
  refine lv_aload_n hx hb dX5_isNumberNext_4 rfl (lv_at hl 0 rfl) ?_
  refine r_get C hR 5 0 5 (v := .int (gI u102 5 0 5)) (lv0 (by decide) (by decide)) (by decide) (by decide) rfl fl_X5_28 dX5_isNumberNext_5 ?_
  refine lv_if_ne (tgt := 30) hx hb dX5_isNumberNext_8 (by decide) (fun c_103 => ?_) (fun c_103 => ?_)
  · rw [if_neg c_103] at h
    refine lv_iconst (v := 0) hx hb dX5_isNumberNext_30 (by decide) ?_
    cases h
    exact e_zret (v := 0) C hr rfl hR hS (Nat.le_of_ble_eq_true rfl) (Nat.le_of_ble_eq_true rfl) dX5_isNumberNext_31
  · rw [if_pos c_103] at h
    refine lv_aload_n hx hb dX5_isNumberNext_11 rfl (lv_at hl 0 rfl) ?_
    refine lv_aload_n hx hb dX5_isNumberNext_12 rfl (lv_at hl 0 rfl) ?_
    refine r_get C hR 5 0 3 (v := .int (gI u102 5 0 3)) (lv0 (by decide) (by decide)) (by decide) (by decide) rfl fl_X5_22 dX5_isNumberNext_13 ?_
    refine lv_bipush (v := 48) hx hb dX5_isNumberNext_16 (by decide) ?_
    refine lv_bipush (v := 57) hx hb dX5_isNumberNext_18 (by decide) ?_
    obtain ⟨x105, hc104, h⟩ := ob h
    refine r_callV1 (As := [.int (gI u102 5 0 3), .int 48, .int 57]) (rest := []) (r := 5) (i := 0) C (vX5_isAt hc104) hR hS (lv0 (by decide) (by decide)) (by decide) ml_X5_45 mw_X5_isAt rfl ⟨Nat.le_of_ble_eq_true rfl, Nat.le_of_ble_eq_true rfl, Nat.le_of_ble_eq_true rfl, Nat.le_of_ble_eq_true rfl⟩ hl.1 rfl (Nat.le_of_ble_eq_true rfl) dX5_isNumberNext_20 (fun H locs hR hS => ?_)
    refine lv_if_eq (tgt := 30) hx hb dX5_isNumberNext_23 (by decide) (fun c_106 => ?_) (fun c_106 => ?_)
    · rw [if_pos c_106] at h
      refine lv_iconst (v := 0) hx hb dX5_isNumberNext_30 (by decide) ?_
      cases h
      exact e_zret (v := 0) C hr rfl hR hS (Nat.le_of_ble_eq_true rfl) (Nat.le_of_ble_eq_true rfl) dX5_isNumberNext_31
    · rw [if_neg c_106] at h
      refine lv_iconst (v := 1) hx hb dX5_isNumberNext_26 (by decide) ?_
      refine lv_goto (tgt := 31) hx hb dX5_isNumberNext_27 (by decide) ?_
      cases h
      exact e_zret (v := 1) C hr rfl hR hS (Nat.le_of_ble_eq_true rfl) (Nat.le_of_ble_eq_true rfl) dX5_isNumberNext_31
set_option maxHeartbeats 4000000 in
set_option maxRecDepth 100000 in
theorem vX5_demandNumber {l : Launch} {E : EV} {a : Nat → Nat → Nat} {u0 : HS} {x1 : Int32} {x2 : Int32} {out : (Int32 × HS)} (h : mX5_demandNumber u0 x1 x2 = some out) : Ct l E yX5_demandNumber cX5_demandNumber 4 (some .int) 2 43 0 0 a u0 [.ref (a 5 0), .int x1, .int x2] (some (.int out.1)) out.2 := by
  refine Ct.start (by decide) (Nat.le_of_ble_eq_true rfl) ?_
  intro p e s m args below meth c ls C hr hR hS hl
  have C : Cx E p s m args meth c cX5_demandNumber 4 RX5 := C
  have hl : lv_has ls 4 [(0, .ref (a 5 0)), (1, .int x1), (2, .int x2)] := hl
  have hx := C.1
  have hb := C.2.1
  unfold mX5_demandNumber at h
  refine lv_aload_n hx hb dX5_demandNumber_0 rfl (lv_at hl 0 rfl) ?_
  obtain ⟨⟨x102, u103⟩, hc101, h⟩ := ob h
  replace h := bd_x (x := x102) rfl h
  replace h := bd_x (x := u103) rfl h
  refine r_callV1 (As := []) (rest := []) (r := 5) (i := 0) C (vX5_isNumberNext hc101) hR hS (lv0 (by decide) (by decide)) (by decide) ml_X5_66 mw_X5_isNumberNext rfl ⟨Nat.le_of_ble_eq_true rfl, Nat.le_of_ble_eq_true rfl, Nat.le_of_ble_eq_true rfl, Nat.le_of_ble_eq_true rfl⟩ hl.1 rfl (Nat.le_of_ble_eq_true rfl) dX5_demandNumber_1 (fun H locs hR hS => ?_)
  refine lv_if_ne (tgt := 18) hx hb dX5_demandNumber_4 (by decide) (fun c_104 => ?_) (fun c_104 => ?_)
  · rw [if_neg c_104] at h
    refine lv_aload_n hx hb dX5_demandNumber_18 rfl (lv_at hl 0 rfl) ?_
    refine lv_aload_n hx hb dX5_demandNumber_19 rfl (lv_at hl 0 rfl) ?_
    refine r_get C hR 5 0 3 (v := .int (gI u103 5 0 3)) (lv0 (by decide) (by decide)) (by decide) (by decide) rfl fl_X5_22 dX5_demandNumber_20 ?_
    refine r_putI (ty := .int) C hR hS 5 0 4 (lv0 (by decide) (by decide)) (by decide) (by decide) (fun _ => rfl) fl_X5_25 (by decide) (by decide +kernel) rfl rfl dX5_demandNumber_23 (fun H locs hR hS => ?_)
    obtain ⟨u105, eu105⟩ : ∃ z : HS, z = wI u103 5 0 4 (gI u103 5 0 3) := ⟨_, rfl⟩
    rw [← eu105] at hR
    replace h := bd_x eu105 h
    clear eu105
    refine lv_iconst (v := 0) hx hb dX5_demandNumber_26 (by decide) ?_
    refine lv_istore_n (lv' := [(3, .int 0), (0, .ref (a 5 0)), (1, .int x1), (2, .int x2)]) hx hb dX5_demandNumber_27 rfl hl (by decide) rfl (fun ls hl => ?_)
    refine jp_cut h (fun w110 hw110 h => ?_)
    have Kw110 : ∀ (x108 : Int32) (u109 : HS) (H : Heap) (locs : List Loc) (ls : Array Slot), w110 x108 u109 = some out → Rel E a u109 H → va_S (AE E) s.heap H locs → lv_has ls 4 [(0, .ref (a 5 0)), (1, .int x1), (2, .int x2), (3, .int x108)] → W p l e { frames := 2, cells := 0, slots := 0, locals := 43 } s m args below meth c H locs 0 0 (MQ below (QW E a (some (.int out.1)) out.2) args s 0 0 (AE E)) (F0 m 90 ls []) := by
      intro x108 u109 H locs ls h hR hS hl
      replace h := jx2 hw110 h
      refine lv_iload_n hx hb dX5_demandNumber_90 rfl (lv_at hl 3 rfl) ?_
      refine lv_iload_n hx hb dX5_demandNumber_91 rfl (lv_at hl 1 rfl) ?_
      refine jp_cut h (fun j111 hj111 h => ?_)
      have Kj111 : ∀  (H : Heap) (locs : List Loc) (ls : Array Slot), j111 = some out → Rel E a u109 H → va_S (AE E) s.heap H locs → lv_has ls 4 [(0, .ref (a 5 0)), (1, .int x1)] → W p l e { frames := 2, cells := 0, slots := 0, locals := 43 } s m args below meth c H locs 0 0 (MQ below (QW E a (some (.int out.1)) out.2) args s 0 0 (AE E)) (F0 m 100 ls []) := by
        intro  H locs ls h hR hS hl
        replace h := jx0 hj111 h
        refine lv_aload_n hx hb dX5_demandNumber_100 rfl (lv_at hl 0 rfl) ?_
        refine lv_iconst (v := 2) hx hb dX5_demandNumber_101 (by decide) ?_
        refine lv_aload_n hx hb dX5_demandNumber_102 rfl (lv_at hl 0 rfl) ?_
        refine r_get C hR 5 0 4 (v := .int (gI u109 5 0 4)) (lv0 (by decide) (by decide)) (by decide) (by decide) rfl fl_X5_25 dX5_demandNumber_103 ?_
        obtain ⟨u113, hc112, h⟩ := ob h
        refine r_callV0 (As := [.int 2, .int (gI u109 5 0 4)]) (rest := []) (r := 5) (i := 0) C (vX5_blame hc112) hR hS (lv0 (by decide) (by decide)) (by decide) ml_X5_38 mw_X5_blame rfl ⟨Nat.le_of_ble_eq_true rfl, Nat.le_of_ble_eq_true rfl, Nat.le_of_ble_eq_true rfl, Nat.le_of_ble_eq_true rfl⟩ hl.1 rfl (Nat.le_of_ble_eq_true rfl) dX5_demandNumber_106 (fun H locs hR hS => ?_)
        refine lv_iload_n hx hb dX5_demandNumber_109 rfl (lv_at hl 1 rfl) ?_
        cases h
        exact e_iret C hr hR hS (Nat.le_of_ble_eq_true rfl) (Nat.le_of_ble_eq_true rfl) dX5_demandNumber_110
      refine lv_icmp_lt (tgt := 100) hx hb dX5_demandNumber_92 (by decide) (fun c_114 => ?_) (fun c_114 => ?_)
      · rw [if_pos c_114] at h
        exact Kj111  _ _ _ h hR hS (lv_sub hl [0, 1] rfl)
      · rw [if_neg c_114] at h
        refine lv_iload_n hx hb dX5_demandNumber_95 rfl (lv_at hl 3 rfl) ?_
        refine lv_iload_n hx hb dX5_demandNumber_96 rfl (lv_at hl 2 rfl) ?_
        refine lv_icmp_le (tgt := 111) hx hb dX5_demandNumber_97 (by decide) (fun c_115 => ?_) (fun c_115 => ?_)
        · rw [if_pos c_115] at h
          refine lv_iload_n hx hb dX5_demandNumber_111 rfl (lv_at hl 3 rfl) ?_
          cases h
          exact e_iret C hr hR hS (Nat.le_of_ble_eq_true rfl) (Nat.le_of_ble_eq_true rfl) dX5_demandNumber_112
        · rw [if_neg c_115] at h
          exact Kj111  _ _ _ h hR hS (lv_sub hl [0, 1] rfl)
    have LP : ∀ (fu : Nat) (x106 : Int32) (u107 : HS) (H : Heap) (locs : List Loc) (ls : Array Slot), mX5_demandNumber_L28  w110 fu x106 u107 = some out → Rel E a u107 H → va_S (AE E) s.heap H locs → lv_has ls 4 [(0, .ref (a 5 0)), (1, .int x1), (2, .int x2), (3, .int x106)] → W p l e { frames := 2, cells := 0, slots := 0, locals := 43 } s m args below meth c H locs 0 0 (MQ below (QW E a (some (.int out.1)) out.2) args s 0 0 (AE E)) (F0 m 28 ls []) := by
      intro fu
      induction fu with
      | zero =>
        intro x106 u107 H locs ls h
        have h2 : (none : Option (Int32 × HS)) = some out := h
        cases h2
      | succ fu ih =>
        intro x106 u107 H locs ls h hR hS hl
        rw [mX5_demandNumber_L28.eq_2] at h
        refine lv_aload_n hx hb dX5_demandNumber_28 rfl (lv_at hl 0 rfl) ?_
        refine r_get C hR 5 0 3 (v := .int (gI u107 5 0 3)) (lv0 (by decide) (by decide)) (by decide) (by decide) rfl fl_X5_22 dX5_demandNumber_29 ?_
        refine lv_aload_n hx hb dX5_demandNumber_32 rfl (lv_at hl 0 rfl) ?_
        refine r_get C hR 5 0 2 (v := .int (gI u107 5 0 2)) (lv0 (by decide) (by decide)) (by decide) (by decide) rfl fl_X5_19 dX5_demandNumber_33 ?_
        refine lv_icmp_ge (tgt := 90) hx hb dX5_demandNumber_36 (by decide) (fun c_116 => ?_) (fun c_116 => ?_)
        · rw [if_pos c_116] at h
          exact Kw110 _ _ _ _ _ h hR hS (lv_sub hl [0, 1, 2, 3] rfl)
        · rw [if_neg c_116] at h
          refine lv_aload_n hx hb dX5_demandNumber_39 rfl (lv_at hl 0 rfl) ?_
          refine lv_aload_n hx hb dX5_demandNumber_40 rfl (lv_at hl 0 rfl) ?_
          refine r_get C hR 5 0 3 (v := .int (gI u107 5 0 3)) (lv0 (by decide) (by decide)) (by decide) (by decide) rfl fl_X5_22 dX5_demandNumber_41 ?_
          refine lv_bipush (v := 48) hx hb dX5_demandNumber_44 (by decide) ?_
          refine lv_bipush (v := 57) hx hb dX5_demandNumber_46 (by decide) ?_
          obtain ⟨x118, hc117, h⟩ := ob h
          refine r_callV1 (As := [.int (gI u107 5 0 3), .int 48, .int 57]) (rest := []) (r := 5) (i := 0) C (vX5_isAt hc117) hR hS (lv0 (by decide) (by decide)) (by decide) ml_X5_45 mw_X5_isAt rfl ⟨Nat.le_of_ble_eq_true rfl, Nat.le_of_ble_eq_true rfl, Nat.le_of_ble_eq_true rfl, Nat.le_of_ble_eq_true rfl⟩ hl.1 rfl (Nat.le_of_ble_eq_true rfl) dX5_demandNumber_48 (fun H locs hR hS => ?_)
          refine lv_if_eq (tgt := 90) hx hb dX5_demandNumber_51 (by decide) (fun c_119 => ?_) (fun c_119 => ?_)
          · rw [if_pos c_119] at h
            exact Kw110 _ _ _ _ _ h hR hS (lv_sub hl [0, 1, 2, 3] rfl)
          · rw [if_neg c_119] at h
            refine lv_ldc (own := RX5) (v := 1000000) hx hb C.2.2.2.1 (C.2.2.2.2.1 _ cst_X5_70) dX5_demandNumber_54 ?_
            refine lv_iload_n hx hb dX5_demandNumber_56 rfl (lv_at hl 3 rfl) ?_
            refine lv_bipush (v := 10) hx hb dX5_demandNumber_57 (by decide) ?_
            refine lv_imul hx hb dX5_demandNumber_59 ?_
            refine lv_aload_n hx hb dX5_demandNumber_60 rfl (lv_at hl 0 rfl) ?_
            refine r_get C hR 5 0 0 (v := .ref (a 45 0)) (lv0 (by decide) (by decide)) (by decide) (by decide) rfl fl_X5_9 dX5_demandNumber_61 ?_
            refine lv_aload_n hx hb dX5_demandNumber_64 rfl (lv_at hl 0 rfl) ?_
            refine r_get C hR 5 0 3 (v := .int (gI u107 5 0 3)) (lv0 (by decide) (by decide)) (by decide) (by decide) rfl fl_X5_22 dX5_demandNumber_65 ?_
            obtain ⟨k120, hk120, h⟩ := ob h
            refine r_ald C hR 45 0 (lv0 (by decide) (by decide)) (by decide) rfl (fun _ => rfl) rfl hk120 dX5_demandNumber_68 ?_
            refine lv_iadd hx hb dX5_demandNumber_69 ?_
            refine lv_bipush (v := 48) hx hb dX5_demandNumber_70 (by decide) ?_
            refine lv_isub hx hb dX5_demandNumber_72 ?_
            refine r_min C hl.1 ml_X5_71 (Nat.le_of_ble_eq_true rfl) (Nat.le_of_ble_eq_true rfl) (Nat.le_of_ble_eq_true rfl) (Nat.le_of_ble_eq_true rfl) dX5_demandNumber_73 ?_
            refine lv_topi (fun x121 ex121 => ?_)
            replace h := bd_x ex121 h
            refine lv_istore_n (lv' := [(3, .int x121), (0, .ref (a 5 0)), (1, .int x1), (2, .int x2)]) hx hb dX5_demandNumber_76 rfl hl (by decide) rfl (fun ls hl => ?_)
            refine lv_aload_n hx hb dX5_demandNumber_77 rfl (lv_at hl 1 rfl) ?_
            refine lv_dup hx hb dX5_demandNumber_78 rfl ?_
            refine r_get C hR 5 0 3 (v := .int (gI u107 5 0 3)) (lv0 (by decide) (by decide)) (by decide) (by decide) rfl fl_X5_22 dX5_demandNumber_79 ?_
            refine lv_iconst (v := 1) hx hb dX5_demandNumber_82 (by decide) ?_
            refine lv_iadd hx hb dX5_demandNumber_83 ?_
            refine r_putI (ty := .int) C hR hS 5 0 3 (lv0 (by decide) (by decide)) (by decide) (by decide) (fun _ => rfl) fl_X5_22 (by decide) (by decide +kernel) rfl rfl dX5_demandNumber_84 (fun H locs hR hS => ?_)
            obtain ⟨u122, eu122⟩ : ∃ z : HS, z = wI u107 5 0 3 ((gI u107 5 0 3) + 1) := ⟨_, rfl⟩
            rw [← eu122] at hR
            replace h := bd_x eu122 h
            clear eu122
            refine lv_goto (tgt := 28) hx hb dX5_demandNumber_87 (by decide) ?_
            exact ih _ _ _ _ _ h hR hS (lv_sub hl [1, 2, 3, 0] rfl)
    exact LP FU _ _ _ _ _ h hR hS (lv_sub hl [1, 2, 3, 0] rfl)
  · rw [if_pos c_104] at h
    refine lv_aload_n hx hb dX5_demandNumber_7 rfl (lv_at hl 0 rfl) ?_
    refine lv_iconst (v := 1) hx hb dX5_demandNumber_8 (by decide) ?_
    refine lv_aload_n hx hb dX5_demandNumber_9 rfl (lv_at hl 0 rfl) ?_
    refine r_get C hR 5 0 3 (v := .int (gI u103 5 0 3)) (lv0 (by decide) (by decide)) (by decide) (by decide) rfl fl_X5_22 dX5_demandNumber_10 ?_
    obtain ⟨u124, hc123, h⟩ := ob h
    refine r_callV0 (As := [.int 1, .int (gI u103 5 0 3)]) (rest := []) (r := 5) (i := 0) C (vX5_blame hc123) hR hS (lv0 (by decide) (by decide)) (by decide) ml_X5_38 mw_X5_blame rfl ⟨Nat.le_of_ble_eq_true rfl, Nat.le_of_ble_eq_true rfl, Nat.le_of_ble_eq_true rfl, Nat.le_of_ble_eq_true rfl⟩ hl.1 rfl (Nat.le_of_ble_eq_true rfl) dX5_demandNumber_13 (fun H locs hR hS => ?_)
    refine lv_iload_n hx hb dX5_demandNumber_16 rfl (lv_at hl 1 rfl) ?_
    cases h
    exact e_iret C hr hR hS (Nat.le_of_ble_eq_true rfl) (Nat.le_of_ble_eq_true rfl) dX5_demandNumber_17
set_option maxHeartbeats 4000000 in
set_option maxRecDepth 100000 in
theorem vX3_readThing {l : Launch} {E : EV} {a : Nat → Nat → Nat} {u0 : HS} {i0 : Nat} {out : HS} (hi0 : i0 < cntS 3) (h : mX3_readThing u0 i0 = some out) : Ct l E yX3_readThing cX3_readThing 2 none 3 66 0 0 a u0 [.ref (a 3 i0), .ref (a 5 0)] none out := by
  refine Ct.start (by decide) (Nat.le_of_ble_eq_true rfl) ?_
  intro p e s m args below meth c ls C hr hR hS hl
  have C : Cx E p s m args meth c cX3_readThing 2 RX3 := C
  have hl : lv_has ls 2 [(0, .ref (a 3 i0)), (1, .ref (a 5 0))] := hl
  have hx := C.1
  have hb := C.2.1
  unfold mX3_readThing at h
  refine lv_aload_n hx hb dX3_readThing_0 rfl (lv_at hl 0 rfl) ?_
  refine r_get C hR 3 i0 0 (v := .int (gI u0 3 i0 0)) (lv0 hi0 (by decide)) (by decide) (by decide) rfl fl_X3_9 dX3_readThing_1 ?_
  refine lv_bipush (v := 8) hx hb dX3_readThing_4 (by decide) ?_
  refine lv_icmp_ne (tgt := 19) hx hb dX3_readThing_6 (by decide) (fun c_101 => ?_) (fun c_101 => ?_)
  · rw [if_neg c_101] at h
    refine lv_aload_n hx hb dX3_readThing_19 rfl (lv_at hl 0 rfl) ?_
    refine r_get C hR 3 i0 1 (v := .ref (a 37 i0)) (lv0 hi0 (by decide)) (by decide) (by decide) rfl fl_X3_15 dX3_readThing_20 ?_
    refine lv_aload_n hx hb dX3_readThing_23 rfl (lv_at hl 0 rfl) ?_
    refine r_get C hR 3 i0 0 (v := .int (gI u0 3 i0 0)) (lv0 hi0 (by decide)) (by decide) (by decide) rfl fl_X3_9 dX3_readThing_24 ?_
    refine lv_aload_n hx hb dX3_readThing_27 rfl (lv_at hl 1 rfl) ?_
    refine lv_iconst (v := 0) hx hb dX3_readThing_28 (by decide) ?_
    refine lv_bipush (v := 7) hx hb dX3_readThing_29 (by decide) ?_
    obtain ⟨⟨x103, u104⟩, hc102, h⟩ := ob h
    replace h := bd_x (x := x103) rfl h
    replace h := bd_x (x := u104) rfl h
    refine r_callV1 (As := [.int 0, .int 7]) (rest := [.int (gI u0 3 i0 0), .ref (a 37 i0)]) (r := 5) (i := 0) C (vX5_demandNumber hc102) hR hS (lv0 (by decide) (by decide)) (by decide) ml_X3_83 mw_X5_demandNumber rfl ⟨Nat.le_of_ble_eq_true rfl, Nat.le_of_ble_eq_true rfl, Nat.le_of_ble_eq_true rfl, Nat.le_of_ble_eq_true rfl⟩ hl.1 rfl (Nat.le_of_ble_eq_true rfl) dX3_readThing_31 (fun H locs hR hS => ?_)
    obtain ⟨k105, hk105, h⟩ := ob h
    refine r_ast C hR hS 37 i0 (lv0 hi0 (by decide)) (by decide) rfl (fun _ _ => rfl) rfl hk105 dX3_readThing_34 (fun H locs hR hS => ?_)
    obtain ⟨u106, eu106⟩ : ∃ z : HS, z = wI u104 37 i0 k105 x103 := ⟨_, rfl⟩
    rw [← eu106] at hR
    replace h := bd_x eu106 h
    clear eu106
    refine lv_aload_n hx hb dX3_readThing_35 rfl (lv_at hl 0 rfl) ?_
    refine r_get C hR 3 i0 2 (v := .ref (a 38 i0)) (lv0 hi0 (by decide)) (by decide) (by decide) rfl fl_X3_19 dX3_readThing_36 ?_
    refine lv_aload_n hx hb dX3_readThing_39 rfl (lv_at hl 0 rfl) ?_
    refine r_get C hR 3 i0 0 (v := .int (gI u106 3 i0 0)) (lv0 hi0 (by decide)) (by decide) (by decide) rfl fl_X3_9 dX3_readThing_40 ?_
    refine lv_aload_n hx hb dX3_readThing_43 rfl (lv_at hl 1 rfl) ?_
    refine lv_iconst (v := 1) hx hb dX3_readThing_44 (by decide) ?_
    refine lv_bipush (v := 9) hx hb dX3_readThing_45 (by decide) ?_
    obtain ⟨⟨x108, u109⟩, hc107, h⟩ := ob h
    replace h := bd_x (x := x108) rfl h
    replace h := bd_x (x := u109) rfl h
    refine r_callV1 (As := [.int 1, .int 9]) (rest := [.int (gI u106 3 i0 0), .ref (a 38 i0)]) (r := 5) (i := 0) C (vX5_demandNumber hc107) hR hS (lv0 (by decide) (by decide)) (by decide) ml_X3_83 mw_X5_demandNumber rfl ⟨Nat.le_of_ble_eq_true rfl, Nat.le_of_ble_eq_true rfl, Nat.le_of_ble_eq_true rfl, Nat.le_of_ble_eq_true rfl⟩ hl.1 rfl (Nat.le_of_ble_eq_true rfl) dX3_readThing_47 (fun H locs hR hS => ?_)
    obtain ⟨k110, hk110, h⟩ := ob h
    refine r_ast C hR hS 38 i0 (lv0 hi0 (by decide)) (by decide) rfl (fun _ _ => rfl) rfl hk110 dX3_readThing_50 (fun H locs hR hS => ?_)
    obtain ⟨u111, eu111⟩ : ∃ z : HS, z = wI u109 38 i0 k110 x108 := ⟨_, rfl⟩
    rw [← eu111] at hR
    replace h := bd_x eu111 h
    clear eu111
    refine lv_aload_n hx hb dX3_readThing_51 rfl (lv_at hl 0 rfl) ?_
    refine lv_dup hx hb dX3_readThing_52 rfl ?_
    refine r_get C hR 3 i0 0 (v := .int (gI u111 3 i0 0)) (lv0 hi0 (by decide)) (by decide) (by decide) rfl fl_X3_9 dX3_readThing_53 ?_
    refine lv_iconst (v := 1) hx hb dX3_readThing_56 (by decide) ?_
    refine lv_iadd hx hb dX3_readThing_57 ?_
    refine r_putI (ty := .int) C hR hS 3 i0 0 (lv0 hi0 (by decide)) (by decide) (by decide) (fun _ => rfl) fl_X3_9 (by decide) (by decide +kernel) rfl rfl dX3_readThing_58 (fun H locs hR hS => ?_)
    obtain ⟨u112, eu112⟩ : ∃ z : HS, z = wI u111 3 i0 0 ((gI u111 3 i0 0) + 1) := ⟨_, rfl⟩
    rw [← eu112] at hR
    replace h := bd_x eu112 h
    clear eu112
    cases h
    exact e_vret C hr hR hS (Nat.le_of_ble_eq_true rfl) (Nat.le_of_ble_eq_true rfl) dX3_readThing_61
  · rw [if_pos c_101] at h
    refine lv_aload_n hx hb dX3_readThing_9 rfl (lv_at hl 1 rfl) ?_
    refine lv_iconst (v := 3) hx hb dX3_readThing_10 (by decide) ?_
    refine lv_aload_n hx hb dX3_readThing_11 rfl (lv_at hl 1 rfl) ?_
    refine r_get C hR 5 0 4 (v := .int (gI u0 5 0 4)) (lv0 (by decide) (by decide)) (by decide) (by decide) rfl fl_X3_90 dX3_readThing_12 ?_
    obtain ⟨u114, hc113, h⟩ := ob h
    refine r_callV0 (As := [.int 3, .int (gI u0 5 0 4)]) (rest := []) (r := 5) (i := 0) C (vX5_blame hc113) hR hS (lv0 (by decide) (by decide)) (by decide) ml_X3_93 mw_X5_blame rfl ⟨Nat.le_of_ble_eq_true rfl, Nat.le_of_ble_eq_true rfl, Nat.le_of_ble_eq_true rfl, Nat.le_of_ble_eq_true rfl⟩ hl.1 rfl (Nat.le_of_ble_eq_true rfl) dX3_readThing_15 (fun H locs hR hS => ?_)
    cases h
    exact e_vret C hr hR hS (Nat.le_of_ble_eq_true rfl) (Nat.le_of_ble_eq_true rfl) dX3_readThing_18
set_option maxHeartbeats 4000000 in
set_option maxRecDepth 100000 in
theorem vX3_readWay {l : Launch} {E : EV} {a : Nat → Nat → Nat} {u0 : HS} {i0 : Nat} {out : HS} (hi0 : i0 < cntS 3) (h : mX3_readWay u0 i0 = some out) : Ct l E yX3_readWay cX3_readWay 3 none 3 66 0 0 a u0 [.ref (a 3 i0), .ref (a 5 0)] none out := by
  refine Ct.start (by decide) (Nat.le_of_ble_eq_true rfl) ?_
  intro p e s m args below meth c ls C hr hR hS hl
  have C : Cx E p s m args meth c cX3_readWay 3 RX3 := C
  have hl : lv_has ls 3 [(0, .ref (a 3 i0)), (1, .ref (a 5 0))] := hl
  have hx := C.1
  have hb := C.2.1
  unfold mX3_readWay at h
  refine lv_aload_n hx hb dX3_readWay_0 rfl (lv_at hl 0 rfl) ?_
  refine r_get C hR 3 i0 3 (v := .int (gI u0 3 i0 3)) (lv0 hi0 (by decide)) (by decide) (by decide) rfl fl_X3_22 dX3_readWay_1 ?_
  refine lv_bipush (v := 7) hx hb dX3_readWay_4 (by decide) ?_
  refine lv_imul hx hb dX3_readWay_6 ?_
  refine lv_topi (fun x101 ex101 => ?_)
  replace h := bd_x ex101 h
  refine lv_istore_n (lv' := [(2, .int x101), (0, .ref (a 3 i0)), (1, .ref (a 5 0))]) hx hb dX3_readWay_7 rfl hl (by decide) rfl (fun ls hl => ?_)
  refine lv_aload_n hx hb dX3_readWay_8 rfl (lv_at hl 1 rfl) ?_
  refine r_get C hR 3 i0 4 (v := .ref (a 39 i0)) (lv0 hi0 (by decide)) (by decide) (by decide) rfl fl_X3_25 dX3_readWay_9 ?_
  refine lv_iload_n hx hb dX3_readWay_12 rfl (lv_at hl 0 rfl) ?_
  refine lv_aload_n hx hb dX3_readWay_13 rfl (lv_at hl 2 rfl) ?_
  refine lv_iconst (v := 0) hx hb dX3_readWay_14 (by decide) ?_
  refine lv_aload_n hx hb dX3_readWay_15 rfl (lv_at hl 1 rfl) ?_
  refine r_get C hR 3 i0 0 (v := .int (gI u0 3 i0 0)) (lv0 hi0 (by decide)) (by decide) (by decide) rfl fl_X3_9 dX3_readWay_16 ?_
  refine lv_iconst (v := 1) hx hb dX3_readWay_19 (by decide) ?_
  refine lv_isub hx hb dX3_readWay_20 ?_
  obtain ⟨⟨x103, u104⟩, hc102, h⟩ := ob h
  replace h := bd_x (x := x103) rfl h
  replace h := bd_x (x := u104) rfl h
  refine r_callV1 (As := [.int 0, .int ((gI u0 3 i0 0) - 1)]) (rest := [.int x101, .ref (a 39 i0)]) (r := 5) (i := 0) C (vX5_demandNumber hc102) hR hS (lv0 (by decide) (by decide)) (by decide) ml_X3_83 mw_X5_demandNumber rfl ⟨Nat.le_of_ble_eq_true rfl, Nat.le_of_ble_eq_true rfl, Nat.le_of_ble_eq_true rfl, Nat.le_of_ble_eq_true rfl⟩ hl.1 rfl (Nat.le_of_ble_eq_true rfl) dX3_readWay_21 (fun H locs hR hS => ?_)
  obtain ⟨k105, hk105, h⟩ := ob h
  refine r_ast C hR hS 39 i0 (lv0 hi0 (by decide)) (by decide) rfl (fun _ _ => rfl) rfl hk105 dX3_readWay_24 (fun H locs hR hS => ?_)
  obtain ⟨u106, eu106⟩ : ∃ z : HS, z = wI u104 39 i0 k105 x103 := ⟨_, rfl⟩
  rw [← eu106] at hR
  replace h := bd_x eu106 h
  clear eu106
  refine lv_aload_n hx hb dX3_readWay_25 rfl (lv_at hl 1 rfl) ?_
  refine r_get C hR 3 i0 4 (v := .ref (a 39 i0)) (lv0 hi0 (by decide)) (by decide) (by decide) rfl fl_X3_25 dX3_readWay_26 ?_
  refine lv_iload_n hx hb dX3_readWay_29 rfl (lv_at hl 0 rfl) ?_
  refine lv_iconst (v := 1) hx hb dX3_readWay_30 (by decide) ?_
  refine lv_iadd hx hb dX3_readWay_31 ?_
  refine lv_aload_n hx hb dX3_readWay_32 rfl (lv_at hl 2 rfl) ?_
  refine lv_iconst (v := 0) hx hb dX3_readWay_33 (by decide) ?_
  refine lv_sipush (v := 299) hx hb dX3_readWay_34 (by decide) ?_
  obtain ⟨⟨x108, u109⟩, hc107, h⟩ := ob h
  replace h := bd_x (x := x108) rfl h
  replace h := bd_x (x := u109) rfl h
  refine r_callV1 (As := [.int 0, .int 299]) (rest := [.int (x101 + 1), .ref (a 39 i0)]) (r := 5) (i := 0) C (vX5_demandNumber hc107) hR hS (lv0 (by decide) (by decide)) (by decide) ml_X3_83 mw_X5_demandNumber rfl ⟨Nat.le_of_ble_eq_true rfl, Nat.le_of_ble_eq_true rfl, Nat.le_of_ble_eq_true rfl, Nat.le_of_ble_eq_true rfl⟩ hl.1 rfl (Nat.le_of_ble_eq_true rfl) dX3_readWay_37 (fun H locs hR hS => ?_)
  obtain ⟨k110, hk110, h⟩ := ob h
  refine r_ast C hR hS 39 i0 (lv0 hi0 (by decide)) (by decide) rfl (fun _ _ => rfl) rfl hk110 dX3_readWay_40 (fun H locs hR hS => ?_)
  obtain ⟨u111, eu111⟩ : ∃ z : HS, z = wI u109 39 i0 k110 x108 := ⟨_, rfl⟩
  rw [← eu111] at hR
  replace h := bd_x eu111 h
  clear eu111
  refine lv_aload_n hx hb dX3_readWay_41 rfl (lv_at hl 1 rfl) ?_
  refine r_get C hR 3 i0 4 (v := .ref (a 39 i0)) (lv0 hi0 (by decide)) (by decide) (by decide) rfl fl_X3_25 dX3_readWay_42 ?_
  refine lv_iload_n hx hb dX3_readWay_45 rfl (lv_at hl 0 rfl) ?_
  refine lv_iconst (v := 2) hx hb dX3_readWay_46 (by decide) ?_
  refine lv_iadd hx hb dX3_readWay_47 ?_
  refine lv_aload_n hx hb dX3_readWay_48 rfl (lv_at hl 2 rfl) ?_
  refine lv_iconst (v := 0) hx hb dX3_readWay_49 (by decide) ?_
  refine lv_bipush (v := 39) hx hb dX3_readWay_50 (by decide) ?_
  obtain ⟨⟨x113, u114⟩, hc112, h⟩ := ob h
  replace h := bd_x (x := x113) rfl h
  replace h := bd_x (x := u114) rfl h
  refine r_callV1 (As := [.int 0, .int 39]) (rest := [.int (x101 + 2), .ref (a 39 i0)]) (r := 5) (i := 0) C (vX5_demandNumber hc112) hR hS (lv0 (by decide) (by decide)) (by decide) ml_X3_83 mw_X5_demandNumber rfl ⟨Nat.le_of_ble_eq_true rfl, Nat.le_of_ble_eq_true rfl, Nat.le_of_ble_eq_true rfl, Nat.le_of_ble_eq_true rfl⟩ hl.1 rfl (Nat.le_of_ble_eq_true rfl) dX3_readWay_52 (fun H locs hR hS => ?_)
  obtain ⟨k115, hk115, h⟩ := ob h
  refine r_ast C hR hS 39 i0 (lv0 hi0 (by decide)) (by decide) rfl (fun _ _ => rfl) rfl hk115 dX3_readWay_55 (fun H locs hR hS => ?_)
  obtain ⟨u116, eu116⟩ : ∃ z : HS, z = wI u114 39 i0 k115 x113 := ⟨_, rfl⟩
  rw [← eu116] at hR
  replace h := bd_x eu116 h
  clear eu116
  refine lv_aload_n hx hb dX3_readWay_56 rfl (lv_at hl 1 rfl) ?_
  refine r_get C hR 3 i0 4 (v := .ref (a 39 i0)) (lv0 hi0 (by decide)) (by decide) (by decide) rfl fl_X3_25 dX3_readWay_57 ?_
  refine lv_iload_n hx hb dX3_readWay_60 rfl (lv_at hl 0 rfl) ?_
  refine lv_iconst (v := 3) hx hb dX3_readWay_61 (by decide) ?_
  refine lv_iadd hx hb dX3_readWay_62 ?_
  refine lv_aload_n hx hb dX3_readWay_63 rfl (lv_at hl 2 rfl) ?_
  refine lv_iconst (v := 0) hx hb dX3_readWay_64 (by decide) ?_
  refine lv_bipush (v := 29) hx hb dX3_readWay_65 (by decide) ?_
  obtain ⟨⟨x118, u119⟩, hc117, h⟩ := ob h
  replace h := bd_x (x := x118) rfl h
  replace h := bd_x (x := u119) rfl h
  refine r_callV1 (As := [.int 0, .int 29]) (rest := [.int (x101 + 3), .ref (a 39 i0)]) (r := 5) (i := 0) C (vX5_demandNumber hc117) hR hS (lv0 (by decide) (by decide)) (by decide) ml_X3_83 mw_X5_demandNumber rfl ⟨Nat.le_of_ble_eq_true rfl, Nat.le_of_ble_eq_true rfl, Nat.le_of_ble_eq_true rfl, Nat.le_of_ble_eq_true rfl⟩ hl.1 rfl (Nat.le_of_ble_eq_true rfl) dX3_readWay_67 (fun H locs hR hS => ?_)
  obtain ⟨k120, hk120, h⟩ := ob h
  refine r_ast C hR hS 39 i0 (lv0 hi0 (by decide)) (by decide) rfl (fun _ _ => rfl) rfl hk120 dX3_readWay_70 (fun H locs hR hS => ?_)
  obtain ⟨u121, eu121⟩ : ∃ z : HS, z = wI u119 39 i0 k120 x118 := ⟨_, rfl⟩
  rw [← eu121] at hR
  replace h := bd_x eu121 h
  clear eu121
  refine lv_aload_n hx hb dX3_readWay_71 rfl (lv_at hl 1 rfl) ?_
  refine r_get C hR 3 i0 4 (v := .ref (a 39 i0)) (lv0 hi0 (by decide)) (by decide) (by decide) rfl fl_X3_25 dX3_readWay_72 ?_
  refine lv_iload_n hx hb dX3_readWay_75 rfl (lv_at hl 0 rfl) ?_
  refine lv_iconst (v := 4) hx hb dX3_readWay_76 (by decide) ?_
  refine lv_iadd hx hb dX3_readWay_77 ?_
  refine lv_aload_n hx hb dX3_readWay_78 rfl (lv_at hl 2 rfl) ?_
  refine lv_aload_n hx hb dX3_readWay_79 rfl (lv_at hl 1 rfl) ?_
  refine r_get C hR 3 i0 4 (v := .ref (a 39 i0)) (lv0 hi0 (by decide)) (by decide) (by decide) rfl fl_X3_25 dX3_readWay_80 ?_
  refine lv_iload_n hx hb dX3_readWay_83 rfl (lv_at hl 0 rfl) ?_
  refine lv_iconst (v := 1) hx hb dX3_readWay_84 (by decide) ?_
  refine lv_iadd hx hb dX3_readWay_85 ?_
  obtain ⟨k122, hk122, h⟩ := ob h
  refine r_ald C hR 39 i0 (lv0 hi0 (by decide)) (by decide) rfl (fun _ => rfl) rfl hk122 dX3_readWay_86 ?_
  refine lv_sipush (v := 299) hx hb dX3_readWay_87 (by decide) ?_
  obtain ⟨⟨x124, u125⟩, hc123, h⟩ := ob h
  replace h := bd_x (x := x124) rfl h
  replace h := bd_x (x := u125) rfl h
  refine r_callV1 (As := [.int (gI u121 39 i0 k122), .int 299]) (rest := [.int (x101 + 4), .ref (a 39 i0)]) (r := 5) (i := 0) C (vX5_demandNumber hc123) hR hS (lv0 (by decide) (by decide)) (by decide) ml_X3_83 mw_X5_demandNumber rfl ⟨Nat.le_of_ble_eq_true rfl, Nat.le_of_ble_eq_true rfl, Nat.le_of_ble_eq_true rfl, Nat.le_of_ble_eq_true rfl⟩ hl.1 rfl (Nat.le_of_ble_eq_true rfl) dX3_readWay_90 (fun H locs hR hS => ?_)
  obtain ⟨k126, hk126, h⟩ := ob h
  refine r_ast C hR hS 39 i0 (lv0 hi0 (by decide)) (by decide) rfl (fun _ _ => rfl) rfl hk126 dX3_readWay_93 (fun H locs hR hS => ?_)
  obtain ⟨u127, eu127⟩ : ∃ z : HS, z = wI u125 39 i0 k126 x124 := ⟨_, rfl⟩
  rw [← eu127] at hR
  replace h := bd_x eu127 h
  clear eu127
  refine lv_aload_n hx hb dX3_readWay_94 rfl (lv_at hl 1 rfl) ?_
  refine r_get C hR 3 i0 4 (v := .ref (a 39 i0)) (lv0 hi0 (by decide)) (by decide) (by decide) rfl fl_X3_25 dX3_readWay_95 ?_
  refine lv_iload_n hx hb dX3_readWay_98 rfl (lv_at hl 0 rfl) ?_
  refine lv_iconst (v := 5) hx hb dX3_readWay_99 (by decide) ?_
  refine lv_iadd hx hb dX3_readWay_100 ?_
  refine lv_aload_n hx hb dX3_readWay_101 rfl (lv_at hl 2 rfl) ?_
  refine lv_iconst (v := 0) hx hb dX3_readWay_102 (by decide) ?_
  refine lv_bipush (v := 39) hx hb dX3_readWay_103 (by decide) ?_
  obtain ⟨⟨x129, u130⟩, hc128, h⟩ := ob h
  replace h := bd_x (x := x129) rfl h
  replace h := bd_x (x := u130) rfl h
  refine r_callV1 (As := [.int 0, .int 39]) (rest := [.int (x101 + 5), .ref (a 39 i0)]) (r := 5) (i := 0) C (vX5_demandNumber hc128) hR hS (lv0 (by decide) (by decide)) (by decide) ml_X3_83 mw_X5_demandNumber rfl ⟨Nat.le_of_ble_eq_true rfl, Nat.le_of_ble_eq_true rfl, Nat.le_of_ble_eq_true rfl, Nat.le_of_ble_eq_true rfl⟩ hl.1 rfl (Nat.le_of_ble_eq_true rfl) dX3_readWay_105 (fun H locs hR hS => ?_)
  obtain ⟨k131, hk131, h⟩ := ob h
  refine r_ast C hR hS 39 i0 (lv0 hi0 (by decide)) (by decide) rfl (fun _ _ => rfl) rfl hk131 dX3_readWay_108 (fun H locs hR hS => ?_)
  obtain ⟨u132, eu132⟩ : ∃ z : HS, z = wI u130 39 i0 k131 x129 := ⟨_, rfl⟩
  rw [← eu132] at hR
  replace h := bd_x eu132 h
  clear eu132
  refine lv_aload_n hx hb dX3_readWay_109 rfl (lv_at hl 1 rfl) ?_
  refine r_get C hR 3 i0 4 (v := .ref (a 39 i0)) (lv0 hi0 (by decide)) (by decide) (by decide) rfl fl_X3_25 dX3_readWay_110 ?_
  refine lv_iload_n hx hb dX3_readWay_113 rfl (lv_at hl 0 rfl) ?_
  refine lv_bipush (v := 6) hx hb dX3_readWay_114 (by decide) ?_
  refine lv_iadd hx hb dX3_readWay_116 ?_
  refine lv_aload_n hx hb dX3_readWay_117 rfl (lv_at hl 2 rfl) ?_
  refine lv_iconst (v := 0) hx hb dX3_readWay_118 (by decide) ?_
  refine lv_bipush (v := 29) hx hb dX3_readWay_119 (by decide) ?_
  obtain ⟨⟨x134, u135⟩, hc133, h⟩ := ob h
  replace h := bd_x (x := x134) rfl h
  replace h := bd_x (x := u135) rfl h
  refine r_callV1 (As := [.int 0, .int 29]) (rest := [.int (x101 + 6), .ref (a 39 i0)]) (r := 5) (i := 0) C (vX5_demandNumber hc133) hR hS (lv0 (by decide) (by decide)) (by decide) ml_X3_83 mw_X5_demandNumber rfl ⟨Nat.le_of_ble_eq_true rfl, Nat.le_of_ble_eq_true rfl, Nat.le_of_ble_eq_true rfl, Nat.le_of_ble_eq_true rfl⟩ hl.1 rfl (Nat.le_of_ble_eq_true rfl) dX3_readWay_121 (fun H locs hR hS => ?_)
  obtain ⟨k136, hk136, h⟩ := ob h
  refine r_ast C hR hS 39 i0 (lv0 hi0 (by decide)) (by decide) rfl (fun _ _ => rfl) rfl hk136 dX3_readWay_124 (fun H locs hR hS => ?_)
  obtain ⟨u137, eu137⟩ : ∃ z : HS, z = wI u135 39 i0 k136 x134 := ⟨_, rfl⟩
  rw [← eu137] at hR
  replace h := bd_x eu137 h
  clear eu137
  refine lv_aload_n hx hb dX3_readWay_125 rfl (lv_at hl 1 rfl) ?_
  refine lv_aload_n hx hb dX3_readWay_126 rfl (lv_at hl 1 rfl) ?_
  refine r_get C hR 3 i0 11 (v := .int (gI u137 3 i0 11)) (lv0 hi0 (by decide)) (by decide) (by decide) rfl fl_X3_46 dX3_readWay_127 ?_
  refine lv_aload_n hx hb dX3_readWay_130 rfl (lv_at hl 1 rfl) ?_
  refine r_get C hR 3 i0 4 (v := .ref (a 39 i0)) (lv0 hi0 (by decide)) (by decide) (by decide) rfl fl_X3_25 dX3_readWay_131 ?_
  refine lv_iload_n hx hb dX3_readWay_134 rfl (lv_at hl 0 rfl) ?_
  refine lv_iconst (v := 4) hx hb dX3_readWay_135 (by decide) ?_
  refine lv_iadd hx hb dX3_readWay_136 ?_
  obtain ⟨k138, hk138, h⟩ := ob h
  refine r_ald C hR 39 i0 (lv0 hi0 (by decide)) (by decide) rfl (fun _ => rfl) rfl hk138 dX3_readWay_137 ?_
  refine r_max C hl.1 ml_X3_97 (Nat.le_of_ble_eq_true rfl) (Nat.le_of_ble_eq_true rfl) (Nat.le_of_ble_eq_true rfl) (Nat.le_of_ble_eq_true rfl) dX3_readWay_138 ?_
  refine lv_topi (fun x139 ex139 => ?_)
  replace h := bd_x ex139 h
  refine r_putI (ty := .int) C hR hS 3 i0 11 (lv0 hi0 (by decide)) (by decide) (by decide) (fun _ => rfl) fl_X3_46 (by decide) (by decide +kernel) rfl rfl dX3_readWay_141 (fun H locs hR hS => ?_)
  obtain ⟨u140, eu140⟩ : ∃ z : HS, z = wI u137 3 i0 11 x139 := ⟨_, rfl⟩
  rw [← eu140] at hR
  replace h := bd_x eu140 h
  clear eu140
  refine lv_aload_n hx hb dX3_readWay_144 rfl (lv_at hl 1 rfl) ?_
  refine lv_dup hx hb dX3_readWay_145 rfl ?_
  refine r_get C hR 3 i0 3 (v := .int (gI u140 3 i0 3)) (lv0 hi0 (by decide)) (by decide) (by decide) rfl fl_X3_22 dX3_readWay_146 ?_
  refine lv_iconst (v := 1) hx hb dX3_readWay_149 (by decide) ?_
  refine lv_iadd hx hb dX3_readWay_150 ?_
  refine r_putI (ty := .int) C hR hS 3 i0 3 (lv0 hi0 (by decide)) (by decide) (by decide) (fun _ => rfl) fl_X3_22 (by decide) (by decide +kernel) rfl rfl dX3_readWay_151 (fun H locs hR hS => ?_)
  obtain ⟨u141, eu141⟩ : ∃ z : HS, z = wI u140 3 i0 3 ((gI u140 3 i0 3) + 1) := ⟨_, rfl⟩
  rw [← eu141] at hR
  replace h := bd_x eu141 h
  clear eu141
  cases h
  exact e_vret C hr hR hS (Nat.le_of_ble_eq_true rfl) (Nat.le_of_ble_eq_true rfl) dX3_readWay_154
set_option maxHeartbeats 4000000 in
set_option maxRecDepth 100000 in
theorem vX3_readThrow {l : Launch} {E : EV} {a : Nat → Nat → Nat} {u0 : HS} {i0 : Nat} {out : HS} (hi0 : i0 < cntS 3) (h : mX3_readThrow u0 i0 = some out) : Ct l E yX3_readThrow cX3_readThrow 3 none 3 66 0 0 a u0 [.ref (a 3 i0), .ref (a 5 0)] none out := by
  refine Ct.start (by decide) (Nat.le_of_ble_eq_true rfl) ?_
  intro p e s m args below meth c ls C hr hR hS hl
  have C : Cx E p s m args meth c cX3_readThrow 3 RX3 := C
  have hl : lv_has ls 3 [(0, .ref (a 3 i0)), (1, .ref (a 5 0))] := hl
  have hx := C.1
  have hb := C.2.1
  unfold mX3_readThrow at h
  refine lv_aload_n hx hb dX3_readThrow_0 rfl (lv_at hl 0 rfl) ?_
  refine r_get C hR 3 i0 5 (v := .int (gI u0 3 i0 5)) (lv0 hi0 (by decide)) (by decide) (by decide) rfl fl_X3_28 dX3_readThrow_1 ?_
  refine lv_iconst (v := 3) hx hb dX3_readThrow_4 (by decide) ?_
  refine lv_imul hx hb dX3_readThrow_5 ?_
  refine lv_topi (fun x101 ex101 => ?_)
  replace h := bd_x ex101 h
  refine lv_istore_n (lv' := [(2, .int x101), (0, .ref (a 3 i0)), (1, .ref (a 5 0))]) hx hb dX3_readThrow_6 rfl hl (by decide) rfl (fun ls hl => ?_)
  refine lv_aload_n hx hb dX3_readThrow_7 rfl (lv_at hl 1 rfl) ?_
  refine r_get C hR 3 i0 6 (v := .ref (a 40 i0)) (lv0 hi0 (by decide)) (by decide) (by decide) rfl fl_X3_31 dX3_readThrow_8 ?_
  refine lv_iload_n hx hb dX3_readThrow_11 rfl (lv_at hl 0 rfl) ?_
  refine lv_aload_n hx hb dX3_readThrow_12 rfl (lv_at hl 2 rfl) ?_
  refine lv_iconst (v := 0) hx hb dX3_readThrow_13 (by decide) ?_
  refine lv_aload_n hx hb dX3_readThrow_14 rfl (lv_at hl 1 rfl) ?_
  refine r_get C hR 3 i0 0 (v := .int (gI u0 3 i0 0)) (lv0 hi0 (by decide)) (by decide) (by decide) rfl fl_X3_9 dX3_readThrow_15 ?_
  refine lv_iconst (v := 1) hx hb dX3_readThrow_18 (by decide) ?_
  refine lv_isub hx hb dX3_readThrow_19 ?_
  obtain ⟨⟨x103, u104⟩, hc102, h⟩ := ob h
  replace h := bd_x (x := x103) rfl h
  replace h := bd_x (x := u104) rfl h
  refine r_callV1 (As := [.int 0, .int ((gI u0 3 i0 0) - 1)]) (rest := [.int x101, .ref (a 40 i0)]) (r := 5) (i := 0) C (vX5_demandNumber hc102) hR hS (lv0 (by decide) (by decide)) (by decide) ml_X3_83 mw_X5_demandNumber rfl ⟨Nat.le_of_ble_eq_true rfl, Nat.le_of_ble_eq_true rfl, Nat.le_of_ble_eq_true rfl, Nat.le_of_ble_eq_true rfl⟩ hl.1 rfl (Nat.le_of_ble_eq_true rfl) dX3_readThrow_20 (fun H locs hR hS => ?_)
  obtain ⟨k105, hk105, h⟩ := ob h
  refine r_ast C hR hS 40 i0 (lv0 hi0 (by decide)) (by decide) rfl (fun _ _ => rfl) rfl hk105 dX3_readThrow_23 (fun H locs hR hS => ?_)
  obtain ⟨u106, eu106⟩ : ∃ z : HS, z = wI u104 40 i0 k105 x103 := ⟨_, rfl⟩
  rw [← eu106] at hR
  replace h := bd_x eu106 h
  clear eu106
  refine lv_aload_n hx hb dX3_readThrow_24 rfl (lv_at hl 1 rfl) ?_
  refine r_get C hR 3 i0 6 (v := .ref (a 40 i0)) (lv0 hi0 (by decide)) (by decide) (by decide) rfl fl_X3_31 dX3_readThrow_25 ?_
  refine lv_iload_n hx hb dX3_readThrow_28 rfl (lv_at hl 0 rfl) ?_
  refine lv_iconst (v := 1) hx hb dX3_readThrow_29 (by decide) ?_
  refine lv_iadd hx hb dX3_readThrow_30 ?_
  refine lv_aload_n hx hb dX3_readThrow_31 rfl (lv_at hl 2 rfl) ?_
  refine lv_iconst (v := 0) hx hb dX3_readThrow_32 (by decide) ?_
  refine lv_aload_n hx hb dX3_readThrow_33 rfl (lv_at hl 1 rfl) ?_
  refine r_get C hR 3 i0 0 (v := .int (gI u106 3 i0 0)) (lv0 hi0 (by decide)) (by decide) (by decide) rfl fl_X3_9 dX3_readThrow_34 ?_
  refine lv_iconst (v := 1) hx hb dX3_readThrow_37 (by decide) ?_
  refine lv_isub hx hb dX3_readThrow_38 ?_
  obtain ⟨⟨x108, u109⟩, hc107, h⟩ := ob h
  replace h := bd_x (x := x108) rfl h
  replace h := bd_x (x := u109) rfl h
  refine r_callV1 (As := [.int 0, .int ((gI u106 3 i0 0) - 1)]) (rest := [.int (x101 + 1), .ref (a 40 i0)]) (r := 5) (i := 0) C (vX5_demandNumber hc107) hR hS (lv0 (by decide) (by decide)) (by decide) ml_X3_83 mw_X5_demandNumber rfl ⟨Nat.le_of_ble_eq_true rfl, Nat.le_of_ble_eq_true rfl, Nat.le_of_ble_eq_true rfl, Nat.le_of_ble_eq_true rfl⟩ hl.1 rfl (Nat.le_of_ble_eq_true rfl) dX3_readThrow_39 (fun H locs hR hS => ?_)
  obtain ⟨k110, hk110, h⟩ := ob h
  refine r_ast C hR hS 40 i0 (lv0 hi0 (by decide)) (by decide) rfl (fun _ _ => rfl) rfl hk110 dX3_readThrow_42 (fun H locs hR hS => ?_)
  obtain ⟨u111, eu111⟩ : ∃ z : HS, z = wI u109 40 i0 k110 x108 := ⟨_, rfl⟩
  rw [← eu111] at hR
  replace h := bd_x eu111 h
  clear eu111
  refine lv_aload_n hx hb dX3_readThrow_43 rfl (lv_at hl 1 rfl) ?_
  refine r_get C hR 3 i0 6 (v := .ref (a 40 i0)) (lv0 hi0 (by decide)) (by decide) (by decide) rfl fl_X3_31 dX3_readThrow_44 ?_
  refine lv_iload_n hx hb dX3_readThrow_47 rfl (lv_at hl 0 rfl) ?_
  refine lv_iconst (v := 1) hx hb dX3_readThrow_48 (by decide) ?_
  refine lv_iadd hx hb dX3_readThrow_49 ?_
  obtain ⟨k112, hk112, h⟩ := ob h
  refine r_ald C hR 40 i0 (lv0 hi0 (by decide)) (by decide) rfl (fun _ => rfl) rfl hk112 dX3_readThrow_50 ?_
  refine lv_aload_n hx hb dX3_readThrow_51 rfl (lv_at hl 1 rfl) ?_
  refine r_get C hR 3 i0 6 (v := .ref (a 40 i0)) (lv0 hi0 (by decide)) (by decide) (by decide) rfl fl_X3_31 dX3_readThrow_52 ?_
  refine lv_iload_n hx hb dX3_readThrow_55 rfl (lv_at hl 0 rfl) ?_
  obtain ⟨k113, hk113, h⟩ := ob h
  refine r_ald C hR 40 i0 (lv0 hi0 (by decide)) (by decide) rfl (fun _ => rfl) rfl hk113 dX3_readThrow_56 ?_
  obtain ⟨u114, hz, h⟩ := ob h
  have Kj115 : ∀ (H : Heap) (locs : List Loc) (ls : Array Slot), Rel E a u114 H → va_S (AE E) s.heap H locs → lv_has ls 3 [(0, .ref (a 3 i0)), (1, .ref (a 5 0)), (2, .int x101)] → W p l e { frames := 3, cells := 0, slots := 0, locals := 66 } s m args below meth c H locs 0 0 (MQ below (QW E a none out) args s 0 0 (AE E)) (F0 m 69 ls []) := by
    intro H locs ls hR hS hl
    clear hz
    refine lv_aload_n hx hb dX3_readThrow_69 rfl (lv_at hl 0 rfl) ?_
    refine r_get C hR 3 i0 6 (v := .ref (a 40 i0)) (lv0 hi0 (by decide)) (by decide) (by decide) rfl fl_X3_31 dX3_readThrow_70 ?_
    refine lv_iload_n hx hb dX3_readThrow_73 rfl (lv_at hl 2 rfl) ?_
    refine lv_iconst (v := 2) hx hb dX3_readThrow_74 (by decide) ?_
    refine lv_iadd hx hb dX3_readThrow_75 ?_
    refine lv_aload_n hx hb dX3_readThrow_76 rfl (lv_at hl 1 rfl) ?_
    refine lv_iconst (v := 0) hx hb dX3_readThrow_77 (by decide) ?_
    refine lv_sipush (v := 299) hx hb dX3_readThrow_78 (by decide) ?_
    obtain ⟨⟨x117, u118⟩, hc116, h⟩ := ob h
    replace h := bd_x (x := x117) rfl h
    replace h := bd_x (x := u118) rfl h
    refine r_callV1 (As := [.int 0, .int 299]) (rest := [.int (x101 + 2), .ref (a 40 i0)]) (r := 5) (i := 0) C (vX5_demandNumber hc116) hR hS (lv0 (by decide) (by decide)) (by decide) ml_X3_83 mw_X5_demandNumber rfl ⟨Nat.le_of_ble_eq_true rfl, Nat.le_of_ble_eq_true rfl, Nat.le_of_ble_eq_true rfl, Nat.le_of_ble_eq_true rfl⟩ hl.1 rfl (Nat.le_of_ble_eq_true rfl) dX3_readThrow_81 (fun H locs hR hS => ?_)
    obtain ⟨k119, hk119, h⟩ := ob h
    refine r_ast C hR hS 40 i0 (lv0 hi0 (by decide)) (by decide) rfl (fun _ _ => rfl) rfl hk119 dX3_readThrow_84 (fun H locs hR hS => ?_)
    obtain ⟨u120, eu120⟩ : ∃ z : HS, z = wI u118 40 i0 k119 x117 := ⟨_, rfl⟩
    rw [← eu120] at hR
    replace h := bd_x eu120 h
    clear eu120
    refine lv_aload_n hx hb dX3_readThrow_85 rfl (lv_at hl 0 rfl) ?_
    refine lv_dup hx hb dX3_readThrow_86 rfl ?_
    refine r_get C hR 3 i0 5 (v := .int (gI u120 3 i0 5)) (lv0 hi0 (by decide)) (by decide) (by decide) rfl fl_X3_28 dX3_readThrow_87 ?_
    refine lv_iconst (v := 1) hx hb dX3_readThrow_90 (by decide) ?_
    refine lv_iadd hx hb dX3_readThrow_91 ?_
    refine r_putI (ty := .int) C hR hS 3 i0 5 (lv0 hi0 (by decide)) (by decide) (by decide) (fun _ => rfl) fl_X3_28 (by decide) (by decide +kernel) rfl rfl dX3_readThrow_92 (fun H locs hR hS => ?_)
    obtain ⟨u121, eu121⟩ : ∃ z : HS, z = wI u120 3 i0 5 ((gI u120 3 i0 5) + 1) := ⟨_, rfl⟩
    rw [← eu121] at hR
    replace h := bd_x eu121 h
    clear eu121
    cases h
    exact e_vret C hr hR hS (Nat.le_of_ble_eq_true rfl) (Nat.le_of_ble_eq_true rfl) dX3_readThrow_95
  clear h
  have h := hz
  clear hz
  refine lv_icmp_ne (tgt := 69) hx hb dX3_readThrow_57 (by decide) (fun c_122 => ?_) (fun c_122 => ?_)
  · rw [if_neg c_122] at h
    cases h
    exact Kj115 _ _ _ hR hS (lv_sub hl [1, 2, 0] rfl)
  · rw [if_pos c_122] at h
    refine lv_aload_n hx hb dX3_readThrow_60 rfl (lv_at hl 2 rfl) ?_
    refine lv_iconst (v := 2) hx hb dX3_readThrow_61 (by decide) ?_
    refine lv_aload_n hx hb dX3_readThrow_62 rfl (lv_at hl 2 rfl) ?_
    refine r_get C hR 5 0 4 (v := .int (gI u111 5 0 4)) (lv0 (by decide) (by decide)) (by decide) (by decide) rfl fl_X3_90 dX3_readThrow_63 ?_
    obtain ⟨u124, hc123, h⟩ := ob h
    refine r_callV0 (As := [.int 2, .int (gI u111 5 0 4)]) (rest := []) (r := 5) (i := 0) C (vX5_blame hc123) hR hS (lv0 (by decide) (by decide)) (by decide) ml_X3_93 mw_X5_blame rfl ⟨Nat.le_of_ble_eq_true rfl, Nat.le_of_ble_eq_true rfl, Nat.le_of_ble_eq_true rfl, Nat.le_of_ble_eq_true rfl⟩ hl.1 rfl (Nat.le_of_ble_eq_true rfl) dX3_readThrow_66 (fun H locs hR hS => ?_)
    cases h
    exact Kj115 _ _ _ hR hS (lv_sub hl [1, 2, 0] rfl)
set_option maxHeartbeats 4000000 in
set_option maxRecDepth 100000 in
theorem vX3_readTurn {l : Launch} {E : EV} {a : Nat → Nat → Nat} {u0 : HS} {i0 : Nat} {out : HS} (hi0 : i0 < cntS 3) (h : mX3_readTurn u0 i0 = some out) : Ct l E yX3_readTurn cX3_readTurn 3 none 3 66 0 0 a u0 [.ref (a 3 i0), .ref (a 5 0)] none out := by
  refine Ct.start (by decide) (Nat.le_of_ble_eq_true rfl) ?_
  intro p e s m args below meth c ls C hr hR hS hl
  have C : Cx E p s m args meth c cX3_readTurn 3 RX3 := C
  have hl : lv_has ls 3 [(0, .ref (a 3 i0)), (1, .ref (a 5 0))] := hl
  have hx := C.1
  have hb := C.2.1
  unfold mX3_readTurn at h
  refine lv_aload_n hx hb dX3_readTurn_0 rfl (lv_at hl 0 rfl) ?_
  refine r_get C hR 3 i0 7 (v := .int (gI u0 3 i0 7)) (lv0 hi0 (by decide)) (by decide) (by decide) rfl fl_X3_34 dX3_readTurn_1 ?_
  refine lv_iconst (v := 3) hx hb dX3_readTurn_4 (by decide) ?_
  refine lv_imul hx hb dX3_readTurn_5 ?_
  refine lv_topi (fun x101 ex101 => ?_)
  replace h := bd_x ex101 h
  refine lv_istore_n (lv' := [(2, .int x101), (0, .ref (a 3 i0)), (1, .ref (a 5 0))]) hx hb dX3_readTurn_6 rfl hl (by decide) rfl (fun ls hl => ?_)
  refine lv_aload_n hx hb dX3_readTurn_7 rfl (lv_at hl 1 rfl) ?_
  refine r_get C hR 3 i0 8 (v := .ref (a 41 i0)) (lv0 hi0 (by decide)) (by decide) (by decide) rfl fl_X3_37 dX3_readTurn_8 ?_
  refine lv_iload_n hx hb dX3_readTurn_11 rfl (lv_at hl 0 rfl) ?_
  refine lv_aload_n hx hb dX3_readTurn_12 rfl (lv_at hl 2 rfl) ?_
  refine lv_iconst (v := 0) hx hb dX3_readTurn_13 (by decide) ?_
  refine lv_aload_n hx hb dX3_readTurn_14 rfl (lv_at hl 1 rfl) ?_
  refine r_get C hR 3 i0 0 (v := .int (gI u0 3 i0 0)) (lv0 hi0 (by decide)) (by decide) (by decide) rfl fl_X3_9 dX3_readTurn_15 ?_
  refine lv_iconst (v := 1) hx hb dX3_readTurn_18 (by decide) ?_
  refine lv_isub hx hb dX3_readTurn_19 ?_
  obtain ⟨⟨x103, u104⟩, hc102, h⟩ := ob h
  replace h := bd_x (x := x103) rfl h
  replace h := bd_x (x := u104) rfl h
  refine r_callV1 (As := [.int 0, .int ((gI u0 3 i0 0) - 1)]) (rest := [.int x101, .ref (a 41 i0)]) (r := 5) (i := 0) C (vX5_demandNumber hc102) hR hS (lv0 (by decide) (by decide)) (by decide) ml_X3_83 mw_X5_demandNumber rfl ⟨Nat.le_of_ble_eq_true rfl, Nat.le_of_ble_eq_true rfl, Nat.le_of_ble_eq_true rfl, Nat.le_of_ble_eq_true rfl⟩ hl.1 rfl (Nat.le_of_ble_eq_true rfl) dX3_readTurn_20 (fun H locs hR hS => ?_)
  obtain ⟨k105, hk105, h⟩ := ob h
  refine r_ast C hR hS 41 i0 (lv0 hi0 (by decide)) (by decide) rfl (fun _ _ => rfl) rfl hk105 dX3_readTurn_23 (fun H locs hR hS => ?_)
  obtain ⟨u106, eu106⟩ : ∃ z : HS, z = wI u104 41 i0 k105 x103 := ⟨_, rfl⟩
  rw [← eu106] at hR
  replace h := bd_x eu106 h
  clear eu106
  refine lv_aload_n hx hb dX3_readTurn_24 rfl (lv_at hl 1 rfl) ?_
  refine r_get C hR 3 i0 8 (v := .ref (a 41 i0)) (lv0 hi0 (by decide)) (by decide) (by decide) rfl fl_X3_37 dX3_readTurn_25 ?_
  refine lv_iload_n hx hb dX3_readTurn_28 rfl (lv_at hl 0 rfl) ?_
  refine lv_iconst (v := 1) hx hb dX3_readTurn_29 (by decide) ?_
  refine lv_iadd hx hb dX3_readTurn_30 ?_
  refine lv_aload_n hx hb dX3_readTurn_31 rfl (lv_at hl 2 rfl) ?_
  refine lv_iconst (v := 0) hx hb dX3_readTurn_32 (by decide) ?_
  refine lv_sipush (v := 299) hx hb dX3_readTurn_33 (by decide) ?_
  obtain ⟨⟨x108, u109⟩, hc107, h⟩ := ob h
  replace h := bd_x (x := x108) rfl h
  replace h := bd_x (x := u109) rfl h
  refine r_callV1 (As := [.int 0, .int 299]) (rest := [.int (x101 + 1), .ref (a 41 i0)]) (r := 5) (i := 0) C (vX5_demandNumber hc107) hR hS (lv0 (by decide) (by decide)) (by decide) ml_X3_83 mw_X5_demandNumber rfl ⟨Nat.le_of_ble_eq_true rfl, Nat.le_of_ble_eq_true rfl, Nat.le_of_ble_eq_true rfl, Nat.le_of_ble_eq_true rfl⟩ hl.1 rfl (Nat.le_of_ble_eq_true rfl) dX3_readTurn_36 (fun H locs hR hS => ?_)
  obtain ⟨k110, hk110, h⟩ := ob h
  refine r_ast C hR hS 41 i0 (lv0 hi0 (by decide)) (by decide) rfl (fun _ _ => rfl) rfl hk110 dX3_readTurn_39 (fun H locs hR hS => ?_)
  obtain ⟨u111, eu111⟩ : ∃ z : HS, z = wI u109 41 i0 k110 x108 := ⟨_, rfl⟩
  rw [← eu111] at hR
  replace h := bd_x eu111 h
  clear eu111
  refine lv_aload_n hx hb dX3_readTurn_40 rfl (lv_at hl 1 rfl) ?_
  refine r_get C hR 3 i0 8 (v := .ref (a 41 i0)) (lv0 hi0 (by decide)) (by decide) (by decide) rfl fl_X3_37 dX3_readTurn_41 ?_
  refine lv_iload_n hx hb dX3_readTurn_44 rfl (lv_at hl 0 rfl) ?_
  refine lv_iconst (v := 2) hx hb dX3_readTurn_45 (by decide) ?_
  refine lv_iadd hx hb dX3_readTurn_46 ?_
  refine lv_aload_n hx hb dX3_readTurn_47 rfl (lv_at hl 2 rfl) ?_
  refine lv_iconst (v := 0) hx hb dX3_readTurn_48 (by decide) ?_
  refine lv_bipush (v := 7) hx hb dX3_readTurn_49 (by decide) ?_
  obtain ⟨⟨x113, u114⟩, hc112, h⟩ := ob h
  replace h := bd_x (x := x113) rfl h
  replace h := bd_x (x := u114) rfl h
  refine r_callV1 (As := [.int 0, .int 7]) (rest := [.int (x101 + 2), .ref (a 41 i0)]) (r := 5) (i := 0) C (vX5_demandNumber hc112) hR hS (lv0 (by decide) (by decide)) (by decide) ml_X3_83 mw_X5_demandNumber rfl ⟨Nat.le_of_ble_eq_true rfl, Nat.le_of_ble_eq_true rfl, Nat.le_of_ble_eq_true rfl, Nat.le_of_ble_eq_true rfl⟩ hl.1 rfl (Nat.le_of_ble_eq_true rfl) dX3_readTurn_51 (fun H locs hR hS => ?_)
  obtain ⟨k115, hk115, h⟩ := ob h
  refine r_ast C hR hS 41 i0 (lv0 hi0 (by decide)) (by decide) rfl (fun _ _ => rfl) rfl hk115 dX3_readTurn_54 (fun H locs hR hS => ?_)
  obtain ⟨u116, eu116⟩ : ∃ z : HS, z = wI u114 41 i0 k115 x113 := ⟨_, rfl⟩
  rw [← eu116] at hR
  replace h := bd_x eu116 h
  clear eu116
  refine lv_aload_n hx hb dX3_readTurn_55 rfl (lv_at hl 1 rfl) ?_
  refine r_get C hR 3 i0 10 (v := .int (gI u116 3 i0 10)) (lv0 hi0 (by decide)) (by decide) (by decide) rfl fl_X3_43 dX3_readTurn_56 ?_
  refine lv_iconst (v := (-1)) hx hb dX3_readTurn_59 (by decide) ?_
  obtain ⟨u117, hz, h⟩ := ob h
  have Kj118 : ∀ (H : Heap) (locs : List Loc) (ls : Array Slot), Rel E a u117 H → va_S (AE E) s.heap H locs → lv_has ls 3 [(0, .ref (a 3 i0))] → W p l e { frames := 3, cells := 0, slots := 0, locals := 66 } s m args below meth c H locs 0 0 (MQ below (QW E a none out) args s 0 0 (AE E)) (F0 m 73 ls []) := by
    intro H locs ls hR hS hl
    clear hz
    refine lv_aload_n hx hb dX3_readTurn_73 rfl (lv_at hl 0 rfl) ?_
    refine lv_dup hx hb dX3_readTurn_74 rfl ?_
    refine r_get C hR 3 i0 7 (v := .int (gI u117 3 i0 7)) (lv0 hi0 (by decide)) (by decide) (by decide) rfl fl_X3_34 dX3_readTurn_75 ?_
    refine lv_iconst (v := 1) hx hb dX3_readTurn_78 (by decide) ?_
    refine lv_iadd hx hb dX3_readTurn_79 ?_
    refine r_putI (ty := .int) C hR hS 3 i0 7 (lv0 hi0 (by decide)) (by decide) (by decide) (fun _ => rfl) fl_X3_34 (by decide) (by decide +kernel) rfl rfl dX3_readTurn_80 (fun H locs hR hS => ?_)
    obtain ⟨u119, eu119⟩ : ∃ z : HS, z = wI u117 3 i0 7 ((gI u117 3 i0 7) + 1) := ⟨_, rfl⟩
    rw [← eu119] at hR
    replace h := bd_x eu119 h
    clear eu119
    cases h
    exact e_vret C hr hR hS (Nat.le_of_ble_eq_true rfl) (Nat.le_of_ble_eq_true rfl) dX3_readTurn_83
  clear h
  have h := hz
  clear hz
  refine lv_icmp_ne (tgt := 73) hx hb dX3_readTurn_60 (by decide) (fun c_120 => ?_) (fun c_120 => ?_)
  · rw [if_neg c_120] at h
    cases h
    exact Kj118 _ _ _ hR hS (lv_sub hl [1] rfl)
  · rw [if_pos c_120] at h
    refine lv_aload_n hx hb dX3_readTurn_63 rfl (lv_at hl 1 rfl) ?_
    refine lv_aload_n hx hb dX3_readTurn_64 rfl (lv_at hl 1 rfl) ?_
    refine r_get C hR 3 i0 8 (v := .ref (a 41 i0)) (lv0 hi0 (by decide)) (by decide) (by decide) rfl fl_X3_37 dX3_readTurn_65 ?_
    refine lv_iload_n hx hb dX3_readTurn_68 rfl (lv_at hl 0 rfl) ?_
    obtain ⟨k121, hk121, h⟩ := ob h
    refine r_ald C hR 41 i0 (lv0 hi0 (by decide)) (by decide) rfl (fun _ => rfl) rfl hk121 dX3_readTurn_69 ?_
    refine r_putI (ty := .int) C hR hS 3 i0 10 (lv0 hi0 (by decide)) (by decide) (by decide) (fun _ => rfl) fl_X3_43 (by decide) (by decide +kernel) rfl rfl dX3_readTurn_70 (fun H locs hR hS => ?_)
    obtain ⟨u122, eu122⟩ : ∃ z : HS, z = wI u116 3 i0 10 (gI u116 41 i0 k121) := ⟨_, rfl⟩
    rw [← eu122] at hR
    replace h := bd_x eu122 h
    clear eu122
    cases h
    exact Kj118 _ _ _ hR hS (lv_sub hl [1] rfl)
set_option maxHeartbeats 4000000 in
set_option maxRecDepth 100000 in
theorem vX3_readClause {l : Launch} {E : EV} {a : Nat → Nat → Nat} {u0 : HS} {i0 : Nat} {x1 : Int32} {out : HS} (hi0 : i0 < cntS 3) (h : mX3_readClause u0 i0 x1 = some out) : Ct l E yX3_readClause cX3_readClause 3 none 4 88 0 0 a u0 [.ref (a 3 i0), .int x1, .ref (a 5 0)] none out := by
  refine Ct.start (by decide) (Nat.le_of_ble_eq_true rfl) ?_
  intro p e s m args below meth c ls C hr hR hS hl
  have C : Cx E p s m args meth c cX3_readClause 3 RX3 := C
  have hl : lv_has ls 3 [(0, .ref (a 3 i0)), (1, .int x1), (2, .ref (a 5 0))] := hl
  have hx := C.1
  have hb := C.2.1
  unfold mX3_readClause at h
  refine lv_iload_n hx hb dX3_readClause_0 rfl (lv_at hl 1 rfl) ?_
  by_cases c_101 : x1 = 0
  · rw [if_pos c_101] at h
    refine sw_in c_101 hx hb dX3_readClause_1 (by decide) (by decide) rfl (by decide) (tgt := 32) ?_
    refine lv_aload_n hx hb dX3_readClause_32 rfl (lv_at hl 0 rfl) ?_
    refine lv_aload_n hx hb dX3_readClause_33 rfl (lv_at hl 2 rfl) ?_
    obtain ⟨u103, hc102, h⟩ := ob h
    refine r_callV0 (As := [.ref (a 5 0)]) (rest := []) (r := 3) (i := i0) C (vX3_readThing hi0 hc102) hR hS (lv0 hi0 (by decide)) (by decide) ml_X3_73 mw_X3_readThing rfl ⟨Nat.le_of_ble_eq_true rfl, Nat.le_of_ble_eq_true rfl, Nat.le_of_ble_eq_true rfl, Nat.le_of_ble_eq_true rfl⟩ hl.1 rfl (Nat.le_of_ble_eq_true rfl) dX3_readClause_34 (fun H locs hR hS => ?_)
    refine lv_goto (tgt := 79) hx hb dX3_readClause_37 (by decide) ?_
    cases h
    exact e_vret C hr hR hS (Nat.le_of_ble_eq_true rfl) (Nat.le_of_ble_eq_true rfl) dX3_readClause_79
  rw [if_neg c_101] at h
  by_cases c_104 : x1 = 1
  · rw [if_pos c_104] at h
    refine sw_in c_104 hx hb dX3_readClause_1 (by decide) (by decide) rfl (by decide) (tgt := 40) ?_
    refine lv_aload_n hx hb dX3_readClause_40 rfl (lv_at hl 0 rfl) ?_
    refine lv_aload_n hx hb dX3_readClause_41 rfl (lv_at hl 2 rfl) ?_
    obtain ⟨u106, hc105, h⟩ := ob h
    refine r_callV0 (As := [.ref (a 5 0)]) (rest := []) (r := 3) (i := i0) C (vX3_readWay hi0 hc105) hR hS (lv0 hi0 (by decide)) (by decide) ml_X3_77 mw_X3_readWay rfl ⟨Nat.le_of_ble_eq_true rfl, Nat.le_of_ble_eq_true rfl, Nat.le_of_ble_eq_true rfl, Nat.le_of_ble_eq_true rfl⟩ hl.1 rfl (Nat.le_of_ble_eq_true rfl) dX3_readClause_42 (fun H locs hR hS => ?_)
    refine lv_goto (tgt := 79) hx hb dX3_readClause_45 (by decide) ?_
    cases h
    exact e_vret C hr hR hS (Nat.le_of_ble_eq_true rfl) (Nat.le_of_ble_eq_true rfl) dX3_readClause_79
  rw [if_neg c_104] at h
  by_cases c_107 : x1 = 2
  · rw [if_pos c_107] at h
    refine sw_in c_107 hx hb dX3_readClause_1 (by decide) (by decide) rfl (by decide) (tgt := 48) ?_
    refine lv_aload_n hx hb dX3_readClause_48 rfl (lv_at hl 0 rfl) ?_
    refine lv_aload_n hx hb dX3_readClause_49 rfl (lv_at hl 2 rfl) ?_
    obtain ⟨u109, hc108, h⟩ := ob h
    refine r_callV0 (As := [.ref (a 5 0)]) (rest := []) (r := 3) (i := i0) C (vX3_readThrow hi0 hc108) hR hS (lv0 hi0 (by decide)) (by decide) ml_X3_80 mw_X3_readThrow rfl ⟨Nat.le_of_ble_eq_true rfl, Nat.le_of_ble_eq_true rfl, Nat.le_of_ble_eq_true rfl, Nat.le_of_ble_eq_true rfl⟩ hl.1 rfl (Nat.le_of_ble_eq_true rfl) dX3_readClause_50 (fun H locs hR hS => ?_)
    refine lv_goto (tgt := 79) hx hb dX3_readClause_53 (by decide) ?_
    cases h
    exact e_vret C hr hR hS (Nat.le_of_ble_eq_true rfl) (Nat.le_of_ble_eq_true rfl) dX3_readClause_79
  rw [if_neg c_107] at h
  by_cases c_110 : x1 = 3
  · rw [if_pos c_110] at h
    refine sw_in c_110 hx hb dX3_readClause_1 (by decide) (by decide) rfl (by decide) (tgt := 56) ?_
    refine lv_aload_n hx hb dX3_readClause_56 rfl (lv_at hl 0 rfl) ?_
    refine lv_aload_n hx hb dX3_readClause_57 rfl (lv_at hl 2 rfl) ?_
    refine lv_iconst (v := 0) hx hb dX3_readClause_58 (by decide) ?_
    refine lv_aload_n hx hb dX3_readClause_59 rfl (lv_at hl 0 rfl) ?_
    refine r_get C hR 3 i0 0 (v := .int (gI u0 3 i0 0)) (lv0 hi0 (by decide)) (by decide) (by decide) rfl fl_X3_9 dX3_readClause_60 ?_
    refine lv_iconst (v := 1) hx hb dX3_readClause_63 (by decide) ?_
    refine lv_isub hx hb dX3_readClause_64 ?_
    obtain ⟨⟨x112, u113⟩, hc111, h⟩ := ob h
    replace h := bd_x (x := x112) rfl h
    replace h := bd_x (x := u113) rfl h
    refine r_callV1 (As := [.int 0, .int ((gI u0 3 i0 0) - 1)]) (rest := [.ref (a 3 i0)]) (r := 5) (i := 0) C (vX5_demandNumber hc111) hR hS (lv0 (by decide) (by decide)) (by decide) ml_X3_83 mw_X5_demandNumber rfl ⟨Nat.le_of_ble_eq_true rfl, Nat.le_of_ble_eq_true rfl, Nat.le_of_ble_eq_true rfl, Nat.le_of_ble_eq_true rfl⟩ hl.1 rfl (Nat.le_of_ble_eq_true rfl) dX3_readClause_65 (fun H locs hR hS => ?_)
    refine r_putI (ty := .int) C hR hS 3 i0 9 (lv0 hi0 (by decide)) (by decide) (by decide) (fun _ => rfl) fl_X3_40 (by decide) (by decide +kernel) rfl rfl dX3_readClause_68 (fun H locs hR hS => ?_)
    obtain ⟨u114, eu114⟩ : ∃ z : HS, z = wI u113 3 i0 9 x112 := ⟨_, rfl⟩
    rw [← eu114] at hR
    replace h := bd_x eu114 h
    clear eu114
    refine lv_goto (tgt := 79) hx hb dX3_readClause_71 (by decide) ?_
    cases h
    exact e_vret C hr hR hS (Nat.le_of_ble_eq_true rfl) (Nat.le_of_ble_eq_true rfl) dX3_readClause_79
  rw [if_neg c_110] at h
  refine lv_tableOut (tgt := 74) hx hb dX3_readClause_1 (by have z0 := sw_ne (k := 0) c_101 rfl; have z1 := sw_ne (k := 1) c_104 rfl; have z2 := sw_ne (k := 2) c_107 rfl; have z3 := sw_ne (k := 3) c_110 rfl; omega) (by decide) ?_
  refine lv_aload_n hx hb dX3_readClause_74 rfl (lv_at hl 0 rfl) ?_
  refine lv_aload_n hx hb dX3_readClause_75 rfl (lv_at hl 2 rfl) ?_
  obtain ⟨u116, hc115, h⟩ := ob h
  refine r_callV0 (As := [.ref (a 5 0)]) (rest := []) (r := 3) (i := i0) C (vX3_readTurn hi0 hc115) hR hS (lv0 hi0 (by decide)) (by decide) ml_X3_87 mw_X3_readTurn rfl ⟨Nat.le_of_ble_eq_true rfl, Nat.le_of_ble_eq_true rfl, Nat.le_of_ble_eq_true rfl, Nat.le_of_ble_eq_true rfl⟩ hl.1 rfl (Nat.le_of_ble_eq_true rfl) dX3_readClause_76 (fun H locs hR hS => ?_)
  cases h
  exact e_vret C hr hR hS (Nat.le_of_ble_eq_true rfl) (Nat.le_of_ble_eq_true rfl) dX3_readClause_79
set_option maxHeartbeats 4000000 in
set_option maxRecDepth 100000 in
theorem vX5_takeSign {l : Launch} {E : EV} {a : Nat → Nat → Nat} {u0 : HS} {i1 : Nat} {out : (Int32 × HS)} (hi1 : i1 < 18) (h : mX5_takeSign u0 i1 = some out) : Ct l E yX5_takeSign cX5_takeSign 3 (some .int) 4 90 0 0 a u0 [.ref (a 5 0), .ref (eK E i1)] (some (.int out.1)) out.2 := by
  refine Ct.start (by decide) (Nat.le_of_ble_eq_true rfl) ?_
  intro p e s m args below meth c ls C hr hR hS hl
  have C : Cx E p s m args meth c cX5_takeSign 3 RX5 := C
  have hl : lv_has ls 3 [(0, .ref (a 5 0)), (1, .ref (eK E i1))] := hl
  have hx := C.1
  have hb := C.2.1
  unfold mX5_takeSign at h
  refine lv_aload_n hx hb dX5_takeSign_0 rfl (lv_at hl 0 rfl) ?_
  refine r_get C hR 5 0 5 (v := .int (gI u0 5 0 5)) (lv0 (by decide) (by decide)) (by decide) (by decide) rfl fl_X5_28 dX5_takeSign_1 ?_
  refine lv_if_eq (tgt := 9) hx hb dX5_takeSign_4 (by decide) (fun c_101 => ?_) (fun c_101 => ?_)
  · rw [if_pos c_101] at h
    refine lv_aload_n hx hb dX5_takeSign_9 rfl (lv_at hl 0 rfl) ?_
    obtain ⟨u103, hc102, h⟩ := ob h
    refine r_callV0 (As := []) (rest := []) (r := 5) (i := 0) C (vX5_skipBlanks hc102) hR hS (lv0 (by decide) (by decide)) (by decide) ml_X5_42 mw_X5_skipBlanks rfl ⟨Nat.le_of_ble_eq_true rfl, Nat.le_of_ble_eq_true rfl, Nat.le_of_ble_eq_true rfl, Nat.le_of_ble_eq_true rfl⟩ hl.1 rfl (Nat.le_of_ble_eq_true rfl) dX5_takeSign_10 (fun H locs hR hS => ?_)
    refine lv_iconst (v := 0) hx hb dX5_takeSign_13 (by decide) ?_
    refine lv_istore_n (lv' := [(2, .int 0), (0, .ref (a 5 0)), (1, .ref (eK E i1))]) hx hb dX5_takeSign_14 rfl hl (by decide) rfl (fun ls hl => ?_)
    refine jp_cut h (fun w105 hw105 h => ?_)
    have Kw105 : ∀  (H : Heap) (locs : List Loc) (ls : Array Slot), w105 = some out → Rel E a u103 H → va_S (AE E) s.heap H locs → lv_has ls 3 [] → W p l e { frames := 4, cells := 0, slots := 0, locals := 90 } s m args below meth c H locs 0 0 (MQ below (QW E a (some (.int out.1)) out.2) args s 0 0 (AE E)) (F0 m 77 ls []) := by
      intro  H locs ls h hR hS hl
      replace h := jx0 hw105 h
      refine lv_iconst (v := (-1)) hx hb dX5_takeSign_77 (by decide) ?_
      cases h
      exact e_iret C hr hR hS (Nat.le_of_ble_eq_true rfl) (Nat.le_of_ble_eq_true rfl) dX5_takeSign_78
    have LP : ∀ (fu : Nat) (x104 : Int32) (H : Heap) (locs : List Loc) (ls : Array Slot), mX5_takeSign_L15 i1 u103 w105 fu x104 = some out → Rel E a u103 H → va_S (AE E) s.heap H locs → lv_has ls 3 [(0, .ref (a 5 0)), (1, .ref (eK E i1)), (2, .int x104)] → W p l e { frames := 4, cells := 0, slots := 0, locals := 90 } s m args below meth c H locs 0 0 (MQ below (QW E a (some (.int out.1)) out.2) args s 0 0 (AE E)) (F0 m 15 ls []) := by
      intro fu
      induction fu with
      | zero =>
        intro x104 H locs ls h
        have h2 : (none : Option (Int32 × HS)) = some out := h
        cases h2
      | succ fu ih =>
        intro x104 H locs ls h hR hS hl
        rw [mX5_takeSign_L15.eq_2] at h
        refine lv_iload_n hx hb dX5_takeSign_15 rfl (lv_at hl 2 rfl) ?_
        refine lv_aload_n hx hb dX5_takeSign_16 rfl (lv_at hl 1 rfl) ?_
        refine r_slen C hi1 hR hS ml_X5_53 hl.1 (Nat.le_of_ble_eq_true rfl) (Nat.le_of_ble_eq_true rfl) (Nat.le_of_ble_eq_true rfl) (Nat.le_of_ble_eq_true rfl) (Nat.le_of_ble_eq_true rfl) dX5_takeSign_17 (fun H locs hR hS => ?_)
        refine lv_icmp_ge (tgt := 77) hx hb dX5_takeSign_20 (by decide) (fun c_106 => ?_) (fun c_106 => ?_)
        · rw [if_pos c_106] at h
          exact Kw105  _ _ _ h hR hS (lv_sub hl [] rfl)
        · rw [if_neg c_106] at h
          refine lv_aload_n hx hb dX5_takeSign_23 rfl (lv_at hl 0 rfl) ?_
          refine r_get C hR 5 0 3 (v := .int (gI u103 5 0 3)) (lv0 (by decide) (by decide)) (by decide) (by decide) rfl fl_X5_22 dX5_takeSign_24 ?_
          refine lv_aload_n hx hb dX5_takeSign_27 rfl (lv_at hl 0 rfl) ?_
          refine r_get C hR 5 0 2 (v := .int (gI u103 5 0 2)) (lv0 (by decide) (by decide)) (by decide) (by decide) rfl fl_X5_19 dX5_takeSign_28 ?_
          refine lv_icmp_ge (tgt := 77) hx hb dX5_takeSign_31 (by decide) (fun c_107 => ?_) (fun c_107 => ?_)
          · rw [if_pos c_107] at h
            exact Kw105  _ _ _ h hR hS (lv_sub hl [] rfl)
          · rw [if_neg c_107] at h
            refine lv_aload_n hx hb dX5_takeSign_34 rfl (lv_at hl 0 rfl) ?_
            refine r_get C hR 5 0 0 (v := .ref (a 45 0)) (lv0 (by decide) (by decide)) (by decide) (by decide) rfl fl_X5_9 dX5_takeSign_35 ?_
            refine lv_aload_n hx hb dX5_takeSign_38 rfl (lv_at hl 0 rfl) ?_
            refine r_get C hR 5 0 3 (v := .int (gI u103 5 0 3)) (lv0 (by decide) (by decide)) (by decide) (by decide) rfl fl_X5_22 dX5_takeSign_39 ?_
            obtain ⟨k108, hk108, h⟩ := ob h
            refine r_ald C hR 45 0 (lv0 (by decide) (by decide)) (by decide) rfl (fun _ => rfl) rfl hk108 dX5_takeSign_42 ?_
            refine lv_aload_n hx hb dX5_takeSign_43 rfl (lv_at hl 1 rfl) ?_
            refine lv_iload_n hx hb dX5_takeSign_44 rfl (lv_at hl 2 rfl) ?_
            obtain ⟨x109, hx109, h⟩ := ob h
            refine r_sch C hi1 hx109 hR hS ml_X5_59 hl.1 (Nat.le_of_ble_eq_true rfl) (Nat.le_of_ble_eq_true rfl) (Nat.le_of_ble_eq_true rfl) (Nat.le_of_ble_eq_true rfl) (Nat.le_of_ble_eq_true rfl) dX5_takeSign_45 (fun H locs hR hS => ?_)
            refine lv_icmp_ne (tgt := 71) hx hb dX5_takeSign_48 (by decide) (fun c_110 => ?_) (fun c_110 => ?_)
            · rw [if_neg c_110] at h
              obtain ⟨x111, ex111⟩ : ∃ z : Int32, z = x104 + 1 := ⟨_, rfl⟩
              replace h := bd_x ex111 h
              refine lv_iinc (v := x111) (lv' := [(2, .int x111), (0, .ref (a 5 0)), (1, .ref (eK E i1))]) hx hb dX5_takeSign_71 hl (k := 2) rfl (by rw [ex111]; rfl) (by decide) rfl (fun ls hl => ?_)
              refine lv_goto (tgt := 15) hx hb dX5_takeSign_74 (by decide) ?_
              exact ih _ _ _ _ h hR hS (lv_sub hl [1, 2, 0] rfl)
            · rw [if_pos c_110] at h
              refine lv_aload_n hx hb dX5_takeSign_51 rfl (lv_at hl 0 rfl) ?_
              refine lv_aload_n hx hb dX5_takeSign_52 rfl (lv_at hl 0 rfl) ?_
              refine r_get C hR 5 0 3 (v := .int (gI u103 5 0 3)) (lv0 (by decide) (by decide)) (by decide) (by decide) rfl fl_X5_22 dX5_takeSign_53 ?_
              refine r_putI (ty := .int) C hR hS 5 0 4 (lv0 (by decide) (by decide)) (by decide) (by decide) (fun _ => rfl) fl_X5_25 (by decide) (by decide +kernel) rfl rfl dX5_takeSign_56 (fun H locs hR hS => ?_)
              obtain ⟨u112, eu112⟩ : ∃ z : HS, z = wI u103 5 0 4 (gI u103 5 0 3) := ⟨_, rfl⟩
              rw [← eu112] at hR
              replace h := bd_x eu112 h
              clear eu112
              refine lv_aload_n hx hb dX5_takeSign_59 rfl (lv_at hl 0 rfl) ?_
              refine lv_dup hx hb dX5_takeSign_60 rfl ?_
              refine r_get C hR 5 0 3 (v := .int (gI u112 5 0 3)) (lv0 (by decide) (by decide)) (by decide) (by decide) rfl fl_X5_22 dX5_takeSign_61 ?_
              refine lv_iconst (v := 1) hx hb dX5_takeSign_64 (by decide) ?_
              refine lv_iadd hx hb dX5_takeSign_65 ?_
              refine r_putI (ty := .int) C hR hS 5 0 3 (lv0 (by decide) (by decide)) (by decide) (by decide) (fun _ => rfl) fl_X5_22 (by decide) (by decide +kernel) rfl rfl dX5_takeSign_66 (fun H locs hR hS => ?_)
              obtain ⟨u113, eu113⟩ : ∃ z : HS, z = wI u112 5 0 3 ((gI u112 5 0 3) + 1) := ⟨_, rfl⟩
              rw [← eu113] at hR
              replace h := bd_x eu113 h
              clear eu113
              refine lv_iload_n hx hb dX5_takeSign_69 rfl (lv_at hl 2 rfl) ?_
              cases h
              exact e_iret C hr hR hS (Nat.le_of_ble_eq_true rfl) (Nat.le_of_ble_eq_true rfl) dX5_takeSign_70
    exact LP FU _ _ _ _ h hR hS (lv_sub hl [1, 2, 0] rfl)
  · rw [if_neg c_101] at h
    refine lv_iconst (v := (-1)) hx hb dX5_takeSign_7 (by decide) ?_
    cases h
    exact e_iret C hr hR hS (Nat.le_of_ble_eq_true rfl) (Nat.le_of_ble_eq_true rfl) dX5_takeSign_8
set_option maxHeartbeats 4000000 in
set_option maxRecDepth 100000 in
theorem vX5_demandSign {l : Launch} {E : EV} {a : Nat → Nat → Nat} {u0 : HS} {i1 : Nat} {out : (Int32 × HS)} (hi1 : i1 < 18) (h : mX5_demandSign u0 i1 = some out) : Ct l E yX5_demandSign cX5_demandSign 3 (some .int) 5 112 0 0 a u0 [.ref (a 5 0), .ref (eK E i1)] (some (.int out.1)) out.2 := by
  refine Ct.start (by decide) (Nat.le_of_ble_eq_true rfl) ?_
  intro p e s m args below meth c ls C hr hR hS hl
  have C : Cx E p s m args meth c cX5_demandSign 3 RX5 := C
  have hl : lv_has ls 3 [(0, .ref (a 5 0)), (1, .ref (eK E i1))] := hl
  have hx := C.1
  have hb := C.2.1
  unfold mX5_demandSign at h
  refine lv_aload_n hx hb dX5_demandSign_0 rfl (lv_at hl 0 rfl) ?_
  refine lv_aload_n hx hb dX5_demandSign_1 rfl (lv_at hl 1 rfl) ?_
  obtain ⟨⟨x102, u103⟩, hc101, h⟩ := ob h
  replace h := bd_x (x := x102) rfl h
  replace h := bd_x (x := u103) rfl h
  refine r_callV1 (As := [.ref (eK E i1)]) (rest := []) (r := 5) (i := 0) C (vX5_takeSign hi1 hc101) hR hS (lv0 (by decide) (by decide)) (by decide) ml_X5_63 mw_X5_takeSign rfl ⟨Nat.le_of_ble_eq_true rfl, Nat.le_of_ble_eq_true rfl, Nat.le_of_ble_eq_true rfl, Nat.le_of_ble_eq_true rfl⟩ hl.1 rfl (Nat.le_of_ble_eq_true rfl) dX5_demandSign_2 (fun H locs hR hS => ?_)
  refine lv_istore_n (lv' := [(2, .int x102), (0, .ref (a 5 0)), (1, .ref (eK E i1))]) hx hb dX5_demandSign_5 rfl hl (by decide) rfl (fun ls hl => ?_)
  refine lv_iload_n hx hb dX5_demandSign_6 rfl (lv_at hl 0 rfl) ?_
  refine lv_iconst (v := (-1)) hx hb dX5_demandSign_7 (by decide) ?_
  refine lv_icmp_ne (tgt := 20) hx hb dX5_demandSign_8 (by decide) (fun c_104 => ?_) (fun c_104 => ?_)
  · rw [if_neg c_104] at h
    refine lv_iload_n hx hb dX5_demandSign_20 rfl (lv_at hl 0 rfl) ?_
    cases h
    exact e_iret C hr hR hS (Nat.le_of_ble_eq_true rfl) (Nat.le_of_ble_eq_true rfl) dX5_demandSign_21
  · rw [if_pos c_104] at h
    refine lv_aload_n hx hb dX5_demandSign_11 rfl (lv_at hl 1 rfl) ?_
    refine lv_iconst (v := 1) hx hb dX5_demandSign_12 (by decide) ?_
    refine lv_aload_n hx hb dX5_demandSign_13 rfl (lv_at hl 1 rfl) ?_
    refine r_get C hR 5 0 3 (v := .int (gI u103 5 0 3)) (lv0 (by decide) (by decide)) (by decide) (by decide) rfl fl_X5_22 dX5_demandSign_14 ?_
    obtain ⟨u106, hc105, h⟩ := ob h
    refine r_callV0 (As := [.int 1, .int (gI u103 5 0 3)]) (rest := []) (r := 5) (i := 0) C (vX5_blame hc105) hR hS (lv0 (by decide) (by decide)) (by decide) ml_X5_38 mw_X5_blame rfl ⟨Nat.le_of_ble_eq_true rfl, Nat.le_of_ble_eq_true rfl, Nat.le_of_ble_eq_true rfl, Nat.le_of_ble_eq_true rfl⟩ hl.1 rfl (Nat.le_of_ble_eq_true rfl) dX5_demandSign_17 (fun H locs hR hS => ?_)
    refine lv_iload_n hx hb dX5_demandSign_20 rfl (lv_at hl 0 rfl) ?_
    cases h
    exact e_iret C hr hR hS (Nat.le_of_ble_eq_true rfl) (Nat.le_of_ble_eq_true rfl) dX5_demandSign_21
set_option maxHeartbeats 4000000 in
set_option maxRecDepth 100000 in
theorem vX3_read {l : Launch} {E : EV} {a : Nat → Nat → Nat} {u0 : HS} {i0 : Nat} {out : HS} (hi0 : i0 < cntS 3) (h : mX3_read u0 i0 = some out) : Ct l E yX3_read cX3_read 4 none 7 163 0 0 a u0 [.ref (a 3 i0), .ref (a 5 0)] none out := by
  refine Ct.start (by decide) (Nat.le_of_ble_eq_true rfl) ?_
  intro p e s m args below meth c ls C hr hR hS hl
  have C : Cx E p s m args meth c cX3_read 4 RX3 := C
  have hl : lv_has ls 4 [(0, .ref (a 3 i0)), (1, .ref (a 5 0))] := hl
  have hx := C.1
  have hb := C.2.1
  unfold mX3_read at h
  refine lv_aload_n hx hb dX3_read_0 rfl (lv_at hl 0 rfl) ?_
  refine lv_iconst (v := 0) hx hb dX3_read_1 (by decide) ?_
  refine r_putI (ty := .int) C hR hS 3 i0 0 (lv0 hi0 (by decide)) (by decide) (by decide) (fun _ => rfl) fl_X3_9 (by decide) (by decide +kernel) rfl rfl dX3_read_2 (fun H locs hR hS => ?_)
  obtain ⟨u101, eu101⟩ : ∃ z : HS, z = wI u0 3 i0 0 0 := ⟨_, rfl⟩
  rw [← eu101] at hR
  replace h := bd_x eu101 h
  clear eu101
  refine lv_aload_n hx hb dX3_read_5 rfl (lv_at hl 0 rfl) ?_
  refine lv_iconst (v := 0) hx hb dX3_read_6 (by decide) ?_
  refine r_putI (ty := .int) C hR hS 3 i0 3 (lv0 hi0 (by decide)) (by decide) (by decide) (fun _ => rfl) fl_X3_22 (by decide) (by decide +kernel) rfl rfl dX3_read_7 (fun H locs hR hS => ?_)
  obtain ⟨u102, eu102⟩ : ∃ z : HS, z = wI u101 3 i0 3 0 := ⟨_, rfl⟩
  rw [← eu102] at hR
  replace h := bd_x eu102 h
  clear eu102
  refine lv_aload_n hx hb dX3_read_10 rfl (lv_at hl 0 rfl) ?_
  refine lv_iconst (v := 0) hx hb dX3_read_11 (by decide) ?_
  refine r_putI (ty := .int) C hR hS 3 i0 5 (lv0 hi0 (by decide)) (by decide) (by decide) (fun _ => rfl) fl_X3_28 (by decide) (by decide +kernel) rfl rfl dX3_read_12 (fun H locs hR hS => ?_)
  obtain ⟨u103, eu103⟩ : ∃ z : HS, z = wI u102 3 i0 5 0 := ⟨_, rfl⟩
  rw [← eu103] at hR
  replace h := bd_x eu103 h
  clear eu103
  refine lv_aload_n hx hb dX3_read_15 rfl (lv_at hl 0 rfl) ?_
  refine lv_iconst (v := 0) hx hb dX3_read_16 (by decide) ?_
  refine r_putI (ty := .int) C hR hS 3 i0 7 (lv0 hi0 (by decide)) (by decide) (by decide) (fun _ => rfl) fl_X3_34 (by decide) (by decide +kernel) rfl rfl dX3_read_17 (fun H locs hR hS => ?_)
  obtain ⟨u104, eu104⟩ : ∃ z : HS, z = wI u103 3 i0 7 0 := ⟨_, rfl⟩
  rw [← eu104] at hR
  replace h := bd_x eu104 h
  clear eu104
  refine lv_aload_n hx hb dX3_read_20 rfl (lv_at hl 0 rfl) ?_
  refine lv_iconst (v := (-1)) hx hb dX3_read_21 (by decide) ?_
  refine r_putI (ty := .int) C hR hS 3 i0 9 (lv0 hi0 (by decide)) (by decide) (by decide) (fun _ => rfl) fl_X3_40 (by decide) (by decide +kernel) rfl rfl dX3_read_22 (fun H locs hR hS => ?_)
  obtain ⟨u105, eu105⟩ : ∃ z : HS, z = wI u104 3 i0 9 (-1) := ⟨_, rfl⟩
  rw [← eu105] at hR
  replace h := bd_x eu105 h
  clear eu105
  refine lv_aload_n hx hb dX3_read_25 rfl (lv_at hl 0 rfl) ?_
  refine lv_iconst (v := (-1)) hx hb dX3_read_26 (by decide) ?_
  refine r_putI (ty := .int) C hR hS 3 i0 10 (lv0 hi0 (by decide)) (by decide) (by decide) (fun _ => rfl) fl_X3_43 (by decide) (by decide +kernel) rfl rfl dX3_read_27 (fun H locs hR hS => ?_)
  obtain ⟨u106, eu106⟩ : ∃ z : HS, z = wI u105 3 i0 10 (-1) := ⟨_, rfl⟩
  rw [← eu106] at hR
  replace h := bd_x eu106 h
  clear eu106
  refine lv_aload_n hx hb dX3_read_30 rfl (lv_at hl 0 rfl) ?_
  refine lv_iconst (v := 0) hx hb dX3_read_31 (by decide) ?_
  refine r_putI (ty := .int) C hR hS 3 i0 11 (lv0 hi0 (by decide)) (by decide) (by decide) (fun _ => rfl) fl_X3_46 (by decide) (by decide +kernel) rfl rfl dX3_read_32 (fun H locs hR hS => ?_)
  obtain ⟨u107, eu107⟩ : ∃ z : HS, z = wI u106 3 i0 11 0 := ⟨_, rfl⟩
  rw [← eu107] at hR
  replace h := bd_x eu107 h
  clear eu107
  refine lv_iconst (v := 0) hx hb dX3_read_35 (by decide) ?_
  refine lv_istore_n (lv' := [(2, .int 0), (0, .ref (a 3 i0)), (1, .ref (a 5 0))]) hx hb dX3_read_36 rfl hl (by decide) rfl (fun ls hl => ?_)
  refine jp_cut h (fun w111 hw111 h => ?_)
  have Kw111 : ∀ (u110 : HS) (H : Heap) (locs : List Loc) (ls : Array Slot), w111 u110 = some out → Rel E a u110 H → va_S (AE E) s.heap H locs → lv_has ls 4 [] → W p l e { frames := 7, cells := 0, slots := 0, locals := 163 } s m args below meth c H locs 0 0 (MQ below (QW E a none out) args s 0 0 (AE E)) (F0 m 78 ls []) := by
    intro u110 H locs ls h hR hS hl
    replace h := jx1 hw111 h
    cases h
    exact e_vret C hr hR hS (Nat.le_of_ble_eq_true rfl) (Nat.le_of_ble_eq_true rfl) dX3_read_78
  have LP : ∀ (fu : Nat) (x108 : Int32) (u109 : HS) (H : Heap) (locs : List Loc) (ls : Array Slot), mX3_read_L37 i0 w111 fu x108 u109 = some out → Rel E a u109 H → va_S (AE E) s.heap H locs → lv_has ls 4 [(0, .ref (a 3 i0)), (1, .ref (a 5 0)), (2, .int x108)] → W p l e { frames := 7, cells := 0, slots := 0, locals := 163 } s m args below meth c H locs 0 0 (MQ below (QW E a none out) args s 0 0 (AE E)) (F0 m 37 ls []) := by
    intro fu
    induction fu with
    | zero =>
      intro x108 u109 H locs ls h
      have h2 : (none : Option HS) = some out := h
      cases h2
    | succ fu ih =>
      intro x108 u109 H locs ls h hR hS hl
      rw [mX3_read_L37.eq_2] at h
      refine lv_iload_n hx hb dX3_read_37 rfl (lv_at hl 2 rfl) ?_
      refine lv_bipush (v := 24) hx hb dX3_read_38 (by decide) ?_
      refine lv_icmp_gt (tgt := 78) hx hb dX3_read_40 (by decide) (fun c_112 => ?_) (fun c_112 => ?_)
      · rw [if_pos c_112] at h
        exact Kw111 _ _ _ _ h hR hS (lv_sub hl [] rfl)
      · rw [if_neg c_112] at h
        refine lv_aload_n hx hb dX3_read_43 rfl (lv_at hl 1 rfl) ?_
        refine r_ldcS (q := ("MiddleUnseen$Scene", 55, "thing way throw odd turn ", 16)) C (by decide) dX3_read_44 ?_
        refine lv_iload_n hx hb dX3_read_46 rfl (lv_at hl 2 rfl) ?_
        refine lv_bipush (v := 24) hx hb dX3_read_47 (by decide) ?_
        obtain ⟨⟨x114, u115⟩, hc113, h⟩ := ob h
        replace h := bd_x (x := x114) rfl h
        replace h := bd_x (x := u115) rfl h
        refine r_callV1 (As := [.ref (eK E 16), .int x108, .int 24]) (rest := []) (r := 5) (i := 0) C (vX5_clauseWord (by decide) hc113) hR hS (lv0 (by decide) (by decide)) (by decide) ml_X3_57 mw_X5_clauseWord rfl ⟨Nat.le_of_ble_eq_true rfl, Nat.le_of_ble_eq_true rfl, Nat.le_of_ble_eq_true rfl, Nat.le_of_ble_eq_true rfl⟩ hl.1 rfl (Nat.le_of_ble_eq_true rfl) dX3_read_49 (fun H locs hR hS => ?_)
        refine lv_istore_n (lv' := [(3, .int x114), (0, .ref (a 3 i0)), (1, .ref (a 5 0)), (2, .int x108)]) hx hb dX3_read_52 rfl hl (by decide) rfl (fun ls hl => ?_)
        refine lv_iload_n hx hb dX3_read_53 rfl (lv_at hl 0 rfl) ?_
        refine lv_iconst (v := (-1)) hx hb dX3_read_54 (by decide) ?_
        refine lv_icmp_ne (tgt := 59) hx hb dX3_read_55 (by decide) (fun c_116 => ?_) (fun c_116 => ?_)
        · rw [if_neg c_116] at h
          refine lv_aload_n hx hb dX3_read_59 rfl (lv_at hl 1 rfl) ?_
          refine lv_iload_n hx hb dX3_read_60 rfl (lv_at hl 0 rfl) ?_
          refine lv_aload_n hx hb dX3_read_61 rfl (lv_at hl 2 rfl) ?_
          obtain ⟨u118, hc117, h⟩ := ob h
          refine r_callV0 (As := [.int x114, .ref (a 5 0)]) (rest := []) (r := 3) (i := i0) C (vX3_readClause hi0 hc117) hR hS (lv0 hi0 (by decide)) (by decide) ml_X3_63 mw_X3_readClause rfl ⟨Nat.le_of_ble_eq_true rfl, Nat.le_of_ble_eq_true rfl, Nat.le_of_ble_eq_true rfl, Nat.le_of_ble_eq_true rfl⟩ hl.1 rfl (Nat.le_of_ble_eq_true rfl) dX3_read_62 (fun H locs hR hS => ?_)
          refine lv_aload_n hx hb dX3_read_65 rfl (lv_at hl 2 rfl) ?_
          refine r_ldcS (q := ("MiddleUnseen$Scene", 67, ";", 0)) C (by decide) dX3_read_66 ?_
          obtain ⟨⟨x120, u121⟩, hc119, h⟩ := ob h
          replace h := bd_x (x := x120) rfl h
          replace h := bd_x (x := u121) rfl h
          refine r_callV1 (As := [.ref (eK E 0)]) (rest := []) (r := 5) (i := 0) C (vX5_demandSign (by decide) hc119) hR hS (lv0 (by decide) (by decide)) (by decide) ml_X3_69 mw_X5_demandSign rfl ⟨Nat.le_of_ble_eq_true rfl, Nat.le_of_ble_eq_true rfl, Nat.le_of_ble_eq_true rfl, Nat.le_of_ble_eq_true rfl⟩ hl.1 rfl (Nat.le_of_ble_eq_true rfl) dX3_read_68 (fun H locs hR hS => ?_)
          refine lv_pop hx hb dX3_read_71 rfl ?_
          obtain ⟨x122, ex122⟩ : ∃ z : Int32, z = x108 + 1 := ⟨_, rfl⟩
          replace h := bd_x ex122 h
          refine lv_iinc (v := x122) (lv' := [(2, .int x122), (3, .int x114), (0, .ref (a 3 i0)), (1, .ref (a 5 0))]) hx hb dX3_read_72 hl (k := 3) rfl (by rw [ex122]; rfl) (by decide) rfl (fun ls hl => ?_)
          refine lv_goto (tgt := 37) hx hb dX3_read_75 (by decide) ?_
          exact ih _ _ _ _ _ h hR hS (lv_sub hl [2, 3, 0] rfl)
        · rw [if_pos c_116] at h
          cases h
          exact e_vret C hr hR hS (Nat.le_of_ble_eq_true rfl) (Nat.le_of_ble_eq_true rfl) dX3_read_58
  exact LP FU _ _ _ _ _ h hR hS (lv_sub hl [1, 2, 0] rfl)
