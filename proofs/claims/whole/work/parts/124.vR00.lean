set_option maxHeartbeats 4000000 in
set_option maxRecDepth 100000 in
theorem vX9_unit_b {l : Launch} {E : EV} {a : Nat → Nat → Nat} {g_unit : HS → Option HS} {g_product : HS → Option HS} {g_sum : HS → Option HS} {g_test : HS → Option HS} {g_ands : HS → Option HS} {g_ors : HS → Option HS} {fr lo : Nat} (hfr : 5 ≤ fr) (hlo : 200 ≤ lo) (hg_unit : ∀ {u : HS} {out : HS}, g_unit u = some out → Ct l E yX9_unit cX9_unit 3 none fr lo 0 0 a u [.ref (a 9 0)] none out) (hg_product : ∀ {u : HS} {out : HS}, g_product u = some out → Ct l E yX9_product cX9_product 2 none fr lo 0 0 a u [.ref (a 9 0)] none out) (hg_sum : ∀ {u : HS} {out : HS}, g_sum u = some out → Ct l E yX9_sum cX9_sum 2 none fr lo 0 0 a u [.ref (a 9 0)] none out) (hg_test : ∀ {u : HS} {out : HS}, g_test u = some out → Ct l E yX9_test cX9_test 2 none fr lo 0 0 a u [.ref (a 9 0)] none out) (hg_ands : ∀ {u : HS} {out : HS}, g_ands u = some out → Ct l E yX9_ands cX9_ands 1 none fr lo 0 0 a u [.ref (a 9 0)] none out) (hg_ors : ∀ {u : HS} {out : HS}, g_ors u = some out → Ct l E yX9_ors cX9_ors 1 none fr lo 0 0 a u [.ref (a 9 0)] none out) {u0 : HS} {out : HS} (h : mX9_unit_b g_unit g_product g_sum g_test g_ands g_ors u0 = some out) : Ct l E yX9_unit cX9_unit 3 none (fr + 1) (lo + 40) 0 0 a u0 [.ref (a 9 0)] none out := by
  refine Ct.start (by decide) (Nat.le_of_ble_eq_true rfl) ?_
  intro p e s m args below meth c ls C hr hR hS hl
  have C : Cx E p s m args meth c cX9_unit 3 RX9 := C
  have hl : lv_has ls 3 [(0, .ref (a 9 0))] := hl
  have hx := C.1
  have hb := C.2.1
  unfold mX9_unit_b at h
  refine lv_aload_n hx hb dX9_unit_0 rfl (lv_at hl 0 rfl) ?_
  refine r_get C hR 9 0 6 (v := .int (gI u0 9 0 6)) (lv0 (by decide) (by decide)) (by decide) (by decide) rfl fl_X9_92 dX9_unit_1 ?_
  refine lv_if_eq (tgt := 8) hx hb dX9_unit_4 (by decide) (fun c_101 => ?_) (fun c_101 => ?_)
  · rw [if_pos c_101] at h
    refine lv_aload_n hx hb dX9_unit_8 rfl (lv_at hl 0 rfl) ?_
    obtain ⟨u103, hc102, h⟩ := ob h
    refine r_callV0 (As := []) (rest := []) (r := 9) (i := 0) C (vX9_blanks hc102) hR hS (lv0 (by decide) (by decide)) (by decide) ml_X9_101 mw_X9_blanks rfl ⟨(show 1 + 1 ≤ fr + 1 by omega), (show 8 + (1 + 11) + 21 ≤ lo + 40 by omega), Nat.le_refl _, Nat.le_refl _⟩ hl.1 rfl (Nat.le_of_ble_eq_true rfl) dX9_unit_9 (fun H locs hR hS => ?_)
    refine lv_aload_n hx hb dX9_unit_12 rfl (lv_at hl 0 rfl) ?_
    refine lv_aload_n hx hb dX9_unit_13 rfl (lv_at hl 0 rfl) ?_
    refine r_get C hR 9 0 4 (v := .int (gI u103 9 0 4)) (lv0 (by decide) (by decide)) (by decide) (by decide) rfl fl_X9_85 dX9_unit_14 ?_
    obtain ⟨x105, hc104, h⟩ := ob h
    refine r_callV1 (As := [.int (gI u103 9 0 4)]) (rest := []) (r := 9) (i := 0) C (vX9_byteAt hc104) hR hS (lv0 (by decide) (by decide)) (by decide) ml_X9_88 mw_X9_byteAt rfl ⟨(show 0 + 1 ≤ fr + 1 by omega), (show 8 + (2 + 11) + 0 ≤ lo + 40 by omega), Nat.le_refl _, Nat.le_refl _⟩ hl.1 rfl (Nat.le_of_ble_eq_true rfl) dX9_unit_17 (fun H locs hR hS => ?_)
    obtain ⟨x107, hc106, h⟩ := ob h
    refine r_callS1 (As := [.int x105]) (rest := []) C (vX9_isDigit hc106) hR hS ml_X9_104 ms_X9_isDigit rfl ⟨(show 0 + 1 ≤ fr + 1 by omega), (show 8 + (1 + 11) + 0 ≤ lo + 40 by omega), Nat.le_refl _, Nat.le_refl _⟩ hl.1 rfl (Nat.le_of_ble_eq_true rfl) dX9_unit_20 (fun H locs hR hS => ?_)
    refine lv_if_eq (tgt := 40) hx hb dX9_unit_23 (by decide) (fun c_108 => ?_) (fun c_108 => ?_)
    · rw [if_pos c_108] at h
      refine lv_aload_n hx hb dX9_unit_40 rfl (lv_at hl 0 rfl) ?_
      obtain ⟨⟨x110, u111⟩, hc109, h⟩ := ob h
      replace h := bd_x (x := x110) rfl h
      replace h := bd_x (x := u111) rfl h
      refine r_callV1 (As := []) (rest := []) (r := 9) (i := 0) C (vX9_nameHere hc109) hR hS (lv0 (by decide) (by decide)) (by decide) ml_X9_192 mw_X9_nameHere rfl ⟨(show 4 + 1 ≤ fr + 1 by omega), (show 8 + (1 + 11) + 89 ≤ lo + 40 by omega), Nat.le_refl _, Nat.le_refl _⟩ hl.1 rfl (Nat.le_of_ble_eq_true rfl) dX9_unit_41 (fun H locs hR hS => ?_)
      refine lv_istore_n (lv' := [(1, .int x110), (0, .ref (a 9 0))]) hx hb dX9_unit_44 rfl hl (by decide) rfl (fun ls hl => ?_)
      refine lv_iload_n hx hb dX9_unit_45 rfl (lv_at hl 0 rfl) ?_
      refine lv_iconst (v := (-1)) hx hb dX9_unit_46 (by decide) ?_
      refine lv_icmp_eq (tgt := 64) hx hb dX9_unit_47 (by decide) (fun c_112 => ?_) (fun c_112 => ?_)
      · rw [if_pos c_112] at h
        refine lv_aload_n hx hb dX9_unit_64 rfl (lv_at hl 1 rfl) ?_
        refine lv_bipush (v := 12) hx hb dX9_unit_65 (by decide) ?_
        refine lv_iconst (v := 5) hx hb dX9_unit_67 (by decide) ?_
        refine lv_iconst (v := 1) hx hb dX9_unit_68 (by decide) ?_
        refine lv_bipush (v := 19) hx hb dX9_unit_69 (by decide) ?_
        refine lv_bipush (v := 20) hx hb dX9_unit_71 (by decide) ?_
        refine lv_iconst (v := 0) hx hb dX9_unit_73 (by decide) ?_
        obtain ⟨⟨x114, u115⟩, hc113, h⟩ := ob h
        replace h := bd_x (x := x114) rfl h
        replace h := bd_x (x := u115) rfl h
        refine r_callV1 (As := [.int 12, .int 5, .int 1, .int 19, .int 20, .int 0]) (rest := []) (r := 9) (i := 0) C (vX9_isWord hc113) hR hS (lv0 (by decide) (by decide)) (by decide) ml_X9_134 mw_X9_isWord rfl ⟨(show 3 + 1 ≤ fr + 1 by omega), (show 8 + (7 + 11) + 63 ≤ lo + 40 by omega), Nat.le_refl _, Nat.le_refl _⟩ hl.1 rfl (Nat.le_of_ble_eq_true rfl) dX9_unit_74 (fun H locs hR hS => ?_)
        refine jp_cut h (fun j118 hj118 h => ?_)
        have Kj118 : ∀ (x116 : Int32) (u117 : HS) (H : Heap) (locs : List Loc) (ls : Array Slot), j118 x116 u117 = some out → Rel E a u117 H → va_S (AE E) s.heap H locs → lv_has ls 3 [(0, .ref (a 9 0))] → W p l e { frames := fr + 1, cells := 0, slots := 0, locals := lo + 40 } s m args below meth c H locs 0 0 (MQ below (QW E a none out) args s 0 0 (AE E)) (F0 m 110 ls [.int x116]) := by
          intro x116 u117 H locs ls h hR hS hl
          replace h := jx2 hj118 h
          refine lv_istore_n (lv' := [(2, .int x116), (0, .ref (a 9 0))]) hx hb dX9_unit_110 rfl hl (by decide) rfl (fun ls hl => ?_)
          refine lv_iload_n hx hb dX9_unit_111 rfl (lv_at hl 0 rfl) ?_
          obtain ⟨u119, hz, h⟩ := ob h
          have Kj120 : ∀ (H : Heap) (locs : List Loc) (ls : Array Slot), Rel E a u119 H → va_S (AE E) s.heap H locs → lv_has ls 3 [(0, .ref (a 9 0)), (2, .int x116)] → W p l e { frames := fr + 1, cells := 0, slots := 0, locals := lo + 40 } s m args below meth c H locs 0 0 (MQ below (QW E a none out) args s 0 0 (AE E)) (F0 m 119 ls []) := by
            intro H locs ls hR hS hl
            clear hz
            refine lv_aload_n hx hb dX9_unit_119 rfl (lv_at hl 0 rfl) ?_
            obtain ⟨u122, hc121, h⟩ := ob h
            refine r_callV0 (As := []) (rest := []) (r := 9) (i := 0) C (vX9_blanks hc121) hR hS (lv0 (by decide) (by decide)) (by decide) ml_X9_101 mw_X9_blanks rfl ⟨(show 1 + 1 ≤ fr + 1 by omega), (show 8 + (1 + 11) + 21 ≤ lo + 40 by omega), Nat.le_refl _, Nat.le_refl _⟩ hl.1 rfl (Nat.le_of_ble_eq_true rfl) dX9_unit_120 (fun H locs hR hS => ?_)
            refine lv_aload_n hx hb dX9_unit_123 rfl (lv_at hl 0 rfl) ?_
            refine lv_aload_n hx hb dX9_unit_124 rfl (lv_at hl 0 rfl) ?_
            refine r_get C hR 9 0 4 (v := .int (gI u122 9 0 4)) (lv0 (by decide) (by decide)) (by decide) (by decide) rfl fl_X9_85 dX9_unit_125 ?_
            obtain ⟨x124, hc123, h⟩ := ob h
            refine r_callV1 (As := [.int (gI u122 9 0 4)]) (rest := []) (r := 9) (i := 0) C (vX9_byteAt hc123) hR hS (lv0 (by decide) (by decide)) (by decide) ml_X9_88 mw_X9_byteAt rfl ⟨(show 0 + 1 ≤ fr + 1 by omega), (show 8 + (2 + 11) + 0 ≤ lo + 40 by omega), Nat.le_refl _, Nat.le_refl _⟩ hl.1 rfl (Nat.le_of_ble_eq_true rfl) dX9_unit_128 (fun H locs hR hS => ?_)
            refine lv_bipush (v := 40) hx hb dX9_unit_131 (by decide) ?_
            refine lv_icmp_eq (tgt := 146) hx hb dX9_unit_133 (by decide) (fun c_125 => ?_) (fun c_125 => ?_)
            · rw [if_pos c_125] at h
              refine lv_aload_n hx hb dX9_unit_146 rfl (lv_at hl 0 rfl) ?_
              refine lv_iconst (v := 1) hx hb dX9_unit_147 (by decide) ?_
              obtain ⟨u127, hc126, h⟩ := ob h
              refine r_callV0 (As := [.int 1]) (rest := []) (r := 9) (i := 0) C (vX9_opens hc126) hR hS (lv0 (by decide) (by decide)) (by decide) ml_X9_195 mw_X9_opens rfl ⟨(show 1 + 1 ≤ fr + 1 by omega), (show 8 + (2 + 11) + 22 ≤ lo + 40 by omega), Nat.le_refl _, Nat.le_refl _⟩ hl.1 rfl (Nat.le_of_ble_eq_true rfl) dX9_unit_148 (fun H locs hR hS => ?_)
              refine lv_aload_n hx hb dX9_unit_151 rfl (lv_at hl 0 rfl) ?_
              obtain ⟨u129, hc128, h⟩ := ob h
              refine r_callV0 (As := []) (rest := []) (r := 9) (i := 0) C (hg_sum hc128) hR hS (lv0 (by decide) (by decide)) (by decide) ml_X9_198 mw_X9_sum rfl ⟨Nat.le_refl _, (show 8 + (2 + 11) + lo ≤ lo + 40 by omega), Nat.le_refl _, Nat.le_refl _⟩ hl.1 rfl (Nat.le_of_ble_eq_true rfl) dX9_unit_152 (fun H locs hR hS => ?_)
              refine lv_iload_n hx hb dX9_unit_155 rfl (lv_at hl 1 rfl) ?_
              obtain ⟨u130, hz, h⟩ := ob h
              have Kj131 : ∀ (H : Heap) (locs : List Loc) (ls : Array Slot), Rel E a u130 H → va_S (AE E) s.heap H locs → lv_has ls 3 [(0, .ref (a 9 0)), (2, .int x116)] → W p l e { frames := fr + 1, cells := 0, slots := 0, locals := lo + 40 } s m args below meth c H locs 0 0 (MQ below (QW E a none out) args s 0 0 (AE E)) (F0 m 169 ls []) := by
                intro H locs ls hR hS hl
                clear hz
                refine lv_aload_n hx hb dX9_unit_169 rfl (lv_at hl 0 rfl) ?_
                refine lv_bipush (v := 41) hx hb dX9_unit_170 (by decide) ?_
                obtain ⟨u133, hc132, h⟩ := ob h
                refine r_callV0 (As := [.int 41]) (rest := []) (r := 9) (i := 0) C (vX9_sign hc132) hR hS (lv0 (by decide) (by decide)) (by decide) ml_X9_155 mw_X9_sign rfl ⟨(show 2 + 1 ≤ fr + 1 by omega), (show 8 + (2 + 11) + 41 ≤ lo + 40 by omega), Nat.le_refl _, Nat.le_refl _⟩ hl.1 rfl (Nat.le_of_ble_eq_true rfl) dX9_unit_172 (fun H locs hR hS => ?_)
                refine lv_aload_n hx hb dX9_unit_175 rfl (lv_at hl 0 rfl) ?_
                refine lv_dup hx hb dX9_unit_176 rfl ?_
                refine r_get C hR 9 0 5 (v := .int (gI u133 9 0 5)) (lv0 (by decide) (by decide)) (by decide) (by decide) rfl fl_X9_125 dX9_unit_177 ?_
                refine lv_iconst (v := 1) hx hb dX9_unit_180 (by decide) ?_
                refine lv_isub hx hb dX9_unit_181 ?_
                refine r_putI (ty := .int) C hR hS 9 0 5 (lv0 (by decide) (by decide)) (by decide) (by decide) (fun _ => rfl) fl_X9_125 (by decide) (by decide +kernel) rfl rfl dX9_unit_182 (fun H locs hR hS => ?_)
                obtain ⟨u134, eu134⟩ : ∃ z : HS, z = wI u133 9 0 5 ((gI u133 9 0 5) - 1) := ⟨_, rfl⟩
                rw [← eu134] at hR
                replace h := bd_x eu134 h
                clear eu134
                refine lv_iload_n hx hb dX9_unit_185 rfl (lv_at hl 1 rfl) ?_
                refine lv_if_eq (tgt := 194) hx hb dX9_unit_186 (by decide) (fun c_135 => ?_) (fun c_135 => ?_)
                · rw [if_pos c_135] at h
                  cases h
                  exact e_vret C hr hR hS (Nat.le_of_ble_eq_true rfl) (Nat.le_of_ble_eq_true rfl) dX9_unit_194
                · rw [if_neg c_135] at h
                  refine lv_aload_n hx hb dX9_unit_189 rfl (lv_at hl 0 rfl) ?_
                  refine lv_iload_n hx hb dX9_unit_190 rfl (lv_at hl 1 rfl) ?_
                  obtain ⟨u137, hc136, h⟩ := ob h
                  refine r_callV0 (As := [.int x116]) (rest := []) (r := 9) (i := 0) C (vX9_tells hc136) hR hS (lv0 (by decide) (by decide)) (by decide) ml_X9_189 mw_X9_tells rfl ⟨(show 0 + 1 ≤ fr + 1 by omega), (show 8 + (2 + 11) + 0 ≤ lo + 40 by omega), Nat.le_refl _, Nat.le_refl _⟩ hl.1 rfl (Nat.le_of_ble_eq_true rfl) dX9_unit_191 (fun H locs hR hS => ?_)
                  cases h
                  exact e_vret C hr hR hS (Nat.le_of_ble_eq_true rfl) (Nat.le_of_ble_eq_true rfl) dX9_unit_194
              clear h
              have h := hz
              clear hz
              refine lv_if_eq (tgt := 169) hx hb dX9_unit_156 (by decide) (fun c_138 => ?_) (fun c_138 => ?_)
              · rw [if_pos c_138] at h
                cases h
                exact Kj131 _ _ _ hR hS (lv_sub hl [0, 1] rfl)
              · rw [if_neg c_138] at h
                refine lv_aload_n hx hb dX9_unit_159 rfl (lv_at hl 0 rfl) ?_
                refine lv_bipush (v := 44) hx hb dX9_unit_160 (by decide) ?_
                obtain ⟨u140, hc139, h⟩ := ob h
                refine r_callV0 (As := [.int 44]) (rest := []) (r := 9) (i := 0) C (vX9_sign hc139) hR hS (lv0 (by decide) (by decide)) (by decide) ml_X9_155 mw_X9_sign rfl ⟨(show 2 + 1 ≤ fr + 1 by omega), (show 8 + (2 + 11) + 41 ≤ lo + 40 by omega), Nat.le_refl _, Nat.le_refl _⟩ hl.1 rfl (Nat.le_of_ble_eq_true rfl) dX9_unit_162 (fun H locs hR hS => ?_)
                refine lv_aload_n hx hb dX9_unit_165 rfl (lv_at hl 0 rfl) ?_
                obtain ⟨u142, hc141, h⟩ := ob h
                refine r_callV0 (As := []) (rest := []) (r := 9) (i := 0) C (hg_sum hc141) hR hS (lv0 (by decide) (by decide)) (by decide) ml_X9_198 mw_X9_sum rfl ⟨Nat.le_refl _, (show 8 + (2 + 11) + lo ≤ lo + 40 by omega), Nat.le_refl _, Nat.le_refl _⟩ hl.1 rfl (Nat.le_of_ble_eq_true rfl) dX9_unit_166 (fun H locs hR hS => ?_)
                cases h
                exact Kj131 _ _ _ hR hS (lv_sub hl [0, 1] rfl)
            · rw [if_neg c_125] at h
              refine lv_aload_n hx hb dX9_unit_136 rfl (lv_at hl 0 rfl) ?_
              refine lv_iconst (v := 1) hx hb dX9_unit_137 (by decide) ?_
              refine lv_aload_n hx hb dX9_unit_138 rfl (lv_at hl 0 rfl) ?_
              refine r_get C hR 9 0 4 (v := .int (gI u122 9 0 4)) (lv0 (by decide) (by decide)) (by decide) (by decide) rfl fl_X9_85 dX9_unit_139 ?_
              obtain ⟨u144, hc143, h⟩ := ob h
              refine r_callV0 (As := [.int 1, .int (gI u122 9 0 4)]) (rest := []) (r := 9) (i := 0) C (vX9_wrongAt hc143) hR hS (lv0 (by decide) (by decide)) (by decide) ml_X9_108 mw_X9_wrongAt rfl ⟨(show 0 + 1 ≤ fr + 1 by omega), (show 8 + (3 + 11) + 0 ≤ lo + 40 by omega), Nat.le_refl _, Nat.le_refl _⟩ hl.1 rfl (Nat.le_of_ble_eq_true rfl) dX9_unit_142 (fun H locs hR hS => ?_)
              cases h
              exact e_vret C hr hR hS (Nat.le_of_ble_eq_true rfl) (Nat.le_of_ble_eq_true rfl) dX9_unit_145
          clear h
          have h := hz
          clear hz
          refine lv_if_eq (tgt := 119) hx hb dX9_unit_112 (by decide) (fun c_145 => ?_) (fun c_145 => ?_)
          · rw [if_pos c_145] at h
            cases h
            exact Kj120 _ _ _ hR hS (lv_sub hl [1, 0] rfl)
          · rw [if_neg c_145] at h
            refine lv_aload_n hx hb dX9_unit_115 rfl (lv_at hl 1 rfl) ?_
            obtain ⟨u147, hc146, h⟩ := ob h
            refine r_callV0 (As := []) (rest := []) (r := 9) (i := 0) C (vX9_skipWord hc146) hR hS (lv0 (by decide) (by decide)) (by decide) ml_X9_144 mw_X9_skipWord rfl ⟨(show 1 + 1 ≤ fr + 1 by omega), (show 8 + (1 + 11) + 21 ≤ lo + 40 by omega), Nat.le_refl _, Nat.le_refl _⟩ hl.1 rfl (Nat.le_of_ble_eq_true rfl) dX9_unit_116 (fun H locs hR hS => ?_)
            cases h
            exact Kj120 _ _ _ hR hS (lv_sub hl [1, 0] rfl)
        refine lv_if_eq (tgt := 86) hx hb dX9_unit_77 (by decide) (fun c_148 => ?_) (fun c_148 => ?_)
        · rw [if_pos c_148] at h
          refine lv_aload_n hx hb dX9_unit_86 rfl (lv_at hl 1 rfl) ?_
          refine lv_bipush (v := 13) hx hb dX9_unit_87 (by decide) ?_
          refine lv_bipush (v := 15) hx hb dX9_unit_89 (by decide) ?_
          refine lv_bipush (v := 19) hx hb dX9_unit_91 (by decide) ?_
          refine lv_bipush (v := 20) hx hb dX9_unit_93 (by decide) ?_
          refine lv_iconst (v := 0) hx hb dX9_unit_95 (by decide) ?_
          refine lv_iconst (v := 0) hx hb dX9_unit_96 (by decide) ?_
          obtain ⟨⟨x150, u151⟩, hc149, h⟩ := ob h
          replace h := bd_x (x := x150) rfl h
          replace h := bd_x (x := u151) rfl h
          refine r_callV1 (As := [.int 13, .int 15, .int 19, .int 20, .int 0, .int 0]) (rest := []) (r := 9) (i := 0) C (vX9_isWord hc149) hR hS (lv0 (by decide) (by decide)) (by decide) ml_X9_134 mw_X9_isWord rfl ⟨(show 3 + 1 ≤ fr + 1 by omega), (show 8 + (7 + 11) + 63 ≤ lo + 40 by omega), Nat.le_refl _, Nat.le_refl _⟩ hl.1 rfl (Nat.le_of_ble_eq_true rfl) dX9_unit_97 (fun H locs hR hS => ?_)
          refine lv_if_eq (tgt := 109) hx hb dX9_unit_100 (by decide) (fun c_152 => ?_) (fun c_152 => ?_)
          · rw [if_pos c_152] at h
            refine lv_iconst (v := 0) hx hb dX9_unit_109 (by decide) ?_
            exact Kj118 _ _ _ _ _ h hR hS (lv_sub hl [1] rfl)
          · rw [if_neg c_152] at h
            refine lv_sipush (v := 10025) hx hb dX9_unit_103 (by decide) ?_
            refine lv_goto (tgt := 110) hx hb dX9_unit_106 (by decide) ?_
            exact Kj118 _ _ _ _ _ h hR hS (lv_sub hl [1] rfl)
        · rw [if_neg c_148] at h
          refine lv_sipush (v := 10024) hx hb dX9_unit_80 (by decide) ?_
          refine lv_goto (tgt := 110) hx hb dX9_unit_83 (by decide) ?_
          exact Kj118 _ _ _ _ _ h hR hS (lv_sub hl [1] rfl)
      · rw [if_neg c_112] at h
        refine lv_aload_n hx hb dX9_unit_50 rfl (lv_at hl 1 rfl) ?_
        obtain ⟨u154, hc153, h⟩ := ob h
        refine r_callV0 (As := []) (rest := []) (r := 9) (i := 0) C (vX9_skipWord hc153) hR hS (lv0 (by decide) (by decide)) (by decide) ml_X9_144 mw_X9_skipWord rfl ⟨(show 1 + 1 ≤ fr + 1 by omega), (show 8 + (1 + 11) + 21 ≤ lo + 40 by omega), Nat.le_refl _, Nat.le_refl _⟩ hl.1 rfl (Nat.le_of_ble_eq_true rfl) dX9_unit_51 (fun H locs hR hS => ?_)
        refine lv_aload_n hx hb dX9_unit_54 rfl (lv_at hl 1 rfl) ?_
        refine lv_sipush (v := 10000) hx hb dX9_unit_55 (by decide) ?_
        refine lv_iload_n hx hb dX9_unit_58 rfl (lv_at hl 0 rfl) ?_
        refine lv_iadd hx hb dX9_unit_59 ?_
        obtain ⟨u156, hc155, h⟩ := ob h
        refine r_callV0 (As := [.int (10000 + x110)]) (rest := []) (r := 9) (i := 0) C (vX9_tells hc155) hR hS (lv0 (by decide) (by decide)) (by decide) ml_X9_189 mw_X9_tells rfl ⟨(show 0 + 1 ≤ fr + 1 by omega), (show 8 + (2 + 11) + 0 ≤ lo + 40 by omega), Nat.le_refl _, Nat.le_refl _⟩ hl.1 rfl (Nat.le_of_ble_eq_true rfl) dX9_unit_60 (fun H locs hR hS => ?_)
        cases h
        exact e_vret C hr hR hS (Nat.le_of_ble_eq_true rfl) (Nat.le_of_ble_eq_true rfl) dX9_unit_63
    · rw [if_neg c_108] at h
      refine lv_aload_n hx hb dX9_unit_26 rfl (lv_at hl 0 rfl) ?_
      refine lv_aload_n hx hb dX9_unit_27 rfl (lv_at hl 0 rfl) ?_
      refine lv_iconst (v := 0) hx hb dX9_unit_28 (by decide) ?_
      refine lv_sipush (v := 9999) hx hb dX9_unit_29 (by decide) ?_
      refine lv_iconst (v := (-1)) hx hb dX9_unit_32 (by decide) ?_
      obtain ⟨⟨x158, u159⟩, hc157, h⟩ := ob h
      replace h := bd_x (x := x158) rfl h
      replace h := bd_x (x := u159) rfl h
      refine r_callV1 (As := [.int 0, .int 9999, .int (-1)]) (rest := [.ref (a 9 0)]) (r := 9) (i := 0) C (vX9_number hc157) hR hS (lv0 (by decide) (by decide)) (by decide) ml_X9_147 mw_X9_number rfl ⟨(show 2 + 1 ≤ fr + 1 by omega), (show 8 + (6 + 11) + 41 ≤ lo + 40 by omega), Nat.le_refl _, Nat.le_refl _⟩ hl.1 rfl (Nat.le_of_ble_eq_true rfl) dX9_unit_33 (fun H locs hR hS => ?_)
      obtain ⟨u161, hc160, h⟩ := ob h
      refine r_callV0 (As := [.int x158]) (rest := []) (r := 9) (i := 0) C (vX9_tells hc160) hR hS (lv0 (by decide) (by decide)) (by decide) ml_X9_189 mw_X9_tells rfl ⟨(show 0 + 1 ≤ fr + 1 by omega), (show 8 + (2 + 11) + 0 ≤ lo + 40 by omega), Nat.le_refl _, Nat.le_refl _⟩ hl.1 rfl (Nat.le_of_ble_eq_true rfl) dX9_unit_36 (fun H locs hR hS => ?_)
      cases h
      exact e_vret C hr hR hS (Nat.le_of_ble_eq_true rfl) (Nat.le_of_ble_eq_true rfl) dX9_unit_39
  · rw [if_neg c_101] at h
    cases h
    exact e_vret C hr hR hS (Nat.le_of_ble_eq_true rfl) (Nat.le_of_ble_eq_true rfl) dX9_unit_7
set_option maxHeartbeats 4000000 in
set_option maxRecDepth 100000 in
theorem vX9_product_b {l : Launch} {E : EV} {a : Nat → Nat → Nat} {g_unit : HS → Option HS} {g_product : HS → Option HS} {g_sum : HS → Option HS} {g_test : HS → Option HS} {g_ands : HS → Option HS} {g_ors : HS → Option HS} {fr lo : Nat} (hfr : 5 ≤ fr) (hlo : 200 ≤ lo) (hg_unit : ∀ {u : HS} {out : HS}, g_unit u = some out → Ct l E yX9_unit cX9_unit 3 none fr lo 0 0 a u [.ref (a 9 0)] none out) (hg_product : ∀ {u : HS} {out : HS}, g_product u = some out → Ct l E yX9_product cX9_product 2 none fr lo 0 0 a u [.ref (a 9 0)] none out) (hg_sum : ∀ {u : HS} {out : HS}, g_sum u = some out → Ct l E yX9_sum cX9_sum 2 none fr lo 0 0 a u [.ref (a 9 0)] none out) (hg_test : ∀ {u : HS} {out : HS}, g_test u = some out → Ct l E yX9_test cX9_test 2 none fr lo 0 0 a u [.ref (a 9 0)] none out) (hg_ands : ∀ {u : HS} {out : HS}, g_ands u = some out → Ct l E yX9_ands cX9_ands 1 none fr lo 0 0 a u [.ref (a 9 0)] none out) (hg_ors : ∀ {u : HS} {out : HS}, g_ors u = some out → Ct l E yX9_ors cX9_ors 1 none fr lo 0 0 a u [.ref (a 9 0)] none out) {u0 : HS} {out : HS} (h : mX9_product_b g_unit g_product g_sum g_test g_ands g_ors u0 = some out) : Ct l E yX9_product cX9_product 2 none (fr + 1) (lo + 40) 0 0 a u0 [.ref (a 9 0)] none out := by
  refine Ct.start (by decide) (Nat.le_of_ble_eq_true rfl) ?_
  intro p e s m args below meth c ls C hr hR hS hl
  have C : Cx E p s m args meth c cX9_product 2 RX9 := C
  have hl : lv_has ls 2 [(0, .ref (a 9 0))] := hl
  have hx := C.1
  have hb := C.2.1
  unfold mX9_product_b at h
  refine lv_aload_n hx hb dX9_product_0 rfl (lv_at hl 0 rfl) ?_
  obtain ⟨u102, hc101, h⟩ := ob h
  refine r_callV0 (As := []) (rest := []) (r := 9) (i := 0) C (hg_unit hc101) hR hS (lv0 (by decide) (by decide)) (by decide) ml_X9_201 mw_X9_unit rfl ⟨Nat.le_refl _, (show 8 + (3 + 11) + lo ≤ lo + 40 by omega), Nat.le_refl _, Nat.le_refl _⟩ hl.1 rfl (Nat.le_of_ble_eq_true rfl) dX9_product_1 (fun H locs hR hS => ?_)
  refine lv_aload_n hx hb dX9_product_4 rfl (lv_at hl 0 rfl) ?_
  obtain ⟨u104, hc103, h⟩ := ob h
  refine r_callV0 (As := []) (rest := []) (r := 9) (i := 0) C (vX9_blanks hc103) hR hS (lv0 (by decide) (by decide)) (by decide) ml_X9_101 mw_X9_blanks rfl ⟨(show 1 + 1 ≤ fr + 1 by omega), (show 8 + (1 + 11) + 21 ≤ lo + 40 by omega), Nat.le_refl _, Nat.le_refl _⟩ hl.1 rfl (Nat.le_of_ble_eq_true rfl) dX9_product_5 (fun H locs hR hS => ?_)
  refine jp_cut h (fun w107 hw107 h => ?_)
  have Kw107 : ∀ (u106 : HS) (H : Heap) (locs : List Loc) (ls : Array Slot), w107 u106 = some out → Rel E a u106 H → va_S (AE E) s.heap H locs → lv_has ls 2 [] → W p l e { frames := fr + 1, cells := 0, slots := 0, locals := lo + 40 } s m args below meth c H locs 0 0 (MQ below (QW E a none out) args s 0 0 (AE E)) (F0 m 90 ls []) := by
    intro u106 H locs ls h hR hS hl
    replace h := jx1 hw107 h
    cases h
    exact e_vret C hr hR hS (Nat.le_of_ble_eq_true rfl) (Nat.le_of_ble_eq_true rfl) dX9_product_90
  have LP : ∀ (fu : Nat) (u105 : HS) (H : Heap) (locs : List Loc) (ls : Array Slot), mX9_product_b_L8 g_unit g_product g_sum g_test g_ands g_ors  w107 fu u105 = some out → Rel E a u105 H → va_S (AE E) s.heap H locs → lv_has ls 2 [(0, .ref (a 9 0))] → W p l e { frames := fr + 1, cells := 0, slots := 0, locals := lo + 40 } s m args below meth c H locs 0 0 (MQ below (QW E a none out) args s 0 0 (AE E)) (F0 m 8 ls []) := by
    intro fu
    induction fu with
    | zero =>
      intro u105 H locs ls h
      have h2 : (none : Option HS) = some out := h
      cases h2
    | succ fu ih =>
      intro u105 H locs ls h hR hS hl
      rw [mX9_product_b_L8.eq_2] at h
      refine lv_aload_n hx hb dX9_product_8 rfl (lv_at hl 0 rfl) ?_
      refine r_get C hR 9 0 6 (v := .int (gI u105 9 0 6)) (lv0 (by decide) (by decide)) (by decide) (by decide) rfl fl_X9_92 dX9_product_9 ?_
      refine lv_if_ne (tgt := 90) hx hb dX9_product_12 (by decide) (fun c_108 => ?_) (fun c_108 => ?_)
      · rw [if_neg c_108] at h
        exact Kw107 _ _ _ _ h hR hS (lv_sub hl [] rfl)
      · rw [if_pos c_108] at h
        refine lv_aload_n hx hb dX9_product_15 rfl (lv_at hl 0 rfl) ?_
        refine lv_aload_n hx hb dX9_product_16 rfl (lv_at hl 0 rfl) ?_
        refine r_get C hR 9 0 4 (v := .int (gI u105 9 0 4)) (lv0 (by decide) (by decide)) (by decide) (by decide) rfl fl_X9_85 dX9_product_17 ?_
        obtain ⟨x110, hc109, h⟩ := ob h
        refine r_callV1 (As := [.int (gI u105 9 0 4)]) (rest := []) (r := 9) (i := 0) C (vX9_byteAt hc109) hR hS (lv0 (by decide) (by decide)) (by decide) ml_X9_88 mw_X9_byteAt rfl ⟨(show 0 + 1 ≤ fr + 1 by omega), (show 8 + (2 + 11) + 0 ≤ lo + 40 by omega), Nat.le_refl _, Nat.le_refl _⟩ hl.1 rfl (Nat.le_of_ble_eq_true rfl) dX9_product_20 (fun H locs hR hS => ?_)
        refine lv_bipush (v := 42) hx hb dX9_product_23 (by decide) ?_
        refine jp_cut h (fun j111 hj111 h => ?_)
        have Kj111 : ∀  (H : Heap) (locs : List Loc) (ls : Array Slot), j111 = some out → Rel E a u105 H → va_S (AE E) s.heap H locs → lv_has ls 2 [(0, .ref (a 9 0))] → W p l e { frames := fr + 1, cells := 0, slots := 0, locals := lo + 40 } s m args below meth c H locs 0 0 (MQ below (QW E a none out) args s 0 0 (AE E)) (F0 m 41 ls []) := by
          intro  H locs ls h hR hS hl
          replace h := jx0 hj111 h
          refine lv_aload_n hx hb dX9_product_41 rfl (lv_at hl 0 rfl) ?_
          refine lv_aload_n hx hb dX9_product_42 rfl (lv_at hl 0 rfl) ?_
          refine r_get C hR 9 0 4 (v := .int (gI u105 9 0 4)) (lv0 (by decide) (by decide)) (by decide) (by decide) rfl fl_X9_85 dX9_product_43 ?_
          obtain ⟨x113, hc112, h⟩ := ob h
          refine r_callV1 (As := [.int (gI u105 9 0 4)]) (rest := []) (r := 9) (i := 0) C (vX9_byteAt hc112) hR hS (lv0 (by decide) (by decide)) (by decide) ml_X9_88 mw_X9_byteAt rfl ⟨(show 0 + 1 ≤ fr + 1 by omega), (show 8 + (2 + 11) + 0 ≤ lo + 40 by omega), Nat.le_refl _, Nat.le_refl _⟩ hl.1 rfl (Nat.le_of_ble_eq_true rfl) dX9_product_46 (fun H locs hR hS => ?_)
          refine lv_istore_n (lv' := [(1, .int x113), (0, .ref (a 9 0))]) hx hb dX9_product_49 rfl hl (by decide) rfl (fun ls hl => ?_)
          refine lv_aload_n hx hb dX9_product_50 rfl (lv_at hl 1 rfl) ?_
          refine lv_dup hx hb dX9_product_51 rfl ?_
          refine r_get C hR 9 0 4 (v := .int (gI u105 9 0 4)) (lv0 (by decide) (by decide)) (by decide) (by decide) rfl fl_X9_85 dX9_product_52 ?_
          refine lv_iconst (v := 1) hx hb dX9_product_55 (by decide) ?_
          refine lv_iadd hx hb dX9_product_56 ?_
          refine r_putI (ty := .int) C hR hS 9 0 4 (lv0 (by decide) (by decide)) (by decide) (by decide) (fun _ => rfl) fl_X9_85 (by decide) (by decide +kernel) rfl rfl dX9_product_57 (fun H locs hR hS => ?_)
          obtain ⟨u114, eu114⟩ : ∃ z : HS, z = wI u105 9 0 4 ((gI u105 9 0 4) + 1) := ⟨_, rfl⟩
          rw [← eu114] at hR
          replace h := bd_x eu114 h
          clear eu114
          refine lv_aload_n hx hb dX9_product_60 rfl (lv_at hl 1 rfl) ?_
          obtain ⟨u116, hc115, h⟩ := ob h
          refine r_callV0 (As := []) (rest := []) (r := 9) (i := 0) C (hg_unit hc115) hR hS (lv0 (by decide) (by decide)) (by decide) ml_X9_201 mw_X9_unit rfl ⟨Nat.le_refl _, (show 8 + (3 + 11) + lo ≤ lo + 40 by omega), Nat.le_refl _, Nat.le_refl _⟩ hl.1 rfl (Nat.le_of_ble_eq_true rfl) dX9_product_61 (fun H locs hR hS => ?_)
          refine lv_aload_n hx hb dX9_product_64 rfl (lv_at hl 1 rfl) ?_
          refine lv_iload_n hx hb dX9_product_65 rfl (lv_at hl 0 rfl) ?_
          refine lv_bipush (v := 42) hx hb dX9_product_66 (by decide) ?_
          obtain ⟨x117, hz, h⟩ := ob h
          have Kj118 : ∀ (H : Heap) (locs : List Loc) (ls : Array Slot), Rel E a u116 H → va_S (AE E) s.heap H locs → lv_has ls 2 [(0, .ref (a 9 0))] → W p l e { frames := fr + 1, cells := 0, slots := 0, locals := lo + 40 } s m args below meth c H locs 0 0 (MQ below (QW E a none out) args s 0 0 (AE E)) (F0 m 80 ls [.int x117, .ref (a 9 0)]) := by
            intro H locs ls hR hS hl
            clear hz
            obtain ⟨u120, hc119, h⟩ := ob h
            refine r_callV0 (As := [.int x117]) (rest := []) (r := 9) (i := 0) C (vX9_tells hc119) hR hS (lv0 (by decide) (by decide)) (by decide) ml_X9_189 mw_X9_tells rfl ⟨(show 0 + 1 ≤ fr + 1 by omega), (show 8 + (2 + 11) + 0 ≤ lo + 40 by omega), Nat.le_refl _, Nat.le_refl _⟩ hl.1 rfl (Nat.le_of_ble_eq_true rfl) dX9_product_80 (fun H locs hR hS => ?_)
            refine lv_aload_n hx hb dX9_product_83 rfl (lv_at hl 0 rfl) ?_
            obtain ⟨u122, hc121, h⟩ := ob h
            refine r_callV0 (As := []) (rest := []) (r := 9) (i := 0) C (vX9_blanks hc121) hR hS (lv0 (by decide) (by decide)) (by decide) ml_X9_101 mw_X9_blanks rfl ⟨(show 1 + 1 ≤ fr + 1 by omega), (show 8 + (1 + 11) + 21 ≤ lo + 40 by omega), Nat.le_refl _, Nat.le_refl _⟩ hl.1 rfl (Nat.le_of_ble_eq_true rfl) dX9_product_84 (fun H locs hR hS => ?_)
            refine lv_goto (tgt := 8) hx hb dX9_product_87 (by decide) ?_
            exact ih _ _ _ _ h hR hS (lv_sub hl [0] rfl)
          clear h
          have h := hz
          clear hz
          refine lv_icmp_ne (tgt := 77) hx hb dX9_product_68 (by decide) (fun c_123 => ?_) (fun c_123 => ?_)
          · rw [if_neg c_123] at h
            refine lv_sipush (v := 10023) hx hb dX9_product_77 (by decide) ?_
            cases h
            exact Kj118 _ _ _ hR hS (lv_sub hl [1] rfl)
          · rw [if_pos c_123] at h
            refine lv_sipush (v := 10022) hx hb dX9_product_71 (by decide) ?_
            refine lv_goto (tgt := 80) hx hb dX9_product_74 (by decide) ?_
            cases h
            exact Kj118 _ _ _ hR hS (lv_sub hl [1] rfl)
        refine lv_icmp_eq (tgt := 41) hx hb dX9_product_25 (by decide) (fun c_124 => ?_) (fun c_124 => ?_)
        · rw [if_pos c_124] at h
          exact Kj111  _ _ _ h hR hS (lv_sub hl [0] rfl)
        · rw [if_neg c_124] at h
          refine lv_aload_n hx hb dX9_product_28 rfl (lv_at hl 0 rfl) ?_
          refine lv_aload_n hx hb dX9_product_29 rfl (lv_at hl 0 rfl) ?_
          refine r_get C hR 9 0 4 (v := .int (gI u105 9 0 4)) (lv0 (by decide) (by decide)) (by decide) (by decide) rfl fl_X9_85 dX9_product_30 ?_
          obtain ⟨x126, hc125, h⟩ := ob h
          refine r_callV1 (As := [.int (gI u105 9 0 4)]) (rest := []) (r := 9) (i := 0) C (vX9_byteAt hc125) hR hS (lv0 (by decide) (by decide)) (by decide) ml_X9_88 mw_X9_byteAt rfl ⟨(show 0 + 1 ≤ fr + 1 by omega), (show 8 + (2 + 11) + 0 ≤ lo + 40 by omega), Nat.le_refl _, Nat.le_refl _⟩ hl.1 rfl (Nat.le_of_ble_eq_true rfl) dX9_product_33 (fun H locs hR hS => ?_)
          refine lv_bipush (v := 47) hx hb dX9_product_36 (by decide) ?_
          refine lv_icmp_ne (tgt := 90) hx hb dX9_product_38 (by decide) (fun c_127 => ?_) (fun c_127 => ?_)
          · rw [if_neg c_127] at h
            exact Kw107 _ _ _ _ h hR hS (lv_sub hl [] rfl)
          · rw [if_pos c_127] at h
            exact Kj111  _ _ _ h hR hS (lv_sub hl [0] rfl)
  exact LP FU _ _ _ _ h hR hS (lv_sub hl [0] rfl)
set_option maxHeartbeats 4000000 in
set_option maxRecDepth 100000 in
theorem vX9_sum_b {l : Launch} {E : EV} {a : Nat → Nat → Nat} {g_unit : HS → Option HS} {g_product : HS → Option HS} {g_sum : HS → Option HS} {g_test : HS → Option HS} {g_ands : HS → Option HS} {g_ors : HS → Option HS} {fr lo : Nat} (hfr : 5 ≤ fr) (hlo : 200 ≤ lo) (hg_unit : ∀ {u : HS} {out : HS}, g_unit u = some out → Ct l E yX9_unit cX9_unit 3 none fr lo 0 0 a u [.ref (a 9 0)] none out) (hg_product : ∀ {u : HS} {out : HS}, g_product u = some out → Ct l E yX9_product cX9_product 2 none fr lo 0 0 a u [.ref (a 9 0)] none out) (hg_sum : ∀ {u : HS} {out : HS}, g_sum u = some out → Ct l E yX9_sum cX9_sum 2 none fr lo 0 0 a u [.ref (a 9 0)] none out) (hg_test : ∀ {u : HS} {out : HS}, g_test u = some out → Ct l E yX9_test cX9_test 2 none fr lo 0 0 a u [.ref (a 9 0)] none out) (hg_ands : ∀ {u : HS} {out : HS}, g_ands u = some out → Ct l E yX9_ands cX9_ands 1 none fr lo 0 0 a u [.ref (a 9 0)] none out) (hg_ors : ∀ {u : HS} {out : HS}, g_ors u = some out → Ct l E yX9_ors cX9_ors 1 none fr lo 0 0 a u [.ref (a 9 0)] none out) {u0 : HS} {out : HS} (h : mX9_sum_b g_unit g_product g_sum g_test g_ands g_ors u0 = some out) : Ct l E yX9_sum cX9_sum 2 none (fr + 1) (lo + 40) 0 0 a u0 [.ref (a 9 0)] none out := by
  refine Ct.start (by decide) (Nat.le_of_ble_eq_true rfl) ?_
  intro p e s m args below meth c ls C hr hR hS hl
  have C : Cx E p s m args meth c cX9_sum 2 RX9 := C
  have hl : lv_has ls 2 [(0, .ref (a 9 0))] := hl
  have hx := C.1
  have hb := C.2.1
  unfold mX9_sum_b at h
  refine lv_aload_n hx hb dX9_sum_0 rfl (lv_at hl 0 rfl) ?_
  obtain ⟨u102, hc101, h⟩ := ob h
  refine r_callV0 (As := []) (rest := []) (r := 9) (i := 0) C (hg_product hc101) hR hS (lv0 (by decide) (by decide)) (by decide) ml_X9_204 mw_X9_product rfl ⟨Nat.le_refl _, (show 8 + (2 + 11) + lo ≤ lo + 40 by omega), Nat.le_refl _, Nat.le_refl _⟩ hl.1 rfl (Nat.le_of_ble_eq_true rfl) dX9_sum_1 (fun H locs hR hS => ?_)
  refine lv_aload_n hx hb dX9_sum_4 rfl (lv_at hl 0 rfl) ?_
  obtain ⟨u104, hc103, h⟩ := ob h
  refine r_callV0 (As := []) (rest := []) (r := 9) (i := 0) C (vX9_blanks hc103) hR hS (lv0 (by decide) (by decide)) (by decide) ml_X9_101 mw_X9_blanks rfl ⟨(show 1 + 1 ≤ fr + 1 by omega), (show 8 + (1 + 11) + 21 ≤ lo + 40 by omega), Nat.le_refl _, Nat.le_refl _⟩ hl.1 rfl (Nat.le_of_ble_eq_true rfl) dX9_sum_5 (fun H locs hR hS => ?_)
  refine jp_cut h (fun w107 hw107 h => ?_)
  have Kw107 : ∀ (u106 : HS) (H : Heap) (locs : List Loc) (ls : Array Slot), w107 u106 = some out → Rel E a u106 H → va_S (AE E) s.heap H locs → lv_has ls 2 [] → W p l e { frames := fr + 1, cells := 0, slots := 0, locals := lo + 40 } s m args below meth c H locs 0 0 (MQ below (QW E a none out) args s 0 0 (AE E)) (F0 m 90 ls []) := by
    intro u106 H locs ls h hR hS hl
    replace h := jx1 hw107 h
    cases h
    exact e_vret C hr hR hS (Nat.le_of_ble_eq_true rfl) (Nat.le_of_ble_eq_true rfl) dX9_sum_90
  have LP : ∀ (fu : Nat) (u105 : HS) (H : Heap) (locs : List Loc) (ls : Array Slot), mX9_sum_b_L8 g_unit g_product g_sum g_test g_ands g_ors  w107 fu u105 = some out → Rel E a u105 H → va_S (AE E) s.heap H locs → lv_has ls 2 [(0, .ref (a 9 0))] → W p l e { frames := fr + 1, cells := 0, slots := 0, locals := lo + 40 } s m args below meth c H locs 0 0 (MQ below (QW E a none out) args s 0 0 (AE E)) (F0 m 8 ls []) := by
    intro fu
    induction fu with
    | zero =>
      intro u105 H locs ls h
      have h2 : (none : Option HS) = some out := h
      cases h2
    | succ fu ih =>
      intro u105 H locs ls h hR hS hl
      rw [mX9_sum_b_L8.eq_2] at h
      refine lv_aload_n hx hb dX9_sum_8 rfl (lv_at hl 0 rfl) ?_
      refine r_get C hR 9 0 6 (v := .int (gI u105 9 0 6)) (lv0 (by decide) (by decide)) (by decide) (by decide) rfl fl_X9_92 dX9_sum_9 ?_
      refine lv_if_ne (tgt := 90) hx hb dX9_sum_12 (by decide) (fun c_108 => ?_) (fun c_108 => ?_)
      · rw [if_neg c_108] at h
        exact Kw107 _ _ _ _ h hR hS (lv_sub hl [] rfl)
      · rw [if_pos c_108] at h
        refine lv_aload_n hx hb dX9_sum_15 rfl (lv_at hl 0 rfl) ?_
        refine lv_aload_n hx hb dX9_sum_16 rfl (lv_at hl 0 rfl) ?_
        refine r_get C hR 9 0 4 (v := .int (gI u105 9 0 4)) (lv0 (by decide) (by decide)) (by decide) (by decide) rfl fl_X9_85 dX9_sum_17 ?_
        obtain ⟨x110, hc109, h⟩ := ob h
        refine r_callV1 (As := [.int (gI u105 9 0 4)]) (rest := []) (r := 9) (i := 0) C (vX9_byteAt hc109) hR hS (lv0 (by decide) (by decide)) (by decide) ml_X9_88 mw_X9_byteAt rfl ⟨(show 0 + 1 ≤ fr + 1 by omega), (show 8 + (2 + 11) + 0 ≤ lo + 40 by omega), Nat.le_refl _, Nat.le_refl _⟩ hl.1 rfl (Nat.le_of_ble_eq_true rfl) dX9_sum_20 (fun H locs hR hS => ?_)
        refine lv_bipush (v := 43) hx hb dX9_sum_23 (by decide) ?_
        refine jp_cut h (fun j111 hj111 h => ?_)
        have Kj111 : ∀  (H : Heap) (locs : List Loc) (ls : Array Slot), j111 = some out → Rel E a u105 H → va_S (AE E) s.heap H locs → lv_has ls 2 [(0, .ref (a 9 0))] → W p l e { frames := fr + 1, cells := 0, slots := 0, locals := lo + 40 } s m args below meth c H locs 0 0 (MQ below (QW E a none out) args s 0 0 (AE E)) (F0 m 41 ls []) := by
          intro  H locs ls h hR hS hl
          replace h := jx0 hj111 h
          refine lv_aload_n hx hb dX9_sum_41 rfl (lv_at hl 0 rfl) ?_
          refine lv_aload_n hx hb dX9_sum_42 rfl (lv_at hl 0 rfl) ?_
          refine r_get C hR 9 0 4 (v := .int (gI u105 9 0 4)) (lv0 (by decide) (by decide)) (by decide) (by decide) rfl fl_X9_85 dX9_sum_43 ?_
          obtain ⟨x113, hc112, h⟩ := ob h
          refine r_callV1 (As := [.int (gI u105 9 0 4)]) (rest := []) (r := 9) (i := 0) C (vX9_byteAt hc112) hR hS (lv0 (by decide) (by decide)) (by decide) ml_X9_88 mw_X9_byteAt rfl ⟨(show 0 + 1 ≤ fr + 1 by omega), (show 8 + (2 + 11) + 0 ≤ lo + 40 by omega), Nat.le_refl _, Nat.le_refl _⟩ hl.1 rfl (Nat.le_of_ble_eq_true rfl) dX9_sum_46 (fun H locs hR hS => ?_)
          refine lv_istore_n (lv' := [(1, .int x113), (0, .ref (a 9 0))]) hx hb dX9_sum_49 rfl hl (by decide) rfl (fun ls hl => ?_)
          refine lv_aload_n hx hb dX9_sum_50 rfl (lv_at hl 1 rfl) ?_
          refine lv_dup hx hb dX9_sum_51 rfl ?_
          refine r_get C hR 9 0 4 (v := .int (gI u105 9 0 4)) (lv0 (by decide) (by decide)) (by decide) (by decide) rfl fl_X9_85 dX9_sum_52 ?_
          refine lv_iconst (v := 1) hx hb dX9_sum_55 (by decide) ?_
          refine lv_iadd hx hb dX9_sum_56 ?_
          refine r_putI (ty := .int) C hR hS 9 0 4 (lv0 (by decide) (by decide)) (by decide) (by decide) (fun _ => rfl) fl_X9_85 (by decide) (by decide +kernel) rfl rfl dX9_sum_57 (fun H locs hR hS => ?_)
          obtain ⟨u114, eu114⟩ : ∃ z : HS, z = wI u105 9 0 4 ((gI u105 9 0 4) + 1) := ⟨_, rfl⟩
          rw [← eu114] at hR
          replace h := bd_x eu114 h
          clear eu114
          refine lv_aload_n hx hb dX9_sum_60 rfl (lv_at hl 1 rfl) ?_
          obtain ⟨u116, hc115, h⟩ := ob h
          refine r_callV0 (As := []) (rest := []) (r := 9) (i := 0) C (hg_product hc115) hR hS (lv0 (by decide) (by decide)) (by decide) ml_X9_204 mw_X9_product rfl ⟨Nat.le_refl _, (show 8 + (2 + 11) + lo ≤ lo + 40 by omega), Nat.le_refl _, Nat.le_refl _⟩ hl.1 rfl (Nat.le_of_ble_eq_true rfl) dX9_sum_61 (fun H locs hR hS => ?_)
          refine lv_aload_n hx hb dX9_sum_64 rfl (lv_at hl 1 rfl) ?_
          refine lv_iload_n hx hb dX9_sum_65 rfl (lv_at hl 0 rfl) ?_
          refine lv_bipush (v := 43) hx hb dX9_sum_66 (by decide) ?_
          obtain ⟨x117, hz, h⟩ := ob h
          have Kj118 : ∀ (H : Heap) (locs : List Loc) (ls : Array Slot), Rel E a u116 H → va_S (AE E) s.heap H locs → lv_has ls 2 [(0, .ref (a 9 0))] → W p l e { frames := fr + 1, cells := 0, slots := 0, locals := lo + 40 } s m args below meth c H locs 0 0 (MQ below (QW E a none out) args s 0 0 (AE E)) (F0 m 80 ls [.int x117, .ref (a 9 0)]) := by
            intro H locs ls hR hS hl
            clear hz
            obtain ⟨u120, hc119, h⟩ := ob h
            refine r_callV0 (As := [.int x117]) (rest := []) (r := 9) (i := 0) C (vX9_tells hc119) hR hS (lv0 (by decide) (by decide)) (by decide) ml_X9_189 mw_X9_tells rfl ⟨(show 0 + 1 ≤ fr + 1 by omega), (show 8 + (2 + 11) + 0 ≤ lo + 40 by omega), Nat.le_refl _, Nat.le_refl _⟩ hl.1 rfl (Nat.le_of_ble_eq_true rfl) dX9_sum_80 (fun H locs hR hS => ?_)
            refine lv_aload_n hx hb dX9_sum_83 rfl (lv_at hl 0 rfl) ?_
            obtain ⟨u122, hc121, h⟩ := ob h
            refine r_callV0 (As := []) (rest := []) (r := 9) (i := 0) C (vX9_blanks hc121) hR hS (lv0 (by decide) (by decide)) (by decide) ml_X9_101 mw_X9_blanks rfl ⟨(show 1 + 1 ≤ fr + 1 by omega), (show 8 + (1 + 11) + 21 ≤ lo + 40 by omega), Nat.le_refl _, Nat.le_refl _⟩ hl.1 rfl (Nat.le_of_ble_eq_true rfl) dX9_sum_84 (fun H locs hR hS => ?_)
            refine lv_goto (tgt := 8) hx hb dX9_sum_87 (by decide) ?_
            exact ih _ _ _ _ h hR hS (lv_sub hl [0] rfl)
          clear h
          have h := hz
          clear hz
          refine lv_icmp_ne (tgt := 77) hx hb dX9_sum_68 (by decide) (fun c_123 => ?_) (fun c_123 => ?_)
          · rw [if_neg c_123] at h
            refine lv_sipush (v := 10021) hx hb dX9_sum_77 (by decide) ?_
            cases h
            exact Kj118 _ _ _ hR hS (lv_sub hl [1] rfl)
          · rw [if_pos c_123] at h
            refine lv_sipush (v := 10020) hx hb dX9_sum_71 (by decide) ?_
            refine lv_goto (tgt := 80) hx hb dX9_sum_74 (by decide) ?_
            cases h
            exact Kj118 _ _ _ hR hS (lv_sub hl [1] rfl)
        refine lv_icmp_eq (tgt := 41) hx hb dX9_sum_25 (by decide) (fun c_124 => ?_) (fun c_124 => ?_)
        · rw [if_pos c_124] at h
          exact Kj111  _ _ _ h hR hS (lv_sub hl [0] rfl)
        · rw [if_neg c_124] at h
          refine lv_aload_n hx hb dX9_sum_28 rfl (lv_at hl 0 rfl) ?_
          refine lv_aload_n hx hb dX9_sum_29 rfl (lv_at hl 0 rfl) ?_
          refine r_get C hR 9 0 4 (v := .int (gI u105 9 0 4)) (lv0 (by decide) (by decide)) (by decide) (by decide) rfl fl_X9_85 dX9_sum_30 ?_
          obtain ⟨x126, hc125, h⟩ := ob h
          refine r_callV1 (As := [.int (gI u105 9 0 4)]) (rest := []) (r := 9) (i := 0) C (vX9_byteAt hc125) hR hS (lv0 (by decide) (by decide)) (by decide) ml_X9_88 mw_X9_byteAt rfl ⟨(show 0 + 1 ≤ fr + 1 by omega), (show 8 + (2 + 11) + 0 ≤ lo + 40 by omega), Nat.le_refl _, Nat.le_refl _⟩ hl.1 rfl (Nat.le_of_ble_eq_true rfl) dX9_sum_33 (fun H locs hR hS => ?_)
          refine lv_bipush (v := 45) hx hb dX9_sum_36 (by decide) ?_
          refine lv_icmp_ne (tgt := 90) hx hb dX9_sum_38 (by decide) (fun c_127 => ?_) (fun c_127 => ?_)
          · rw [if_neg c_127] at h
            exact Kw107 _ _ _ _ h hR hS (lv_sub hl [] rfl)
          · rw [if_pos c_127] at h
            exact Kj111  _ _ _ h hR hS (lv_sub hl [0] rfl)
  exact LP FU _ _ _ _ h hR hS (lv_sub hl [0] rfl)
set_option maxHeartbeats 4000000 in
set_option maxRecDepth 100000 in
theorem vX9_test_b {l : Launch} {E : EV} {a : Nat → Nat → Nat} {g_unit : HS → Option HS} {g_product : HS → Option HS} {g_sum : HS → Option HS} {g_test : HS → Option HS} {g_ands : HS → Option HS} {g_ors : HS → Option HS} {fr lo : Nat} (hfr : 5 ≤ fr) (hlo : 200 ≤ lo) (hg_unit : ∀ {u : HS} {out : HS}, g_unit u = some out → Ct l E yX9_unit cX9_unit 3 none fr lo 0 0 a u [.ref (a 9 0)] none out) (hg_product : ∀ {u : HS} {out : HS}, g_product u = some out → Ct l E yX9_product cX9_product 2 none fr lo 0 0 a u [.ref (a 9 0)] none out) (hg_sum : ∀ {u : HS} {out : HS}, g_sum u = some out → Ct l E yX9_sum cX9_sum 2 none fr lo 0 0 a u [.ref (a 9 0)] none out) (hg_test : ∀ {u : HS} {out : HS}, g_test u = some out → Ct l E yX9_test cX9_test 2 none fr lo 0 0 a u [.ref (a 9 0)] none out) (hg_ands : ∀ {u : HS} {out : HS}, g_ands u = some out → Ct l E yX9_ands cX9_ands 1 none fr lo 0 0 a u [.ref (a 9 0)] none out) (hg_ors : ∀ {u : HS} {out : HS}, g_ors u = some out → Ct l E yX9_ors cX9_ors 1 none fr lo 0 0 a u [.ref (a 9 0)] none out) {u0 : HS} {out : HS} (h : mX9_test_b g_unit g_product g_sum g_test g_ands g_ors u0 = some out) : Ct l E yX9_test cX9_test 2 none (fr + 1) (lo + 40) 0 0 a u0 [.ref (a 9 0)] none out := by
  refine Ct.start (by decide) (Nat.le_of_ble_eq_true rfl) ?_
  intro p e s m args below meth c ls C hr hR hS hl
  have C : Cx E p s m args meth c cX9_test 2 RX9 := C
  have hl : lv_has ls 2 [(0, .ref (a 9 0))] := hl
  have hx := C.1
  have hb := C.2.1
  unfold mX9_test_b at h
  refine lv_aload_n hx hb dX9_test_0 rfl (lv_at hl 0 rfl) ?_
  refine r_get C hR 9 0 6 (v := .int (gI u0 9 0 6)) (lv0 (by decide) (by decide)) (by decide) (by decide) rfl fl_X9_92 dX9_test_1 ?_
  refine lv_if_eq (tgt := 8) hx hb dX9_test_4 (by decide) (fun c_101 => ?_) (fun c_101 => ?_)
  · rw [if_pos c_101] at h
    refine lv_aload_n hx hb dX9_test_8 rfl (lv_at hl 0 rfl) ?_
    refine lv_bipush (v := 14) hx hb dX9_test_9 (by decide) ?_
    refine lv_bipush (v := 15) hx hb dX9_test_11 (by decide) ?_
    refine lv_bipush (v := 20) hx hb dX9_test_13 (by decide) ?_
    refine lv_iconst (v := 0) hx hb dX9_test_15 (by decide) ?_
    refine lv_iconst (v := 0) hx hb dX9_test_16 (by decide) ?_
    refine lv_iconst (v := 0) hx hb dX9_test_17 (by decide) ?_
    obtain ⟨⟨x103, u104⟩, hc102, h⟩ := ob h
    replace h := bd_x (x := x103) rfl h
    replace h := bd_x (x := u104) rfl h
    refine r_callV1 (As := [.int 14, .int 15, .int 20, .int 0, .int 0, .int 0]) (rest := []) (r := 9) (i := 0) C (vX9_isWord hc102) hR hS (lv0 (by decide) (by decide)) (by decide) ml_X9_134 mw_X9_isWord rfl ⟨(show 3 + 1 ≤ fr + 1 by omega), (show 8 + (7 + 11) + 63 ≤ lo + 40 by omega), Nat.le_refl _, Nat.le_refl _⟩ hl.1 rfl (Nat.le_of_ble_eq_true rfl) dX9_test_18 (fun H locs hR hS => ?_)
    refine lv_if_eq (tgt := 51) hx hb dX9_test_21 (by decide) (fun c_105 => ?_) (fun c_105 => ?_)
    · rw [if_pos c_105] at h
      refine lv_aload_n hx hb dX9_test_51 rfl (lv_at hl 0 rfl) ?_
      refine lv_aload_n hx hb dX9_test_52 rfl (lv_at hl 0 rfl) ?_
      refine r_get C hR 9 0 4 (v := .int (gI u104 9 0 4)) (lv0 (by decide) (by decide)) (by decide) (by decide) rfl fl_X9_85 dX9_test_53 ?_
      obtain ⟨x107, hc106, h⟩ := ob h
      refine r_callV1 (As := [.int (gI u104 9 0 4)]) (rest := []) (r := 9) (i := 0) C (vX9_byteAt hc106) hR hS (lv0 (by decide) (by decide)) (by decide) ml_X9_88 mw_X9_byteAt rfl ⟨(show 0 + 1 ≤ fr + 1 by omega), (show 8 + (2 + 11) + 0 ≤ lo + 40 by omega), Nat.le_refl _, Nat.le_refl _⟩ hl.1 rfl (Nat.le_of_ble_eq_true rfl) dX9_test_56 (fun H locs hR hS => ?_)
      refine lv_bipush (v := 91) hx hb dX9_test_59 (by decide) ?_
      refine lv_icmp_ne (tgt := 90) hx hb dX9_test_61 (by decide) (fun c_108 => ?_) (fun c_108 => ?_)
      · rw [if_neg c_108] at h
        refine lv_aload_n hx hb dX9_test_90 rfl (lv_at hl 0 rfl) ?_
        obtain ⟨u110, hc109, h⟩ := ob h
        refine r_callV0 (As := []) (rest := []) (r := 9) (i := 0) C (hg_sum hc109) hR hS (lv0 (by decide) (by decide)) (by decide) ml_X9_198 mw_X9_sum rfl ⟨Nat.le_refl _, (show 8 + (2 + 11) + lo ≤ lo + 40 by omega), Nat.le_refl _, Nat.le_refl _⟩ hl.1 rfl (Nat.le_of_ble_eq_true rfl) dX9_test_91 (fun H locs hR hS => ?_)
        refine lv_aload_n hx hb dX9_test_94 rfl (lv_at hl 0 rfl) ?_
        refine r_get C hR 9 0 6 (v := .int (gI u110 9 0 6)) (lv0 (by decide) (by decide)) (by decide) (by decide) rfl fl_X9_92 dX9_test_95 ?_
        refine lv_if_eq (tgt := 102) hx hb dX9_test_98 (by decide) (fun c_111 => ?_) (fun c_111 => ?_)
        · rw [if_pos c_111] at h
          refine lv_aload_n hx hb dX9_test_102 rfl (lv_at hl 0 rfl) ?_
          obtain ⟨u113, hc112, h⟩ := ob h
          refine r_callV0 (As := []) (rest := []) (r := 9) (i := 0) C (vX9_blanks hc112) hR hS (lv0 (by decide) (by decide)) (by decide) ml_X9_101 mw_X9_blanks rfl ⟨(show 1 + 1 ≤ fr + 1 by omega), (show 8 + (1 + 11) + 21 ≤ lo + 40 by omega), Nat.le_refl _, Nat.le_refl _⟩ hl.1 rfl (Nat.le_of_ble_eq_true rfl) dX9_test_103 (fun H locs hR hS => ?_)
          refine lv_aload_n hx hb dX9_test_106 rfl (lv_at hl 0 rfl) ?_
          refine lv_aload_n hx hb dX9_test_107 rfl (lv_at hl 0 rfl) ?_
          refine r_get C hR 9 0 4 (v := .int (gI u113 9 0 4)) (lv0 (by decide) (by decide)) (by decide) (by decide) rfl fl_X9_85 dX9_test_108 ?_
          obtain ⟨x115, hc114, h⟩ := ob h
          refine r_callV1 (As := [.int (gI u113 9 0 4)]) (rest := []) (r := 9) (i := 0) C (vX9_byteAt hc114) hR hS (lv0 (by decide) (by decide)) (by decide) ml_X9_88 mw_X9_byteAt rfl ⟨(show 0 + 1 ≤ fr + 1 by omega), (show 8 + (2 + 11) + 0 ≤ lo + 40 by omega), Nat.le_refl _, Nat.le_refl _⟩ hl.1 rfl (Nat.le_of_ble_eq_true rfl) dX9_test_111 (fun H locs hR hS => ?_)
          refine lv_istore_n (lv' := [(1, .int x115), (0, .ref (a 9 0))]) hx hb dX9_test_114 rfl hl (by decide) rfl (fun ls hl => ?_)
          refine lv_iload_n hx hb dX9_test_115 rfl (lv_at hl 0 rfl) ?_
          refine lv_bipush (v := 60) hx hb dX9_test_116 (by decide) ?_
          obtain ⟨u116, hz, h⟩ := ob h
          have Kj117 : ∀ (H : Heap) (locs : List Loc) (ls : Array Slot), Rel E a u116 H → va_S (AE E) s.heap H locs → lv_has ls 2 [(0, .ref (a 9 0)), (1, .int x115)] → W p l e { frames := fr + 1, cells := 0, slots := 0, locals := lo + 40 } s m args below meth c H locs 0 0 (MQ below (QW E a none out) args s 0 0 (AE E)) (F0 m 142 ls []) := by
            intro H locs ls hR hS hl
            clear hz
            refine lv_aload_n hx hb dX9_test_142 rfl (lv_at hl 0 rfl) ?_
            refine lv_dup hx hb dX9_test_143 rfl ?_
            refine r_get C hR 9 0 4 (v := .int (gI u116 9 0 4)) (lv0 (by decide) (by decide)) (by decide) (by decide) rfl fl_X9_85 dX9_test_144 ?_
            refine lv_iconst (v := 1) hx hb dX9_test_147 (by decide) ?_
            refine lv_iadd hx hb dX9_test_148 ?_
            refine r_putI (ty := .int) C hR hS 9 0 4 (lv0 (by decide) (by decide)) (by decide) (by decide) (fun _ => rfl) fl_X9_85 (by decide) (by decide +kernel) rfl rfl dX9_test_149 (fun H locs hR hS => ?_)
            obtain ⟨u118, eu118⟩ : ∃ z : HS, z = wI u116 9 0 4 ((gI u116 9 0 4) + 1) := ⟨_, rfl⟩
            rw [← eu118] at hR
            replace h := bd_x eu118 h
            clear eu118
            refine lv_aload_n hx hb dX9_test_152 rfl (lv_at hl 0 rfl) ?_
            obtain ⟨u120, hc119, h⟩ := ob h
            refine r_callV0 (As := []) (rest := []) (r := 9) (i := 0) C (hg_sum hc119) hR hS (lv0 (by decide) (by decide)) (by decide) ml_X9_198 mw_X9_sum rfl ⟨Nat.le_refl _, (show 8 + (2 + 11) + lo ≤ lo + 40 by omega), Nat.le_refl _, Nat.le_refl _⟩ hl.1 rfl (Nat.le_of_ble_eq_true rfl) dX9_test_153 (fun H locs hR hS => ?_)
            refine lv_aload_n hx hb dX9_test_156 rfl (lv_at hl 0 rfl) ?_
            refine lv_iload_n hx hb dX9_test_157 rfl (lv_at hl 1 rfl) ?_
            refine lv_bipush (v := 60) hx hb dX9_test_158 (by decide) ?_
            obtain ⟨x121, hz, h⟩ := ob h
            have Kj122 : ∀ (H : Heap) (locs : List Loc) (ls : Array Slot), Rel E a u120 H → va_S (AE E) s.heap H locs → lv_has ls 2 [] → W p l e { frames := fr + 1, cells := 0, slots := 0, locals := lo + 40 } s m args below meth c H locs 0 0 (MQ below (QW E a none out) args s 0 0 (AE E)) (F0 m 184 ls [.int x121, .ref (a 9 0)]) := by
              intro H locs ls hR hS hl
              clear hz
              obtain ⟨u124, hc123, h⟩ := ob h
              refine r_callV0 (As := [.int x121]) (rest := []) (r := 9) (i := 0) C (vX9_tells hc123) hR hS (lv0 (by decide) (by decide)) (by decide) ml_X9_189 mw_X9_tells rfl ⟨(show 0 + 1 ≤ fr + 1 by omega), (show 8 + (2 + 11) + 0 ≤ lo + 40 by omega), Nat.le_refl _, Nat.le_refl _⟩ hl.1 rfl (Nat.le_of_ble_eq_true rfl) dX9_test_184 (fun H locs hR hS => ?_)
              cases h
              exact e_vret C hr hR hS (Nat.le_of_ble_eq_true rfl) (Nat.le_of_ble_eq_true rfl) dX9_test_187
            clear h
            have h := hz
            clear hz
            refine lv_icmp_ne (tgt := 169) hx hb dX9_test_160 (by decide) (fun c_125 => ?_) (fun c_125 => ?_)
            · rw [if_neg c_125] at h
              refine lv_iload_n hx hb dX9_test_169 rfl (lv_at hl 1 rfl) ?_
              refine lv_bipush (v := 62) hx hb dX9_test_170 (by decide) ?_
              refine lv_icmp_ne (tgt := 181) hx hb dX9_test_172 (by decide) (fun c_126 => ?_) (fun c_126 => ?_)
              · rw [if_neg c_126] at h
                refine lv_sipush (v := 10032) hx hb dX9_test_181 (by decide) ?_
                cases h
                exact Kj122 _ _ _ hR hS (lv_sub hl [] rfl)
              · rw [if_pos c_126] at h
                refine lv_sipush (v := 10031) hx hb dX9_test_175 (by decide) ?_
                refine lv_goto (tgt := 184) hx hb dX9_test_178 (by decide) ?_
                cases h
                exact Kj122 _ _ _ hR hS (lv_sub hl [] rfl)
            · rw [if_pos c_125] at h
              refine lv_sipush (v := 10030) hx hb dX9_test_163 (by decide) ?_
              refine lv_goto (tgt := 184) hx hb dX9_test_166 (by decide) ?_
              cases h
              exact Kj122 _ _ _ hR hS (lv_sub hl [] rfl)
          clear h
          have h := hz
          clear hz
          refine lv_icmp_eq (tgt := 142) hx hb dX9_test_118 (by decide) (fun c_127 => ?_) (fun c_127 => ?_)
          · rw [if_pos c_127] at h
            cases h
            exact Kj117 _ _ _ hR hS (lv_sub hl [1, 0] rfl)
          · rw [if_neg c_127] at h
            refine lv_iload_n hx hb dX9_test_121 rfl (lv_at hl 0 rfl) ?_
            refine lv_bipush (v := 62) hx hb dX9_test_122 (by decide) ?_
            refine lv_icmp_eq (tgt := 142) hx hb dX9_test_124 (by decide) (fun c_128 => ?_) (fun c_128 => ?_)
            · rw [if_pos c_128] at h
              cases h
              exact Kj117 _ _ _ hR hS (lv_sub hl [1, 0] rfl)
            · rw [if_neg c_128] at h
              refine lv_iload_n hx hb dX9_test_127 rfl (lv_at hl 0 rfl) ?_
              refine lv_bipush (v := 61) hx hb dX9_test_128 (by decide) ?_
              refine lv_icmp_eq (tgt := 142) hx hb dX9_test_130 (by decide) (fun c_129 => ?_) (fun c_129 => ?_)
              · rw [if_pos c_129] at h
                cases h
                exact Kj117 _ _ _ hR hS (lv_sub hl [1, 0] rfl)
              · rw [if_neg c_129] at h
                refine lv_aload_n hx hb dX9_test_133 rfl (lv_at hl 1 rfl) ?_
                refine lv_iconst (v := 1) hx hb dX9_test_134 (by decide) ?_
                refine lv_aload_n hx hb dX9_test_135 rfl (lv_at hl 1 rfl) ?_
                refine r_get C hR 9 0 4 (v := .int (gI u113 9 0 4)) (lv0 (by decide) (by decide)) (by decide) (by decide) rfl fl_X9_85 dX9_test_136 ?_
                obtain ⟨u131, hc130, h⟩ := ob h
                refine r_callV0 (As := [.int 1, .int (gI u113 9 0 4)]) (rest := []) (r := 9) (i := 0) C (vX9_wrongAt hc130) hR hS (lv0 (by decide) (by decide)) (by decide) ml_X9_108 mw_X9_wrongAt rfl ⟨(show 0 + 1 ≤ fr + 1 by omega), (show 8 + (3 + 11) + 0 ≤ lo + 40 by omega), Nat.le_refl _, Nat.le_refl _⟩ hl.1 rfl (Nat.le_of_ble_eq_true rfl) dX9_test_139 (fun H locs hR hS => ?_)
                cases h
                exact Kj117 _ _ _ hR hS (lv_sub hl [1, 0] rfl)
        · rw [if_neg c_111] at h
          cases h
          exact e_vret C hr hR hS (Nat.le_of_ble_eq_true rfl) (Nat.le_of_ble_eq_true rfl) dX9_test_101
      · rw [if_pos c_108] at h
        refine lv_aload_n hx hb dX9_test_64 rfl (lv_at hl 0 rfl) ?_
        refine lv_iconst (v := 1) hx hb dX9_test_65 (by decide) ?_
        obtain ⟨u133, hc132, h⟩ := ob h
        refine r_callV0 (As := [.int 1]) (rest := []) (r := 9) (i := 0) C (vX9_opens hc132) hR hS (lv0 (by decide) (by decide)) (by decide) ml_X9_195 mw_X9_opens rfl ⟨(show 1 + 1 ≤ fr + 1 by omega), (show 8 + (2 + 11) + 22 ≤ lo + 40 by omega), Nat.le_refl _, Nat.le_refl _⟩ hl.1 rfl (Nat.le_of_ble_eq_true rfl) dX9_test_66 (fun H locs hR hS => ?_)
        refine lv_aload_n hx hb dX9_test_69 rfl (lv_at hl 0 rfl) ?_
        obtain ⟨u135, hc134, h⟩ := ob h
        refine r_callV0 (As := []) (rest := []) (r := 9) (i := 0) C (hg_ors hc134) hR hS (lv0 (by decide) (by decide)) (by decide) ml_X9_210 mw_X9_ors rfl ⟨Nat.le_refl _, (show 8 + (1 + 11) + lo ≤ lo + 40 by omega), Nat.le_refl _, Nat.le_refl _⟩ hl.1 rfl (Nat.le_of_ble_eq_true rfl) dX9_test_70 (fun H locs hR hS => ?_)
        refine lv_aload_n hx hb dX9_test_73 rfl (lv_at hl 0 rfl) ?_
        refine lv_bipush (v := 93) hx hb dX9_test_74 (by decide) ?_
        obtain ⟨u137, hc136, h⟩ := ob h
        refine r_callV0 (As := [.int 93]) (rest := []) (r := 9) (i := 0) C (vX9_sign hc136) hR hS (lv0 (by decide) (by decide)) (by decide) ml_X9_155 mw_X9_sign rfl ⟨(show 2 + 1 ≤ fr + 1 by omega), (show 8 + (2 + 11) + 41 ≤ lo + 40 by omega), Nat.le_refl _, Nat.le_refl _⟩ hl.1 rfl (Nat.le_of_ble_eq_true rfl) dX9_test_76 (fun H locs hR hS => ?_)
        refine lv_aload_n hx hb dX9_test_79 rfl (lv_at hl 0 rfl) ?_
        refine lv_dup hx hb dX9_test_80 rfl ?_
        refine r_get C hR 9 0 5 (v := .int (gI u137 9 0 5)) (lv0 (by decide) (by decide)) (by decide) (by decide) rfl fl_X9_125 dX9_test_81 ?_
        refine lv_iconst (v := 1) hx hb dX9_test_84 (by decide) ?_
        refine lv_isub hx hb dX9_test_85 ?_
        refine r_putI (ty := .int) C hR hS 9 0 5 (lv0 (by decide) (by decide)) (by decide) (by decide) (fun _ => rfl) fl_X9_125 (by decide) (by decide +kernel) rfl rfl dX9_test_86 (fun H locs hR hS => ?_)
        obtain ⟨u138, eu138⟩ : ∃ z : HS, z = wI u137 9 0 5 ((gI u137 9 0 5) - 1) := ⟨_, rfl⟩
        rw [← eu138] at hR
        replace h := bd_x eu138 h
        clear eu138
        cases h
        exact e_vret C hr hR hS (Nat.le_of_ble_eq_true rfl) (Nat.le_of_ble_eq_true rfl) dX9_test_89
    · rw [if_neg c_105] at h
      refine lv_aload_n hx hb dX9_test_24 rfl (lv_at hl 0 rfl) ?_
      refine lv_iconst (v := 3) hx hb dX9_test_25 (by decide) ?_
      obtain ⟨u140, hc139, h⟩ := ob h
      refine r_callV0 (As := [.int 3]) (rest := []) (r := 9) (i := 0) C (vX9_opens hc139) hR hS (lv0 (by decide) (by decide)) (by decide) ml_X9_195 mw_X9_opens rfl ⟨(show 1 + 1 ≤ fr + 1 by omega), (show 8 + (2 + 11) + 22 ≤ lo + 40 by omega), Nat.le_refl _, Nat.le_refl _⟩ hl.1 rfl (Nat.le_of_ble_eq_true rfl) dX9_test_26 (fun H locs hR hS => ?_)
      refine lv_aload_n hx hb dX9_test_29 rfl (lv_at hl 0 rfl) ?_
      obtain ⟨u142, hc141, h⟩ := ob h
      refine r_callV0 (As := []) (rest := []) (r := 9) (i := 0) C (hg_test hc141) hR hS (lv0 (by decide) (by decide)) (by decide) ml_X9_207 mw_X9_test rfl ⟨Nat.le_refl _, (show 8 + (2 + 11) + lo ≤ lo + 40 by omega), Nat.le_refl _, Nat.le_refl _⟩ hl.1 rfl (Nat.le_of_ble_eq_true rfl) dX9_test_30 (fun H locs hR hS => ?_)
      refine lv_aload_n hx hb dX9_test_33 rfl (lv_at hl 0 rfl) ?_
      refine lv_dup hx hb dX9_test_34 rfl ?_
      refine r_get C hR 9 0 5 (v := .int (gI u142 9 0 5)) (lv0 (by decide) (by decide)) (by decide) (by decide) rfl fl_X9_125 dX9_test_35 ?_
      refine lv_iconst (v := 1) hx hb dX9_test_38 (by decide) ?_
      refine lv_isub hx hb dX9_test_39 ?_
      refine r_putI (ty := .int) C hR hS 9 0 5 (lv0 (by decide) (by decide)) (by decide) (by decide) (fun _ => rfl) fl_X9_125 (by decide) (by decide +kernel) rfl rfl dX9_test_40 (fun H locs hR hS => ?_)
      obtain ⟨u143, eu143⟩ : ∃ z : HS, z = wI u142 9 0 5 ((gI u142 9 0 5) - 1) := ⟨_, rfl⟩
      rw [← eu143] at hR
      replace h := bd_x eu143 h
      clear eu143
      refine lv_aload_n hx hb dX9_test_43 rfl (lv_at hl 0 rfl) ?_
      refine lv_sipush (v := 10033) hx hb dX9_test_44 (by decide) ?_
      obtain ⟨u145, hc144, h⟩ := ob h
      refine r_callV0 (As := [.int 10033]) (rest := []) (r := 9) (i := 0) C (vX9_tells hc144) hR hS (lv0 (by decide) (by decide)) (by decide) ml_X9_189 mw_X9_tells rfl ⟨(show 0 + 1 ≤ fr + 1 by omega), (show 8 + (2 + 11) + 0 ≤ lo + 40 by omega), Nat.le_refl _, Nat.le_refl _⟩ hl.1 rfl (Nat.le_of_ble_eq_true rfl) dX9_test_47 (fun H locs hR hS => ?_)
      cases h
      exact e_vret C hr hR hS (Nat.le_of_ble_eq_true rfl) (Nat.le_of_ble_eq_true rfl) dX9_test_50
  · rw [if_neg c_101] at h
    cases h
    exact e_vret C hr hR hS (Nat.le_of_ble_eq_true rfl) (Nat.le_of_ble_eq_true rfl) dX9_test_7
set_option maxHeartbeats 4000000 in
set_option maxRecDepth 100000 in
theorem vX9_ands_b {l : Launch} {E : EV} {a : Nat → Nat → Nat} {g_unit : HS → Option HS} {g_product : HS → Option HS} {g_sum : HS → Option HS} {g_test : HS → Option HS} {g_ands : HS → Option HS} {g_ors : HS → Option HS} {fr lo : Nat} (hfr : 5 ≤ fr) (hlo : 200 ≤ lo) (hg_unit : ∀ {u : HS} {out : HS}, g_unit u = some out → Ct l E yX9_unit cX9_unit 3 none fr lo 0 0 a u [.ref (a 9 0)] none out) (hg_product : ∀ {u : HS} {out : HS}, g_product u = some out → Ct l E yX9_product cX9_product 2 none fr lo 0 0 a u [.ref (a 9 0)] none out) (hg_sum : ∀ {u : HS} {out : HS}, g_sum u = some out → Ct l E yX9_sum cX9_sum 2 none fr lo 0 0 a u [.ref (a 9 0)] none out) (hg_test : ∀ {u : HS} {out : HS}, g_test u = some out → Ct l E yX9_test cX9_test 2 none fr lo 0 0 a u [.ref (a 9 0)] none out) (hg_ands : ∀ {u : HS} {out : HS}, g_ands u = some out → Ct l E yX9_ands cX9_ands 1 none fr lo 0 0 a u [.ref (a 9 0)] none out) (hg_ors : ∀ {u : HS} {out : HS}, g_ors u = some out → Ct l E yX9_ors cX9_ors 1 none fr lo 0 0 a u [.ref (a 9 0)] none out) {u0 : HS} {out : HS} (h : mX9_ands_b g_unit g_product g_sum g_test g_ands g_ors u0 = some out) : Ct l E yX9_ands cX9_ands 1 none (fr + 1) (lo + 40) 0 0 a u0 [.ref (a 9 0)] none out := by
  refine Ct.start (by decide) (Nat.le_of_ble_eq_true rfl) ?_
  intro p e s m args below meth c ls C hr hR hS hl
  have C : Cx E p s m args meth c cX9_ands 1 RX9 := C
  have hl : lv_has ls 1 [(0, .ref (a 9 0))] := hl
  have hx := C.1
  have hb := C.2.1
  unfold mX9_ands_b at h
  refine lv_aload_n hx hb dX9_ands_0 rfl (lv_at hl 0 rfl) ?_
  obtain ⟨u102, hc101, h⟩ := ob h
  refine r_callV0 (As := []) (rest := []) (r := 9) (i := 0) C (hg_test hc101) hR hS (lv0 (by decide) (by decide)) (by decide) ml_X9_207 mw_X9_test rfl ⟨Nat.le_refl _, (show 8 + (2 + 11) + lo ≤ lo + 40 by omega), Nat.le_refl _, Nat.le_refl _⟩ hl.1 rfl (Nat.le_of_ble_eq_true rfl) dX9_ands_1 (fun H locs hR hS => ?_)
  refine jp_cut h (fun w105 hw105 h => ?_)
  have Kw105 : ∀ (u104 : HS) (H : Heap) (locs : List Loc) (ls : Array Slot), w105 u104 = some out → Rel E a u104 H → va_S (AE E) s.heap H locs → lv_has ls 1 [] → W p l e { frames := fr + 1, cells := 0, slots := 0, locals := lo + 40 } s m args below meth c H locs 0 0 (MQ below (QW E a none out) args s 0 0 (AE E)) (F0 m 36 ls []) := by
    intro u104 H locs ls h hR hS hl
    replace h := jx1 hw105 h
    cases h
    exact e_vret C hr hR hS (Nat.le_of_ble_eq_true rfl) (Nat.le_of_ble_eq_true rfl) dX9_ands_36
  have LP : ∀ (fu : Nat) (u103 : HS) (H : Heap) (locs : List Loc) (ls : Array Slot), mX9_ands_b_L4 g_unit g_product g_sum g_test g_ands g_ors  w105 fu u103 = some out → Rel E a u103 H → va_S (AE E) s.heap H locs → lv_has ls 1 [(0, .ref (a 9 0))] → W p l e { frames := fr + 1, cells := 0, slots := 0, locals := lo + 40 } s m args below meth c H locs 0 0 (MQ below (QW E a none out) args s 0 0 (AE E)) (F0 m 4 ls []) := by
    intro fu
    induction fu with
    | zero =>
      intro u103 H locs ls h
      have h2 : (none : Option HS) = some out := h
      cases h2
    | succ fu ih =>
      intro u103 H locs ls h hR hS hl
      rw [mX9_ands_b_L4.eq_2] at h
      refine lv_aload_n hx hb dX9_ands_4 rfl (lv_at hl 0 rfl) ?_
      refine lv_iconst (v := 1) hx hb dX9_ands_5 (by decide) ?_
      refine lv_bipush (v := 14) hx hb dX9_ands_6 (by decide) ?_
      refine lv_iconst (v := 4) hx hb dX9_ands_8 (by decide) ?_
      refine lv_iconst (v := 0) hx hb dX9_ands_9 (by decide) ?_
      refine lv_iconst (v := 0) hx hb dX9_ands_10 (by decide) ?_
      refine lv_iconst (v := 0) hx hb dX9_ands_11 (by decide) ?_
      obtain ⟨⟨x107, u108⟩, hc106, h⟩ := ob h
      replace h := bd_x (x := x107) rfl h
      replace h := bd_x (x := u108) rfl h
      refine r_callV1 (As := [.int 1, .int 14, .int 4, .int 0, .int 0, .int 0]) (rest := []) (r := 9) (i := 0) C (vX9_isWord hc106) hR hS (lv0 (by decide) (by decide)) (by decide) ml_X9_134 mw_X9_isWord rfl ⟨(show 3 + 1 ≤ fr + 1 by omega), (show 8 + (7 + 11) + 63 ≤ lo + 40 by omega), Nat.le_refl _, Nat.le_refl _⟩ hl.1 rfl (Nat.le_of_ble_eq_true rfl) dX9_ands_12 (fun H locs hR hS => ?_)
      refine lv_if_eq (tgt := 36) hx hb dX9_ands_15 (by decide) (fun c_109 => ?_) (fun c_109 => ?_)
      · rw [if_pos c_109] at h
        exact Kw105 _ _ _ _ h hR hS (lv_sub hl [] rfl)
      · rw [if_neg c_109] at h
        refine lv_aload_n hx hb dX9_ands_18 rfl (lv_at hl 0 rfl) ?_
        obtain ⟨u111, hc110, h⟩ := ob h
        refine r_callV0 (As := []) (rest := []) (r := 9) (i := 0) C (vX9_skipWord hc110) hR hS (lv0 (by decide) (by decide)) (by decide) ml_X9_144 mw_X9_skipWord rfl ⟨(show 1 + 1 ≤ fr + 1 by omega), (show 8 + (1 + 11) + 21 ≤ lo + 40 by omega), Nat.le_refl _, Nat.le_refl _⟩ hl.1 rfl (Nat.le_of_ble_eq_true rfl) dX9_ands_19 (fun H locs hR hS => ?_)
        refine lv_aload_n hx hb dX9_ands_22 rfl (lv_at hl 0 rfl) ?_
        obtain ⟨u113, hc112, h⟩ := ob h
        refine r_callV0 (As := []) (rest := []) (r := 9) (i := 0) C (hg_test hc112) hR hS (lv0 (by decide) (by decide)) (by decide) ml_X9_207 mw_X9_test rfl ⟨Nat.le_refl _, (show 8 + (2 + 11) + lo ≤ lo + 40 by omega), Nat.le_refl _, Nat.le_refl _⟩ hl.1 rfl (Nat.le_of_ble_eq_true rfl) dX9_ands_23 (fun H locs hR hS => ?_)
        refine lv_aload_n hx hb dX9_ands_26 rfl (lv_at hl 0 rfl) ?_
        refine lv_sipush (v := 10034) hx hb dX9_ands_27 (by decide) ?_
        obtain ⟨u115, hc114, h⟩ := ob h
        refine r_callV0 (As := [.int 10034]) (rest := []) (r := 9) (i := 0) C (vX9_tells hc114) hR hS (lv0 (by decide) (by decide)) (by decide) ml_X9_189 mw_X9_tells rfl ⟨(show 0 + 1 ≤ fr + 1 by omega), (show 8 + (2 + 11) + 0 ≤ lo + 40 by omega), Nat.le_refl _, Nat.le_refl _⟩ hl.1 rfl (Nat.le_of_ble_eq_true rfl) dX9_ands_30 (fun H locs hR hS => ?_)
        refine lv_goto (tgt := 4) hx hb dX9_ands_33 (by decide) ?_
        exact ih _ _ _ _ h hR hS (lv_sub hl [0] rfl)
  exact LP FU _ _ _ _ h hR hS (lv_sub hl [0] rfl)
set_option maxHeartbeats 4000000 in
set_option maxRecDepth 100000 in
theorem vX9_ors_b {l : Launch} {E : EV} {a : Nat → Nat → Nat} {g_unit : HS → Option HS} {g_product : HS → Option HS} {g_sum : HS → Option HS} {g_test : HS → Option HS} {g_ands : HS → Option HS} {g_ors : HS → Option HS} {fr lo : Nat} (hfr : 5 ≤ fr) (hlo : 200 ≤ lo) (hg_unit : ∀ {u : HS} {out : HS}, g_unit u = some out → Ct l E yX9_unit cX9_unit 3 none fr lo 0 0 a u [.ref (a 9 0)] none out) (hg_product : ∀ {u : HS} {out : HS}, g_product u = some out → Ct l E yX9_product cX9_product 2 none fr lo 0 0 a u [.ref (a 9 0)] none out) (hg_sum : ∀ {u : HS} {out : HS}, g_sum u = some out → Ct l E yX9_sum cX9_sum 2 none fr lo 0 0 a u [.ref (a 9 0)] none out) (hg_test : ∀ {u : HS} {out : HS}, g_test u = some out → Ct l E yX9_test cX9_test 2 none fr lo 0 0 a u [.ref (a 9 0)] none out) (hg_ands : ∀ {u : HS} {out : HS}, g_ands u = some out → Ct l E yX9_ands cX9_ands 1 none fr lo 0 0 a u [.ref (a 9 0)] none out) (hg_ors : ∀ {u : HS} {out : HS}, g_ors u = some out → Ct l E yX9_ors cX9_ors 1 none fr lo 0 0 a u [.ref (a 9 0)] none out) {u0 : HS} {out : HS} (h : mX9_ors_b g_unit g_product g_sum g_test g_ands g_ors u0 = some out) : Ct l E yX9_ors cX9_ors 1 none (fr + 1) (lo + 40) 0 0 a u0 [.ref (a 9 0)] none out := by
  refine Ct.start (by decide) (Nat.le_of_ble_eq_true rfl) ?_
  intro p e s m args below meth c ls C hr hR hS hl
  have C : Cx E p s m args meth c cX9_ors 1 RX9 := C
  have hl : lv_has ls 1 [(0, .ref (a 9 0))] := hl
  have hx := C.1
  have hb := C.2.1
  unfold mX9_ors_b at h
  refine lv_aload_n hx hb dX9_ors_0 rfl (lv_at hl 0 rfl) ?_
  obtain ⟨u102, hc101, h⟩ := ob h
  refine r_callV0 (As := []) (rest := []) (r := 9) (i := 0) C (hg_ands hc101) hR hS (lv0 (by decide) (by decide)) (by decide) ml_X9_213 mw_X9_ands rfl ⟨Nat.le_refl _, (show 8 + (1 + 11) + lo ≤ lo + 40 by omega), Nat.le_refl _, Nat.le_refl _⟩ hl.1 rfl (Nat.le_of_ble_eq_true rfl) dX9_ors_1 (fun H locs hR hS => ?_)
  refine jp_cut h (fun w105 hw105 h => ?_)
  have Kw105 : ∀ (u104 : HS) (H : Heap) (locs : List Loc) (ls : Array Slot), w105 u104 = some out → Rel E a u104 H → va_S (AE E) s.heap H locs → lv_has ls 1 [] → W p l e { frames := fr + 1, cells := 0, slots := 0, locals := lo + 40 } s m args below meth c H locs 0 0 (MQ below (QW E a none out) args s 0 0 (AE E)) (F0 m 37 ls []) := by
    intro u104 H locs ls h hR hS hl
    replace h := jx1 hw105 h
    cases h
    exact e_vret C hr hR hS (Nat.le_of_ble_eq_true rfl) (Nat.le_of_ble_eq_true rfl) dX9_ors_37
  have LP : ∀ (fu : Nat) (u103 : HS) (H : Heap) (locs : List Loc) (ls : Array Slot), mX9_ors_b_L4 g_unit g_product g_sum g_test g_ands g_ors  w105 fu u103 = some out → Rel E a u103 H → va_S (AE E) s.heap H locs → lv_has ls 1 [(0, .ref (a 9 0))] → W p l e { frames := fr + 1, cells := 0, slots := 0, locals := lo + 40 } s m args below meth c H locs 0 0 (MQ below (QW E a none out) args s 0 0 (AE E)) (F0 m 4 ls []) := by
    intro fu
    induction fu with
    | zero =>
      intro u103 H locs ls h
      have h2 : (none : Option HS) = some out := h
      cases h2
    | succ fu ih =>
      intro u103 H locs ls h hR hS hl
      rw [mX9_ors_b_L4.eq_2] at h
      refine lv_aload_n hx hb dX9_ors_4 rfl (lv_at hl 0 rfl) ?_
      refine lv_bipush (v := 15) hx hb dX9_ors_5 (by decide) ?_
      refine lv_bipush (v := 18) hx hb dX9_ors_7 (by decide) ?_
      refine lv_iconst (v := 0) hx hb dX9_ors_9 (by decide) ?_
      refine lv_iconst (v := 0) hx hb dX9_ors_10 (by decide) ?_
      refine lv_iconst (v := 0) hx hb dX9_ors_11 (by decide) ?_
      refine lv_iconst (v := 0) hx hb dX9_ors_12 (by decide) ?_
      obtain ⟨⟨x107, u108⟩, hc106, h⟩ := ob h
      replace h := bd_x (x := x107) rfl h
      replace h := bd_x (x := u108) rfl h
      refine r_callV1 (As := [.int 15, .int 18, .int 0, .int 0, .int 0, .int 0]) (rest := []) (r := 9) (i := 0) C (vX9_isWord hc106) hR hS (lv0 (by decide) (by decide)) (by decide) ml_X9_134 mw_X9_isWord rfl ⟨(show 3 + 1 ≤ fr + 1 by omega), (show 8 + (7 + 11) + 63 ≤ lo + 40 by omega), Nat.le_refl _, Nat.le_refl _⟩ hl.1 rfl (Nat.le_of_ble_eq_true rfl) dX9_ors_13 (fun H locs hR hS => ?_)
      refine lv_if_eq (tgt := 37) hx hb dX9_ors_16 (by decide) (fun c_109 => ?_) (fun c_109 => ?_)
      · rw [if_pos c_109] at h
        exact Kw105 _ _ _ _ h hR hS (lv_sub hl [] rfl)
      · rw [if_neg c_109] at h
        refine lv_aload_n hx hb dX9_ors_19 rfl (lv_at hl 0 rfl) ?_
        obtain ⟨u111, hc110, h⟩ := ob h
        refine r_callV0 (As := []) (rest := []) (r := 9) (i := 0) C (vX9_skipWord hc110) hR hS (lv0 (by decide) (by decide)) (by decide) ml_X9_144 mw_X9_skipWord rfl ⟨(show 1 + 1 ≤ fr + 1 by omega), (show 8 + (1 + 11) + 21 ≤ lo + 40 by omega), Nat.le_refl _, Nat.le_refl _⟩ hl.1 rfl (Nat.le_of_ble_eq_true rfl) dX9_ors_20 (fun H locs hR hS => ?_)
        refine lv_aload_n hx hb dX9_ors_23 rfl (lv_at hl 0 rfl) ?_
        obtain ⟨u113, hc112, h⟩ := ob h
        refine r_callV0 (As := []) (rest := []) (r := 9) (i := 0) C (hg_ands hc112) hR hS (lv0 (by decide) (by decide)) (by decide) ml_X9_213 mw_X9_ands rfl ⟨Nat.le_refl _, (show 8 + (1 + 11) + lo ≤ lo + 40 by omega), Nat.le_refl _, Nat.le_refl _⟩ hl.1 rfl (Nat.le_of_ble_eq_true rfl) dX9_ors_24 (fun H locs hR hS => ?_)
        refine lv_aload_n hx hb dX9_ors_27 rfl (lv_at hl 0 rfl) ?_
        refine lv_sipush (v := 10035) hx hb dX9_ors_28 (by decide) ?_
        obtain ⟨u115, hc114, h⟩ := ob h
        refine r_callV0 (As := [.int 10035]) (rest := []) (r := 9) (i := 0) C (vX9_tells hc114) hR hS (lv0 (by decide) (by decide)) (by decide) ml_X9_189 mw_X9_tells rfl ⟨(show 0 + 1 ≤ fr + 1 by omega), (show 8 + (2 + 11) + 0 ≤ lo + 40 by omega), Nat.le_refl _, Nat.le_refl _⟩ hl.1 rfl (Nat.le_of_ble_eq_true rfl) dX9_ors_31 (fun H locs hR hS => ?_)
        refine lv_goto (tgt := 4) hx hb dX9_ors_34 (by decide) ?_
        exact ih _ _ _ _ h hR hS (lv_sub hl [0] rfl)
  exact LP FU _ _ _ _ h hR hS (lv_sub hl [0] rfl)
theorem recX9_ok {l : Launch} {E : EV} {a : Nat → Nat → Nat} : ∀ d : Nat, (∀ {u : HS} {out : HS}, recX9 d 0 u = some out → Ct l E yX9_unit cX9_unit 3 none (d + 5) (40 * d + 200) 0 0 a u [.ref (a 9 0)] none out) ∧ (∀ {u : HS} {out : HS}, recX9 d 1 u = some out → Ct l E yX9_product cX9_product 2 none (d + 5) (40 * d + 200) 0 0 a u [.ref (a 9 0)] none out) ∧ (∀ {u : HS} {out : HS}, recX9 d 2 u = some out → Ct l E yX9_sum cX9_sum 2 none (d + 5) (40 * d + 200) 0 0 a u [.ref (a 9 0)] none out) ∧ (∀ {u : HS} {out : HS}, recX9 d 3 u = some out → Ct l E yX9_test cX9_test 2 none (d + 5) (40 * d + 200) 0 0 a u [.ref (a 9 0)] none out) ∧ (∀ {u : HS} {out : HS}, recX9 d 4 u = some out → Ct l E yX9_ands cX9_ands 1 none (d + 5) (40 * d + 200) 0 0 a u [.ref (a 9 0)] none out) ∧ (∀ {u : HS} {out : HS}, recX9 d 5 u = some out → Ct l E yX9_ors cX9_ors 1 none (d + 5) (40 * d + 200) 0 0 a u [.ref (a 9 0)] none out) := by
  intro d
  induction d with
  | zero =>
    refine ⟨?_, ?_, ?_, ?_, ?_, ?_⟩
    · intro u out h; exact absurd h (by unfold recX9; exact fun z => by cases z)
    · intro u out h; exact absurd h (by unfold recX9; exact fun z => by cases z)
    · intro u out h; exact absurd h (by unfold recX9; exact fun z => by cases z)
    · intro u out h; exact absurd h (by unfold recX9; exact fun z => by cases z)
    · intro u out h; exact absurd h (by unfold recX9; exact fun z => by cases z)
    · intro u out h; exact absurd h (by unfold recX9; exact fun z => by cases z)
  | succ d ih =>
    obtain ⟨h0, h1, h2, h3, h4, h5⟩ := ih
    refine ⟨?_, ?_, ?_, ?_, ?_, ?_⟩
    · intro u out h
      have h : mX9_unit_b (recX9 d 0) (recX9 d 1) (recX9 d 2) (recX9 d 3) (recX9 d 4) (recX9 d 5) u = some out := h
      have e1 : d + 1 + 5 = (d + 5) + 1 := by omega
      have e2 : 40 * (d + 1) + 200 = (40 * d + 200) + 40 := by omega
      rw [e1, e2]
      exact vX9_unit_b (by omega) (by omega) h0 h1 h2 h3 h4 h5 h
    · intro u out h
      have h : mX9_product_b (recX9 d 0) (recX9 d 1) (recX9 d 2) (recX9 d 3) (recX9 d 4) (recX9 d 5) u = some out := h
      have e1 : d + 1 + 5 = (d + 5) + 1 := by omega
      have e2 : 40 * (d + 1) + 200 = (40 * d + 200) + 40 := by omega
      rw [e1, e2]
      exact vX9_product_b (by omega) (by omega) h0 h1 h2 h3 h4 h5 h
    · intro u out h
      have h : mX9_sum_b (recX9 d 0) (recX9 d 1) (recX9 d 2) (recX9 d 3) (recX9 d 4) (recX9 d 5) u = some out := h
      have e1 : d + 1 + 5 = (d + 5) + 1 := by omega
      have e2 : 40 * (d + 1) + 200 = (40 * d + 200) + 40 := by omega
      rw [e1, e2]
      exact vX9_sum_b (by omega) (by omega) h0 h1 h2 h3 h4 h5 h
    · intro u out h
      have h : mX9_test_b (recX9 d 0) (recX9 d 1) (recX9 d 2) (recX9 d 3) (recX9 d 4) (recX9 d 5) u = some out := h
      have e1 : d + 1 + 5 = (d + 5) + 1 := by omega
      have e2 : 40 * (d + 1) + 200 = (40 * d + 200) + 40 := by omega
      rw [e1, e2]
      exact vX9_test_b (by omega) (by omega) h0 h1 h2 h3 h4 h5 h
    · intro u out h
      have h : mX9_ands_b (recX9 d 0) (recX9 d 1) (recX9 d 2) (recX9 d 3) (recX9 d 4) (recX9 d 5) u = some out := h
      have e1 : d + 1 + 5 = (d + 5) + 1 := by omega
      have e2 : 40 * (d + 1) + 200 = (40 * d + 200) + 40 := by omega
      rw [e1, e2]
      exact vX9_ands_b (by omega) (by omega) h0 h1 h2 h3 h4 h5 h
    · intro u out h
      have h : mX9_ors_b (recX9 d 0) (recX9 d 1) (recX9 d 2) (recX9 d 3) (recX9 d 4) (recX9 d 5) u = some out := h
      have e1 : d + 1 + 5 = (d + 5) + 1 := by omega
      have e2 : 40 * (d + 1) + 200 = (40 * d + 200) + 40 := by omega
      rw [e1, e2]
      exact vX9_ors_b (by omega) (by omega) h0 h1 h2 h3 h4 h5 h
theorem vX9_unit {l : Launch} {E : EV} {a : Nat → Nat → Nat} {u0 : HS} {out : HS} (h : mX9_unit u0 = some out) : Ct l E yX9_unit cX9_unit 3 none 69 2760 0 0 a u0 [.ref (a 9 0)] none out := (recX9_ok (l := l) (E := E) (a := a) DR).1 h
theorem vX9_product {l : Launch} {E : EV} {a : Nat → Nat → Nat} {u0 : HS} {out : HS} (h : mX9_product u0 = some out) : Ct l E yX9_product cX9_product 2 none 69 2760 0 0 a u0 [.ref (a 9 0)] none out := (recX9_ok (l := l) (E := E) (a := a) DR).2.1 h
theorem vX9_sum {l : Launch} {E : EV} {a : Nat → Nat → Nat} {u0 : HS} {out : HS} (h : mX9_sum u0 = some out) : Ct l E yX9_sum cX9_sum 2 none 69 2760 0 0 a u0 [.ref (a 9 0)] none out := (recX9_ok (l := l) (E := E) (a := a) DR).2.2.1 h
theorem vX9_test {l : Launch} {E : EV} {a : Nat → Nat → Nat} {u0 : HS} {out : HS} (h : mX9_test u0 = some out) : Ct l E yX9_test cX9_test 2 none 69 2760 0 0 a u0 [.ref (a 9 0)] none out := (recX9_ok (l := l) (E := E) (a := a) DR).2.2.2.1 h
theorem vX9_ands {l : Launch} {E : EV} {a : Nat → Nat → Nat} {u0 : HS} {out : HS} (h : mX9_ands u0 = some out) : Ct l E yX9_ands cX9_ands 1 none 69 2760 0 0 a u0 [.ref (a 9 0)] none out := (recX9_ok (l := l) (E := E) (a := a) DR).2.2.2.2.1 h
theorem vX9_ors {l : Launch} {E : EV} {a : Nat → Nat → Nat} {u0 : HS} {out : HS} (h : mX9_ors u0 = some out) : Ct l E yX9_ors cX9_ors 1 none 69 2760 0 0 a u0 [.ref (a 9 0)] none out := (recX9_ok (l := l) (E := E) (a := a) DR).2.2.2.2.2 h
set_option maxHeartbeats 4000000 in
set_option maxRecDepth 100000 in
theorem vX2_readSum_b {l : Launch} {E : EV} {a : Nat → Nat → Nat} {g_readSum : HS → Int32 → Option HS} {g_readProduct : HS → Int32 → Option HS} {g_readUnit : HS → Int32 → Option HS} {g_readEither : HS → Int32 → Option HS} {g_readBoth : HS → Int32 → Option HS} {g_readOne : HS → Int32 → Option HS} {fr lo : Nat} (hfr : 5 ≤ fr) (hlo : 200 ≤ lo) (hg_readSum : ∀ {u : HS} {x1 : Int32} {out : HS}, g_readSum u x1 = some out → Ct l E yX2_readSum cX2_readSum 4 none fr lo 0 0 a u [.ref (a 2 0), .int x1] none out) (hg_readProduct : ∀ {u : HS} {x1 : Int32} {out : HS}, g_readProduct u x1 = some out → Ct l E yX2_readProduct cX2_readProduct 4 none fr lo 0 0 a u [.ref (a 2 0), .int x1] none out) (hg_readUnit : ∀ {u : HS} {x1 : Int32} {out : HS}, g_readUnit u x1 = some out → Ct l E yX2_readUnit cX2_readUnit 4 none fr lo 0 0 a u [.ref (a 2 0), .int x1] none out) (hg_readEither : ∀ {u : HS} {x1 : Int32} {out : HS}, g_readEither u x1 = some out → Ct l E yX2_readEither cX2_readEither 3 none fr lo 0 0 a u [.ref (a 2 0), .int x1] none out) (hg_readBoth : ∀ {u : HS} {x1 : Int32} {out : HS}, g_readBoth u x1 = some out → Ct l E yX2_readBoth cX2_readBoth 3 none fr lo 0 0 a u [.ref (a 2 0), .int x1] none out) (hg_readOne : ∀ {u : HS} {x1 : Int32} {out : HS}, g_readOne u x1 = some out → Ct l E yX2_readOne cX2_readOne 3 none fr lo 0 0 a u [.ref (a 2 0), .int x1] none out) {u0 : HS} {x1 : Int32} {out : HS} (h : mX2_readSum_b g_readSum g_readProduct g_readUnit g_readEither g_readBoth g_readOne u0 x1 = some out) : Ct l E yX2_readSum cX2_readSum 4 none (fr + 1) (lo + 40) 0 0 a u0 [.ref (a 2 0), .int x1] none out := by
  refine Ct.start (by decide) (Nat.le_of_ble_eq_true rfl) ?_
  intro p e s m args below meth c ls C hr hR hS hl
  have C : Cx E p s m args meth c cX2_readSum 4 RX2 := C
  have hl : lv_has ls 4 [(0, .ref (a 2 0)), (1, .int x1)] := hl
  have hx := C.1
  have hb := C.2.1
  unfold mX2_readSum_b at h
  refine lv_aload_n hx hb dX2_readSum_0 rfl (lv_at hl 0 rfl) ?_
  refine lv_iload_n hx hb dX2_readSum_1 rfl (lv_at hl 1 rfl) ?_
  obtain ⟨u102, hc101, h⟩ := ob h
  refine r_callV0 (As := [.int x1]) (rest := []) (r := 2) (i := 0) C (hg_readProduct hc101) hR hS (lv0 (by decide) (by decide)) (by decide) ml_X2_72 mw_X2_readProduct rfl ⟨Nat.le_refl _, (show 8 + (4 + 11) + lo ≤ lo + 40 by omega), Nat.le_refl _, Nat.le_refl _⟩ hl.1 rfl (Nat.le_of_ble_eq_true rfl) dX2_readSum_2 (fun H locs hR hS => ?_)
  refine lv_iconst (v := 0) hx hb dX2_readSum_5 (by decide) ?_
  refine lv_istore_n (lv' := [(2, .int 0), (0, .ref (a 2 0)), (1, .int x1)]) hx hb dX2_readSum_6 rfl hl (by decide) rfl (fun ls hl => ?_)
  refine jp_cut h (fun w106 hw106 h => ?_)
  have Kw106 : ∀ (u105 : HS) (H : Heap) (locs : List Loc) (ls : Array Slot), w106 u105 = some out → Rel E a u105 H → va_S (AE E) s.heap H locs → lv_has ls 4 [] → W p l e { frames := fr + 1, cells := 0, slots := 0, locals := lo + 40 } s m args below meth c H locs 0 0 (MQ below (QW E a none out) args s 0 0 (AE E)) (F0 m 52 ls []) := by
    intro u105 H locs ls h hR hS hl
    replace h := jx1 hw106 h
    cases h
    exact e_vret C hr hR hS (Nat.le_of_ble_eq_true rfl) (Nat.le_of_ble_eq_true rfl) dX2_readSum_52
  have LP : ∀ (fu : Nat) (x103 : Int32) (u104 : HS) (H : Heap) (locs : List Loc) (ls : Array Slot), mX2_readSum_b_L7 g_readSum g_readProduct g_readUnit g_readEither g_readBoth g_readOne x1 w106 fu x103 u104 = some out → Rel E a u104 H → va_S (AE E) s.heap H locs → lv_has ls 4 [(0, .ref (a 2 0)), (1, .int x1), (2, .int x103)] → W p l e { frames := fr + 1, cells := 0, slots := 0, locals := lo + 40 } s m args below meth c H locs 0 0 (MQ below (QW E a none out) args s 0 0 (AE E)) (F0 m 7 ls []) := by
    intro fu
    induction fu with
    | zero =>
      intro x103 u104 H locs ls h
      have h2 : (none : Option HS) = some out := h
      cases h2
    | succ fu ih =>
      intro x103 u104 H locs ls h hR hS hl
      rw [mX2_readSum_b_L7.eq_2] at h
      refine lv_iload_n hx hb dX2_readSum_7 rfl (lv_at hl 2 rfl) ?_
      refine lv_sipush (v := 400) hx hb dX2_readSum_8 (by decide) ?_
      refine lv_icmp_ge (tgt := 52) hx hb dX2_readSum_11 (by decide) (fun c_107 => ?_) (fun c_107 => ?_)
      · rw [if_pos c_107] at h
        exact Kw106 _ _ _ _ h hR hS (lv_sub hl [] rfl)
      · rw [if_neg c_107] at h
        refine lv_aload_n hx hb dX2_readSum_14 rfl (lv_at hl 0 rfl) ?_
        refine r_get C hR 2 0 0 (v := .ref (a 5 0)) (lv0 (by decide) (by decide)) (by decide) (by decide) rfl fl_X2_18 dX2_readSum_15 ?_
        refine r_ldcS (q := ("MiddleUnseen$LawReader", 75, "+-", 12)) C (by decide) dX2_readSum_18 ?_
        obtain ⟨⟨x109, u110⟩, hc108, h⟩ := ob h
        replace h := bd_x (x := x109) rfl h
        replace h := bd_x (x := u110) rfl h
        refine r_callV1 (As := [.ref (eK E 12)]) (rest := []) (r := 5) (i := 0) C (vX5_takeSign (by decide) hc108) hR hS (lv0 (by decide) (by decide)) (by decide) ml_X2_77 mw_X5_takeSign rfl ⟨(show 4 + 1 ≤ fr + 1 by omega), (show 8 + (3 + 11) + 90 ≤ lo + 40 by omega), Nat.le_refl _, Nat.le_refl _⟩ hl.1 rfl (Nat.le_of_ble_eq_true rfl) dX2_readSum_20 (fun H locs hR hS => ?_)
        refine lv_istore_n (lv' := [(3, .int x109), (0, .ref (a 2 0)), (1, .int x1), (2, .int x103)]) hx hb dX2_readSum_23 rfl hl (by decide) rfl (fun ls hl => ?_)
        refine lv_iload_n hx hb dX2_readSum_24 rfl (lv_at hl 0 rfl) ?_
        refine lv_iconst (v := (-1)) hx hb dX2_readSum_25 (by decide) ?_
        refine lv_icmp_ne (tgt := 30) hx hb dX2_readSum_26 (by decide) (fun c_111 => ?_) (fun c_111 => ?_)
        · rw [if_neg c_111] at h
          refine lv_aload_n hx hb dX2_readSum_30 rfl (lv_at hl 1 rfl) ?_
          refine lv_iload_n hx hb dX2_readSum_31 rfl (lv_at hl 2 rfl) ?_
          obtain ⟨u113, hc112, h⟩ := ob h
          refine r_callV0 (As := [.int x1]) (rest := []) (r := 2) (i := 0) C (hg_readProduct hc112) hR hS (lv0 (by decide) (by decide)) (by decide) ml_X2_72 mw_X2_readProduct rfl ⟨Nat.le_refl _, (show 8 + (4 + 11) + lo ≤ lo + 40 by omega), Nat.le_refl _, Nat.le_refl _⟩ hl.1 rfl (Nat.le_of_ble_eq_true rfl) dX2_readSum_32 (fun H locs hR hS => ?_)
          refine lv_aload_n hx hb dX2_readSum_35 rfl (lv_at hl 1 rfl) ?_
          have hd114 := hR.2.2.2.1
          refine r_get C hR 2 0 1 (v := .ref (a 1 (gR u113 0))) (lv0 (by decide) (by decide)) (by decide) (by decide) rfl fl_X2_12 dX2_readSum_36 ?_
          refine lv_bipush (v := (-20)) hx hb dX2_readSum_39 (by decide) ?_
          refine lv_iload_n hx hb dX2_readSum_41 rfl (lv_at hl 0 rfl) ?_
          refine lv_isub hx hb dX2_readSum_42 ?_
          obtain ⟨u116, hc115, h⟩ := ob h
          refine r_callV0 (As := [.int ((-20) - x109)]) (rest := []) (r := 1) (i := (gR u113 0)) C (vX1_emit hd114 hc115) hR hS (lv0 hd114 (by decide)) (by decide) ml_X2_80 mw_X1_emit rfl ⟨(show 0 + 1 ≤ fr + 1 by omega), (show 8 + (2 + 11) + 0 ≤ lo + 40 by omega), Nat.le_refl _, Nat.le_refl _⟩ hl.1 rfl (Nat.le_of_ble_eq_true rfl) dX2_readSum_43 (fun H locs hR hS => ?_)
          obtain ⟨x117, ex117⟩ : ∃ z : Int32, z = x103 + 1 := ⟨_, rfl⟩
          replace h := bd_x ex117 h
          refine lv_iinc (v := x117) (lv' := [(2, .int x117), (3, .int x109), (0, .ref (a 2 0)), (1, .int x1)]) hx hb dX2_readSum_46 hl (k := 3) rfl (by rw [ex117]; rfl) (by decide) rfl (fun ls hl => ?_)
          refine lv_goto (tgt := 7) hx hb dX2_readSum_49 (by decide) ?_
          exact ih _ _ _ _ _ h hR hS (lv_sub hl [2, 3, 0] rfl)
        · rw [if_pos c_111] at h
          cases h
          exact e_vret C hr hR hS (Nat.le_of_ble_eq_true rfl) (Nat.le_of_ble_eq_true rfl) dX2_readSum_29
  exact LP FU _ _ _ _ _ h hR hS (lv_sub hl [1, 2, 0] rfl)
set_option maxHeartbeats 4000000 in
set_option maxRecDepth 100000 in
theorem vX2_readProduct_b {l : Launch} {E : EV} {a : Nat → Nat → Nat} {g_readSum : HS → Int32 → Option HS} {g_readProduct : HS → Int32 → Option HS} {g_readUnit : HS → Int32 → Option HS} {g_readEither : HS → Int32 → Option HS} {g_readBoth : HS → Int32 → Option HS} {g_readOne : HS → Int32 → Option HS} {fr lo : Nat} (hfr : 5 ≤ fr) (hlo : 200 ≤ lo) (hg_readSum : ∀ {u : HS} {x1 : Int32} {out : HS}, g_readSum u x1 = some out → Ct l E yX2_readSum cX2_readSum 4 none fr lo 0 0 a u [.ref (a 2 0), .int x1] none out) (hg_readProduct : ∀ {u : HS} {x1 : Int32} {out : HS}, g_readProduct u x1 = some out → Ct l E yX2_readProduct cX2_readProduct 4 none fr lo 0 0 a u [.ref (a 2 0), .int x1] none out) (hg_readUnit : ∀ {u : HS} {x1 : Int32} {out : HS}, g_readUnit u x1 = some out → Ct l E yX2_readUnit cX2_readUnit 4 none fr lo 0 0 a u [.ref (a 2 0), .int x1] none out) (hg_readEither : ∀ {u : HS} {x1 : Int32} {out : HS}, g_readEither u x1 = some out → Ct l E yX2_readEither cX2_readEither 3 none fr lo 0 0 a u [.ref (a 2 0), .int x1] none out) (hg_readBoth : ∀ {u : HS} {x1 : Int32} {out : HS}, g_readBoth u x1 = some out → Ct l E yX2_readBoth cX2_readBoth 3 none fr lo 0 0 a u [.ref (a 2 0), .int x1] none out) (hg_readOne : ∀ {u : HS} {x1 : Int32} {out : HS}, g_readOne u x1 = some out → Ct l E yX2_readOne cX2_readOne 3 none fr lo 0 0 a u [.ref (a 2 0), .int x1] none out) {u0 : HS} {x1 : Int32} {out : HS} (h : mX2_readProduct_b g_readSum g_readProduct g_readUnit g_readEither g_readBoth g_readOne u0 x1 = some out) : Ct l E yX2_readProduct cX2_readProduct 4 none (fr + 1) (lo + 40) 0 0 a u0 [.ref (a 2 0), .int x1] none out := by
  refine Ct.start (by decide) (Nat.le_of_ble_eq_true rfl) ?_
  intro p e s m args below meth c ls C hr hR hS hl
  have C : Cx E p s m args meth c cX2_readProduct 4 RX2 := C
  have hl : lv_has ls 4 [(0, .ref (a 2 0)), (1, .int x1)] := hl
  have hx := C.1
  have hb := C.2.1
  unfold mX2_readProduct_b at h
  refine lv_aload_n hx hb dX2_readProduct_0 rfl (lv_at hl 0 rfl) ?_
  refine lv_iload_n hx hb dX2_readProduct_1 rfl (lv_at hl 1 rfl) ?_
  obtain ⟨u102, hc101, h⟩ := ob h
  refine r_callV0 (As := [.int x1]) (rest := []) (r := 2) (i := 0) C (hg_readUnit hc101) hR hS (lv0 (by decide) (by decide)) (by decide) ml_X2_83 mw_X2_readUnit rfl ⟨Nat.le_refl _, (show 8 + (4 + 11) + lo ≤ lo + 40 by omega), Nat.le_refl _, Nat.le_refl _⟩ hl.1 rfl (Nat.le_of_ble_eq_true rfl) dX2_readProduct_2 (fun H locs hR hS => ?_)
  refine lv_iconst (v := 0) hx hb dX2_readProduct_5 (by decide) ?_
  refine lv_istore_n (lv' := [(2, .int 0), (0, .ref (a 2 0)), (1, .int x1)]) hx hb dX2_readProduct_6 rfl hl (by decide) rfl (fun ls hl => ?_)
  refine jp_cut h (fun w106 hw106 h => ?_)
  have Kw106 : ∀ (u105 : HS) (H : Heap) (locs : List Loc) (ls : Array Slot), w106 u105 = some out → Rel E a u105 H → va_S (AE E) s.heap H locs → lv_has ls 4 [] → W p l e { frames := fr + 1, cells := 0, slots := 0, locals := lo + 40 } s m args below meth c H locs 0 0 (MQ below (QW E a none out) args s 0 0 (AE E)) (F0 m 52 ls []) := by
    intro u105 H locs ls h hR hS hl
    replace h := jx1 hw106 h
    cases h
    exact e_vret C hr hR hS (Nat.le_of_ble_eq_true rfl) (Nat.le_of_ble_eq_true rfl) dX2_readProduct_52
  have LP : ∀ (fu : Nat) (x103 : Int32) (u104 : HS) (H : Heap) (locs : List Loc) (ls : Array Slot), mX2_readProduct_b_L7 g_readSum g_readProduct g_readUnit g_readEither g_readBoth g_readOne x1 w106 fu x103 u104 = some out → Rel E a u104 H → va_S (AE E) s.heap H locs → lv_has ls 4 [(0, .ref (a 2 0)), (1, .int x1), (2, .int x103)] → W p l e { frames := fr + 1, cells := 0, slots := 0, locals := lo + 40 } s m args below meth c H locs 0 0 (MQ below (QW E a none out) args s 0 0 (AE E)) (F0 m 7 ls []) := by
    intro fu
    induction fu with
    | zero =>
      intro x103 u104 H locs ls h
      have h2 : (none : Option HS) = some out := h
      cases h2
    | succ fu ih =>
      intro x103 u104 H locs ls h hR hS hl
      rw [mX2_readProduct_b_L7.eq_2] at h
      refine lv_iload_n hx hb dX2_readProduct_7 rfl (lv_at hl 2 rfl) ?_
      refine lv_sipush (v := 400) hx hb dX2_readProduct_8 (by decide) ?_
      refine lv_icmp_ge (tgt := 52) hx hb dX2_readProduct_11 (by decide) (fun c_107 => ?_) (fun c_107 => ?_)
      · rw [if_pos c_107] at h
        exact Kw106 _ _ _ _ h hR hS (lv_sub hl [] rfl)
      · rw [if_neg c_107] at h
        refine lv_aload_n hx hb dX2_readProduct_14 rfl (lv_at hl 0 rfl) ?_
        refine r_get C hR 2 0 0 (v := .ref (a 5 0)) (lv0 (by decide) (by decide)) (by decide) (by decide) rfl fl_X2_18 dX2_readProduct_15 ?_
        refine r_ldcS (q := ("MiddleUnseen$LawReader", 86, "*/", 13)) C (by decide) dX2_readProduct_18 ?_
        obtain ⟨⟨x109, u110⟩, hc108, h⟩ := ob h
        replace h := bd_x (x := x109) rfl h
        replace h := bd_x (x := u110) rfl h
        refine r_callV1 (As := [.ref (eK E 13)]) (rest := []) (r := 5) (i := 0) C (vX5_takeSign (by decide) hc108) hR hS (lv0 (by decide) (by decide)) (by decide) ml_X2_77 mw_X5_takeSign rfl ⟨(show 4 + 1 ≤ fr + 1 by omega), (show 8 + (3 + 11) + 90 ≤ lo + 40 by omega), Nat.le_refl _, Nat.le_refl _⟩ hl.1 rfl (Nat.le_of_ble_eq_true rfl) dX2_readProduct_20 (fun H locs hR hS => ?_)
        refine lv_istore_n (lv' := [(3, .int x109), (0, .ref (a 2 0)), (1, .int x1), (2, .int x103)]) hx hb dX2_readProduct_23 rfl hl (by decide) rfl (fun ls hl => ?_)
        refine lv_iload_n hx hb dX2_readProduct_24 rfl (lv_at hl 0 rfl) ?_
        refine lv_iconst (v := (-1)) hx hb dX2_readProduct_25 (by decide) ?_
        refine lv_icmp_ne (tgt := 30) hx hb dX2_readProduct_26 (by decide) (fun c_111 => ?_) (fun c_111 => ?_)
        · rw [if_neg c_111] at h
          refine lv_aload_n hx hb dX2_readProduct_30 rfl (lv_at hl 1 rfl) ?_
          refine lv_iload_n hx hb dX2_readProduct_31 rfl (lv_at hl 2 rfl) ?_
          obtain ⟨u113, hc112, h⟩ := ob h
          refine r_callV0 (As := [.int x1]) (rest := []) (r := 2) (i := 0) C (hg_readUnit hc112) hR hS (lv0 (by decide) (by decide)) (by decide) ml_X2_83 mw_X2_readUnit rfl ⟨Nat.le_refl _, (show 8 + (4 + 11) + lo ≤ lo + 40 by omega), Nat.le_refl _, Nat.le_refl _⟩ hl.1 rfl (Nat.le_of_ble_eq_true rfl) dX2_readProduct_32 (fun H locs hR hS => ?_)
          refine lv_aload_n hx hb dX2_readProduct_35 rfl (lv_at hl 1 rfl) ?_
          have hd114 := hR.2.2.2.1
          refine r_get C hR 2 0 1 (v := .ref (a 1 (gR u113 0))) (lv0 (by decide) (by decide)) (by decide) (by decide) rfl fl_X2_12 dX2_readProduct_36 ?_
          refine lv_bipush (v := (-22)) hx hb dX2_readProduct_39 (by decide) ?_
          refine lv_iload_n hx hb dX2_readProduct_41 rfl (lv_at hl 0 rfl) ?_
          refine lv_isub hx hb dX2_readProduct_42 ?_
          obtain ⟨u116, hc115, h⟩ := ob h
          refine r_callV0 (As := [.int ((-22) - x109)]) (rest := []) (r := 1) (i := (gR u113 0)) C (vX1_emit hd114 hc115) hR hS (lv0 hd114 (by decide)) (by decide) ml_X2_80 mw_X1_emit rfl ⟨(show 0 + 1 ≤ fr + 1 by omega), (show 8 + (2 + 11) + 0 ≤ lo + 40 by omega), Nat.le_refl _, Nat.le_refl _⟩ hl.1 rfl (Nat.le_of_ble_eq_true rfl) dX2_readProduct_43 (fun H locs hR hS => ?_)
          obtain ⟨x117, ex117⟩ : ∃ z : Int32, z = x103 + 1 := ⟨_, rfl⟩
          replace h := bd_x ex117 h
          refine lv_iinc (v := x117) (lv' := [(2, .int x117), (3, .int x109), (0, .ref (a 2 0)), (1, .int x1)]) hx hb dX2_readProduct_46 hl (k := 3) rfl (by rw [ex117]; rfl) (by decide) rfl (fun ls hl => ?_)
          refine lv_goto (tgt := 7) hx hb dX2_readProduct_49 (by decide) ?_
          exact ih _ _ _ _ _ h hR hS (lv_sub hl [2, 3, 0] rfl)
        · rw [if_pos c_111] at h
          cases h
          exact e_vret C hr hR hS (Nat.le_of_ble_eq_true rfl) (Nat.le_of_ble_eq_true rfl) dX2_readProduct_29
  exact LP FU _ _ _ _ _ h hR hS (lv_sub hl [1, 2, 0] rfl)
set_option maxHeartbeats 4000000 in
set_option maxRecDepth 100000 in
theorem vX2_readUnit_b {l : Launch} {E : EV} {a : Nat → Nat → Nat} {g_readSum : HS → Int32 → Option HS} {g_readProduct : HS → Int32 → Option HS} {g_readUnit : HS → Int32 → Option HS} {g_readEither : HS → Int32 → Option HS} {g_readBoth : HS → Int32 → Option HS} {g_readOne : HS → Int32 → Option HS} {fr lo : Nat} (hfr : 5 ≤ fr) (hlo : 200 ≤ lo) (hg_readSum : ∀ {u : HS} {x1 : Int32} {out : HS}, g_readSum u x1 = some out → Ct l E yX2_readSum cX2_readSum 4 none fr lo 0 0 a u [.ref (a 2 0), .int x1] none out) (hg_readProduct : ∀ {u : HS} {x1 : Int32} {out : HS}, g_readProduct u x1 = some out → Ct l E yX2_readProduct cX2_readProduct 4 none fr lo 0 0 a u [.ref (a 2 0), .int x1] none out) (hg_readUnit : ∀ {u : HS} {x1 : Int32} {out : HS}, g_readUnit u x1 = some out → Ct l E yX2_readUnit cX2_readUnit 4 none fr lo 0 0 a u [.ref (a 2 0), .int x1] none out) (hg_readEither : ∀ {u : HS} {x1 : Int32} {out : HS}, g_readEither u x1 = some out → Ct l E yX2_readEither cX2_readEither 3 none fr lo 0 0 a u [.ref (a 2 0), .int x1] none out) (hg_readBoth : ∀ {u : HS} {x1 : Int32} {out : HS}, g_readBoth u x1 = some out → Ct l E yX2_readBoth cX2_readBoth 3 none fr lo 0 0 a u [.ref (a 2 0), .int x1] none out) (hg_readOne : ∀ {u : HS} {x1 : Int32} {out : HS}, g_readOne u x1 = some out → Ct l E yX2_readOne cX2_readOne 3 none fr lo 0 0 a u [.ref (a 2 0), .int x1] none out) {u0 : HS} {x1 : Int32} {out : HS} (h : mX2_readUnit_b g_readSum g_readProduct g_readUnit g_readEither g_readBoth g_readOne u0 x1 = some out) : Ct l E yX2_readUnit cX2_readUnit 4 none (fr + 1) (lo + 40) 0 0 a u0 [.ref (a 2 0), .int x1] none out := by
  refine Ct.start (by decide) (Nat.le_of_ble_eq_true rfl) ?_
  intro p e s m args below meth c ls C hr hR hS hl
  have C : Cx E p s m args meth c cX2_readUnit 4 RX2 := C
  have hl : lv_has ls 4 [(0, .ref (a 2 0)), (1, .int x1)] := hl
  have hx := C.1
  have hb := C.2.1
  unfold mX2_readUnit_b at h
  refine lv_aload_n hx hb dX2_readUnit_0 rfl (lv_at hl 0 rfl) ?_
  refine r_get C hR 2 0 0 (v := .ref (a 5 0)) (lv0 (by decide) (by decide)) (by decide) (by decide) rfl fl_X2_18 dX2_readUnit_1 ?_
  obtain ⟨⟨x102, u103⟩, hc101, h⟩ := ob h
  replace h := bd_x (x := x102) rfl h
  replace h := bd_x (x := u103) rfl h
  refine r_callV1 (As := []) (rest := []) (r := 5) (i := 0) C (vX5_isNumberNext hc101) hR hS (lv0 (by decide) (by decide)) (by decide) ml_X2_88 mw_X5_isNumberNext rfl ⟨(show 1 + 1 ≤ fr + 1 by omega), (show 8 + (1 + 11) + 23 ≤ lo + 40 by omega), Nat.le_refl _, Nat.le_refl _⟩ hl.1 rfl (Nat.le_of_ble_eq_true rfl) dX2_readUnit_4 (fun H locs hR hS => ?_)
  refine lv_if_eq (tgt := 29) hx hb dX2_readUnit_7 (by decide) (fun c_104 => ?_) (fun c_104 => ?_)
  · rw [if_pos c_104] at h
    refine lv_aload_n hx hb dX2_readUnit_29 rfl (lv_at hl 0 rfl) ?_
    refine r_get C hR 2 0 0 (v := .ref (a 5 0)) (lv0 (by decide) (by decide)) (by decide) (by decide) rfl fl_X2_18 dX2_readUnit_30 ?_
    refine r_ldcS (q := ("MiddleUnseen$LawReader", 96, "like drop near size pace full odd watch change knows tenth ", 14)) C (by decide) dX2_readUnit_33 ?_
    obtain ⟨⟨x106, u107⟩, hc105, h⟩ := ob h
    replace h := bd_x (x := x106) rfl h
    replace h := bd_x (x := u107) rfl h
    refine r_callV1 (As := [.ref (eK E 14)]) (rest := []) (r := 5) (i := 0) C (vX5_takeWord (by decide) hc105) hR hS (lv0 (by decide) (by decide)) (by decide) ml_X2_63 mw_X5_takeWord rfl ⟨(show 5 + 1 ≤ fr + 1 by omega), (show 8 + (4 + 11) + 116 ≤ lo + 40 by omega), Nat.le_refl _, Nat.le_refl _⟩ hl.1 rfl (Nat.le_of_ble_eq_true rfl) dX2_readUnit_35 (fun H locs hR hS => ?_)
    refine lv_istore_n (lv' := [(2, .int x106), (0, .ref (a 2 0)), (1, .int x1)]) hx hb dX2_readUnit_38 rfl hl (by decide) rfl (fun ls hl => ?_)
    refine lv_iload_n hx hb dX2_readUnit_39 rfl (lv_at hl 0 rfl) ?_
    refine lv_iconst (v := (-1)) hx hb dX2_readUnit_40 (by decide) ?_
    refine lv_icmp_eq (tgt := 55) hx hb dX2_readUnit_41 (by decide) (fun c_108 => ?_) (fun c_108 => ?_)
    · rw [if_pos c_108] at h
      refine lv_aload_n hx hb dX2_readUnit_55 rfl (lv_at hl 1 rfl) ?_
      refine r_get C hR 2 0 0 (v := .ref (a 5 0)) (lv0 (by decide) (by decide)) (by decide) (by decide) rfl fl_X2_18 dX2_readUnit_56 ?_
      refine r_ldcS (q := ("MiddleUnseen$LawReader", 98, "least most ", 15)) C (by decide) dX2_readUnit_59 ?_
      obtain ⟨⟨x110, u111⟩, hc109, h⟩ := ob h
      replace h := bd_x (x := x110) rfl h
      replace h := bd_x (x := u111) rfl h
      refine r_callV1 (As := [.ref (eK E 15)]) (rest := []) (r := 5) (i := 0) C (vX5_takeWord (by decide) hc109) hR hS (lv0 (by decide) (by decide)) (by decide) ml_X2_63 mw_X5_takeWord rfl ⟨(show 5 + 1 ≤ fr + 1 by omega), (show 8 + (4 + 11) + 116 ≤ lo + 40 by omega), Nat.le_refl _, Nat.le_refl _⟩ hl.1 rfl (Nat.le_of_ble_eq_true rfl) dX2_readUnit_61 (fun H locs hR hS => ?_)
      refine lv_istore_n (lv' := [(3, .int x110), (2, .int x106), (0, .ref (a 2 0)), (1, .int x1)]) hx hb dX2_readUnit_64 rfl hl (by decide) rfl (fun ls hl => ?_)
      refine lv_aload_n hx hb dX2_readUnit_65 rfl (lv_at hl 2 rfl) ?_
      refine r_get C hR 2 0 0 (v := .ref (a 5 0)) (lv0 (by decide) (by decide)) (by decide) (by decide) rfl fl_X2_18 dX2_readUnit_66 ?_
      refine r_ldcS (q := ("MiddleUnseen$LawReader", 100, "(", 1)) C (by decide) dX2_readUnit_69 ?_
      obtain ⟨⟨x113, u114⟩, hc112, h⟩ := ob h
      replace h := bd_x (x := x113) rfl h
      replace h := bd_x (x := u114) rfl h
      refine r_callV1 (As := [.ref (eK E 1)]) (rest := []) (r := 5) (i := 0) C (vX5_demandSign (by decide) hc112) hR hS (lv0 (by decide) (by decide)) (by decide) ml_X2_43 mw_X5_demandSign rfl ⟨(show 5 + 1 ≤ fr + 1 by omega), (show 8 + (3 + 11) + 112 ≤ lo + 40 by omega), Nat.le_refl _, Nat.le_refl _⟩ hl.1 rfl (Nat.le_of_ble_eq_true rfl) dX2_readUnit_71 (fun H locs hR hS => ?_)
      refine lv_iconst (v := (-1)) hx hb dX2_readUnit_74 (by decide) ?_
      refine lv_icmp_eq (tgt := 86) hx hb dX2_readUnit_75 (by decide) (fun c_115 => ?_) (fun c_115 => ?_)
      · rw [if_pos c_115] at h
        cases h
        exact e_vret C hr hR hS (Nat.le_of_ble_eq_true rfl) (Nat.le_of_ble_eq_true rfl) dX2_readUnit_86
      · rw [if_neg c_115] at h
        refine lv_aload_n hx hb dX2_readUnit_78 rfl (lv_at hl 2 rfl) ?_
        refine lv_iload_n hx hb dX2_readUnit_79 rfl (lv_at hl 3 rfl) ?_
        obtain ⟨⟨x117, u118⟩, hc116, h⟩ := ob h
        replace h := bd_x (x := x117) rfl h
        replace h := bd_x (x := u118) rfl h
        refine r_callV1 (As := [.int x1]) (rest := []) (r := 2) (i := 0) C (vX2_isTooDeep hc116) hR hS (lv0 (by decide) (by decide)) (by decide) ml_X2_102 mw_X2_isTooDeep rfl ⟨(show 1 + 1 ≤ fr + 1 by omega), (show 8 + (2 + 11) + 22 ≤ lo + 40 by omega), Nat.le_refl _, Nat.le_refl _⟩ hl.1 rfl (Nat.le_of_ble_eq_true rfl) dX2_readUnit_80 (fun H locs hR hS => ?_)
        refine lv_if_eq (tgt := 87) hx hb dX2_readUnit_83 (by decide) (fun c_119 => ?_) (fun c_119 => ?_)
        · rw [if_pos c_119] at h
          refine lv_aload_n hx hb dX2_readUnit_87 rfl (lv_at hl 2 rfl) ?_
          refine lv_iload_n hx hb dX2_readUnit_88 rfl (lv_at hl 3 rfl) ?_
          refine lv_iconst (v := 1) hx hb dX2_readUnit_89 (by decide) ?_
          refine lv_iadd hx hb dX2_readUnit_90 ?_
          obtain ⟨u121, hc120, h⟩ := ob h
          refine r_callV0 (As := [.int (x1 + 1)]) (rest := []) (r := 2) (i := 0) C (hg_readSum hc120) hR hS (lv0 (by decide) (by decide)) (by decide) ml_X2_54 mw_X2_readSum rfl ⟨Nat.le_refl _, (show 8 + (4 + 11) + lo ≤ lo + 40 by omega), Nat.le_refl _, Nat.le_refl _⟩ hl.1 rfl (Nat.le_of_ble_eq_true rfl) dX2_readUnit_91 (fun H locs hR hS => ?_)
          refine lv_iload_n hx hb dX2_readUnit_94 rfl (lv_at hl 0 rfl) ?_
          refine lv_iconst (v := (-1)) hx hb dX2_readUnit_95 (by decide) ?_
          obtain ⟨u122, hz, h⟩ := ob h
          have Kj123 : ∀ (H : Heap) (locs : List Loc) (ls : Array Slot), Rel E a u122 H → va_S (AE E) s.heap H locs → lv_has ls 4 [(0, .ref (a 2 0))] → W p l e { frames := fr + 1, cells := 0, slots := 0, locals := lo + 40 } s m args below meth c H locs 0 0 (MQ below (QW E a none out) args s 0 0 (AE E)) (F0 m 127 ls []) := by
            intro H locs ls hR hS hl
            clear hz
            refine lv_aload_n hx hb dX2_readUnit_127 rfl (lv_at hl 0 rfl) ?_
            refine r_get C hR 2 0 0 (v := .ref (a 5 0)) (lv0 (by decide) (by decide)) (by decide) (by decide) rfl fl_X2_18 dX2_readUnit_128 ?_
            refine r_ldcS (q := ("MiddleUnseen$LawReader", 108, ")", 3)) C (by decide) dX2_readUnit_131 ?_
            obtain ⟨⟨x125, u126⟩, hc124, h⟩ := ob h
            replace h := bd_x (x := x125) rfl h
            replace h := bd_x (x := u126) rfl h
            refine r_callV1 (As := [.ref (eK E 3)]) (rest := []) (r := 5) (i := 0) C (vX5_demandSign (by decide) hc124) hR hS (lv0 (by decide) (by decide)) (by decide) ml_X2_43 mw_X5_demandSign rfl ⟨(show 5 + 1 ≤ fr + 1 by omega), (show 8 + (3 + 11) + 112 ≤ lo + 40 by omega), Nat.le_refl _, Nat.le_refl _⟩ hl.1 rfl (Nat.le_of_ble_eq_true rfl) dX2_readUnit_133 (fun H locs hR hS => ?_)
            refine lv_pop hx hb dX2_readUnit_136 rfl ?_
            cases h
            exact e_vret C hr hR hS (Nat.le_of_ble_eq_true rfl) (Nat.le_of_ble_eq_true rfl) dX2_readUnit_137
          clear h
          have h := hz
          clear hz
          refine lv_icmp_eq (tgt := 127) hx hb dX2_readUnit_96 (by decide) (fun c_127 => ?_) (fun c_127 => ?_)
          · rw [if_pos c_127] at h
            cases h
            exact Kj123 _ _ _ hR hS (lv_sub hl [2] rfl)
          · rw [if_neg c_127] at h
            refine lv_aload_n hx hb dX2_readUnit_99 rfl (lv_at hl 2 rfl) ?_
            refine r_get C hR 2 0 0 (v := .ref (a 5 0)) (lv0 (by decide) (by decide)) (by decide) (by decide) rfl fl_X2_18 dX2_readUnit_100 ?_
            refine r_ldcS (q := ("MiddleUnseen$LawReader", 106, ",", 2)) C (by decide) dX2_readUnit_103 ?_
            obtain ⟨⟨x129, u130⟩, hc128, h⟩ := ob h
            replace h := bd_x (x := x129) rfl h
            replace h := bd_x (x := u130) rfl h
            refine r_callV1 (As := [.ref (eK E 2)]) (rest := []) (r := 5) (i := 0) C (vX5_demandSign (by decide) hc128) hR hS (lv0 (by decide) (by decide)) (by decide) ml_X2_43 mw_X5_demandSign rfl ⟨(show 5 + 1 ≤ fr + 1 by omega), (show 8 + (3 + 11) + 112 ≤ lo + 40 by omega), Nat.le_refl _, Nat.le_refl _⟩ hl.1 rfl (Nat.le_of_ble_eq_true rfl) dX2_readUnit_105 (fun H locs hR hS => ?_)
            refine lv_pop hx hb dX2_readUnit_108 rfl ?_
            refine lv_aload_n hx hb dX2_readUnit_109 rfl (lv_at hl 2 rfl) ?_
            refine lv_iload_n hx hb dX2_readUnit_110 rfl (lv_at hl 3 rfl) ?_
            refine lv_iconst (v := 1) hx hb dX2_readUnit_111 (by decide) ?_
            refine lv_iadd hx hb dX2_readUnit_112 ?_
            obtain ⟨u132, hc131, h⟩ := ob h
            refine r_callV0 (As := [.int (x1 + 1)]) (rest := []) (r := 2) (i := 0) C (hg_readSum hc131) hR hS (lv0 (by decide) (by decide)) (by decide) ml_X2_54 mw_X2_readSum rfl ⟨Nat.le_refl _, (show 8 + (4 + 11) + lo ≤ lo + 40 by omega), Nat.le_refl _, Nat.le_refl _⟩ hl.1 rfl (Nat.le_of_ble_eq_true rfl) dX2_readUnit_113 (fun H locs hR hS => ?_)
            refine lv_aload_n hx hb dX2_readUnit_116 rfl (lv_at hl 2 rfl) ?_
            have hd133 := hR.2.2.2.1
            refine r_get C hR 2 0 1 (v := .ref (a 1 (gR u132 0))) (lv0 (by decide) (by decide)) (by decide) (by decide) rfl fl_X2_12 dX2_readUnit_117 ?_
            refine lv_bipush (v := (-24)) hx hb dX2_readUnit_120 (by decide) ?_
            refine lv_iload_n hx hb dX2_readUnit_122 rfl (lv_at hl 0 rfl) ?_
            refine lv_isub hx hb dX2_readUnit_123 ?_
            obtain ⟨u135, hc134, h⟩ := ob h
            refine r_callV0 (As := [.int ((-24) - x110)]) (rest := []) (r := 1) (i := (gR u132 0)) C (vX1_emit hd133 hc134) hR hS (lv0 hd133 (by decide)) (by decide) ml_X2_80 mw_X1_emit rfl ⟨(show 0 + 1 ≤ fr + 1 by omega), (show 8 + (2 + 11) + 0 ≤ lo + 40 by omega), Nat.le_refl _, Nat.le_refl _⟩ hl.1 rfl (Nat.le_of_ble_eq_true rfl) dX2_readUnit_124 (fun H locs hR hS => ?_)
            cases h
            exact Kj123 _ _ _ hR hS (lv_sub hl [2] rfl)
        · rw [if_neg c_119] at h
          cases h
          exact e_vret C hr hR hS (Nat.le_of_ble_eq_true rfl) (Nat.le_of_ble_eq_true rfl) dX2_readUnit_86
    · rw [if_neg c_108] at h
      refine lv_aload_n hx hb dX2_readUnit_44 rfl (lv_at hl 1 rfl) ?_
      have hd136 := hR.2.2.2.1
      refine r_get C hR 2 0 1 (v := .ref (a 1 (gR u107 0))) (lv0 (by decide) (by decide)) (by decide) (by decide) rfl fl_X2_12 dX2_readUnit_45 ?_
      refine lv_iconst (v := (-1)) hx hb dX2_readUnit_48 (by decide) ?_
      refine lv_iload_n hx hb dX2_readUnit_49 rfl (lv_at hl 0 rfl) ?_
      refine lv_isub hx hb dX2_readUnit_50 ?_
      obtain ⟨u138, hc137, h⟩ := ob h
      refine r_callV0 (As := [.int ((-1) - x106)]) (rest := []) (r := 1) (i := (gR u107 0)) C (vX1_emit hd136 hc137) hR hS (lv0 hd136 (by decide)) (by decide) ml_X2_80 mw_X1_emit rfl ⟨(show 0 + 1 ≤ fr + 1 by omega), (show 8 + (2 + 11) + 0 ≤ lo + 40 by omega), Nat.le_refl _, Nat.le_refl _⟩ hl.1 rfl (Nat.le_of_ble_eq_true rfl) dX2_readUnit_51 (fun H locs hR hS => ?_)
      cases h
      exact e_vret C hr hR hS (Nat.le_of_ble_eq_true rfl) (Nat.le_of_ble_eq_true rfl) dX2_readUnit_54
  · rw [if_neg c_104] at h
    refine lv_aload_n hx hb dX2_readUnit_10 rfl (lv_at hl 0 rfl) ?_
    have hd139 := hR.2.2.2.1
    refine r_get C hR 2 0 1 (v := .ref (a 1 (gR u103 0))) (lv0 (by decide) (by decide)) (by decide) (by decide) rfl fl_X2_12 dX2_readUnit_11 ?_
    refine lv_aload_n hx hb dX2_readUnit_14 rfl (lv_at hl 0 rfl) ?_
    refine r_get C hR 2 0 0 (v := .ref (a 5 0)) (lv0 (by decide) (by decide)) (by decide) (by decide) rfl fl_X2_18 dX2_readUnit_15 ?_
    refine lv_iconst (v := 0) hx hb dX2_readUnit_18 (by decide) ?_
    refine lv_sipush (v := 9999) hx hb dX2_readUnit_19 (by decide) ?_
    obtain ⟨⟨x141, u142⟩, hc140, h⟩ := ob h
    replace h := bd_x (x := x141) rfl h
    replace h := bd_x (x := u142) rfl h
    refine r_callV1 (As := [.int 0, .int 9999]) (rest := [.ref (a 1 (gR u103 0))]) (r := 5) (i := 0) C (vX5_demandNumber hc140) hR hS (lv0 (by decide) (by decide)) (by decide) ml_X2_92 mw_X5_demandNumber rfl ⟨(show 2 + 1 ≤ fr + 1 by omega), (show 8 + (4 + 11) + 43 ≤ lo + 40 by omega), Nat.le_refl _, Nat.le_refl _⟩ hl.1 rfl (Nat.le_of_ble_eq_true rfl) dX2_readUnit_22 (fun H locs hR hS => ?_)
    obtain ⟨u144, hc143, h⟩ := ob h
    refine r_callV0 (As := [.int x141]) (rest := []) (r := 1) (i := (gR u103 0)) C (vX1_emit hd139 hc143) hR hS (lv0 hd139 (by decide)) (by decide) ml_X2_80 mw_X1_emit rfl ⟨(show 0 + 1 ≤ fr + 1 by omega), (show 8 + (2 + 11) + 0 ≤ lo + 40 by omega), Nat.le_refl _, Nat.le_refl _⟩ hl.1 rfl (Nat.le_of_ble_eq_true rfl) dX2_readUnit_25 (fun H locs hR hS => ?_)
    cases h
    exact e_vret C hr hR hS (Nat.le_of_ble_eq_true rfl) (Nat.le_of_ble_eq_true rfl) dX2_readUnit_28
set_option maxHeartbeats 4000000 in
set_option maxRecDepth 100000 in
theorem vX2_readEither_b {l : Launch} {E : EV} {a : Nat → Nat → Nat} {g_readSum : HS → Int32 → Option HS} {g_readProduct : HS → Int32 → Option HS} {g_readUnit : HS → Int32 → Option HS} {g_readEither : HS → Int32 → Option HS} {g_readBoth : HS → Int32 → Option HS} {g_readOne : HS → Int32 → Option HS} {fr lo : Nat} (hfr : 5 ≤ fr) (hlo : 200 ≤ lo) (hg_readSum : ∀ {u : HS} {x1 : Int32} {out : HS}, g_readSum u x1 = some out → Ct l E yX2_readSum cX2_readSum 4 none fr lo 0 0 a u [.ref (a 2 0), .int x1] none out) (hg_readProduct : ∀ {u : HS} {x1 : Int32} {out : HS}, g_readProduct u x1 = some out → Ct l E yX2_readProduct cX2_readProduct 4 none fr lo 0 0 a u [.ref (a 2 0), .int x1] none out) (hg_readUnit : ∀ {u : HS} {x1 : Int32} {out : HS}, g_readUnit u x1 = some out → Ct l E yX2_readUnit cX2_readUnit 4 none fr lo 0 0 a u [.ref (a 2 0), .int x1] none out) (hg_readEither : ∀ {u : HS} {x1 : Int32} {out : HS}, g_readEither u x1 = some out → Ct l E yX2_readEither cX2_readEither 3 none fr lo 0 0 a u [.ref (a 2 0), .int x1] none out) (hg_readBoth : ∀ {u : HS} {x1 : Int32} {out : HS}, g_readBoth u x1 = some out → Ct l E yX2_readBoth cX2_readBoth 3 none fr lo 0 0 a u [.ref (a 2 0), .int x1] none out) (hg_readOne : ∀ {u : HS} {x1 : Int32} {out : HS}, g_readOne u x1 = some out → Ct l E yX2_readOne cX2_readOne 3 none fr lo 0 0 a u [.ref (a 2 0), .int x1] none out) {u0 : HS} {x1 : Int32} {out : HS} (h : mX2_readEither_b g_readSum g_readProduct g_readUnit g_readEither g_readBoth g_readOne u0 x1 = some out) : Ct l E yX2_readEither cX2_readEither 3 none (fr + 1) (lo + 40) 0 0 a u0 [.ref (a 2 0), .int x1] none out := by
  refine Ct.start (by decide) (Nat.le_of_ble_eq_true rfl) ?_
  intro p e s m args below meth c ls C hr hR hS hl
  have C : Cx E p s m args meth c cX2_readEither 3 RX2 := C
  have hl : lv_has ls 3 [(0, .ref (a 2 0)), (1, .int x1)] := hl
  have hx := C.1
  have hb := C.2.1
  unfold mX2_readEither_b at h
  refine lv_aload_n hx hb dX2_readEither_0 rfl (lv_at hl 0 rfl) ?_
  refine lv_iload_n hx hb dX2_readEither_1 rfl (lv_at hl 1 rfl) ?_
  obtain ⟨u102, hc101, h⟩ := ob h
  refine r_callV0 (As := [.int x1]) (rest := []) (r := 2) (i := 0) C (hg_readBoth hc101) hR hS (lv0 (by decide) (by decide)) (by decide) ml_X2_110 mw_X2_readBoth rfl ⟨Nat.le_refl _, (show 8 + (3 + 11) + lo ≤ lo + 40 by omega), Nat.le_refl _, Nat.le_refl _⟩ hl.1 rfl (Nat.le_of_ble_eq_true rfl) dX2_readEither_2 (fun H locs hR hS => ?_)
  refine lv_iconst (v := 0) hx hb dX2_readEither_5 (by decide) ?_
  refine lv_istore_n (lv' := [(2, .int 0), (0, .ref (a 2 0)), (1, .int x1)]) hx hb dX2_readEither_6 rfl hl (by decide) rfl (fun ls hl => ?_)
  refine jp_cut h (fun w106 hw106 h => ?_)
  have Kw106 : ∀ (u105 : HS) (H : Heap) (locs : List Loc) (ls : Array Slot), w106 u105 = some out → Rel E a u105 H → va_S (AE E) s.heap H locs → lv_has ls 3 [] → W p l e { frames := fr + 1, cells := 0, slots := 0, locals := lo + 40 } s m args below meth c H locs 0 0 (MQ below (QW E a none out) args s 0 0 (AE E)) (F0 m 46 ls []) := by
    intro u105 H locs ls h hR hS hl
    replace h := jx1 hw106 h
    cases h
    exact e_vret C hr hR hS (Nat.le_of_ble_eq_true rfl) (Nat.le_of_ble_eq_true rfl) dX2_readEither_46
  have LP : ∀ (fu : Nat) (x103 : Int32) (u104 : HS) (H : Heap) (locs : List Loc) (ls : Array Slot), mX2_readEither_b_L7 g_readSum g_readProduct g_readUnit g_readEither g_readBoth g_readOne x1 w106 fu x103 u104 = some out → Rel E a u104 H → va_S (AE E) s.heap H locs → lv_has ls 3 [(0, .ref (a 2 0)), (1, .int x1), (2, .int x103)] → W p l e { frames := fr + 1, cells := 0, slots := 0, locals := lo + 40 } s m args below meth c H locs 0 0 (MQ below (QW E a none out) args s 0 0 (AE E)) (F0 m 7 ls []) := by
    intro fu
    induction fu with
    | zero =>
      intro x103 u104 H locs ls h
      have h2 : (none : Option HS) = some out := h
      cases h2
    | succ fu ih =>
      intro x103 u104 H locs ls h hR hS hl
      rw [mX2_readEither_b_L7.eq_2] at h
      refine lv_iload_n hx hb dX2_readEither_7 rfl (lv_at hl 2 rfl) ?_
      refine lv_sipush (v := 400) hx hb dX2_readEither_8 (by decide) ?_
      refine lv_icmp_ge (tgt := 46) hx hb dX2_readEither_11 (by decide) (fun c_107 => ?_) (fun c_107 => ?_)
      · rw [if_pos c_107] at h
        exact Kw106 _ _ _ _ h hR hS (lv_sub hl [] rfl)
      · rw [if_neg c_107] at h
        refine lv_aload_n hx hb dX2_readEither_14 rfl (lv_at hl 0 rfl) ?_
        refine r_get C hR 2 0 0 (v := .ref (a 5 0)) (lv0 (by decide) (by decide)) (by decide) (by decide) rfl fl_X2_18 dX2_readEither_15 ?_
        refine r_ldcS (q := ("MiddleUnseen$LawReader", 113, "or ", 4)) C (by decide) dX2_readEither_18 ?_
        obtain ⟨⟨x109, u110⟩, hc108, h⟩ := ob h
        replace h := bd_x (x := x109) rfl h
        replace h := bd_x (x := u110) rfl h
        refine r_callV1 (As := [.ref (eK E 4)]) (rest := []) (r := 5) (i := 0) C (vX5_takeWord (by decide) hc108) hR hS (lv0 (by decide) (by decide)) (by decide) ml_X2_63 mw_X5_takeWord rfl ⟨(show 5 + 1 ≤ fr + 1 by omega), (show 8 + (4 + 11) + 116 ≤ lo + 40 by omega), Nat.le_refl _, Nat.le_refl _⟩ hl.1 rfl (Nat.le_of_ble_eq_true rfl) dX2_readEither_20 (fun H locs hR hS => ?_)
        refine lv_if_ne (tgt := 46) hx hb dX2_readEither_23 (by decide) (fun c_111 => ?_) (fun c_111 => ?_)
        · rw [if_neg c_111] at h
          exact Kw106 _ _ _ _ h hR hS (lv_sub hl [] rfl)
        · rw [if_pos c_111] at h
          refine lv_aload_n hx hb dX2_readEither_26 rfl (lv_at hl 0 rfl) ?_
          refine lv_iload_n hx hb dX2_readEither_27 rfl (lv_at hl 1 rfl) ?_
          obtain ⟨u113, hc112, h⟩ := ob h
          refine r_callV0 (As := [.int x1]) (rest := []) (r := 2) (i := 0) C (hg_readBoth hc112) hR hS (lv0 (by decide) (by decide)) (by decide) ml_X2_110 mw_X2_readBoth rfl ⟨Nat.le_refl _, (show 8 + (3 + 11) + lo ≤ lo + 40 by omega), Nat.le_refl _, Nat.le_refl _⟩ hl.1 rfl (Nat.le_of_ble_eq_true rfl) dX2_readEither_28 (fun H locs hR hS => ?_)
          refine lv_aload_n hx hb dX2_readEither_31 rfl (lv_at hl 0 rfl) ?_
          have hd114 := hR.2.2.2.1
          refine r_get C hR 2 0 1 (v := .ref (a 1 (gR u113 0))) (lv0 (by decide) (by decide)) (by decide) (by decide) rfl fl_X2_12 dX2_readEither_32 ?_
          refine lv_bipush (v := (-30)) hx hb dX2_readEither_35 (by decide) ?_
          obtain ⟨u116, hc115, h⟩ := ob h
          refine r_callV0 (As := [.int (-30)]) (rest := []) (r := 1) (i := (gR u113 0)) C (vX1_emit hd114 hc115) hR hS (lv0 hd114 (by decide)) (by decide) ml_X2_80 mw_X1_emit rfl ⟨(show 0 + 1 ≤ fr + 1 by omega), (show 8 + (2 + 11) + 0 ≤ lo + 40 by omega), Nat.le_refl _, Nat.le_refl _⟩ hl.1 rfl (Nat.le_of_ble_eq_true rfl) dX2_readEither_37 (fun H locs hR hS => ?_)
          obtain ⟨x117, ex117⟩ : ∃ z : Int32, z = x103 + 1 := ⟨_, rfl⟩
          replace h := bd_x ex117 h
          refine lv_iinc (v := x117) (lv' := [(2, .int x117), (0, .ref (a 2 0)), (1, .int x1)]) hx hb dX2_readEither_40 hl (k := 2) rfl (by rw [ex117]; rfl) (by decide) rfl (fun ls hl => ?_)
          refine lv_goto (tgt := 7) hx hb dX2_readEither_43 (by decide) ?_
          exact ih _ _ _ _ _ h hR hS (lv_sub hl [1, 2, 0] rfl)
  exact LP FU _ _ _ _ _ h hR hS (lv_sub hl [1, 2, 0] rfl)
set_option maxHeartbeats 4000000 in
set_option maxRecDepth 100000 in
theorem vX2_readBoth_b {l : Launch} {E : EV} {a : Nat → Nat → Nat} {g_readSum : HS → Int32 → Option HS} {g_readProduct : HS → Int32 → Option HS} {g_readUnit : HS → Int32 → Option HS} {g_readEither : HS → Int32 → Option HS} {g_readBoth : HS → Int32 → Option HS} {g_readOne : HS → Int32 → Option HS} {fr lo : Nat} (hfr : 5 ≤ fr) (hlo : 200 ≤ lo) (hg_readSum : ∀ {u : HS} {x1 : Int32} {out : HS}, g_readSum u x1 = some out → Ct l E yX2_readSum cX2_readSum 4 none fr lo 0 0 a u [.ref (a 2 0), .int x1] none out) (hg_readProduct : ∀ {u : HS} {x1 : Int32} {out : HS}, g_readProduct u x1 = some out → Ct l E yX2_readProduct cX2_readProduct 4 none fr lo 0 0 a u [.ref (a 2 0), .int x1] none out) (hg_readUnit : ∀ {u : HS} {x1 : Int32} {out : HS}, g_readUnit u x1 = some out → Ct l E yX2_readUnit cX2_readUnit 4 none fr lo 0 0 a u [.ref (a 2 0), .int x1] none out) (hg_readEither : ∀ {u : HS} {x1 : Int32} {out : HS}, g_readEither u x1 = some out → Ct l E yX2_readEither cX2_readEither 3 none fr lo 0 0 a u [.ref (a 2 0), .int x1] none out) (hg_readBoth : ∀ {u : HS} {x1 : Int32} {out : HS}, g_readBoth u x1 = some out → Ct l E yX2_readBoth cX2_readBoth 3 none fr lo 0 0 a u [.ref (a 2 0), .int x1] none out) (hg_readOne : ∀ {u : HS} {x1 : Int32} {out : HS}, g_readOne u x1 = some out → Ct l E yX2_readOne cX2_readOne 3 none fr lo 0 0 a u [.ref (a 2 0), .int x1] none out) {u0 : HS} {x1 : Int32} {out : HS} (h : mX2_readBoth_b g_readSum g_readProduct g_readUnit g_readEither g_readBoth g_readOne u0 x1 = some out) : Ct l E yX2_readBoth cX2_readBoth 3 none (fr + 1) (lo + 40) 0 0 a u0 [.ref (a 2 0), .int x1] none out := by
  refine Ct.start (by decide) (Nat.le_of_ble_eq_true rfl) ?_
  intro p e s m args below meth c ls C hr hR hS hl
  have C : Cx E p s m args meth c cX2_readBoth 3 RX2 := C
  have hl : lv_has ls 3 [(0, .ref (a 2 0)), (1, .int x1)] := hl
  have hx := C.1
  have hb := C.2.1
  unfold mX2_readBoth_b at h
  refine lv_aload_n hx hb dX2_readBoth_0 rfl (lv_at hl 0 rfl) ?_
  refine lv_iload_n hx hb dX2_readBoth_1 rfl (lv_at hl 1 rfl) ?_
  obtain ⟨u102, hc101, h⟩ := ob h
  refine r_callV0 (As := [.int x1]) (rest := []) (r := 2) (i := 0) C (hg_readOne hc101) hR hS (lv0 (by decide) (by decide)) (by decide) ml_X2_115 mw_X2_readOne rfl ⟨Nat.le_refl _, (show 8 + (3 + 11) + lo ≤ lo + 40 by omega), Nat.le_refl _, Nat.le_refl _⟩ hl.1 rfl (Nat.le_of_ble_eq_true rfl) dX2_readBoth_2 (fun H locs hR hS => ?_)
  refine lv_iconst (v := 0) hx hb dX2_readBoth_5 (by decide) ?_
  refine lv_istore_n (lv' := [(2, .int 0), (0, .ref (a 2 0)), (1, .int x1)]) hx hb dX2_readBoth_6 rfl hl (by decide) rfl (fun ls hl => ?_)
  refine jp_cut h (fun w106 hw106 h => ?_)
  have Kw106 : ∀ (u105 : HS) (H : Heap) (locs : List Loc) (ls : Array Slot), w106 u105 = some out → Rel E a u105 H → va_S (AE E) s.heap H locs → lv_has ls 3 [] → W p l e { frames := fr + 1, cells := 0, slots := 0, locals := lo + 40 } s m args below meth c H locs 0 0 (MQ below (QW E a none out) args s 0 0 (AE E)) (F0 m 46 ls []) := by
    intro u105 H locs ls h hR hS hl
    replace h := jx1 hw106 h
    cases h
    exact e_vret C hr hR hS (Nat.le_of_ble_eq_true rfl) (Nat.le_of_ble_eq_true rfl) dX2_readBoth_46
  have LP : ∀ (fu : Nat) (x103 : Int32) (u104 : HS) (H : Heap) (locs : List Loc) (ls : Array Slot), mX2_readBoth_b_L7 g_readSum g_readProduct g_readUnit g_readEither g_readBoth g_readOne x1 w106 fu x103 u104 = some out → Rel E a u104 H → va_S (AE E) s.heap H locs → lv_has ls 3 [(0, .ref (a 2 0)), (1, .int x1), (2, .int x103)] → W p l e { frames := fr + 1, cells := 0, slots := 0, locals := lo + 40 } s m args below meth c H locs 0 0 (MQ below (QW E a none out) args s 0 0 (AE E)) (F0 m 7 ls []) := by
    intro fu
    induction fu with
    | zero =>
      intro x103 u104 H locs ls h
      have h2 : (none : Option HS) = some out := h
      cases h2
    | succ fu ih =>
      intro x103 u104 H locs ls h hR hS hl
      rw [mX2_readBoth_b_L7.eq_2] at h
      refine lv_iload_n hx hb dX2_readBoth_7 rfl (lv_at hl 2 rfl) ?_
      refine lv_sipush (v := 400) hx hb dX2_readBoth_8 (by decide) ?_
      refine lv_icmp_ge (tgt := 46) hx hb dX2_readBoth_11 (by decide) (fun c_107 => ?_) (fun c_107 => ?_)
      · rw [if_pos c_107] at h
        exact Kw106 _ _ _ _ h hR hS (lv_sub hl [] rfl)
      · rw [if_neg c_107] at h
        refine lv_aload_n hx hb dX2_readBoth_14 rfl (lv_at hl 0 rfl) ?_
        refine r_get C hR 2 0 0 (v := .ref (a 5 0)) (lv0 (by decide) (by decide)) (by decide) (by decide) rfl fl_X2_18 dX2_readBoth_15 ?_
        refine r_ldcS (q := ("MiddleUnseen$LawReader", 118, "and ", 5)) C (by decide) dX2_readBoth_18 ?_
        obtain ⟨⟨x109, u110⟩, hc108, h⟩ := ob h
        replace h := bd_x (x := x109) rfl h
        replace h := bd_x (x := u110) rfl h
        refine r_callV1 (As := [.ref (eK E 5)]) (rest := []) (r := 5) (i := 0) C (vX5_takeWord (by decide) hc108) hR hS (lv0 (by decide) (by decide)) (by decide) ml_X2_63 mw_X5_takeWord rfl ⟨(show 5 + 1 ≤ fr + 1 by omega), (show 8 + (4 + 11) + 116 ≤ lo + 40 by omega), Nat.le_refl _, Nat.le_refl _⟩ hl.1 rfl (Nat.le_of_ble_eq_true rfl) dX2_readBoth_20 (fun H locs hR hS => ?_)
        refine lv_if_ne (tgt := 46) hx hb dX2_readBoth_23 (by decide) (fun c_111 => ?_) (fun c_111 => ?_)
        · rw [if_neg c_111] at h
          exact Kw106 _ _ _ _ h hR hS (lv_sub hl [] rfl)
        · rw [if_pos c_111] at h
          refine lv_aload_n hx hb dX2_readBoth_26 rfl (lv_at hl 0 rfl) ?_
          refine lv_iload_n hx hb dX2_readBoth_27 rfl (lv_at hl 1 rfl) ?_
          obtain ⟨u113, hc112, h⟩ := ob h
          refine r_callV0 (As := [.int x1]) (rest := []) (r := 2) (i := 0) C (hg_readOne hc112) hR hS (lv0 (by decide) (by decide)) (by decide) ml_X2_115 mw_X2_readOne rfl ⟨Nat.le_refl _, (show 8 + (3 + 11) + lo ≤ lo + 40 by omega), Nat.le_refl _, Nat.le_refl _⟩ hl.1 rfl (Nat.le_of_ble_eq_true rfl) dX2_readBoth_28 (fun H locs hR hS => ?_)
          refine lv_aload_n hx hb dX2_readBoth_31 rfl (lv_at hl 0 rfl) ?_
          have hd114 := hR.2.2.2.1
          refine r_get C hR 2 0 1 (v := .ref (a 1 (gR u113 0))) (lv0 (by decide) (by decide)) (by decide) (by decide) rfl fl_X2_12 dX2_readBoth_32 ?_
          refine lv_bipush (v := (-29)) hx hb dX2_readBoth_35 (by decide) ?_
          obtain ⟨u116, hc115, h⟩ := ob h
          refine r_callV0 (As := [.int (-29)]) (rest := []) (r := 1) (i := (gR u113 0)) C (vX1_emit hd114 hc115) hR hS (lv0 hd114 (by decide)) (by decide) ml_X2_80 mw_X1_emit rfl ⟨(show 0 + 1 ≤ fr + 1 by omega), (show 8 + (2 + 11) + 0 ≤ lo + 40 by omega), Nat.le_refl _, Nat.le_refl _⟩ hl.1 rfl (Nat.le_of_ble_eq_true rfl) dX2_readBoth_37 (fun H locs hR hS => ?_)
          obtain ⟨x117, ex117⟩ : ∃ z : Int32, z = x103 + 1 := ⟨_, rfl⟩
          replace h := bd_x ex117 h
          refine lv_iinc (v := x117) (lv' := [(2, .int x117), (0, .ref (a 2 0)), (1, .int x1)]) hx hb dX2_readBoth_40 hl (k := 2) rfl (by rw [ex117]; rfl) (by decide) rfl (fun ls hl => ?_)
          refine lv_goto (tgt := 7) hx hb dX2_readBoth_43 (by decide) ?_
          exact ih _ _ _ _ _ h hR hS (lv_sub hl [1, 2, 0] rfl)
  exact LP FU _ _ _ _ _ h hR hS (lv_sub hl [1, 2, 0] rfl)
set_option maxHeartbeats 4000000 in
set_option maxRecDepth 100000 in
theorem vX2_readOne_b {l : Launch} {E : EV} {a : Nat → Nat → Nat} {g_readSum : HS → Int32 → Option HS} {g_readProduct : HS → Int32 → Option HS} {g_readUnit : HS → Int32 → Option HS} {g_readEither : HS → Int32 → Option HS} {g_readBoth : HS → Int32 → Option HS} {g_readOne : HS → Int32 → Option HS} {fr lo : Nat} (hfr : 5 ≤ fr) (hlo : 200 ≤ lo) (hg_readSum : ∀ {u : HS} {x1 : Int32} {out : HS}, g_readSum u x1 = some out → Ct l E yX2_readSum cX2_readSum 4 none fr lo 0 0 a u [.ref (a 2 0), .int x1] none out) (hg_readProduct : ∀ {u : HS} {x1 : Int32} {out : HS}, g_readProduct u x1 = some out → Ct l E yX2_readProduct cX2_readProduct 4 none fr lo 0 0 a u [.ref (a 2 0), .int x1] none out) (hg_readUnit : ∀ {u : HS} {x1 : Int32} {out : HS}, g_readUnit u x1 = some out → Ct l E yX2_readUnit cX2_readUnit 4 none fr lo 0 0 a u [.ref (a 2 0), .int x1] none out) (hg_readEither : ∀ {u : HS} {x1 : Int32} {out : HS}, g_readEither u x1 = some out → Ct l E yX2_readEither cX2_readEither 3 none fr lo 0 0 a u [.ref (a 2 0), .int x1] none out) (hg_readBoth : ∀ {u : HS} {x1 : Int32} {out : HS}, g_readBoth u x1 = some out → Ct l E yX2_readBoth cX2_readBoth 3 none fr lo 0 0 a u [.ref (a 2 0), .int x1] none out) (hg_readOne : ∀ {u : HS} {x1 : Int32} {out : HS}, g_readOne u x1 = some out → Ct l E yX2_readOne cX2_readOne 3 none fr lo 0 0 a u [.ref (a 2 0), .int x1] none out) {u0 : HS} {x1 : Int32} {out : HS} (h : mX2_readOne_b g_readSum g_readProduct g_readUnit g_readEither g_readBoth g_readOne u0 x1 = some out) : Ct l E yX2_readOne cX2_readOne 3 none (fr + 1) (lo + 40) 0 0 a u0 [.ref (a 2 0), .int x1] none out := by
  refine Ct.start (by decide) (Nat.le_of_ble_eq_true rfl) ?_
  intro p e s m args below meth c ls C hr hR hS hl
  have C : Cx E p s m args meth c cX2_readOne 3 RX2 := C
  have hl : lv_has ls 3 [(0, .ref (a 2 0)), (1, .int x1)] := hl
  have hx := C.1
  have hb := C.2.1
  unfold mX2_readOne_b at h
  refine lv_aload_n hx hb dX2_readOne_0 rfl (lv_at hl 0 rfl) ?_
  refine r_get C hR 2 0 0 (v := .ref (a 5 0)) (lv0 (by decide) (by decide)) (by decide) (by decide) rfl fl_X2_18 dX2_readOne_1 ?_
  refine r_ldcS (q := ("MiddleUnseen$LawReader", 120, "not ", 6)) C (by decide) dX2_readOne_4 ?_
  obtain ⟨⟨x102, u103⟩, hc101, h⟩ := ob h
  replace h := bd_x (x := x102) rfl h
  replace h := bd_x (x := u103) rfl h
  refine r_callV1 (As := [.ref (eK E 6)]) (rest := []) (r := 5) (i := 0) C (vX5_takeWord (by decide) hc101) hR hS (lv0 (by decide) (by decide)) (by decide) ml_X2_63 mw_X5_takeWord rfl ⟨(show 5 + 1 ≤ fr + 1 by omega), (show 8 + (4 + 11) + 116 ≤ lo + 40 by omega), Nat.le_refl _, Nat.le_refl _⟩ hl.1 rfl (Nat.le_of_ble_eq_true rfl) dX2_readOne_6 (fun H locs hR hS => ?_)
  refine lv_if_ne (tgt := 39) hx hb dX2_readOne_9 (by decide) (fun c_104 => ?_) (fun c_104 => ?_)
  · rw [if_neg c_104] at h
    refine lv_aload_n hx hb dX2_readOne_39 rfl (lv_at hl 0 rfl) ?_
    refine r_get C hR 2 0 0 (v := .ref (a 5 0)) (lv0 (by decide) (by decide)) (by decide) (by decide) rfl fl_X2_18 dX2_readOne_40 ?_
    refine r_ldcS (q := ("MiddleUnseen$LawReader", 122, "[", 7)) C (by decide) dX2_readOne_43 ?_
    obtain ⟨⟨x106, u107⟩, hc105, h⟩ := ob h
    replace h := bd_x (x := x106) rfl h
    replace h := bd_x (x := u107) rfl h
    refine r_callV1 (As := [.ref (eK E 7)]) (rest := []) (r := 5) (i := 0) C (vX5_takeSign (by decide) hc105) hR hS (lv0 (by decide) (by decide)) (by decide) ml_X2_77 mw_X5_takeSign rfl ⟨(show 4 + 1 ≤ fr + 1 by omega), (show 8 + (3 + 11) + 90 ≤ lo + 40 by omega), Nat.le_refl _, Nat.le_refl _⟩ hl.1 rfl (Nat.le_of_ble_eq_true rfl) dX2_readOne_45 (fun H locs hR hS => ?_)
    refine lv_if_ne (tgt := 79) hx hb dX2_readOne_48 (by decide) (fun c_108 => ?_) (fun c_108 => ?_)
    · rw [if_neg c_108] at h
      refine lv_aload_n hx hb dX2_readOne_79 rfl (lv_at hl 0 rfl) ?_
      refine lv_iload_n hx hb dX2_readOne_80 rfl (lv_at hl 1 rfl) ?_
      obtain ⟨u110, hc109, h⟩ := ob h
      refine r_callV0 (As := [.int x1]) (rest := []) (r := 2) (i := 0) C (hg_readSum hc109) hR hS (lv0 (by decide) (by decide)) (by decide) ml_X2_54 mw_X2_readSum rfl ⟨Nat.le_refl _, (show 8 + (4 + 11) + lo ≤ lo + 40 by omega), Nat.le_refl _, Nat.le_refl _⟩ hl.1 rfl (Nat.le_of_ble_eq_true rfl) dX2_readOne_81 (fun H locs hR hS => ?_)
      refine lv_aload_n hx hb dX2_readOne_84 rfl (lv_at hl 0 rfl) ?_
      refine r_get C hR 2 0 0 (v := .ref (a 5 0)) (lv0 (by decide) (by decide)) (by decide) (by decide) rfl fl_X2_18 dX2_readOne_85 ?_
      refine r_ldcS (q := ("MiddleUnseen$LawReader", 126, "<>=", 9)) C (by decide) dX2_readOne_88 ?_
      obtain ⟨⟨x112, u113⟩, hc111, h⟩ := ob h
      replace h := bd_x (x := x112) rfl h
      replace h := bd_x (x := u113) rfl h
      refine r_callV1 (As := [.ref (eK E 9)]) (rest := []) (r := 5) (i := 0) C (vX5_demandSign (by decide) hc111) hR hS (lv0 (by decide) (by decide)) (by decide) ml_X2_43 mw_X5_demandSign rfl ⟨(show 5 + 1 ≤ fr + 1 by omega), (show 8 + (3 + 11) + 112 ≤ lo + 40 by omega), Nat.le_refl _, Nat.le_refl _⟩ hl.1 rfl (Nat.le_of_ble_eq_true rfl) dX2_readOne_90 (fun H locs hR hS => ?_)
      refine lv_istore_n (lv' := [(2, .int x112), (0, .ref (a 2 0)), (1, .int x1)]) hx hb dX2_readOne_93 rfl hl (by decide) rfl (fun ls hl => ?_)
      refine lv_aload_n hx hb dX2_readOne_94 rfl (lv_at hl 1 rfl) ?_
      refine lv_iload_n hx hb dX2_readOne_95 rfl (lv_at hl 2 rfl) ?_
      obtain ⟨u115, hc114, h⟩ := ob h
      refine r_callV0 (As := [.int x1]) (rest := []) (r := 2) (i := 0) C (hg_readSum hc114) hR hS (lv0 (by decide) (by decide)) (by decide) ml_X2_54 mw_X2_readSum rfl ⟨Nat.le_refl _, (show 8 + (4 + 11) + lo ≤ lo + 40 by omega), Nat.le_refl _, Nat.le_refl _⟩ hl.1 rfl (Nat.le_of_ble_eq_true rfl) dX2_readOne_96 (fun H locs hR hS => ?_)
      refine lv_aload_n hx hb dX2_readOne_99 rfl (lv_at hl 1 rfl) ?_
      have hd116 := hR.2.2.2.1
      refine r_get C hR 2 0 1 (v := .ref (a 1 (gR u115 0))) (lv0 (by decide) (by decide)) (by decide) (by decide) rfl fl_X2_12 dX2_readOne_100 ?_
      refine lv_bipush (v := (-26)) hx hb dX2_readOne_103 (by decide) ?_
      refine lv_iconst (v := 0) hx hb dX2_readOne_105 (by decide) ?_
      refine lv_iload_n hx hb dX2_readOne_106 rfl (lv_at hl 0 rfl) ?_
      refine r_max C hl.1 ml_X2_128 (show 1 ≤ fr + 1 by omega) (show 2 + 13 ≤ lo + 40 by omega) (Nat.le_of_ble_eq_true rfl) (Nat.le_of_ble_eq_true rfl) dX2_readOne_107 ?_
      refine lv_topi (fun x117 ex117 => ?_)
      replace h := bd_x ex117 h
      refine lv_isub hx hb dX2_readOne_110 ?_
      obtain ⟨u119, hc118, h⟩ := ob h
      refine r_callV0 (As := [.int ((-26) - x117)]) (rest := []) (r := 1) (i := (gR u115 0)) C (vX1_emit hd116 hc118) hR hS (lv0 hd116 (by decide)) (by decide) ml_X2_80 mw_X1_emit rfl ⟨(show 0 + 1 ≤ fr + 1 by omega), (show 8 + (2 + 11) + 0 ≤ lo + 40 by omega), Nat.le_refl _, Nat.le_refl _⟩ hl.1 rfl (Nat.le_of_ble_eq_true rfl) dX2_readOne_111 (fun H locs hR hS => ?_)
      cases h
      exact e_vret C hr hR hS (Nat.le_of_ble_eq_true rfl) (Nat.le_of_ble_eq_true rfl) dX2_readOne_114
    · rw [if_pos c_108] at h
      refine lv_aload_n hx hb dX2_readOne_51 rfl (lv_at hl 0 rfl) ?_
      refine lv_iload_n hx hb dX2_readOne_52 rfl (lv_at hl 1 rfl) ?_
      obtain ⟨⟨x121, u122⟩, hc120, h⟩ := ob h
      replace h := bd_x (x := x121) rfl h
      replace h := bd_x (x := u122) rfl h
      refine r_callV1 (As := [.int x1]) (rest := []) (r := 2) (i := 0) C (vX2_isTooDeep hc120) hR hS (lv0 (by decide) (by decide)) (by decide) ml_X2_102 mw_X2_isTooDeep rfl ⟨(show 1 + 1 ≤ fr + 1 by omega), (show 8 + (2 + 11) + 22 ≤ lo + 40 by omega), Nat.le_refl _, Nat.le_refl _⟩ hl.1 rfl (Nat.le_of_ble_eq_true rfl) dX2_readOne_53 (fun H locs hR hS => ?_)
      refine lv_if_ne (tgt := 114) hx hb dX2_readOne_56 (by decide) (fun c_123 => ?_) (fun c_123 => ?_)
      · rw [if_neg c_123] at h
        cases h
        exact e_vret C hr hR hS (Nat.le_of_ble_eq_true rfl) (Nat.le_of_ble_eq_true rfl) dX2_readOne_114
      · rw [if_pos c_123] at h
        refine lv_aload_n hx hb dX2_readOne_59 rfl (lv_at hl 0 rfl) ?_
        refine lv_iload_n hx hb dX2_readOne_60 rfl (lv_at hl 1 rfl) ?_
        refine lv_iconst (v := 1) hx hb dX2_readOne_61 (by decide) ?_
        refine lv_iadd hx hb dX2_readOne_62 ?_
        obtain ⟨u125, hc124, h⟩ := ob h
        refine r_callV0 (As := [.int (x1 + 1)]) (rest := []) (r := 2) (i := 0) C (hg_readEither hc124) hR hS (lv0 (by decide) (by decide)) (by decide) ml_X2_66 mw_X2_readEither rfl ⟨Nat.le_refl _, (show 8 + (3 + 11) + lo ≤ lo + 40 by omega), Nat.le_refl _, Nat.le_refl _⟩ hl.1 rfl (Nat.le_of_ble_eq_true rfl) dX2_readOne_63 (fun H locs hR hS => ?_)
        refine lv_aload_n hx hb dX2_readOne_66 rfl (lv_at hl 0 rfl) ?_
        refine r_get C hR 2 0 0 (v := .ref (a 5 0)) (lv0 (by decide) (by decide)) (by decide) (by decide) rfl fl_X2_18 dX2_readOne_67 ?_
        refine r_ldcS (q := ("MiddleUnseen$LawReader", 124, "]", 8)) C (by decide) dX2_readOne_70 ?_
        obtain ⟨⟨x127, u128⟩, hc126, h⟩ := ob h
        replace h := bd_x (x := x127) rfl h
        replace h := bd_x (x := u128) rfl h
        refine r_callV1 (As := [.ref (eK E 8)]) (rest := []) (r := 5) (i := 0) C (vX5_demandSign (by decide) hc126) hR hS (lv0 (by decide) (by decide)) (by decide) ml_X2_43 mw_X5_demandSign rfl ⟨(show 5 + 1 ≤ fr + 1 by omega), (show 8 + (3 + 11) + 112 ≤ lo + 40 by omega), Nat.le_refl _, Nat.le_refl _⟩ hl.1 rfl (Nat.le_of_ble_eq_true rfl) dX2_readOne_72 (fun H locs hR hS => ?_)
        refine lv_pop hx hb dX2_readOne_75 rfl ?_
        refine lv_goto (tgt := 114) hx hb dX2_readOne_76 (by decide) ?_
        cases h
        exact e_vret C hr hR hS (Nat.le_of_ble_eq_true rfl) (Nat.le_of_ble_eq_true rfl) dX2_readOne_114
  · rw [if_pos c_104] at h
    refine lv_aload_n hx hb dX2_readOne_12 rfl (lv_at hl 0 rfl) ?_
    refine lv_iload_n hx hb dX2_readOne_13 rfl (lv_at hl 1 rfl) ?_
    obtain ⟨⟨x130, u131⟩, hc129, h⟩ := ob h
    replace h := bd_x (x := x130) rfl h
    replace h := bd_x (x := u131) rfl h
    refine r_callV1 (As := [.int x1]) (rest := []) (r := 2) (i := 0) C (vX2_isTooDeep hc129) hR hS (lv0 (by decide) (by decide)) (by decide) ml_X2_102 mw_X2_isTooDeep rfl ⟨(show 1 + 1 ≤ fr + 1 by omega), (show 8 + (2 + 11) + 22 ≤ lo + 40 by omega), Nat.le_refl _, Nat.le_refl _⟩ hl.1 rfl (Nat.le_of_ble_eq_true rfl) dX2_readOne_14 (fun H locs hR hS => ?_)
    refine lv_if_ne (tgt := 114) hx hb dX2_readOne_17 (by decide) (fun c_132 => ?_) (fun c_132 => ?_)
    · rw [if_neg c_132] at h
      cases h
      exact e_vret C hr hR hS (Nat.le_of_ble_eq_true rfl) (Nat.le_of_ble_eq_true rfl) dX2_readOne_114
    · rw [if_pos c_132] at h
      refine lv_aload_n hx hb dX2_readOne_20 rfl (lv_at hl 0 rfl) ?_
      refine lv_iload_n hx hb dX2_readOne_21 rfl (lv_at hl 1 rfl) ?_
      refine lv_iconst (v := 1) hx hb dX2_readOne_22 (by decide) ?_
      refine lv_iadd hx hb dX2_readOne_23 ?_
      obtain ⟨u134, hc133, h⟩ := ob h
      refine r_callV0 (As := [.int (x1 + 1)]) (rest := []) (r := 2) (i := 0) C (hg_readOne hc133) hR hS (lv0 (by decide) (by decide)) (by decide) ml_X2_115 mw_X2_readOne rfl ⟨Nat.le_refl _, (show 8 + (3 + 11) + lo ≤ lo + 40 by omega), Nat.le_refl _, Nat.le_refl _⟩ hl.1 rfl (Nat.le_of_ble_eq_true rfl) dX2_readOne_24 (fun H locs hR hS => ?_)
      refine lv_aload_n hx hb dX2_readOne_27 rfl (lv_at hl 0 rfl) ?_
      have hd135 := hR.2.2.2.1
      refine r_get C hR 2 0 1 (v := .ref (a 1 (gR u134 0))) (lv0 (by decide) (by decide)) (by decide) (by decide) rfl fl_X2_12 dX2_readOne_28 ?_
      refine lv_bipush (v := (-31)) hx hb dX2_readOne_31 (by decide) ?_
      obtain ⟨u137, hc136, h⟩ := ob h
      refine r_callV0 (As := [.int (-31)]) (rest := []) (r := 1) (i := (gR u134 0)) C (vX1_emit hd135 hc136) hR hS (lv0 hd135 (by decide)) (by decide) ml_X2_80 mw_X1_emit rfl ⟨(show 0 + 1 ≤ fr + 1 by omega), (show 8 + (2 + 11) + 0 ≤ lo + 40 by omega), Nat.le_refl _, Nat.le_refl _⟩ hl.1 rfl (Nat.le_of_ble_eq_true rfl) dX2_readOne_33 (fun H locs hR hS => ?_)
      refine lv_goto (tgt := 114) hx hb dX2_readOne_36 (by decide) ?_
      cases h
      exact e_vret C hr hR hS (Nat.le_of_ble_eq_true rfl) (Nat.le_of_ble_eq_true rfl) dX2_readOne_114
theorem recX2_ok {l : Launch} {E : EV} {a : Nat → Nat → Nat} : ∀ d : Nat, (∀ {u : HS} {x1 : Int32} {out : HS}, recX2 d 0 u x1 = some out → Ct l E yX2_readSum cX2_readSum 4 none (d + 5) (40 * d + 200) 0 0 a u [.ref (a 2 0), .int x1] none out) ∧ (∀ {u : HS} {x1 : Int32} {out : HS}, recX2 d 1 u x1 = some out → Ct l E yX2_readProduct cX2_readProduct 4 none (d + 5) (40 * d + 200) 0 0 a u [.ref (a 2 0), .int x1] none out) ∧ (∀ {u : HS} {x1 : Int32} {out : HS}, recX2 d 2 u x1 = some out → Ct l E yX2_readUnit cX2_readUnit 4 none (d + 5) (40 * d + 200) 0 0 a u [.ref (a 2 0), .int x1] none out) ∧ (∀ {u : HS} {x1 : Int32} {out : HS}, recX2 d 3 u x1 = some out → Ct l E yX2_readEither cX2_readEither 3 none (d + 5) (40 * d + 200) 0 0 a u [.ref (a 2 0), .int x1] none out) ∧ (∀ {u : HS} {x1 : Int32} {out : HS}, recX2 d 4 u x1 = some out → Ct l E yX2_readBoth cX2_readBoth 3 none (d + 5) (40 * d + 200) 0 0 a u [.ref (a 2 0), .int x1] none out) ∧ (∀ {u : HS} {x1 : Int32} {out : HS}, recX2 d 5 u x1 = some out → Ct l E yX2_readOne cX2_readOne 3 none (d + 5) (40 * d + 200) 0 0 a u [.ref (a 2 0), .int x1] none out) := by
  intro d
  induction d with
  | zero =>
    refine ⟨?_, ?_, ?_, ?_, ?_, ?_⟩
    · intro u x1 out h; exact absurd h (by unfold recX2; exact fun z => by cases z)
    · intro u x1 out h; exact absurd h (by unfold recX2; exact fun z => by cases z)
    · intro u x1 out h; exact absurd h (by unfold recX2; exact fun z => by cases z)
    · intro u x1 out h; exact absurd h (by unfold recX2; exact fun z => by cases z)
    · intro u x1 out h; exact absurd h (by unfold recX2; exact fun z => by cases z)
    · intro u x1 out h; exact absurd h (by unfold recX2; exact fun z => by cases z)
  | succ d ih =>
    obtain ⟨h0, h1, h2, h3, h4, h5⟩ := ih
    refine ⟨?_, ?_, ?_, ?_, ?_, ?_⟩
    · intro u x1 out h
      have h : mX2_readSum_b (recX2 d 0) (recX2 d 1) (recX2 d 2) (recX2 d 3) (recX2 d 4) (recX2 d 5) u x1 = some out := h
      have e1 : d + 1 + 5 = (d + 5) + 1 := by omega
      have e2 : 40 * (d + 1) + 200 = (40 * d + 200) + 40 := by omega
      rw [e1, e2]
      exact vX2_readSum_b (by omega) (by omega) h0 h1 h2 h3 h4 h5 h
    · intro u x1 out h
      have h : mX2_readProduct_b (recX2 d 0) (recX2 d 1) (recX2 d 2) (recX2 d 3) (recX2 d 4) (recX2 d 5) u x1 = some out := h
      have e1 : d + 1 + 5 = (d + 5) + 1 := by omega
      have e2 : 40 * (d + 1) + 200 = (40 * d + 200) + 40 := by omega
      rw [e1, e2]
      exact vX2_readProduct_b (by omega) (by omega) h0 h1 h2 h3 h4 h5 h
    · intro u x1 out h
      have h : mX2_readUnit_b (recX2 d 0) (recX2 d 1) (recX2 d 2) (recX2 d 3) (recX2 d 4) (recX2 d 5) u x1 = some out := h
      have e1 : d + 1 + 5 = (d + 5) + 1 := by omega
      have e2 : 40 * (d + 1) + 200 = (40 * d + 200) + 40 := by omega
      rw [e1, e2]
      exact vX2_readUnit_b (by omega) (by omega) h0 h1 h2 h3 h4 h5 h
    · intro u x1 out h
      have h : mX2_readEither_b (recX2 d 0) (recX2 d 1) (recX2 d 2) (recX2 d 3) (recX2 d 4) (recX2 d 5) u x1 = some out := h
      have e1 : d + 1 + 5 = (d + 5) + 1 := by omega
      have e2 : 40 * (d + 1) + 200 = (40 * d + 200) + 40 := by omega
      rw [e1, e2]
      exact vX2_readEither_b (by omega) (by omega) h0 h1 h2 h3 h4 h5 h
    · intro u x1 out h
      have h : mX2_readBoth_b (recX2 d 0) (recX2 d 1) (recX2 d 2) (recX2 d 3) (recX2 d 4) (recX2 d 5) u x1 = some out := h
      have e1 : d + 1 + 5 = (d + 5) + 1 := by omega
      have e2 : 40 * (d + 1) + 200 = (40 * d + 200) + 40 := by omega
      rw [e1, e2]
      exact vX2_readBoth_b (by omega) (by omega) h0 h1 h2 h3 h4 h5 h
    · intro u x1 out h
      have h : mX2_readOne_b (recX2 d 0) (recX2 d 1) (recX2 d 2) (recX2 d 3) (recX2 d 4) (recX2 d 5) u x1 = some out := h
      have e1 : d + 1 + 5 = (d + 5) + 1 := by omega
      have e2 : 40 * (d + 1) + 200 = (40 * d + 200) + 40 := by omega
      rw [e1, e2]
      exact vX2_readOne_b (by omega) (by omega) h0 h1 h2 h3 h4 h5 h
theorem vX2_readSum {l : Launch} {E : EV} {a : Nat → Nat → Nat} {u0 : HS} {x1 : Int32} {out : HS} (h : mX2_readSum u0 x1 = some out) : Ct l E yX2_readSum cX2_readSum 4 none 69 2760 0 0 a u0 [.ref (a 2 0), .int x1] none out := (recX2_ok (l := l) (E := E) (a := a) DR).1 h
theorem vX2_readProduct {l : Launch} {E : EV} {a : Nat → Nat → Nat} {u0 : HS} {x1 : Int32} {out : HS} (h : mX2_readProduct u0 x1 = some out) : Ct l E yX2_readProduct cX2_readProduct 4 none 69 2760 0 0 a u0 [.ref (a 2 0), .int x1] none out := (recX2_ok (l := l) (E := E) (a := a) DR).2.1 h
theorem vX2_readUnit {l : Launch} {E : EV} {a : Nat → Nat → Nat} {u0 : HS} {x1 : Int32} {out : HS} (h : mX2_readUnit u0 x1 = some out) : Ct l E yX2_readUnit cX2_readUnit 4 none 69 2760 0 0 a u0 [.ref (a 2 0), .int x1] none out := (recX2_ok (l := l) (E := E) (a := a) DR).2.2.1 h
theorem vX2_readEither {l : Launch} {E : EV} {a : Nat → Nat → Nat} {u0 : HS} {x1 : Int32} {out : HS} (h : mX2_readEither u0 x1 = some out) : Ct l E yX2_readEither cX2_readEither 3 none 69 2760 0 0 a u0 [.ref (a 2 0), .int x1] none out := (recX2_ok (l := l) (E := E) (a := a) DR).2.2.2.1 h
theorem vX2_readBoth {l : Launch} {E : EV} {a : Nat → Nat → Nat} {u0 : HS} {x1 : Int32} {out : HS} (h : mX2_readBoth u0 x1 = some out) : Ct l E yX2_readBoth cX2_readBoth 3 none 69 2760 0 0 a u0 [.ref (a 2 0), .int x1] none out := (recX2_ok (l := l) (E := E) (a := a) DR).2.2.2.2.1 h
theorem vX2_readOne {l : Launch} {E : EV} {a : Nat → Nat → Nat} {u0 : HS} {x1 : Int32} {out : HS} (h : mX2_readOne u0 x1 = some out) : Ct l E yX2_readOne cX2_readOne 3 none 69 2760 0 0 a u0 [.ref (a 2 0), .int x1] none out := (recX2_ok (l := l) (E := E) (a := a) DR).2.2.2.2.2 h
set_option maxHeartbeats 4000000 in
set_option maxRecDepth 100000 in
theorem vX2_readClause {l : Launch} {E : EV} {a : Nat → Nat → Nat} {u0 : HS} {x1 : Int32} {x2 : Int32} {out : HS} (h : mX2_readClause u0 x1 x2 = some out) : Ct l E yX2_readClause cX2_readClause 3 none 70 2783 0 0 a u0 [.ref (a 2 0), .int x1, .int x2] none out := by
  refine Ct.start (by decide) (Nat.le_of_ble_eq_true rfl) ?_
  intro p e s m args below meth c ls C hr hR hS hl
  have C : Cx E p s m args meth c cX2_readClause 3 RX2 := C
  have hl : lv_has ls 3 [(0, .ref (a 2 0)), (1, .int x1), (2, .int x2)] := hl
  have hx := C.1
  have hb := C.2.1
  unfold mX2_readClause at h
  refine lv_aload_n hx hb dX2_readClause_0 rfl (lv_at hl 0 rfl) ?_
  have hd101 := hR.2.2.2.1
  refine r_get C hR 2 0 1 (v := .ref (a 1 (gR u0 0))) (lv0 (by decide) (by decide)) (by decide) (by decide) rfl fl_X2_12 dX2_readClause_1 ?_
  refine r_get C hR 1 (gR u0 0) 3 (v := .ref (a 33 (gR u0 0))) (lv0 hd101 (by decide)) (by decide) (by decide) rfl fl_X2_47 dX2_readClause_4 ?_
  refine lv_iload_n hx hb dX2_readClause_7 rfl (lv_at hl 2 rfl) ?_
  refine lv_iload_n hx hb dX2_readClause_8 rfl (lv_at hl 1 rfl) ?_
  obtain ⟨k102, hk102, h⟩ := ob h
  refine r_ast C hR hS 33 (gR u0 0) (lv0 hd101 (by decide)) (by decide) rfl (fun _ _ => rfl) rfl hk102 dX2_readClause_9 (fun H locs hR hS => ?_)
  obtain ⟨u103, eu103⟩ : ∃ z : HS, z = wI u0 33 (gR u0 0) k102 x1 := ⟨_, rfl⟩
  rw [← eu103] at hR
  replace h := bd_x eu103 h
  clear eu103
  refine lv_aload_n hx hb dX2_readClause_10 rfl (lv_at hl 0 rfl) ?_
  have hd104 := hR.2.2.2.1
  refine r_get C hR 2 0 1 (v := .ref (a 1 (gR u103 0))) (lv0 (by decide) (by decide)) (by decide) (by decide) rfl fl_X2_12 dX2_readClause_11 ?_
  refine r_get C hR 1 (gR u103 0) 4 (v := .ref (a 34 (gR u103 0))) (lv0 hd104 (by decide)) (by decide) (by decide) rfl fl_X2_51 dX2_readClause_14 ?_
  refine lv_iload_n hx hb dX2_readClause_17 rfl (lv_at hl 2 rfl) ?_
  refine lv_aload_n hx hb dX2_readClause_18 rfl (lv_at hl 0 rfl) ?_
  have hd105 := hR.2.2.2.1
  refine r_get C hR 2 0 1 (v := .ref (a 1 (gR u103 0))) (lv0 (by decide) (by decide)) (by decide) (by decide) rfl fl_X2_12 dX2_readClause_19 ?_
  refine r_get C hR 1 (gR u103 0) 1 (v := .int (gI u103 1 (gR u103 0) 1)) (lv0 hd105 (by decide)) (by decide) (by decide) rfl fl_X2_22 dX2_readClause_22 ?_
  obtain ⟨k106, hk106, h⟩ := ob h
  refine r_ast C hR hS 34 (gR u103 0) (lv0 hd104 (by decide)) (by decide) rfl (fun _ _ => rfl) rfl hk106 dX2_readClause_25 (fun H locs hR hS => ?_)
  obtain ⟨u107, eu107⟩ : ∃ z : HS, z = wI u103 34 (gR u103 0) k106 (gI u103 1 (gR u103 0) 1) := ⟨_, rfl⟩
  rw [← eu107] at hR
  replace h := bd_x eu107 h
  clear eu107
  refine lv_aload_n hx hb dX2_readClause_26 rfl (lv_at hl 0 rfl) ?_
  refine lv_iconst (v := 0) hx hb dX2_readClause_27 (by decide) ?_
  obtain ⟨u109, hc108, h⟩ := ob h
  refine r_callV0 (As := [.int 0]) (rest := []) (r := 2) (i := 0) C (vX2_readSum hc108) hR hS (lv0 (by decide) (by decide)) (by decide) ml_X2_54 mw_X2_readSum rfl ⟨Nat.le_of_ble_eq_true rfl, Nat.le_of_ble_eq_true rfl, Nat.le_of_ble_eq_true rfl, Nat.le_of_ble_eq_true rfl⟩ hl.1 rfl (Nat.le_of_ble_eq_true rfl) dX2_readClause_28 (fun H locs hR hS => ?_)
  refine lv_aload_n hx hb dX2_readClause_31 rfl (lv_at hl 0 rfl) ?_
  have hd110 := hR.2.2.2.1
  refine r_get C hR 2 0 1 (v := .ref (a 1 (gR u109 0))) (lv0 (by decide) (by decide)) (by decide) (by decide) rfl fl_X2_12 dX2_readClause_32 ?_
  refine r_get C hR 1 (gR u109 0) 5 (v := .ref (a 35 (gR u109 0))) (lv0 hd110 (by decide)) (by decide) (by decide) rfl fl_X2_58 dX2_readClause_35 ?_
  refine lv_iload_n hx hb dX2_readClause_38 rfl (lv_at hl 2 rfl) ?_
  refine lv_aload_n hx hb dX2_readClause_39 rfl (lv_at hl 0 rfl) ?_
  have hd111 := hR.2.2.2.1
  refine r_get C hR 2 0 1 (v := .ref (a 1 (gR u109 0))) (lv0 (by decide) (by decide)) (by decide) (by decide) rfl fl_X2_12 dX2_readClause_40 ?_
  refine r_get C hR 1 (gR u109 0) 1 (v := .int (gI u109 1 (gR u109 0) 1)) (lv0 hd111 (by decide)) (by decide) (by decide) rfl fl_X2_22 dX2_readClause_43 ?_
  obtain ⟨k112, hk112, h⟩ := ob h
  refine r_ast C hR hS 35 (gR u109 0) (lv0 hd110 (by decide)) (by decide) rfl (fun _ _ => rfl) rfl hk112 dX2_readClause_46 (fun H locs hR hS => ?_)
  obtain ⟨u113, eu113⟩ : ∃ z : HS, z = wI u109 35 (gR u109 0) k112 (gI u109 1 (gR u109 0) 1) := ⟨_, rfl⟩
  rw [← eu113] at hR
  replace h := bd_x eu113 h
  clear eu113
  refine lv_aload_n hx hb dX2_readClause_47 rfl (lv_at hl 0 rfl) ?_
  refine r_get C hR 2 0 0 (v := .ref (a 5 0)) (lv0 (by decide) (by decide)) (by decide) (by decide) rfl fl_X2_18 dX2_readClause_48 ?_
  refine r_ldcS (q := ("MiddleUnseen$LawReader", 61, "if ", 11)) C (by decide) dX2_readClause_51 ?_
  obtain ⟨⟨x115, u116⟩, hc114, h⟩ := ob h
  replace h := bd_x (x := x115) rfl h
  replace h := bd_x (x := u116) rfl h
  refine r_callV1 (As := [.ref (eK E 11)]) (rest := []) (r := 5) (i := 0) C (vX5_takeWord (by decide) hc114) hR hS (lv0 (by decide) (by decide)) (by decide) ml_X2_63 mw_X5_takeWord rfl ⟨Nat.le_of_ble_eq_true rfl, Nat.le_of_ble_eq_true rfl, Nat.le_of_ble_eq_true rfl, Nat.le_of_ble_eq_true rfl⟩ hl.1 rfl (Nat.le_of_ble_eq_true rfl) dX2_readClause_53 (fun H locs hR hS => ?_)
  obtain ⟨u117, hz, h⟩ := ob h
  have Kj118 : ∀ (H : Heap) (locs : List Loc) (ls : Array Slot), Rel E a u117 H → va_S (AE E) s.heap H locs → lv_has ls 3 [(0, .ref (a 2 0)), (2, .int x2)] → W p l e { frames := 70, cells := 0, slots := 0, locals := 2783 } s m args below meth c H locs 0 0 (MQ below (QW E a none out) args s 0 0 (AE E)) (F0 m 64 ls []) := by
    intro H locs ls hR hS hl
    clear hz
    refine lv_aload_n hx hb dX2_readClause_64 rfl (lv_at hl 0 rfl) ?_
    have hd119 := hR.2.2.2.1
    refine r_get C hR 2 0 1 (v := .ref (a 1 (gR u117 0))) (lv0 (by decide) (by decide)) (by decide) (by decide) rfl fl_X2_12 dX2_readClause_65 ?_
    refine r_get C hR 1 (gR u117 0) 6 (v := .ref (a 36 (gR u117 0))) (lv0 hd119 (by decide)) (by decide) (by decide) rfl fl_X2_69 dX2_readClause_68 ?_
    refine lv_iload_n hx hb dX2_readClause_71 rfl (lv_at hl 1 rfl) ?_
    refine lv_aload_n hx hb dX2_readClause_72 rfl (lv_at hl 0 rfl) ?_
    have hd120 := hR.2.2.2.1
    refine r_get C hR 2 0 1 (v := .ref (a 1 (gR u117 0))) (lv0 (by decide) (by decide)) (by decide) (by decide) rfl fl_X2_12 dX2_readClause_73 ?_
    refine r_get C hR 1 (gR u117 0) 1 (v := .int (gI u117 1 (gR u117 0) 1)) (lv0 hd120 (by decide)) (by decide) (by decide) rfl fl_X2_22 dX2_readClause_76 ?_
    obtain ⟨k121, hk121, h⟩ := ob h
    refine r_ast C hR hS 36 (gR u117 0) (lv0 hd119 (by decide)) (by decide) rfl (fun _ _ => rfl) rfl hk121 dX2_readClause_79 (fun H locs hR hS => ?_)
    obtain ⟨u122, eu122⟩ : ∃ z : HS, z = wI u117 36 (gR u117 0) k121 (gI u117 1 (gR u117 0) 1) := ⟨_, rfl⟩
    rw [← eu122] at hR
    replace h := bd_x eu122 h
    clear eu122
    refine lv_aload_n hx hb dX2_readClause_80 rfl (lv_at hl 0 rfl) ?_
    have hd123 := hR.2.2.2.1
    refine r_get C hR 2 0 1 (v := .ref (a 1 (gR u122 0))) (lv0 (by decide) (by decide)) (by decide) (by decide) rfl fl_X2_12 dX2_readClause_81 ?_
    refine lv_iload_n hx hb dX2_readClause_84 rfl (lv_at hl 1 rfl) ?_
    refine lv_iconst (v := 1) hx hb dX2_readClause_85 (by decide) ?_
    refine lv_iadd hx hb dX2_readClause_86 ?_
    refine r_putI (ty := .int) C hR hS 1 (gR u122 0) 2 (lv0 hd123 (by decide)) (by decide) (by decide) (fun _ => rfl) fl_X2_26 (by decide) (by decide +kernel) rfl rfl dX2_readClause_87 (fun H locs hR hS => ?_)
    obtain ⟨u124, eu124⟩ : ∃ z : HS, z = wI u122 1 (gR u122 0) 2 (x2 + 1) := ⟨_, rfl⟩
    rw [← eu124] at hR
    replace h := bd_x eu124 h
    clear eu124
    cases h
    exact e_vret C hr hR hS (Nat.le_of_ble_eq_true rfl) (Nat.le_of_ble_eq_true rfl) dX2_readClause_90
  clear h
  have h := hz
  clear hz
  refine lv_if_ne (tgt := 64) hx hb dX2_readClause_56 (by decide) (fun c_125 => ?_) (fun c_125 => ?_)
  · rw [if_neg c_125] at h
    cases h
    exact Kj118 _ _ _ hR hS (lv_sub hl [0, 2] rfl)
  · rw [if_pos c_125] at h
    refine lv_aload_n hx hb dX2_readClause_59 rfl (lv_at hl 0 rfl) ?_
    refine lv_iconst (v := 0) hx hb dX2_readClause_60 (by decide) ?_
    obtain ⟨u127, hc126, h⟩ := ob h
    refine r_callV0 (As := [.int 0]) (rest := []) (r := 2) (i := 0) C (vX2_readEither hc126) hR hS (lv0 (by decide) (by decide)) (by decide) ml_X2_66 mw_X2_readEither rfl ⟨Nat.le_of_ble_eq_true rfl, Nat.le_of_ble_eq_true rfl, Nat.le_of_ble_eq_true rfl, Nat.le_of_ble_eq_true rfl⟩ hl.1 rfl (Nat.le_of_ble_eq_true rfl) dX2_readClause_61 (fun H locs hR hS => ?_)
    cases h
    exact Kj118 _ _ _ hR hS (lv_sub hl [0, 2] rfl)
set_option maxHeartbeats 4000000 in
set_option maxRecDepth 100000 in
theorem vX2_read {l : Launch} {E : EV} {a : Nat → Nat → Nat} {u0 : HS} {i1 : Nat} {out : HS} (hi1 : i1 < cntS 1) (h : mX2_read u0 i1 = some out) : Ct l E yX2_read cX2_read 4 none 71 2805 0 0 a u0 [.ref (a 2 0), .ref (a 1 i1)] none out := by
  refine Ct.start (by decide) (Nat.le_of_ble_eq_true rfl) ?_
  intro p e s m args below meth c ls C hr hR hS hl
  have C : Cx E p s m args meth c cX2_read 4 RX2 := C
  have hl : lv_has ls 4 [(0, .ref (a 2 0)), (1, .ref (a 1 i1))] := hl
  have hx := C.1
  have hb := C.2.1
  unfold mX2_read at h
  refine lv_aload_n hx hb dX2_read_0 rfl (lv_at hl 0 rfl) ?_
  refine lv_aload_n hx hb dX2_read_1 rfl (lv_at hl 1 rfl) ?_
  refine r_putD0 C hR hS hi1 fl_X2_12 dX2_read_2 (fun H locs hR hS => ?_)
  obtain ⟨u101, eu101⟩ : ∃ z : HS, z = wR u0 0 i1 := ⟨_, rfl⟩
  rw [← eu101] at hR
  replace h := bd_x eu101 h
  clear eu101
  refine lv_aload_n hx hb dX2_read_5 rfl (lv_at hl 0 rfl) ?_
  have hd102 := hR.2.2.2.1
  refine r_get C hR 2 0 1 (v := .ref (a 1 (gR u101 0))) (lv0 (by decide) (by decide)) (by decide) (by decide) rfl fl_X2_12 dX2_read_6 ?_
  refine lv_iconst (v := 0) hx hb dX2_read_9 (by decide) ?_
  refine r_putI (ty := .int) C hR hS 1 (gR u101 0) 1 (lv0 hd102 (by decide)) (by decide) (by decide) (fun _ => rfl) fl_X2_22 (by decide) (by decide +kernel) rfl rfl dX2_read_10 (fun H locs hR hS => ?_)
  obtain ⟨u103, eu103⟩ : ∃ z : HS, z = wI u101 1 (gR u101 0) 1 0 := ⟨_, rfl⟩
  rw [← eu103] at hR
  replace h := bd_x eu103 h
  clear eu103
  refine lv_aload_n hx hb dX2_read_13 rfl (lv_at hl 0 rfl) ?_
  have hd104 := hR.2.2.2.1
  refine r_get C hR 2 0 1 (v := .ref (a 1 (gR u103 0))) (lv0 (by decide) (by decide)) (by decide) (by decide) rfl fl_X2_12 dX2_read_14 ?_
  refine lv_iconst (v := 0) hx hb dX2_read_17 (by decide) ?_
  refine r_putI (ty := .int) C hR hS 1 (gR u103 0) 2 (lv0 hd104 (by decide)) (by decide) (by decide) (fun _ => rfl) fl_X2_26 (by decide) (by decide +kernel) rfl rfl dX2_read_18 (fun H locs hR hS => ?_)
  obtain ⟨u105, eu105⟩ : ∃ z : HS, z = wI u103 1 (gR u103 0) 2 0 := ⟨_, rfl⟩
  rw [← eu105] at hR
  replace h := bd_x eu105 h
  clear eu105
  refine lv_iconst (v := 0) hx hb dX2_read_21 (by decide) ?_
  refine lv_istore_n (lv' := [(2, .int 0), (0, .ref (a 2 0)), (1, .ref (a 1 i1))]) hx hb dX2_read_22 rfl hl (by decide) rfl (fun ls hl => ?_)
  refine jp_cut h (fun w109 hw109 h => ?_)
  have Kw109 : ∀ (u108 : HS) (H : Heap) (locs : List Loc) (ls : Array Slot), w109 u108 = some out → Rel E a u108 H → va_S (AE E) s.heap H locs → lv_has ls 4 [] → W p l e { frames := 71, cells := 0, slots := 0, locals := 2805 } s m args below meth c H locs 0 0 (MQ below (QW E a none out) args s 0 0 (AE E)) (F0 m 70 ls []) := by
    intro u108 H locs ls h hR hS hl
    replace h := jx1 hw109 h
    cases h
    exact e_vret C hr hR hS (Nat.le_of_ble_eq_true rfl) (Nat.le_of_ble_eq_true rfl) dX2_read_70
  have LP : ∀ (fu : Nat) (x106 : Int32) (u107 : HS) (H : Heap) (locs : List Loc) (ls : Array Slot), mX2_read_L23  w109 fu x106 u107 = some out → Rel E a u107 H → va_S (AE E) s.heap H locs → lv_has ls 4 [(0, .ref (a 2 0)), (2, .int x106)] → W p l e { frames := 71, cells := 0, slots := 0, locals := 2805 } s m args below meth c H locs 0 0 (MQ below (QW E a none out) args s 0 0 (AE E)) (F0 m 23 ls []) := by
    intro fu
    induction fu with
    | zero =>
      intro x106 u107 H locs ls h
      have h2 : (none : Option HS) = some out := h
      cases h2
    | succ fu ih =>
      intro x106 u107 H locs ls h hR hS hl
      rw [mX2_read_L23.eq_2] at h
      refine lv_iload_n hx hb dX2_read_23 rfl (lv_at hl 1 rfl) ?_
      refine lv_bipush (v := 16) hx hb dX2_read_24 (by decide) ?_
      refine lv_icmp_gt (tgt := 70) hx hb dX2_read_26 (by decide) (fun c_110 => ?_) (fun c_110 => ?_)
      · rw [if_pos c_110] at h
        exact Kw109 _ _ _ _ h hR hS (lv_sub hl [] rfl)
      · rw [if_neg c_110] at h
        refine lv_aload_n hx hb dX2_read_29 rfl (lv_at hl 0 rfl) ?_
        refine r_get C hR 2 0 0 (v := .ref (a 5 0)) (lv0 (by decide) (by decide)) (by decide) (by decide) rfl fl_X2_18 dX2_read_30 ?_
        refine r_ldcS (q := ("MiddleUnseen$LawReader", 29, "gets line keeps sure ", 10)) C (by decide) dX2_read_33 ?_
        refine lv_iload_n hx hb dX2_read_35 rfl (lv_at hl 1 rfl) ?_
        refine lv_bipush (v := 16) hx hb dX2_read_36 (by decide) ?_
        obtain ⟨⟨x112, u113⟩, hc111, h⟩ := ob h
        replace h := bd_x (x := x112) rfl h
        replace h := bd_x (x := u113) rfl h
        refine r_callV1 (As := [.ref (eK E 10), .int x106, .int 16]) (rest := []) (r := 5) (i := 0) C (vX5_clauseWord (by decide) hc111) hR hS (lv0 (by decide) (by decide)) (by decide) ml_X2_31 mw_X5_clauseWord rfl ⟨Nat.le_of_ble_eq_true rfl, Nat.le_of_ble_eq_true rfl, Nat.le_of_ble_eq_true rfl, Nat.le_of_ble_eq_true rfl⟩ hl.1 rfl (Nat.le_of_ble_eq_true rfl) dX2_read_38 (fun H locs hR hS => ?_)
        refine lv_istore_n (lv' := [(3, .int x112), (0, .ref (a 2 0)), (2, .int x106)]) hx hb dX2_read_41 rfl hl (by decide) rfl (fun ls hl => ?_)
        refine lv_iload_n hx hb dX2_read_42 rfl (lv_at hl 0 rfl) ?_
        refine lv_iconst (v := (-1)) hx hb dX2_read_43 (by decide) ?_
        refine lv_icmp_ne (tgt := 48) hx hb dX2_read_44 (by decide) (fun c_114 => ?_) (fun c_114 => ?_)
        · rw [if_neg c_114] at h
          refine lv_aload_n hx hb dX2_read_48 rfl (lv_at hl 1 rfl) ?_
          refine lv_iload_n hx hb dX2_read_49 rfl (lv_at hl 0 rfl) ?_
          refine lv_iload_n hx hb dX2_read_50 rfl (lv_at hl 2 rfl) ?_
          obtain ⟨u116, hc115, h⟩ := ob h
          refine r_callV0 (As := [.int x112, .int x106]) (rest := []) (r := 2) (i := 0) C (vX2_readClause hc115) hR hS (lv0 (by decide) (by decide)) (by decide) ml_X2_37 mw_X2_readClause rfl ⟨Nat.le_of_ble_eq_true rfl, Nat.le_of_ble_eq_true rfl, Nat.le_of_ble_eq_true rfl, Nat.le_of_ble_eq_true rfl⟩ hl.1 rfl (Nat.le_of_ble_eq_true rfl) dX2_read_51 (fun H locs hR hS => ?_)
          refine lv_aload_n hx hb dX2_read_54 rfl (lv_at hl 1 rfl) ?_
          refine r_get C hR 2 0 0 (v := .ref (a 5 0)) (lv0 (by decide) (by decide)) (by decide) (by decide) rfl fl_X2_18 dX2_read_55 ?_
          refine r_ldcS (q := ("MiddleUnseen$LawReader", 41, ";", 0)) C (by decide) dX2_read_58 ?_
          obtain ⟨⟨x118, u119⟩, hc117, h⟩ := ob h
          replace h := bd_x (x := x118) rfl h
          replace h := bd_x (x := u119) rfl h
          refine r_callV1 (As := [.ref (eK E 0)]) (rest := []) (r := 5) (i := 0) C (vX5_demandSign (by decide) hc117) hR hS (lv0 (by decide) (by decide)) (by decide) ml_X2_43 mw_X5_demandSign rfl ⟨Nat.le_of_ble_eq_true rfl, Nat.le_of_ble_eq_true rfl, Nat.le_of_ble_eq_true rfl, Nat.le_of_ble_eq_true rfl⟩ hl.1 rfl (Nat.le_of_ble_eq_true rfl) dX2_read_60 (fun H locs hR hS => ?_)
          refine lv_pop hx hb dX2_read_63 rfl ?_
          obtain ⟨x120, ex120⟩ : ∃ z : Int32, z = x106 + 1 := ⟨_, rfl⟩
          replace h := bd_x ex120 h
          refine lv_iinc (v := x120) (lv' := [(2, .int x120), (3, .int x112), (0, .ref (a 2 0))]) hx hb dX2_read_64 hl (k := 2) rfl (by rw [ex120]; rfl) (by decide) rfl (fun ls hl => ?_)
          refine lv_goto (tgt := 23) hx hb dX2_read_67 (by decide) ?_
          exact ih _ _ _ _ _ h hR hS (lv_sub hl [2, 0] rfl)
        · rw [if_pos c_114] at h
          cases h
          exact e_vret C hr hR hS (Nat.le_of_ble_eq_true rfl) (Nat.le_of_ble_eq_true rfl) dX2_read_47
  exact LP FU _ _ _ _ _ h hR hS (lv_sub hl [1, 0] rfl)
set_option maxHeartbeats 4000000 in
set_option maxRecDepth 100000 in
theorem vX9_lawClauseHere {l : Launch} {E : EV} {a : Nat → Nat → Nat} {u0 : HS}  {out : HS} (h : mX9_lawClauseHere u0 = some out) : Ct l E yX9_lawClauseHere cX9_lawClauseHere 3 none 70 2781 0 0 a u0 [.ref (a 9 0)] none out := by
  refine Ct.start (by decide) (Nat.le_of_ble_eq_true rfl) ?_
  intro p e s m args below meth c ls C hr hR hS hl
  have C : Cx E p s m args meth c cX9_lawClauseHere 3 RX9 := C
  have hl : lv_has ls 3 [(0, .ref (a 9 0))] := hl
  have hx := C.1
  have hb := C.2.1
  unfold mX9_lawClauseHere at h
  refine lv_aload_n hx hb dX9_lawClauseHere_0 rfl (lv_at hl 0 rfl) ?_
  obtain ⟨⟨x102, u103⟩, hc101, h⟩ := ob h
  replace h := bd_x (x := x102) rfl h
  replace h := bd_x (x := u103) rfl h
  refine r_callV1 (As := []) (rest := []) (r := 9) (i := 0) C (vX9_lawHere hc101) hR hS (lv0 (by decide) (by decide)) (by decide) ml_X9_216 mw_X9_lawHere rfl ⟨Nat.le_of_ble_eq_true rfl, Nat.le_of_ble_eq_true rfl, Nat.le_of_ble_eq_true rfl, Nat.le_of_ble_eq_true rfl⟩ hl.1 rfl (Nat.le_of_ble_eq_true rfl) dX9_lawClauseHere_1 (fun H locs hR hS => ?_)
  refine lv_istore_n (lv' := [(1, .int x102), (0, .ref (a 9 0))]) hx hb dX9_lawClauseHere_4 rfl hl (by decide) rfl (fun ls hl => ?_)
  refine lv_aload_n hx hb dX9_lawClauseHere_5 rfl (lv_at hl 1 rfl) ?_
  refine lv_iload_n hx hb dX9_lawClauseHere_6 rfl (lv_at hl 0 rfl) ?_
  refine lv_bipush (v := 16) hx hb dX9_lawClauseHere_7 (by decide) ?_
  obtain ⟨u105, hc104, h⟩ := ob h
  refine r_callV0 (As := [.int x102, .int 16]) (rest := []) (r := 9) (i := 0) C (vX9_needs hc104) hR hS (lv0 (by decide) (by decide)) (by decide) ml_X9_141 mw_X9_needs rfl ⟨Nat.le_of_ble_eq_true rfl, Nat.le_of_ble_eq_true rfl, Nat.le_of_ble_eq_true rfl, Nat.le_of_ble_eq_true rfl⟩ hl.1 rfl (Nat.le_of_ble_eq_true rfl) dX9_lawClauseHere_9 (fun H locs hR hS => ?_)
  refine lv_aload_n hx hb dX9_lawClauseHere_12 rfl (lv_at hl 1 rfl) ?_
  refine r_get C hR 9 0 6 (v := .int (gI u105 9 0 6)) (lv0 (by decide) (by decide)) (by decide) (by decide) rfl fl_X9_92 dX9_lawClauseHere_13 ?_
  refine lv_if_eq (tgt := 20) hx hb dX9_lawClauseHere_16 (by decide) (fun c_106 => ?_) (fun c_106 => ?_)
  · rw [if_pos c_106] at h
    refine lv_aload_n hx hb dX9_lawClauseHere_20 rfl (lv_at hl 1 rfl) ?_
    obtain ⟨u108, hc107, h⟩ := ob h
    refine r_callV0 (As := []) (rest := []) (r := 9) (i := 0) C (vX9_skipWord hc107) hR hS (lv0 (by decide) (by decide)) (by decide) ml_X9_144 mw_X9_skipWord rfl ⟨Nat.le_of_ble_eq_true rfl, Nat.le_of_ble_eq_true rfl, Nat.le_of_ble_eq_true rfl, Nat.le_of_ble_eq_true rfl⟩ hl.1 rfl (Nat.le_of_ble_eq_true rfl) dX9_lawClauseHere_21 (fun H locs hR hS => ?_)
    refine lv_aload_n hx hb dX9_lawClauseHere_24 rfl (lv_at hl 1 rfl) ?_
    refine r_get C hR 9 0 13 (v := .ref (a 62 0)) (lv0 (by decide) (by decide)) (by decide) (by decide) rfl fl_X9_22 dX9_lawClauseHere_25 ?_
    refine lv_aload_n hx hb dX9_lawClauseHere_28 rfl (lv_at hl 1 rfl) ?_
    refine r_get C hR 9 0 9 (v := .int (gI u108 9 0 9)) (lv0 (by decide) (by decide)) (by decide) (by decide) rfl fl_X9_128 dX9_lawClauseHere_29 ?_
    obtain ⟨k109, hk109, h⟩ := ob h
    have hLk109 : k109 < cntS 63 := by have q1 := (ck_in hk109).2.2; have q2 : cntS 63 = 24 := rfl; omega
    refine r_aald C hR 62 0 63 0 6 (lv0 (by decide) (by decide)) (by decide) rfl rfl rfl (fun _ => rfl) rfl hk109 dX9_lawClauseHere_32 ?_
    refine lv_astore_n (lv' := [(2, .ref (a 63 k109)), (1, .int x102), (0, .ref (a 9 0))]) hx hb dX9_lawClauseHere_33 rfl hl (by decide) rfl (fun ls hl => ?_)
    refine lv_aload_n hx hb dX9_lawClauseHere_34 rfl (lv_at hl 0 rfl) ?_
    refine lv_iconst (v := 0) hx hb dX9_lawClauseHere_35 (by decide) ?_
    refine lv_iload_n hx hb dX9_lawClauseHere_36 rfl (lv_at hl 1 rfl) ?_
    obtain ⟨k110, hk110, h⟩ := ob h
    refine r_ast C hR hS 63 k109 (lv0 hLk109 (by decide)) (by decide) rfl (fun _ _ => rfl) rfl hk110 dX9_lawClauseHere_37 (fun H locs hR hS => ?_)
    obtain ⟨u111, eu111⟩ : ∃ z : HS, z = wI u108 63 k109 k110 x102 := ⟨_, rfl⟩
    rw [← eu111] at hR
    replace h := bd_x eu111 h
    clear eu111
    refine lv_aload_n hx hb dX9_lawClauseHere_38 rfl (lv_at hl 0 rfl) ?_
    refine lv_iconst (v := 1) hx hb dX9_lawClauseHere_39 (by decide) ?_
    refine lv_aload_n hx hb dX9_lawClauseHere_40 rfl (lv_at hl 2 rfl) ?_
    refine r_get C hR 9 0 8 (v := .int (gI u111 9 0 8)) (lv0 (by decide) (by decide)) (by decide) (by decide) rfl fl_X9_98 dX9_lawClauseHere_41 ?_
    obtain ⟨k112, hk112, h⟩ := ob h
    refine r_ast C hR hS 63 k109 (lv0 hLk109 (by decide)) (by decide) rfl (fun _ _ => rfl) rfl hk112 dX9_lawClauseHere_44 (fun H locs hR hS => ?_)
    obtain ⟨u113, eu113⟩ : ∃ z : HS, z = wI u111 63 k109 k112 (gI u111 9 0 8) := ⟨_, rfl⟩
    rw [← eu113] at hR
    replace h := bd_x eu113 h
    clear eu113
    refine lv_aload_n hx hb dX9_lawClauseHere_45 rfl (lv_at hl 2 rfl) ?_
    obtain ⟨u115, hc114, h⟩ := ob h
    refine r_callV0 (As := []) (rest := []) (r := 9) (i := 0) C (vX9_sum hc114) hR hS (lv0 (by decide) (by decide)) (by decide) ml_X9_198 mw_X9_sum rfl ⟨Nat.le_of_ble_eq_true rfl, Nat.le_of_ble_eq_true rfl, Nat.le_of_ble_eq_true rfl, Nat.le_of_ble_eq_true rfl⟩ hl.1 rfl (Nat.le_of_ble_eq_true rfl) dX9_lawClauseHere_46 (fun H locs hR hS => ?_)
    refine lv_aload_n hx hb dX9_lawClauseHere_49 rfl (lv_at hl 0 rfl) ?_
    refine lv_iconst (v := 2) hx hb dX9_lawClauseHere_50 (by decide) ?_
    refine lv_aload_n hx hb dX9_lawClauseHere_51 rfl (lv_at hl 2 rfl) ?_
    refine r_get C hR 9 0 8 (v := .int (gI u115 9 0 8)) (lv0 (by decide) (by decide)) (by decide) (by decide) rfl fl_X9_98 dX9_lawClauseHere_52 ?_
    obtain ⟨k116, hk116, h⟩ := ob h
    refine r_ast C hR hS 63 k109 (lv0 hLk109 (by decide)) (by decide) rfl (fun _ _ => rfl) rfl hk116 dX9_lawClauseHere_55 (fun H locs hR hS => ?_)
    obtain ⟨u117, eu117⟩ : ∃ z : HS, z = wI u115 63 k109 k116 (gI u115 9 0 8) := ⟨_, rfl⟩
    rw [← eu117] at hR
    replace h := bd_x eu117 h
    clear eu117
    refine lv_aload_n hx hb dX9_lawClauseHere_56 rfl (lv_at hl 0 rfl) ?_
    refine lv_iconst (v := 3) hx hb dX9_lawClauseHere_57 (by decide) ?_
    refine lv_iconst (v := (-1)) hx hb dX9_lawClauseHere_58 (by decide) ?_
    obtain ⟨k118, hk118, h⟩ := ob h
    refine r_ast C hR hS 63 k109 (lv0 hLk109 (by decide)) (by decide) rfl (fun _ _ => rfl) rfl hk118 dX9_lawClauseHere_59 (fun H locs hR hS => ?_)
    obtain ⟨u119, eu119⟩ : ∃ z : HS, z = wI u117 63 k109 k118 (-1) := ⟨_, rfl⟩
    rw [← eu119] at hR
    replace h := bd_x eu119 h
    clear eu119
    refine lv_aload_n hx hb dX9_lawClauseHere_60 rfl (lv_at hl 2 rfl) ?_
    refine lv_bipush (v := 9) hx hb dX9_lawClauseHere_61 (by decide) ?_
    refine lv_bipush (v := 6) hx hb dX9_lawClauseHere_63 (by decide) ?_
    refine lv_iconst (v := 0) hx hb dX9_lawClauseHere_65 (by decide) ?_
    refine lv_iconst (v := 0) hx hb dX9_lawClauseHere_66 (by decide) ?_
    refine lv_iconst (v := 0) hx hb dX9_lawClauseHere_67 (by decide) ?_
    refine lv_iconst (v := 0) hx hb dX9_lawClauseHere_68 (by decide) ?_
    obtain ⟨⟨x121, u122⟩, hc120, h⟩ := ob h
    replace h := bd_x (x := x121) rfl h
    replace h := bd_x (x := u122) rfl h
    refine r_callV1 (As := [.int 9, .int 6, .int 0, .int 0, .int 0, .int 0]) (rest := []) (r := 9) (i := 0) C (vX9_isWord hc120) hR hS (lv0 (by decide) (by decide)) (by decide) ml_X9_134 mw_X9_isWord rfl ⟨Nat.le_of_ble_eq_true rfl, Nat.le_of_ble_eq_true rfl, Nat.le_of_ble_eq_true rfl, Nat.le_of_ble_eq_true rfl⟩ hl.1 rfl (Nat.le_of_ble_eq_true rfl) dX9_lawClauseHere_69 (fun H locs hR hS => ?_)
    obtain ⟨u123, hz, h⟩ := ob h
    have Kj124 : ∀ (H : Heap) (locs : List Loc) (ls : Array Slot), Rel E a u123 H → va_S (AE E) s.heap H locs → lv_has ls 3 [(0, .ref (a 9 0))] → W p l e { frames := 70, cells := 0, slots := 0, locals := 2781 } s m args below meth c H locs 0 0 (MQ below (QW E a none out) args s 0 0 (AE E)) (F0 m 90 ls []) := by
      intro H locs ls hR hS hl
      clear hz
      refine lv_aload_n hx hb dX9_lawClauseHere_90 rfl (lv_at hl 0 rfl) ?_
      refine lv_bipush (v := 59) hx hb dX9_lawClauseHere_91 (by decide) ?_
      obtain ⟨u126, hc125, h⟩ := ob h
      refine r_callV0 (As := [.int 59]) (rest := []) (r := 9) (i := 0) C (vX9_sign hc125) hR hS (lv0 (by decide) (by decide)) (by decide) ml_X9_155 mw_X9_sign rfl ⟨Nat.le_of_ble_eq_true rfl, Nat.le_of_ble_eq_true rfl, Nat.le_of_ble_eq_true rfl, Nat.le_of_ble_eq_true rfl⟩ hl.1 rfl (Nat.le_of_ble_eq_true rfl) dX9_lawClauseHere_93 (fun H locs hR hS => ?_)
      refine lv_aload_n hx hb dX9_lawClauseHere_96 rfl (lv_at hl 0 rfl) ?_
      refine lv_dup hx hb dX9_lawClauseHere_97 rfl ?_
      refine r_get C hR 9 0 9 (v := .int (gI u126 9 0 9)) (lv0 (by decide) (by decide)) (by decide) (by decide) rfl fl_X9_128 dX9_lawClauseHere_98 ?_
      refine lv_iconst (v := 1) hx hb dX9_lawClauseHere_101 (by decide) ?_
      refine lv_iadd hx hb dX9_lawClauseHere_102 ?_
      refine r_putI (ty := .int) C hR hS 9 0 9 (lv0 (by decide) (by decide)) (by decide) (by decide) (fun _ => rfl) fl_X9_128 (by decide) (by decide +kernel) rfl rfl dX9_lawClauseHere_103 (fun H locs hR hS => ?_)
      obtain ⟨u127, eu127⟩ : ∃ z : HS, z = wI u126 9 0 9 ((gI u126 9 0 9) + 1) := ⟨_, rfl⟩
      rw [← eu127] at hR
      replace h := bd_x eu127 h
      clear eu127
      cases h
      exact e_vret C hr hR hS (Nat.le_of_ble_eq_true rfl) (Nat.le_of_ble_eq_true rfl) dX9_lawClauseHere_106
    clear h
    have h := hz
    clear hz
    refine lv_if_eq (tgt := 90) hx hb dX9_lawClauseHere_72 (by decide) (fun c_128 => ?_) (fun c_128 => ?_)
    · rw [if_pos c_128] at h
      cases h
      exact Kj124 _ _ _ hR hS (lv_sub hl [2] rfl)
    · rw [if_neg c_128] at h
      refine lv_aload_n hx hb dX9_lawClauseHere_75 rfl (lv_at hl 2 rfl) ?_
      obtain ⟨u130, hc129, h⟩ := ob h
      refine r_callV0 (As := []) (rest := []) (r := 9) (i := 0) C (vX9_skipWord hc129) hR hS (lv0 (by decide) (by decide)) (by decide) ml_X9_144 mw_X9_skipWord rfl ⟨Nat.le_of_ble_eq_true rfl, Nat.le_of_ble_eq_true rfl, Nat.le_of_ble_eq_true rfl, Nat.le_of_ble_eq_true rfl⟩ hl.1 rfl (Nat.le_of_ble_eq_true rfl) dX9_lawClauseHere_76 (fun H locs hR hS => ?_)
      refine lv_aload_n hx hb dX9_lawClauseHere_79 rfl (lv_at hl 2 rfl) ?_
      obtain ⟨u132, hc131, h⟩ := ob h
      refine r_callV0 (As := []) (rest := []) (r := 9) (i := 0) C (vX9_ors hc131) hR hS (lv0 (by decide) (by decide)) (by decide) ml_X9_210 mw_X9_ors rfl ⟨Nat.le_of_ble_eq_true rfl, Nat.le_of_ble_eq_true rfl, Nat.le_of_ble_eq_true rfl, Nat.le_of_ble_eq_true rfl⟩ hl.1 rfl (Nat.le_of_ble_eq_true rfl) dX9_lawClauseHere_80 (fun H locs hR hS => ?_)
      refine lv_aload_n hx hb dX9_lawClauseHere_83 rfl (lv_at hl 0 rfl) ?_
      refine lv_iconst (v := 3) hx hb dX9_lawClauseHere_84 (by decide) ?_
      refine lv_aload_n hx hb dX9_lawClauseHere_85 rfl (lv_at hl 2 rfl) ?_
      refine r_get C hR 9 0 8 (v := .int (gI u132 9 0 8)) (lv0 (by decide) (by decide)) (by decide) (by decide) rfl fl_X9_98 dX9_lawClauseHere_86 ?_
      obtain ⟨k133, hk133, h⟩ := ob h
      refine r_ast C hR hS 63 k109 (lv0 hLk109 (by decide)) (by decide) rfl (fun _ _ => rfl) rfl hk133 dX9_lawClauseHere_89 (fun H locs hR hS => ?_)
      obtain ⟨u134, eu134⟩ : ∃ z : HS, z = wI u132 63 k109 k133 (gI u132 9 0 8) := ⟨_, rfl⟩
      rw [← eu134] at hR
      replace h := bd_x eu134 h
      clear eu134
      cases h
      exact Kj124 _ _ _ hR hS (lv_sub hl [2] rfl)
  · rw [if_neg c_106] at h
    cases h
    exact e_vret C hr hR hS (Nat.le_of_ble_eq_true rfl) (Nat.le_of_ble_eq_true rfl) dX9_lawClauseHere_19
set_option maxHeartbeats 4000000 in
set_option maxRecDepth 100000 in
theorem vX9_law {l : Launch} {E : EV} {a : Nat → Nat → Nat} {u0 : HS} {x1 : Int32} {out : (Int32 × HS)} (h : mX9_law u0 x1 = some out) : Ct l E yX9_law cX9_law 4 (some .int) 71 2803 0 0 a u0 [.ref (a 9 0), .int x1] (some (.int out.1)) out.2 := by
  refine Ct.start (by decide) (Nat.le_of_ble_eq_true rfl) ?_
  intro p e s m args below meth c ls C hr hR hS hl
  have C : Cx E p s m args meth c cX9_law 4 RX9 := C
  have hl : lv_has ls 4 [(0, .ref (a 9 0)), (1, .int x1)] := hl
  have hx := C.1
  have hb := C.2.1
  unfold mX9_law at h
  refine lv_aload_n hx hb dX9_law_0 rfl (lv_at hl 0 rfl) ?_
  refine lv_iconst (v := 0) hx hb dX9_law_1 (by decide) ?_
  refine r_putI (ty := .int) C hR hS 9 0 0 (lv0 (by decide) (by decide)) (by decide) (by decide) (fun _ => rfl) fl_X9_76 (by decide) (by decide +kernel) rfl rfl dX9_law_2 (fun H locs hR hS => ?_)
  obtain ⟨u101, eu101⟩ : ∃ z : HS, z = wI u0 9 0 0 0 := ⟨_, rfl⟩
  rw [← eu101] at hR
  replace h := bd_x eu101 h
  clear eu101
  refine lv_aload_n hx hb dX9_law_5 rfl (lv_at hl 0 rfl) ?_
  refine lv_iload_n hx hb dX9_law_6 rfl (lv_at hl 1 rfl) ?_
  refine lv_iconst (v := 0) hx hb dX9_law_7 (by decide) ?_
  refine lv_aload_n hx hb dX9_law_8 rfl (lv_at hl 0 rfl) ?_
  refine r_get C hR 9 0 1 (v := .int (gI u101 9 0 1)) (lv0 (by decide) (by decide)) (by decide) (by decide) rfl fl_X9_79 dX9_law_9 ?_
  obtain ⟨x103, hc102, h⟩ := ob h
  refine r_callS1 (As := [.int x1, .int 0, .int (gI u101 9 0 1)]) (rest := [.ref (a 9 0)]) C (vX9_in hc102) hR hS ml_X9_113 ms_X9_in rfl ⟨Nat.le_of_ble_eq_true rfl, Nat.le_of_ble_eq_true rfl, Nat.le_of_ble_eq_true rfl, Nat.le_of_ble_eq_true rfl⟩ hl.1 rfl (Nat.le_of_ble_eq_true rfl) dX9_law_12 (fun H locs hR hS => ?_)
  obtain ⟨x104, hz, h⟩ := ob h
  have Kj105 : ∀ (H : Heap) (locs : List Loc) (ls : Array Slot), Rel E a u101 H → va_S (AE E) s.heap H locs → lv_has ls 4 [(0, .ref (a 9 0)), (1, .int x1)] → W p l e { frames := 71, cells := 0, slots := 0, locals := 2803 } s m args below meth c H locs 0 0 (MQ below (QW E a (some (.int out.1)) out.2) args s 0 0 (AE E)) (F0 m 23 ls [.int x104, .ref (a 9 0)]) := by
    intro H locs ls hR hS hl
    clear hz
    refine lv_iconst (v := 1) hx hb dX9_law_23 (by decide) ?_
    obtain ⟨⟨x107, u108⟩, hc106, h⟩ := ob h
    replace h := bd_x (x := x107) rfl h
    replace h := bd_x (x := u108) rfl h
    refine r_callV1 (As := [.int x104, .int 1]) (rest := []) (r := 9) (i := 0) C (vX9_bad hc106) hR hS (lv0 (by decide) (by decide)) (by decide) ml_X9_162 mw_X9_bad rfl ⟨Nat.le_of_ble_eq_true rfl, Nat.le_of_ble_eq_true rfl, Nat.le_of_ble_eq_true rfl, Nat.le_of_ble_eq_true rfl⟩ hl.1 rfl (Nat.le_of_ble_eq_true rfl) dX9_law_24 (fun H locs hR hS => ?_)
    refine lv_if_eq (tgt := 32) hx hb dX9_law_27 (by decide) (fun c_109 => ?_) (fun c_109 => ?_)
    · rw [if_pos c_109] at h
      refine lv_aload_n hx hb dX9_law_32 rfl (lv_at hl 0 rfl) ?_
      refine lv_iload_n hx hb dX9_law_33 rfl (lv_at hl 1 rfl) ?_
      refine lv_aload_n hx hb dX9_law_34 rfl (lv_at hl 0 rfl) ?_
      refine r_get C hR 9 0 16 (v := .int (gI u108 9 0 16)) (lv0 (by decide) (by decide)) (by decide) (by decide) rfl fl_X9_219 dX9_law_35 ?_
      refine lv_iconst (v := 4) hx hb dX9_law_38 (by decide) ?_
      obtain ⟨x110, hz, h⟩ := ob h
      have Kj111 : ∀ (H : Heap) (locs : List Loc) (ls : Array Slot), Rel E a u108 H → va_S (AE E) s.heap H locs → lv_has ls 4 [(0, .ref (a 9 0))] → W p l e { frames := 71, cells := 0, slots := 0, locals := 2803 } s m args below meth c H locs 0 0 (MQ below (QW E a (some (.int out.1)) out.2) args s 0 0 (AE E)) (F0 m 47 ls [.int x110, .int x1, .ref (a 9 0)]) := by
        intro H locs ls hR hS hl
        clear hz
        obtain ⟨⟨x113, u114⟩, hc112, h⟩ := ob h
        replace h := bd_x (x := x113) rfl h
        replace h := bd_x (x := u114) rfl h
        refine r_callV1 (As := [.int x1, .int x110]) (rest := []) (r := 9) (i := 0) C (vX9_isRead hc112) hR hS (lv0 (by decide) (by decide)) (by decide) ml_X9_169 mw_X9_isRead rfl ⟨Nat.le_of_ble_eq_true rfl, Nat.le_of_ble_eq_true rfl, Nat.le_of_ble_eq_true rfl, Nat.le_of_ble_eq_true rfl⟩ hl.1 rfl (Nat.le_of_ble_eq_true rfl) dX9_law_47 (fun H locs hR hS => ?_)
        refine lv_if_ne (tgt := 55) hx hb dX9_law_50 (by decide) (fun c_115 => ?_) (fun c_115 => ?_)
        · rw [if_neg c_115] at h
          refine jp_cut h (fun w118 hw118 h => ?_)
          have Kw118 : ∀ (u117 : HS) (H : Heap) (locs : List Loc) (ls : Array Slot), w118 u117 = some out → Rel E a u117 H → va_S (AE E) s.heap H locs → lv_has ls 4 [(0, .ref (a 9 0))] → W p l e { frames := 71, cells := 0, slots := 0, locals := 2803 } s m args below meth c H locs 0 0 (MQ below (QW E a (some (.int out.1)) out.2) args s 0 0 (AE E)) (F0 m 84 ls []) := by
            intro u117 H locs ls h hR hS hl
            replace h := jx1 hw118 h
            refine lv_aload_n hx hb dX9_law_84 rfl (lv_at hl 0 rfl) ?_
            refine lv_aload_n hx hb dX9_law_85 rfl (lv_at hl 0 rfl) ?_
            refine r_get C hR 9 0 7 (v := .int (gI u117 9 0 7)) (lv0 (by decide) (by decide)) (by decide) (by decide) rfl fl_X9_95 dX9_law_86 ?_
            refine r_putI (ty := .int) C hR hS 9 0 3 (lv0 (by decide) (by decide)) (by decide) (by decide) (fun _ => rfl) fl_X9_9 (by decide) (by decide +kernel) rfl rfl dX9_law_89 (fun H locs hR hS => ?_)
            obtain ⟨u119, eu119⟩ : ∃ z : HS, z = wI u117 9 0 3 (gI u117 9 0 7) := ⟨_, rfl⟩
            rw [← eu119] at hR
            replace h := bd_x eu119 h
            clear eu119
            refine lv_aload_n hx hb dX9_law_92 rfl (lv_at hl 0 rfl) ?_
            refine r_get C hR 9 0 6 (v := .int (gI u119 9 0 6)) (lv0 (by decide) (by decide)) (by decide) (by decide) rfl fl_X9_92 dX9_law_93 ?_
            refine lv_if_eq (tgt := 107) hx hb dX9_law_96 (by decide) (fun c_120 => ?_) (fun c_120 => ?_)
            · rw [if_pos c_120] at h
              refine lv_iconst (v := 0) hx hb dX9_law_107 (by decide) ?_
              refine lv_istore_n (lv' := [(2, .int 0), (0, .ref (a 9 0))]) hx hb dX9_law_108 rfl hl (by decide) rfl (fun ls hl => ?_)
              refine jp_cut h (fun w124 hw124 h => ?_)
              have Kw124 : ∀ (u123 : HS) (H : Heap) (locs : List Loc) (ls : Array Slot), w124 u123 = some out → Rel E a u123 H → va_S (AE E) s.heap H locs → lv_has ls 4 [(0, .ref (a 9 0))] → W p l e { frames := 71, cells := 0, slots := 0, locals := 2803 } s m args below meth c H locs 0 0 (MQ below (QW E a (some (.int out.1)) out.2) args s 0 0 (AE E)) (F0 m 140 ls []) := by
                intro u123 H locs ls h hR hS hl
                replace h := jx1 hw124 h
                refine lv_iconst (v := 0) hx hb dX9_law_140 (by decide) ?_
                refine lv_istore_n (lv' := [(2, .int 0), (0, .ref (a 9 0))]) hx hb dX9_law_141 rfl hl (by decide) rfl (fun ls hl => ?_)
                refine jp_cut h (fun w128 hw128 h => ?_)
                have Kw128 : ∀ (u127 : HS) (H : Heap) (locs : List Loc) (ls : Array Slot), w128 u127 = some out → Rel E a u127 H → va_S (AE E) s.heap H locs → lv_has ls 4 [(0, .ref (a 9 0))] → W p l e { frames := 71, cells := 0, slots := 0, locals := 2803 } s m args below meth c H locs 0 0 (MQ below (QW E a (some (.int out.1)) out.2) args s 0 0 (AE E)) (F0 m 193 ls []) := by
                  intro u127 H locs ls h hR hS hl
                  replace h := jx1 hw128 h
                  refine lv_aload_n hx hb dX9_law_193 rfl (lv_at hl 0 rfl) ?_
                  refine r_get C hR 9 0 24 (v := .ref (a 76 0)) (lv0 (by decide) (by decide)) (by decide) (by decide) rfl fl_X9_46 dX9_law_194 ?_
                  refine lv_aload_n hx hb dX9_law_197 rfl (lv_at hl 0 rfl) ?_
                  refine r_get C hR 9 0 16 (v := .int (gI u127 9 0 16)) (lv0 (by decide) (by decide)) (by decide) (by decide) rfl fl_X9_219 dX9_law_198 ?_
                  refine lv_aload_n hx hb dX9_law_201 rfl (lv_at hl 0 rfl) ?_
                  refine r_get C hR 9 0 9 (v := .int (gI u127 9 0 9)) (lv0 (by decide) (by decide)) (by decide) (by decide) rfl fl_X9_128 dX9_law_202 ?_
                  obtain ⟨k129, hk129, h⟩ := ob h
                  refine r_ast C hR hS 76 0 (lv0 (by decide) (by decide)) (by decide) rfl (fun _ _ => rfl) rfl hk129 dX9_law_205 (fun H locs hR hS => ?_)
                  obtain ⟨u130, eu130⟩ : ∃ z : HS, z = wI u127 76 0 k129 (gI u127 9 0 9) := ⟨_, rfl⟩
                  rw [← eu130] at hR
                  replace h := bd_x eu130 h
                  clear eu130
                  refine lv_aload_n hx hb dX9_law_206 rfl (lv_at hl 0 rfl) ?_
                  refine r_get C hR 9 0 25 (v := .ref (a 77 0)) (lv0 (by decide) (by decide)) (by decide) (by decide) rfl fl_X9_49 dX9_law_207 ?_
                  refine lv_aload_n hx hb dX9_law_210 rfl (lv_at hl 0 rfl) ?_
                  refine r_get C hR 9 0 16 (v := .int (gI u130 9 0 16)) (lv0 (by decide) (by decide)) (by decide) (by decide) rfl fl_X9_219 dX9_law_211 ?_
                  refine lv_iconst (v := 1) hx hb dX9_law_214 (by decide) ?_
                  obtain ⟨k131, hk131, h⟩ := ob h
                  refine r_ast C hR hS 77 0 (lv0 (by decide) (by decide)) (by decide) rfl (fun _ _ => rfl) rfl hk131 dX9_law_215 (fun H locs hR hS => ?_)
                  obtain ⟨u132, eu132⟩ : ∃ z : HS, z = wI u130 77 0 k131 1 := ⟨_, rfl⟩
                  rw [← eu132] at hR
                  replace h := bd_x eu132 h
                  clear eu132
                  refine lv_aload_n hx hb dX9_law_216 rfl (lv_at hl 0 rfl) ?_
                  refine lv_dup hx hb dX9_law_217 rfl ?_
                  refine r_get C hR 9 0 16 (v := .int (gI u132 9 0 16)) (lv0 (by decide) (by decide)) (by decide) (by decide) rfl fl_X9_219 dX9_law_218 ?_
                  refine lv_iconst (v := 1) hx hb dX9_law_221 (by decide) ?_
                  refine lv_iadd hx hb dX9_law_222 ?_
                  refine r_putI (ty := .int) C hR hS 9 0 16 (lv0 (by decide) (by decide)) (by decide) (by decide) (fun _ => rfl) fl_X9_219 (by decide) (by decide +kernel) rfl rfl dX9_law_223 (fun H locs hR hS => ?_)
                  obtain ⟨u133, eu133⟩ : ∃ z : HS, z = wI u132 9 0 16 ((gI u132 9 0 16) + 1) := ⟨_, rfl⟩
                  rw [← eu133] at hR
                  replace h := bd_x eu133 h
                  clear eu133
                  refine lv_aload_n hx hb dX9_law_226 rfl (lv_at hl 0 rfl) ?_
                  refine r_get C hR 9 0 16 (v := .int (gI u133 9 0 16)) (lv0 (by decide) (by decide)) (by decide) (by decide) rfl fl_X9_219 dX9_law_227 ?_
                  refine lv_iconst (v := 1) hx hb dX9_law_230 (by decide) ?_
                  refine lv_isub hx hb dX9_law_231 ?_
                  cases h
                  exact e_iret C hr hR hS (Nat.le_of_ble_eq_true rfl) (Nat.le_of_ble_eq_true rfl) dX9_law_232
                have LP : ∀ (fu : Nat) (x125 : Int32) (u126 : HS) (H : Heap) (locs : List Loc) (ls : Array Slot), mX9_law_L142  w128 fu x125 u126 = some out → Rel E a u126 H → va_S (AE E) s.heap H locs → lv_has ls 4 [(0, .ref (a 9 0)), (2, .int x125)] → W p l e { frames := 71, cells := 0, slots := 0, locals := 2803 } s m args below meth c H locs 0 0 (MQ below (QW E a (some (.int out.1)) out.2) args s 0 0 (AE E)) (F0 m 142 ls []) := by
                  intro fu
                  induction fu with
                  | zero =>
                    intro x125 u126 H locs ls h
                    have h2 : (none : Option (Int32 × HS)) = some out := h
                    cases h2
                  | succ fu ih =>
                    intro x125 u126 H locs ls h hR hS hl
                    rw [mX9_law_L142.eq_2] at h
                    refine lv_iload_n hx hb dX9_law_142 rfl (lv_at hl 1 rfl) ?_
                    refine lv_aload_n hx hb dX9_law_143 rfl (lv_at hl 0 rfl) ?_
                    refine r_get C hR 9 0 9 (v := .int (gI u126 9 0 9)) (lv0 (by decide) (by decide)) (by decide) (by decide) rfl fl_X9_128 dX9_law_144 ?_
                    refine lv_icmp_ge (tgt := 193) hx hb dX9_law_147 (by decide) (fun c_134 => ?_) (fun c_134 => ?_)
                    · rw [if_pos c_134] at h
                      exact Kw128 _ _ _ _ h hR hS (lv_sub hl [0] rfl)
                    · rw [if_neg c_134] at h
                      refine lv_iconst (v := 0) hx hb dX9_law_150 (by decide) ?_
                      refine lv_istore_n (lv' := [(3, .int 0), (0, .ref (a 9 0)), (2, .int x125)]) hx hb dX9_law_151 rfl hl (by decide) rfl (fun ls hl => ?_)
                      refine jp_cut h (fun w138 hw138 h => ?_)
                      have Kw138 : ∀ (u137 : HS) (H : Heap) (locs : List Loc) (ls : Array Slot), w138 u137 = some out → Rel E a u137 H → va_S (AE E) s.heap H locs → lv_has ls 4 [(0, .ref (a 9 0)), (2, .int x125)] → W p l e { frames := 71, cells := 0, slots := 0, locals := 2803 } s m args below meth c H locs 0 0 (MQ below (QW E a (some (.int out.1)) out.2) args s 0 0 (AE E)) (F0 m 187 ls []) := by
                        intro u137 H locs ls h hR hS hl
                        replace h := jx1 hw138 h
                        obtain ⟨x139, ex139⟩ : ∃ z : Int32, z = x125 + 1 := ⟨_, rfl⟩
                        replace h := bd_x ex139 h
                        refine lv_iinc (v := x139) (lv' := [(2, .int x139), (0, .ref (a 9 0))]) hx hb dX9_law_187 hl (k := 1) rfl (by rw [ex139]; rfl) (by decide) rfl (fun ls hl => ?_)
                        refine lv_goto (tgt := 142) hx hb dX9_law_190 (by decide) ?_
                        exact ih _ _ _ _ _ h hR hS (lv_sub hl [1, 0] rfl)
                      have LP : ∀ (fu : Nat) (x135 : Int32) (u136 : HS) (H : Heap) (locs : List Loc) (ls : Array Slot), mX9_law_L152 x125 w138 fu x135 u136 = some out → Rel E a u136 H → va_S (AE E) s.heap H locs → lv_has ls 4 [(0, .ref (a 9 0)), (2, .int x125), (3, .int x135)] → W p l e { frames := 71, cells := 0, slots := 0, locals := 2803 } s m args below meth c H locs 0 0 (MQ below (QW E a (some (.int out.1)) out.2) args s 0 0 (AE E)) (F0 m 152 ls []) := by
                        intro fu
                        induction fu with
                        | zero =>
                          intro x135 u136 H locs ls h
                          have h2 : (none : Option (Int32 × HS)) = some out := h
                          cases h2
                        | succ fu ih =>
                          intro x135 u136 H locs ls h hR hS hl
                          rw [mX9_law_L152.eq_2] at h
                          refine lv_iload_n hx hb dX9_law_152 rfl (lv_at hl 2 rfl) ?_
                          refine lv_iconst (v := 4) hx hb dX9_law_153 (by decide) ?_
                          refine lv_icmp_ge (tgt := 187) hx hb dX9_law_154 (by decide) (fun c_140 => ?_) (fun c_140 => ?_)
                          · rw [if_pos c_140] at h
                            exact Kw138 _ _ _ _ h hR hS (lv_sub hl [0, 1] rfl)
                          · rw [if_neg c_140] at h
                            refine lv_aload_n hx hb dX9_law_157 rfl (lv_at hl 0 rfl) ?_
                            refine r_get C hR 9 0 23 (v := .ref (a 74 0)) (lv0 (by decide) (by decide)) (by decide) (by decide) rfl fl_X9_43 dX9_law_158 ?_
                            refine lv_bipush (v := 16) hx hb dX9_law_161 (by decide) ?_
                            refine lv_aload_n hx hb dX9_law_163 rfl (lv_at hl 0 rfl) ?_
                            refine r_get C hR 9 0 16 (v := .int (gI u136 9 0 16)) (lv0 (by decide) (by decide)) (by decide) (by decide) rfl fl_X9_219 dX9_law_164 ?_
                            refine lv_imul hx hb dX9_law_167 ?_
                            refine lv_iload_n hx hb dX9_law_168 rfl (lv_at hl 1 rfl) ?_
                            refine lv_iadd hx hb dX9_law_169 ?_
                            obtain ⟨k141, hk141, h⟩ := ob h
                            have hLk141 : k141 < cntS 75 := by have q1 := (ck_in hk141).2.2; have q2 : cntS 75 = 64 := rfl; omega
                            refine r_aald C hR 74 0 75 0 6 (lv0 (by decide) (by decide)) (by decide) rfl rfl rfl (fun _ => rfl) rfl hk141 dX9_law_170 ?_
                            refine lv_iload_n hx hb dX9_law_171 rfl (lv_at hl 2 rfl) ?_
                            refine lv_aload_n hx hb dX9_law_172 rfl (lv_at hl 0 rfl) ?_
                            refine r_get C hR 9 0 13 (v := .ref (a 62 0)) (lv0 (by decide) (by decide)) (by decide) (by decide) rfl fl_X9_22 dX9_law_173 ?_
                            refine lv_iload_n hx hb dX9_law_176 rfl (lv_at hl 1 rfl) ?_
                            obtain ⟨k142, hk142, h⟩ := ob h
                            have hLk142 : k142 < cntS 63 := by have q1 := (ck_in hk142).2.2; have q2 : cntS 63 = 24 := rfl; omega
                            refine r_aald C hR 62 0 63 0 6 (lv0 (by decide) (by decide)) (by decide) rfl rfl rfl (fun _ => rfl) rfl hk142 dX9_law_177 ?_
                            refine lv_iload_n hx hb dX9_law_178 rfl (lv_at hl 2 rfl) ?_
                            obtain ⟨k143, hk143, h⟩ := ob h
                            refine r_ald C hR 63 k142 (lv0 hLk142 (by decide)) (by decide) rfl (fun _ => rfl) rfl hk143 dX9_law_179 ?_
                            obtain ⟨k144, hk144, h⟩ := ob h
                            refine r_ast C hR hS 75 k141 (lv0 hLk141 (by decide)) (by decide) rfl (fun _ _ => rfl) rfl hk144 dX9_law_180 (fun H locs hR hS => ?_)
                            obtain ⟨u145, eu145⟩ : ∃ z : HS, z = wI u136 75 k141 k144 (gI u136 63 k142 k143) := ⟨_, rfl⟩
                            rw [← eu145] at hR
                            replace h := bd_x eu145 h
                            clear eu145
                            obtain ⟨x146, ex146⟩ : ∃ z : Int32, z = x135 + 1 := ⟨_, rfl⟩
                            replace h := bd_x ex146 h
                            refine lv_iinc (v := x146) (lv' := [(3, .int x146), (0, .ref (a 9 0)), (2, .int x125)]) hx hb dX9_law_181 hl (k := 2) rfl (by rw [ex146]; rfl) (by decide) rfl (fun ls hl => ?_)
                            refine lv_goto (tgt := 152) hx hb dX9_law_184 (by decide) ?_
                            exact ih _ _ _ _ _ h hR hS (lv_sub hl [1, 2, 0] rfl)
                      exact LP FU _ _ _ _ _ h hR hS (lv_sub hl [1, 2, 0] rfl)
                exact LP FU _ _ _ _ _ h hR hS (lv_sub hl [1, 0] rfl)
              have LP : ∀ (fu : Nat) (x121 : Int32) (u122 : HS) (H : Heap) (locs : List Loc) (ls : Array Slot), mX9_law_L109  w124 fu x121 u122 = some out → Rel E a u122 H → va_S (AE E) s.heap H locs → lv_has ls 4 [(0, .ref (a 9 0)), (2, .int x121)] → W p l e { frames := 71, cells := 0, slots := 0, locals := 2803 } s m args below meth c H locs 0 0 (MQ below (QW E a (some (.int out.1)) out.2) args s 0 0 (AE E)) (F0 m 109 ls []) := by
                intro fu
                induction fu with
                | zero =>
                  intro x121 u122 H locs ls h
                  have h2 : (none : Option (Int32 × HS)) = some out := h
                  cases h2
                | succ fu ih =>
                  intro x121 u122 H locs ls h hR hS hl
                  rw [mX9_law_L109.eq_2] at h
                  refine lv_iload_n hx hb dX9_law_109 rfl (lv_at hl 1 rfl) ?_
                  refine lv_aload_n hx hb dX9_law_110 rfl (lv_at hl 0 rfl) ?_
                  refine r_get C hR 9 0 8 (v := .int (gI u122 9 0 8)) (lv0 (by decide) (by decide)) (by decide) (by decide) rfl fl_X9_98 dX9_law_111 ?_
                  refine lv_icmp_ge (tgt := 140) hx hb dX9_law_114 (by decide) (fun c_147 => ?_) (fun c_147 => ?_)
                  · rw [if_pos c_147] at h
                    exact Kw124 _ _ _ _ h hR hS (lv_sub hl [0] rfl)
                  · rw [if_neg c_147] at h
                    refine lv_aload_n hx hb dX9_law_117 rfl (lv_at hl 0 rfl) ?_
                    refine r_get C hR 9 0 22 (v := .ref (a 72 0)) (lv0 (by decide) (by decide)) (by decide) (by decide) rfl fl_X9_40 dX9_law_118 ?_
                    refine lv_aload_n hx hb dX9_law_121 rfl (lv_at hl 0 rfl) ?_
                    refine r_get C hR 9 0 16 (v := .int (gI u122 9 0 16)) (lv0 (by decide) (by decide)) (by decide) (by decide) rfl fl_X9_219 dX9_law_122 ?_
                    obtain ⟨k148, hk148, h⟩ := ob h
                    have hLk148 : k148 < cntS 73 := by have q1 := (ck_in hk148).2.2; have q2 : cntS 73 = 4 := rfl; omega
                    refine r_aald C hR 72 0 73 0 6 (lv0 (by decide) (by decide)) (by decide) rfl rfl rfl (fun _ => rfl) rfl hk148 dX9_law_125 ?_
                    refine lv_iload_n hx hb dX9_law_126 rfl (lv_at hl 1 rfl) ?_
                    refine lv_aload_n hx hb dX9_law_127 rfl (lv_at hl 0 rfl) ?_
                    refine r_get C hR 9 0 12 (v := .ref (a 61 0)) (lv0 (by decide) (by decide)) (by decide) (by decide) rfl fl_X9_17 dX9_law_128 ?_
                    refine lv_iload_n hx hb dX9_law_131 rfl (lv_at hl 1 rfl) ?_
                    obtain ⟨k149, hk149, h⟩ := ob h
                    refine r_ald C hR 61 0 (lv0 (by decide) (by decide)) (by decide) rfl (fun _ => rfl) rfl hk149 dX9_law_132 ?_
                    obtain ⟨k150, hk150, h⟩ := ob h
                    refine r_ast C hR hS 73 k148 (lv0 hLk148 (by decide)) (by decide) rfl (fun _ _ => rfl) rfl hk150 dX9_law_133 (fun H locs hR hS => ?_)
                    obtain ⟨u151, eu151⟩ : ∃ z : HS, z = wI u122 73 k148 k150 (gI u122 61 0 k149) := ⟨_, rfl⟩
                    rw [← eu151] at hR
                    replace h := bd_x eu151 h
                    clear eu151
                    obtain ⟨x152, ex152⟩ : ∃ z : Int32, z = x121 + 1 := ⟨_, rfl⟩
                    replace h := bd_x ex152 h
                    refine lv_iinc (v := x152) (lv' := [(2, .int x152), (0, .ref (a 9 0))]) hx hb dX9_law_134 hl (k := 1) rfl (by rw [ex152]; rfl) (by decide) rfl (fun ls hl => ?_)
                    refine lv_goto (tgt := 109) hx hb dX9_law_137 (by decide) ?_
                    exact ih _ _ _ _ _ h hR hS (lv_sub hl [1, 0] rfl)
              exact LP FU _ _ _ _ _ h hR hS (lv_sub hl [1, 0] rfl)
            · rw [if_neg c_120] at h
              refine lv_aload_n hx hb dX9_law_99 rfl (lv_at hl 0 rfl) ?_
              refine r_get C hR 9 0 6 (v := .int (gI u119 9 0 6)) (lv0 (by decide) (by decide)) (by decide) (by decide) rfl fl_X9_92 dX9_law_100 ?_
              refine lv_bipush (v := 10) hx hb dX9_law_103 (by decide) ?_
              refine lv_isub hx hb dX9_law_105 ?_
              cases h
              exact e_iret C hr hR hS (Nat.le_of_ble_eq_true rfl) (Nat.le_of_ble_eq_true rfl) dX9_law_106
          have LP : ∀ (fu : Nat) (u116 : HS) (H : Heap) (locs : List Loc) (ls : Array Slot), mX9_law_L55  w118 fu u116 = some out → Rel E a u116 H → va_S (AE E) s.heap H locs → lv_has ls 4 [(0, .ref (a 9 0))] → W p l e { frames := 71, cells := 0, slots := 0, locals := 2803 } s m args below meth c H locs 0 0 (MQ below (QW E a (some (.int out.1)) out.2) args s 0 0 (AE E)) (F0 m 55 ls []) := by
            intro fu
            induction fu with
            | zero =>
              intro u116 H locs ls h
              have h2 : (none : Option (Int32 × HS)) = some out := h
              cases h2
            | succ fu ih =>
              intro u116 H locs ls h hR hS hl
              rw [mX9_law_L55.eq_2] at h
              refine lv_aload_n hx hb dX9_law_55 rfl (lv_at hl 0 rfl) ?_
              refine r_get C hR 9 0 6 (v := .int (gI u116 9 0 6)) (lv0 (by decide) (by decide)) (by decide) (by decide) rfl fl_X9_92 dX9_law_56 ?_
              refine lv_if_ne (tgt := 84) hx hb dX9_law_59 (by decide) (fun c_153 => ?_) (fun c_153 => ?_)
              · rw [if_neg c_153] at h
                exact Kw118 _ _ _ _ h hR hS (lv_sub hl [0] rfl)
              · rw [if_pos c_153] at h
                refine lv_aload_n hx hb dX9_law_62 rfl (lv_at hl 0 rfl) ?_
                refine r_get C hR 9 0 4 (v := .int (gI u116 9 0 4)) (lv0 (by decide) (by decide)) (by decide) (by decide) rfl fl_X9_85 dX9_law_63 ?_
                refine lv_aload_n hx hb dX9_law_66 rfl (lv_at hl 0 rfl) ?_
                refine r_get C hR 9 0 2 (v := .int (gI u116 9 0 2)) (lv0 (by decide) (by decide)) (by decide) (by decide) rfl fl_X9_82 dX9_law_67 ?_
                refine lv_icmp_ge (tgt := 84) hx hb dX9_law_70 (by decide) (fun c_154 => ?_) (fun c_154 => ?_)
                · rw [if_pos c_154] at h
                  exact Kw118 _ _ _ _ h hR hS (lv_sub hl [0] rfl)
                · rw [if_neg c_154] at h
                  refine lv_aload_n hx hb dX9_law_73 rfl (lv_at hl 0 rfl) ?_
                  obtain ⟨u156, hc155, h⟩ := ob h
                  refine r_callV0 (As := []) (rest := []) (r := 9) (i := 0) C (vX9_lawClauseHere hc155) hR hS (lv0 (by decide) (by decide)) (by decide) ml_X9_222 mw_X9_lawClauseHere rfl ⟨Nat.le_of_ble_eq_true rfl, Nat.le_of_ble_eq_true rfl, Nat.le_of_ble_eq_true rfl, Nat.le_of_ble_eq_true rfl⟩ hl.1 rfl (Nat.le_of_ble_eq_true rfl) dX9_law_74 (fun H locs hR hS => ?_)
                  refine lv_aload_n hx hb dX9_law_77 rfl (lv_at hl 0 rfl) ?_
                  obtain ⟨u158, hc157, h⟩ := ob h
                  refine r_callV0 (As := []) (rest := []) (r := 9) (i := 0) C (vX9_blanks hc157) hR hS (lv0 (by decide) (by decide)) (by decide) ml_X9_101 mw_X9_blanks rfl ⟨Nat.le_of_ble_eq_true rfl, Nat.le_of_ble_eq_true rfl, Nat.le_of_ble_eq_true rfl, Nat.le_of_ble_eq_true rfl⟩ hl.1 rfl (Nat.le_of_ble_eq_true rfl) dX9_law_78 (fun H locs hR hS => ?_)
                  refine lv_goto (tgt := 55) hx hb dX9_law_81 (by decide) ?_
                  exact ih _ _ _ _ h hR hS (lv_sub hl [0] rfl)
          exact LP FU _ _ _ _ h hR hS (lv_sub hl [0] rfl)
        · rw [if_pos c_115] at h
          refine lv_iconst (v := (-1)) hx hb dX9_law_53 (by decide) ?_
          cases h
          exact e_iret C hr hR hS (Nat.le_of_ble_eq_true rfl) (Nat.le_of_ble_eq_true rfl) dX9_law_54
      clear h
      have h := hz
      clear hz
      refine lv_icmp_ne (tgt := 46) hx hb dX9_law_39 (by decide) (fun c_159 => ?_) (fun c_159 => ?_)
      · rw [if_neg c_159] at h
        refine lv_iconst (v := 0) hx hb dX9_law_46 (by decide) ?_
        cases h
        exact Kj111 _ _ _ hR hS (lv_sub hl [0] rfl)
      · rw [if_pos c_159] at h
        refine lv_iconst (v := 1) hx hb dX9_law_42 (by decide) ?_
        refine lv_goto (tgt := 47) hx hb dX9_law_43 (by decide) ?_
        cases h
        exact Kj111 _ _ _ hR hS (lv_sub hl [0] rfl)
    · rw [if_neg c_109] at h
      refine lv_iconst (v := 0) hx hb dX9_law_30 (by decide) ?_
      cases h
      exact e_iret C hr hR hS (Nat.le_of_ble_eq_true rfl) (Nat.le_of_ble_eq_true rfl) dX9_law_31
  clear h
  have h := hz
  clear hz
  refine lv_if_ne (tgt := 22) hx hb dX9_law_15 (by decide) (fun c_160 => ?_) (fun c_160 => ?_)
  · rw [if_neg c_160] at h
    refine lv_iconst (v := 0) hx hb dX9_law_22 (by decide) ?_
    cases h
    exact Kj105 _ _ _ hR hS (lv_sub hl [0, 1] rfl)
  · rw [if_pos c_160] at h
    refine lv_iconst (v := 1) hx hb dX9_law_18 (by decide) ?_
    refine lv_goto (tgt := 23) hx hb dX9_law_19 (by decide) ?_
    cases h
    exact Kj105 _ _ _ hR hS (lv_sub hl [0, 1] rfl)
