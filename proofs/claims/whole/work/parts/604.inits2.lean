/-! ===== constructors: the reader, the view, the reference ===== -/
set_option maxHeartbeats 4000000 in
set_option maxRecDepth 100000 in
theorem vX2_init {l : Launch} {E : EV} {A0 : Nat → Nat → Prop} {P0 : Nat → Nat → Nat → Prop} {a0 : Nat → Nat → Nat} (hA0 : A0 2 0) (hA1 : A0 5 0) (hN : ∀ r i, (i = 4 ∧ (r = 1 ∨ (32 ≤ r ∧ r ≤ 36))) → ¬ A0 r i) : CtI l E yX2_init cX2_init 2 2 40 6 471 A0 P0 a0 [.ref (a0 2 0), .ref (a0 5 0)] (cA2 A0) (cP2 P0) := by
  refine CtI.start (by decide) (Nat.le_of_ble_eq_true rfl) rfl ?_
  intro p e s m args below meth c ls C hin hr h hS hl
  have C : CI E p s m args meth c cX2_init 2 RX2 := C
  obtain ⟨a, hAG, h, hl⟩ : ∃ a : Nat → Nat → Nat, AGP A0 a0 a ∧ RWm E A0 P0 a s.heap ∧ lv_has ls 2 [(0, .ref (a 2 0)), (1, .ref (a 5 0))] := ⟨a0, AGP.rf, h, hl⟩
  have hx := C.1.1
  have hb := C.1.2.1
  refine lv_aload_n hx hb dX2_init_0 rfl (lv_at hl 0 rfl) ?_
  refine w_obji C mo_X2 hl.1 (Nat.le_of_ble_eq_true rfl) (Nat.le_of_ble_eq_true rfl) dX2_init_1 ?_
  refine lv_aload_n hx hb dX2_init_4 rfl (lv_at hl 0 rfl) ?_
  refine w_new (N := 7) C h hS 1 4 (by simp [aA, cA, mA, cA2, cA7, fA, hN]) (by decide) cl_X2_9 in_1 iz_1 rfl (Nat.le_of_ble_eq_true rfl) (Nat.le_of_ble_eq_true rfl) dX2_init_5 (fun a H hag h hS => ?_)
  have hAG := hAG.tr hag (fun r9 i9 z => by simp [aA, cA, mA, cA2, cA7, fA, z])
  have hl : lv_has ls 2 [(0, .ref (a 2 0)), (1, .ref (a 5 0))] := by rw [hag 2 0 (by simp [aA, cA, mA, cA2, cA7, fA, hA0, hA1])]; rw [hag 5 0 (by simp [aA, cA, mA, cA2, cA7, fA, hA0, hA1])]; exact hl
  rw [← hag 2 0 (by simp [aA, cA, mA, cA2, cA7, fA, hA0, hA1])]
  refine lv_dup hx hb dX2_init_8 rfl ?_
  refine w_initN (host := RX8) (As := []) (rest := [.ref (a 1 4), .ref (a 2 0)]) C (vX1_init (by simp [aA, cA, mA, cA2, cA7, fA, hA0, hA1]) (fun r9 q1 q2 z => by have z1 := hN r9 4 (by omega); simp only [aA, cA, mA, cA2, cA7, fA, z1, false_or] at z; omega)) h hS (by decide) mi_1 rfl ⟨(Nat.le_of_ble_eq_true rfl), (Nat.le_of_ble_eq_true rfl), (Nat.le_of_ble_eq_true rfl), (Nat.le_of_ble_eq_true rfl)⟩ hl.1 rfl (Nat.le_of_ble_eq_true rfl) dX2_init_9 (fun a H locs hag h hS => ?_)
  have hAG := hAG.tr hag (fun r9 i9 z => by simp [aA, cA, mA, cA2, cA7, fA, z])
  have hl : lv_has ls 2 [(0, .ref (a 2 0)), (1, .ref (a 5 0))] := by rw [hag 2 0 (by simp [aA, cA, mA, cA2, cA7, fA, hA0, hA1])]; rw [hag 5 0 (by simp [aA, cA, mA, cA2, cA7, fA, hA0, hA1])]; exact hl
  rw [← hag 2 0 (by simp [aA, cA, mA, cA2, cA7, fA, hA0, hA1])]
  rw [← hag 1 4 (by simp [aA, cA, mA, cA2, cA7, fA, hA0, hA1])]
  refine w_put (v := .ref (a 1 4)) (ty := tyf 2 1) C hin h hS 2 0 1 (by simp [aA, cA, mA, cA2, cA7, fA, hA0, hA1]) (by decide) (by decide) rfl (fun t9 j9 q9 => by cases (show some (1, 4) = some (t9, j9) from q9); simp [aA, cA, mA, cA2, cA7, fA, hA0, hA1]) fl_X2_12 rfl (ty_all 2 (by decide) 1 (by decide)) rfl rfl dX2_init_12 (fun H locs h hS => ?_)
  refine lv_aload_n hx hb dX2_init_15 rfl (lv_at hl 0 rfl) ?_
  refine lv_aload_n hx hb dX2_init_16 rfl (lv_at hl 1 rfl) ?_
  refine w_put (v := .ref (a 5 0)) (ty := tyf 2 0) C hin h hS 2 0 0 (by simp [aA, cA, mA, cA2, cA7, fA, hA0, hA1]) (by decide) (by decide) rfl (fun t9 j9 q9 => by cases (show some (5, 0) = some (t9, j9) from q9); simp [aA, cA, mA, cA2, cA7, fA, hA0, hA1]) fl_X2_18 rfl (ty_all 2 (by decide) 0 (by decide)) rfl rfl dX2_init_17 (fun H locs h hS => ?_)
  have hAf : ∀ r9 j9, (cA2 A0) r9 j9 ↔ (cA (aA A0 1 4) 32 36 4) r9 j9 := by
    intro r9 j9
    by_cases z : A0 r9 j9
    · simp [cA2, aA, cA, z]
    · simp only [cA2, aA, cA, z, false_or]; omega
  have hPf : ∀ r9 j9 k9, (cP2 P0) r9 j9 k9 → (aP (aP (cP (aP P0 1 4 (fun k9 => k9 < nfS 1 ∧ fcode 1 k9 = 0 ∧ iniV 1 k9 = 0)) 1 32 36 4) 2 0 (fun k9 => k9 = 1)) 2 0 (fun k9 => k9 = 0)) r9 j9 k9 := by
    intro r9 j9 k9 w
    rcases w with w | ⟨⟨e9, c9⟩ | ⟨e9, c9⟩, hk⟩
    · simp [aP, cP, w]
    · subst e9
      rcases c9 with rfl | ⟨q1, q2⟩
      · simp [aP, cP, hk]
      · simp [aP, cP, hk, q1, q2]
    · subst e9
      subst c9
      have hk : k9 < 2 := hk
      rcases (show k9 = 0 ∨ k9 = 1 by omega) with rfl | rfl
      · simp [aP, cP]
      · simp [aP, cP]
  exact e_vretI hAG C hr (h.to hAf hPf) hS (Nat.le_of_ble_eq_true rfl) (Nat.le_of_ble_eq_true rfl) dX2_init_20
set_option maxHeartbeats 4000000 in
set_option maxRecDepth 100000 in
theorem vX7_init {l : Launch} {E : EV} {A0 : Nat → Nat → Prop} {P0 : Nat → Nat → Nat → Prop} {a0 : Nat → Nat → Nat} (hA0 : A0 7 0) (hN : ∀ r i, ((i = 6 ∧ (r = 3 ∨ r = 6 ∨ (37 ≤ r ∧ r ≤ 43))) ∨ (i = 0 ∧ 46 ≤ r ∧ r ≤ 48)) → ¬ A0 r i) : CtI l E yX7_init cX7_init 1 2 40 12 958 A0 P0 a0 [.ref (a0 7 0)] (cA7 A0) (cP7 P0) := by
  refine CtI.start (by decide) (Nat.le_of_ble_eq_true rfl) rfl ?_
  have hA1 : True := trivial
  intro p e s m args below meth c ls C hin hr h hS hl
  have C : CI E p s m args meth c cX7_init 1 RX7 := C
  obtain ⟨a, hAG, h, hl⟩ : ∃ a : Nat → Nat → Nat, AGP A0 a0 a ∧ RWm E A0 P0 a s.heap ∧ lv_has ls 1 [(0, .ref (a 7 0))] := ⟨a0, AGP.rf, h, hl⟩
  have hx := C.1.1
  have hb := C.1.2.1
  refine lv_aload_n hx hb dX7_init_0 rfl (lv_at hl 0 rfl) ?_
  refine w_obji C mo_X7 hl.1 (Nat.le_of_ble_eq_true rfl) (Nat.le_of_ble_eq_true rfl) dX7_init_1 ?_
  refine lv_aload_n hx hb dX7_init_4 rfl (lv_at hl 0 rfl) ?_
  refine w_new (N := 14) C h hS 3 6 (by simp [aA, cA, mA, cA2, cA7, fA, hN]) (by decide) cl_X7_9 in_3 iz_3 rfl (Nat.le_of_ble_eq_true rfl) (Nat.le_of_ble_eq_true rfl) dX7_init_5 (fun a H hag h hS => ?_)
  have hAG := hAG.tr hag (fun r9 i9 z => by simp [aA, cA, mA, cA2, cA7, fA, z])
  have hl : lv_has ls 1 [(0, .ref (a 7 0))] := by rw [hag 7 0 (by simp [aA, cA, mA, cA2, cA7, fA, hA0, hA1])]; exact hl
  rw [← hag 7 0 (by simp [aA, cA, mA, cA2, cA7, fA, hA0, hA1])]
  refine lv_dup hx hb dX7_init_8 rfl ?_
  refine w_initN (host := RX8) (As := []) (rest := [.ref (a 3 6), .ref (a 7 0)]) C (vX3_init (by simp [aA, cA, mA, cA2, cA7, fA, hA0, hA1]) (fun r9 q1 q2 z => by have z1 := hN r9 6 (by omega); simp only [aA, cA, mA, cA2, cA7, fA, z1, false_or] at z; omega)) h hS (by decide) mi_3 rfl ⟨(Nat.le_of_ble_eq_true rfl), (Nat.le_of_ble_eq_true rfl), (Nat.le_of_ble_eq_true rfl), (Nat.le_of_ble_eq_true rfl)⟩ hl.1 rfl (Nat.le_of_ble_eq_true rfl) dX7_init_9 (fun a H locs hag h hS => ?_)
  have hAG := hAG.tr hag (fun r9 i9 z => by simp [aA, cA, mA, cA2, cA7, fA, z])
  have hl : lv_has ls 1 [(0, .ref (a 7 0))] := by rw [hag 7 0 (by simp [aA, cA, mA, cA2, cA7, fA, hA0, hA1])]; exact hl
  rw [← hag 7 0 (by simp [aA, cA, mA, cA2, cA7, fA, hA0, hA1])]
  rw [← hag 3 6 (by simp [aA, cA, mA, cA2, cA7, fA, hA0, hA1])]
  refine w_put (v := .ref (a 3 6)) (ty := tyf 7 0) C hin h hS 7 0 0 (by simp [aA, cA, mA, cA2, cA7, fA, hA0, hA1]) (by decide) (by decide) rfl (fun t9 j9 q9 => by cases (show some (3, 6) = some (t9, j9) from q9); simp [aA, cA, mA, cA2, cA7, fA, hA0, hA1]) fl_X7_12 rfl (ty_all 7 (by decide) 0 (by decide)) rfl rfl dX7_init_12 (fun H locs h hS => ?_)
  refine lv_aload_n hx hb dX7_init_15 rfl (lv_at hl 0 rfl) ?_
  refine w_new (N := 5) C h hS 6 6 (by simp [aA, cA, mA, cA2, cA7, fA, hN]) (by decide) cl_X7_18 in_6 iz_6 rfl (Nat.le_of_ble_eq_true rfl) (Nat.le_of_ble_eq_true rfl) dX7_init_16 (fun a H hag h hS => ?_)
  have hAG := hAG.tr hag (fun r9 i9 z => by simp [aA, cA, mA, cA2, cA7, fA, z])
  have hl : lv_has ls 1 [(0, .ref (a 7 0))] := by rw [hag 7 0 (by simp [aA, cA, mA, cA2, cA7, fA, hA0, hA1])]; exact hl
  rw [← hag 7 0 (by simp [aA, cA, mA, cA2, cA7, fA, hA0, hA1])]
  refine lv_dup hx hb dX7_init_19 rfl ?_
  refine w_initN (host := RX8) (As := []) (rest := [.ref (a 6 6), .ref (a 7 0)]) C (vX6_init (by simp [aA, cA, mA, cA2, cA7, fA, hA0, hA1]) (fun _ q1 q2 => absurd q1 (by omega))) h hS (by decide) mi_6 rfl ⟨(Nat.le_of_ble_eq_true rfl), (Nat.le_of_ble_eq_true rfl), (Nat.le_of_ble_eq_true rfl), (Nat.le_of_ble_eq_true rfl)⟩ hl.1 rfl (Nat.le_of_ble_eq_true rfl) dX7_init_20 (fun a H locs hag h hS => ?_)
  have hAG := hAG.tr hag (fun r9 i9 z => by simp [aA, cA, mA, cA2, cA7, fA, z])
  have hl : lv_has ls 1 [(0, .ref (a 7 0))] := by rw [hag 7 0 (by simp [aA, cA, mA, cA2, cA7, fA, hA0, hA1])]; exact hl
  rw [← hag 7 0 (by simp [aA, cA, mA, cA2, cA7, fA, hA0, hA1])]
  rw [← hag 6 6 (by simp [aA, cA, mA, cA2, cA7, fA, hA0, hA1])]
  refine w_put (v := .ref (a 6 6)) (ty := tyf 7 1) C hin h hS 7 0 1 (by simp [aA, cA, mA, cA2, cA7, fA, hA0, hA1]) (by decide) (by decide) rfl (fun t9 j9 q9 => by cases (show some (6, 6) = some (t9, j9) from q9); simp [aA, cA, mA, cA2, cA7, fA, hA0, hA1]) fl_X7_21 rfl (ty_all 7 (by decide) 1 (by decide)) rfl rfl dX7_init_23 (fun H locs h hS => ?_)
  refine lv_aload_n hx hb dX7_init_26 rfl (lv_at hl 0 rfl) ?_
  refine lv_iconst (v := 0) hx hb dX7_init_27 (by decide) ?_
  refine w_put (v := .int 0) (ty := tyf 7 2) C hin h hS 7 0 2 (by simp [aA, cA, mA, cA2, cA7, fA, hA0, hA1]) (by decide) (by decide) rfl (fun t9 j9 q9 => by cases (show (none : Option (Nat × Nat)) = some (t9, j9) from q9)) fl_X7_25 rfl (ty_all 7 (by decide) 2 (by decide)) rfl rfl dX7_init_28 (fun H locs h hS => ?_)
  refine lv_aload_n hx hb dX7_init_31 rfl (lv_at hl 0 rfl) ?_
  refine lv_sipush (v := 300) hx hb dX7_init_32 (by decide) ?_
  refine w_newI (N := 300) C h hS 46 0 (by simp [aA, cA, mA, cA2, cA7, fA, hN]) (by decide) rfl rfl (by decide) rfl (by decide) (by decide) (Nat.le_of_ble_eq_true rfl) (Nat.le_of_ble_eq_true rfl) dX7_init_35 (fun a H hag h hS => ?_)
  have hAG := hAG.tr hag (fun r9 i9 z => by simp [aA, cA, mA, cA2, cA7, fA, z])
  have hl : lv_has ls 1 [(0, .ref (a 7 0))] := by rw [hag 7 0 (by simp [aA, cA, mA, cA2, cA7, fA, hA0, hA1])]; exact hl
  rw [← hag 7 0 (by simp [aA, cA, mA, cA2, cA7, fA, hA0, hA1])]
  refine w_put (v := .ref (a 46 0)) (ty := tyf 7 3) C hin h hS 7 0 3 (by simp [aA, cA, mA, cA2, cA7, fA, hA0, hA1]) (by decide) (by decide) rfl (fun t9 j9 q9 => by cases (show some (46, 0) = some (t9, j9) from q9); simp [aA, cA, mA, cA2, cA7, fA, hA0, hA1]) fl_X7_29 rfl (ty_all 7 (by decide) 3 (by decide)) rfl rfl dX7_init_37 (fun H locs h hS => ?_)
  refine lv_aload_n hx hb dX7_init_40 rfl (lv_at hl 0 rfl) ?_
  refine lv_sipush (v := 300) hx hb dX7_init_41 (by decide) ?_
  refine w_newI (N := 300) C h hS 47 0 (by simp [aA, cA, mA, cA2, cA7, fA, hN]) (by decide) rfl rfl (by decide) rfl (by decide) (by decide) (Nat.le_of_ble_eq_true rfl) (Nat.le_of_ble_eq_true rfl) dX7_init_44 (fun a H hag h hS => ?_)
  have hAG := hAG.tr hag (fun r9 i9 z => by simp [aA, cA, mA, cA2, cA7, fA, z])
  have hl : lv_has ls 1 [(0, .ref (a 7 0))] := by rw [hag 7 0 (by simp [aA, cA, mA, cA2, cA7, fA, hA0, hA1])]; exact hl
  rw [← hag 7 0 (by simp [aA, cA, mA, cA2, cA7, fA, hA0, hA1])]
  refine w_put (v := .ref (a 47 0)) (ty := tyf 7 4) C hin h hS 7 0 4 (by simp [aA, cA, mA, cA2, cA7, fA, hA0, hA1]) (by decide) (by decide) rfl (fun t9 j9 q9 => by cases (show some (47, 0) = some (t9, j9) from q9); simp [aA, cA, mA, cA2, cA7, fA, hA0, hA1]) fl_X7_33 rfl (ty_all 7 (by decide) 4 (by decide)) rfl rfl dX7_init_46 (fun H locs h hS => ?_)
  refine lv_aload_n hx hb dX7_init_49 rfl (lv_at hl 0 rfl) ?_
  refine lv_bipush (v := 11) hx hb dX7_init_50 (by decide) ?_
  refine w_newI (N := 11) C h hS 48 0 (by simp [aA, cA, mA, cA2, cA7, fA, hN]) (by decide) rfl rfl (by decide) rfl (by decide) (by decide) (Nat.le_of_ble_eq_true rfl) (Nat.le_of_ble_eq_true rfl) dX7_init_52 (fun a H hag h hS => ?_)
  have hAG := hAG.tr hag (fun r9 i9 z => by simp [aA, cA, mA, cA2, cA7, fA, z])
  have hl : lv_has ls 1 [(0, .ref (a 7 0))] := by rw [hag 7 0 (by simp [aA, cA, mA, cA2, cA7, fA, hA0, hA1])]; exact hl
  rw [← hag 7 0 (by simp [aA, cA, mA, cA2, cA7, fA, hA0, hA1])]
  refine w_put (v := .ref (a 48 0)) (ty := tyf 7 5) C hin h hS 7 0 5 (by simp [aA, cA, mA, cA2, cA7, fA, hA0, hA1]) (by decide) (by decide) rfl (fun t9 j9 q9 => by cases (show some (48, 0) = some (t9, j9) from q9); simp [aA, cA, mA, cA2, cA7, fA, hA0, hA1]) fl_X7_36 rfl (ty_all 7 (by decide) 5 (by decide)) rfl rfl dX7_init_54 (fun H locs h hS => ?_)
  refine lv_aload_n hx hb dX7_init_57 rfl (lv_at hl 0 rfl) ?_
  refine lv_iconst (v := 0) hx hb dX7_init_58 (by decide) ?_
  refine w_put (v := .int 0) (ty := tyf 7 6) C hin h hS 7 0 6 (by simp [aA, cA, mA, cA2, cA7, fA, hA0, hA1]) (by decide) (by decide) rfl (fun t9 j9 q9 => by cases (show (none : Option (Nat × Nat)) = some (t9, j9) from q9)) fl_X7_39 rfl (ty_all 7 (by decide) 6 (by decide)) rfl rfl dX7_init_59 (fun H locs h hS => ?_)
  refine lv_aload_n hx hb dX7_init_62 rfl (lv_at hl 0 rfl) ?_
  refine lv_iconst (v := (-1)) hx hb dX7_init_63 (by decide) ?_
  refine w_put (v := .int (-1)) (ty := tyf 7 7) C hin h hS 7 0 7 (by simp [aA, cA, mA, cA2, cA7, fA, hA0, hA1]) (by decide) (by decide) rfl (fun t9 j9 q9 => by cases (show (none : Option (Nat × Nat)) = some (t9, j9) from q9)) fl_X7_42 rfl (ty_all 7 (by decide) 7 (by decide)) rfl rfl dX7_init_64 (fun H locs h hS => ?_)
  refine lv_aload_n hx hb dX7_init_67 rfl (lv_at hl 0 rfl) ?_
  refine lv_iconst (v := 0) hx hb dX7_init_68 (by decide) ?_
  refine w_put (v := .int 0) (ty := tyf 7 8) C hin h hS 7 0 8 (by simp [aA, cA, mA, cA2, cA7, fA, hA0, hA1]) (by decide) (by decide) rfl (fun t9 j9 q9 => by cases (show (none : Option (Nat × Nat)) = some (t9, j9) from q9)) fl_X7_46 rfl (ty_all 7 (by decide) 8 (by decide)) rfl rfl dX7_init_69 (fun H locs h hS => ?_)
  refine lv_aload_n hx hb dX7_init_72 rfl (lv_at hl 0 rfl) ?_
  refine lv_iconst (v := 1) hx hb dX7_init_73 (by decide) ?_
  refine w_put (v := .int 1) (ty := tyf 7 9) C hin h hS 7 0 9 (by simp [aA, cA, mA, cA2, cA7, fA, hA0, hA1]) (by decide) (by decide) rfl (fun t9 j9 q9 => by cases (show (none : Option (Nat × Nat)) = some (t9, j9) from q9)) fl_X7_49 rfl (ty_all 7 (by decide) 9 (by decide)) rfl rfl dX7_init_74 (fun H locs h hS => ?_)
  have hAf : ∀ r9 j9, (cA7 A0) r9 j9 ↔ (aA (aA (aA (cA (aA (cA (aA A0 3 6) 37 43 6) 6 6) 1 0 6) 46 0) 47 0) 48 0) r9 j9 := by
    intro r9 j9
    by_cases z : A0 r9 j9
    · simp [cA7, aA, cA, z]
    · simp only [cA7, aA, cA, z, false_or]; omega
  have hPf : ∀ r9 j9 k9, (cP7 P0) r9 j9 k9 → (aP (aP (aP (aP (aP (aP (aP (aP (aP (aP (aP (aP (cP (aP (aP (cP (aP P0 3 6 (fun k9 => k9 < nfS 3 ∧ fcode 3 k9 = 0 ∧ iniV 3 k9 = 0)) 3 37 43 6) 7 0 (fun k9 => k9 = 0)) 6 6 (fun k9 => k9 < nfS 6 ∧ fcode 6 k9 = 0 ∧ iniV 6 k9 = 0)) 6 1 0 6) 7 0 (fun k9 => k9 = 1)) 7 0 (fun k9 => k9 = 2)) 46 0 (fun k9 => gI σ0 46 0 k9 = 0)) 7 0 (fun k9 => k9 = 3)) 47 0 (fun k9 => gI σ0 47 0 k9 = 0)) 7 0 (fun k9 => k9 = 4)) 48 0 (fun k9 => gI σ0 48 0 k9 = 0)) 7 0 (fun k9 => k9 = 5)) 7 0 (fun k9 => k9 = 6)) 7 0 (fun k9 => k9 = 7)) 7 0 (fun k9 => k9 = 8)) 7 0 (fun k9 => k9 = 9)) r9 j9 k9 := by
    intro r9 j9 k9 w
    rcases w with w | ⟨⟨e9, c9⟩ | ⟨e9, c9⟩, hk⟩
    · simp [aP, cP, w]
    · subst e9
      rcases c9 with rfl | rfl | ⟨q1, q2⟩
      · simp [aP, cP, hk]
      · simp [aP, cP, hk]
      · simp [aP, cP, hk, q1, q2]
    · subst e9
      rcases c9 with rfl | c9
      · have hk : k9 < 10 := hk
        rcases (show k9 = 0 ∨ k9 = 1 ∨ k9 = 2 ∨ k9 = 3 ∨ k9 = 4 ∨ k9 = 5 ∨ k9 = 6 ∨ k9 = 7 ∨ k9 = 8 ∨ k9 = 9 by omega) with rfl | rfl | rfl | rfl | rfl | rfl | rfl | rfl | rfl | rfl
        · simp [aP, cP]
        · simp [aP, cP]
        · simp [aP, cP]
        · simp [aP, cP]
        · simp [aP, cP]
        · simp [aP, cP]
        · simp [aP, cP]
        · simp [aP, cP]
        · simp [aP, cP]
        · simp [aP, cP]
      · rcases (show r9 = 46 ∨ r9 = 47 ∨ r9 = 48 by omega) with rfl | rfl | rfl
        · simp [aP, cP, show gI σ0 46 0 k9 = 0 from rfl]
        · simp [aP, cP, show gI σ0 47 0 k9 = 0 from rfl]
        · simp [aP, cP, show gI σ0 48 0 k9 = 0 from rfl]
  exact e_vretI hAG C hr (h.to hAf hPf) hS (Nat.le_of_ble_eq_true rfl) (Nat.le_of_ble_eq_true rfl) dX7_init_77
set_option maxHeartbeats 4000000 in
set_option maxRecDepth 100000 in
theorem vX9_init {l : Launch} {E : EV} {A0 : Nat → Nat → Prop} {P0 : Nat → Nat → Nat → Prop} {a0 : Nat → Nat → Nat} (hA0 : A0 9 0) (hN : ∀ r i, 60 ≤ r → r ≤ 87 → ¬ A0 r i) (hP0 : ∀ k, k < 43 → fcode 9 k = 0 → iniV 9 k = 0 → P0 9 0 k) : CtI l E yX9_init cX9_init 1 1 20 426 7255 A0 P0 a0 [.ref (a0 9 0)] (cA9 A0) (cP9 P0) := by
  refine CtI.start (by decide) (Nat.le_of_ble_eq_true rfl) rfl ?_
  have hA1 : True := trivial
  intro p e s m args below meth c ls C hin hr h hS hl
  have C : CI E p s m args meth c cX9_init 1 RX9 := C
  obtain ⟨a, hAG, h, hl⟩ : ∃ a : Nat → Nat → Nat, AGP A0 a0 a ∧ RWm E A0 P0 a s.heap ∧ lv_has ls 1 [(0, .ref (a 9 0))] := ⟨a0, AGP.rf, h, hl⟩
  have hx := C.1.1
  have hb := C.1.2.1
  refine lv_aload_n hx hb dX9_init_0 rfl (lv_at hl 0 rfl) ?_
  refine w_obji C mo_X9 hl.1 (Nat.le_of_ble_eq_true rfl) (Nat.le_of_ble_eq_true rfl) dX9_init_1 ?_
  refine lv_aload_n hx hb dX9_init_4 rfl (lv_at hl 0 rfl) ?_
  refine lv_iconst (v := (-1)) hx hb dX9_init_5 (by decide) ?_
  refine w_put (v := .int (-1)) (ty := tyf 9 3) C hin h hS 9 0 3 (by simp [aA, cA, mA, cA2, cA7, fA, hA0, hA1]) (by decide) (by decide) rfl (fun t9 j9 q9 => by cases (show (none : Option (Nat × Nat)) = some (t9, j9) from q9)) fl_X9_9 rfl (ty_all 9 (by decide) 3 (by decide)) rfl rfl dX9_init_6 (fun H locs h hS => ?_)
  refine lv_aload_n hx hb dX9_init_9 rfl (lv_at hl 0 rfl) ?_
  refine lv_sipush (v := 400) hx hb dX9_init_10 (by decide) ?_
  refine w_newI (N := 400) C h hS 60 0 (by simp [aA, cA, mA, cA2, cA7, fA, hN]) (by decide) rfl rfl (by decide) rfl (by decide) (by decide) (Nat.le_of_ble_eq_true rfl) (Nat.le_of_ble_eq_true rfl) dX9_init_13 (fun a H hag h hS => ?_)
  have hAG := hAG.tr hag (fun r9 i9 z => by simp [aA, cA, mA, cA2, cA7, fA, z])
  have hl : lv_has ls 1 [(0, .ref (a 9 0))] := by rw [hag 9 0 (by simp [aA, cA, mA, cA2, cA7, fA, hA0, hA1])]; exact hl
  rw [← hag 9 0 (by simp [aA, cA, mA, cA2, cA7, fA, hA0, hA1])]
  refine w_put (v := .ref (a 60 0)) (ty := tyf 9 11) C hin h hS 9 0 11 (by simp [aA, cA, mA, cA2, cA7, fA, hA0, hA1]) (by decide) (by decide) rfl (fun t9 j9 q9 => by cases (show some (60, 0) = some (t9, j9) from q9); simp [aA, cA, mA, cA2, cA7, fA, hA0, hA1]) fl_X9_13 rfl (ty_all 9 (by decide) 11 (by decide)) rfl rfl dX9_init_15 (fun H locs h hS => ?_)
  refine lv_aload_n hx hb dX9_init_18 rfl (lv_at hl 0 rfl) ?_
  refine lv_sipush (v := 500) hx hb dX9_init_19 (by decide) ?_
  refine w_newI (N := 500) C h hS 61 0 (by simp [aA, cA, mA, cA2, cA7, fA, hN]) (by decide) rfl rfl (by decide) rfl (by decide) (by decide) (Nat.le_of_ble_eq_true rfl) (Nat.le_of_ble_eq_true rfl) dX9_init_22 (fun a H hag h hS => ?_)
  have hAG := hAG.tr hag (fun r9 i9 z => by simp [aA, cA, mA, cA2, cA7, fA, z])
  have hl : lv_has ls 1 [(0, .ref (a 9 0))] := by rw [hag 9 0 (by simp [aA, cA, mA, cA2, cA7, fA, hA0, hA1])]; exact hl
  rw [← hag 9 0 (by simp [aA, cA, mA, cA2, cA7, fA, hA0, hA1])]
  refine w_put (v := .ref (a 61 0)) (ty := tyf 9 12) C hin h hS 9 0 12 (by simp [aA, cA, mA, cA2, cA7, fA, hA0, hA1]) (by decide) (by decide) rfl (fun t9 j9 q9 => by cases (show some (61, 0) = some (t9, j9) from q9); simp [aA, cA, mA, cA2, cA7, fA, hA0, hA1]) fl_X9_17 rfl (ty_all 9 (by decide) 12 (by decide)) rfl rfl dX9_init_24 (fun H locs h hS => ?_)
  refine lv_aload_n hx hb dX9_init_27 rfl (lv_at hl 0 rfl) ?_
  refine lv_bipush (v := 24) hx hb dX9_init_28 (by decide) ?_
  refine lv_bipush (v := 8) hx hb dX9_init_30 (by decide) ?_
  refine w_multi (N := 24) (M := 8) C h hS 62 (by simp [aA, cA, mA, cA2, cA7, fA, hN]) (fun j9 hj9 => (by simp [aA, cA, mA, cA2, cA7, fA, hN])) (by decide) rfl rfl rfl rfl rfl rfl (fun _ => rfl) (fun _ _ => rfl) cl_X9_20 (by decide) (by decide) (by decide) (by decide) (by decide) (by decide) (Nat.le_of_ble_eq_true rfl) (Nat.le_of_ble_eq_true rfl) dX9_init_32 (fun a H hag h hS => ?_)
  have hAG := hAG.tr hag (fun r9 i9 z => by simp [aA, cA, mA, cA2, cA7, fA, z])
  have hl : lv_has ls 1 [(0, .ref (a 9 0))] := by rw [hag 9 0 (by simp [aA, cA, mA, cA2, cA7, fA, hA0, hA1])]; exact hl
  rw [← hag 9 0 (by simp [aA, cA, mA, cA2, cA7, fA, hA0, hA1])]
  refine w_put (v := .ref (a 62 0)) (ty := tyf 9 13) C hin h hS 9 0 13 (by simp [aA, cA, mA, cA2, cA7, fA, hA0, hA1]) (by decide) (by decide) rfl (fun t9 j9 q9 => by cases (show some (62, 0) = some (t9, j9) from q9); simp [aA, cA, mA, cA2, cA7, fA, hA0, hA1]) fl_X9_22 rfl (ty_all 9 (by decide) 13 (by decide)) rfl rfl dX9_init_36 (fun H locs h hS => ?_)
  refine lv_aload_n hx hb dX9_init_39 rfl (lv_at hl 0 rfl) ?_
  refine lv_sipush (v := 144) hx hb dX9_init_40 (by decide) ?_
  refine lv_bipush (v := 8) hx hb dX9_init_43 (by decide) ?_
  refine w_multi (N := 144) (M := 8) C h hS 64 (by simp [aA, cA, mA, cA2, cA7, fA, hN]) (fun j9 hj9 => (by simp [aA, cA, mA, cA2, cA7, fA, hN])) (by decide) rfl rfl rfl rfl rfl rfl (fun _ => rfl) (fun _ _ => rfl) cl_X9_20 (by decide) (by decide) (by decide) (by decide) (by decide) (by decide) (Nat.le_of_ble_eq_true rfl) (Nat.le_of_ble_eq_true rfl) dX9_init_45 (fun a H hag h hS => ?_)
  have hAG := hAG.tr hag (fun r9 i9 z => by simp [aA, cA, mA, cA2, cA7, fA, z])
  have hl : lv_has ls 1 [(0, .ref (a 9 0))] := by rw [hag 9 0 (by simp [aA, cA, mA, cA2, cA7, fA, hA0, hA1])]; exact hl
  rw [← hag 9 0 (by simp [aA, cA, mA, cA2, cA7, fA, hA0, hA1])]
  refine w_put (v := .ref (a 64 0)) (ty := tyf 9 17) C hin h hS 9 0 17 (by simp [aA, cA, mA, cA2, cA7, fA, hA0, hA1]) (by decide) (by decide) rfl (fun t9 j9 q9 => by cases (show some (64, 0) = some (t9, j9) from q9); simp [aA, cA, mA, cA2, cA7, fA, hA0, hA1]) fl_X9_25 rfl (ty_all 9 (by decide) 17 (by decide)) rfl rfl dX9_init_49 (fun H locs h hS => ?_)
  refine lv_aload_n hx hb dX9_init_52 rfl (lv_at hl 0 rfl) ?_
  refine lv_bipush (v := 6) hx hb dX9_init_53 (by decide) ?_
  refine w_newI (N := 6) C h hS 66 0 (by simp [aA, cA, mA, cA2, cA7, fA, hN]) (by decide) rfl rfl (by decide) rfl (by decide) (by decide) (Nat.le_of_ble_eq_true rfl) (Nat.le_of_ble_eq_true rfl) dX9_init_55 (fun a H hag h hS => ?_)
  have hAG := hAG.tr hag (fun r9 i9 z => by simp [aA, cA, mA, cA2, cA7, fA, z])
  have hl : lv_has ls 1 [(0, .ref (a 9 0))] := by rw [hag 9 0 (by simp [aA, cA, mA, cA2, cA7, fA, hA0, hA1])]; exact hl
  rw [← hag 9 0 (by simp [aA, cA, mA, cA2, cA7, fA, hA0, hA1])]
  refine w_put (v := .ref (a 66 0)) (ty := tyf 9 18) C hin h hS 9 0 18 (by simp [aA, cA, mA, cA2, cA7, fA, hA0, hA1]) (by decide) (by decide) rfl (fun t9 j9 q9 => by cases (show some (66, 0) = some (t9, j9) from q9); simp [aA, cA, mA, cA2, cA7, fA, hA0, hA1]) fl_X9_28 rfl (ty_all 9 (by decide) 18 (by decide)) rfl rfl dX9_init_57 (fun H locs h hS => ?_)
  refine lv_aload_n hx hb dX9_init_60 rfl (lv_at hl 0 rfl) ?_
  refine lv_bipush (v := 6) hx hb dX9_init_61 (by decide) ?_
  refine w_newI (N := 6) C h hS 67 0 (by simp [aA, cA, mA, cA2, cA7, fA, hN]) (by decide) rfl rfl (by decide) rfl (by decide) (by decide) (Nat.le_of_ble_eq_true rfl) (Nat.le_of_ble_eq_true rfl) dX9_init_63 (fun a H hag h hS => ?_)
  have hAG := hAG.tr hag (fun r9 i9 z => by simp [aA, cA, mA, cA2, cA7, fA, z])
  have hl : lv_has ls 1 [(0, .ref (a 9 0))] := by rw [hag 9 0 (by simp [aA, cA, mA, cA2, cA7, fA, hA0, hA1])]; exact hl
  rw [← hag 9 0 (by simp [aA, cA, mA, cA2, cA7, fA, hA0, hA1])]
  refine w_put (v := .ref (a 67 0)) (ty := tyf 9 19) C hin h hS 9 0 19 (by simp [aA, cA, mA, cA2, cA7, fA, hA0, hA1]) (by decide) (by decide) rfl (fun t9 j9 q9 => by cases (show some (67, 0) = some (t9, j9) from q9); simp [aA, cA, mA, cA2, cA7, fA, hA0, hA1]) fl_X9_31 rfl (ty_all 9 (by decide) 19 (by decide)) rfl rfl dX9_init_65 (fun H locs h hS => ?_)
  refine lv_aload_n hx hb dX9_init_68 rfl (lv_at hl 0 rfl) ?_
  refine lv_bipush (v := 48) hx hb dX9_init_69 (by decide) ?_
  refine lv_iconst (v := 2) hx hb dX9_init_71 (by decide) ?_
  refine w_multi (N := 48) (M := 2) C h hS 68 (by simp [aA, cA, mA, cA2, cA7, fA, hN]) (fun j9 hj9 => (by simp [aA, cA, mA, cA2, cA7, fA, hN])) (by decide) rfl rfl rfl rfl rfl rfl (fun _ => rfl) (fun _ _ => rfl) cl_X9_20 (by decide) (by decide) (by decide) (by decide) (by decide) (by decide) (Nat.le_of_ble_eq_true rfl) (Nat.le_of_ble_eq_true rfl) dX9_init_72 (fun a H hag h hS => ?_)
  have hAG := hAG.tr hag (fun r9 i9 z => by simp [aA, cA, mA, cA2, cA7, fA, z])
  have hl : lv_has ls 1 [(0, .ref (a 9 0))] := by rw [hag 9 0 (by simp [aA, cA, mA, cA2, cA7, fA, hA0, hA1])]; exact hl
  rw [← hag 9 0 (by simp [aA, cA, mA, cA2, cA7, fA, hA0, hA1])]
  refine w_put (v := .ref (a 68 0)) (ty := tyf 9 20) C hin h hS 9 0 20 (by simp [aA, cA, mA, cA2, cA7, fA, hA0, hA1]) (by decide) (by decide) rfl (fun t9 j9 q9 => by cases (show some (68, 0) = some (t9, j9) from q9); simp [aA, cA, mA, cA2, cA7, fA, hA0, hA1]) fl_X9_34 rfl (ty_all 9 (by decide) 20 (by decide)) rfl rfl dX9_init_76 (fun H locs h hS => ?_)
  refine lv_aload_n hx hb dX9_init_79 rfl (lv_at hl 0 rfl) ?_
  refine lv_bipush (v := 6) hx hb dX9_init_80 (by decide) ?_
  refine lv_iconst (v := 5) hx hb dX9_init_82 (by decide) ?_
  refine w_multi (N := 6) (M := 5) C h hS 70 (by simp [aA, cA, mA, cA2, cA7, fA, hN]) (fun j9 hj9 => (by simp [aA, cA, mA, cA2, cA7, fA, hN])) (by decide) rfl rfl rfl rfl rfl rfl (fun _ => rfl) (fun _ _ => rfl) cl_X9_20 (by decide) (by decide) (by decide) (by decide) (by decide) (by decide) (Nat.le_of_ble_eq_true rfl) (Nat.le_of_ble_eq_true rfl) dX9_init_83 (fun a H hag h hS => ?_)
  have hAG := hAG.tr hag (fun r9 i9 z => by simp [aA, cA, mA, cA2, cA7, fA, z])
  have hl : lv_has ls 1 [(0, .ref (a 9 0))] := by rw [hag 9 0 (by simp [aA, cA, mA, cA2, cA7, fA, hA0, hA1])]; exact hl
  rw [← hag 9 0 (by simp [aA, cA, mA, cA2, cA7, fA, hA0, hA1])]
  refine w_put (v := .ref (a 70 0)) (ty := tyf 9 21) C hin h hS 9 0 21 (by simp [aA, cA, mA, cA2, cA7, fA, hA0, hA1]) (by decide) (by decide) rfl (fun t9 j9 q9 => by cases (show some (70, 0) = some (t9, j9) from q9); simp [aA, cA, mA, cA2, cA7, fA, hA0, hA1]) fl_X9_37 rfl (ty_all 9 (by decide) 21 (by decide)) rfl rfl dX9_init_87 (fun H locs h hS => ?_)
  refine lv_aload_n hx hb dX9_init_90 rfl (lv_at hl 0 rfl) ?_
  refine lv_iconst (v := 4) hx hb dX9_init_91 (by decide) ?_
  refine lv_sipush (v := 500) hx hb dX9_init_92 (by decide) ?_
  refine w_multi (N := 4) (M := 500) C h hS 72 (by simp [aA, cA, mA, cA2, cA7, fA, hN]) (fun j9 hj9 => (by simp [aA, cA, mA, cA2, cA7, fA, hN])) (by decide) rfl rfl rfl rfl rfl rfl (fun _ => rfl) (fun _ _ => rfl) cl_X9_20 (by decide) (by decide) (by decide) (by decide) (by decide) (by decide) (Nat.le_of_ble_eq_true rfl) (Nat.le_of_ble_eq_true rfl) dX9_init_95 (fun a H hag h hS => ?_)
  have hAG := hAG.tr hag (fun r9 i9 z => by simp [aA, cA, mA, cA2, cA7, fA, z])
  have hl : lv_has ls 1 [(0, .ref (a 9 0))] := by rw [hag 9 0 (by simp [aA, cA, mA, cA2, cA7, fA, hA0, hA1])]; exact hl
  rw [← hag 9 0 (by simp [aA, cA, mA, cA2, cA7, fA, hA0, hA1])]
  refine w_put (v := .ref (a 72 0)) (ty := tyf 9 22) C hin h hS 9 0 22 (by simp [aA, cA, mA, cA2, cA7, fA, hA0, hA1]) (by decide) (by decide) rfl (fun t9 j9 q9 => by cases (show some (72, 0) = some (t9, j9) from q9); simp [aA, cA, mA, cA2, cA7, fA, hA0, hA1]) fl_X9_40 rfl (ty_all 9 (by decide) 22 (by decide)) rfl rfl dX9_init_99 (fun H locs h hS => ?_)
  refine lv_aload_n hx hb dX9_init_102 rfl (lv_at hl 0 rfl) ?_
  refine lv_bipush (v := 64) hx hb dX9_init_103 (by decide) ?_
  refine lv_iconst (v := 4) hx hb dX9_init_105 (by decide) ?_
  refine w_multi (N := 64) (M := 4) C h hS 74 (by simp [aA, cA, mA, cA2, cA7, fA, hN]) (fun j9 hj9 => (by simp [aA, cA, mA, cA2, cA7, fA, hN])) (by decide) rfl rfl rfl rfl rfl rfl (fun _ => rfl) (fun _ _ => rfl) cl_X9_20 (by decide) (by decide) (by decide) (by decide) (by decide) (by decide) (Nat.le_of_ble_eq_true rfl) (Nat.le_of_ble_eq_true rfl) dX9_init_106 (fun a H hag h hS => ?_)
  have hAG := hAG.tr hag (fun r9 i9 z => by simp [aA, cA, mA, cA2, cA7, fA, z])
  have hl : lv_has ls 1 [(0, .ref (a 9 0))] := by rw [hag 9 0 (by simp [aA, cA, mA, cA2, cA7, fA, hA0, hA1])]; exact hl
  rw [← hag 9 0 (by simp [aA, cA, mA, cA2, cA7, fA, hA0, hA1])]
  refine w_put (v := .ref (a 74 0)) (ty := tyf 9 23) C hin h hS 9 0 23 (by simp [aA, cA, mA, cA2, cA7, fA, hA0, hA1]) (by decide) (by decide) rfl (fun t9 j9 q9 => by cases (show some (74, 0) = some (t9, j9) from q9); simp [aA, cA, mA, cA2, cA7, fA, hA0, hA1]) fl_X9_43 rfl (ty_all 9 (by decide) 23 (by decide)) rfl rfl dX9_init_110 (fun H locs h hS => ?_)
  refine lv_aload_n hx hb dX9_init_113 rfl (lv_at hl 0 rfl) ?_
  refine lv_iconst (v := 4) hx hb dX9_init_114 (by decide) ?_
  refine w_newI (N := 4) C h hS 76 0 (by simp [aA, cA, mA, cA2, cA7, fA, hN]) (by decide) rfl rfl (by decide) rfl (by decide) (by decide) (Nat.le_of_ble_eq_true rfl) (Nat.le_of_ble_eq_true rfl) dX9_init_115 (fun a H hag h hS => ?_)
  have hAG := hAG.tr hag (fun r9 i9 z => by simp [aA, cA, mA, cA2, cA7, fA, z])
  have hl : lv_has ls 1 [(0, .ref (a 9 0))] := by rw [hag 9 0 (by simp [aA, cA, mA, cA2, cA7, fA, hA0, hA1])]; exact hl
  rw [← hag 9 0 (by simp [aA, cA, mA, cA2, cA7, fA, hA0, hA1])]
  refine w_put (v := .ref (a 76 0)) (ty := tyf 9 24) C hin h hS 9 0 24 (by simp [aA, cA, mA, cA2, cA7, fA, hA0, hA1]) (by decide) (by decide) rfl (fun t9 j9 q9 => by cases (show some (76, 0) = some (t9, j9) from q9); simp [aA, cA, mA, cA2, cA7, fA, hA0, hA1]) fl_X9_46 rfl (ty_all 9 (by decide) 24 (by decide)) rfl rfl dX9_init_117 (fun H locs h hS => ?_)
  refine lv_aload_n hx hb dX9_init_120 rfl (lv_at hl 0 rfl) ?_
  refine lv_iconst (v := 4) hx hb dX9_init_121 (by decide) ?_
  refine w_newI (N := 4) C h hS 77 0 (by simp [aA, cA, mA, cA2, cA7, fA, hN]) (by decide) rfl rfl (by decide) rfl (by decide) (by decide) (Nat.le_of_ble_eq_true rfl) (Nat.le_of_ble_eq_true rfl) dX9_init_122 (fun a H hag h hS => ?_)
  have hAG := hAG.tr hag (fun r9 i9 z => by simp [aA, cA, mA, cA2, cA7, fA, z])
  have hl : lv_has ls 1 [(0, .ref (a 9 0))] := by rw [hag 9 0 (by simp [aA, cA, mA, cA2, cA7, fA, hA0, hA1])]; exact hl
  rw [← hag 9 0 (by simp [aA, cA, mA, cA2, cA7, fA, hA0, hA1])]
  refine lv_dup hx hb dX9_init_124 rfl ?_
  refine lv_iconst (v := 0) hx hb dX9_init_125 (by decide) ?_
  refine lv_iconst (v := 1) hx hb dX9_init_126 (by decide) ?_
  refine w_ast (k := 0) (j := 0) (x := 1) C h hS 77 0 (by simp [aA, cA, mA, cA2, cA7, fA, hA0, hA1]) (by decide) rfl rfl rfl (show ck 4 0 = some 0 by decide) dX9_init_127 (fun H locs h hS => ?_)
  refine lv_dup hx hb dX9_init_128 rfl ?_
  refine lv_iconst (v := 1) hx hb dX9_init_129 (by decide) ?_
  refine lv_iconst (v := 1) hx hb dX9_init_130 (by decide) ?_
  refine w_ast (k := 1) (j := 1) (x := 1) C h hS 77 0 (by simp [aA, cA, mA, cA2, cA7, fA, hA0, hA1]) (by decide) rfl rfl rfl (show ck 4 1 = some 1 by decide) dX9_init_131 (fun H locs h hS => ?_)
  refine lv_dup hx hb dX9_init_132 rfl ?_
  refine lv_iconst (v := 2) hx hb dX9_init_133 (by decide) ?_
  refine lv_iconst (v := 1) hx hb dX9_init_134 (by decide) ?_
  refine w_ast (k := 2) (j := 2) (x := 1) C h hS 77 0 (by simp [aA, cA, mA, cA2, cA7, fA, hA0, hA1]) (by decide) rfl rfl rfl (show ck 4 2 = some 2 by decide) dX9_init_135 (fun H locs h hS => ?_)
  refine lv_dup hx hb dX9_init_136 rfl ?_
  refine lv_iconst (v := 3) hx hb dX9_init_137 (by decide) ?_
  refine lv_iconst (v := 1) hx hb dX9_init_138 (by decide) ?_
  refine w_ast (k := 3) (j := 3) (x := 1) C h hS 77 0 (by simp [aA, cA, mA, cA2, cA7, fA, hA0, hA1]) (by decide) rfl rfl rfl (show ck 4 3 = some 3 by decide) dX9_init_139 (fun H locs h hS => ?_)
  refine w_put (v := .ref (a 77 0)) (ty := tyf 9 25) C hin h hS 9 0 25 (by simp [aA, cA, mA, cA2, cA7, fA, hA0, hA1]) (by decide) (by decide) rfl (fun t9 j9 q9 => by cases (show some (77, 0) = some (t9, j9) from q9); simp [aA, cA, mA, cA2, cA7, fA, hA0, hA1]) fl_X9_49 rfl (ty_all 9 (by decide) 25 (by decide)) rfl rfl dX9_init_140 (fun H locs h hS => ?_)
  refine lv_aload_n hx hb dX9_init_143 rfl (lv_at hl 0 rfl) ?_
  refine lv_sipush (v := 150) hx hb dX9_init_144 (by decide) ?_
  refine w_newI (N := 150) C h hS 78 0 (by simp [aA, cA, mA, cA2, cA7, fA, hN]) (by decide) rfl rfl (by decide) rfl (by decide) (by decide) (Nat.le_of_ble_eq_true rfl) (Nat.le_of_ble_eq_true rfl) dX9_init_147 (fun a H hag h hS => ?_)
  have hAG := hAG.tr hag (fun r9 i9 z => by simp [aA, cA, mA, cA2, cA7, fA, z])
  have hl : lv_has ls 1 [(0, .ref (a 9 0))] := by rw [hag 9 0 (by simp [aA, cA, mA, cA2, cA7, fA, hA0, hA1])]; exact hl
  rw [← hag 9 0 (by simp [aA, cA, mA, cA2, cA7, fA, hA0, hA1])]
  refine w_put (v := .ref (a 78 0)) (ty := tyf 9 26) C hin h hS 9 0 26 (by simp [aA, cA, mA, cA2, cA7, fA, hA0, hA1]) (by decide) (by decide) rfl (fun t9 j9 q9 => by cases (show some (78, 0) = some (t9, j9) from q9); simp [aA, cA, mA, cA2, cA7, fA, hA0, hA1]) fl_X9_52 rfl (ty_all 9 (by decide) 26 (by decide)) rfl rfl dX9_init_149 (fun H locs h hS => ?_)
  refine lv_aload_n hx hb dX9_init_152 rfl (lv_at hl 0 rfl) ?_
  refine lv_bipush (v := 11) hx hb dX9_init_153 (by decide) ?_
  refine w_newI (N := 11) C h hS 79 0 (by simp [aA, cA, mA, cA2, cA7, fA, hN]) (by decide) rfl rfl (by decide) rfl (by decide) (by decide) (Nat.le_of_ble_eq_true rfl) (Nat.le_of_ble_eq_true rfl) dX9_init_155 (fun a H hag h hS => ?_)
  have hAG := hAG.tr hag (fun r9 i9 z => by simp [aA, cA, mA, cA2, cA7, fA, z])
  have hl : lv_has ls 1 [(0, .ref (a 9 0))] := by rw [hag 9 0 (by simp [aA, cA, mA, cA2, cA7, fA, hA0, hA1])]; exact hl
  rw [← hag 9 0 (by simp [aA, cA, mA, cA2, cA7, fA, hA0, hA1])]
  refine w_put (v := .ref (a 79 0)) (ty := tyf 9 27) C hin h hS 9 0 27 (by simp [aA, cA, mA, cA2, cA7, fA, hA0, hA1]) (by decide) (by decide) rfl (fun t9 j9 q9 => by cases (show some (79, 0) = some (t9, j9) from q9); simp [aA, cA, mA, cA2, cA7, fA, hA0, hA1]) fl_X9_55 rfl (ty_all 9 (by decide) 27 (by decide)) rfl rfl dX9_init_157 (fun H locs h hS => ?_)
  refine lv_aload_n hx hb dX9_init_160 rfl (lv_at hl 0 rfl) ?_
  refine lv_iconst (v := 4) hx hb dX9_init_161 (by decide) ?_
  refine w_put (v := .int 4) (ty := tyf 9 31) C hin h hS 9 0 31 (by simp [aA, cA, mA, cA2, cA7, fA, hA0, hA1]) (by decide) (by decide) rfl (fun t9 j9 q9 => by cases (show (none : Option (Nat × Nat)) = some (t9, j9) from q9)) fl_X9_58 rfl (ty_all 9 (by decide) 31 (by decide)) rfl rfl dX9_init_162 (fun H locs h hS => ?_)
  refine lv_aload_n hx hb dX9_init_165 rfl (lv_at hl 0 rfl) ?_
  refine lv_bipush (v := 15) hx hb dX9_init_166 (by decide) ?_
  refine lv_bipush (v := 8) hx hb dX9_init_168 (by decide) ?_
  refine w_multi (N := 15) (M := 8) C h hS 80 (by simp [aA, cA, mA, cA2, cA7, fA, hN]) (fun j9 hj9 => (by simp [aA, cA, mA, cA2, cA7, fA, hN])) (by decide) rfl rfl rfl rfl rfl rfl (fun _ => rfl) (fun _ _ => rfl) cl_X9_20 (by decide) (by decide) (by decide) (by decide) (by decide) (by decide) (Nat.le_of_ble_eq_true rfl) (Nat.le_of_ble_eq_true rfl) dX9_init_170 (fun a H hag h hS => ?_)
  have hAG := hAG.tr hag (fun r9 i9 z => by simp [aA, cA, mA, cA2, cA7, fA, z])
  have hl : lv_has ls 1 [(0, .ref (a 9 0))] := by rw [hag 9 0 (by simp [aA, cA, mA, cA2, cA7, fA, hA0, hA1])]; exact hl
  rw [← hag 9 0 (by simp [aA, cA, mA, cA2, cA7, fA, hA0, hA1])]
  refine w_put (v := .ref (a 80 0)) (ty := tyf 9 33) C hin h hS 9 0 33 (by simp [aA, cA, mA, cA2, cA7, fA, hA0, hA1]) (by decide) (by decide) rfl (fun t9 j9 q9 => by cases (show some (80, 0) = some (t9, j9) from q9); simp [aA, cA, mA, cA2, cA7, fA, hA0, hA1]) fl_X9_61 rfl (ty_all 9 (by decide) 33 (by decide)) rfl rfl dX9_init_174 (fun H locs h hS => ?_)
  refine lv_aload_n hx hb dX9_init_177 rfl (lv_at hl 0 rfl) ?_
  refine lv_bipush (v := 60) hx hb dX9_init_178 (by decide) ?_
  refine lv_iconst (v := 4) hx hb dX9_init_180 (by decide) ?_
  refine w_multi (N := 60) (M := 4) C h hS 82 (by simp [aA, cA, mA, cA2, cA7, fA, hN]) (fun j9 hj9 => (by simp [aA, cA, mA, cA2, cA7, fA, hN])) (by decide) rfl rfl rfl rfl rfl rfl (fun _ => rfl) (fun _ _ => rfl) cl_X9_20 (by decide) (by decide) (by decide) (by decide) (by decide) (by decide) (Nat.le_of_ble_eq_true rfl) (Nat.le_of_ble_eq_true rfl) dX9_init_181 (fun a H hag h hS => ?_)
  have hAG := hAG.tr hag (fun r9 i9 z => by simp [aA, cA, mA, cA2, cA7, fA, z])
  have hl : lv_has ls 1 [(0, .ref (a 9 0))] := by rw [hag 9 0 (by simp [aA, cA, mA, cA2, cA7, fA, hA0, hA1])]; exact hl
  rw [← hag 9 0 (by simp [aA, cA, mA, cA2, cA7, fA, hA0, hA1])]
  refine w_put (v := .ref (a 82 0)) (ty := tyf 9 34) C hin h hS 9 0 34 (by simp [aA, cA, mA, cA2, cA7, fA, hA0, hA1]) (by decide) (by decide) rfl (fun t9 j9 q9 => by cases (show some (82, 0) = some (t9, j9) from q9); simp [aA, cA, mA, cA2, cA7, fA, hA0, hA1]) fl_X9_64 rfl (ty_all 9 (by decide) 34 (by decide)) rfl rfl dX9_init_185 (fun H locs h hS => ?_)
  refine lv_aload_n hx hb dX9_init_188 rfl (lv_at hl 0 rfl) ?_
  refine lv_bipush (v := 40) hx hb dX9_init_189 (by decide) ?_
  refine lv_iconst (v := 3) hx hb dX9_init_191 (by decide) ?_
  refine w_multi (N := 40) (M := 3) C h hS 84 (by simp [aA, cA, mA, cA2, cA7, fA, hN]) (fun j9 hj9 => (by simp [aA, cA, mA, cA2, cA7, fA, hN])) (by decide) rfl rfl rfl rfl rfl rfl (fun _ => rfl) (fun _ _ => rfl) cl_X9_20 (by decide) (by decide) (by decide) (by decide) (by decide) (by decide) (Nat.le_of_ble_eq_true rfl) (Nat.le_of_ble_eq_true rfl) dX9_init_192 (fun a H hag h hS => ?_)
  have hAG := hAG.tr hag (fun r9 i9 z => by simp [aA, cA, mA, cA2, cA7, fA, z])
  have hl : lv_has ls 1 [(0, .ref (a 9 0))] := by rw [hag 9 0 (by simp [aA, cA, mA, cA2, cA7, fA, hA0, hA1])]; exact hl
  rw [← hag 9 0 (by simp [aA, cA, mA, cA2, cA7, fA, hA0, hA1])]
  refine w_put (v := .ref (a 84 0)) (ty := tyf 9 35) C hin h hS 9 0 35 (by simp [aA, cA, mA, cA2, cA7, fA, hA0, hA1]) (by decide) (by decide) rfl (fun t9 j9 q9 => by cases (show some (84, 0) = some (t9, j9) from q9); simp [aA, cA, mA, cA2, cA7, fA, hA0, hA1]) fl_X9_67 rfl (ty_all 9 (by decide) 35 (by decide)) rfl rfl dX9_init_196 (fun H locs h hS => ?_)
  refine lv_aload_n hx hb dX9_init_199 rfl (lv_at hl 0 rfl) ?_
  refine lv_iconst (v := 3) hx hb dX9_init_200 (by decide) ?_
  refine lv_sipush (v := 520) hx hb dX9_init_201 (by decide) ?_
  refine w_multi (N := 3) (M := 520) C h hS 86 (by simp [aA, cA, mA, cA2, cA7, fA, hN]) (fun j9 hj9 => (by simp [aA, cA, mA, cA2, cA7, fA, hN])) (by decide) rfl rfl rfl rfl rfl rfl (fun _ => rfl) (fun _ _ => rfl) cl_X9_20 (by decide) (by decide) (by decide) (by decide) (by decide) (by decide) (Nat.le_of_ble_eq_true rfl) (Nat.le_of_ble_eq_true rfl) dX9_init_204 (fun a H hag h hS => ?_)
  have hAG := hAG.tr hag (fun r9 i9 z => by simp [aA, cA, mA, cA2, cA7, fA, z])
  have hl : lv_has ls 1 [(0, .ref (a 9 0))] := by rw [hag 9 0 (by simp [aA, cA, mA, cA2, cA7, fA, hA0, hA1])]; exact hl
  rw [← hag 9 0 (by simp [aA, cA, mA, cA2, cA7, fA, hA0, hA1])]
  refine w_put (v := .ref (a 86 0)) (ty := tyf 9 36) C hin h hS 9 0 36 (by simp [aA, cA, mA, cA2, cA7, fA, hA0, hA1]) (by decide) (by decide) rfl (fun t9 j9 q9 => by cases (show some (86, 0) = some (t9, j9) from q9); simp [aA, cA, mA, cA2, cA7, fA, hA0, hA1]) fl_X9_70 rfl (ty_all 9 (by decide) 36 (by decide)) rfl rfl dX9_init_208 (fun H locs h hS => ?_)
  refine lv_aload_n hx hb dX9_init_211 rfl (lv_at hl 0 rfl) ?_
  refine lv_iconst (v := 1) hx hb dX9_init_212 (by decide) ?_
  refine w_put (v := .int 1) (ty := tyf 9 40) C hin h hS 9 0 40 (by simp [aA, cA, mA, cA2, cA7, fA, hA0, hA1]) (by decide) (by decide) rfl (fun t9 j9 q9 => by cases (show (none : Option (Nat × Nat)) = some (t9, j9) from q9)) fl_X9_73 rfl (ty_all 9 (by decide) 40 (by decide)) rfl rfl dX9_init_213 (fun H locs h hS => ?_)
  have hAf : ∀ r9 j9, (cA9 A0) r9 j9 ↔ (mA (mA (mA (mA (aA (aA (aA (aA (mA (mA (mA (mA (aA (aA (mA (mA (aA (aA A0 60 0) 61 0) 62 24) 64 144) 66 0) 67 0) 68 48) 70 6) 72 4) 74 64) 76 0) 77 0) 78 0) 79 0) 80 15) 82 60) 84 40) 86 3) r9 j9 := by
    intro r9 j9
    constructor
    · intro w
      rcases w with w | ⟨q1, q2, q3⟩
      · simp [aA, mA, w]
      · rcases (show r9 = 60 ∨ r9 = 61 ∨ r9 = 62 ∨ r9 = 63 ∨ r9 = 64 ∨ r9 = 65 ∨ r9 = 66 ∨ r9 = 67 ∨ r9 = 68 ∨ r9 = 69 ∨ r9 = 70 ∨ r9 = 71 ∨ r9 = 72 ∨ r9 = 73 ∨ r9 = 74 ∨ r9 = 75 ∨ r9 = 76 ∨ r9 = 77 ∨ r9 = 78 ∨ r9 = 79 ∨ r9 = 80 ∨ r9 = 81 ∨ r9 = 82 ∨ r9 = 83 ∨ r9 = 84 ∨ r9 = 85 ∨ r9 = 86 ∨ r9 = 87 by omega) with rfl | rfl | rfl | rfl | rfl | rfl | rfl | rfl | rfl | rfl | rfl | rfl | rfl | rfl | rfl | rfl | rfl | rfl | rfl | rfl | rfl | rfl | rfl | rfl | rfl | rfl | rfl | rfl
        · have hj : j9 < 1 := q3
          have hj : j9 = 0 := by omega
          subst hj; simp [aA, mA]
        · have hj : j9 < 1 := q3
          have hj : j9 = 0 := by omega
          subst hj; simp [aA, mA]
        · have hj : j9 < 1 := q3
          have hj : j9 = 0 := by omega
          subst hj; simp [aA, mA]
        · have hj : j9 < 24 := q3
          simp [aA, mA, hj]
        · have hj : j9 < 1 := q3
          have hj : j9 = 0 := by omega
          subst hj; simp [aA, mA]
        · have hj : j9 < 144 := q3
          simp [aA, mA, hj]
        · have hj : j9 < 1 := q3
          have hj : j9 = 0 := by omega
          subst hj; simp [aA, mA]
        · have hj : j9 < 1 := q3
          have hj : j9 = 0 := by omega
          subst hj; simp [aA, mA]
        · have hj : j9 < 1 := q3
          have hj : j9 = 0 := by omega
          subst hj; simp [aA, mA]
        · have hj : j9 < 48 := q3
          simp [aA, mA, hj]
        · have hj : j9 < 1 := q3
          have hj : j9 = 0 := by omega
          subst hj; simp [aA, mA]
        · have hj : j9 < 6 := q3
          simp [aA, mA, hj]
        · have hj : j9 < 1 := q3
          have hj : j9 = 0 := by omega
          subst hj; simp [aA, mA]
        · have hj : j9 < 4 := q3
          simp [aA, mA, hj]
        · have hj : j9 < 1 := q3
          have hj : j9 = 0 := by omega
          subst hj; simp [aA, mA]
        · have hj : j9 < 64 := q3
          simp [aA, mA, hj]
        · have hj : j9 < 1 := q3
          have hj : j9 = 0 := by omega
          subst hj; simp [aA, mA]
        · have hj : j9 < 1 := q3
          have hj : j9 = 0 := by omega
          subst hj; simp [aA, mA]
        · have hj : j9 < 1 := q3
          have hj : j9 = 0 := by omega
          subst hj; simp [aA, mA]
        · have hj : j9 < 1 := q3
          have hj : j9 = 0 := by omega
          subst hj; simp [aA, mA]
        · have hj : j9 < 1 := q3
          have hj : j9 = 0 := by omega
          subst hj; simp [aA, mA]
        · have hj : j9 < 15 := q3
          simp [aA, mA, hj]
        · have hj : j9 < 1 := q3
          have hj : j9 = 0 := by omega
          subst hj; simp [aA, mA]
        · have hj : j9 < 60 := q3
          simp [aA, mA, hj]
        · have hj : j9 < 1 := q3
          have hj : j9 = 0 := by omega
          subst hj; simp [aA, mA]
        · have hj : j9 < 40 := q3
          simp [aA, mA, hj]
        · have hj : j9 < 1 := q3
          have hj : j9 = 0 := by omega
          subst hj; simp [aA, mA]
        · have hj : j9 < 3 := q3
          simp [aA, mA, hj]
    · intro w
      by_cases z : A0 r9 j9
      · exact Or.inl z
      · simp only [aA, mA, z, false_or] at w
        rcases (show r9 = 60 ∨ r9 = 61 ∨ r9 = 62 ∨ r9 = 63 ∨ r9 = 64 ∨ r9 = 65 ∨ r9 = 66 ∨ r9 = 67 ∨ r9 = 68 ∨ r9 = 69 ∨ r9 = 70 ∨ r9 = 71 ∨ r9 = 72 ∨ r9 = 73 ∨ r9 = 74 ∨ r9 = 75 ∨ r9 = 76 ∨ r9 = 77 ∨ r9 = 78 ∨ r9 = 79 ∨ r9 = 80 ∨ r9 = 81 ∨ r9 = 82 ∨ r9 = 83 ∨ r9 = 84 ∨ r9 = 85 ∨ r9 = 86 ∨ r9 = 87 by omega) with rfl | rfl | rfl | rfl | rfl | rfl | rfl | rfl | rfl | rfl | rfl | rfl | rfl | rfl | rfl | rfl | rfl | rfl | rfl | rfl | rfl | rfl | rfl | rfl | rfl | rfl | rfl | rfl
        · exact Or.inr ⟨by decide, by decide, show j9 < 1 by omega⟩
        · exact Or.inr ⟨by decide, by decide, show j9 < 1 by omega⟩
        · exact Or.inr ⟨by decide, by decide, show j9 < 1 by omega⟩
        · exact Or.inr ⟨by decide, by decide, show j9 < 24 by omega⟩
        · exact Or.inr ⟨by decide, by decide, show j9 < 1 by omega⟩
        · exact Or.inr ⟨by decide, by decide, show j9 < 144 by omega⟩
        · exact Or.inr ⟨by decide, by decide, show j9 < 1 by omega⟩
        · exact Or.inr ⟨by decide, by decide, show j9 < 1 by omega⟩
        · exact Or.inr ⟨by decide, by decide, show j9 < 1 by omega⟩
        · exact Or.inr ⟨by decide, by decide, show j9 < 48 by omega⟩
        · exact Or.inr ⟨by decide, by decide, show j9 < 1 by omega⟩
        · exact Or.inr ⟨by decide, by decide, show j9 < 6 by omega⟩
        · exact Or.inr ⟨by decide, by decide, show j9 < 1 by omega⟩
        · exact Or.inr ⟨by decide, by decide, show j9 < 4 by omega⟩
        · exact Or.inr ⟨by decide, by decide, show j9 < 1 by omega⟩
        · exact Or.inr ⟨by decide, by decide, show j9 < 64 by omega⟩
        · exact Or.inr ⟨by decide, by decide, show j9 < 1 by omega⟩
        · exact Or.inr ⟨by decide, by decide, show j9 < 1 by omega⟩
        · exact Or.inr ⟨by decide, by decide, show j9 < 1 by omega⟩
        · exact Or.inr ⟨by decide, by decide, show j9 < 1 by omega⟩
        · exact Or.inr ⟨by decide, by decide, show j9 < 1 by omega⟩
        · exact Or.inr ⟨by decide, by decide, show j9 < 15 by omega⟩
        · exact Or.inr ⟨by decide, by decide, show j9 < 1 by omega⟩
        · exact Or.inr ⟨by decide, by decide, show j9 < 60 by omega⟩
        · exact Or.inr ⟨by decide, by decide, show j9 < 1 by omega⟩
        · exact Or.inr ⟨by decide, by decide, show j9 < 40 by omega⟩
        · exact Or.inr ⟨by decide, by decide, show j9 < 1 by omega⟩
        · exact Or.inr ⟨by decide, by decide, show j9 < 3 by omega⟩
  have hPf : ∀ r9 j9 k9, (cP9 P0) r9 j9 k9 → (aP (aP (mP (aP (mP (aP (mP (aP (mP (aP (aP (aP (aP (aP (aP (aP (aP (aP (aP (aP (aP (aP (aP (mP (aP (mP (aP (mP (aP (mP (aP (aP (aP (aP (aP (mP (aP (mP (aP (aP (aP (aP (aP P0 9 0 (fun k9 => k9 = 3)) 60 0 (fun k9 => gI σ0 60 0 k9 = 0)) 9 0 (fun k9 => k9 = 11)) 61 0 (fun k9 => gI σ0 61 0 k9 = 0)) 9 0 (fun k9 => k9 = 12)) 62 24) 9 0 (fun k9 => k9 = 13)) 64 144) 9 0 (fun k9 => k9 = 17)) 66 0 (fun k9 => gI σ0 66 0 k9 = 0)) 9 0 (fun k9 => k9 = 18)) 67 0 (fun k9 => gI σ0 67 0 k9 = 0)) 9 0 (fun k9 => k9 = 19)) 68 48) 9 0 (fun k9 => k9 = 20)) 70 6) 9 0 (fun k9 => k9 = 21)) 72 4) 9 0 (fun k9 => k9 = 22)) 74 64) 9 0 (fun k9 => k9 = 23)) 76 0 (fun k9 => gI σ0 76 0 k9 = 0)) 9 0 (fun k9 => k9 = 24)) 77 0 (fun k9 => gI σ0 77 0 k9 = 0)) 77 0 (fun k9 => k9 = 0)) 77 0 (fun k9 => k9 = 1)) 77 0 (fun k9 => k9 = 2)) 77 0 (fun k9 => k9 = 3)) 9 0 (fun k9 => k9 = 25)) 78 0 (fun k9 => gI σ0 78 0 k9 = 0)) 9 0 (fun k9 => k9 = 26)) 79 0 (fun k9 => gI σ0 79 0 k9 = 0)) 9 0 (fun k9 => k9 = 27)) 9 0 (fun k9 => k9 = 31)) 80 15) 9 0 (fun k9 => k9 = 33)) 82 60) 9 0 (fun k9 => k9 = 34)) 84 40) 9 0 (fun k9 => k9 = 35)) 86 3) 9 0 (fun k9 => k9 = 36)) 9 0 (fun k9 => k9 = 40)) r9 j9 k9 := by
    intro r9 j9 k9 w
    rcases w with w | ⟨⟨rfl, rfl⟩ | ⟨q1, q2, q3⟩, hk⟩
    · simp [aP, mP, w]
    · have hk : k9 < 43 := hk
      rcases (show k9 = 0 ∨ k9 = 1 ∨ k9 = 2 ∨ k9 = 3 ∨ k9 = 4 ∨ k9 = 5 ∨ k9 = 6 ∨ k9 = 7 ∨ k9 = 8 ∨ k9 = 9 ∨ k9 = 10 ∨ k9 = 11 ∨ k9 = 12 ∨ k9 = 13 ∨ k9 = 14 ∨ k9 = 15 ∨ k9 = 16 ∨ k9 = 17 ∨ k9 = 18 ∨ k9 = 19 ∨ k9 = 20 ∨ k9 = 21 ∨ k9 = 22 ∨ k9 = 23 ∨ k9 = 24 ∨ k9 = 25 ∨ k9 = 26 ∨ k9 = 27 ∨ k9 = 28 ∨ k9 = 29 ∨ k9 = 30 ∨ k9 = 31 ∨ k9 = 32 ∨ k9 = 33 ∨ k9 = 34 ∨ k9 = 35 ∨ k9 = 36 ∨ k9 = 37 ∨ k9 = 38 ∨ k9 = 39 ∨ k9 = 40 ∨ k9 = 41 ∨ k9 = 42 by omega) with rfl | rfl | rfl | rfl | rfl | rfl | rfl | rfl | rfl | rfl | rfl | rfl | rfl | rfl | rfl | rfl | rfl | rfl | rfl | rfl | rfl | rfl | rfl | rfl | rfl | rfl | rfl | rfl | rfl | rfl | rfl | rfl | rfl | rfl | rfl | rfl | rfl | rfl | rfl | rfl | rfl | rfl | rfl
      · simp [aP, mP, hP0 0 (by decide) rfl rfl]
      · simp [aP, mP, hP0 1 (by decide) rfl rfl]
      · simp [aP, mP, hP0 2 (by decide) rfl rfl]
      · simp [aP, mP]
      · simp [aP, mP, hP0 4 (by decide) rfl rfl]
      · simp [aP, mP, hP0 5 (by decide) rfl rfl]
      · simp [aP, mP, hP0 6 (by decide) rfl rfl]
      · simp [aP, mP, hP0 7 (by decide) rfl rfl]
      · simp [aP, mP, hP0 8 (by decide) rfl rfl]
      · simp [aP, mP, hP0 9 (by decide) rfl rfl]
      · simp [aP, mP, hP0 10 (by decide) rfl rfl]
      · simp [aP, mP]
      · simp [aP, mP]
      · simp [aP, mP]
      · simp [aP, mP, hP0 14 (by decide) rfl rfl]
      · simp [aP, mP, hP0 15 (by decide) rfl rfl]
      · simp [aP, mP, hP0 16 (by decide) rfl rfl]
      · simp [aP, mP]
      · simp [aP, mP]
      · simp [aP, mP]
      · simp [aP, mP]
      · simp [aP, mP]
      · simp [aP, mP]
      · simp [aP, mP]
      · simp [aP, mP]
      · simp [aP, mP]
      · simp [aP, mP]
      · simp [aP, mP]
      · simp [aP, mP, hP0 28 (by decide) rfl rfl]
      · simp [aP, mP, hP0 29 (by decide) rfl rfl]
      · simp [aP, mP, hP0 30 (by decide) rfl rfl]
      · simp [aP, mP]
      · simp [aP, mP, hP0 32 (by decide) rfl rfl]
      · simp [aP, mP]
      · simp [aP, mP]
      · simp [aP, mP]
      · simp [aP, mP]
      · simp [aP, mP, hP0 37 (by decide) rfl rfl]
      · simp [aP, mP, hP0 38 (by decide) rfl rfl]
      · simp [aP, mP, hP0 39 (by decide) rfl rfl]
      · simp [aP, mP]
      · simp [aP, mP, hP0 41 (by decide) rfl rfl]
      · simp [aP, mP, hP0 42 (by decide) rfl rfl]
    · rcases (show r9 = 60 ∨ r9 = 61 ∨ r9 = 62 ∨ r9 = 63 ∨ r9 = 64 ∨ r9 = 65 ∨ r9 = 66 ∨ r9 = 67 ∨ r9 = 68 ∨ r9 = 69 ∨ r9 = 70 ∨ r9 = 71 ∨ r9 = 72 ∨ r9 = 73 ∨ r9 = 74 ∨ r9 = 75 ∨ r9 = 76 ∨ r9 = 77 ∨ r9 = 78 ∨ r9 = 79 ∨ r9 = 80 ∨ r9 = 81 ∨ r9 = 82 ∨ r9 = 83 ∨ r9 = 84 ∨ r9 = 85 ∨ r9 = 86 ∨ r9 = 87 by omega) with rfl | rfl | rfl | rfl | rfl | rfl | rfl | rfl | rfl | rfl | rfl | rfl | rfl | rfl | rfl | rfl | rfl | rfl | rfl | rfl | rfl | rfl | rfl | rfl | rfl | rfl | rfl | rfl
      · have hj : j9 < 1 := q3
        have hj : j9 = 0 := by omega
        subst hj
        simp [aP, mP, show gI σ0 60 0 k9 = 0 from rfl]
      · have hj : j9 < 1 := q3
        have hj : j9 = 0 := by omega
        subst hj
        simp [aP, mP, show gI σ0 61 0 k9 = 0 from rfl]
      · have hj : j9 < 1 := q3
        have hj : j9 = 0 := by omega
        subst hj
        have hk : k9 < 24 := hk
        simp [aP, mP, hk]
      · have hj : j9 < 24 := q3
        simp [aP, mP, hj]
      · have hj : j9 < 1 := q3
        have hj : j9 = 0 := by omega
        subst hj
        have hk : k9 < 144 := hk
        simp [aP, mP, hk]
      · have hj : j9 < 144 := q3
        simp [aP, mP, hj]
      · have hj : j9 < 1 := q3
        have hj : j9 = 0 := by omega
        subst hj
        simp [aP, mP, show gI σ0 66 0 k9 = 0 from rfl]
      · have hj : j9 < 1 := q3
        have hj : j9 = 0 := by omega
        subst hj
        simp [aP, mP, show gI σ0 67 0 k9 = 0 from rfl]
      · have hj : j9 < 1 := q3
        have hj : j9 = 0 := by omega
        subst hj
        have hk : k9 < 48 := hk
        simp [aP, mP, hk]
      · have hj : j9 < 48 := q3
        simp [aP, mP, hj]
      · have hj : j9 < 1 := q3
        have hj : j9 = 0 := by omega
        subst hj
        have hk : k9 < 6 := hk
        simp [aP, mP, hk]
      · have hj : j9 < 6 := q3
        simp [aP, mP, hj]
      · have hj : j9 < 1 := q3
        have hj : j9 = 0 := by omega
        subst hj
        have hk : k9 < 4 := hk
        simp [aP, mP, hk]
      · have hj : j9 < 4 := q3
        simp [aP, mP, hj]
      · have hj : j9 < 1 := q3
        have hj : j9 = 0 := by omega
        subst hj
        have hk : k9 < 64 := hk
        simp [aP, mP, hk]
      · have hj : j9 < 64 := q3
        simp [aP, mP, hj]
      · have hj : j9 < 1 := q3
        have hj : j9 = 0 := by omega
        subst hj
        simp [aP, mP, show gI σ0 76 0 k9 = 0 from rfl]
      · have hj : j9 < 1 := q3
        have hj : j9 = 0 := by omega
        subst hj
        have hk : k9 < 4 := hk
        rcases (show k9 = 0 ∨ k9 = 1 ∨ k9 = 2 ∨ k9 = 3 by omega) with rfl | rfl | rfl | rfl
        · simp [aP, mP]
        · simp [aP, mP]
        · simp [aP, mP]
        · simp [aP, mP]
      · have hj : j9 < 1 := q3
        have hj : j9 = 0 := by omega
        subst hj
        simp [aP, mP, show gI σ0 78 0 k9 = 0 from rfl]
      · have hj : j9 < 1 := q3
        have hj : j9 = 0 := by omega
        subst hj
        simp [aP, mP, show gI σ0 79 0 k9 = 0 from rfl]
      · have hj : j9 < 1 := q3
        have hj : j9 = 0 := by omega
        subst hj
        have hk : k9 < 15 := hk
        simp [aP, mP, hk]
      · have hj : j9 < 15 := q3
        simp [aP, mP, hj]
      · have hj : j9 < 1 := q3
        have hj : j9 = 0 := by omega
        subst hj
        have hk : k9 < 60 := hk
        simp [aP, mP, hk]
      · have hj : j9 < 60 := q3
        simp [aP, mP, hj]
      · have hj : j9 < 1 := q3
        have hj : j9 = 0 := by omega
        subst hj
        have hk : k9 < 40 := hk
        simp [aP, mP, hk]
      · have hj : j9 < 40 := q3
        simp [aP, mP, hj]
      · have hj : j9 < 1 := q3
        have hj : j9 = 0 := by omega
        subst hj
        have hk : k9 < 3 := hk
        simp [aP, mP, hk]
      · have hj : j9 < 3 := q3
        simp [aP, mP, hj]
  exact e_vretI hAG C hr (h.to hAf hPf) hS (Nat.le_of_ble_eq_true rfl) (Nat.le_of_ble_eq_true rfl) dX9_init_216
