/-! ===== the class's constructor ===== -/
def aA8 (A0 : Nat → Nat → Prop) : Nat → Nat → Prop := (fA (fA (fA (fA (aA (aA (cA (aA (cA7 (aA (aA (cA (aA (cA2 (aA (aA (aA (aA (cA (aA A0 5 0) 45 45 0) 50 0) 51 0) 52 0) 2 0)) 0 0) 20 31 0) 53 0) 7 0)) 4 0) 44 44 0) 54 0) 55 0) 3 37 43 0 6) 6 1 0 0 6) 1 32 36 0 4) 0 20 31 1 3)
def aP8 (P0 : Nat → Nat → Nat → Prop) : Nat → Nat → Nat → Prop := lP (fP (fP (fP (fP (aP (aP (aP (aP (aP (cP (aP (aP (cP7 (aP (aP (aP (aP (aP (cP (aP (aP (cP2 (aP (aP (aP (aP (aP (aP (aP (aP (aP (aP (aP (cP (aP P0 5 0 (fun k9 => k9 < nfS 5 ∧ fcode 5 k9 = 0 ∧ iniV 5 k9 = 0)) 5 45 45 0) 8 0 (fun k9 => k9 = 0)) 50 0 (fun _ => False)) 8 0 (fun k9 => k9 = 1)) 8 0 (fun k9 => k9 = 2)) 51 0 (fun _ => False)) 8 0 (fun k9 => k9 = 3)) 8 0 (fun k9 => k9 = 4)) 52 0 (fun _ => False)) 8 0 (fun k9 => k9 = 5)) 8 0 (fun k9 => k9 = 6)) 2 0 (fun k9 => k9 < nfS 2 ∧ fcode 2 k9 = 0 ∧ iniV 2 k9 = 0))) 8 0 (fun k9 => k9 = 7)) 0 0 (fun k9 => k9 < nfS 0 ∧ fcode 0 k9 = 0 ∧ iniV 0 k9 = 0)) 0 20 31 0) 8 0 (fun k9 => k9 = 8)) 53 0 (fun _ => False)) 8 0 (fun k9 => k9 = 9)) 8 0 (fun k9 => k9 = 10)) 7 0 (fun k9 => k9 < nfS 7 ∧ fcode 7 k9 = 0 ∧ iniV 7 k9 = 0))) 8 0 (fun k9 => k9 = 11)) 4 0 (fun k9 => k9 < nfS 4 ∧ fcode 4 k9 = 0 ∧ iniV 4 k9 = 0)) 4 44 44 0) 8 0 (fun k9 => k9 = 12)) 54 0 (fun k9 => gI σ0 54 0 k9 = 0)) 8 0 (fun k9 => k9 = 13)) 55 0 (fun _ => True)) 8 0 (fun k9 => k9 = 14)) 3 37 43 0 50 6) 6 1 0 0 51 6) 1 32 36 0 52 4) 0 20 31 1 53 3) 200
theorem ckN {n k : Nat} (h : k < n) (hn : n < 2 ^ 31) : ck n (nI k) = some k := by
  unfold ck
  have e : (nI k).toInt = k := nI_toInt (by omega)
  have e2 : (nI k).toNatClampNeg = k := by unfold Int32.toNatClampNeg; rw [e]; rfl
  have e3 : ¬ nI k < 0 := by rw [Int32.lt_iff_toInt_lt, e]; show ¬ ((k : Int) < 0); omega
  rw [if_neg (fun z => z.elim e3 (fun z => by rw [e2] at z; omega)), e2]
set_option maxHeartbeats 16000000 in
set_option maxRecDepth 100000 in
theorem vX8_init {l : Launch} {E : EV} {A0 : Nat → Nat → Prop} {P0 : Nat → Nat → Nat → Prop} {a0 : Nat → Nat → Nat} (hA0 : A0 8 0) (hN : ∀ r i, r < 56 → r ≠ 8 → r ≠ 9 → ¬ A0 r i) : CtI l E yX8_init cX8_init 2 3 61 160 7783 A0 P0 a0 [.ref (a0 8 0)] (aA8 A0) (aP8 P0) := by
  have hA1 : True := trivial
  refine CtI.start (by decide) (Nat.le_of_ble_eq_true rfl) rfl ?_
  intro p e s m args below meth c ls C hin hr h hS hl
  have C : CI E p s m args meth c cX8_init 2 RX8 := C
  obtain ⟨a, hAG, h, hl⟩ : ∃ a : Nat → Nat → Nat, AGP A0 a0 a ∧ RWm E A0 P0 a s.heap ∧ lv_has ls 2 [(0, .ref (a 8 0))] := ⟨a0, AGP.rf, h, hl⟩
  have hx := C.1.1
  have hb := C.1.2.1
  refine lv_aload_n hx hb dX8_init_0 rfl (lv_at hl 0 rfl) ?_
  refine w_obji C mo_X8 hl.1 (Nat.le_of_ble_eq_true rfl) (Nat.le_of_ble_eq_true rfl) dX8_init_1 ?_
  refine lv_aload_n hx hb dX8_init_4 rfl (lv_at hl 0 rfl) ?_
  refine w_new (N := 7) C h hS 5 0 (by simp [aA, cA, mA, cA2, cA7, fA, hN]) (by decide) cl_X8_7 in_5 iz_5 rfl (Nat.le_of_ble_eq_true rfl) (Nat.le_of_ble_eq_true rfl) dX8_init_5 (fun a H hag h hS => ?_)
  have hAG := hAG.tr hag (fun r9 i9 z => by simp [aA, cA, mA, cA2, cA7, fA, z])
  have hl : lv_has ls 2 [(0, .ref (a 8 0))] := by rw [hag 8 0 (by simp [aA, cA, mA, cA2, cA7, fA, hA0, hA1])]; exact hl
  rw [← hag 8 0 (by simp [aA, cA, mA, cA2, cA7, fA, hA0, hA1])]
  refine lv_dup hx hb dX8_init_8 rfl ?_
  refine w_initN (host := RX8) (As := []) (rest := [.ref (a 5 0), .ref (a 8 0)]) C (vX5_init (by simp [aA, cA, mA, cA2, cA7, fA, hA0, hA1]) (fun r9 q1 q2 z => by have z1 := hN r9 0 (by omega) (by omega) (by omega); simp only [aA, cA, mA, cA2, cA7, fA, z1, false_or] at z; omega)) h hS (by decide) mi_5 rfl ⟨(Nat.le_of_ble_eq_true rfl), (Nat.le_of_ble_eq_true rfl), (Nat.le_of_ble_eq_true rfl), (Nat.le_of_ble_eq_true rfl)⟩ hl.1 rfl (Nat.le_of_ble_eq_true rfl) dX8_init_9 (fun a H locs hag h hS => ?_)
  have hAG := hAG.tr hag (fun r9 i9 z => by simp [aA, cA, mA, cA2, cA7, fA, z])
  have hl : lv_has ls 2 [(0, .ref (a 8 0))] := by rw [hag 8 0 (by simp [aA, cA, mA, cA2, cA7, fA, hA0, hA1])]; exact hl
  rw [← hag 8 0 (by simp [aA, cA, mA, cA2, cA7, fA, hA0, hA1])]
  rw [← hag 5 0 (by simp [aA, cA, mA, cA2, cA7, fA, hA0, hA1])]
  refine w_put (v := .ref (a 5 0)) (ty := tyf 8 0) C hin h hS 8 0 0 (by simp [aA, cA, mA, cA2, cA7, fA, hA0, hA1]) (by decide) (by decide) rfl (fun t9 j9 q9 => by cases (show some (5, 0) = some (t9, j9) from q9); simp [aA, cA, mA, cA2, cA7, fA, hA0, hA1]) fl_X8_10 rfl (ty_all 8 (by decide) 0 (by decide)) rfl rfl dX8_init_12 (fun H locs h hS => ?_)
  refine lv_aload_n hx hb dX8_init_15 rfl (lv_at hl 0 rfl) ?_
  refine lv_bipush (v := 6) hx hb dX8_init_16 (by decide) ?_
  refine w_newA (N := 6) (Cn := RX3) (t0 := 2) C h hS 50 0 (by simp [aA, cA, mA, cA2, cA7, fA, hN]) (by decide) rfl rfl cl_X8_16 (by simp [ovL]) (by decide) rfl (by decide) (by decide) (Nat.le_of_ble_eq_true rfl) (Nat.le_of_ble_eq_true rfl) dX8_init_18 (fun a H hag h hS => ?_)
  have hAG := hAG.tr hag (fun r9 i9 z => by simp [aA, cA, mA, cA2, cA7, fA, z])
  have hl : lv_has ls 2 [(0, .ref (a 8 0))] := by rw [hag 8 0 (by simp [aA, cA, mA, cA2, cA7, fA, hA0, hA1])]; exact hl
  rw [← hag 8 0 (by simp [aA, cA, mA, cA2, cA7, fA, hA0, hA1])]
  refine w_put (v := .ref (a 50 0)) (ty := tyf 8 1) C hin h hS 8 0 1 (by simp [aA, cA, mA, cA2, cA7, fA, hA0, hA1]) (by decide) (by decide) rfl (fun t9 j9 q9 => by cases (show some (50, 0) = some (t9, j9) from q9); simp [aA, cA, mA, cA2, cA7, fA, hA0, hA1]) fl_X8_18 rfl (ty_all 8 (by decide) 1 (by decide)) rfl rfl dX8_init_21 (fun H locs h hS => ?_)
  refine lv_aload_n hx hb dX8_init_24 rfl (lv_at hl 0 rfl) ?_
  refine lv_iconst (v := 0) hx hb dX8_init_25 (by decide) ?_
  refine w_put (v := .int 0) (ty := tyf 8 2) C hin h hS 8 0 2 (by simp [aA, cA, mA, cA2, cA7, fA, hA0, hA1]) (by decide) (by decide) rfl (fun t9 j9 q9 => by cases (show (none : Option (Nat × Nat)) = some (t9, j9) from q9)) fl_X8_22 rfl (ty_all 8 (by decide) 2 (by decide)) rfl rfl dX8_init_26 (fun H locs h hS => ?_)
  refine lv_aload_n hx hb dX8_init_29 rfl (lv_at hl 0 rfl) ?_
  refine lv_bipush (v := 6) hx hb dX8_init_30 (by decide) ?_
  refine w_newA (N := 6) (Cn := RX6) (t0 := 3) C h hS 51 0 (by simp [aA, cA, mA, cA2, cA7, fA, hN]) (by decide) rfl rfl cl_X8_26 (by simp [ovL]) (by decide) rfl (by decide) (by decide) (Nat.le_of_ble_eq_true rfl) (Nat.le_of_ble_eq_true rfl) dX8_init_32 (fun a H hag h hS => ?_)
  have hAG := hAG.tr hag (fun r9 i9 z => by simp [aA, cA, mA, cA2, cA7, fA, z])
  have hl : lv_has ls 2 [(0, .ref (a 8 0))] := by rw [hag 8 0 (by simp [aA, cA, mA, cA2, cA7, fA, hA0, hA1])]; exact hl
  rw [← hag 8 0 (by simp [aA, cA, mA, cA2, cA7, fA, hA0, hA1])]
  refine w_put (v := .ref (a 51 0)) (ty := tyf 8 3) C hin h hS 8 0 3 (by simp [aA, cA, mA, cA2, cA7, fA, hA0, hA1]) (by decide) (by decide) rfl (fun t9 j9 q9 => by cases (show some (51, 0) = some (t9, j9) from q9); simp [aA, cA, mA, cA2, cA7, fA, hA0, hA1]) fl_X8_28 rfl (ty_all 8 (by decide) 3 (by decide)) rfl rfl dX8_init_35 (fun H locs h hS => ?_)
  refine lv_aload_n hx hb dX8_init_38 rfl (lv_at hl 0 rfl) ?_
  refine lv_iconst (v := 0) hx hb dX8_init_39 (by decide) ?_
  refine w_put (v := .int 0) (ty := tyf 8 4) C hin h hS 8 0 4 (by simp [aA, cA, mA, cA2, cA7, fA, hA0, hA1]) (by decide) (by decide) rfl (fun t9 j9 q9 => by cases (show (none : Option (Nat × Nat)) = some (t9, j9) from q9)) fl_X8_32 rfl (ty_all 8 (by decide) 4 (by decide)) rfl rfl dX8_init_40 (fun H locs h hS => ?_)
  refine lv_aload_n hx hb dX8_init_43 rfl (lv_at hl 0 rfl) ?_
  refine lv_iconst (v := 4) hx hb dX8_init_44 (by decide) ?_
  refine w_newA (N := 4) (Cn := RX1) (t0 := 4) C h hS 52 0 (by simp [aA, cA, mA, cA2, cA7, fA, hN]) (by decide) rfl rfl cl_X8_35 (by simp [ovL]) (by decide) rfl (by decide) (by decide) (Nat.le_of_ble_eq_true rfl) (Nat.le_of_ble_eq_true rfl) dX8_init_45 (fun a H hag h hS => ?_)
  have hAG := hAG.tr hag (fun r9 i9 z => by simp [aA, cA, mA, cA2, cA7, fA, z])
  have hl : lv_has ls 2 [(0, .ref (a 8 0))] := by rw [hag 8 0 (by simp [aA, cA, mA, cA2, cA7, fA, hA0, hA1])]; exact hl
  rw [← hag 8 0 (by simp [aA, cA, mA, cA2, cA7, fA, hA0, hA1])]
  refine w_put (v := .ref (a 52 0)) (ty := tyf 8 5) C hin h hS 8 0 5 (by simp [aA, cA, mA, cA2, cA7, fA, hA0, hA1]) (by decide) (by decide) rfl (fun t9 j9 q9 => by cases (show some (52, 0) = some (t9, j9) from q9); simp [aA, cA, mA, cA2, cA7, fA, hA0, hA1]) fl_X8_37 rfl (ty_all 8 (by decide) 5 (by decide)) rfl rfl dX8_init_48 (fun H locs h hS => ?_)
  refine lv_aload_n hx hb dX8_init_51 rfl (lv_at hl 0 rfl) ?_
  refine lv_iconst (v := 0) hx hb dX8_init_52 (by decide) ?_
  refine w_put (v := .int 0) (ty := tyf 8 6) C hin h hS 8 0 6 (by simp [aA, cA, mA, cA2, cA7, fA, hA0, hA1]) (by decide) (by decide) rfl (fun t9 j9 q9 => by cases (show (none : Option (Nat × Nat)) = some (t9, j9) from q9)) fl_X8_41 rfl (ty_all 8 (by decide) 6 (by decide)) rfl rfl dX8_init_53 (fun H locs h hS => ?_)
  refine lv_aload_n hx hb dX8_init_56 rfl (lv_at hl 0 rfl) ?_
  refine w_new (N := 2) C h hS 2 0 (by simp [aA, cA, mA, cA2, cA7, fA, hN]) (by decide) cl_X8_44 in_2 iz_2 rfl (Nat.le_of_ble_eq_true rfl) (Nat.le_of_ble_eq_true rfl) dX8_init_57 (fun a H hag h hS => ?_)
  have hAG := hAG.tr hag (fun r9 i9 z => by simp [aA, cA, mA, cA2, cA7, fA, z])
  have hl : lv_has ls 2 [(0, .ref (a 8 0))] := by rw [hag 8 0 (by simp [aA, cA, mA, cA2, cA7, fA, hA0, hA1])]; exact hl
  rw [← hag 8 0 (by simp [aA, cA, mA, cA2, cA7, fA, hA0, hA1])]
  refine lv_dup hx hb dX8_init_60 rfl ?_
  refine lv_aload_n hx hb dX8_init_61 rfl (lv_at hl 0 rfl) ?_
  refine w_get (v := .ref (a 5 0)) C h 8 0 0 (by simp [aP, cP, mP, cP2, cP7, fP]) (by decide) (by decide) rfl fl_X8_10 dX8_init_62 ?_
  refine w_init (As := [.ref (a 5 0)]) (rest := [.ref (a 2 0), .ref (a 8 0)]) C (vX2_init (by simp [aA, cA, mA, cA2, cA7, fA, hA0, hA1]) (by simp [aA, cA, mA, cA2, cA7, fA, hA0, hA1]) (fun r9 i9 q z => by have z1 := hN r9 i9 (by omega) (by omega) (by omega); simp only [aA, cA, mA, cA2, cA7, fA, z1, false_or] at z; omega)) h hS ml_X8_46 mi_2 rfl ⟨(Nat.le_of_ble_eq_true rfl), (Nat.le_of_ble_eq_true rfl), (Nat.le_of_ble_eq_true rfl), (Nat.le_of_ble_eq_true rfl)⟩ hl.1 rfl (Nat.le_of_ble_eq_true rfl) dX8_init_65 (fun a H locs hag h hS => ?_)
  have hAG := hAG.tr hag (fun r9 i9 z => by simp [aA, cA, mA, cA2, cA7, fA, z])
  have hl : lv_has ls 2 [(0, .ref (a 8 0))] := by rw [hag 8 0 (by simp [aA, cA, mA, cA2, cA7, fA, hA0, hA1])]; exact hl
  rw [← hag 8 0 (by simp [aA, cA, mA, cA2, cA7, fA, hA0, hA1])]
  rw [← hag 2 0 (by simp [aA, cA, mA, cA2, cA7, fA, hA0, hA1])]
  refine w_put (v := .ref (a 2 0)) (ty := tyf 8 7) C hin h hS 8 0 7 (by simp [aA, cA, mA, cA2, cA7, fA, hA0, hA1]) (by decide) (by decide) rfl (fun t9 j9 q9 => by cases (show some (2, 0) = some (t9, j9) from q9); simp [aA, cA, mA, cA2, cA7, fA, hA0, hA1]) fl_X8_49 rfl (ty_all 8 (by decide) 7 (by decide)) rfl rfl dX8_init_68 (fun H locs h hS => ?_)
  refine lv_aload_n hx hb dX8_init_71 rfl (lv_at hl 0 rfl) ?_
  refine w_new (N := 17) C h hS 0 0 (by simp [aA, cA, mA, cA2, cA7, fA, hN]) (by decide) cl_X8_53 in_0 iz_0 rfl (Nat.le_of_ble_eq_true rfl) (Nat.le_of_ble_eq_true rfl) dX8_init_72 (fun a H hag h hS => ?_)
  have hAG := hAG.tr hag (fun r9 i9 z => by simp [aA, cA, mA, cA2, cA7, fA, z])
  have hl : lv_has ls 2 [(0, .ref (a 8 0))] := by rw [hag 8 0 (by simp [aA, cA, mA, cA2, cA7, fA, hA0, hA1])]; exact hl
  rw [← hag 8 0 (by simp [aA, cA, mA, cA2, cA7, fA, hA0, hA1])]
  refine lv_dup hx hb dX8_init_75 rfl ?_
  refine w_init (As := []) (rest := [.ref (a 0 0), .ref (a 8 0)]) C (vX0_init (by simp [aA, cA, mA, cA2, cA7, fA, hA0, hA1]) (fun r9 q1 q2 z => by have z1 := hN r9 0 (by omega) (by omega) (by omega); simp only [aA, cA, mA, cA2, cA7, fA, z1, false_or] at z; omega)) h hS ml_X8_55 mi_0 rfl ⟨(Nat.le_of_ble_eq_true rfl), (Nat.le_of_ble_eq_true rfl), (Nat.le_of_ble_eq_true rfl), (Nat.le_of_ble_eq_true rfl)⟩ hl.1 rfl (Nat.le_of_ble_eq_true rfl) dX8_init_76 (fun a H locs hag h hS => ?_)
  have hAG := hAG.tr hag (fun r9 i9 z => by simp [aA, cA, mA, cA2, cA7, fA, z])
  have hl : lv_has ls 2 [(0, .ref (a 8 0))] := by rw [hag 8 0 (by simp [aA, cA, mA, cA2, cA7, fA, hA0, hA1])]; exact hl
  rw [← hag 8 0 (by simp [aA, cA, mA, cA2, cA7, fA, hA0, hA1])]
  rw [← hag 0 0 (by simp [aA, cA, mA, cA2, cA7, fA, hA0, hA1])]
  refine w_put (v := .ref (a 0 0)) (ty := tyf 8 8) C hin h hS 8 0 8 (by simp [aA, cA, mA, cA2, cA7, fA, hA0, hA1]) (by decide) (by decide) rfl (fun t9 j9 q9 => by cases (show some (0, 0) = some (t9, j9) from q9); simp [aA, cA, mA, cA2, cA7, fA, hA0, hA1]) fl_X8_56 rfl (ty_all 8 (by decide) 8 (by decide)) rfl rfl dX8_init_79 (fun H locs h hS => ?_)
  refine lv_aload_n hx hb dX8_init_82 rfl (lv_at hl 0 rfl) ?_
  refine lv_iconst (v := 3) hx hb dX8_init_83 (by decide) ?_
  refine w_newA (N := 3) (Cn := RX0) (t0 := 5) C h hS 53 0 (by simp [aA, cA, mA, cA2, cA7, fA, hN]) (by decide) rfl rfl cl_X8_53 (by simp [ovL]) (by decide) rfl (by decide) (by decide) (Nat.le_of_ble_eq_true rfl) (Nat.le_of_ble_eq_true rfl) dX8_init_84 (fun a H hag h hS => ?_)
  have hAG := hAG.tr hag (fun r9 i9 z => by simp [aA, cA, mA, cA2, cA7, fA, z])
  have hl : lv_has ls 2 [(0, .ref (a 8 0))] := by rw [hag 8 0 (by simp [aA, cA, mA, cA2, cA7, fA, hA0, hA1])]; exact hl
  rw [← hag 8 0 (by simp [aA, cA, mA, cA2, cA7, fA, hA0, hA1])]
  refine w_put (v := .ref (a 53 0)) (ty := tyf 8 9) C hin h hS 8 0 9 (by simp [aA, cA, mA, cA2, cA7, fA, hA0, hA1]) (by decide) (by decide) rfl (fun t9 j9 q9 => by cases (show some (53, 0) = some (t9, j9) from q9); simp [aA, cA, mA, cA2, cA7, fA, hA0, hA1]) fl_X8_60 rfl (ty_all 8 (by decide) 9 (by decide)) rfl rfl dX8_init_87 (fun H locs h hS => ?_)
  refine lv_aload_n hx hb dX8_init_90 rfl (lv_at hl 0 rfl) ?_
  refine lv_iconst (v := 0) hx hb dX8_init_91 (by decide) ?_
  refine w_put (v := .int 0) (ty := tyf 8 10) C hin h hS 8 0 10 (by simp [aA, cA, mA, cA2, cA7, fA, hA0, hA1]) (by decide) (by decide) rfl (fun t9 j9 q9 => by cases (show (none : Option (Nat × Nat)) = some (t9, j9) from q9)) fl_X8_64 rfl (ty_all 8 (by decide) 10 (by decide)) rfl rfl dX8_init_92 (fun H locs h hS => ?_)
  refine lv_aload_n hx hb dX8_init_95 rfl (lv_at hl 0 rfl) ?_
  refine w_new (N := 10) C h hS 7 0 (by simp [aA, cA, mA, cA2, cA7, fA, hN]) (by decide) cl_X8_67 in_7 iz_7 rfl (Nat.le_of_ble_eq_true rfl) (Nat.le_of_ble_eq_true rfl) dX8_init_96 (fun a H hag h hS => ?_)
  have hAG := hAG.tr hag (fun r9 i9 z => by simp [aA, cA, mA, cA2, cA7, fA, z])
  have hl : lv_has ls 2 [(0, .ref (a 8 0))] := by rw [hag 8 0 (by simp [aA, cA, mA, cA2, cA7, fA, hA0, hA1])]; exact hl
  rw [← hag 8 0 (by simp [aA, cA, mA, cA2, cA7, fA, hA0, hA1])]
  refine lv_dup hx hb dX8_init_99 rfl ?_
  refine w_initN (host := RX8) (As := []) (rest := [.ref (a 7 0), .ref (a 8 0)]) C (vX7_init (by simp [aA, cA, mA, cA2, cA7, fA, hA0, hA1]) (fun r9 i9 q z => by have z1 := hN r9 i9 (by omega) (by omega) (by omega); simp only [aA, cA, mA, cA2, cA7, fA, z1, false_or] at z; omega)) h hS (by decide) mi_7 rfl ⟨(Nat.le_of_ble_eq_true rfl), (Nat.le_of_ble_eq_true rfl), (Nat.le_of_ble_eq_true rfl), (Nat.le_of_ble_eq_true rfl)⟩ hl.1 rfl (Nat.le_of_ble_eq_true rfl) dX8_init_100 (fun a H locs hag h hS => ?_)
  have hAG := hAG.tr hag (fun r9 i9 z => by simp [aA, cA, mA, cA2, cA7, fA, z])
  have hl : lv_has ls 2 [(0, .ref (a 8 0))] := by rw [hag 8 0 (by simp [aA, cA, mA, cA2, cA7, fA, hA0, hA1])]; exact hl
  rw [← hag 8 0 (by simp [aA, cA, mA, cA2, cA7, fA, hA0, hA1])]
  rw [← hag 7 0 (by simp [aA, cA, mA, cA2, cA7, fA, hA0, hA1])]
  refine w_put (v := .ref (a 7 0)) (ty := tyf 8 11) C hin h hS 8 0 11 (by simp [aA, cA, mA, cA2, cA7, fA, hA0, hA1]) (by decide) (by decide) rfl (fun t9 j9 q9 => by cases (show some (7, 0) = some (t9, j9) from q9); simp [aA, cA, mA, cA2, cA7, fA, hA0, hA1]) fl_X8_70 rfl (ty_all 8 (by decide) 11 (by decide)) rfl rfl dX8_init_103 (fun H locs h hS => ?_)
  refine lv_aload_n hx hb dX8_init_106 rfl (lv_at hl 0 rfl) ?_
  refine w_new (N := 6) C h hS 4 0 (by simp [aA, cA, mA, cA2, cA7, fA, hN]) (by decide) cl_X8_74 in_4 iz_4 rfl (Nat.le_of_ble_eq_true rfl) (Nat.le_of_ble_eq_true rfl) dX8_init_107 (fun a H hag h hS => ?_)
  have hAG := hAG.tr hag (fun r9 i9 z => by simp [aA, cA, mA, cA2, cA7, fA, z])
  have hl : lv_has ls 2 [(0, .ref (a 8 0))] := by rw [hag 8 0 (by simp [aA, cA, mA, cA2, cA7, fA, hA0, hA1])]; exact hl
  rw [← hag 8 0 (by simp [aA, cA, mA, cA2, cA7, fA, hA0, hA1])]
  refine lv_dup hx hb dX8_init_110 rfl ?_
  refine lv_aload_n hx hb dX8_init_111 rfl (lv_at hl 0 rfl) ?_
  refine w_get (v := .ref (a 7 0)) C h 8 0 11 (by simp [aP, cP, mP, cP2, cP7, fP]) (by decide) (by decide) rfl fl_X8_70 dX8_init_112 ?_
  refine w_init (As := [.ref (a 7 0)]) (rest := [.ref (a 4 0), .ref (a 8 0)]) C (vX4_init (by simp [aA, cA, mA, cA2, cA7, fA, hA0, hA1]) (by simp [aA, cA, mA, cA2, cA7, fA, hA0, hA1]) (fun r9 q1 q2 z => by have z1 := hN r9 0 (by omega) (by omega) (by omega); simp only [aA, cA, mA, cA2, cA7, fA, z1, false_or] at z; omega)) h hS ml_X8_76 mi_4 rfl ⟨(Nat.le_of_ble_eq_true rfl), (Nat.le_of_ble_eq_true rfl), (Nat.le_of_ble_eq_true rfl), (Nat.le_of_ble_eq_true rfl)⟩ hl.1 rfl (Nat.le_of_ble_eq_true rfl) dX8_init_115 (fun a H locs hag h hS => ?_)
  have hAG := hAG.tr hag (fun r9 i9 z => by simp [aA, cA, mA, cA2, cA7, fA, z])
  have hl : lv_has ls 2 [(0, .ref (a 8 0))] := by rw [hag 8 0 (by simp [aA, cA, mA, cA2, cA7, fA, hA0, hA1])]; exact hl
  rw [← hag 8 0 (by simp [aA, cA, mA, cA2, cA7, fA, hA0, hA1])]
  rw [← hag 4 0 (by simp [aA, cA, mA, cA2, cA7, fA, hA0, hA1])]
  refine w_put (v := .ref (a 4 0)) (ty := tyf 8 12) C hin h hS 8 0 12 (by simp [aA, cA, mA, cA2, cA7, fA, hA0, hA1]) (by decide) (by decide) rfl (fun t9 j9 q9 => by cases (show some (4, 0) = some (t9, j9) from q9); simp [aA, cA, mA, cA2, cA7, fA, hA0, hA1]) fl_X8_79 rfl (ty_all 8 (by decide) 12 (by decide)) rfl rfl dX8_init_118 (fun H locs h hS => ?_)
  refine lv_aload_n hx hb dX8_init_121 rfl (lv_at hl 0 rfl) ?_
  refine lv_sipush (v := 200) hx hb dX8_init_122 (by decide) ?_
  refine w_newI (N := 200) C h hS 54 0 (by simp [aA, cA, mA, cA2, cA7, fA, hN]) (by decide) rfl rfl (by decide) rfl (by decide) (by decide) (Nat.le_of_ble_eq_true rfl) (Nat.le_of_ble_eq_true rfl) dX8_init_125 (fun a H hag h hS => ?_)
  have hAG := hAG.tr hag (fun r9 i9 z => by simp [aA, cA, mA, cA2, cA7, fA, z])
  have hl : lv_has ls 2 [(0, .ref (a 8 0))] := by rw [hag 8 0 (by simp [aA, cA, mA, cA2, cA7, fA, hA0, hA1])]; exact hl
  rw [← hag 8 0 (by simp [aA, cA, mA, cA2, cA7, fA, hA0, hA1])]
  refine w_put (v := .ref (a 54 0)) (ty := tyf 8 13) C hin h hS 8 0 13 (by simp [aA, cA, mA, cA2, cA7, fA, hA0, hA1]) (by decide) (by decide) rfl (fun t9 j9 q9 => by cases (show some (54, 0) = some (t9, j9) from q9); simp [aA, cA, mA, cA2, cA7, fA, hA0, hA1]) fl_X8_83 rfl (ty_all 8 (by decide) 13 (by decide)) rfl rfl dX8_init_127 (fun H locs h hS => ?_)
  refine lv_aload_n hx hb dX8_init_130 rfl (lv_at hl 0 rfl) ?_
  refine lv_iconst (v := 4) hx hb dX8_init_131 (by decide) ?_
  refine w_newL (N := 4) C h hS 55 0 (by simp [aA, cA, mA, cA2, cA7, fA, hN]) (by decide) rfl rfl (by decide) rfl (by decide) (by decide) (Nat.le_of_ble_eq_true rfl) (Nat.le_of_ble_eq_true rfl) dX8_init_132 (fun a H hag h hS => ?_)
  have hAG := hAG.tr hag (fun r9 i9 z => by simp [aA, cA, mA, cA2, cA7, fA, z])
  have hl : lv_has ls 2 [(0, .ref (a 8 0))] := by rw [hag 8 0 (by simp [aA, cA, mA, cA2, cA7, fA, hA0, hA1])]; exact hl
  rw [← hag 8 0 (by simp [aA, cA, mA, cA2, cA7, fA, hA0, hA1])]
  refine w_put (v := .ref (a 55 0)) (ty := tyf 8 14) C hin h hS 8 0 14 (by simp [aA, cA, mA, cA2, cA7, fA, hA0, hA1]) (by decide) (by decide) rfl (fun t9 j9 q9 => by cases (show some (55, 0) = some (t9, j9) from q9); simp [aA, cA, mA, cA2, cA7, fA, hA0, hA1]) fl_X8_87 rfl (ty_all 8 (by decide) 14 (by decide)) rfl rfl dX8_init_134 (fun H locs h hS => ?_)
  have h := h.to (fA_0 (c := 3) (lo := 37) (hi := 43) (o := 0)) (fP_0 (c := 3) (lo := 37) (hi := 43) (o := 0) (arr := 50))
  refine lv_iconst (v := 0) hx hb dX8_init_137 (by decide) ?_
  refine lv_istore_n (lv' := [(1, .int 0), (0, .ref (a 8 0))]) hx hb dX8_init_138 rfl hl (by decide) rfl (fun ls hl => ?_)
  refine lv_iload_n hx hb dX8_init_139 rfl (lv_at hl 0 rfl) ?_
  refine lv_bipush (v := 6) hx hb dX8_init_140 (by decide) ?_
  refine lv_icmp_ge (tgt := 164) hx hb dX8_init_142 (by decide) (fun c9 => absurd c9 (show ¬ (6 : Int32) ≤ 0 by decide)) (fun _ => ?_)
  refine lv_aload_n hx hb dX8_init_145 rfl (lv_at hl 1 rfl) ?_
  refine w_get (v := .ref (a 50 0)) C h 8 0 1 (by simp [aP, cP, mP, cP2, cP7, fP]) (by decide) (by decide) rfl fl_X8_18 dX8_init_146 ?_
  refine lv_iload_n hx hb dX8_init_149 rfl (lv_at hl 0 rfl) ?_
  refine w_new (N := 14) C h hS 3 0 (by simp [aA, cA, mA, cA2, cA7, fA, hN]) (by decide) cl_X8_16 in_3 iz_3 rfl (Nat.le_of_ble_eq_true rfl) (Nat.le_of_ble_eq_true rfl) dX8_init_150 (fun a H hag h hS => ?_)
  have hAG := hAG.tr hag (fun r9 i9 z => by simp [aA, cA, mA, cA2, cA7, fA, z])
  have hl : lv_has ls 2 [(1, .int 0), (0, .ref (a 8 0))] := by rw [hag 8 0 (by simp [aA, cA, mA, cA2, cA7, fA, hA0, hA1])]; exact hl
  rw [← hag 50 0 (by simp [aA, cA, mA, cA2, cA7, fA, hA0, hA1])]
  refine lv_dup hx hb dX8_init_153 rfl ?_
  refine w_initN (host := RX8) (As := []) (rest := [.ref (a 3 0), .int 0, .ref (a 50 0)]) C (vX3_init (by simp [aA, cA, mA, cA2, cA7, fA, hA0, hA1]) (fun r9 q1 q2 z => by have z1 := hN r9 0 (by omega) (by omega) (by omega); simp only [aA, cA, mA, cA2, cA7, fA, z1, false_or] at z; omega)) h hS (by decide) mi_3 rfl ⟨(Nat.le_of_ble_eq_true rfl), (Nat.le_of_ble_eq_true rfl), (Nat.le_of_ble_eq_true rfl), (Nat.le_of_ble_eq_true rfl)⟩ hl.1 rfl (Nat.le_of_ble_eq_true rfl) dX8_init_154 (fun a H locs hag h hS => ?_)
  have hAG := hAG.tr hag (fun r9 i9 z => by simp [aA, cA, mA, cA2, cA7, fA, z])
  have hl : lv_has ls 2 [(1, .int 0), (0, .ref (a 8 0))] := by rw [hag 8 0 (by simp [aA, cA, mA, cA2, cA7, fA, hA0, hA1])]; exact hl
  rw [← hag 50 0 (by simp [aA, cA, mA, cA2, cA7, fA, hA0, hA1])]
  rw [← hag 3 0 (by simp [aA, cA, mA, cA2, cA7, fA, hA0, hA1])]
  refine w_aast (k := 0) (j := 0) C h hS 50 0 3 0 2 (by simp [aA, cA, mA, cA2, cA7, fA, hA0, hA1]) (by decide) rfl rfl rfl (by decide) rfl (by simp [aA, cA, mA, cA2, cA7, fA, hA0, hA1]) rfl (show ck 6 0 = some 0 by decide) dX8_init_157 (fun H locs h hS => ?_)
  have h := h.to (fA_s (s := 0) rfl) (fP_s (s := 0) rfl)
  refine lv_iinc (v := 1) (lv' := [(1, .int 1), (0, .ref (a 8 0))]) hx hb dX8_init_158 hl (k := 0) rfl (by decide) (by decide) rfl (fun ls hl => ?_)
  refine lv_goto (tgt := 139) hx hb dX8_init_161 (by decide) ?_
  refine lv_iload_n hx hb dX8_init_139 rfl (lv_at hl 0 rfl) ?_
  refine lv_bipush (v := 6) hx hb dX8_init_140 (by decide) ?_
  refine lv_icmp_ge (tgt := 164) hx hb dX8_init_142 (by decide) (fun c9 => absurd c9 (show ¬ (6 : Int32) ≤ 1 by decide)) (fun _ => ?_)
  refine lv_aload_n hx hb dX8_init_145 rfl (lv_at hl 1 rfl) ?_
  refine w_get (v := .ref (a 50 0)) C h 8 0 1 (by simp [aP, cP, mP, cP2, cP7, fP]) (by decide) (by decide) rfl fl_X8_18 dX8_init_146 ?_
  refine lv_iload_n hx hb dX8_init_149 rfl (lv_at hl 0 rfl) ?_
  refine w_new (N := 14) C h hS 3 1 (by simp [aA, cA, mA, cA2, cA7, fA, hN]) (by decide) cl_X8_16 in_3 iz_3 rfl (Nat.le_of_ble_eq_true rfl) (Nat.le_of_ble_eq_true rfl) dX8_init_150 (fun a H hag h hS => ?_)
  have hAG := hAG.tr hag (fun r9 i9 z => by simp [aA, cA, mA, cA2, cA7, fA, z])
  have hl : lv_has ls 2 [(1, .int 1), (0, .ref (a 8 0))] := by rw [hag 8 0 (by simp [aA, cA, mA, cA2, cA7, fA, hA0, hA1])]; exact hl
  rw [← hag 50 0 (by simp [aA, cA, mA, cA2, cA7, fA, hA0, hA1])]
  refine lv_dup hx hb dX8_init_153 rfl ?_
  refine w_initN (host := RX8) (As := []) (rest := [.ref (a 3 1), .int 1, .ref (a 50 0)]) C (vX3_init (by simp [aA, cA, mA, cA2, cA7, fA, hA0, hA1]) (fun r9 q1 q2 z => by have z1 := hN r9 1 (by omega) (by omega) (by omega); simp only [aA, cA, mA, cA2, cA7, fA, z1, false_or] at z; omega)) h hS (by decide) mi_3 rfl ⟨(Nat.le_of_ble_eq_true rfl), (Nat.le_of_ble_eq_true rfl), (Nat.le_of_ble_eq_true rfl), (Nat.le_of_ble_eq_true rfl)⟩ hl.1 rfl (Nat.le_of_ble_eq_true rfl) dX8_init_154 (fun a H locs hag h hS => ?_)
  have hAG := hAG.tr hag (fun r9 i9 z => by simp [aA, cA, mA, cA2, cA7, fA, z])
  have hl : lv_has ls 2 [(1, .int 1), (0, .ref (a 8 0))] := by rw [hag 8 0 (by simp [aA, cA, mA, cA2, cA7, fA, hA0, hA1])]; exact hl
  rw [← hag 50 0 (by simp [aA, cA, mA, cA2, cA7, fA, hA0, hA1])]
  rw [← hag 3 1 (by simp [aA, cA, mA, cA2, cA7, fA, hA0, hA1])]
  refine w_aast (k := 1) (j := 1) C h hS 50 0 3 0 2 (by simp [aA, cA, mA, cA2, cA7, fA, hA0, hA1]) (by decide) rfl rfl rfl (by decide) rfl (by simp [aA, cA, mA, cA2, cA7, fA, hA0, hA1]) rfl (show ck 6 1 = some 1 by decide) dX8_init_157 (fun H locs h hS => ?_)
  have h := h.to (fA_s (s := 1) rfl) (fP_s (s := 1) rfl)
  refine lv_iinc (v := 2) (lv' := [(1, .int 2), (0, .ref (a 8 0))]) hx hb dX8_init_158 hl (k := 0) rfl (by decide) (by decide) rfl (fun ls hl => ?_)
  refine lv_goto (tgt := 139) hx hb dX8_init_161 (by decide) ?_
  refine lv_iload_n hx hb dX8_init_139 rfl (lv_at hl 0 rfl) ?_
  refine lv_bipush (v := 6) hx hb dX8_init_140 (by decide) ?_
  refine lv_icmp_ge (tgt := 164) hx hb dX8_init_142 (by decide) (fun c9 => absurd c9 (show ¬ (6 : Int32) ≤ 2 by decide)) (fun _ => ?_)
  refine lv_aload_n hx hb dX8_init_145 rfl (lv_at hl 1 rfl) ?_
  refine w_get (v := .ref (a 50 0)) C h 8 0 1 (by simp [aP, cP, mP, cP2, cP7, fP]) (by decide) (by decide) rfl fl_X8_18 dX8_init_146 ?_
  refine lv_iload_n hx hb dX8_init_149 rfl (lv_at hl 0 rfl) ?_
  refine w_new (N := 14) C h hS 3 2 (by simp [aA, cA, mA, cA2, cA7, fA, hN]) (by decide) cl_X8_16 in_3 iz_3 rfl (Nat.le_of_ble_eq_true rfl) (Nat.le_of_ble_eq_true rfl) dX8_init_150 (fun a H hag h hS => ?_)
  have hAG := hAG.tr hag (fun r9 i9 z => by simp [aA, cA, mA, cA2, cA7, fA, z])
  have hl : lv_has ls 2 [(1, .int 2), (0, .ref (a 8 0))] := by rw [hag 8 0 (by simp [aA, cA, mA, cA2, cA7, fA, hA0, hA1])]; exact hl
  rw [← hag 50 0 (by simp [aA, cA, mA, cA2, cA7, fA, hA0, hA1])]
  refine lv_dup hx hb dX8_init_153 rfl ?_
  refine w_initN (host := RX8) (As := []) (rest := [.ref (a 3 2), .int 2, .ref (a 50 0)]) C (vX3_init (by simp [aA, cA, mA, cA2, cA7, fA, hA0, hA1]) (fun r9 q1 q2 z => by have z1 := hN r9 2 (by omega) (by omega) (by omega); simp only [aA, cA, mA, cA2, cA7, fA, z1, false_or] at z; omega)) h hS (by decide) mi_3 rfl ⟨(Nat.le_of_ble_eq_true rfl), (Nat.le_of_ble_eq_true rfl), (Nat.le_of_ble_eq_true rfl), (Nat.le_of_ble_eq_true rfl)⟩ hl.1 rfl (Nat.le_of_ble_eq_true rfl) dX8_init_154 (fun a H locs hag h hS => ?_)
  have hAG := hAG.tr hag (fun r9 i9 z => by simp [aA, cA, mA, cA2, cA7, fA, z])
  have hl : lv_has ls 2 [(1, .int 2), (0, .ref (a 8 0))] := by rw [hag 8 0 (by simp [aA, cA, mA, cA2, cA7, fA, hA0, hA1])]; exact hl
  rw [← hag 50 0 (by simp [aA, cA, mA, cA2, cA7, fA, hA0, hA1])]
  rw [← hag 3 2 (by simp [aA, cA, mA, cA2, cA7, fA, hA0, hA1])]
  refine w_aast (k := 2) (j := 2) C h hS 50 0 3 0 2 (by simp [aA, cA, mA, cA2, cA7, fA, hA0, hA1]) (by decide) rfl rfl rfl (by decide) rfl (by simp [aA, cA, mA, cA2, cA7, fA, hA0, hA1]) rfl (show ck 6 2 = some 2 by decide) dX8_init_157 (fun H locs h hS => ?_)
  have h := h.to (fA_s (s := 2) rfl) (fP_s (s := 2) rfl)
  refine lv_iinc (v := 3) (lv' := [(1, .int 3), (0, .ref (a 8 0))]) hx hb dX8_init_158 hl (k := 0) rfl (by decide) (by decide) rfl (fun ls hl => ?_)
  refine lv_goto (tgt := 139) hx hb dX8_init_161 (by decide) ?_
  refine lv_iload_n hx hb dX8_init_139 rfl (lv_at hl 0 rfl) ?_
  refine lv_bipush (v := 6) hx hb dX8_init_140 (by decide) ?_
  refine lv_icmp_ge (tgt := 164) hx hb dX8_init_142 (by decide) (fun c9 => absurd c9 (show ¬ (6 : Int32) ≤ 3 by decide)) (fun _ => ?_)
  refine lv_aload_n hx hb dX8_init_145 rfl (lv_at hl 1 rfl) ?_
  refine w_get (v := .ref (a 50 0)) C h 8 0 1 (by simp [aP, cP, mP, cP2, cP7, fP]) (by decide) (by decide) rfl fl_X8_18 dX8_init_146 ?_
  refine lv_iload_n hx hb dX8_init_149 rfl (lv_at hl 0 rfl) ?_
  refine w_new (N := 14) C h hS 3 3 (by simp [aA, cA, mA, cA2, cA7, fA, hN]) (by decide) cl_X8_16 in_3 iz_3 rfl (Nat.le_of_ble_eq_true rfl) (Nat.le_of_ble_eq_true rfl) dX8_init_150 (fun a H hag h hS => ?_)
  have hAG := hAG.tr hag (fun r9 i9 z => by simp [aA, cA, mA, cA2, cA7, fA, z])
  have hl : lv_has ls 2 [(1, .int 3), (0, .ref (a 8 0))] := by rw [hag 8 0 (by simp [aA, cA, mA, cA2, cA7, fA, hA0, hA1])]; exact hl
  rw [← hag 50 0 (by simp [aA, cA, mA, cA2, cA7, fA, hA0, hA1])]
  refine lv_dup hx hb dX8_init_153 rfl ?_
  refine w_initN (host := RX8) (As := []) (rest := [.ref (a 3 3), .int 3, .ref (a 50 0)]) C (vX3_init (by simp [aA, cA, mA, cA2, cA7, fA, hA0, hA1]) (fun r9 q1 q2 z => by have z1 := hN r9 3 (by omega) (by omega) (by omega); simp only [aA, cA, mA, cA2, cA7, fA, z1, false_or] at z; omega)) h hS (by decide) mi_3 rfl ⟨(Nat.le_of_ble_eq_true rfl), (Nat.le_of_ble_eq_true rfl), (Nat.le_of_ble_eq_true rfl), (Nat.le_of_ble_eq_true rfl)⟩ hl.1 rfl (Nat.le_of_ble_eq_true rfl) dX8_init_154 (fun a H locs hag h hS => ?_)
  have hAG := hAG.tr hag (fun r9 i9 z => by simp [aA, cA, mA, cA2, cA7, fA, z])
  have hl : lv_has ls 2 [(1, .int 3), (0, .ref (a 8 0))] := by rw [hag 8 0 (by simp [aA, cA, mA, cA2, cA7, fA, hA0, hA1])]; exact hl
  rw [← hag 50 0 (by simp [aA, cA, mA, cA2, cA7, fA, hA0, hA1])]
  rw [← hag 3 3 (by simp [aA, cA, mA, cA2, cA7, fA, hA0, hA1])]
  refine w_aast (k := 3) (j := 3) C h hS 50 0 3 0 2 (by simp [aA, cA, mA, cA2, cA7, fA, hA0, hA1]) (by decide) rfl rfl rfl (by decide) rfl (by simp [aA, cA, mA, cA2, cA7, fA, hA0, hA1]) rfl (show ck 6 3 = some 3 by decide) dX8_init_157 (fun H locs h hS => ?_)
  have h := h.to (fA_s (s := 3) rfl) (fP_s (s := 3) rfl)
  refine lv_iinc (v := 4) (lv' := [(1, .int 4), (0, .ref (a 8 0))]) hx hb dX8_init_158 hl (k := 0) rfl (by decide) (by decide) rfl (fun ls hl => ?_)
  refine lv_goto (tgt := 139) hx hb dX8_init_161 (by decide) ?_
  refine lv_iload_n hx hb dX8_init_139 rfl (lv_at hl 0 rfl) ?_
  refine lv_bipush (v := 6) hx hb dX8_init_140 (by decide) ?_
  refine lv_icmp_ge (tgt := 164) hx hb dX8_init_142 (by decide) (fun c9 => absurd c9 (show ¬ (6 : Int32) ≤ 4 by decide)) (fun _ => ?_)
  refine lv_aload_n hx hb dX8_init_145 rfl (lv_at hl 1 rfl) ?_
  refine w_get (v := .ref (a 50 0)) C h 8 0 1 (by simp [aP, cP, mP, cP2, cP7, fP]) (by decide) (by decide) rfl fl_X8_18 dX8_init_146 ?_
  refine lv_iload_n hx hb dX8_init_149 rfl (lv_at hl 0 rfl) ?_
  refine w_new (N := 14) C h hS 3 4 (by simp [aA, cA, mA, cA2, cA7, fA, hN]) (by decide) cl_X8_16 in_3 iz_3 rfl (Nat.le_of_ble_eq_true rfl) (Nat.le_of_ble_eq_true rfl) dX8_init_150 (fun a H hag h hS => ?_)
  have hAG := hAG.tr hag (fun r9 i9 z => by simp [aA, cA, mA, cA2, cA7, fA, z])
  have hl : lv_has ls 2 [(1, .int 4), (0, .ref (a 8 0))] := by rw [hag 8 0 (by simp [aA, cA, mA, cA2, cA7, fA, hA0, hA1])]; exact hl
  rw [← hag 50 0 (by simp [aA, cA, mA, cA2, cA7, fA, hA0, hA1])]
  refine lv_dup hx hb dX8_init_153 rfl ?_
  refine w_initN (host := RX8) (As := []) (rest := [.ref (a 3 4), .int 4, .ref (a 50 0)]) C (vX3_init (by simp [aA, cA, mA, cA2, cA7, fA, hA0, hA1]) (fun r9 q1 q2 z => by have z1 := hN r9 4 (by omega) (by omega) (by omega); simp only [aA, cA, mA, cA2, cA7, fA, z1, false_or] at z; omega)) h hS (by decide) mi_3 rfl ⟨(Nat.le_of_ble_eq_true rfl), (Nat.le_of_ble_eq_true rfl), (Nat.le_of_ble_eq_true rfl), (Nat.le_of_ble_eq_true rfl)⟩ hl.1 rfl (Nat.le_of_ble_eq_true rfl) dX8_init_154 (fun a H locs hag h hS => ?_)
  have hAG := hAG.tr hag (fun r9 i9 z => by simp [aA, cA, mA, cA2, cA7, fA, z])
  have hl : lv_has ls 2 [(1, .int 4), (0, .ref (a 8 0))] := by rw [hag 8 0 (by simp [aA, cA, mA, cA2, cA7, fA, hA0, hA1])]; exact hl
  rw [← hag 50 0 (by simp [aA, cA, mA, cA2, cA7, fA, hA0, hA1])]
  rw [← hag 3 4 (by simp [aA, cA, mA, cA2, cA7, fA, hA0, hA1])]
  refine w_aast (k := 4) (j := 4) C h hS 50 0 3 0 2 (by simp [aA, cA, mA, cA2, cA7, fA, hA0, hA1]) (by decide) rfl rfl rfl (by decide) rfl (by simp [aA, cA, mA, cA2, cA7, fA, hA0, hA1]) rfl (show ck 6 4 = some 4 by decide) dX8_init_157 (fun H locs h hS => ?_)
  have h := h.to (fA_s (s := 4) rfl) (fP_s (s := 4) rfl)
  refine lv_iinc (v := 5) (lv' := [(1, .int 5), (0, .ref (a 8 0))]) hx hb dX8_init_158 hl (k := 0) rfl (by decide) (by decide) rfl (fun ls hl => ?_)
  refine lv_goto (tgt := 139) hx hb dX8_init_161 (by decide) ?_
  refine lv_iload_n hx hb dX8_init_139 rfl (lv_at hl 0 rfl) ?_
  refine lv_bipush (v := 6) hx hb dX8_init_140 (by decide) ?_
  refine lv_icmp_ge (tgt := 164) hx hb dX8_init_142 (by decide) (fun c9 => absurd c9 (show ¬ (6 : Int32) ≤ 5 by decide)) (fun _ => ?_)
  refine lv_aload_n hx hb dX8_init_145 rfl (lv_at hl 1 rfl) ?_
  refine w_get (v := .ref (a 50 0)) C h 8 0 1 (by simp [aP, cP, mP, cP2, cP7, fP]) (by decide) (by decide) rfl fl_X8_18 dX8_init_146 ?_
  refine lv_iload_n hx hb dX8_init_149 rfl (lv_at hl 0 rfl) ?_
  refine w_new (N := 14) C h hS 3 5 (by simp [aA, cA, mA, cA2, cA7, fA, hN]) (by decide) cl_X8_16 in_3 iz_3 rfl (Nat.le_of_ble_eq_true rfl) (Nat.le_of_ble_eq_true rfl) dX8_init_150 (fun a H hag h hS => ?_)
  have hAG := hAG.tr hag (fun r9 i9 z => by simp [aA, cA, mA, cA2, cA7, fA, z])
  have hl : lv_has ls 2 [(1, .int 5), (0, .ref (a 8 0))] := by rw [hag 8 0 (by simp [aA, cA, mA, cA2, cA7, fA, hA0, hA1])]; exact hl
  rw [← hag 50 0 (by simp [aA, cA, mA, cA2, cA7, fA, hA0, hA1])]
  refine lv_dup hx hb dX8_init_153 rfl ?_
  refine w_initN (host := RX8) (As := []) (rest := [.ref (a 3 5), .int 5, .ref (a 50 0)]) C (vX3_init (by simp [aA, cA, mA, cA2, cA7, fA, hA0, hA1]) (fun r9 q1 q2 z => by have z1 := hN r9 5 (by omega) (by omega) (by omega); simp only [aA, cA, mA, cA2, cA7, fA, z1, false_or] at z; omega)) h hS (by decide) mi_3 rfl ⟨(Nat.le_of_ble_eq_true rfl), (Nat.le_of_ble_eq_true rfl), (Nat.le_of_ble_eq_true rfl), (Nat.le_of_ble_eq_true rfl)⟩ hl.1 rfl (Nat.le_of_ble_eq_true rfl) dX8_init_154 (fun a H locs hag h hS => ?_)
  have hAG := hAG.tr hag (fun r9 i9 z => by simp [aA, cA, mA, cA2, cA7, fA, z])
  have hl : lv_has ls 2 [(1, .int 5), (0, .ref (a 8 0))] := by rw [hag 8 0 (by simp [aA, cA, mA, cA2, cA7, fA, hA0, hA1])]; exact hl
  rw [← hag 50 0 (by simp [aA, cA, mA, cA2, cA7, fA, hA0, hA1])]
  rw [← hag 3 5 (by simp [aA, cA, mA, cA2, cA7, fA, hA0, hA1])]
  refine w_aast (k := 5) (j := 5) C h hS 50 0 3 0 2 (by simp [aA, cA, mA, cA2, cA7, fA, hA0, hA1]) (by decide) rfl rfl rfl (by decide) rfl (by simp [aA, cA, mA, cA2, cA7, fA, hA0, hA1]) rfl (show ck 6 5 = some 5 by decide) dX8_init_157 (fun H locs h hS => ?_)
  have h := h.to (fA_s (s := 5) rfl) (fP_s (s := 5) rfl)
  refine lv_iinc (v := 6) (lv' := [(1, .int 6), (0, .ref (a 8 0))]) hx hb dX8_init_158 hl (k := 0) rfl (by decide) (by decide) rfl (fun ls hl => ?_)
  refine lv_goto (tgt := 139) hx hb dX8_init_161 (by decide) ?_
  refine lv_iload_n hx hb dX8_init_139 rfl (lv_at hl 0 rfl) ?_
  refine lv_bipush (v := 6) hx hb dX8_init_140 (by decide) ?_
  refine lv_icmp_ge (tgt := 164) hx hb dX8_init_142 (by decide) (fun _ => ?_) (fun c9 => absurd (show (6 : Int32) ≤ 6 by decide) c9)
  have h := h.to (fA_0 (c := 6) (lo := 1) (hi := 0) (o := 0)) (fP_0 (c := 6) (lo := 1) (hi := 0) (o := 0) (arr := 51))
  refine lv_iconst (v := 0) hx hb dX8_init_164 (by decide) ?_
  refine lv_istore_n (lv' := [(1, .int 0), (0, .ref (a 8 0))]) hx hb dX8_init_165 rfl hl (by decide) rfl (fun ls hl => ?_)
  refine lv_iload_n hx hb dX8_init_166 rfl (lv_at hl 0 rfl) ?_
  refine lv_bipush (v := 6) hx hb dX8_init_167 (by decide) ?_
  refine lv_icmp_ge (tgt := 191) hx hb dX8_init_169 (by decide) (fun c9 => absurd c9 (show ¬ (6 : Int32) ≤ 0 by decide)) (fun _ => ?_)
  refine lv_aload_n hx hb dX8_init_172 rfl (lv_at hl 1 rfl) ?_
  refine w_get (v := .ref (a 51 0)) C h 8 0 3 (by simp [aP, cP, mP, cP2, cP7, fP]) (by decide) (by decide) rfl fl_X8_28 dX8_init_173 ?_
  refine lv_iload_n hx hb dX8_init_176 rfl (lv_at hl 0 rfl) ?_
  refine w_new (N := 5) C h hS 6 0 (by simp [aA, cA, mA, cA2, cA7, fA, hN]) (by decide) cl_X8_26 in_6 iz_6 rfl (Nat.le_of_ble_eq_true rfl) (Nat.le_of_ble_eq_true rfl) dX8_init_177 (fun a H hag h hS => ?_)
  have hAG := hAG.tr hag (fun r9 i9 z => by simp [aA, cA, mA, cA2, cA7, fA, z])
  have hl : lv_has ls 2 [(1, .int 0), (0, .ref (a 8 0))] := by rw [hag 8 0 (by simp [aA, cA, mA, cA2, cA7, fA, hA0, hA1])]; exact hl
  rw [← hag 51 0 (by simp [aA, cA, mA, cA2, cA7, fA, hA0, hA1])]
  refine lv_dup hx hb dX8_init_180 rfl ?_
  refine w_initN (host := RX8) (As := []) (rest := [.ref (a 6 0), .int 0, .ref (a 51 0)]) C (vX6_init (by simp [aA, cA, mA, cA2, cA7, fA, hA0, hA1]) (fun _ q1 q2 => absurd q1 (by omega))) h hS (by decide) mi_6 rfl ⟨(Nat.le_of_ble_eq_true rfl), (Nat.le_of_ble_eq_true rfl), (Nat.le_of_ble_eq_true rfl), (Nat.le_of_ble_eq_true rfl)⟩ hl.1 rfl (Nat.le_of_ble_eq_true rfl) dX8_init_181 (fun a H locs hag h hS => ?_)
  have hAG := hAG.tr hag (fun r9 i9 z => by simp [aA, cA, mA, cA2, cA7, fA, z])
  have hl : lv_has ls 2 [(1, .int 0), (0, .ref (a 8 0))] := by rw [hag 8 0 (by simp [aA, cA, mA, cA2, cA7, fA, hA0, hA1])]; exact hl
  rw [← hag 51 0 (by simp [aA, cA, mA, cA2, cA7, fA, hA0, hA1])]
  rw [← hag 6 0 (by simp [aA, cA, mA, cA2, cA7, fA, hA0, hA1])]
  refine w_aast (k := 0) (j := 0) C h hS 51 0 6 0 3 (by simp [aA, cA, mA, cA2, cA7, fA, hA0, hA1]) (by decide) rfl rfl rfl (by decide) rfl (by simp [aA, cA, mA, cA2, cA7, fA, hA0, hA1]) rfl (show ck 6 0 = some 0 by decide) dX8_init_184 (fun H locs h hS => ?_)
  have h := h.to (fA_s (s := 0) rfl) (fP_s (s := 0) rfl)
  refine lv_iinc (v := 1) (lv' := [(1, .int 1), (0, .ref (a 8 0))]) hx hb dX8_init_185 hl (k := 0) rfl (by decide) (by decide) rfl (fun ls hl => ?_)
  refine lv_goto (tgt := 166) hx hb dX8_init_188 (by decide) ?_
  refine lv_iload_n hx hb dX8_init_166 rfl (lv_at hl 0 rfl) ?_
  refine lv_bipush (v := 6) hx hb dX8_init_167 (by decide) ?_
  refine lv_icmp_ge (tgt := 191) hx hb dX8_init_169 (by decide) (fun c9 => absurd c9 (show ¬ (6 : Int32) ≤ 1 by decide)) (fun _ => ?_)
  refine lv_aload_n hx hb dX8_init_172 rfl (lv_at hl 1 rfl) ?_
  refine w_get (v := .ref (a 51 0)) C h 8 0 3 (by simp [aP, cP, mP, cP2, cP7, fP]) (by decide) (by decide) rfl fl_X8_28 dX8_init_173 ?_
  refine lv_iload_n hx hb dX8_init_176 rfl (lv_at hl 0 rfl) ?_
  refine w_new (N := 5) C h hS 6 1 (by simp [aA, cA, mA, cA2, cA7, fA, hN]) (by decide) cl_X8_26 in_6 iz_6 rfl (Nat.le_of_ble_eq_true rfl) (Nat.le_of_ble_eq_true rfl) dX8_init_177 (fun a H hag h hS => ?_)
  have hAG := hAG.tr hag (fun r9 i9 z => by simp [aA, cA, mA, cA2, cA7, fA, z])
  have hl : lv_has ls 2 [(1, .int 1), (0, .ref (a 8 0))] := by rw [hag 8 0 (by simp [aA, cA, mA, cA2, cA7, fA, hA0, hA1])]; exact hl
  rw [← hag 51 0 (by simp [aA, cA, mA, cA2, cA7, fA, hA0, hA1])]
  refine lv_dup hx hb dX8_init_180 rfl ?_
  refine w_initN (host := RX8) (As := []) (rest := [.ref (a 6 1), .int 1, .ref (a 51 0)]) C (vX6_init (by simp [aA, cA, mA, cA2, cA7, fA, hA0, hA1]) (fun _ q1 q2 => absurd q1 (by omega))) h hS (by decide) mi_6 rfl ⟨(Nat.le_of_ble_eq_true rfl), (Nat.le_of_ble_eq_true rfl), (Nat.le_of_ble_eq_true rfl), (Nat.le_of_ble_eq_true rfl)⟩ hl.1 rfl (Nat.le_of_ble_eq_true rfl) dX8_init_181 (fun a H locs hag h hS => ?_)
  have hAG := hAG.tr hag (fun r9 i9 z => by simp [aA, cA, mA, cA2, cA7, fA, z])
  have hl : lv_has ls 2 [(1, .int 1), (0, .ref (a 8 0))] := by rw [hag 8 0 (by simp [aA, cA, mA, cA2, cA7, fA, hA0, hA1])]; exact hl
  rw [← hag 51 0 (by simp [aA, cA, mA, cA2, cA7, fA, hA0, hA1])]
  rw [← hag 6 1 (by simp [aA, cA, mA, cA2, cA7, fA, hA0, hA1])]
  refine w_aast (k := 1) (j := 1) C h hS 51 0 6 0 3 (by simp [aA, cA, mA, cA2, cA7, fA, hA0, hA1]) (by decide) rfl rfl rfl (by decide) rfl (by simp [aA, cA, mA, cA2, cA7, fA, hA0, hA1]) rfl (show ck 6 1 = some 1 by decide) dX8_init_184 (fun H locs h hS => ?_)
  have h := h.to (fA_s (s := 1) rfl) (fP_s (s := 1) rfl)
  refine lv_iinc (v := 2) (lv' := [(1, .int 2), (0, .ref (a 8 0))]) hx hb dX8_init_185 hl (k := 0) rfl (by decide) (by decide) rfl (fun ls hl => ?_)
  refine lv_goto (tgt := 166) hx hb dX8_init_188 (by decide) ?_
  refine lv_iload_n hx hb dX8_init_166 rfl (lv_at hl 0 rfl) ?_
  refine lv_bipush (v := 6) hx hb dX8_init_167 (by decide) ?_
  refine lv_icmp_ge (tgt := 191) hx hb dX8_init_169 (by decide) (fun c9 => absurd c9 (show ¬ (6 : Int32) ≤ 2 by decide)) (fun _ => ?_)
  refine lv_aload_n hx hb dX8_init_172 rfl (lv_at hl 1 rfl) ?_
  refine w_get (v := .ref (a 51 0)) C h 8 0 3 (by simp [aP, cP, mP, cP2, cP7, fP]) (by decide) (by decide) rfl fl_X8_28 dX8_init_173 ?_
  refine lv_iload_n hx hb dX8_init_176 rfl (lv_at hl 0 rfl) ?_
  refine w_new (N := 5) C h hS 6 2 (by simp [aA, cA, mA, cA2, cA7, fA, hN]) (by decide) cl_X8_26 in_6 iz_6 rfl (Nat.le_of_ble_eq_true rfl) (Nat.le_of_ble_eq_true rfl) dX8_init_177 (fun a H hag h hS => ?_)
  have hAG := hAG.tr hag (fun r9 i9 z => by simp [aA, cA, mA, cA2, cA7, fA, z])
  have hl : lv_has ls 2 [(1, .int 2), (0, .ref (a 8 0))] := by rw [hag 8 0 (by simp [aA, cA, mA, cA2, cA7, fA, hA0, hA1])]; exact hl
  rw [← hag 51 0 (by simp [aA, cA, mA, cA2, cA7, fA, hA0, hA1])]
  refine lv_dup hx hb dX8_init_180 rfl ?_
  refine w_initN (host := RX8) (As := []) (rest := [.ref (a 6 2), .int 2, .ref (a 51 0)]) C (vX6_init (by simp [aA, cA, mA, cA2, cA7, fA, hA0, hA1]) (fun _ q1 q2 => absurd q1 (by omega))) h hS (by decide) mi_6 rfl ⟨(Nat.le_of_ble_eq_true rfl), (Nat.le_of_ble_eq_true rfl), (Nat.le_of_ble_eq_true rfl), (Nat.le_of_ble_eq_true rfl)⟩ hl.1 rfl (Nat.le_of_ble_eq_true rfl) dX8_init_181 (fun a H locs hag h hS => ?_)
  have hAG := hAG.tr hag (fun r9 i9 z => by simp [aA, cA, mA, cA2, cA7, fA, z])
  have hl : lv_has ls 2 [(1, .int 2), (0, .ref (a 8 0))] := by rw [hag 8 0 (by simp [aA, cA, mA, cA2, cA7, fA, hA0, hA1])]; exact hl
  rw [← hag 51 0 (by simp [aA, cA, mA, cA2, cA7, fA, hA0, hA1])]
  rw [← hag 6 2 (by simp [aA, cA, mA, cA2, cA7, fA, hA0, hA1])]
  refine w_aast (k := 2) (j := 2) C h hS 51 0 6 0 3 (by simp [aA, cA, mA, cA2, cA7, fA, hA0, hA1]) (by decide) rfl rfl rfl (by decide) rfl (by simp [aA, cA, mA, cA2, cA7, fA, hA0, hA1]) rfl (show ck 6 2 = some 2 by decide) dX8_init_184 (fun H locs h hS => ?_)
  have h := h.to (fA_s (s := 2) rfl) (fP_s (s := 2) rfl)
  refine lv_iinc (v := 3) (lv' := [(1, .int 3), (0, .ref (a 8 0))]) hx hb dX8_init_185 hl (k := 0) rfl (by decide) (by decide) rfl (fun ls hl => ?_)
  refine lv_goto (tgt := 166) hx hb dX8_init_188 (by decide) ?_
  refine lv_iload_n hx hb dX8_init_166 rfl (lv_at hl 0 rfl) ?_
  refine lv_bipush (v := 6) hx hb dX8_init_167 (by decide) ?_
  refine lv_icmp_ge (tgt := 191) hx hb dX8_init_169 (by decide) (fun c9 => absurd c9 (show ¬ (6 : Int32) ≤ 3 by decide)) (fun _ => ?_)
  refine lv_aload_n hx hb dX8_init_172 rfl (lv_at hl 1 rfl) ?_
  refine w_get (v := .ref (a 51 0)) C h 8 0 3 (by simp [aP, cP, mP, cP2, cP7, fP]) (by decide) (by decide) rfl fl_X8_28 dX8_init_173 ?_
  refine lv_iload_n hx hb dX8_init_176 rfl (lv_at hl 0 rfl) ?_
  refine w_new (N := 5) C h hS 6 3 (by simp [aA, cA, mA, cA2, cA7, fA, hN]) (by decide) cl_X8_26 in_6 iz_6 rfl (Nat.le_of_ble_eq_true rfl) (Nat.le_of_ble_eq_true rfl) dX8_init_177 (fun a H hag h hS => ?_)
  have hAG := hAG.tr hag (fun r9 i9 z => by simp [aA, cA, mA, cA2, cA7, fA, z])
  have hl : lv_has ls 2 [(1, .int 3), (0, .ref (a 8 0))] := by rw [hag 8 0 (by simp [aA, cA, mA, cA2, cA7, fA, hA0, hA1])]; exact hl
  rw [← hag 51 0 (by simp [aA, cA, mA, cA2, cA7, fA, hA0, hA1])]
  refine lv_dup hx hb dX8_init_180 rfl ?_
  refine w_initN (host := RX8) (As := []) (rest := [.ref (a 6 3), .int 3, .ref (a 51 0)]) C (vX6_init (by simp [aA, cA, mA, cA2, cA7, fA, hA0, hA1]) (fun _ q1 q2 => absurd q1 (by omega))) h hS (by decide) mi_6 rfl ⟨(Nat.le_of_ble_eq_true rfl), (Nat.le_of_ble_eq_true rfl), (Nat.le_of_ble_eq_true rfl), (Nat.le_of_ble_eq_true rfl)⟩ hl.1 rfl (Nat.le_of_ble_eq_true rfl) dX8_init_181 (fun a H locs hag h hS => ?_)
  have hAG := hAG.tr hag (fun r9 i9 z => by simp [aA, cA, mA, cA2, cA7, fA, z])
  have hl : lv_has ls 2 [(1, .int 3), (0, .ref (a 8 0))] := by rw [hag 8 0 (by simp [aA, cA, mA, cA2, cA7, fA, hA0, hA1])]; exact hl
  rw [← hag 51 0 (by simp [aA, cA, mA, cA2, cA7, fA, hA0, hA1])]
  rw [← hag 6 3 (by simp [aA, cA, mA, cA2, cA7, fA, hA0, hA1])]
  refine w_aast (k := 3) (j := 3) C h hS 51 0 6 0 3 (by simp [aA, cA, mA, cA2, cA7, fA, hA0, hA1]) (by decide) rfl rfl rfl (by decide) rfl (by simp [aA, cA, mA, cA2, cA7, fA, hA0, hA1]) rfl (show ck 6 3 = some 3 by decide) dX8_init_184 (fun H locs h hS => ?_)
  have h := h.to (fA_s (s := 3) rfl) (fP_s (s := 3) rfl)
  refine lv_iinc (v := 4) (lv' := [(1, .int 4), (0, .ref (a 8 0))]) hx hb dX8_init_185 hl (k := 0) rfl (by decide) (by decide) rfl (fun ls hl => ?_)
  refine lv_goto (tgt := 166) hx hb dX8_init_188 (by decide) ?_
  refine lv_iload_n hx hb dX8_init_166 rfl (lv_at hl 0 rfl) ?_
  refine lv_bipush (v := 6) hx hb dX8_init_167 (by decide) ?_
  refine lv_icmp_ge (tgt := 191) hx hb dX8_init_169 (by decide) (fun c9 => absurd c9 (show ¬ (6 : Int32) ≤ 4 by decide)) (fun _ => ?_)
  refine lv_aload_n hx hb dX8_init_172 rfl (lv_at hl 1 rfl) ?_
  refine w_get (v := .ref (a 51 0)) C h 8 0 3 (by simp [aP, cP, mP, cP2, cP7, fP]) (by decide) (by decide) rfl fl_X8_28 dX8_init_173 ?_
  refine lv_iload_n hx hb dX8_init_176 rfl (lv_at hl 0 rfl) ?_
  refine w_new (N := 5) C h hS 6 4 (by simp [aA, cA, mA, cA2, cA7, fA, hN]) (by decide) cl_X8_26 in_6 iz_6 rfl (Nat.le_of_ble_eq_true rfl) (Nat.le_of_ble_eq_true rfl) dX8_init_177 (fun a H hag h hS => ?_)
  have hAG := hAG.tr hag (fun r9 i9 z => by simp [aA, cA, mA, cA2, cA7, fA, z])
  have hl : lv_has ls 2 [(1, .int 4), (0, .ref (a 8 0))] := by rw [hag 8 0 (by simp [aA, cA, mA, cA2, cA7, fA, hA0, hA1])]; exact hl
  rw [← hag 51 0 (by simp [aA, cA, mA, cA2, cA7, fA, hA0, hA1])]
  refine lv_dup hx hb dX8_init_180 rfl ?_
  refine w_initN (host := RX8) (As := []) (rest := [.ref (a 6 4), .int 4, .ref (a 51 0)]) C (vX6_init (by simp [aA, cA, mA, cA2, cA7, fA, hA0, hA1]) (fun _ q1 q2 => absurd q1 (by omega))) h hS (by decide) mi_6 rfl ⟨(Nat.le_of_ble_eq_true rfl), (Nat.le_of_ble_eq_true rfl), (Nat.le_of_ble_eq_true rfl), (Nat.le_of_ble_eq_true rfl)⟩ hl.1 rfl (Nat.le_of_ble_eq_true rfl) dX8_init_181 (fun a H locs hag h hS => ?_)
  have hAG := hAG.tr hag (fun r9 i9 z => by simp [aA, cA, mA, cA2, cA7, fA, z])
  have hl : lv_has ls 2 [(1, .int 4), (0, .ref (a 8 0))] := by rw [hag 8 0 (by simp [aA, cA, mA, cA2, cA7, fA, hA0, hA1])]; exact hl
  rw [← hag 51 0 (by simp [aA, cA, mA, cA2, cA7, fA, hA0, hA1])]
  rw [← hag 6 4 (by simp [aA, cA, mA, cA2, cA7, fA, hA0, hA1])]
  refine w_aast (k := 4) (j := 4) C h hS 51 0 6 0 3 (by simp [aA, cA, mA, cA2, cA7, fA, hA0, hA1]) (by decide) rfl rfl rfl (by decide) rfl (by simp [aA, cA, mA, cA2, cA7, fA, hA0, hA1]) rfl (show ck 6 4 = some 4 by decide) dX8_init_184 (fun H locs h hS => ?_)
  have h := h.to (fA_s (s := 4) rfl) (fP_s (s := 4) rfl)
  refine lv_iinc (v := 5) (lv' := [(1, .int 5), (0, .ref (a 8 0))]) hx hb dX8_init_185 hl (k := 0) rfl (by decide) (by decide) rfl (fun ls hl => ?_)
  refine lv_goto (tgt := 166) hx hb dX8_init_188 (by decide) ?_
  refine lv_iload_n hx hb dX8_init_166 rfl (lv_at hl 0 rfl) ?_
  refine lv_bipush (v := 6) hx hb dX8_init_167 (by decide) ?_
  refine lv_icmp_ge (tgt := 191) hx hb dX8_init_169 (by decide) (fun c9 => absurd c9 (show ¬ (6 : Int32) ≤ 5 by decide)) (fun _ => ?_)
  refine lv_aload_n hx hb dX8_init_172 rfl (lv_at hl 1 rfl) ?_
  refine w_get (v := .ref (a 51 0)) C h 8 0 3 (by simp [aP, cP, mP, cP2, cP7, fP]) (by decide) (by decide) rfl fl_X8_28 dX8_init_173 ?_
  refine lv_iload_n hx hb dX8_init_176 rfl (lv_at hl 0 rfl) ?_
  refine w_new (N := 5) C h hS 6 5 (by simp [aA, cA, mA, cA2, cA7, fA, hN]) (by decide) cl_X8_26 in_6 iz_6 rfl (Nat.le_of_ble_eq_true rfl) (Nat.le_of_ble_eq_true rfl) dX8_init_177 (fun a H hag h hS => ?_)
  have hAG := hAG.tr hag (fun r9 i9 z => by simp [aA, cA, mA, cA2, cA7, fA, z])
  have hl : lv_has ls 2 [(1, .int 5), (0, .ref (a 8 0))] := by rw [hag 8 0 (by simp [aA, cA, mA, cA2, cA7, fA, hA0, hA1])]; exact hl
  rw [← hag 51 0 (by simp [aA, cA, mA, cA2, cA7, fA, hA0, hA1])]
  refine lv_dup hx hb dX8_init_180 rfl ?_
  refine w_initN (host := RX8) (As := []) (rest := [.ref (a 6 5), .int 5, .ref (a 51 0)]) C (vX6_init (by simp [aA, cA, mA, cA2, cA7, fA, hA0, hA1]) (fun _ q1 q2 => absurd q1 (by omega))) h hS (by decide) mi_6 rfl ⟨(Nat.le_of_ble_eq_true rfl), (Nat.le_of_ble_eq_true rfl), (Nat.le_of_ble_eq_true rfl), (Nat.le_of_ble_eq_true rfl)⟩ hl.1 rfl (Nat.le_of_ble_eq_true rfl) dX8_init_181 (fun a H locs hag h hS => ?_)
  have hAG := hAG.tr hag (fun r9 i9 z => by simp [aA, cA, mA, cA2, cA7, fA, z])
  have hl : lv_has ls 2 [(1, .int 5), (0, .ref (a 8 0))] := by rw [hag 8 0 (by simp [aA, cA, mA, cA2, cA7, fA, hA0, hA1])]; exact hl
  rw [← hag 51 0 (by simp [aA, cA, mA, cA2, cA7, fA, hA0, hA1])]
  rw [← hag 6 5 (by simp [aA, cA, mA, cA2, cA7, fA, hA0, hA1])]
  refine w_aast (k := 5) (j := 5) C h hS 51 0 6 0 3 (by simp [aA, cA, mA, cA2, cA7, fA, hA0, hA1]) (by decide) rfl rfl rfl (by decide) rfl (by simp [aA, cA, mA, cA2, cA7, fA, hA0, hA1]) rfl (show ck 6 5 = some 5 by decide) dX8_init_184 (fun H locs h hS => ?_)
  have h := h.to (fA_s (s := 5) rfl) (fP_s (s := 5) rfl)
  refine lv_iinc (v := 6) (lv' := [(1, .int 6), (0, .ref (a 8 0))]) hx hb dX8_init_185 hl (k := 0) rfl (by decide) (by decide) rfl (fun ls hl => ?_)
  refine lv_goto (tgt := 166) hx hb dX8_init_188 (by decide) ?_
  refine lv_iload_n hx hb dX8_init_166 rfl (lv_at hl 0 rfl) ?_
  refine lv_bipush (v := 6) hx hb dX8_init_167 (by decide) ?_
  refine lv_icmp_ge (tgt := 191) hx hb dX8_init_169 (by decide) (fun _ => ?_) (fun c9 => absurd (show (6 : Int32) ≤ 6 by decide) c9)
  have h := h.to (fA_0 (c := 1) (lo := 32) (hi := 36) (o := 0)) (fP_0 (c := 1) (lo := 32) (hi := 36) (o := 0) (arr := 52))
  refine lv_iconst (v := 0) hx hb dX8_init_191 (by decide) ?_
  refine lv_istore_n (lv' := [(1, .int 0), (0, .ref (a 8 0))]) hx hb dX8_init_192 rfl hl (by decide) rfl (fun ls hl => ?_)
  refine lv_iload_n hx hb dX8_init_193 rfl (lv_at hl 0 rfl) ?_
  refine lv_iconst (v := 4) hx hb dX8_init_194 (by decide) ?_
  refine lv_icmp_ge (tgt := 217) hx hb dX8_init_195 (by decide) (fun c9 => absurd c9 (show ¬ (4 : Int32) ≤ 0 by decide)) (fun _ => ?_)
  refine lv_aload_n hx hb dX8_init_198 rfl (lv_at hl 1 rfl) ?_
  refine w_get (v := .ref (a 52 0)) C h 8 0 5 (by simp [aP, cP, mP, cP2, cP7, fP]) (by decide) (by decide) rfl fl_X8_37 dX8_init_199 ?_
  refine lv_iload_n hx hb dX8_init_202 rfl (lv_at hl 0 rfl) ?_
  refine w_new (N := 7) C h hS 1 0 (by simp [aA, cA, mA, cA2, cA7, fA, hN]) (by decide) cl_X8_35 in_1 iz_1 rfl (Nat.le_of_ble_eq_true rfl) (Nat.le_of_ble_eq_true rfl) dX8_init_203 (fun a H hag h hS => ?_)
  have hAG := hAG.tr hag (fun r9 i9 z => by simp [aA, cA, mA, cA2, cA7, fA, z])
  have hl : lv_has ls 2 [(1, .int 0), (0, .ref (a 8 0))] := by rw [hag 8 0 (by simp [aA, cA, mA, cA2, cA7, fA, hA0, hA1])]; exact hl
  rw [← hag 52 0 (by simp [aA, cA, mA, cA2, cA7, fA, hA0, hA1])]
  refine lv_dup hx hb dX8_init_206 rfl ?_
  refine w_initN (host := RX8) (As := []) (rest := [.ref (a 1 0), .int 0, .ref (a 52 0)]) C (vX1_init (by simp [aA, cA, mA, cA2, cA7, fA, hA0, hA1]) (fun r9 q1 q2 z => by have z1 := hN r9 0 (by omega) (by omega) (by omega); simp only [aA, cA, mA, cA2, cA7, fA, z1, false_or] at z; omega)) h hS (by decide) mi_1 rfl ⟨(Nat.le_of_ble_eq_true rfl), (Nat.le_of_ble_eq_true rfl), (Nat.le_of_ble_eq_true rfl), (Nat.le_of_ble_eq_true rfl)⟩ hl.1 rfl (Nat.le_of_ble_eq_true rfl) dX8_init_207 (fun a H locs hag h hS => ?_)
  have hAG := hAG.tr hag (fun r9 i9 z => by simp [aA, cA, mA, cA2, cA7, fA, z])
  have hl : lv_has ls 2 [(1, .int 0), (0, .ref (a 8 0))] := by rw [hag 8 0 (by simp [aA, cA, mA, cA2, cA7, fA, hA0, hA1])]; exact hl
  rw [← hag 52 0 (by simp [aA, cA, mA, cA2, cA7, fA, hA0, hA1])]
  rw [← hag 1 0 (by simp [aA, cA, mA, cA2, cA7, fA, hA0, hA1])]
  refine w_aast (k := 0) (j := 0) C h hS 52 0 1 0 4 (by simp [aA, cA, mA, cA2, cA7, fA, hA0, hA1]) (by decide) rfl rfl rfl (by decide) rfl (by simp [aA, cA, mA, cA2, cA7, fA, hA0, hA1]) rfl (show ck 4 0 = some 0 by decide) dX8_init_210 (fun H locs h hS => ?_)
  have h := h.to (fA_s (s := 0) rfl) (fP_s (s := 0) rfl)
  refine lv_iinc (v := 1) (lv' := [(1, .int 1), (0, .ref (a 8 0))]) hx hb dX8_init_211 hl (k := 0) rfl (by decide) (by decide) rfl (fun ls hl => ?_)
  refine lv_goto (tgt := 193) hx hb dX8_init_214 (by decide) ?_
  refine lv_iload_n hx hb dX8_init_193 rfl (lv_at hl 0 rfl) ?_
  refine lv_iconst (v := 4) hx hb dX8_init_194 (by decide) ?_
  refine lv_icmp_ge (tgt := 217) hx hb dX8_init_195 (by decide) (fun c9 => absurd c9 (show ¬ (4 : Int32) ≤ 1 by decide)) (fun _ => ?_)
  refine lv_aload_n hx hb dX8_init_198 rfl (lv_at hl 1 rfl) ?_
  refine w_get (v := .ref (a 52 0)) C h 8 0 5 (by simp [aP, cP, mP, cP2, cP7, fP]) (by decide) (by decide) rfl fl_X8_37 dX8_init_199 ?_
  refine lv_iload_n hx hb dX8_init_202 rfl (lv_at hl 0 rfl) ?_
  refine w_new (N := 7) C h hS 1 1 (by simp [aA, cA, mA, cA2, cA7, fA, hN]) (by decide) cl_X8_35 in_1 iz_1 rfl (Nat.le_of_ble_eq_true rfl) (Nat.le_of_ble_eq_true rfl) dX8_init_203 (fun a H hag h hS => ?_)
  have hAG := hAG.tr hag (fun r9 i9 z => by simp [aA, cA, mA, cA2, cA7, fA, z])
  have hl : lv_has ls 2 [(1, .int 1), (0, .ref (a 8 0))] := by rw [hag 8 0 (by simp [aA, cA, mA, cA2, cA7, fA, hA0, hA1])]; exact hl
  rw [← hag 52 0 (by simp [aA, cA, mA, cA2, cA7, fA, hA0, hA1])]
  refine lv_dup hx hb dX8_init_206 rfl ?_
  refine w_initN (host := RX8) (As := []) (rest := [.ref (a 1 1), .int 1, .ref (a 52 0)]) C (vX1_init (by simp [aA, cA, mA, cA2, cA7, fA, hA0, hA1]) (fun r9 q1 q2 z => by have z1 := hN r9 1 (by omega) (by omega) (by omega); simp only [aA, cA, mA, cA2, cA7, fA, z1, false_or] at z; omega)) h hS (by decide) mi_1 rfl ⟨(Nat.le_of_ble_eq_true rfl), (Nat.le_of_ble_eq_true rfl), (Nat.le_of_ble_eq_true rfl), (Nat.le_of_ble_eq_true rfl)⟩ hl.1 rfl (Nat.le_of_ble_eq_true rfl) dX8_init_207 (fun a H locs hag h hS => ?_)
  have hAG := hAG.tr hag (fun r9 i9 z => by simp [aA, cA, mA, cA2, cA7, fA, z])
  have hl : lv_has ls 2 [(1, .int 1), (0, .ref (a 8 0))] := by rw [hag 8 0 (by simp [aA, cA, mA, cA2, cA7, fA, hA0, hA1])]; exact hl
  rw [← hag 52 0 (by simp [aA, cA, mA, cA2, cA7, fA, hA0, hA1])]
  rw [← hag 1 1 (by simp [aA, cA, mA, cA2, cA7, fA, hA0, hA1])]
  refine w_aast (k := 1) (j := 1) C h hS 52 0 1 0 4 (by simp [aA, cA, mA, cA2, cA7, fA, hA0, hA1]) (by decide) rfl rfl rfl (by decide) rfl (by simp [aA, cA, mA, cA2, cA7, fA, hA0, hA1]) rfl (show ck 4 1 = some 1 by decide) dX8_init_210 (fun H locs h hS => ?_)
  have h := h.to (fA_s (s := 1) rfl) (fP_s (s := 1) rfl)
  refine lv_iinc (v := 2) (lv' := [(1, .int 2), (0, .ref (a 8 0))]) hx hb dX8_init_211 hl (k := 0) rfl (by decide) (by decide) rfl (fun ls hl => ?_)
  refine lv_goto (tgt := 193) hx hb dX8_init_214 (by decide) ?_
  refine lv_iload_n hx hb dX8_init_193 rfl (lv_at hl 0 rfl) ?_
  refine lv_iconst (v := 4) hx hb dX8_init_194 (by decide) ?_
  refine lv_icmp_ge (tgt := 217) hx hb dX8_init_195 (by decide) (fun c9 => absurd c9 (show ¬ (4 : Int32) ≤ 2 by decide)) (fun _ => ?_)
  refine lv_aload_n hx hb dX8_init_198 rfl (lv_at hl 1 rfl) ?_
  refine w_get (v := .ref (a 52 0)) C h 8 0 5 (by simp [aP, cP, mP, cP2, cP7, fP]) (by decide) (by decide) rfl fl_X8_37 dX8_init_199 ?_
  refine lv_iload_n hx hb dX8_init_202 rfl (lv_at hl 0 rfl) ?_
  refine w_new (N := 7) C h hS 1 2 (by simp [aA, cA, mA, cA2, cA7, fA, hN]) (by decide) cl_X8_35 in_1 iz_1 rfl (Nat.le_of_ble_eq_true rfl) (Nat.le_of_ble_eq_true rfl) dX8_init_203 (fun a H hag h hS => ?_)
  have hAG := hAG.tr hag (fun r9 i9 z => by simp [aA, cA, mA, cA2, cA7, fA, z])
  have hl : lv_has ls 2 [(1, .int 2), (0, .ref (a 8 0))] := by rw [hag 8 0 (by simp [aA, cA, mA, cA2, cA7, fA, hA0, hA1])]; exact hl
  rw [← hag 52 0 (by simp [aA, cA, mA, cA2, cA7, fA, hA0, hA1])]
  refine lv_dup hx hb dX8_init_206 rfl ?_
  refine w_initN (host := RX8) (As := []) (rest := [.ref (a 1 2), .int 2, .ref (a 52 0)]) C (vX1_init (by simp [aA, cA, mA, cA2, cA7, fA, hA0, hA1]) (fun r9 q1 q2 z => by have z1 := hN r9 2 (by omega) (by omega) (by omega); simp only [aA, cA, mA, cA2, cA7, fA, z1, false_or] at z; omega)) h hS (by decide) mi_1 rfl ⟨(Nat.le_of_ble_eq_true rfl), (Nat.le_of_ble_eq_true rfl), (Nat.le_of_ble_eq_true rfl), (Nat.le_of_ble_eq_true rfl)⟩ hl.1 rfl (Nat.le_of_ble_eq_true rfl) dX8_init_207 (fun a H locs hag h hS => ?_)
  have hAG := hAG.tr hag (fun r9 i9 z => by simp [aA, cA, mA, cA2, cA7, fA, z])
  have hl : lv_has ls 2 [(1, .int 2), (0, .ref (a 8 0))] := by rw [hag 8 0 (by simp [aA, cA, mA, cA2, cA7, fA, hA0, hA1])]; exact hl
  rw [← hag 52 0 (by simp [aA, cA, mA, cA2, cA7, fA, hA0, hA1])]
  rw [← hag 1 2 (by simp [aA, cA, mA, cA2, cA7, fA, hA0, hA1])]
  refine w_aast (k := 2) (j := 2) C h hS 52 0 1 0 4 (by simp [aA, cA, mA, cA2, cA7, fA, hA0, hA1]) (by decide) rfl rfl rfl (by decide) rfl (by simp [aA, cA, mA, cA2, cA7, fA, hA0, hA1]) rfl (show ck 4 2 = some 2 by decide) dX8_init_210 (fun H locs h hS => ?_)
  have h := h.to (fA_s (s := 2) rfl) (fP_s (s := 2) rfl)
  refine lv_iinc (v := 3) (lv' := [(1, .int 3), (0, .ref (a 8 0))]) hx hb dX8_init_211 hl (k := 0) rfl (by decide) (by decide) rfl (fun ls hl => ?_)
  refine lv_goto (tgt := 193) hx hb dX8_init_214 (by decide) ?_
  refine lv_iload_n hx hb dX8_init_193 rfl (lv_at hl 0 rfl) ?_
  refine lv_iconst (v := 4) hx hb dX8_init_194 (by decide) ?_
  refine lv_icmp_ge (tgt := 217) hx hb dX8_init_195 (by decide) (fun c9 => absurd c9 (show ¬ (4 : Int32) ≤ 3 by decide)) (fun _ => ?_)
  refine lv_aload_n hx hb dX8_init_198 rfl (lv_at hl 1 rfl) ?_
  refine w_get (v := .ref (a 52 0)) C h 8 0 5 (by simp [aP, cP, mP, cP2, cP7, fP]) (by decide) (by decide) rfl fl_X8_37 dX8_init_199 ?_
  refine lv_iload_n hx hb dX8_init_202 rfl (lv_at hl 0 rfl) ?_
  refine w_new (N := 7) C h hS 1 3 (by simp [aA, cA, mA, cA2, cA7, fA, hN]) (by decide) cl_X8_35 in_1 iz_1 rfl (Nat.le_of_ble_eq_true rfl) (Nat.le_of_ble_eq_true rfl) dX8_init_203 (fun a H hag h hS => ?_)
  have hAG := hAG.tr hag (fun r9 i9 z => by simp [aA, cA, mA, cA2, cA7, fA, z])
  have hl : lv_has ls 2 [(1, .int 3), (0, .ref (a 8 0))] := by rw [hag 8 0 (by simp [aA, cA, mA, cA2, cA7, fA, hA0, hA1])]; exact hl
  rw [← hag 52 0 (by simp [aA, cA, mA, cA2, cA7, fA, hA0, hA1])]
  refine lv_dup hx hb dX8_init_206 rfl ?_
  refine w_initN (host := RX8) (As := []) (rest := [.ref (a 1 3), .int 3, .ref (a 52 0)]) C (vX1_init (by simp [aA, cA, mA, cA2, cA7, fA, hA0, hA1]) (fun r9 q1 q2 z => by have z1 := hN r9 3 (by omega) (by omega) (by omega); simp only [aA, cA, mA, cA2, cA7, fA, z1, false_or] at z; omega)) h hS (by decide) mi_1 rfl ⟨(Nat.le_of_ble_eq_true rfl), (Nat.le_of_ble_eq_true rfl), (Nat.le_of_ble_eq_true rfl), (Nat.le_of_ble_eq_true rfl)⟩ hl.1 rfl (Nat.le_of_ble_eq_true rfl) dX8_init_207 (fun a H locs hag h hS => ?_)
  have hAG := hAG.tr hag (fun r9 i9 z => by simp [aA, cA, mA, cA2, cA7, fA, z])
  have hl : lv_has ls 2 [(1, .int 3), (0, .ref (a 8 0))] := by rw [hag 8 0 (by simp [aA, cA, mA, cA2, cA7, fA, hA0, hA1])]; exact hl
  rw [← hag 52 0 (by simp [aA, cA, mA, cA2, cA7, fA, hA0, hA1])]
  rw [← hag 1 3 (by simp [aA, cA, mA, cA2, cA7, fA, hA0, hA1])]
  refine w_aast (k := 3) (j := 3) C h hS 52 0 1 0 4 (by simp [aA, cA, mA, cA2, cA7, fA, hA0, hA1]) (by decide) rfl rfl rfl (by decide) rfl (by simp [aA, cA, mA, cA2, cA7, fA, hA0, hA1]) rfl (show ck 4 3 = some 3 by decide) dX8_init_210 (fun H locs h hS => ?_)
  have h := h.to (fA_s (s := 3) rfl) (fP_s (s := 3) rfl)
  refine lv_iinc (v := 4) (lv' := [(1, .int 4), (0, .ref (a 8 0))]) hx hb dX8_init_211 hl (k := 0) rfl (by decide) (by decide) rfl (fun ls hl => ?_)
  refine lv_goto (tgt := 193) hx hb dX8_init_214 (by decide) ?_
  refine lv_iload_n hx hb dX8_init_193 rfl (lv_at hl 0 rfl) ?_
  refine lv_iconst (v := 4) hx hb dX8_init_194 (by decide) ?_
  refine lv_icmp_ge (tgt := 217) hx hb dX8_init_195 (by decide) (fun _ => ?_) (fun c9 => absurd (show (4 : Int32) ≤ 4 by decide) c9)
  have h := h.to (fA_0 (c := 0) (lo := 20) (hi := 31) (o := 1)) (fP_0 (c := 0) (lo := 20) (hi := 31) (o := 1) (arr := 53))
  refine lv_iconst (v := 0) hx hb dX8_init_217 (by decide) ?_
  refine lv_istore_n (lv' := [(1, .int 0), (0, .ref (a 8 0))]) hx hb dX8_init_218 rfl hl (by decide) rfl (fun ls hl => ?_)
  refine lv_iload_n hx hb dX8_init_219 rfl (lv_at hl 0 rfl) ?_
  refine lv_iconst (v := 3) hx hb dX8_init_220 (by decide) ?_
  refine lv_icmp_ge (tgt := 243) hx hb dX8_init_221 (by decide) (fun c9 => absurd c9 (show ¬ (3 : Int32) ≤ 0 by decide)) (fun _ => ?_)
  refine lv_aload_n hx hb dX8_init_224 rfl (lv_at hl 1 rfl) ?_
  refine w_get (v := .ref (a 53 0)) C h 8 0 9 (by simp [aP, cP, mP, cP2, cP7, fP]) (by decide) (by decide) rfl fl_X8_60 dX8_init_225 ?_
  refine lv_iload_n hx hb dX8_init_228 rfl (lv_at hl 0 rfl) ?_
  refine w_new (N := 17) C h hS 0 1 (by simp [aA, cA, mA, cA2, cA7, fA, hN]) (by decide) cl_X8_53 in_0 iz_0 rfl (Nat.le_of_ble_eq_true rfl) (Nat.le_of_ble_eq_true rfl) dX8_init_229 (fun a H hag h hS => ?_)
  have hAG := hAG.tr hag (fun r9 i9 z => by simp [aA, cA, mA, cA2, cA7, fA, z])
  have hl : lv_has ls 2 [(1, .int 0), (0, .ref (a 8 0))] := by rw [hag 8 0 (by simp [aA, cA, mA, cA2, cA7, fA, hA0, hA1])]; exact hl
  rw [← hag 53 0 (by simp [aA, cA, mA, cA2, cA7, fA, hA0, hA1])]
  refine lv_dup hx hb dX8_init_232 rfl ?_
  refine w_init (As := []) (rest := [.ref (a 0 1), .int 0, .ref (a 53 0)]) C (vX0_init (by simp [aA, cA, mA, cA2, cA7, fA, hA0, hA1]) (fun r9 q1 q2 z => by have z1 := hN r9 1 (by omega) (by omega) (by omega); simp only [aA, cA, mA, cA2, cA7, fA, z1, false_or] at z; omega)) h hS ml_X8_55 mi_0 rfl ⟨(Nat.le_of_ble_eq_true rfl), (Nat.le_of_ble_eq_true rfl), (Nat.le_of_ble_eq_true rfl), (Nat.le_of_ble_eq_true rfl)⟩ hl.1 rfl (Nat.le_of_ble_eq_true rfl) dX8_init_233 (fun a H locs hag h hS => ?_)
  have hAG := hAG.tr hag (fun r9 i9 z => by simp [aA, cA, mA, cA2, cA7, fA, z])
  have hl : lv_has ls 2 [(1, .int 0), (0, .ref (a 8 0))] := by rw [hag 8 0 (by simp [aA, cA, mA, cA2, cA7, fA, hA0, hA1])]; exact hl
  rw [← hag 53 0 (by simp [aA, cA, mA, cA2, cA7, fA, hA0, hA1])]
  rw [← hag 0 1 (by simp [aA, cA, mA, cA2, cA7, fA, hA0, hA1])]
  refine w_aast (k := 0) (j := 0) C h hS 53 0 0 1 5 (by simp [aA, cA, mA, cA2, cA7, fA, hA0, hA1]) (by decide) rfl rfl rfl (by decide) rfl (by simp [aA, cA, mA, cA2, cA7, fA, hA0, hA1]) rfl (show ck 3 0 = some 0 by decide) dX8_init_236 (fun H locs h hS => ?_)
  have h := h.to (fA_s (s := 0) rfl) (fP_s (s := 0) rfl)
  refine lv_iinc (v := 1) (lv' := [(1, .int 1), (0, .ref (a 8 0))]) hx hb dX8_init_237 hl (k := 0) rfl (by decide) (by decide) rfl (fun ls hl => ?_)
  refine lv_goto (tgt := 219) hx hb dX8_init_240 (by decide) ?_
  refine lv_iload_n hx hb dX8_init_219 rfl (lv_at hl 0 rfl) ?_
  refine lv_iconst (v := 3) hx hb dX8_init_220 (by decide) ?_
  refine lv_icmp_ge (tgt := 243) hx hb dX8_init_221 (by decide) (fun c9 => absurd c9 (show ¬ (3 : Int32) ≤ 1 by decide)) (fun _ => ?_)
  refine lv_aload_n hx hb dX8_init_224 rfl (lv_at hl 1 rfl) ?_
  refine w_get (v := .ref (a 53 0)) C h 8 0 9 (by simp [aP, cP, mP, cP2, cP7, fP]) (by decide) (by decide) rfl fl_X8_60 dX8_init_225 ?_
  refine lv_iload_n hx hb dX8_init_228 rfl (lv_at hl 0 rfl) ?_
  refine w_new (N := 17) C h hS 0 2 (by simp [aA, cA, mA, cA2, cA7, fA, hN]) (by decide) cl_X8_53 in_0 iz_0 rfl (Nat.le_of_ble_eq_true rfl) (Nat.le_of_ble_eq_true rfl) dX8_init_229 (fun a H hag h hS => ?_)
  have hAG := hAG.tr hag (fun r9 i9 z => by simp [aA, cA, mA, cA2, cA7, fA, z])
  have hl : lv_has ls 2 [(1, .int 1), (0, .ref (a 8 0))] := by rw [hag 8 0 (by simp [aA, cA, mA, cA2, cA7, fA, hA0, hA1])]; exact hl
  rw [← hag 53 0 (by simp [aA, cA, mA, cA2, cA7, fA, hA0, hA1])]
  refine lv_dup hx hb dX8_init_232 rfl ?_
  refine w_init (As := []) (rest := [.ref (a 0 2), .int 1, .ref (a 53 0)]) C (vX0_init (by simp [aA, cA, mA, cA2, cA7, fA, hA0, hA1]) (fun r9 q1 q2 z => by have z1 := hN r9 2 (by omega) (by omega) (by omega); simp only [aA, cA, mA, cA2, cA7, fA, z1, false_or] at z; omega)) h hS ml_X8_55 mi_0 rfl ⟨(Nat.le_of_ble_eq_true rfl), (Nat.le_of_ble_eq_true rfl), (Nat.le_of_ble_eq_true rfl), (Nat.le_of_ble_eq_true rfl)⟩ hl.1 rfl (Nat.le_of_ble_eq_true rfl) dX8_init_233 (fun a H locs hag h hS => ?_)
  have hAG := hAG.tr hag (fun r9 i9 z => by simp [aA, cA, mA, cA2, cA7, fA, z])
  have hl : lv_has ls 2 [(1, .int 1), (0, .ref (a 8 0))] := by rw [hag 8 0 (by simp [aA, cA, mA, cA2, cA7, fA, hA0, hA1])]; exact hl
  rw [← hag 53 0 (by simp [aA, cA, mA, cA2, cA7, fA, hA0, hA1])]
  rw [← hag 0 2 (by simp [aA, cA, mA, cA2, cA7, fA, hA0, hA1])]
  refine w_aast (k := 1) (j := 1) C h hS 53 0 0 1 5 (by simp [aA, cA, mA, cA2, cA7, fA, hA0, hA1]) (by decide) rfl rfl rfl (by decide) rfl (by simp [aA, cA, mA, cA2, cA7, fA, hA0, hA1]) rfl (show ck 3 1 = some 1 by decide) dX8_init_236 (fun H locs h hS => ?_)
  have h := h.to (fA_s (s := 1) rfl) (fP_s (s := 1) rfl)
  refine lv_iinc (v := 2) (lv' := [(1, .int 2), (0, .ref (a 8 0))]) hx hb dX8_init_237 hl (k := 0) rfl (by decide) (by decide) rfl (fun ls hl => ?_)
  refine lv_goto (tgt := 219) hx hb dX8_init_240 (by decide) ?_
  refine lv_iload_n hx hb dX8_init_219 rfl (lv_at hl 0 rfl) ?_
  refine lv_iconst (v := 3) hx hb dX8_init_220 (by decide) ?_
  refine lv_icmp_ge (tgt := 243) hx hb dX8_init_221 (by decide) (fun c9 => absurd c9 (show ¬ (3 : Int32) ≤ 2 by decide)) (fun _ => ?_)
  refine lv_aload_n hx hb dX8_init_224 rfl (lv_at hl 1 rfl) ?_
  refine w_get (v := .ref (a 53 0)) C h 8 0 9 (by simp [aP, cP, mP, cP2, cP7, fP]) (by decide) (by decide) rfl fl_X8_60 dX8_init_225 ?_
  refine lv_iload_n hx hb dX8_init_228 rfl (lv_at hl 0 rfl) ?_
  refine w_new (N := 17) C h hS 0 3 (by simp [aA, cA, mA, cA2, cA7, fA, hN]) (by decide) cl_X8_53 in_0 iz_0 rfl (Nat.le_of_ble_eq_true rfl) (Nat.le_of_ble_eq_true rfl) dX8_init_229 (fun a H hag h hS => ?_)
  have hAG := hAG.tr hag (fun r9 i9 z => by simp [aA, cA, mA, cA2, cA7, fA, z])
  have hl : lv_has ls 2 [(1, .int 2), (0, .ref (a 8 0))] := by rw [hag 8 0 (by simp [aA, cA, mA, cA2, cA7, fA, hA0, hA1])]; exact hl
  rw [← hag 53 0 (by simp [aA, cA, mA, cA2, cA7, fA, hA0, hA1])]
  refine lv_dup hx hb dX8_init_232 rfl ?_
  refine w_init (As := []) (rest := [.ref (a 0 3), .int 2, .ref (a 53 0)]) C (vX0_init (by simp [aA, cA, mA, cA2, cA7, fA, hA0, hA1]) (fun r9 q1 q2 z => by have z1 := hN r9 3 (by omega) (by omega) (by omega); simp only [aA, cA, mA, cA2, cA7, fA, z1, false_or] at z; omega)) h hS ml_X8_55 mi_0 rfl ⟨(Nat.le_of_ble_eq_true rfl), (Nat.le_of_ble_eq_true rfl), (Nat.le_of_ble_eq_true rfl), (Nat.le_of_ble_eq_true rfl)⟩ hl.1 rfl (Nat.le_of_ble_eq_true rfl) dX8_init_233 (fun a H locs hag h hS => ?_)
  have hAG := hAG.tr hag (fun r9 i9 z => by simp [aA, cA, mA, cA2, cA7, fA, z])
  have hl : lv_has ls 2 [(1, .int 2), (0, .ref (a 8 0))] := by rw [hag 8 0 (by simp [aA, cA, mA, cA2, cA7, fA, hA0, hA1])]; exact hl
  rw [← hag 53 0 (by simp [aA, cA, mA, cA2, cA7, fA, hA0, hA1])]
  rw [← hag 0 3 (by simp [aA, cA, mA, cA2, cA7, fA, hA0, hA1])]
  refine w_aast (k := 2) (j := 2) C h hS 53 0 0 1 5 (by simp [aA, cA, mA, cA2, cA7, fA, hA0, hA1]) (by decide) rfl rfl rfl (by decide) rfl (by simp [aA, cA, mA, cA2, cA7, fA, hA0, hA1]) rfl (show ck 3 2 = some 2 by decide) dX8_init_236 (fun H locs h hS => ?_)
  have h := h.to (fA_s (s := 2) rfl) (fP_s (s := 2) rfl)
  refine lv_iinc (v := 3) (lv' := [(1, .int 3), (0, .ref (a 8 0))]) hx hb dX8_init_237 hl (k := 0) rfl (by decide) (by decide) rfl (fun ls hl => ?_)
  refine lv_goto (tgt := 219) hx hb dX8_init_240 (by decide) ?_
  refine lv_iload_n hx hb dX8_init_219 rfl (lv_at hl 0 rfl) ?_
  refine lv_iconst (v := 3) hx hb dX8_init_220 (by decide) ?_
  refine lv_icmp_ge (tgt := 243) hx hb dX8_init_221 (by decide) (fun _ => ?_) (fun c9 => absurd (show (3 : Int32) ≤ 3 by decide) c9)
  refine lv_iconst (v := 0) hx hb dX8_init_243 (by decide) ?_
  refine lv_istore_n (lv' := [(1, .int 0), (0, .ref (a 8 0))]) hx hb dX8_init_244 rfl hl (by decide) rfl (fun ls hl => ?_)
  obtain ⟨A8, eA8⟩ : ∃ z, z = (fA (fA (fA (fA (aA (aA (cA (aA (cA7 (aA (aA (cA (aA (cA2 (aA (aA (aA (aA (cA (aA A0 5 0) 45 45 0) 50 0) 51 0) 52 0) 2 0)) 0 0) 20 31 0) 53 0) 7 0)) 4 0) 44 44 0) 54 0) 55 0) 3 37 43 0 6) 6 1 0 0 6) 1 32 36 0 4) 0 20 31 1 3) := ⟨_, rfl⟩
  obtain ⟨P8, eP8⟩ : ∃ z, z = (fP (fP (fP (fP (aP (aP (aP (aP (aP (cP (aP (aP (cP7 (aP (aP (aP (aP (aP (cP (aP (aP (cP2 (aP (aP (aP (aP (aP (aP (aP (aP (aP (aP (aP (cP (aP P0 5 0 (fun k9 => k9 < nfS 5 ∧ fcode 5 k9 = 0 ∧ iniV 5 k9 = 0)) 5 45 45 0) 8 0 (fun k9 => k9 = 0)) 50 0 (fun _ => False)) 8 0 (fun k9 => k9 = 1)) 8 0 (fun k9 => k9 = 2)) 51 0 (fun _ => False)) 8 0 (fun k9 => k9 = 3)) 8 0 (fun k9 => k9 = 4)) 52 0 (fun _ => False)) 8 0 (fun k9 => k9 = 5)) 8 0 (fun k9 => k9 = 6)) 2 0 (fun k9 => k9 < nfS 2 ∧ fcode 2 k9 = 0 ∧ iniV 2 k9 = 0))) 8 0 (fun k9 => k9 = 7)) 0 0 (fun k9 => k9 < nfS 0 ∧ fcode 0 k9 = 0 ∧ iniV 0 k9 = 0)) 0 20 31 0) 8 0 (fun k9 => k9 = 8)) 53 0 (fun _ => False)) 8 0 (fun k9 => k9 = 9)) 8 0 (fun k9 => k9 = 10)) 7 0 (fun k9 => k9 < nfS 7 ∧ fcode 7 k9 = 0 ∧ iniV 7 k9 = 0))) 8 0 (fun k9 => k9 = 11)) 4 0 (fun k9 => k9 < nfS 4 ∧ fcode 4 k9 = 0 ∧ iniV 4 k9 = 0)) 4 44 44 0) 8 0 (fun k9 => k9 = 12)) 54 0 (fun k9 => gI σ0 54 0 k9 = 0)) 8 0 (fun k9 => k9 = 13)) 55 0 (fun _ => True)) 8 0 (fun k9 => k9 = 14)) 3 37 43 0 50 6) 6 1 0 0 51 6) 1 32 36 0 52 4) 0 20 31 1 53 3) := ⟨_, rfl⟩
  have hP13 : P8 8 0 13 := by rw [eP8]; simp [aP, cP, mP, cP2, cP7, fP]
  have hA54 : A8 54 0 := by rw [eA8]; simp [aA, cA, mA, cA2, cA7, fA]
  have hA80 : True := trivial
  show W p l e { frames := 3, cells := 160, slots := 7783, locals := 61 } s m args below meth c H locs 160 7783 (MQ below (QIn E A0 a0 (aA8 A0) (aP8 P0)) args s 160 7783 (AE E)) (F0 m 245 ls [])
  have hfin : QIn E A0 a0 (aA8 A0) (aP8 P0) = QIn E A0 a0 A8 (lP P8 200) := by rw [eA8, eP8]; rfl
  rw [hfin]
  rw [← eA8, ← eP8] at h
  clear hfin
  have LP : ∀ (d k : Nat) (H : Heap) (locs : List Loc) (ls : Array Slot), k + d = 200 → RWm E A8 (lP P8 k) a H → va_S (AE E) s.heap H locs → lv_has ls 2 [(0, .ref (a 8 0)), (1, .int (nI k))] → W p l e { frames := 3, cells := 160, slots := 7783, locals := 61 } s m args below meth c H locs 160 7783 (MQ below (QIn E A0 a0 A8 (lP P8 200)) args s 160 7783 (AE E)) (F0 m 245 ls []) := by
    intro d
    induction d with
    | zero =>
      intro k H locs ls hk h hS hl
      obtain rfl : k = 200 := by omega
      refine lv_iload_n hx hb dX8_init_245 rfl (lv_at hl 1 rfl) ?_
      refine lv_aload_n hx hb dX8_init_246 rfl (lv_at hl 0 rfl) ?_
      refine w_get (v := .ref (a 54 0)) C h 8 0 13 (Or.inl hP13) (by decide) (by decide) rfl fl_X8_83 dX8_init_247 ?_
      refine w_alen (n := 200) C h 54 0 0 hA54 (by decide) rfl rfl rfl dX8_init_250 ?_
      refine lv_icmp_ge (tgt := 267) hx hb dX8_init_251 (by decide) (fun _ => ?_) (fun c9 => absurd (show (Nat.toInt32 200) ≤ nI 200 by decide) c9)
      exact e_vretI hAG C hr h hS (Nat.le_of_ble_eq_true rfl) (Nat.le_of_ble_eq_true rfl) dX8_init_267
    | succ d ih =>
      intro k H locs ls hk h hS hl
      refine lv_iload_n hx hb dX8_init_245 rfl (lv_at hl 1 rfl) ?_
      refine lv_aload_n hx hb dX8_init_246 rfl (lv_at hl 0 rfl) ?_
      refine w_get (v := .ref (a 54 0)) C h 8 0 13 (Or.inl hP13) (by decide) (by decide) rfl fl_X8_83 dX8_init_247 ?_
      refine w_alen (n := 200) C h 54 0 0 hA54 (by decide) rfl rfl rfl dX8_init_250 ?_
      refine lv_icmp_ge (tgt := 267) hx hb dX8_init_251 (by decide) (fun c9 => absurd c9 (show ¬ nI 200 ≤ nI k by rw [nI_leI (by decide) (by omega)]; omega)) (fun _ => ?_)
      refine lv_aload_n hx hb dX8_init_254 rfl (lv_at hl 0 rfl) ?_
      refine w_get (v := .ref (a 54 0)) C h 8 0 13 (Or.inl hP13) (by decide) (by decide) rfl fl_X8_83 dX8_init_255 ?_
      refine lv_iload_n hx hb dX8_init_258 rfl (lv_at hl 1 rfl) ?_
      refine lv_iconst (v := -1) hx hb dX8_init_259 (by decide) ?_
      refine w_ast (k := k) (j := nI k) (x := -1) C h hS 54 0 hA54 (by decide) rfl rfl rfl (ckN (show k < 200 by omega) (by decide)) dX8_init_260 (fun H locs h hS => ?_)
      refine lv_iinc (v := nI (k + 1)) (lv' := [(1, .int (nI (k + 1))), (0, .ref (a 8 0))]) hx hb dX8_init_261 hl (k := 1) rfl (nI_1 k) (by decide) rfl (fun ls hl => ?_)
      refine lv_goto (tgt := 245) hx hb dX8_init_264 (by decide) ?_
      refine ih (k + 1) _ _ _ (by omega) (h.to (fun _ _ => Iff.rfl) (fun r j q z => ?_)) hS (lv_sub hl [1, 0] rfl)
      rcases z with z | ⟨z1, z2, z3⟩
      · exact Or.inl (Or.inl z)
      · by_cases e9 : q = k
        · exact Or.inr ⟨z1, z2, e9⟩
        · exact Or.inl (Or.inr ⟨z1, z2, by omega⟩)
  exact LP 200 0 H locs ls rfl (h.to (fun _ _ => Iff.rfl) (fun r j q z => z.elim id (fun z => by omega))) hS (lv_sub hl [1, 0] rfl)
