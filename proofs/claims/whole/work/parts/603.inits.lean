/-! ===== constructors ===== -/
theorem mo_X0 : Cond.methodLink RX0 3 Lib.objectInit ∈ GW := gw_t 129 (by decide +kernel) (by decide +kernel)
theorem mo_X1 : Cond.methodLink RX1 3 Lib.objectInit ∈ GW := gw_t 82 (by decide +kernel) (by decide +kernel)
theorem fl_X1_19 : Cond.fieldLink RX1 19 (TTf 1 2).1 (TTf 1 2).2.1 (TTf 1 2).2.2.1 ∈ GW := gw_t 87 (by decide +kernel) (by decide +kernel)
theorem fl_X1_22 : Cond.fieldLink RX1 22 (TTf 1 3).1 (TTf 1 3).2.1 (TTf 1 3).2.2.1 ∈ GW := gw_t 90 (by decide +kernel) (by decide +kernel)
theorem fl_X1_25 : Cond.fieldLink RX1 25 (TTf 1 4).1 (TTf 1 4).2.1 (TTf 1 4).2.2.1 ∈ GW := gw_t 93 (by decide +kernel) (by decide +kernel)
theorem fl_X1_28 : Cond.fieldLink RX1 28 (TTf 1 5).1 (TTf 1 5).2.1 (TTf 1 5).2.2.1 ∈ GW := gw_t 96 (by decide +kernel) (by decide +kernel)
theorem fl_X1_31 : Cond.fieldLink RX1 31 (TTf 1 6).1 (TTf 1 6).2.1 (TTf 1 6).2.2.1 ∈ GW := gw_t 99 (by decide +kernel) (by decide +kernel)
theorem mo_X3 : Cond.methodLink RX3 3 Lib.objectInit ∈ GW := gw_t 212 (by decide +kernel) (by decide +kernel)
theorem mo_X5 : Cond.methodLink RX5 3 Lib.objectInit ∈ GW := gw_t 36 (by decide +kernel) (by decide +kernel)
theorem mo_X6 : Cond.methodLink RX6 3 Lib.objectInit ∈ GW := gw_t 275 (by decide +kernel) (by decide +kernel)
theorem mo_X4 : Cond.methodLink RX4 3 Lib.objectInit ∈ GW := gw_t 343 (by decide +kernel) (by decide +kernel)
theorem mo_X2 : Cond.methodLink RX2 3 Lib.objectInit ∈ GW := gw_t 76 (by decide +kernel) (by decide +kernel)
theorem cl_X2_9 : Cond.classLink RX2 9 (RRf 1) ∈ GW := gw_t 77 (by decide +kernel) (by decide +kernel)
theorem in_1 : Cond.instantiable (RRf 1) (nfS 1) ∈ GW := gw_t 78 (by decide +kernel) (by decide +kernel)
theorem iz_1 : Cond.initialized (RRf 1) ∈ GW := gw_t 4 (by decide +kernel) (by decide +kernel)
theorem mi_1 : MIm yX1_init cX1_init 1 0 := ⟨⟨by decide +kernel, by decide +kernel, by decide +kernel⟩, rfl, gw_t 80 (by decide +kernel) (by decide +kernel), gw_t 4 (by decide +kernel) (by decide +kernel), gw_t 81 (by decide +kernel) (by decide +kernel)⟩
theorem mo_X7 : Cond.methodLink RX7 3 Lib.objectInit ∈ GW := gw_t 206 (by decide +kernel) (by decide +kernel)
theorem cl_X7_9 : Cond.classLink RX7 9 (RRf 3) ∈ GW := gw_t 207 (by decide +kernel) (by decide +kernel)
theorem in_3 : Cond.instantiable (RRf 3) (nfS 3) ∈ GW := gw_t 208 (by decide +kernel) (by decide +kernel)
theorem iz_3 : Cond.initialized (RRf 3) ∈ GW := gw_t 7 (by decide +kernel) (by decide +kernel)
theorem mi_3 : MIm yX3_init cX3_init 1 0 := ⟨⟨by decide +kernel, by decide +kernel, by decide +kernel⟩, rfl, gw_t 210 (by decide +kernel) (by decide +kernel), gw_t 7 (by decide +kernel) (by decide +kernel), gw_t 211 (by decide +kernel) (by decide +kernel)⟩
theorem cl_X7_18 : Cond.classLink RX7 18 (RRf 6) ∈ GW := gw_t 270 (by decide +kernel) (by decide +kernel)
theorem in_6 : Cond.instantiable (RRf 6) (nfS 6) ∈ GW := gw_t 271 (by decide +kernel) (by decide +kernel)
theorem iz_6 : Cond.initialized (RRf 6) ∈ GW := gw_t 8 (by decide +kernel) (by decide +kernel)
theorem mi_6 : MIm yX6_init cX6_init 1 0 := ⟨⟨by decide +kernel, by decide +kernel, by decide +kernel⟩, rfl, gw_t 273 (by decide +kernel) (by decide +kernel), gw_t 8 (by decide +kernel) (by decide +kernel), gw_t 274 (by decide +kernel) (by decide +kernel)⟩
theorem mo_X9 : Cond.methodLink RX9 1 Lib.objectInit ∈ GW := gw_t 1334 (by decide +kernel) (by decide +kernel)
theorem cl_X9_20 : Cond.classLink RX9 20 "[[I" ∈ GW := gw_t 1335 (by decide +kernel) (by decide +kernel)
theorem mo_X8 : Cond.methodLink RX8 1 Lib.objectInit ∈ GW := gw_t 28 (by decide +kernel) (by decide +kernel)
theorem cl_X8_7 : Cond.classLink RX8 7 (RRf 5) ∈ GW := gw_t 31 (by decide +kernel) (by decide +kernel)
theorem in_5 : Cond.instantiable (RRf 5) (nfS 5) ∈ GW := gw_t 32 (by decide +kernel) (by decide +kernel)
theorem iz_5 : Cond.initialized (RRf 5) ∈ GW := gw_t 2 (by decide +kernel) (by decide +kernel)
theorem mi_5 : MIm yX5_init cX5_init 1 0 := ⟨⟨by decide +kernel, by decide +kernel, by decide +kernel⟩, rfl, gw_t 34 (by decide +kernel) (by decide +kernel), gw_t 2 (by decide +kernel) (by decide +kernel), gw_t 35 (by decide +kernel) (by decide +kernel)⟩
theorem cl_X8_16 : Cond.classLink RX8 16 RX3 ∈ GW := gw_t 65 (by decide +kernel) (by decide +kernel)
theorem cl_X8_26 : Cond.classLink RX8 26 RX6 ∈ GW := gw_t 67 (by decide +kernel) (by decide +kernel)
theorem cl_X8_35 : Cond.classLink RX8 35 RX1 ∈ GW := gw_t 69 (by decide +kernel) (by decide +kernel)
theorem cl_X8_44 : Cond.classLink RX8 44 (RRf 2) ∈ GW := gw_t 71 (by decide +kernel) (by decide +kernel)
theorem in_2 : Cond.instantiable (RRf 2) (nfS 2) ∈ GW := gw_t 72 (by decide +kernel) (by decide +kernel)
theorem iz_2 : Cond.initialized (RRf 2) ∈ GW := gw_t 3 (by decide +kernel) (by decide +kernel)
theorem ml_X8_46 : Cond.methodLink RX8 46 yX2_init ∈ GW := gw_t 73 (by decide +kernel) (by decide +kernel)
theorem mi_2 : MIm yX2_init cX2_init 2 1 := ⟨⟨by decide +kernel, by decide +kernel, by decide +kernel⟩, rfl, gw_t 74 (by decide +kernel) (by decide +kernel), gw_t 3 (by decide +kernel) (by decide +kernel), gw_t 75 (by decide +kernel) (by decide +kernel)⟩
theorem cl_X8_53 : Cond.classLink RX8 53 (RRf 0) ∈ GW := gw_t 124 (by decide +kernel) (by decide +kernel)
theorem in_0 : Cond.instantiable (RRf 0) (nfS 0) ∈ GW := gw_t 125 (by decide +kernel) (by decide +kernel)
theorem iz_0 : Cond.initialized (RRf 0) ∈ GW := gw_t 5 (by decide +kernel) (by decide +kernel)
theorem ml_X8_55 : Cond.methodLink RX8 55 yX0_init ∈ GW := gw_t 126 (by decide +kernel) (by decide +kernel)
theorem mi_0 : MIm yX0_init cX0_init 2 0 := ⟨⟨by decide +kernel, by decide +kernel, by decide +kernel⟩, rfl, gw_t 127 (by decide +kernel) (by decide +kernel), gw_t 5 (by decide +kernel) (by decide +kernel), gw_t 128 (by decide +kernel) (by decide +kernel)⟩
theorem cl_X8_67 : Cond.classLink RX8 67 (RRf 7) ∈ GW := gw_t 201 (by decide +kernel) (by decide +kernel)
theorem in_7 : Cond.instantiable (RRf 7) (nfS 7) ∈ GW := gw_t 202 (by decide +kernel) (by decide +kernel)
theorem iz_7 : Cond.initialized (RRf 7) ∈ GW := gw_t 6 (by decide +kernel) (by decide +kernel)
theorem mi_7 : MIm yX7_init cX7_init 1 0 := ⟨⟨by decide +kernel, by decide +kernel, by decide +kernel⟩, rfl, gw_t 204 (by decide +kernel) (by decide +kernel), gw_t 6 (by decide +kernel) (by decide +kernel), gw_t 205 (by decide +kernel) (by decide +kernel)⟩
theorem cl_X8_74 : Cond.classLink RX8 74 (RRf 4) ∈ GW := gw_t 338 (by decide +kernel) (by decide +kernel)
theorem in_4 : Cond.instantiable (RRf 4) (nfS 4) ∈ GW := gw_t 339 (by decide +kernel) (by decide +kernel)
theorem iz_4 : Cond.initialized (RRf 4) ∈ GW := gw_t 9 (by decide +kernel) (by decide +kernel)
theorem ml_X8_76 : Cond.methodLink RX8 76 yX4_init ∈ GW := gw_t 340 (by decide +kernel) (by decide +kernel)
theorem mi_4 : MIm yX4_init cX4_init 2 1 := ⟨⟨by decide +kernel, by decide +kernel, by decide +kernel⟩, rfl, gw_t 341 (by decide +kernel) (by decide +kernel), gw_t 9 (by decide +kernel) (by decide +kernel), gw_t 342 (by decide +kernel) (by decide +kernel)⟩
def cA (A : Nat → Nat → Prop) (lo hi i : Nat) : Nat → Nat → Prop := fun r j => A r j ∨ (lo ≤ r ∧ r ≤ hi ∧ j = i)
def cP (P : Nat → Nat → Nat → Prop) (c lo hi i : Nat) : Nat → Nat → Nat → Prop := fun r j k => P r j k ∨ ((r = c ∨ (lo ≤ r ∧ r ≤ hi)) ∧ j = i ∧ k < szS r j)
def fA (A : Nat → Nat → Prop) (c lo hi o s : Nat) : Nat → Nat → Prop := fun r j => A r j ∨ (o ≤ j ∧ j < o + s ∧ (r = c ∨ (lo ≤ r ∧ r ≤ hi)))
def fP (P : Nat → Nat → Nat → Prop) (c lo hi o arr s : Nat) : Nat → Nat → Nat → Prop := fun r j k => P r j k ∨ (o ≤ j ∧ j < o + s ∧ (r = c ∨ (lo ≤ r ∧ r ≤ hi)) ∧ k < szS r j) ∨ (r = arr ∧ j = 0 ∧ k < s)
theorem fA_0 {A : Nat → Nat → Prop} {c lo hi o : Nat} : ∀ r j, fA A c lo hi o 0 r j ↔ A r j := fun r j => ⟨fun z => z.elim id (fun z => by omega), Or.inl⟩
theorem fP_0 {P : Nat → Nat → Nat → Prop} {c lo hi o arr : Nat} : ∀ r j k, fP P c lo hi o arr 0 r j k → P r j k := fun r j k z => by
  rcases z with z | z | z
  · exact z
  · omega
  · omega
theorem fA_s {A : Nat → Nat → Prop} {c lo hi o s i : Nat} (hi' : i = o + s) : ∀ r j, fA A c lo hi o (s + 1) r j ↔ cA (aA (fA A c lo hi o s) c i) lo hi i r j := by
  intro r j
  subst hi'
  by_cases z : A r j
  · simp [fA, cA, aA, z]
  · simp only [fA, cA, aA, z, false_or]; omega
theorem fP_s {P : Nat → Nat → Nat → Prop} {c lo hi o arr s i : Nat} {N : Nat → Prop} (hi' : i = o + s) : ∀ r j k, fP P c lo hi o arr (s + 1) r j k → aP (cP (aP (fP P c lo hi o arr s) c i N) c lo hi i) arr 0 (fun k9 => k9 = s) r j k := by
  intro r j k z
  subst hi'
  rcases z with z | ⟨z1, z2, z3, z4⟩ | ⟨z1, z2, z3⟩
  · exact Or.inl (Or.inl (Or.inl (Or.inl z)))
  · by_cases e : j = o + s
    · exact Or.inl (Or.inr ⟨z3, e, z4⟩)
    · exact Or.inl (Or.inl (Or.inl (Or.inr (Or.inl ⟨z1, by omega, z3, z4⟩))))
  · by_cases e : k = s
    · exact Or.inr ⟨z1, z2, e⟩
    · exact Or.inl (Or.inl (Or.inl (Or.inr (Or.inr ⟨z1, z2, by omega⟩))))
def lP (P : Nat → Nat → Nat → Prop) (s : Nat) : Nat → Nat → Nat → Prop := fun r j k => P r j k ∨ (r = 54 ∧ j = 0 ∧ k < s)
def cA2 (A : Nat → Nat → Prop) : Nat → Nat → Prop := fun r j => A r j ∨ (j = 4 ∧ (r = 1 ∨ (32 ≤ r ∧ r ≤ 36)))
def cP2 (P : Nat → Nat → Nat → Prop) : Nat → Nat → Nat → Prop := fun r j k => P r j k ∨ (((j = 4 ∧ (r = 1 ∨ (32 ≤ r ∧ r ≤ 36))) ∨ (j = 0 ∧ r = 2)) ∧ k < szS r j)
def cA7 (A : Nat → Nat → Prop) : Nat → Nat → Prop := fun r j => A r j ∨ (j = 6 ∧ (r = 3 ∨ r = 6 ∨ (37 ≤ r ∧ r ≤ 43))) ∨ (j = 0 ∧ 46 ≤ r ∧ r ≤ 48)
def cP7 (P : Nat → Nat → Nat → Prop) : Nat → Nat → Nat → Prop := fun r j k => P r j k ∨ (((j = 6 ∧ (r = 3 ∨ r = 6 ∨ (37 ≤ r ∧ r ≤ 43))) ∨ (j = 0 ∧ (r = 7 ∨ (46 ≤ r ∧ r ≤ 48)))) ∧ k < szS r j)
def cA9 (A : Nat → Nat → Prop) : Nat → Nat → Prop := fun r j => A r j ∨ (60 ≤ r ∧ r ≤ 87 ∧ j < cntS r)
def cP9 (P : Nat → Nat → Nat → Prop) : Nat → Nat → Nat → Prop := fun r j k => P r j k ∨ (((r = 9 ∧ j = 0) ∨ (60 ≤ r ∧ r ≤ 87 ∧ j < cntS r)) ∧ k < szS r j)
theorem len42 (i : Nat) : lenS σ0 42 i = 0 := by
  show (if 3 + i = 0 then 4 else if 3 + i = 1 then 6 else if 3 + i = 2 then 6 else 0) = 0
  rw [if_neg (by omega), if_neg (by omega), if_neg (by omega)]
theorem len43 (i : Nat) : lenS σ0 43 i = 0 := by
  show (if 10 + i = 0 then 4 else if 10 + i = 1 then 6 else if 10 + i = 2 then 6 else 0) = 0
  rw [if_neg (by omega), if_neg (by omega), if_neg (by omega)]
set_option maxHeartbeats 4000000 in
set_option maxRecDepth 100000 in
theorem vX0_init {l : Launch} {E : EV} {A0 : Nat → Nat → Prop} {P0 : Nat → Nat → Nat → Prop} {a0 : Nat → Nat → Nat} {i : Nat} (hA0 : A0 0 i) (hN : ∀ r, 20 ≤ r → r ≤ 31 → ¬ A0 r i) : CtI l E yX0_init cX0_init 2 1 20 12 402 A0 P0 a0 [.ref (a0 0 i)] (cA A0 20 31 i) (cP P0 0 20 31 i) := by
  refine CtI.start (by decide) (Nat.le_of_ble_eq_true rfl) rfl ?_
  have hA1 : True := trivial
  intro p e s m args below meth c ls C hin hr h hS hl
  have C : CI E p s m args meth c cX0_init 2 RX0 := C
  obtain ⟨a, hAG, h, hl⟩ : ∃ a : Nat → Nat → Nat, AGP A0 a0 a ∧ RWm E A0 P0 a s.heap ∧ lv_has ls 2 [(0, .ref (a 0 i))] := ⟨a0, AGP.rf, h, hl⟩
  have hx := C.1.1
  have hb := C.1.2.1
  refine lv_aload_n hx hb dX0_init_0 rfl (lv_at hl 0 rfl) ?_
  refine w_obji C mo_X0 hl.1 (Nat.le_of_ble_eq_true rfl) (Nat.le_of_ble_eq_true rfl) dX0_init_1 ?_
  refine lv_aload_n hx hb dX0_init_4 rfl (lv_at hl 0 rfl) ?_
  refine lv_iconst (v := 0) hx hb dX0_init_5 (by decide) ?_
  refine w_put (v := .int 0) (ty := tyf 0 0) C hin h hS 0 i 0 (by simp [aA, cA, mA, cA2, cA7, fA, hA0, hA1]) (by decide) (by decide) rfl (fun t9 j9 q9 => by cases (show (none : Option (Nat × Nat)) = some (t9, j9) from q9)) fl_X0_9 rfl (ty_all 0 (by decide) 0 (by decide)) rfl rfl dX0_init_6 (fun H locs h hS => ?_)
  refine lv_aload_n hx hb dX0_init_9 rfl (lv_at hl 0 rfl) ?_
  refine lv_bipush (v := 14) hx hb dX0_init_10 (by decide) ?_
  refine w_newI (N := 14) C h hS 20 i (by simp [aA, cA, mA, cA2, cA7, fA, hN]) (by decide) rfl rfl (by decide) rfl (by decide) (by decide) (Nat.le_of_ble_eq_true rfl) (Nat.le_of_ble_eq_true rfl) dX0_init_12 (fun a H hag h hS => ?_)
  have hAG := hAG.tr hag (fun r9 i9 z => by simp [aA, cA, mA, cA2, cA7, fA, z])
  have hl : lv_has ls 2 [(0, .ref (a 0 i))] := by rw [hag 0 i (by simp [aA, cA, mA, cA2, cA7, fA, hA0, hA1])]; exact hl
  rw [← hag 0 i (by simp [aA, cA, mA, cA2, cA7, fA, hA0, hA1])]
  refine w_put (v := .ref (a 20 i)) (ty := tyf 0 1) C hin h hS 0 i 1 (by simp [aA, cA, mA, cA2, cA7, fA, hA0, hA1]) (by decide) (by decide) rfl (fun t9 j9 q9 => by cases (show some (20, i) = some (t9, j9) from q9); simp [aA, cA, mA, cA2, cA7, fA, hA0, hA1]) fl_X0_15 rfl (ty_all 0 (by decide) 1 (by decide)) rfl rfl dX0_init_14 (fun H locs h hS => ?_)
  refine lv_aload_n hx hb dX0_init_17 rfl (lv_at hl 0 rfl) ?_
  refine lv_bipush (v := 14) hx hb dX0_init_18 (by decide) ?_
  refine w_newI (N := 14) C h hS 21 i (by simp [aA, cA, mA, cA2, cA7, fA, hN]) (by decide) rfl rfl (by decide) rfl (by decide) (by decide) (Nat.le_of_ble_eq_true rfl) (Nat.le_of_ble_eq_true rfl) dX0_init_20 (fun a H hag h hS => ?_)
  have hAG := hAG.tr hag (fun r9 i9 z => by simp [aA, cA, mA, cA2, cA7, fA, z])
  have hl : lv_has ls 2 [(0, .ref (a 0 i))] := by rw [hag 0 i (by simp [aA, cA, mA, cA2, cA7, fA, hA0, hA1])]; exact hl
  rw [← hag 0 i (by simp [aA, cA, mA, cA2, cA7, fA, hA0, hA1])]
  refine w_put (v := .ref (a 21 i)) (ty := tyf 0 2) C hin h hS 0 i 2 (by simp [aA, cA, mA, cA2, cA7, fA, hA0, hA1]) (by decide) (by decide) rfl (fun t9 j9 q9 => by cases (show some (21, i) = some (t9, j9) from q9); simp [aA, cA, mA, cA2, cA7, fA, hA0, hA1]) fl_X0_19 rfl (ty_all 0 (by decide) 2 (by decide)) rfl rfl dX0_init_22 (fun H locs h hS => ?_)
  refine lv_aload_n hx hb dX0_init_25 rfl (lv_at hl 0 rfl) ?_
  refine lv_iconst (v := 0) hx hb dX0_init_26 (by decide) ?_
  refine w_put (v := .int 0) (ty := tyf 0 3) C hin h hS 0 i 3 (by simp [aA, cA, mA, cA2, cA7, fA, hA0, hA1]) (by decide) (by decide) rfl (fun t9 j9 q9 => by cases (show (none : Option (Nat × Nat)) = some (t9, j9) from q9)) fl_X0_22 rfl (ty_all 0 (by decide) 3 (by decide)) rfl rfl dX0_init_27 (fun H locs h hS => ?_)
  refine lv_aload_n hx hb dX0_init_30 rfl (lv_at hl 0 rfl) ?_
  refine lv_bipush (v := 42) hx hb dX0_init_31 (by decide) ?_
  refine w_newI (N := 42) C h hS 22 i (by simp [aA, cA, mA, cA2, cA7, fA, hN]) (by decide) rfl rfl (by decide) rfl (by decide) (by decide) (Nat.le_of_ble_eq_true rfl) (Nat.le_of_ble_eq_true rfl) dX0_init_33 (fun a H hag h hS => ?_)
  have hAG := hAG.tr hag (fun r9 i9 z => by simp [aA, cA, mA, cA2, cA7, fA, z])
  have hl : lv_has ls 2 [(0, .ref (a 0 i))] := by rw [hag 0 i (by simp [aA, cA, mA, cA2, cA7, fA, hA0, hA1])]; exact hl
  rw [← hag 0 i (by simp [aA, cA, mA, cA2, cA7, fA, hA0, hA1])]
  refine w_put (v := .ref (a 22 i)) (ty := tyf 0 4) C hin h hS 0 i 4 (by simp [aA, cA, mA, cA2, cA7, fA, hA0, hA1]) (by decide) (by decide) rfl (fun t9 j9 q9 => by cases (show some (22, i) = some (t9, j9) from q9); simp [aA, cA, mA, cA2, cA7, fA, hA0, hA1]) fl_X0_25 rfl (ty_all 0 (by decide) 4 (by decide)) rfl rfl dX0_init_35 (fun H locs h hS => ?_)
  refine lv_aload_n hx hb dX0_init_38 rfl (lv_at hl 0 rfl) ?_
  refine lv_bipush (v := 14) hx hb dX0_init_39 (by decide) ?_
  refine w_newI (N := 14) C h hS 23 i (by simp [aA, cA, mA, cA2, cA7, fA, hN]) (by decide) rfl rfl (by decide) rfl (by decide) (by decide) (Nat.le_of_ble_eq_true rfl) (Nat.le_of_ble_eq_true rfl) dX0_init_41 (fun a H hag h hS => ?_)
  have hAG := hAG.tr hag (fun r9 i9 z => by simp [aA, cA, mA, cA2, cA7, fA, z])
  have hl : lv_has ls 2 [(0, .ref (a 0 i))] := by rw [hag 0 i (by simp [aA, cA, mA, cA2, cA7, fA, hA0, hA1])]; exact hl
  rw [← hag 0 i (by simp [aA, cA, mA, cA2, cA7, fA, hA0, hA1])]
  refine w_put (v := .ref (a 23 i)) (ty := tyf 0 5) C hin h hS 0 i 5 (by simp [aA, cA, mA, cA2, cA7, fA, hA0, hA1]) (by decide) (by decide) rfl (fun t9 j9 q9 => by cases (show some (23, i) = some (t9, j9) from q9); simp [aA, cA, mA, cA2, cA7, fA, hA0, hA1]) fl_X0_28 rfl (ty_all 0 (by decide) 5 (by decide)) rfl rfl dX0_init_43 (fun H locs h hS => ?_)
  refine lv_aload_n hx hb dX0_init_46 rfl (lv_at hl 0 rfl) ?_
  refine lv_bipush (v := 14) hx hb dX0_init_47 (by decide) ?_
  refine w_newI (N := 14) C h hS 24 i (by simp [aA, cA, mA, cA2, cA7, fA, hN]) (by decide) rfl rfl (by decide) rfl (by decide) (by decide) (Nat.le_of_ble_eq_true rfl) (Nat.le_of_ble_eq_true rfl) dX0_init_49 (fun a H hag h hS => ?_)
  have hAG := hAG.tr hag (fun r9 i9 z => by simp [aA, cA, mA, cA2, cA7, fA, z])
  have hl : lv_has ls 2 [(0, .ref (a 0 i))] := by rw [hag 0 i (by simp [aA, cA, mA, cA2, cA7, fA, hA0, hA1])]; exact hl
  rw [← hag 0 i (by simp [aA, cA, mA, cA2, cA7, fA, hA0, hA1])]
  refine w_put (v := .ref (a 24 i)) (ty := tyf 0 6) C hin h hS 0 i 6 (by simp [aA, cA, mA, cA2, cA7, fA, hA0, hA1]) (by decide) (by decide) rfl (fun t9 j9 q9 => by cases (show some (24, i) = some (t9, j9) from q9); simp [aA, cA, mA, cA2, cA7, fA, hA0, hA1]) fl_X0_31 rfl (ty_all 0 (by decide) 6 (by decide)) rfl rfl dX0_init_51 (fun H locs h hS => ?_)
  refine lv_aload_n hx hb dX0_init_54 rfl (lv_at hl 0 rfl) ?_
  refine lv_iconst (v := 0) hx hb dX0_init_55 (by decide) ?_
  refine w_put (v := .int 0) (ty := tyf 0 7) C hin h hS 0 i 7 (by simp [aA, cA, mA, cA2, cA7, fA, hA0, hA1]) (by decide) (by decide) rfl (fun t9 j9 q9 => by cases (show (none : Option (Nat × Nat)) = some (t9, j9) from q9)) fl_X0_34 rfl (ty_all 0 (by decide) 7 (by decide)) rfl rfl dX0_init_56 (fun H locs h hS => ?_)
  refine lv_aload_n hx hb dX0_init_59 rfl (lv_at hl 0 rfl) ?_
  refine lv_bipush (v := 60) hx hb dX0_init_60 (by decide) ?_
  refine w_newI (N := 60) C h hS 25 i (by simp [aA, cA, mA, cA2, cA7, fA, hN]) (by decide) rfl rfl (by decide) rfl (by decide) (by decide) (Nat.le_of_ble_eq_true rfl) (Nat.le_of_ble_eq_true rfl) dX0_init_62 (fun a H hag h hS => ?_)
  have hAG := hAG.tr hag (fun r9 i9 z => by simp [aA, cA, mA, cA2, cA7, fA, z])
  have hl : lv_has ls 2 [(0, .ref (a 0 i))] := by rw [hag 0 i (by simp [aA, cA, mA, cA2, cA7, fA, hA0, hA1])]; exact hl
  rw [← hag 0 i (by simp [aA, cA, mA, cA2, cA7, fA, hA0, hA1])]
  refine w_put (v := .ref (a 25 i)) (ty := tyf 0 8) C hin h hS 0 i 8 (by simp [aA, cA, mA, cA2, cA7, fA, hA0, hA1]) (by decide) (by decide) rfl (fun t9 j9 q9 => by cases (show some (25, i) = some (t9, j9) from q9); simp [aA, cA, mA, cA2, cA7, fA, hA0, hA1]) fl_X0_37 rfl (ty_all 0 (by decide) 8 (by decide)) rfl rfl dX0_init_64 (fun H locs h hS => ?_)
  refine lv_aload_n hx hb dX0_init_67 rfl (lv_at hl 0 rfl) ?_
  refine lv_bipush (v := 60) hx hb dX0_init_68 (by decide) ?_
  refine w_newI (N := 60) C h hS 26 i (by simp [aA, cA, mA, cA2, cA7, fA, hN]) (by decide) rfl rfl (by decide) rfl (by decide) (by decide) (Nat.le_of_ble_eq_true rfl) (Nat.le_of_ble_eq_true rfl) dX0_init_70 (fun a H hag h hS => ?_)
  have hAG := hAG.tr hag (fun r9 i9 z => by simp [aA, cA, mA, cA2, cA7, fA, z])
  have hl : lv_has ls 2 [(0, .ref (a 0 i))] := by rw [hag 0 i (by simp [aA, cA, mA, cA2, cA7, fA, hA0, hA1])]; exact hl
  rw [← hag 0 i (by simp [aA, cA, mA, cA2, cA7, fA, hA0, hA1])]
  refine w_put (v := .ref (a 26 i)) (ty := tyf 0 9) C hin h hS 0 i 9 (by simp [aA, cA, mA, cA2, cA7, fA, hA0, hA1]) (by decide) (by decide) rfl (fun t9 j9 q9 => by cases (show some (26, i) = some (t9, j9) from q9); simp [aA, cA, mA, cA2, cA7, fA, hA0, hA1]) fl_X0_40 rfl (ty_all 0 (by decide) 9 (by decide)) rfl rfl dX0_init_72 (fun H locs h hS => ?_)
  refine lv_aload_n hx hb dX0_init_75 rfl (lv_at hl 0 rfl) ?_
  refine lv_bipush (v := 60) hx hb dX0_init_76 (by decide) ?_
  refine w_newI (N := 60) C h hS 27 i (by simp [aA, cA, mA, cA2, cA7, fA, hN]) (by decide) rfl rfl (by decide) rfl (by decide) (by decide) (Nat.le_of_ble_eq_true rfl) (Nat.le_of_ble_eq_true rfl) dX0_init_78 (fun a H hag h hS => ?_)
  have hAG := hAG.tr hag (fun r9 i9 z => by simp [aA, cA, mA, cA2, cA7, fA, z])
  have hl : lv_has ls 2 [(0, .ref (a 0 i))] := by rw [hag 0 i (by simp [aA, cA, mA, cA2, cA7, fA, hA0, hA1])]; exact hl
  rw [← hag 0 i (by simp [aA, cA, mA, cA2, cA7, fA, hA0, hA1])]
  refine w_put (v := .ref (a 27 i)) (ty := tyf 0 10) C hin h hS 0 i 10 (by simp [aA, cA, mA, cA2, cA7, fA, hA0, hA1]) (by decide) (by decide) rfl (fun t9 j9 q9 => by cases (show some (27, i) = some (t9, j9) from q9); simp [aA, cA, mA, cA2, cA7, fA, hA0, hA1]) fl_X0_43 rfl (ty_all 0 (by decide) 10 (by decide)) rfl rfl dX0_init_80 (fun H locs h hS => ?_)
  refine lv_aload_n hx hb dX0_init_83 rfl (lv_at hl 0 rfl) ?_
  refine lv_iconst (v := 0) hx hb dX0_init_84 (by decide) ?_
  refine w_put (v := .int 0) (ty := tyf 0 11) C hin h hS 0 i 11 (by simp [aA, cA, mA, cA2, cA7, fA, hA0, hA1]) (by decide) (by decide) rfl (fun t9 j9 q9 => by cases (show (none : Option (Nat × Nat)) = some (t9, j9) from q9)) fl_X0_46 rfl (ty_all 0 (by decide) 11 (by decide)) rfl rfl dX0_init_85 (fun H locs h hS => ?_)
  refine lv_aload_n hx hb dX0_init_88 rfl (lv_at hl 0 rfl) ?_
  refine lv_bipush (v := 40) hx hb dX0_init_89 (by decide) ?_
  refine w_newI (N := 40) C h hS 28 i (by simp [aA, cA, mA, cA2, cA7, fA, hN]) (by decide) rfl rfl (by decide) rfl (by decide) (by decide) (Nat.le_of_ble_eq_true rfl) (Nat.le_of_ble_eq_true rfl) dX0_init_91 (fun a H hag h hS => ?_)
  have hAG := hAG.tr hag (fun r9 i9 z => by simp [aA, cA, mA, cA2, cA7, fA, z])
  have hl : lv_has ls 2 [(0, .ref (a 0 i))] := by rw [hag 0 i (by simp [aA, cA, mA, cA2, cA7, fA, hA0, hA1])]; exact hl
  rw [← hag 0 i (by simp [aA, cA, mA, cA2, cA7, fA, hA0, hA1])]
  refine w_put (v := .ref (a 28 i)) (ty := tyf 0 12) C hin h hS 0 i 12 (by simp [aA, cA, mA, cA2, cA7, fA, hA0, hA1]) (by decide) (by decide) rfl (fun t9 j9 q9 => by cases (show some (28, i) = some (t9, j9) from q9); simp [aA, cA, mA, cA2, cA7, fA, hA0, hA1]) fl_X0_49 rfl (ty_all 0 (by decide) 12 (by decide)) rfl rfl dX0_init_93 (fun H locs h hS => ?_)
  refine lv_aload_n hx hb dX0_init_96 rfl (lv_at hl 0 rfl) ?_
  refine lv_bipush (v := 40) hx hb dX0_init_97 (by decide) ?_
  refine w_newI (N := 40) C h hS 29 i (by simp [aA, cA, mA, cA2, cA7, fA, hN]) (by decide) rfl rfl (by decide) rfl (by decide) (by decide) (Nat.le_of_ble_eq_true rfl) (Nat.le_of_ble_eq_true rfl) dX0_init_99 (fun a H hag h hS => ?_)
  have hAG := hAG.tr hag (fun r9 i9 z => by simp [aA, cA, mA, cA2, cA7, fA, z])
  have hl : lv_has ls 2 [(0, .ref (a 0 i))] := by rw [hag 0 i (by simp [aA, cA, mA, cA2, cA7, fA, hA0, hA1])]; exact hl
  rw [← hag 0 i (by simp [aA, cA, mA, cA2, cA7, fA, hA0, hA1])]
  refine w_put (v := .ref (a 29 i)) (ty := tyf 0 13) C hin h hS 0 i 13 (by simp [aA, cA, mA, cA2, cA7, fA, hA0, hA1]) (by decide) (by decide) rfl (fun t9 j9 q9 => by cases (show some (29, i) = some (t9, j9) from q9); simp [aA, cA, mA, cA2, cA7, fA, hA0, hA1]) fl_X0_52 rfl (ty_all 0 (by decide) 13 (by decide)) rfl rfl dX0_init_101 (fun H locs h hS => ?_)
  refine lv_aload_n hx hb dX0_init_104 rfl (lv_at hl 0 rfl) ?_
  refine lv_bipush (v := 40) hx hb dX0_init_105 (by decide) ?_
  refine w_newI (N := 40) C h hS 30 i (by simp [aA, cA, mA, cA2, cA7, fA, hN]) (by decide) rfl rfl (by decide) rfl (by decide) (by decide) (Nat.le_of_ble_eq_true rfl) (Nat.le_of_ble_eq_true rfl) dX0_init_107 (fun a H hag h hS => ?_)
  have hAG := hAG.tr hag (fun r9 i9 z => by simp [aA, cA, mA, cA2, cA7, fA, z])
  have hl : lv_has ls 2 [(0, .ref (a 0 i))] := by rw [hag 0 i (by simp [aA, cA, mA, cA2, cA7, fA, hA0, hA1])]; exact hl
  rw [← hag 0 i (by simp [aA, cA, mA, cA2, cA7, fA, hA0, hA1])]
  refine w_put (v := .ref (a 30 i)) (ty := tyf 0 14) C hin h hS 0 i 14 (by simp [aA, cA, mA, cA2, cA7, fA, hA0, hA1]) (by decide) (by decide) rfl (fun t9 j9 q9 => by cases (show some (30, i) = some (t9, j9) from q9); simp [aA, cA, mA, cA2, cA7, fA, hA0, hA1]) fl_X0_55 rfl (ty_all 0 (by decide) 14 (by decide)) rfl rfl dX0_init_109 (fun H locs h hS => ?_)
  refine lv_aload_n hx hb dX0_init_112 rfl (lv_at hl 0 rfl) ?_
  refine lv_iconst (v := 4) hx hb dX0_init_113 (by decide) ?_
  refine w_newI (N := 4) C h hS 31 i (by simp [aA, cA, mA, cA2, cA7, fA, hN]) (by decide) rfl rfl (by decide) rfl (by decide) (by decide) (Nat.le_of_ble_eq_true rfl) (Nat.le_of_ble_eq_true rfl) dX0_init_114 (fun a H hag h hS => ?_)
  have hAG := hAG.tr hag (fun r9 i9 z => by simp [aA, cA, mA, cA2, cA7, fA, z])
  have hl : lv_has ls 2 [(0, .ref (a 0 i))] := by rw [hag 0 i (by simp [aA, cA, mA, cA2, cA7, fA, hA0, hA1])]; exact hl
  rw [← hag 0 i (by simp [aA, cA, mA, cA2, cA7, fA, hA0, hA1])]
  refine w_put (v := .ref (a 31 i)) (ty := tyf 0 15) C hin h hS 0 i 15 (by simp [aA, cA, mA, cA2, cA7, fA, hA0, hA1]) (by decide) (by decide) rfl (fun t9 j9 q9 => by cases (show some (31, i) = some (t9, j9) from q9); simp [aA, cA, mA, cA2, cA7, fA, hA0, hA1]) fl_X0_58 rfl (ty_all 0 (by decide) 15 (by decide)) rfl rfl dX0_init_116 (fun H locs h hS => ?_)
  refine lv_aload_n hx hb dX0_init_119 rfl (lv_at hl 0 rfl) ?_
  refine lv_iconst (v := 4) hx hb dX0_init_120 (by decide) ?_
  refine w_put (v := .int 4) (ty := tyf 0 16) C hin h hS 0 i 16 (by simp [aA, cA, mA, cA2, cA7, fA, hA0, hA1]) (by decide) (by decide) rfl (fun t9 j9 q9 => by cases (show (none : Option (Nat × Nat)) = some (t9, j9) from q9)) fl_X0_61 rfl (ty_all 0 (by decide) 16 (by decide)) rfl rfl dX0_init_121 (fun H locs h hS => ?_)
  refine lv_iconst (v := 0) hx hb dX0_init_124 (by decide) ?_
  refine lv_istore_n (lv' := [(1, .int 0), (0, .ref (a 0 i))]) hx hb dX0_init_125 rfl hl (by decide) rfl (fun ls hl => ?_)
  refine lv_iload_n hx hb dX0_init_126 rfl (lv_at hl 0 rfl) ?_
  refine lv_iconst (v := 4) hx hb dX0_init_127 (by decide) ?_
  refine lv_icmp_ge (tgt := 144) hx hb dX0_init_128 (by decide) (fun c9 => absurd c9 (show ¬ (4 : Int32) ≤ 0 by decide)) (fun _ => ?_)
  refine lv_aload_n hx hb dX0_init_131 rfl (lv_at hl 1 rfl) ?_
  refine w_get (v := .ref (a 31 i)) C h 0 i 15 (by simp [aP, cP, mP, cP2, cP7, fP]) (by decide) (by decide) rfl fl_X0_58 dX0_init_132 ?_
  refine lv_iload_n hx hb dX0_init_135 rfl (lv_at hl 0 rfl) ?_
  refine lv_iconst (v := 1) hx hb dX0_init_136 (by decide) ?_
  refine w_ast (k := 0) (j := 0) (x := 1) C h hS 31 i (by simp [aA, cA, mA, cA2, cA7, fA, hA0, hA1]) (by decide) rfl rfl rfl (show ck 4 0 = some 0 by decide) dX0_init_137 (fun H locs h hS => ?_)
  refine lv_iinc (v := 1) (lv' := [(1, .int 1), (0, .ref (a 0 i))]) hx hb dX0_init_138 hl (k := 0) rfl (by decide) (by decide) rfl (fun ls hl => ?_)
  refine lv_goto (tgt := 126) hx hb dX0_init_141 (by decide) ?_
  refine lv_iload_n hx hb dX0_init_126 rfl (lv_at hl 0 rfl) ?_
  refine lv_iconst (v := 4) hx hb dX0_init_127 (by decide) ?_
  refine lv_icmp_ge (tgt := 144) hx hb dX0_init_128 (by decide) (fun c9 => absurd c9 (show ¬ (4 : Int32) ≤ 1 by decide)) (fun _ => ?_)
  refine lv_aload_n hx hb dX0_init_131 rfl (lv_at hl 1 rfl) ?_
  refine w_get (v := .ref (a 31 i)) C h 0 i 15 (by simp [aP, cP, mP, cP2, cP7, fP]) (by decide) (by decide) rfl fl_X0_58 dX0_init_132 ?_
  refine lv_iload_n hx hb dX0_init_135 rfl (lv_at hl 0 rfl) ?_
  refine lv_iconst (v := 1) hx hb dX0_init_136 (by decide) ?_
  refine w_ast (k := 1) (j := 1) (x := 1) C h hS 31 i (by simp [aA, cA, mA, cA2, cA7, fA, hA0, hA1]) (by decide) rfl rfl rfl (show ck 4 1 = some 1 by decide) dX0_init_137 (fun H locs h hS => ?_)
  refine lv_iinc (v := 2) (lv' := [(1, .int 2), (0, .ref (a 0 i))]) hx hb dX0_init_138 hl (k := 0) rfl (by decide) (by decide) rfl (fun ls hl => ?_)
  refine lv_goto (tgt := 126) hx hb dX0_init_141 (by decide) ?_
  refine lv_iload_n hx hb dX0_init_126 rfl (lv_at hl 0 rfl) ?_
  refine lv_iconst (v := 4) hx hb dX0_init_127 (by decide) ?_
  refine lv_icmp_ge (tgt := 144) hx hb dX0_init_128 (by decide) (fun c9 => absurd c9 (show ¬ (4 : Int32) ≤ 2 by decide)) (fun _ => ?_)
  refine lv_aload_n hx hb dX0_init_131 rfl (lv_at hl 1 rfl) ?_
  refine w_get (v := .ref (a 31 i)) C h 0 i 15 (by simp [aP, cP, mP, cP2, cP7, fP]) (by decide) (by decide) rfl fl_X0_58 dX0_init_132 ?_
  refine lv_iload_n hx hb dX0_init_135 rfl (lv_at hl 0 rfl) ?_
  refine lv_iconst (v := 1) hx hb dX0_init_136 (by decide) ?_
  refine w_ast (k := 2) (j := 2) (x := 1) C h hS 31 i (by simp [aA, cA, mA, cA2, cA7, fA, hA0, hA1]) (by decide) rfl rfl rfl (show ck 4 2 = some 2 by decide) dX0_init_137 (fun H locs h hS => ?_)
  refine lv_iinc (v := 3) (lv' := [(1, .int 3), (0, .ref (a 0 i))]) hx hb dX0_init_138 hl (k := 0) rfl (by decide) (by decide) rfl (fun ls hl => ?_)
  refine lv_goto (tgt := 126) hx hb dX0_init_141 (by decide) ?_
  refine lv_iload_n hx hb dX0_init_126 rfl (lv_at hl 0 rfl) ?_
  refine lv_iconst (v := 4) hx hb dX0_init_127 (by decide) ?_
  refine lv_icmp_ge (tgt := 144) hx hb dX0_init_128 (by decide) (fun c9 => absurd c9 (show ¬ (4 : Int32) ≤ 3 by decide)) (fun _ => ?_)
  refine lv_aload_n hx hb dX0_init_131 rfl (lv_at hl 1 rfl) ?_
  refine w_get (v := .ref (a 31 i)) C h 0 i 15 (by simp [aP, cP, mP, cP2, cP7, fP]) (by decide) (by decide) rfl fl_X0_58 dX0_init_132 ?_
  refine lv_iload_n hx hb dX0_init_135 rfl (lv_at hl 0 rfl) ?_
  refine lv_iconst (v := 1) hx hb dX0_init_136 (by decide) ?_
  refine w_ast (k := 3) (j := 3) (x := 1) C h hS 31 i (by simp [aA, cA, mA, cA2, cA7, fA, hA0, hA1]) (by decide) rfl rfl rfl (show ck 4 3 = some 3 by decide) dX0_init_137 (fun H locs h hS => ?_)
  refine lv_iinc (v := 4) (lv' := [(1, .int 4), (0, .ref (a 0 i))]) hx hb dX0_init_138 hl (k := 0) rfl (by decide) (by decide) rfl (fun ls hl => ?_)
  refine lv_goto (tgt := 126) hx hb dX0_init_141 (by decide) ?_
  refine lv_iload_n hx hb dX0_init_126 rfl (lv_at hl 0 rfl) ?_
  refine lv_iconst (v := 4) hx hb dX0_init_127 (by decide) ?_
  refine lv_icmp_ge (tgt := 144) hx hb dX0_init_128 (by decide) (fun _ => ?_) (fun c9 => absurd (show (4 : Int32) ≤ 4 by decide) c9)
  have hAf : ∀ r9 j9, (cA A0 20 31 i) r9 j9 ↔ (aA (aA (aA (aA (aA (aA (aA (aA (aA (aA (aA (aA A0 20 i) 21 i) 22 i) 23 i) 24 i) 25 i) 26 i) 27 i) 28 i) 29 i) 30 i) 31 i) r9 j9 := by
    intro r9 j9
    simp only [aA, cA]
    by_cases z : A0 r9 j9
    · simp [z]
    · by_cases ji : j9 = i
      · subst ji; simp only [z, and_true, false_or]; omega
      · simp [z, ji]
  have hPf : ∀ r9 j9 k9, (cP P0 0 20 31 i) r9 j9 k9 → (aP (aP (aP (aP (aP (aP (aP (aP (aP (aP (aP (aP (aP (aP (aP (aP (aP (aP (aP (aP (aP (aP (aP (aP (aP (aP (aP (aP (aP (aP (aP (aP (aP P0 0 i (fun k9 => k9 = 0)) 20 i (fun k9 => gI σ0 20 i k9 = 0)) 0 i (fun k9 => k9 = 1)) 21 i (fun k9 => gI σ0 21 i k9 = 0)) 0 i (fun k9 => k9 = 2)) 0 i (fun k9 => k9 = 3)) 22 i (fun k9 => gI σ0 22 i k9 = 0)) 0 i (fun k9 => k9 = 4)) 23 i (fun k9 => gI σ0 23 i k9 = 0)) 0 i (fun k9 => k9 = 5)) 24 i (fun k9 => gI σ0 24 i k9 = 0)) 0 i (fun k9 => k9 = 6)) 0 i (fun k9 => k9 = 7)) 25 i (fun k9 => gI σ0 25 i k9 = 0)) 0 i (fun k9 => k9 = 8)) 26 i (fun k9 => gI σ0 26 i k9 = 0)) 0 i (fun k9 => k9 = 9)) 27 i (fun k9 => gI σ0 27 i k9 = 0)) 0 i (fun k9 => k9 = 10)) 0 i (fun k9 => k9 = 11)) 28 i (fun k9 => gI σ0 28 i k9 = 0)) 0 i (fun k9 => k9 = 12)) 29 i (fun k9 => gI σ0 29 i k9 = 0)) 0 i (fun k9 => k9 = 13)) 30 i (fun k9 => gI σ0 30 i k9 = 0)) 0 i (fun k9 => k9 = 14)) 31 i (fun k9 => gI σ0 31 i k9 = 0)) 0 i (fun k9 => k9 = 15)) 0 i (fun k9 => k9 = 16)) 31 i (fun k9 => k9 = 0)) 31 i (fun k9 => k9 = 1)) 31 i (fun k9 => k9 = 2)) 31 i (fun k9 => k9 = 3)) r9 j9 k9 := by
    intro r9 j9 k9 w
    rcases w with w | ⟨c9, e9, hk⟩
    · simp [aP, w]
    · subst e9
      rcases c9 with rfl | c9
      · have hk : k9 < 17 := hk
        rcases (show k9 = 0 ∨ k9 = 1 ∨ k9 = 2 ∨ k9 = 3 ∨ k9 = 4 ∨ k9 = 5 ∨ k9 = 6 ∨ k9 = 7 ∨ k9 = 8 ∨ k9 = 9 ∨ k9 = 10 ∨ k9 = 11 ∨ k9 = 12 ∨ k9 = 13 ∨ k9 = 14 ∨ k9 = 15 ∨ k9 = 16 by omega) with rfl | rfl | rfl | rfl | rfl | rfl | rfl | rfl | rfl | rfl | rfl | rfl | rfl | rfl | rfl | rfl | rfl
        · simp [aP]
        · simp [aP]
        · simp [aP]
        · simp [aP]
        · simp [aP]
        · simp [aP]
        · simp [aP]
        · simp [aP]
        · simp [aP]
        · simp [aP]
        · simp [aP]
        · simp [aP]
        · simp [aP]
        · simp [aP]
        · simp [aP]
        · simp [aP]
        · simp [aP]
      · rcases (show r9 = 20 ∨ r9 = 21 ∨ r9 = 22 ∨ r9 = 23 ∨ r9 = 24 ∨ r9 = 25 ∨ r9 = 26 ∨ r9 = 27 ∨ r9 = 28 ∨ r9 = 29 ∨ r9 = 30 ∨ r9 = 31 by omega) with rfl | rfl | rfl | rfl | rfl | rfl | rfl | rfl | rfl | rfl | rfl | rfl
        · exact by simp [aP, show gI σ0 20 j9 k9 = 0 from rfl]
        · exact by simp [aP, show gI σ0 21 j9 k9 = 0 from rfl]
        · exact by simp [aP, show gI σ0 22 j9 k9 = 0 from rfl]
        · exact by simp [aP, show gI σ0 23 j9 k9 = 0 from rfl]
        · exact by simp [aP, show gI σ0 24 j9 k9 = 0 from rfl]
        · exact by simp [aP, show gI σ0 25 j9 k9 = 0 from rfl]
        · exact by simp [aP, show gI σ0 26 j9 k9 = 0 from rfl]
        · exact by simp [aP, show gI σ0 27 j9 k9 = 0 from rfl]
        · exact by simp [aP, show gI σ0 28 j9 k9 = 0 from rfl]
        · exact by simp [aP, show gI σ0 29 j9 k9 = 0 from rfl]
        · exact by simp [aP, show gI σ0 30 j9 k9 = 0 from rfl]
        · have hk : k9 < 4 := hk
          rcases (show k9 = 0 ∨ k9 = 1 ∨ k9 = 2 ∨ k9 = 3 by omega) with rfl | rfl | rfl | rfl
          · simp [aP]
          · simp [aP]
          · simp [aP]
          · simp [aP]
  exact e_vretI hAG C hr (h.to hAf hPf) hS (Nat.le_of_ble_eq_true rfl) (Nat.le_of_ble_eq_true rfl) dX0_init_144
set_option maxHeartbeats 4000000 in
set_option maxRecDepth 100000 in
theorem vX1_init {l : Launch} {E : EV} {A0 : Nat → Nat → Prop} {P0 : Nat → Nat → Nat → Prop} {a0 : Nat → Nat → Nat} {i : Nat} (hA0 : A0 1 i) (hN : ∀ r, 32 ≤ r → r ≤ 36 → ¬ A0 r i) : CtI l E yX1_init cX1_init 1 1 20 5 464 A0 P0 a0 [.ref (a0 1 i)] (cA A0 32 36 i) (cP P0 1 32 36 i) := by
  refine CtI.start (by decide) (Nat.le_of_ble_eq_true rfl) rfl ?_
  have hA1 : True := trivial
  intro p e s m args below meth c ls C hin hr h hS hl
  have C : CI E p s m args meth c cX1_init 1 RX1 := C
  obtain ⟨a, hAG, h, hl⟩ : ∃ a : Nat → Nat → Nat, AGP A0 a0 a ∧ RWm E A0 P0 a s.heap ∧ lv_has ls 1 [(0, .ref (a 1 i))] := ⟨a0, AGP.rf, h, hl⟩
  have hx := C.1.1
  have hb := C.1.2.1
  refine lv_aload_n hx hb dX1_init_0 rfl (lv_at hl 0 rfl) ?_
  refine w_obji C mo_X1 hl.1 (Nat.le_of_ble_eq_true rfl) (Nat.le_of_ble_eq_true rfl) dX1_init_1 ?_
  refine lv_aload_n hx hb dX1_init_4 rfl (lv_at hl 0 rfl) ?_
  refine lv_sipush (v := 400) hx hb dX1_init_5 (by decide) ?_
  refine w_newI (N := 400) C h hS 32 i (by simp [aA, cA, mA, cA2, cA7, fA, hN]) (by decide) rfl rfl (by decide) rfl (by decide) (by decide) (Nat.le_of_ble_eq_true rfl) (Nat.le_of_ble_eq_true rfl) dX1_init_8 (fun a H hag h hS => ?_)
  have hAG := hAG.tr hag (fun r9 i9 z => by simp [aA, cA, mA, cA2, cA7, fA, z])
  have hl : lv_has ls 1 [(0, .ref (a 1 i))] := by rw [hag 1 i (by simp [aA, cA, mA, cA2, cA7, fA, hA0, hA1])]; exact hl
  rw [← hag 1 i (by simp [aA, cA, mA, cA2, cA7, fA, hA0, hA1])]
  refine w_put (v := .ref (a 32 i)) (ty := tyf 1 0) C hin h hS 1 i 0 (by simp [aA, cA, mA, cA2, cA7, fA, hA0, hA1]) (by decide) (by decide) rfl (fun t9 j9 q9 => by cases (show some (32, i) = some (t9, j9) from q9); simp [aA, cA, mA, cA2, cA7, fA, hA0, hA1]) fl_X1_9 rfl (ty_all 1 (by decide) 0 (by decide)) rfl rfl dX1_init_10 (fun H locs h hS => ?_)
  refine lv_aload_n hx hb dX1_init_13 rfl (lv_at hl 0 rfl) ?_
  refine lv_iconst (v := 0) hx hb dX1_init_14 (by decide) ?_
  refine w_put (v := .int 0) (ty := tyf 1 1) C hin h hS 1 i 1 (by simp [aA, cA, mA, cA2, cA7, fA, hA0, hA1]) (by decide) (by decide) rfl (fun t9 j9 q9 => by cases (show (none : Option (Nat × Nat)) = some (t9, j9) from q9)) fl_X1_15 rfl (ty_all 1 (by decide) 1 (by decide)) rfl rfl dX1_init_15 (fun H locs h hS => ?_)
  refine lv_aload_n hx hb dX1_init_18 rfl (lv_at hl 0 rfl) ?_
  refine lv_iconst (v := 0) hx hb dX1_init_19 (by decide) ?_
  refine w_put (v := .int 0) (ty := tyf 1 2) C hin h hS 1 i 2 (by simp [aA, cA, mA, cA2, cA7, fA, hA0, hA1]) (by decide) (by decide) rfl (fun t9 j9 q9 => by cases (show (none : Option (Nat × Nat)) = some (t9, j9) from q9)) fl_X1_19 rfl (ty_all 1 (by decide) 2 (by decide)) rfl rfl dX1_init_20 (fun H locs h hS => ?_)
  refine lv_aload_n hx hb dX1_init_23 rfl (lv_at hl 0 rfl) ?_
  refine lv_bipush (v := 16) hx hb dX1_init_24 (by decide) ?_
  refine w_newI (N := 16) C h hS 33 i (by simp [aA, cA, mA, cA2, cA7, fA, hN]) (by decide) rfl rfl (by decide) rfl (by decide) (by decide) (Nat.le_of_ble_eq_true rfl) (Nat.le_of_ble_eq_true rfl) dX1_init_26 (fun a H hag h hS => ?_)
  have hAG := hAG.tr hag (fun r9 i9 z => by simp [aA, cA, mA, cA2, cA7, fA, z])
  have hl : lv_has ls 1 [(0, .ref (a 1 i))] := by rw [hag 1 i (by simp [aA, cA, mA, cA2, cA7, fA, hA0, hA1])]; exact hl
  rw [← hag 1 i (by simp [aA, cA, mA, cA2, cA7, fA, hA0, hA1])]
  refine w_put (v := .ref (a 33 i)) (ty := tyf 1 3) C hin h hS 1 i 3 (by simp [aA, cA, mA, cA2, cA7, fA, hA0, hA1]) (by decide) (by decide) rfl (fun t9 j9 q9 => by cases (show some (33, i) = some (t9, j9) from q9); simp [aA, cA, mA, cA2, cA7, fA, hA0, hA1]) fl_X1_22 rfl (ty_all 1 (by decide) 3 (by decide)) rfl rfl dX1_init_28 (fun H locs h hS => ?_)
  refine lv_aload_n hx hb dX1_init_31 rfl (lv_at hl 0 rfl) ?_
  refine lv_bipush (v := 16) hx hb dX1_init_32 (by decide) ?_
  refine w_newI (N := 16) C h hS 34 i (by simp [aA, cA, mA, cA2, cA7, fA, hN]) (by decide) rfl rfl (by decide) rfl (by decide) (by decide) (Nat.le_of_ble_eq_true rfl) (Nat.le_of_ble_eq_true rfl) dX1_init_34 (fun a H hag h hS => ?_)
  have hAG := hAG.tr hag (fun r9 i9 z => by simp [aA, cA, mA, cA2, cA7, fA, z])
  have hl : lv_has ls 1 [(0, .ref (a 1 i))] := by rw [hag 1 i (by simp [aA, cA, mA, cA2, cA7, fA, hA0, hA1])]; exact hl
  rw [← hag 1 i (by simp [aA, cA, mA, cA2, cA7, fA, hA0, hA1])]
  refine w_put (v := .ref (a 34 i)) (ty := tyf 1 4) C hin h hS 1 i 4 (by simp [aA, cA, mA, cA2, cA7, fA, hA0, hA1]) (by decide) (by decide) rfl (fun t9 j9 q9 => by cases (show some (34, i) = some (t9, j9) from q9); simp [aA, cA, mA, cA2, cA7, fA, hA0, hA1]) fl_X1_25 rfl (ty_all 1 (by decide) 4 (by decide)) rfl rfl dX1_init_36 (fun H locs h hS => ?_)
  refine lv_aload_n hx hb dX1_init_39 rfl (lv_at hl 0 rfl) ?_
  refine lv_bipush (v := 16) hx hb dX1_init_40 (by decide) ?_
  refine w_newI (N := 16) C h hS 35 i (by simp [aA, cA, mA, cA2, cA7, fA, hN]) (by decide) rfl rfl (by decide) rfl (by decide) (by decide) (Nat.le_of_ble_eq_true rfl) (Nat.le_of_ble_eq_true rfl) dX1_init_42 (fun a H hag h hS => ?_)
  have hAG := hAG.tr hag (fun r9 i9 z => by simp [aA, cA, mA, cA2, cA7, fA, z])
  have hl : lv_has ls 1 [(0, .ref (a 1 i))] := by rw [hag 1 i (by simp [aA, cA, mA, cA2, cA7, fA, hA0, hA1])]; exact hl
  rw [← hag 1 i (by simp [aA, cA, mA, cA2, cA7, fA, hA0, hA1])]
  refine w_put (v := .ref (a 35 i)) (ty := tyf 1 5) C hin h hS 1 i 5 (by simp [aA, cA, mA, cA2, cA7, fA, hA0, hA1]) (by decide) (by decide) rfl (fun t9 j9 q9 => by cases (show some (35, i) = some (t9, j9) from q9); simp [aA, cA, mA, cA2, cA7, fA, hA0, hA1]) fl_X1_28 rfl (ty_all 1 (by decide) 5 (by decide)) rfl rfl dX1_init_44 (fun H locs h hS => ?_)
  refine lv_aload_n hx hb dX1_init_47 rfl (lv_at hl 0 rfl) ?_
  refine lv_bipush (v := 16) hx hb dX1_init_48 (by decide) ?_
  refine w_newI (N := 16) C h hS 36 i (by simp [aA, cA, mA, cA2, cA7, fA, hN]) (by decide) rfl rfl (by decide) rfl (by decide) (by decide) (Nat.le_of_ble_eq_true rfl) (Nat.le_of_ble_eq_true rfl) dX1_init_50 (fun a H hag h hS => ?_)
  have hAG := hAG.tr hag (fun r9 i9 z => by simp [aA, cA, mA, cA2, cA7, fA, z])
  have hl : lv_has ls 1 [(0, .ref (a 1 i))] := by rw [hag 1 i (by simp [aA, cA, mA, cA2, cA7, fA, hA0, hA1])]; exact hl
  rw [← hag 1 i (by simp [aA, cA, mA, cA2, cA7, fA, hA0, hA1])]
  refine w_put (v := .ref (a 36 i)) (ty := tyf 1 6) C hin h hS 1 i 6 (by simp [aA, cA, mA, cA2, cA7, fA, hA0, hA1]) (by decide) (by decide) rfl (fun t9 j9 q9 => by cases (show some (36, i) = some (t9, j9) from q9); simp [aA, cA, mA, cA2, cA7, fA, hA0, hA1]) fl_X1_31 rfl (ty_all 1 (by decide) 6 (by decide)) rfl rfl dX1_init_52 (fun H locs h hS => ?_)
  have hAf : ∀ r9 j9, (cA A0 32 36 i) r9 j9 ↔ (aA (aA (aA (aA (aA A0 32 i) 33 i) 34 i) 35 i) 36 i) r9 j9 := by
    intro r9 j9
    simp only [aA, cA]
    by_cases z : A0 r9 j9
    · simp [z]
    · by_cases ji : j9 = i
      · subst ji; simp only [z, and_true, false_or]; omega
      · simp [z, ji]
  have hPf : ∀ r9 j9 k9, (cP P0 1 32 36 i) r9 j9 k9 → (aP (aP (aP (aP (aP (aP (aP (aP (aP (aP (aP (aP P0 32 i (fun k9 => gI σ0 32 i k9 = 0)) 1 i (fun k9 => k9 = 0)) 1 i (fun k9 => k9 = 1)) 1 i (fun k9 => k9 = 2)) 33 i (fun k9 => gI σ0 33 i k9 = 0)) 1 i (fun k9 => k9 = 3)) 34 i (fun k9 => gI σ0 34 i k9 = 0)) 1 i (fun k9 => k9 = 4)) 35 i (fun k9 => gI σ0 35 i k9 = 0)) 1 i (fun k9 => k9 = 5)) 36 i (fun k9 => gI σ0 36 i k9 = 0)) 1 i (fun k9 => k9 = 6)) r9 j9 k9 := by
    intro r9 j9 k9 w
    rcases w with w | ⟨c9, e9, hk⟩
    · simp [aP, w]
    · subst e9
      rcases c9 with rfl | c9
      · have hk : k9 < 7 := hk
        rcases (show k9 = 0 ∨ k9 = 1 ∨ k9 = 2 ∨ k9 = 3 ∨ k9 = 4 ∨ k9 = 5 ∨ k9 = 6 by omega) with rfl | rfl | rfl | rfl | rfl | rfl | rfl
        · simp [aP]
        · simp [aP]
        · simp [aP]
        · simp [aP]
        · simp [aP]
        · simp [aP]
        · simp [aP]
      · rcases (show r9 = 32 ∨ r9 = 33 ∨ r9 = 34 ∨ r9 = 35 ∨ r9 = 36 by omega) with rfl | rfl | rfl | rfl | rfl
        · exact by simp [aP, show gI σ0 32 j9 k9 = 0 from rfl]
        · exact by simp [aP, show gI σ0 33 j9 k9 = 0 from rfl]
        · exact by simp [aP, show gI σ0 34 j9 k9 = 0 from rfl]
        · exact by simp [aP, show gI σ0 35 j9 k9 = 0 from rfl]
        · exact by simp [aP, show gI σ0 36 j9 k9 = 0 from rfl]
  exact e_vretI hAG C hr (h.to hAf hPf) hS (Nat.le_of_ble_eq_true rfl) (Nat.le_of_ble_eq_true rfl) dX1_init_55
set_option maxHeartbeats 4000000 in
set_option maxRecDepth 100000 in
theorem vX3_init {l : Launch} {E : EV} {A0 : Nat → Nat → Prop} {P0 : Nat → Nat → Nat → Prop} {a0 : Nat → Nat → Nat} {i : Nat} (hA0 : A0 3 i) (hN : ∀ r, 37 ≤ r → r ≤ 43 → ¬ A0 r i) : CtI l E yX3_init cX3_init 1 1 20 7 328 A0 P0 a0 [.ref (a0 3 i)] (cA A0 37 43 i) (cP P0 3 37 43 i) := by
  refine CtI.start (by decide) (Nat.le_of_ble_eq_true rfl) rfl ?_
  have hA1 : True := trivial
  intro p e s m args below meth c ls C hin hr h hS hl
  have C : CI E p s m args meth c cX3_init 1 RX3 := C
  obtain ⟨a, hAG, h, hl⟩ : ∃ a : Nat → Nat → Nat, AGP A0 a0 a ∧ RWm E A0 P0 a s.heap ∧ lv_has ls 1 [(0, .ref (a 3 i))] := ⟨a0, AGP.rf, h, hl⟩
  have hx := C.1.1
  have hb := C.1.2.1
  refine lv_aload_n hx hb dX3_init_0 rfl (lv_at hl 0 rfl) ?_
  refine w_obji C mo_X3 hl.1 (Nat.le_of_ble_eq_true rfl) (Nat.le_of_ble_eq_true rfl) dX3_init_1 ?_
  refine lv_aload_n hx hb dX3_init_4 rfl (lv_at hl 0 rfl) ?_
  refine lv_iconst (v := 0) hx hb dX3_init_5 (by decide) ?_
  refine w_put (v := .int 0) (ty := tyf 3 0) C hin h hS 3 i 0 (by simp [aA, cA, mA, cA2, cA7, fA, hA0, hA1]) (by decide) (by decide) rfl (fun t9 j9 q9 => by cases (show (none : Option (Nat × Nat)) = some (t9, j9) from q9)) fl_X3_9 rfl (ty_all 3 (by decide) 0 (by decide)) rfl rfl dX3_init_6 (fun H locs h hS => ?_)
  refine lv_aload_n hx hb dX3_init_9 rfl (lv_at hl 0 rfl) ?_
  refine lv_bipush (v := 8) hx hb dX3_init_10 (by decide) ?_
  refine w_newI (N := 8) C h hS 37 i (by simp [aA, cA, mA, cA2, cA7, fA, hN]) (by decide) rfl rfl (by decide) rfl (by decide) (by decide) (Nat.le_of_ble_eq_true rfl) (Nat.le_of_ble_eq_true rfl) dX3_init_12 (fun a H hag h hS => ?_)
  have hAG := hAG.tr hag (fun r9 i9 z => by simp [aA, cA, mA, cA2, cA7, fA, z])
  have hl : lv_has ls 1 [(0, .ref (a 3 i))] := by rw [hag 3 i (by simp [aA, cA, mA, cA2, cA7, fA, hA0, hA1])]; exact hl
  rw [← hag 3 i (by simp [aA, cA, mA, cA2, cA7, fA, hA0, hA1])]
  refine w_put (v := .ref (a 37 i)) (ty := tyf 3 1) C hin h hS 3 i 1 (by simp [aA, cA, mA, cA2, cA7, fA, hA0, hA1]) (by decide) (by decide) rfl (fun t9 j9 q9 => by cases (show some (37, i) = some (t9, j9) from q9); simp [aA, cA, mA, cA2, cA7, fA, hA0, hA1]) fl_X3_15 rfl (ty_all 3 (by decide) 1 (by decide)) rfl rfl dX3_init_14 (fun H locs h hS => ?_)
  refine lv_aload_n hx hb dX3_init_17 rfl (lv_at hl 0 rfl) ?_
  refine lv_bipush (v := 8) hx hb dX3_init_18 (by decide) ?_
  refine w_newI (N := 8) C h hS 38 i (by simp [aA, cA, mA, cA2, cA7, fA, hN]) (by decide) rfl rfl (by decide) rfl (by decide) (by decide) (Nat.le_of_ble_eq_true rfl) (Nat.le_of_ble_eq_true rfl) dX3_init_20 (fun a H hag h hS => ?_)
  have hAG := hAG.tr hag (fun r9 i9 z => by simp [aA, cA, mA, cA2, cA7, fA, z])
  have hl : lv_has ls 1 [(0, .ref (a 3 i))] := by rw [hag 3 i (by simp [aA, cA, mA, cA2, cA7, fA, hA0, hA1])]; exact hl
  rw [← hag 3 i (by simp [aA, cA, mA, cA2, cA7, fA, hA0, hA1])]
  refine w_put (v := .ref (a 38 i)) (ty := tyf 3 2) C hin h hS 3 i 2 (by simp [aA, cA, mA, cA2, cA7, fA, hA0, hA1]) (by decide) (by decide) rfl (fun t9 j9 q9 => by cases (show some (38, i) = some (t9, j9) from q9); simp [aA, cA, mA, cA2, cA7, fA, hA0, hA1]) fl_X3_19 rfl (ty_all 3 (by decide) 2 (by decide)) rfl rfl dX3_init_22 (fun H locs h hS => ?_)
  refine lv_aload_n hx hb dX3_init_25 rfl (lv_at hl 0 rfl) ?_
  refine lv_iconst (v := 0) hx hb dX3_init_26 (by decide) ?_
  refine w_put (v := .int 0) (ty := tyf 3 3) C hin h hS 3 i 3 (by simp [aA, cA, mA, cA2, cA7, fA, hA0, hA1]) (by decide) (by decide) rfl (fun t9 j9 q9 => by cases (show (none : Option (Nat × Nat)) = some (t9, j9) from q9)) fl_X3_22 rfl (ty_all 3 (by decide) 3 (by decide)) rfl rfl dX3_init_27 (fun H locs h hS => ?_)
  refine lv_aload_n hx hb dX3_init_30 rfl (lv_at hl 0 rfl) ?_
  refine lv_sipush (v := 168) hx hb dX3_init_31 (by decide) ?_
  refine w_newI (N := 168) C h hS 39 i (by simp [aA, cA, mA, cA2, cA7, fA, hN]) (by decide) rfl rfl (by decide) rfl (by decide) (by decide) (Nat.le_of_ble_eq_true rfl) (Nat.le_of_ble_eq_true rfl) dX3_init_34 (fun a H hag h hS => ?_)
  have hAG := hAG.tr hag (fun r9 i9 z => by simp [aA, cA, mA, cA2, cA7, fA, z])
  have hl : lv_has ls 1 [(0, .ref (a 3 i))] := by rw [hag 3 i (by simp [aA, cA, mA, cA2, cA7, fA, hA0, hA1])]; exact hl
  rw [← hag 3 i (by simp [aA, cA, mA, cA2, cA7, fA, hA0, hA1])]
  refine w_put (v := .ref (a 39 i)) (ty := tyf 3 4) C hin h hS 3 i 4 (by simp [aA, cA, mA, cA2, cA7, fA, hA0, hA1]) (by decide) (by decide) rfl (fun t9 j9 q9 => by cases (show some (39, i) = some (t9, j9) from q9); simp [aA, cA, mA, cA2, cA7, fA, hA0, hA1]) fl_X3_25 rfl (ty_all 3 (by decide) 4 (by decide)) rfl rfl dX3_init_36 (fun H locs h hS => ?_)
  refine lv_aload_n hx hb dX3_init_39 rfl (lv_at hl 0 rfl) ?_
  refine lv_iconst (v := 0) hx hb dX3_init_40 (by decide) ?_
  refine w_put (v := .int 0) (ty := tyf 3 5) C hin h hS 3 i 5 (by simp [aA, cA, mA, cA2, cA7, fA, hA0, hA1]) (by decide) (by decide) rfl (fun t9 j9 q9 => by cases (show (none : Option (Nat × Nat)) = some (t9, j9) from q9)) fl_X3_28 rfl (ty_all 3 (by decide) 5 (by decide)) rfl rfl dX3_init_41 (fun H locs h hS => ?_)
  refine lv_aload_n hx hb dX3_init_44 rfl (lv_at hl 0 rfl) ?_
  refine lv_bipush (v := 72) hx hb dX3_init_45 (by decide) ?_
  refine w_newI (N := 72) C h hS 40 i (by simp [aA, cA, mA, cA2, cA7, fA, hN]) (by decide) rfl rfl (by decide) rfl (by decide) (by decide) (Nat.le_of_ble_eq_true rfl) (Nat.le_of_ble_eq_true rfl) dX3_init_47 (fun a H hag h hS => ?_)
  have hAG := hAG.tr hag (fun r9 i9 z => by simp [aA, cA, mA, cA2, cA7, fA, z])
  have hl : lv_has ls 1 [(0, .ref (a 3 i))] := by rw [hag 3 i (by simp [aA, cA, mA, cA2, cA7, fA, hA0, hA1])]; exact hl
  rw [← hag 3 i (by simp [aA, cA, mA, cA2, cA7, fA, hA0, hA1])]
  refine w_put (v := .ref (a 40 i)) (ty := tyf 3 6) C hin h hS 3 i 6 (by simp [aA, cA, mA, cA2, cA7, fA, hA0, hA1]) (by decide) (by decide) rfl (fun t9 j9 q9 => by cases (show some (40, i) = some (t9, j9) from q9); simp [aA, cA, mA, cA2, cA7, fA, hA0, hA1]) fl_X3_31 rfl (ty_all 3 (by decide) 6 (by decide)) rfl rfl dX3_init_49 (fun H locs h hS => ?_)
  refine lv_aload_n hx hb dX3_init_52 rfl (lv_at hl 0 rfl) ?_
  refine lv_iconst (v := 0) hx hb dX3_init_53 (by decide) ?_
  refine w_put (v := .int 0) (ty := tyf 3 7) C hin h hS 3 i 7 (by simp [aA, cA, mA, cA2, cA7, fA, hA0, hA1]) (by decide) (by decide) rfl (fun t9 j9 q9 => by cases (show (none : Option (Nat × Nat)) = some (t9, j9) from q9)) fl_X3_34 rfl (ty_all 3 (by decide) 7 (by decide)) rfl rfl dX3_init_54 (fun H locs h hS => ?_)
  refine lv_aload_n hx hb dX3_init_57 rfl (lv_at hl 0 rfl) ?_
  refine lv_bipush (v := 72) hx hb dX3_init_58 (by decide) ?_
  refine w_newI (N := 72) C h hS 41 i (by simp [aA, cA, mA, cA2, cA7, fA, hN]) (by decide) rfl rfl (by decide) rfl (by decide) (by decide) (Nat.le_of_ble_eq_true rfl) (Nat.le_of_ble_eq_true rfl) dX3_init_60 (fun a H hag h hS => ?_)
  have hAG := hAG.tr hag (fun r9 i9 z => by simp [aA, cA, mA, cA2, cA7, fA, z])
  have hl : lv_has ls 1 [(0, .ref (a 3 i))] := by rw [hag 3 i (by simp [aA, cA, mA, cA2, cA7, fA, hA0, hA1])]; exact hl
  rw [← hag 3 i (by simp [aA, cA, mA, cA2, cA7, fA, hA0, hA1])]
  refine w_put (v := .ref (a 41 i)) (ty := tyf 3 8) C hin h hS 3 i 8 (by simp [aA, cA, mA, cA2, cA7, fA, hA0, hA1]) (by decide) (by decide) rfl (fun t9 j9 q9 => by cases (show some (41, i) = some (t9, j9) from q9); simp [aA, cA, mA, cA2, cA7, fA, hA0, hA1]) fl_X3_37 rfl (ty_all 3 (by decide) 8 (by decide)) rfl rfl dX3_init_62 (fun H locs h hS => ?_)
  refine lv_aload_n hx hb dX3_init_65 rfl (lv_at hl 0 rfl) ?_
  refine lv_iconst (v := (-1)) hx hb dX3_init_66 (by decide) ?_
  refine w_put (v := .int (-1)) (ty := tyf 3 9) C hin h hS 3 i 9 (by simp [aA, cA, mA, cA2, cA7, fA, hA0, hA1]) (by decide) (by decide) rfl (fun t9 j9 q9 => by cases (show (none : Option (Nat × Nat)) = some (t9, j9) from q9)) fl_X3_40 rfl (ty_all 3 (by decide) 9 (by decide)) rfl rfl dX3_init_67 (fun H locs h hS => ?_)
  refine lv_aload_n hx hb dX3_init_70 rfl (lv_at hl 0 rfl) ?_
  refine lv_iconst (v := (-1)) hx hb dX3_init_71 (by decide) ?_
  refine w_put (v := .int (-1)) (ty := tyf 3 10) C hin h hS 3 i 10 (by simp [aA, cA, mA, cA2, cA7, fA, hA0, hA1]) (by decide) (by decide) rfl (fun t9 j9 q9 => by cases (show (none : Option (Nat × Nat)) = some (t9, j9) from q9)) fl_X3_43 rfl (ty_all 3 (by decide) 10 (by decide)) rfl rfl dX3_init_72 (fun H locs h hS => ?_)
  refine lv_aload_n hx hb dX3_init_75 rfl (lv_at hl 0 rfl) ?_
  refine lv_iconst (v := 0) hx hb dX3_init_76 (by decide) ?_
  refine w_put (v := .int 0) (ty := tyf 3 11) C hin h hS 3 i 11 (by simp [aA, cA, mA, cA2, cA7, fA, hA0, hA1]) (by decide) (by decide) rfl (fun t9 j9 q9 => by cases (show (none : Option (Nat × Nat)) = some (t9, j9) from q9)) fl_X3_46 rfl (ty_all 3 (by decide) 11 (by decide)) rfl rfl dX3_init_77 (fun H locs h hS => ?_)
  refine lv_aload_n hx hb dX3_init_80 rfl (lv_at hl 0 rfl) ?_
  refine lv_iconst (v := 0) hx hb dX3_init_81 (by decide) ?_
  refine w_newI (N := 0) C h hS 42 i (by simp [aA, cA, mA, cA2, cA7, fA, hN]) (by decide) rfl rfl (by decide) (len42 _) (by decide) (by decide) (Nat.le_of_ble_eq_true rfl) (Nat.le_of_ble_eq_true rfl) dX3_init_82 (fun a H hag h hS => ?_)
  have hAG := hAG.tr hag (fun r9 i9 z => by simp [aA, cA, mA, cA2, cA7, fA, z])
  have hl : lv_has ls 1 [(0, .ref (a 3 i))] := by rw [hag 3 i (by simp [aA, cA, mA, cA2, cA7, fA, hA0, hA1])]; exact hl
  rw [← hag 3 i (by simp [aA, cA, mA, cA2, cA7, fA, hA0, hA1])]
  refine w_put (v := .ref (a 42 i)) (ty := tyf 3 12) C hin h hS 3 i 12 (by simp [aA, cA, mA, cA2, cA7, fA, hA0, hA1]) (by decide) (by decide) rfl (fun t9 j9 q9 => by cases (show some (42, i) = some (t9, j9) from q9); simp [aA, cA, mA, cA2, cA7, fA, hA0, hA1]) fl_X3_49 rfl (ty_all 3 (by decide) 12 (by decide)) rfl rfl dX3_init_84 (fun H locs h hS => ?_)
  refine lv_aload_n hx hb dX3_init_87 rfl (lv_at hl 0 rfl) ?_
  refine lv_iconst (v := 0) hx hb dX3_init_88 (by decide) ?_
  refine w_newI (N := 0) C h hS 43 i (by simp [aA, cA, mA, cA2, cA7, fA, hN]) (by decide) rfl rfl (by decide) (len43 _) (by decide) (by decide) (Nat.le_of_ble_eq_true rfl) (Nat.le_of_ble_eq_true rfl) dX3_init_89 (fun a H hag h hS => ?_)
  have hAG := hAG.tr hag (fun r9 i9 z => by simp [aA, cA, mA, cA2, cA7, fA, z])
  have hl : lv_has ls 1 [(0, .ref (a 3 i))] := by rw [hag 3 i (by simp [aA, cA, mA, cA2, cA7, fA, hA0, hA1])]; exact hl
  rw [← hag 3 i (by simp [aA, cA, mA, cA2, cA7, fA, hA0, hA1])]
  refine w_put (v := .ref (a 43 i)) (ty := tyf 3 13) C hin h hS 3 i 13 (by simp [aA, cA, mA, cA2, cA7, fA, hA0, hA1]) (by decide) (by decide) rfl (fun t9 j9 q9 => by cases (show some (43, i) = some (t9, j9) from q9); simp [aA, cA, mA, cA2, cA7, fA, hA0, hA1]) fl_X3_52 rfl (ty_all 3 (by decide) 13 (by decide)) rfl rfl dX3_init_91 (fun H locs h hS => ?_)
  have hAf : ∀ r9 j9, (cA A0 37 43 i) r9 j9 ↔ (aA (aA (aA (aA (aA (aA (aA A0 37 i) 38 i) 39 i) 40 i) 41 i) 42 i) 43 i) r9 j9 := by
    intro r9 j9
    simp only [aA, cA]
    by_cases z : A0 r9 j9
    · simp [z]
    · by_cases ji : j9 = i
      · subst ji; simp only [z, and_true, false_or]; omega
      · simp [z, ji]
  have hPf : ∀ r9 j9 k9, (cP P0 3 37 43 i) r9 j9 k9 → (aP (aP (aP (aP (aP (aP (aP (aP (aP (aP (aP (aP (aP (aP (aP (aP (aP (aP (aP (aP (aP P0 3 i (fun k9 => k9 = 0)) 37 i (fun k9 => gI σ0 37 i k9 = 0)) 3 i (fun k9 => k9 = 1)) 38 i (fun k9 => gI σ0 38 i k9 = 0)) 3 i (fun k9 => k9 = 2)) 3 i (fun k9 => k9 = 3)) 39 i (fun k9 => gI σ0 39 i k9 = 0)) 3 i (fun k9 => k9 = 4)) 3 i (fun k9 => k9 = 5)) 40 i (fun k9 => gI σ0 40 i k9 = 0)) 3 i (fun k9 => k9 = 6)) 3 i (fun k9 => k9 = 7)) 41 i (fun k9 => gI σ0 41 i k9 = 0)) 3 i (fun k9 => k9 = 8)) 3 i (fun k9 => k9 = 9)) 3 i (fun k9 => k9 = 10)) 3 i (fun k9 => k9 = 11)) 42 i (fun k9 => gI σ0 42 i k9 = 0)) 3 i (fun k9 => k9 = 12)) 43 i (fun k9 => gI σ0 43 i k9 = 0)) 3 i (fun k9 => k9 = 13)) r9 j9 k9 := by
    intro r9 j9 k9 w
    rcases w with w | ⟨c9, e9, hk⟩
    · simp [aP, w]
    · subst e9
      rcases c9 with rfl | c9
      · have hk : k9 < 14 := hk
        rcases (show k9 = 0 ∨ k9 = 1 ∨ k9 = 2 ∨ k9 = 3 ∨ k9 = 4 ∨ k9 = 5 ∨ k9 = 6 ∨ k9 = 7 ∨ k9 = 8 ∨ k9 = 9 ∨ k9 = 10 ∨ k9 = 11 ∨ k9 = 12 ∨ k9 = 13 by omega) with rfl | rfl | rfl | rfl | rfl | rfl | rfl | rfl | rfl | rfl | rfl | rfl | rfl | rfl
        · simp [aP]
        · simp [aP]
        · simp [aP]
        · simp [aP]
        · simp [aP]
        · simp [aP]
        · simp [aP]
        · simp [aP]
        · simp [aP]
        · simp [aP]
        · simp [aP]
        · simp [aP]
        · simp [aP]
        · simp [aP]
      · rcases (show r9 = 37 ∨ r9 = 38 ∨ r9 = 39 ∨ r9 = 40 ∨ r9 = 41 ∨ r9 = 42 ∨ r9 = 43 by omega) with rfl | rfl | rfl | rfl | rfl | rfl | rfl
        · exact by simp [aP, show gI σ0 37 j9 k9 = 0 from rfl]
        · exact by simp [aP, show gI σ0 38 j9 k9 = 0 from rfl]
        · exact by simp [aP, show gI σ0 39 j9 k9 = 0 from rfl]
        · exact by simp [aP, show gI σ0 40 j9 k9 = 0 from rfl]
        · exact by simp [aP, show gI σ0 41 j9 k9 = 0 from rfl]
        · exact by simp [aP, show gI σ0 42 j9 k9 = 0 from rfl]
        · exact by simp [aP, show gI σ0 43 j9 k9 = 0 from rfl]
  exact e_vretI hAG C hr (h.to hAf hPf) hS (Nat.le_of_ble_eq_true rfl) (Nat.le_of_ble_eq_true rfl) dX3_init_94
set_option maxHeartbeats 4000000 in
set_option maxRecDepth 100000 in
theorem vX5_init {l : Launch} {E : EV} {A0 : Nat → Nat → Prop} {P0 : Nat → Nat → Nat → Prop} {a0 : Nat → Nat → Nat} (hA0 : A0 5 0) (hN : ∀ r, 45 ≤ r → r ≤ 45 → ¬ A0 r 0) : CtI l E yX5_init cX5_init 1 1 20 1 400 A0 P0 a0 [.ref (a0 5 0)] (cA A0 45 45 0) (cP P0 5 45 45 0) := by
  refine CtI.start (by decide) (Nat.le_of_ble_eq_true rfl) rfl ?_
  have hA1 : True := trivial
  intro p e s m args below meth c ls C hin hr h hS hl
  have C : CI E p s m args meth c cX5_init 1 RX5 := C
  obtain ⟨a, hAG, h, hl⟩ : ∃ a : Nat → Nat → Nat, AGP A0 a0 a ∧ RWm E A0 P0 a s.heap ∧ lv_has ls 1 [(0, .ref (a 5 0))] := ⟨a0, AGP.rf, h, hl⟩
  have hx := C.1.1
  have hb := C.1.2.1
  refine lv_aload_n hx hb dX5_init_0 rfl (lv_at hl 0 rfl) ?_
  refine w_obji C mo_X5 hl.1 (Nat.le_of_ble_eq_true rfl) (Nat.le_of_ble_eq_true rfl) dX5_init_1 ?_
  refine lv_aload_n hx hb dX5_init_4 rfl (lv_at hl 0 rfl) ?_
  refine lv_sipush (v := 400) hx hb dX5_init_5 (by decide) ?_
  refine w_newI (N := 400) C h hS 45 0 (by simp [aA, cA, mA, cA2, cA7, fA, hN]) (by decide) rfl rfl (by decide) rfl (by decide) (by decide) (Nat.le_of_ble_eq_true rfl) (Nat.le_of_ble_eq_true rfl) dX5_init_8 (fun a H hag h hS => ?_)
  have hAG := hAG.tr hag (fun r9 i9 z => by simp [aA, cA, mA, cA2, cA7, fA, z])
  have hl : lv_has ls 1 [(0, .ref (a 5 0))] := by rw [hag 5 0 (by simp [aA, cA, mA, cA2, cA7, fA, hA0, hA1])]; exact hl
  rw [← hag 5 0 (by simp [aA, cA, mA, cA2, cA7, fA, hA0, hA1])]
  refine w_put (v := .ref (a 45 0)) (ty := tyf 5 0) C hin h hS 5 0 0 (by simp [aA, cA, mA, cA2, cA7, fA, hA0, hA1]) (by decide) (by decide) rfl (fun t9 j9 q9 => by cases (show some (45, 0) = some (t9, j9) from q9); simp [aA, cA, mA, cA2, cA7, fA, hA0, hA1]) fl_X5_9 rfl (ty_all 5 (by decide) 0 (by decide)) rfl rfl dX5_init_10 (fun H locs h hS => ?_)
  refine lv_aload_n hx hb dX5_init_13 rfl (lv_at hl 0 rfl) ?_
  refine lv_iconst (v := 0) hx hb dX5_init_14 (by decide) ?_
  refine w_put (v := .int 0) (ty := tyf 5 1) C hin h hS 5 0 1 (by simp [aA, cA, mA, cA2, cA7, fA, hA0, hA1]) (by decide) (by decide) rfl (fun t9 j9 q9 => by cases (show (none : Option (Nat × Nat)) = some (t9, j9) from q9)) fl_X5_15 rfl (ty_all 5 (by decide) 1 (by decide)) rfl rfl dX5_init_15 (fun H locs h hS => ?_)
  refine lv_aload_n hx hb dX5_init_18 rfl (lv_at hl 0 rfl) ?_
  refine lv_iconst (v := 0) hx hb dX5_init_19 (by decide) ?_
  refine w_put (v := .int 0) (ty := tyf 5 2) C hin h hS 5 0 2 (by simp [aA, cA, mA, cA2, cA7, fA, hA0, hA1]) (by decide) (by decide) rfl (fun t9 j9 q9 => by cases (show (none : Option (Nat × Nat)) = some (t9, j9) from q9)) fl_X5_19 rfl (ty_all 5 (by decide) 2 (by decide)) rfl rfl dX5_init_20 (fun H locs h hS => ?_)
  refine lv_aload_n hx hb dX5_init_23 rfl (lv_at hl 0 rfl) ?_
  refine lv_iconst (v := 0) hx hb dX5_init_24 (by decide) ?_
  refine w_put (v := .int 0) (ty := tyf 5 3) C hin h hS 5 0 3 (by simp [aA, cA, mA, cA2, cA7, fA, hA0, hA1]) (by decide) (by decide) rfl (fun t9 j9 q9 => by cases (show (none : Option (Nat × Nat)) = some (t9, j9) from q9)) fl_X5_22 rfl (ty_all 5 (by decide) 3 (by decide)) rfl rfl dX5_init_25 (fun H locs h hS => ?_)
  refine lv_aload_n hx hb dX5_init_28 rfl (lv_at hl 0 rfl) ?_
  refine lv_iconst (v := 0) hx hb dX5_init_29 (by decide) ?_
  refine w_put (v := .int 0) (ty := tyf 5 4) C hin h hS 5 0 4 (by simp [aA, cA, mA, cA2, cA7, fA, hA0, hA1]) (by decide) (by decide) rfl (fun t9 j9 q9 => by cases (show (none : Option (Nat × Nat)) = some (t9, j9) from q9)) fl_X5_25 rfl (ty_all 5 (by decide) 4 (by decide)) rfl rfl dX5_init_30 (fun H locs h hS => ?_)
  refine lv_aload_n hx hb dX5_init_33 rfl (lv_at hl 0 rfl) ?_
  refine lv_iconst (v := 0) hx hb dX5_init_34 (by decide) ?_
  refine w_put (v := .int 0) (ty := tyf 5 5) C hin h hS 5 0 5 (by simp [aA, cA, mA, cA2, cA7, fA, hA0, hA1]) (by decide) (by decide) rfl (fun t9 j9 q9 => by cases (show (none : Option (Nat × Nat)) = some (t9, j9) from q9)) fl_X5_28 rfl (ty_all 5 (by decide) 5 (by decide)) rfl rfl dX5_init_35 (fun H locs h hS => ?_)
  refine lv_aload_n hx hb dX5_init_38 rfl (lv_at hl 0 rfl) ?_
  refine lv_iconst (v := (-1)) hx hb dX5_init_39 (by decide) ?_
  refine w_put (v := .int (-1)) (ty := tyf 5 6) C hin h hS 5 0 6 (by simp [aA, cA, mA, cA2, cA7, fA, hA0, hA1]) (by decide) (by decide) rfl (fun t9 j9 q9 => by cases (show (none : Option (Nat × Nat)) = some (t9, j9) from q9)) fl_X5_31 rfl (ty_all 5 (by decide) 6 (by decide)) rfl rfl dX5_init_40 (fun H locs h hS => ?_)
  have hAf : ∀ r9 j9, (cA A0 45 45 0) r9 j9 ↔ (aA A0 45 0) r9 j9 := by
    intro r9 j9
    simp only [aA, cA]
    by_cases z : A0 r9 j9
    · simp [z]
    · by_cases ji : j9 = 0
      · subst ji; simp only [z, and_true, false_or]; omega
      · simp [z, ji]
  have hPf : ∀ r9 j9 k9, (cP P0 5 45 45 0) r9 j9 k9 → (aP (aP (aP (aP (aP (aP (aP (aP P0 45 0 (fun k9 => gI σ0 45 0 k9 = 0)) 5 0 (fun k9 => k9 = 0)) 5 0 (fun k9 => k9 = 1)) 5 0 (fun k9 => k9 = 2)) 5 0 (fun k9 => k9 = 3)) 5 0 (fun k9 => k9 = 4)) 5 0 (fun k9 => k9 = 5)) 5 0 (fun k9 => k9 = 6)) r9 j9 k9 := by
    intro r9 j9 k9 w
    rcases w with w | ⟨c9, e9, hk⟩
    · simp [aP, w]
    · subst e9
      rcases c9 with rfl | c9
      · have hk : k9 < 7 := hk
        rcases (show k9 = 0 ∨ k9 = 1 ∨ k9 = 2 ∨ k9 = 3 ∨ k9 = 4 ∨ k9 = 5 ∨ k9 = 6 by omega) with rfl | rfl | rfl | rfl | rfl | rfl | rfl
        · simp [aP]
        · simp [aP]
        · simp [aP]
        · simp [aP]
        · simp [aP]
        · simp [aP]
        · simp [aP]
      · rcases (show r9 = 45 by omega) with rfl
        · exact by simp [aP, show gI σ0 45 0 k9 = 0 from rfl]
  exact e_vretI hAG C hr (h.to hAf hPf) hS (Nat.le_of_ble_eq_true rfl) (Nat.le_of_ble_eq_true rfl) dX5_init_43
set_option maxHeartbeats 4000000 in
set_option maxRecDepth 100000 in
theorem vX6_init {l : Launch} {E : EV} {A0 : Nat → Nat → Prop} {P0 : Nat → Nat → Nat → Prop} {a0 : Nat → Nat → Nat} {i : Nat} (hA0 : A0 6 i) (hN : ∀ r, 1 ≤ r → r ≤ 0 → ¬ A0 r i) : CtI l E yX6_init cX6_init 1 1 20 0 0 A0 P0 a0 [.ref (a0 6 i)] (cA A0 1 0 i) (cP P0 6 1 0 i) := by
  refine CtI.start (by decide) (Nat.le_of_ble_eq_true rfl) rfl ?_
  have hA1 : True := trivial
  intro p e s m args below meth c ls C hin hr h hS hl
  have C : CI E p s m args meth c cX6_init 1 RX6 := C
  obtain ⟨a, hAG, h, hl⟩ : ∃ a : Nat → Nat → Nat, AGP A0 a0 a ∧ RWm E A0 P0 a s.heap ∧ lv_has ls 1 [(0, .ref (a 6 i))] := ⟨a0, AGP.rf, h, hl⟩
  have hx := C.1.1
  have hb := C.1.2.1
  refine lv_aload_n hx hb dX6_init_0 rfl (lv_at hl 0 rfl) ?_
  refine w_obji C mo_X6 hl.1 (Nat.le_of_ble_eq_true rfl) (Nat.le_of_ble_eq_true rfl) dX6_init_1 ?_
  refine lv_aload_n hx hb dX6_init_4 rfl (lv_at hl 0 rfl) ?_
  refine lv_iconst (v := 0) hx hb dX6_init_5 (by decide) ?_
  refine w_put (v := .int 0) (ty := tyf 6 0) C hin h hS 6 i 0 (by simp [aA, cA, mA, cA2, cA7, fA, hA0, hA1]) (by decide) (by decide) rfl (fun t9 j9 q9 => by cases (show (none : Option (Nat × Nat)) = some (t9, j9) from q9)) fl_X6_9 rfl (ty_all 6 (by decide) 0 (by decide)) rfl rfl dX6_init_6 (fun H locs h hS => ?_)
  refine lv_aload_n hx hb dX6_init_9 rfl (lv_at hl 0 rfl) ?_
  refine lv_iconst (v := 0) hx hb dX6_init_10 (by decide) ?_
  refine w_put (v := .int 0) (ty := tyf 6 1) C hin h hS 6 i 1 (by simp [aA, cA, mA, cA2, cA7, fA, hA0, hA1]) (by decide) (by decide) rfl (fun t9 j9 q9 => by cases (show (none : Option (Nat × Nat)) = some (t9, j9) from q9)) fl_X6_15 rfl (ty_all 6 (by decide) 1 (by decide)) rfl rfl dX6_init_11 (fun H locs h hS => ?_)
  refine lv_aload_n hx hb dX6_init_14 rfl (lv_at hl 0 rfl) ?_
  refine lv_iconst (v := (-1)) hx hb dX6_init_15 (by decide) ?_
  refine w_put (v := .int (-1)) (ty := tyf 6 2) C hin h hS 6 i 2 (by simp [aA, cA, mA, cA2, cA7, fA, hA0, hA1]) (by decide) (by decide) rfl (fun t9 j9 q9 => by cases (show (none : Option (Nat × Nat)) = some (t9, j9) from q9)) fl_X6_18 rfl (ty_all 6 (by decide) 2 (by decide)) rfl rfl dX6_init_16 (fun H locs h hS => ?_)
  refine lv_aload_n hx hb dX6_init_19 rfl (lv_at hl 0 rfl) ?_
  refine lv_iconst (v := 4) hx hb dX6_init_20 (by decide) ?_
  refine w_put (v := .int 4) (ty := tyf 6 3) C hin h hS 6 i 3 (by simp [aA, cA, mA, cA2, cA7, fA, hA0, hA1]) (by decide) (by decide) rfl (fun t9 j9 q9 => by cases (show (none : Option (Nat × Nat)) = some (t9, j9) from q9)) fl_X6_21 rfl (ty_all 6 (by decide) 3 (by decide)) rfl rfl dX6_init_21 (fun H locs h hS => ?_)
  refine lv_aload_n hx hb dX6_init_24 rfl (lv_at hl 0 rfl) ?_
  refine lv_iconst (v := 0) hx hb dX6_init_25 (by decide) ?_
  refine w_put (v := .int 0) (ty := tyf 6 4) C hin h hS 6 i 4 (by simp [aA, cA, mA, cA2, cA7, fA, hA0, hA1]) (by decide) (by decide) rfl (fun t9 j9 q9 => by cases (show (none : Option (Nat × Nat)) = some (t9, j9) from q9)) fl_X6_24 rfl (ty_all 6 (by decide) 4 (by decide)) rfl rfl dX6_init_26 (fun H locs h hS => ?_)
  have hAf : ∀ r9 j9, (cA A0 1 0 i) r9 j9 ↔ A0 r9 j9 := by
    intro r9 j9
    simp only [cA]
    exact ⟨fun z => z.elim id (fun z => by omega), Or.inl⟩
  have hPf : ∀ r9 j9 k9, (cP P0 6 1 0 i) r9 j9 k9 → (aP (aP (aP (aP (aP P0 6 i (fun k9 => k9 = 0)) 6 i (fun k9 => k9 = 1)) 6 i (fun k9 => k9 = 2)) 6 i (fun k9 => k9 = 3)) 6 i (fun k9 => k9 = 4)) r9 j9 k9 := by
    intro r9 j9 k9 w
    rcases w with w | ⟨c9, e9, hk⟩
    · simp [aP, w]
    · subst e9
      rcases c9 with rfl | c9
      · have hk : k9 < 5 := hk
        rcases (show k9 = 0 ∨ k9 = 1 ∨ k9 = 2 ∨ k9 = 3 ∨ k9 = 4 by omega) with rfl | rfl | rfl | rfl | rfl
        · simp [aP]
        · simp [aP]
        · simp [aP]
        · simp [aP]
        · simp [aP]
      · omega
  exact e_vretI hAG C hr (h.to hAf hPf) hS (Nat.le_of_ble_eq_true rfl) (Nat.le_of_ble_eq_true rfl) dX6_init_29
set_option maxHeartbeats 4000000 in
set_option maxRecDepth 100000 in
theorem vX4_init {l : Launch} {E : EV} {A0 : Nat → Nat → Prop} {P0 : Nat → Nat → Nat → Prop} {a0 : Nat → Nat → Nat} (hA0 : A0 4 0) (hA1 : A0 7 0) (hN : ∀ r, 44 ≤ r → r ≤ 44 → ¬ A0 r 0) : CtI l E yX4_init cX4_init 2 1 20 1 64 A0 P0 a0 [.ref (a0 4 0), .ref (a0 7 0)] (cA A0 44 44 0) (cP P0 4 44 44 0) := by
  refine CtI.start (by decide) (Nat.le_of_ble_eq_true rfl) rfl ?_
  intro p e s m args below meth c ls C hin hr h hS hl
  have C : CI E p s m args meth c cX4_init 2 RX4 := C
  obtain ⟨a, hAG, h, hl⟩ : ∃ a : Nat → Nat → Nat, AGP A0 a0 a ∧ RWm E A0 P0 a s.heap ∧ lv_has ls 2 [(0, .ref (a 4 0)), (1, .ref (a 7 0))] := ⟨a0, AGP.rf, h, hl⟩
  have hx := C.1.1
  have hb := C.1.2.1
  refine lv_aload_n hx hb dX4_init_0 rfl (lv_at hl 0 rfl) ?_
  refine w_obji C mo_X4 hl.1 (Nat.le_of_ble_eq_true rfl) (Nat.le_of_ble_eq_true rfl) dX4_init_1 ?_
  refine lv_aload_n hx hb dX4_init_4 rfl (lv_at hl 0 rfl) ?_
  refine lv_bipush (v := 64) hx hb dX4_init_5 (by decide) ?_
  refine w_newI (N := 64) C h hS 44 0 (by simp [aA, cA, mA, cA2, cA7, fA, hN]) (by decide) rfl rfl (by decide) rfl (by decide) (by decide) (Nat.le_of_ble_eq_true rfl) (Nat.le_of_ble_eq_true rfl) dX4_init_7 (fun a H hag h hS => ?_)
  have hAG := hAG.tr hag (fun r9 i9 z => by simp [aA, cA, mA, cA2, cA7, fA, z])
  have hl : lv_has ls 2 [(0, .ref (a 4 0)), (1, .ref (a 7 0))] := by rw [hag 4 0 (by simp [aA, cA, mA, cA2, cA7, fA, hA0, hA1])]; rw [hag 7 0 (by simp [aA, cA, mA, cA2, cA7, fA, hA0, hA1])]; exact hl
  rw [← hag 4 0 (by simp [aA, cA, mA, cA2, cA7, fA, hA0, hA1])]
  refine w_put (v := .ref (a 44 0)) (ty := tyf 4 1) C hin h hS 4 0 1 (by simp [aA, cA, mA, cA2, cA7, fA, hA0, hA1]) (by decide) (by decide) rfl (fun t9 j9 q9 => by cases (show some (44, 0) = some (t9, j9) from q9); simp [aA, cA, mA, cA2, cA7, fA, hA0, hA1]) fl_X4_11 rfl (ty_all 4 (by decide) 1 (by decide)) rfl rfl dX4_init_9 (fun H locs h hS => ?_)
  refine lv_aload_n hx hb dX4_init_12 rfl (lv_at hl 0 rfl) ?_
  refine lv_iconst (v := 0) hx hb dX4_init_13 (by decide) ?_
  refine w_put (v := .int 0) (ty := tyf 4 2) C hin h hS 4 0 2 (by simp [aA, cA, mA, cA2, cA7, fA, hA0, hA1]) (by decide) (by decide) rfl (fun t9 j9 q9 => by cases (show (none : Option (Nat × Nat)) = some (t9, j9) from q9)) fl_X4_15 rfl (ty_all 4 (by decide) 2 (by decide)) rfl rfl dX4_init_14 (fun H locs h hS => ?_)
  refine lv_aload_n hx hb dX4_init_17 rfl (lv_at hl 0 rfl) ?_
  refine lv_iconst (v := (-1)) hx hb dX4_init_18 (by decide) ?_
  refine w_put (v := .int (-1)) (ty := tyf 4 3) C hin h hS 4 0 3 (by simp [aA, cA, mA, cA2, cA7, fA, hA0, hA1]) (by decide) (by decide) rfl (fun t9 j9 q9 => by cases (show (none : Option (Nat × Nat)) = some (t9, j9) from q9)) fl_X4_19 rfl (ty_all 4 (by decide) 3 (by decide)) rfl rfl dX4_init_19 (fun H locs h hS => ?_)
  refine lv_aload_n hx hb dX4_init_22 rfl (lv_at hl 0 rfl) ?_
  refine lv_iconst (v := 0) hx hb dX4_init_23 (by decide) ?_
  refine w_put (v := .int 0) (ty := tyf 4 4) C hin h hS 4 0 4 (by simp [aA, cA, mA, cA2, cA7, fA, hA0, hA1]) (by decide) (by decide) rfl (fun t9 j9 q9 => by cases (show (none : Option (Nat × Nat)) = some (t9, j9) from q9)) fl_X4_22 rfl (ty_all 4 (by decide) 4 (by decide)) rfl rfl dX4_init_24 (fun H locs h hS => ?_)
  refine lv_aload_n hx hb dX4_init_27 rfl (lv_at hl 0 rfl) ?_
  refine lv_iconst (v := 0) hx hb dX4_init_28 (by decide) ?_
  refine w_put (v := .int 0) (ty := tyf 4 5) C hin h hS 4 0 5 (by simp [aA, cA, mA, cA2, cA7, fA, hA0, hA1]) (by decide) (by decide) rfl (fun t9 j9 q9 => by cases (show (none : Option (Nat × Nat)) = some (t9, j9) from q9)) fl_X4_25 rfl (ty_all 4 (by decide) 5 (by decide)) rfl rfl dX4_init_29 (fun H locs h hS => ?_)
  refine lv_aload_n hx hb dX4_init_32 rfl (lv_at hl 0 rfl) ?_
  refine lv_aload_n hx hb dX4_init_33 rfl (lv_at hl 1 rfl) ?_
  refine w_put (v := .ref (a 7 0)) (ty := tyf 4 0) C hin h hS 4 0 0 (by simp [aA, cA, mA, cA2, cA7, fA, hA0, hA1]) (by decide) (by decide) rfl (fun t9 j9 q9 => by cases (show some (7, 0) = some (t9, j9) from q9); simp [aA, cA, mA, cA2, cA7, fA, hA0, hA1]) fl_X4_29 rfl (ty_all 4 (by decide) 0 (by decide)) rfl rfl dX4_init_34 (fun H locs h hS => ?_)
  have hAf : ∀ r9 j9, (cA A0 44 44 0) r9 j9 ↔ (aA A0 44 0) r9 j9 := by
    intro r9 j9
    simp only [aA, cA]
    by_cases z : A0 r9 j9
    · simp [z]
    · by_cases ji : j9 = 0
      · subst ji; simp only [z, and_true, false_or]; omega
      · simp [z, ji]
  have hPf : ∀ r9 j9 k9, (cP P0 4 44 44 0) r9 j9 k9 → (aP (aP (aP (aP (aP (aP (aP P0 44 0 (fun k9 => gI σ0 44 0 k9 = 0)) 4 0 (fun k9 => k9 = 1)) 4 0 (fun k9 => k9 = 2)) 4 0 (fun k9 => k9 = 3)) 4 0 (fun k9 => k9 = 4)) 4 0 (fun k9 => k9 = 5)) 4 0 (fun k9 => k9 = 0)) r9 j9 k9 := by
    intro r9 j9 k9 w
    rcases w with w | ⟨c9, e9, hk⟩
    · simp [aP, w]
    · subst e9
      rcases c9 with rfl | c9
      · have hk : k9 < 6 := hk
        rcases (show k9 = 0 ∨ k9 = 1 ∨ k9 = 2 ∨ k9 = 3 ∨ k9 = 4 ∨ k9 = 5 by omega) with rfl | rfl | rfl | rfl | rfl | rfl
        · simp [aP]
        · simp [aP]
        · simp [aP]
        · simp [aP]
        · simp [aP]
        · simp [aP]
      · rcases (show r9 = 44 by omega) with rfl
        · exact by simp [aP, show gI σ0 44 0 k9 = 0 from rfl]
  exact e_vretI hAG C hr (h.to hAf hPf) hS (Nat.le_of_ble_eq_true rfl) (Nat.le_of_ble_eq_true rfl) dX4_init_37
