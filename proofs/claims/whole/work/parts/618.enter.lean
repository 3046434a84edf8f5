/-! ===== the law's entry, walked ===== -/
theorem iz_8 : Cond.initialized (RRf 8) ∈ GW := gw_t 1 (by decide +kernel) (by decide +kernel)
theorem mi_8 : MIm yX8_init cX8_init 2 0 := ⟨⟨by decide +kernel, by decide +kernel, by decide +kernel⟩, rfl, gw_t 26 (by decide +kernel) (by decide +kernel), gw_t 1 (by decide +kernel) (by decide +kernel), gw_t 27 (by decide +kernel) (by decide +kernel)⟩
theorem iz_9 : Cond.initialized (RRf 9) ∈ GW := gw_t 10 (by decide +kernel) (by decide +kernel)
theorem mi_9 : MIm yX9_init cX9_init 1 0 := ⟨⟨by decide +kernel, by decide +kernel, by decide +kernel⟩, rfl, gw_t 1332 (by decide +kernel) (by decide +kernel), gw_t 10 (by decide +kernel) (by decide +kernel), gw_t 1333 (by decide +kernel) (by decide +kernel)⟩
theorem cl_L_8 : Cond.classLink RL 8 (RRf 8) ∈ GW := gw_t 23 (by decide +kernel) (by decide +kernel)
theorem cl_L_136 : Cond.classLink RL 136 (RRf 9) ∈ GW := gw_t 1329 (by decide +kernel) (by decide +kernel)
theorem ml_L_135 : Cond.methodLink RL 135 yX8_init ∈ GW := gw_t 25 (by decide +kernel) (by decide +kernel)
theorem ml_L_138 : Cond.methodLink RL 138 yX9_init ∈ GW := gw_t 1331 (by decide +kernel) (by decide +kernel)
theorem ent_n9 : ¬ aA8 (aA (fun _ _ => False) 8 0) 9 0 := by
  intro z
  first
    | (simp only [aA8, aA, cA, cA2, cA7, fA, false_or] at z; omega)
    | simp [aA8, aA, cA, cA2, cA7, fA] at z
theorem ent_n60 : ∀ r i, 60 ≤ r → r ≤ 87 → ¬ aA (aA8 (aA (fun _ _ => False) 8 0)) 9 0 r i := by
  intro r i h1 h2 z
  simp only [aA8, aA, cA, cA2, cA7, fA, false_or] at z
  omega
theorem ent_n90 : ∀ r i, 88 ≤ r → ¬ cA9 (aA (aA8 (aA (fun _ _ => False) 8 0)) 9 0) r i := by
  intro r i h1 z
  simp only [aA8, aA, cA, cA2, cA7, fA, cA9, false_or] at z
  omega
theorem ent_m8 : aA8 (aA (fun _ _ => False) 8 0) 8 0 := by
  simp [aA8, aA, cA, cA2, cA7, fA]
set_option maxHeartbeats 4000000 in
theorem law_enter {p : Program} {l : Launch} {e : Env} {s : State} {m : MethodId} {below : List Frame} {meth : Method} {c : Code} {E : EV} {b L : Nat} {xs : Nat → Int32} {Q : State → Prop} {ls : Array Slot} (X : LXm E p l s m meth c b L xs) (hNL : NL s) (hL : L ≤ 3584) (kx : ∀ (cells slots : Nat) (a : Nat → Nat → Nat) (u : HS) (H : Heap) (locs : List Loc) (ls : Array Slot), cells ≤ room_1.cells → slots ≤ room_1.slots → Rel E a u H → va_S (AE E) s.heap H locs → W p l e room_1 s m #[.ref b] below meth c H locs cells slots Q (F0 m 3233 ls [])) (hl : lv_has ls 8 [(0, .ref b)]) : W p l e room_1 s m #[.ref b] below meth c s.heap [] 0 0 Q (F0 m 0 ls []) := by
  have C : CI E p s m #[.ref b] meth c cL_law_ 8 RL := ⟨X.1, hNL⟩
  have hx := C.1.1
  have hb := C.1.2.1
  have hS : va_S (AE E) s.heap s.heap [] := va_S.rf
  have h : RWm E (fun _ _ => False) (fun _ _ _ => False) (fun _ _ => 0) s.heap := ⟨fun _ _ z => z.elim, fun _ _ _ _ z => z.elim, fun _ _ z => z.elim, fun _ _ _ z => z.elim⟩
  refine w_new (N := 15) C h hS 8 0 (fun z => z) (by decide) cl_L_8 (in_all 8 (by decide)) iz_8 rfl (Nat.le_of_ble_eq_true rfl) (Nat.le_of_ble_eq_true rfl) dL_law__0 (fun a H hag h hS => ?_)
  refine lv_dup hx hb dL_law__3 rfl ?_
  refine w_init (As := []) (rest := [.ref (a 8 0)]) C (vX8_init (by exact Or.inr ⟨rfl, rfl⟩) (fun r i q1 q2 q3 z => by
    rcases z with z | ⟨z, -⟩
    · exact z
    · exact q2 z)) h hS ml_L_135 mi_8 rfl ⟨(Nat.le_of_ble_eq_true rfl), (Nat.le_of_ble_eq_true rfl), (Nat.le_of_ble_eq_true rfl), (Nat.le_of_ble_eq_true rfl)⟩ hl.1 rfl (Nat.le_of_ble_eq_true rfl) dL_law__4 (fun a1 H locs hag h hS => ?_)
  rw [← hag 8 0 (Or.inr ⟨rfl, rfl⟩)]
  refine lv_astore_n (lv' := [(1, .ref (a1 8 0)), (0, .ref b)]) hx hb dL_law__7 rfl hl (by decide) rfl (fun ls hl => ?_)
  refine w_new (N := 43) C h hS 9 0 ent_n9 (by decide) cl_L_136 (in_all 9 (by decide)) iz_9 rfl (Nat.le_of_ble_eq_true rfl) (Nat.le_of_ble_eq_true rfl) dL_law__8 (fun a2 H hag2 h hS => ?_)
  have hl : lv_has ls 8 [(1, .ref (a2 8 0)), (0, .ref b)] := by rw [hag2 8 0 ent_m8]; exact hl
  refine lv_dup hx hb dL_law__11 rfl ?_
  refine w_init (As := []) (rest := [.ref (a2 9 0)]) C (vX9_init (by exact Or.inr ⟨rfl, rfl⟩) (by exact ent_n60) (by exact fun k q1 q2 q3 => Or.inr ⟨rfl, rfl, q1, q2, q3⟩)) h hS ml_L_138 mi_9 rfl ⟨(Nat.le_of_ble_eq_true rfl), (Nat.le_of_ble_eq_true rfl), (Nat.le_of_ble_eq_true rfl), (Nat.le_of_ble_eq_true rfl)⟩ hl.1 rfl (Nat.le_of_ble_eq_true rfl) dL_law__12 (fun a3 H locs hag3 h hS => ?_)
  have hl : lv_has ls 8 [(1, .ref (a3 8 0)), (0, .ref b)] := by rw [hag3 8 0 (Or.inl ent_m8)]; exact hl
  rw [← hag3 9 0 (Or.inr ⟨rfl, rfl⟩)]
  refine lv_astore_n (lv' := [(2, .ref (a3 9 0)), (1, .ref (a3 8 0)), (0, .ref b)]) hx hb dL_law__15 rfl hl (by decide) rfl (fun ls hl => ?_)
  refine lv_iconst (v := 1) hx hb dL_law__16 (by decide) ?_
  refine w_newO C h hS (ent_n90 90 0 (by decide)) (fun i => ent_n90 92 i (by decide)) (fun i k z => ent_n90 90 i (by decide) (h.2.2.2 _ _ _ z).1) (Nat.le_of_ble_eq_true rfl) (Nat.le_of_ble_eq_true rfl) dL_law__17 (fun a4 H hag4 h hS => ?_)
  have hl : lv_has ls 8 [(2, .ref (a4 9 0)), (1, .ref (a4 8 0)), (0, .ref b)] := by rw [hag4 8 0 (Or.inl (Or.inl ent_m8)), hag4 9 0 (Or.inl (Or.inr ⟨rfl, rfl⟩))]; exact hl
  refine lv_astore_n (lv' := [(3, .ref (a4 90 0)), (2, .ref (a4 9 0)), (1, .ref (a4 8 0)), (0, .ref b)]) hx hb dL_law__19 rfl hl (by decide) rfl (fun ls hl => ?_)
  refine lv_iconst (v := 0) hx hb dL_law__20 (by decide) ?_
  refine lv_istore (lv' := [(4, .int 0), (3, .ref (a4 90 0)), (2, .ref (a4 9 0)), (1, .ref (a4 8 0)), (0, .ref b)]) hx hb dL_law__21 hl (by decide) rfl (fun ls hl => ?_)
  have hR : Rel E a4 σ0 H := init_rel h
  exact law_loop X hL kx 513 0 rfl _ _ (by show _ ≤ (601024 : Nat); omega) (by show _ ≤ (7293034 : Nat); omega) a4 σ0 H locs ls 0 (by decide) IV_σ0 hR hS (lv_sub hl [0, 4, 3, 2, 1] rfl)
