/-- a literal's length, its char at k -/
theorem st_len : ∀ i, i < 18 → (Int32.ofNat (lenC.getD i 0)) >>> ((0 : Int32) &&& 31) = slen i := by decide +kernel
theorem st_ch : ∀ i, i < 18 → ∀ k, k < lenC.getD i 0 → ((((bytC.getD i []).getD k 0) &&& 255).toUInt32 % 65536).toInt32 = (bytC.getD i []).getD k 0 ∧ narrow .char (.int ((bytC.getD i []).getD k 0)) = .int ((bytC.getD i []).getD k 0) := by decide +kernel
theorem st_lt : ∀ i, i < 18 → lenC.getD i 0 < 2 ^ 31 := by decide +kernel
theorem mw_J0_length : MW yJ0_length_8abf5 "java/lang/String" cJ0_length_8abf5 1 (some .int) 0 := ⟨⟨rfl, by decide +kernel, by decide +kernel, by decide +kernel⟩, gw_t 706 (by decide +kernel) (by decide +kernel), gw_t 707 (by decide +kernel) (by decide +kernel), gw_t 15 (by decide +kernel) (by decide +kernel), gw_t 708 (by decide +kernel) (by decide +kernel)⟩
theorem mw_J0_charAt : MW yJ0_charAt_5068e "java/lang/String" cJ0_charAt_5068e 2 (some .char) 1 := ⟨⟨rfl, by decide +kernel, by decide +kernel, by decide +kernel⟩, gw_t 716 (by decide +kernel) (by decide +kernel), gw_t 717 (by decide +kernel) (by decide +kernel), gw_t 15 (by decide +kernel) (by decide +kernel), gw_t 718 (by decide +kernel) (by decide +kernel)⟩
theorem mw_J0_coder : MW yJ0_coder_7d493 "java/lang/String" cJ0_coder_7d493 1 (some .byte) 0 := ⟨⟨rfl, by decide +kernel, by decide +kernel, by decide +kernel⟩, gw_t 710 (by decide +kernel) (by decide +kernel), gw_t 711 (by decide +kernel) (by decide +kernel), gw_t 15 (by decide +kernel) (by decide +kernel), gw_t 712 (by decide +kernel) (by decide +kernel)⟩
theorem mw_J0_isLatin1 : MW yJ0_isLatin1_aae02 "java/lang/String" cJ0_isLatin1_aae02 1 (some .boolean) 0 := ⟨⟨rfl, by decide +kernel, by decide +kernel, by decide +kernel⟩, gw_t 720 (by decide +kernel) (by decide +kernel), gw_t 721 (by decide +kernel) (by decide +kernel), gw_t 15 (by decide +kernel) (by decide +kernel), gw_t 722 (by decide +kernel) (by decide +kernel)⟩
theorem ms_J0_checkIndex : MS yJ0_checkIndex_df160 cJ0_checkIndex_df160 2 none 2 := ⟨⟨by decide +kernel, by decide +kernel, by decide +kernel⟩, gw_t 727 (by decide +kernel) (by decide +kernel), gw_t 15 (by decide +kernel) (by decide +kernel), gw_t 728 (by decide +kernel) (by decide +kernel)⟩
theorem ms_J1_charAt : MS yJ1_charAt_3b067 cJ1_charAt_3b067 2 (some .char) 2 := ⟨⟨by decide +kernel, by decide +kernel, by decide +kernel⟩, gw_t 724 (by decide +kernel) (by decide +kernel), gw_t 16 (by decide +kernel) (by decide +kernel), gw_t 725 (by decide +kernel) (by decide +kernel)⟩
theorem ms_J3_checkIndex : MS yJ3_checkIndex_8e157 cJ3_checkIndex_8e157 3 (some .int) 3 := ⟨⟨by decide +kernel, by decide +kernel, by decide +kernel⟩, gw_t 732 (by decide +kernel) (by decide +kernel), gw_t 17 (by decide +kernel) (by decide +kernel), gw_t 733 (by decide +kernel) (by decide +kernel)⟩
theorem fs_38 : Cond.fieldLink RJ0 38 "java/lang/String" "COMPACT_STRINGS" "Z" ∈ GW := gw_t 713 (by decide +kernel) (by decide +kernel)
theorem fs_9 : Cond.fieldLink RJ0 9 "java/lang/String" "value" "[B" ∈ GW := gw_t 2011 (by decide +kernel) (by decide +kernel)
theorem fs_15 : Cond.fieldLink RJ0 15 "java/lang/String" "coder" "B" ∈ GW := gw_t 2012 (by decide +kernel) (by decide +kernel)
theorem fs_1053 : Cond.fieldLink RJ0 1053 "jdk/internal/util/Preconditions" "SIOOBE_FORMATTER" "Ljava/util/function/BiFunction;" ∈ GW := gw_t 729 (by decide +kernel) (by decide +kernel)
theorem mj_J0_335 : Cond.methodLink RJ0 335 yJ0_coder_7d493 ∈ GW := gw_t 709 (by decide +kernel) (by decide +kernel)
theorem mj_J0_492 : Cond.methodLink RJ0 492 yJ0_isLatin1_aae02 ∈ GW := gw_t 719 (by decide +kernel) (by decide +kernel)
theorem mj_J0_495 : Cond.methodLink RJ0 495 yJ1_charAt_3b067 ∈ GW := gw_t 723 (by decide +kernel) (by decide +kernel)
theorem mj_J1_9 : Cond.methodLink RJ1 9 yJ0_checkIndex_df160 ∈ GW := gw_t 726 (by decide +kernel) (by decide +kernel)
theorem mj_J0_1059 : Cond.methodLink RJ0 1059 yJ3_checkIndex_8e157 ∈ GW := gw_t 731 (by decide +kernel) (by decide +kernel)
section R4
variable {p : Program} {l : Launch} {e : Env} {R : Room} {s : State} {m : MethodId} {args : Array Value} {below : List Frame} {meth : Method} {c : Code} {H : Heap} {locs : List Loc} {cells slots mc ms : Nat} {Q : State → Prop}
variable {cc : ByteArray} {pc nL : Nat} {ls : Array Slot} {rest : List Value} {E : EV} {a : Nat → Nat → Nat} {σ : HS} {own : String}
theorem e_nret {v : Int32} {ty : FieldType} (C : Cx E p s m args meth c cc nL own) (hr : meth.sig.returnType = some ty) (hn : narrow ty (.int v) = .int v) (hR : Rel E a σ H) (hS : va_S (AE E) s.heap H locs) (hc : cells ≤ mc) (hs : slots ≤ ms) (hdg : decode cc pc = .ok (.ireturn, 1)) : W p l e R s m args below meth c H locs cells slots (MQ below (QW E a (some (.int v)) σ) args s mc ms (AE E)) (F0 m pc ls [.int v]) := by
  refine W.widen (k := mc) (n := ms) hc hs ?_
  exact W.zret C.1 C.2.1 hr hn (fun t ht hW => ⟨rfl, by rw [ht]; exact hR, hS.F ht⟩) hS.2.2 hdg C.2.2.2.2.2.1
/-- a call on a String constant -/
theorem r_callK {y : MethodName} {b' : ByteArray} {mL' fr lo i index n : Nat} {ret' : Option FieldType} {As : List Value} {v : Value} {σ' : HS} {st : List Value} (C : Cx E p s m args meth c cc nL own) (hM : Ct l E y b' mL' ret' fr lo mc ms a σ (.ref (eK E i) :: As) (some v) σ') (hR : Rel E a σ H) (hS : va_S (AE E) s.heap H locs) (hi : i < 18) (hw : Cond.methodLink own index y ∈ GW) (hy : MW y "java/lang/String" b' mL' ret' n) (hn : As.length = n)
    (hf : fr + 1 ≤ R.frames ∧ 8 + (mL' + 11) + lo ≤ R.locals ∧ cells + mc ≤ R.cells ∧ slots + ms ≤ R.slots) (hl : ls.size = nL) (hst : st = As.reverse ++ .ref (eK E i) :: rest) (hq : (rest.map fun v => v.category).sum ≤ 8) (hdg : decode cc pc = .ok (.invokevirtual index, 3))
    (kk : ∀ (H1 : Heap) (locs1 : List Loc), Rel E a σ' H1 → va_S (AE E) s.heap H1 locs1 → W p l e R s m args below meth c H1 locs1 (cells + mc) (slots + ms) Q (F0 m (pc + 3) ls (v :: rest))) : W p l e R s m args below meth c H locs cells slots Q (F0 m pc ls st) := by
  refine r_back (va_runV (As := As) (rest := rest) (Ts := GW) (own := own) (C := "java/lang/String") (b := eK E i) (nL := nL) (n := n) (g := F0 m pc ls st) ⟨C.1, C.2.1, C.2.2.1, C.2.2.2.1, C.2.2.2.2.1⟩ hM (cwV n C.2.2.2.2.1 (gw_goodIn ?_) rfl rfl rfl hy.1 ⟨hf.1, hf.2.1⟩) ⟨PW.blind, vk_recv C.2.2.2.2.2.2.2.1.1 hi hS, fun U hU hW => ⟨rfl, pw_at C hR hS hU hW⟩⟩ rfl hn hl hst (lv_room hq) hdg hf.2.2) hS kk
  intro w hw'
  unfold wsV at hw'
  simp only [List.cons_append, List.nil_append, List.mem_cons] at hw'
  rcases hw' with h | h | h | h | h | h
  · rw [h]; exact hw
  · rw [h]; exact hy.2.1
  · rw [h]; exact hy.2.2.1
  · rw [h]; exact hy.2.2.2.1
  · rw [h]; exact hy.2.2.2.2
  · exact h
theorem vJ_coder {i : Nat} (hi : i < 18) : Ct l E yJ0_coder_7d493 cJ0_coder_7d493 1 (some .byte) 0 0 0 0 a σ [.ref (eK E i)] (some (.int 0)) σ := by
  refine Ct.start (by decide) (Nat.le_of_ble_eq_true rfl) ?_
  intro p e s m args below meth c ls C hr hR hS hl
  have C : Cx E p s m args meth c cJ0_coder_7d493 1 RJ0 := C
  have hl : lv_has ls 1 [(0, .ref (eK E i))] := hl
  have hx := C.1
  have hb := C.2.1
  have hK := C.2.2.2.2.2.2.2.1
  refine va_gets hx hb hK.2.2.1 hS C.2.2.2.1 (C.2.2.2.2.1 _ fs_38) (fun _ h => h) dJ0_coder_7d493_0 ?_
  refine lv_if_eq (tgt := 13) hx hb dJ0_coder_7d493_3 (by decide) (fun c1 => absurd c1 (by decide)) (fun _ => ?_)
  refine lv_aload_n hx hb dJ0_coder_7d493_6 rfl (lv_at hl 0 rfl) ?_
  refine vk_getf hx hb (hK.1.1 i hi).2.1 hS C.2.2.2.1 (C.2.2.2.2.1 _ fs_15) (fun _ h => h) dJ0_coder_7d493_7 ?_
  refine lv_goto (tgt := 14) hx hb dJ0_coder_7d493_10 (by decide) ?_
  exact e_nret (v := 0) C hr rfl hR hS (Nat.le_refl _) (Nat.le_refl _) dJ0_coder_7d493_14
theorem vJ_isLatin1 {i : Nat} (hi : i < 18) : Ct l E yJ0_isLatin1_aae02 cJ0_isLatin1_aae02 1 (some .boolean) 0 0 0 0 a σ [.ref (eK E i)] (some (.int 1)) σ := by
  refine Ct.start (by decide) (Nat.le_of_ble_eq_true rfl) ?_
  intro p e s m args below meth c ls C hr hR hS hl
  have C : Cx E p s m args meth c cJ0_isLatin1_aae02 1 RJ0 := C
  have hl : lv_has ls 1 [(0, .ref (eK E i))] := hl
  have hx := C.1
  have hb := C.2.1
  have hK := C.2.2.2.2.2.2.2.1
  refine va_gets hx hb hK.2.2.1 hS C.2.2.2.1 (C.2.2.2.2.1 _ fs_38) (fun _ h => h) dJ0_isLatin1_aae02_0 ?_
  refine lv_if_eq (tgt := 17) hx hb dJ0_isLatin1_aae02_3 (by decide) (fun c1 => absurd c1 (by decide)) (fun _ => ?_)
  refine lv_aload_n hx hb dJ0_isLatin1_aae02_6 rfl (lv_at hl 0 rfl) ?_
  refine vk_getf hx hb (hK.1.1 i hi).2.1 hS C.2.2.2.1 (C.2.2.2.2.1 _ fs_15) (fun _ h => h) dJ0_isLatin1_aae02_7 ?_
  refine lv_if_ne (tgt := 17) hx hb dJ0_isLatin1_aae02_10 (by decide) (fun c1 => absurd rfl c1) (fun _ => ?_)
  refine lv_iconst (v := 1) hx hb dJ0_isLatin1_aae02_13 (by decide) ?_
  refine lv_goto (tgt := 18) hx hb dJ0_isLatin1_aae02_14 (by decide) ?_
  exact e_nret (v := 1) C hr rfl hR hS (Nat.le_refl _) (Nat.le_refl _) dJ0_isLatin1_aae02_18
theorem vJ_length {i : Nat} (hi : i < 18) : Ct l E yJ0_length_8abf5 cJ0_length_8abf5 1 (some .int) 1 20 0 0 a σ [.ref (eK E i)] (some (.int (slen i))) σ := by
  refine Ct.start (by decide) (Nat.le_of_ble_eq_true rfl) ?_
  intro p e s m args below meth c ls C hr hR hS hl
  have C : Cx E p s m args meth c cJ0_length_8abf5 1 RJ0 := C
  have hl : lv_has ls 1 [(0, .ref (eK E i))] := hl
  have hx := C.1
  have hb := C.2.1
  have hK := C.2.2.2.2.2.2.2.1
  refine lv_aload_n hx hb dJ0_length_8abf5_0 rfl (lv_at hl 0 rfl) ?_
  refine vk_getf hx hb (hK.1.1 i hi).2.2.1 hS C.2.2.2.1 (C.2.2.2.2.1 _ fs_9) (fun _ h => h) dJ0_length_8abf5_1 ?_
  refine va_tlen hx hb (hK.1.1 i hi).2.2.2 hS rfl dJ0_length_8abf5_4 ?_
  refine lv_aload_n hx hb dJ0_length_8abf5_5 rfl (lv_at hl 0 rfl) ?_
  refine r_callK (As := []) (rest := [.int (Int32.ofNat (lenC.getD i 0))]) C (vJ_coder hi) hR hS hi mj_J0_335 mw_J0_coder rfl ⟨Nat.le_of_ble_eq_true rfl, Nat.le_of_ble_eq_true rfl, Nat.le_of_ble_eq_true rfl, Nat.le_of_ble_eq_true rfl⟩ hl.1 rfl (Nat.le_of_ble_eq_true rfl) dJ0_length_8abf5_6 (fun H locs hR hS => ?_)
  refine lv_ishr hx hb dJ0_length_8abf5_9 ?_
  rw [st_len i hi]
  exact e_iret C hr hR hS (Nat.le_refl _) (Nat.le_refl _) dJ0_length_8abf5_10
theorem vJ_check3 {j n : Int32} {fv : Value} (hf : fv = .null ∨ ∃ t, fv = .ref t) (h1 : ¬ j < 0) (h2 : j < n) : Ct l E yJ3_checkIndex_8e157 cJ3_checkIndex_8e157 3 (some .int) 0 0 0 0 a σ [.int j, .int n, fv] (some (.int j)) σ := by
  refine Ct.start (by decide) (by rcases hf with rfl | ⟨t, rfl⟩ <;> exact Nat.le_of_ble_eq_true rfl) ?_
  intro p e s m args below meth c ls C hr hR hS hl
  have C : Cx E p s m args meth c cJ3_checkIndex_8e157 3 RJ3 := C
  have hl : lv_has ls 3 [(0, .int j), (1, .int n), (2, fv)] := hl
  have hx := C.1
  have hb := C.2.1
  refine lv_iload_n hx hb dJ3_checkIndex_8e157_0 rfl (lv_at hl 0 rfl) ?_
  refine lv_if_lt (tgt := 9) hx hb dJ3_checkIndex_8e157_1 (by decide) (fun c1 => absurd c1 h1) (fun _ => ?_)
  refine lv_iload_n hx hb dJ3_checkIndex_8e157_4 rfl (lv_at hl 0 rfl) ?_
  refine lv_iload_n hx hb dJ3_checkIndex_8e157_5 rfl (lv_at hl 1 rfl) ?_
  refine lv_icmp_lt (tgt := 16) hx hb dJ3_checkIndex_8e157_6 (by decide) (fun _ => ?_) (fun c1 => absurd h2 c1)
  refine lv_iload_n hx hb dJ3_checkIndex_8e157_16 rfl (lv_at hl 0 rfl) ?_
  exact e_iret C hr hR hS (Nat.le_refl _) (Nat.le_refl _) dJ3_checkIndex_8e157_17
theorem vJ_check2 {j n : Int32} (h1 : ¬ j < 0) (h2 : j < n) : Ct l E yJ0_checkIndex_df160 cJ0_checkIndex_df160 2 none 1 22 0 0 a σ [.int j, .int n] none σ := by
  refine Ct.start (by decide) (Nat.le_of_ble_eq_true rfl) ?_
  intro p e s m args below meth c ls C hr hR hS hl
  have C : Cx E p s m args meth c cJ0_checkIndex_df160 2 RJ0 := C
  have hl : lv_has ls 2 [(0, .int j), (1, .int n)] := hl
  have hx := C.1
  have hb := C.2.1
  have hK := C.2.2.2.2.2.2.2.1
  obtain ⟨fv, hf, hZ⟩ : ∃ fv : Value, (fv = .null ∨ ∃ t, fv = .ref t) ∧ va_Z "jdk/internal/util/Preconditions" "SIOOBE_FORMATTER" "Ljava/util/function/BiFunction;" fv (AE E) s s.heap := by
    rcases hK.2.2.2.2.2.1 with h | ⟨t, h⟩
    · exact ⟨_, Or.inl rfl, h⟩
    · exact ⟨_, Or.inr ⟨t, rfl⟩, h⟩
  refine lv_iload_n hx hb dJ0_checkIndex_df160_0 rfl (lv_at hl 0 rfl) ?_
  refine lv_iload_n hx hb dJ0_checkIndex_df160_1 rfl (lv_at hl 1 rfl) ?_
  refine va_gets hx hb hZ hS C.2.2.2.1 (C.2.2.2.2.1 _ fs_1053) (fun _ h => h) dJ0_checkIndex_df160_2 ?_
  refine r_callS1 (As := [.int j, .int n, fv]) (rest := []) C (vJ_check3 hf h1 h2) hR hS mj_J0_1059 ms_J3_checkIndex rfl ⟨Nat.le_of_ble_eq_true rfl, Nat.le_of_ble_eq_true rfl, Nat.le_of_ble_eq_true rfl, Nat.le_of_ble_eq_true rfl⟩ hl.1 rfl (Nat.le_of_ble_eq_true rfl) dJ0_checkIndex_df160_5 (fun H locs hR hS => ?_)
  refine lv_pop hx hb dJ0_checkIndex_df160_8 rfl ?_
  exact e_vret C hr hR hS (Nat.le_refl _) (Nat.le_refl _) dJ0_checkIndex_df160_9
theorem vJ_charAt1 {i : Nat} {j x : Int32} (hi : i < 18) (h : sch i j = some x) : Ct l E yJ1_charAt_3b067 cJ1_charAt_3b067 2 (some .char) 2 43 0 0 a σ [.ref (eV E i), .int j] (some (.int x)) σ := by
  unfold sch at h
  obtain ⟨k, hk, h⟩ := ob h
  cases h
  obtain ⟨hin, hk2, hlt⟩ := ck_in hk
  obtain ⟨h255, hnar⟩ := st_ch i hi k hlt
  have hj0 : ¬ j < 0 := fun q => hin (Or.inl q)
  have hjn : j < Int32.ofNat (lenC.getD i 0) := by
    have hL := st_lt i hi
    have e1 : (Int32.ofNat (lenC.getD i 0)).toInt = (lenC.getD i 0 : Int) := nI_toInt hL
    have hz : (0 : Int) ≤ j.toInt := by
      have := Int32.not_lt.mp hj0
      simpa using Int32.le_iff_toInt_le.mp this
    have e2 : j.toInt = ((j.toNatClampNeg : Nat) : Int) := by
      show j.toInt = ((j.toInt.toNat : Nat) : Int)
      omega
    rw [Int32.lt_iff_toInt_lt, e1, e2]
    omega
  refine Ct.start (by decide) (Nat.le_of_ble_eq_true rfl) ?_
  intro p e s m args below meth c ls C hr hR hS hl
  have C : Cx E p s m args meth c cJ1_charAt_3b067 2 RJ1 := C
  have hl : lv_has ls 2 [(0, .ref (eV E i)), (1, .int j)] := hl
  have hx := C.1
  have hb := C.2.1
  have hK := C.2.2.2.2.2.2.2.1
  refine lv_iload_n hx hb dJ1_charAt_3b067_0 rfl (lv_at hl 1 rfl) ?_
  refine lv_aload_n hx hb dJ1_charAt_3b067_1 rfl (lv_at hl 0 rfl) ?_
  refine va_tlen hx hb (hK.1.1 i hi).2.2.2 hS rfl dJ1_charAt_3b067_2 ?_
  refine r_callS0 (As := [.int j, .int (Int32.ofNat (lenC.getD i 0))]) (rest := []) C (vJ_check2 hj0 hjn) hR hS mj_J1_9 ms_J0_checkIndex rfl ⟨Nat.le_of_ble_eq_true rfl, Nat.le_of_ble_eq_true rfl, Nat.le_of_ble_eq_true rfl, Nat.le_of_ble_eq_true rfl⟩ hl.1 rfl (Nat.le_of_ble_eq_true rfl) dJ1_charAt_3b067_3 (fun H locs hR hS => ?_)
  refine lv_aload_n hx hb dJ1_charAt_3b067_6 rfl (lv_at hl 0 rfl) ?_
  refine lv_iload_n hx hb dJ1_charAt_3b067_7 rfl (lv_at hl 1 rfl) ?_
  refine va_tb hx hb (hK.1.1 i hi).2.2.2 hS hin rfl dJ1_charAt_3b067_8 ?_
  refine lv_sipush (v := 255) hx hb dJ1_charAt_3b067_9 (by decide) ?_
  refine lv_iand hx hb dJ1_charAt_3b067_12 ?_
  refine lv_i2c (v := (bytC.getD i []).getD k 0) hx hb dJ1_charAt_3b067_13 (by rw [← hk2]; exact h255) ?_
  exact e_nret C hr hnar hR hS (Nat.le_refl _) (Nat.le_refl _) dJ1_charAt_3b067_14
theorem vJ_charAt {i : Nat} {j x : Int32} (hi : i < 18) (h : sch i j = some x) : Ct l E yJ0_charAt_5068e cJ0_charAt_5068e 2 (some .char) 3 64 0 0 a σ [.ref (eK E i), .int j] (some (.int x)) σ := by
  have hnar : narrow .char (.int x) = .int x := by
    have h2 := h
    unfold sch at h2
    obtain ⟨k, hk, h2⟩ := ob h2
    cases h2
    exact (st_ch i hi k (ck_in hk).2.2).2
  refine Ct.start (by decide) (Nat.le_of_ble_eq_true rfl) ?_
  intro p e s m args below meth c ls C hr hR hS hl
  have C : Cx E p s m args meth c cJ0_charAt_5068e 2 RJ0 := C
  have hl : lv_has ls 2 [(0, .ref (eK E i)), (1, .int j)] := hl
  have hx := C.1
  have hb := C.2.1
  have hK := C.2.2.2.2.2.2.2.1
  refine lv_aload_n hx hb dJ0_charAt_5068e_0 rfl (lv_at hl 0 rfl) ?_
  refine r_callK (As := []) (rest := []) C (vJ_isLatin1 hi) hR hS hi mj_J0_492 mw_J0_isLatin1 rfl ⟨Nat.le_of_ble_eq_true rfl, Nat.le_of_ble_eq_true rfl, Nat.le_of_ble_eq_true rfl, Nat.le_of_ble_eq_true rfl⟩ hl.1 rfl (Nat.le_of_ble_eq_true rfl) dJ0_charAt_5068e_1 (fun H locs hR hS => ?_)
  refine lv_if_eq (tgt := 16) hx hb dJ0_charAt_5068e_4 (by decide) (fun c1 => absurd c1 (by decide)) (fun _ => ?_)
  refine lv_aload_n hx hb dJ0_charAt_5068e_7 rfl (lv_at hl 0 rfl) ?_
  refine vk_getf hx hb (hK.1.1 i hi).2.2.1 hS C.2.2.2.1 (C.2.2.2.2.1 _ fs_9) (fun _ h => h) dJ0_charAt_5068e_8 ?_
  refine lv_iload_n hx hb dJ0_charAt_5068e_11 rfl (lv_at hl 1 rfl) ?_
  refine r_callS1 (As := [.ref (eV E i), .int j]) (rest := []) C (vJ_charAt1 hi h) hR hS mj_J0_495 ms_J1_charAt rfl ⟨Nat.le_of_ble_eq_true rfl, Nat.le_of_ble_eq_true rfl, Nat.le_of_ble_eq_true rfl, Nat.le_of_ble_eq_true rfl⟩ hl.1 rfl (Nat.le_of_ble_eq_true rfl) dJ0_charAt_5068e_12 (fun H locs hR hS => ?_)
  exact e_nret C hr hnar hR hS (Nat.le_refl _) (Nat.le_refl _) dJ0_charAt_5068e_15
theorem r_ldcS {q : String × Nat × String × Nat} (C : Cx E p s m args meth c cc nL q.1) (hq : q ∈ strL) (hdg : decode cc pc = .ok (.ldc q.2.1, 2))
    (kk : W p l e R s m args below meth c H locs cells slots Q (F0 m (pc + 2) ls (.ref (eK E q.2.2.2) :: rest))) : W p l e R s m args below meth c H locs cells slots Q (F0 m pc ls rest) :=
  va_ldcS C.1 C.2.1 C.2.2.2.1 (C.2.2.2.2.2.2.2.1.2.1 q hq) hdg kk
theorem r_slen {i index : Nat} (C : Cx E p s m args meth c cc nL own) (hi : i < 18) (hR : Rel E a σ H) (hS : va_S (AE E) s.heap H locs) (hw : Cond.methodLink own index yJ0_length_8abf5 ∈ GW) (hl : ls.size = nL) (hf : 4 ≤ R.frames) (hlo : 90 ≤ R.locals) (hc : cells ≤ R.cells) (hs : slots ≤ R.slots) (hq : (rest.map fun v => v.category).sum ≤ 8) (hdg : decode cc pc = .ok (.invokevirtual index, 3))
    (kk : ∀ (H1 : Heap) (locs1 : List Loc), Rel E a σ H1 → va_S (AE E) s.heap H1 locs1 → W p l e R s m args below meth c H1 locs1 cells slots Q (F0 m (pc + 3) ls (.int (slen i) :: rest))) : W p l e R s m args below meth c H locs cells slots Q (F0 m pc ls (.ref (eK E i) :: rest)) :=
  r_callK (As := []) (rest := rest) C (vJ_length hi) hR hS hi hw mw_J0_length rfl ⟨by omega, by omega, hc, hs⟩ hl rfl hq hdg kk
theorem r_sch {i index : Nat} {j x : Int32} (C : Cx E p s m args meth c cc nL own) (hi : i < 18) (hx : sch i j = some x) (hR : Rel E a σ H) (hS : va_S (AE E) s.heap H locs) (hw : Cond.methodLink own index yJ0_charAt_5068e ∈ GW) (hl : ls.size = nL) (hf : 4 ≤ R.frames) (hlo : 90 ≤ R.locals) (hc : cells ≤ R.cells) (hs : slots ≤ R.slots) (hq : (rest.map fun v => v.category).sum ≤ 8) (hdg : decode cc pc = .ok (.invokevirtual index, 3))
    (kk : ∀ (H1 : Heap) (locs1 : List Loc), Rel E a σ H1 → va_S (AE E) s.heap H1 locs1 → W p l e R s m args below meth c H1 locs1 cells slots Q (F0 m (pc + 3) ls (.int x :: rest))) : W p l e R s m args below meth c H locs cells slots Q (F0 m pc ls (.int j :: .ref (eK E i) :: rest)) :=
  r_callK (As := [.int j]) (rest := rest) C (vJ_charAt hi hx) hR hS hi hw mw_J0_charAt rfl ⟨by omega, by omega, hc, hs⟩ hl rfl hq hdg kk
end R4
