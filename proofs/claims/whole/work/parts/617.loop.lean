/-! ===== the law's loop ===== -/
theorem and63 (x : Int32) : ∃ n : Nat, n < 64 ∧ x &&& 63 = nI n := by
  refine ⟨(x &&& 63).toBitVec.toNat, ?_, ?_⟩
  · have e : (x &&& 63).toBitVec = x.toBitVec &&& (63 : Int32).toBitVec := rfl
    rw [e, BitVec.toNat_and]
    exact Nat.lt_of_le_of_lt Nat.and_le_right (by decide)
  · apply Int32.toBitVec_inj.mp
    show (x &&& 63).toBitVec = BitVec.ofNat 32 (x &&& 63).toBitVec.toNat
    rw [BitVec.ofNat_toNat, BitVec.setWidth_eq]
section R15
variable {p : Program} {l : Launch} {e : Env} {s : State} {m : MethodId} {below : List Frame} {meth : Method} {c : Code} {H : Heap} {locs : List Loc} {cells slots : Nat} {Q : State → Prop}
variable {ls : Array Slot} {E : EV} {a : Nat → Nat → Nat} {b L : Nat} {xs : Nat → Int32}
theorem law_case {u : HS} {i x : Int32} (X : LXm E p l s m meth c b L xs) (hi : ∀ j ∈ ([1, 2, 3, 4, 5, 6] : List Int32), vp_in (i + j) L) (hI : IV u) (hR : Rel E a u H) (hS : va_S (AE E) s.heap H locs) (hl : lv_has ls 8 [(4, .int i), (0, .ref b), (1, .ref (a 8 0)), (2, .ref (a 9 0)), (3, .ref (a 90 0))]) (hcs : cells + 5 ≤ room_1.cells) (hss : slots + 4900 ≤ room_1.slots) (kk : LK E p l e s m below meth c b i cells slots Q) : W p l e room_1 s m #[.ref b] below meth c H locs cells slots Q (F0 m 40 ls [.int (x &&& 63)]) := by
  have hx := X.1.1
  have hb := X.1.2.1
  obtain ⟨n, hn, e⟩ := and63 x
  rw [e]
  match n, hn with
  | 0, _ => exact lv_tableIn (off := 192) (tgt := 232) hx hb dL_law__40 (by decide) (by decide) rfl (by decide) (cs_feed X hi hI hR hS hl hcs hss kk)
  | 1, _ => exact lv_tableIn (off := 265) (tgt := 305) hx hb dL_law__40 (by decide) (by decide) rfl (by decide) (cs_scene X hi hI hR hS hl hcs hss kk)
  | 2, _ => exact lv_tableIn (off := 321) (tgt := 361) hx hb dL_law__40 (by decide) (by decide) rfl (by decide) (cs_task X hi hI hR hS hl hcs hss kk)
  | 3, _ => exact lv_tableIn (off := 377) (tgt := 417) hx hb dL_law__40 (by decide) (by decide) rfl (by decide) (cs_law X hi hI hR hS hl hcs hss kk)
  | 4, _ => exact lv_tableIn (off := 433) (tgt := 473) hx hb dL_law__40 (by decide) (by decide) rfl (by decide) (cs_fault X hi hI hR hS hl hcs hss kk)
  | 5, _ => exact lv_tableIn (off := 446) (tgt := 486) hx hb dL_law__40 (by decide) (by decide) rfl (by decide) (cs_told X hi hI hR hS hl hcs hss kk)
  | 6, _ => exact lv_tableIn (off := 514) (tgt := 554) hx hb dL_law__40 (by decide) (by decide) rfl (by decide) (cs_thing X hi hI hR hS hl hcs hss kk)
  | 7, _ => exact lv_tableIn (off := 606) (tgt := 646) hx hb dL_law__40 (by decide) (by decide) rfl (by decide) (cs_kept X hi hI hR hS hl hcs hss kk)
  | 8, _ => exact lv_tableIn (off := 674) (tgt := 714) hx hb dL_law__40 (by decide) (by decide) rfl (by decide) (cs_throwsOf X hi hI hR hS hl hcs hss kk)
  | 9, _ => exact lv_tableIn (off := 742) (tgt := 782) hx hb dL_law__40 (by decide) (by decide) rfl (by decide) (cs_looker X hi hI hR hS hl hcs hss kk)
  | 10, _ => exact lv_tableIn (off := 838) (tgt := 878) hx hb dL_law__40 (by decide) (by decide) rfl (by decide) (cs_eyes X hi hI hR hS hl hcs hss kk)
  | 11, _ => exact lv_tableIn (off := 930) (tgt := 970) hx hb dL_law__40 (by decide) (by decide) rfl (by decide) (cs_blink X hi hI hR hS hl hcs hss kk)
  | 12, _ => exact lv_tableIn (off := 1010) (tgt := 1050) hx hb dL_law__40 (by decide) (by decide) rfl (by decide) (cs_eye X hi hI hR hS hl hcs hss kk)
  | 13, _ => exact lv_tableIn (off := 1078) (tgt := 1118) hx hb dL_law__40 (by decide) (by decide) rfl (by decide) (cs_on X hi hI hR hS hl hcs hss kk)
  | 14, _ => exact lv_tableIn (off := 1146) (tgt := 1186) hx hb dL_law__40 (by decide) (by decide) rfl (by decide) (cs_name X hi hI hR hS hl hcs hss kk)
  | 15, _ => exact lv_tableIn (off := 1238) (tgt := 1278) hx hb dL_law__40 (by decide) (by decide) rfl (by decide) (cs_gets X hi hI hR hS hl hcs hss kk)
  | 16, _ => exact lv_tableIn (off := 1342) (tgt := 1382) hx hb dL_law__40 (by decide) (by decide) rfl (by decide) (cs_seen X hi hI hR hS hl hcs hss kk)
  | 17, _ => exact lv_tableIn (off := 1422) (tgt := 1462) hx hb dL_law__40 (by decide) (by decide) rfl (by decide) (cs_says X hi hI hR hS hl hcs hss kk)
  | 18, _ => exact lv_tableIn (off := 1509) (tgt := 1549) hx hb dL_law__40 (by decide) (by decide) rfl (by decide) (cs_miss X hi hI hR hS hl hcs hss kk)
  | 19, _ => exact lv_tableIn (off := 1589) (tgt := 1629) hx hb dL_law__40 (by decide) (by decide) rfl (by decide) (cs_drawn X hi hI hR hS hl hcs hss kk)
  | 20, _ => exact lv_tableIn (off := 1681) (tgt := 1721) hx hb dL_law__40 (by decide) (by decide) rfl (by decide) (cs_change X hi hI hR hS hl hcs hss kk)
  | 21, _ => exact lv_tableIn (off := 1749) (tgt := 1789) hx hb dL_law__40 (by decide) (by decide) rfl (by decide) (cs_yet X hi hI hR hS hl hcs hss kk)
  | 22, _ => exact lv_tableIn (off := 1805) (tgt := 1845) hx hb dL_law__40 (by decide) (by decide) rfl (by decide) (cs_least X hi hI hR hS hl hcs hss kk)
  | 23, _ => exact lv_tableIn (off := 1885) (tgt := 1925) hx hb dL_law__40 (by decide) (by decide) rfl (by decide) (cs_answer X hi hI hR hS hl hcs hss kk)
  | 24, _ => exact lv_tableIn (off := 1981) (tgt := 2021) hx hb dL_law__40 (by decide) (by decide) rfl (by decide) (cs_counted X hi hI hR hS hl hcs hss kk)
  | 25, _ => exact lv_tableIn (off := 2049) (tgt := 2089) hx hb dL_law__40 (by decide) (by decide) rfl (by decide) (cs_sure X hi hI hR hS hl hcs hss kk)
  | 26, _ => exact lv_tableIn (off := 2117) (tgt := 2157) hx hb dL_law__40 (by decide) (by decide) rfl (by decide) (cs_share X hi hI hR hS hl hcs hss kk)
  | 27, _ => exact lv_tableIn (off := 2209) (tgt := 2249) hx hb dL_law__40 (by decide) (by decide) rfl (by decide) (cs_guessed X hi hI hR hS hl hcs hss kk)
  | 28, _ => exact lv_tableIn (off := 2301) (tgt := 2341) hx hb dL_law__40 (by decide) (by decide) rfl (by decide) (cs_apart X hi hI hR hS hl hcs hss kk)
  | 29, _ => exact lv_tableIn (off := 2419) (tgt := 2459) hx hb dL_law__40 (by decide) (by decide) rfl (by decide) (cs_gone X hi hI hR hS hl hcs hss kk)
  | 30, _ => exact lv_tableIn (off := 2499) (tgt := 2539) hx hb dL_law__40 (by decide) (by decide) rfl (by decide) (cs_lost X hi hI hR hS hl hcs hss kk)
  | 31, _ => exact lv_tableIn (off := 2555) (tgt := 2595) hx hb dL_law__40 (by decide) (by decide) rfl (by decide) (cs_cost X hi hI hR hS hl hcs hss kk)
  | 32, _ => exact lv_tableIn (off := 2635) (tgt := 2675) hx hb dL_law__40 (by decide) (by decide) rfl (by decide) (cs_off X hi hI hR hS hl hcs hss kk)
  | 33, _ => exact lv_tableIn (off := 2715) (tgt := 2755) hx hb dL_law__40 (by decide) (by decide) rfl (by decide) (cs_weigh X hi hI hR hS hl hcs hss kk)
  | 34, _ => exact lv_tableIn (off := 2783) (tgt := 2823) hx hb dL_law__40 (by decide) (by decide) rfl (by decide) (cs_wrong X hi hI hR hS hl hcs hss kk)
  | 35, _ => exact lv_tableIn (off := 2839) (tgt := 2879) hx hb dL_law__40 (by decide) (by decide) rfl (by decide) (cs_odds X hi hI hR hS hl hcs hss kk)
  | 36, _ => exact lv_tableIn (off := 2894) (tgt := 2934) hx hb dL_law__40 (by decide) (by decide) rfl (by decide) (cs_best X hi hI hR hS hl hcs hss kk)
  | 37, _ => exact lv_tableIn (off := 2907) (tgt := 2947) hx hb dL_law__40 (by decide) (by decide) rfl (by decide) (cs_fits X hi hI hR hS hl hcs hss kk)
  | 38, _ => exact lv_tableIn (off := 2963) (tgt := 3003) hx hb dL_law__40 (by decide) (by decide) rfl (by decide) (cs_next X hi hI hR hS hl hcs hss kk)
  | 39, _ => exact lv_tableIn (off := 2976) (tgt := 3016) hx hb dL_law__40 (by decide) (by decide) rfl (by decide) (cs_knowing X hi hI hR hS hl hcs hss kk)
  | 40, _ => exact lv_tableIn (off := 3044) (tgt := 3084) hx hb dL_law__40 (by decide) (by decide) rfl (by decide) (cs_crossing X hi hI hR hS hl hcs hss kk)
  | 41, _ => exact lv_tableIn (off := 3136) (tgt := 3176) hx hb dL_law__40 (by decide) (by decide) rfl (by decide) (cs_image X hi hI hR hS hl hcs hss kk)
  | 42, _ => exact lv_tableIn (off := 3149) (tgt := 3189) hx hb dL_law__40 (by decide) (by decide) rfl (by decide) (cs_restore X hi hI hR hS hl hcs hss kk)
  | 43, _ => exact lv_tableIn (off := 3162) (tgt := 3202) hx hb dL_law__40 (by decide) (by decide) rfl (by decide) (cs_count X hi hI hR hS hl hcs hss kk)
  | n + 44, hn =>
    refine lv_tableOut (tgt := 3227) hx hb dL_law__40 (Or.inr ?_) (by decide) ?_
    · rw [nI_toInt (by omega)]; omega
    · refine W.widen (k := cells + 5) (n := slots + 4900) (by omega) (by omega) ?_
      exact kk a u H locs ls hI hR hS hl
theorem law_head {k : Nat} {i : Int32} (X : LXm E p l s m meth c b L xs) (hL : L ≤ 3584) (hk : k ≤ 3600) (hik : i = nI (7 * k)) (hS : va_S (AE E) s.heap H locs) (hl : lv_has ls 8 [(4, .int i), (0, .ref b), (1, .ref (a 8 0)), (2, .ref (a 9 0)), (3, .ref (a 90 0))]) (kx : W p l e room_1 s m #[.ref b] below meth c H locs cells slots Q (F0 m 3233 ls [])) (kk : 7 * k + 6 < L → W p l e room_1 s m #[.ref b] below meth c H locs cells slots Q (F0 m 40 ls [.int (xs i.toNatClampNeg &&& 63)])) : W p l e room_1 s m #[.ref b] below meth c H locs cells slots Q (F0 m 23 ls []) := by
  have hx := X.1.1
  have hb := X.1.2.1
  refine lv_iload hx hb dL_law__23 (lv_at hl 0 rfl) ?_
  refine lv_aload_n hx hb dL_law__25 rfl (lv_at hl 1 rfl) ?_
  refine va_slen hx hb X.2.1 X.2.2.1 X.nb hS dL_law__26 ?_
  refine lv_bipush (v := 7) hx hb dL_law__27 (by decide) ?_
  refine lv_isub hx hb dL_law__29 ?_
  refine lv_icmp_gt (tgt := 3233) hx hb dL_law__30 (by decide) (fun _ => kx) (fun c9 => ?_)
  have e1 : (nI L - nI 7).toInt = (L : Int) - (7 : Nat) := pk_sub_toInt (by omega) (by decide)
  have e2 : (nI (7 * k)).toInt = ((7 * k : Nat) : Int) := nI_toInt (by omega)
  have h6 : 7 * k + 6 < L := by
    have h1 : ¬ (nI L - nI 7 < nI (7 * k)) := by rw [← hik]; exact c9
    rw [Int32.lt_iff_toInt_lt, e1, e2] at h1
    omega
  refine lv_aload_n hx hb dL_law__33 rfl (lv_at hl 1 rfl) ?_
  refine lv_iload hx hb dL_law__34 (lv_at hl 0 rfl) ?_
  refine va_sld hx hb X.2.1 X.2.2.1 X.nb hS (by rw [hik]; exact nI_in (by omega) (by omega)) dL_law__36 ?_
  refine lv_bipush (v := 63) hx hb dL_law__37 (by decide) ?_
  exact lv_iand hx hb dL_law__39 (kk h6)
end R15
set_option maxRecDepth 100000 in
theorem law_loop {p : Program} {l : Launch} {e : Env} {s : State} {m : MethodId} {below : List Frame} {meth : Method} {c : Code} {E : EV} {b L : Nat} {xs : Nat → Int32} {Q : State → Prop} (X : LXm E p l s m meth c b L xs) (hL : L ≤ 3584) (kx : ∀ (cells slots : Nat) (a : Nat → Nat → Nat) (u : HS) (H : Heap) (locs : List Loc) (ls : Array Slot), cells ≤ room_1.cells → slots ≤ room_1.slots → Rel E a u H → va_S (AE E) s.heap H locs → W p l e room_1 s m #[.ref b] below meth c H locs cells slots Q (F0 m 3233 ls [])) :
    ∀ (f k : Nat), k + f = 513 → ∀ (cells slots : Nat), cells + 5 * f ≤ room_1.cells → slots + 4900 * f ≤ room_1.slots → ∀ (a : Nat → Nat → Nat) (u : HS) (H : Heap) (locs : List Loc) (ls : Array Slot) (i : Int32), i = nI (7 * k) → IV u → Rel E a u H → va_S (AE E) s.heap H locs → lv_has ls 8 [(4, .int i), (0, .ref b), (1, .ref (a 8 0)), (2, .ref (a 9 0)), (3, .ref (a 90 0))] → W p l e room_1 s m #[.ref b] below meth c H locs cells slots Q (F0 m 23 ls []) := by
  intro f
  induction f with
  | zero =>
    intro k hk cells slots hc hs a u H locs ls i hik hI hR hS hl
    exact law_head X hL (by omega) hik hS hl (kx cells slots a u H locs ls (by omega) (by omega) hR hS) (fun h => absurd h (by omega))
  | succ f ih =>
    intro k hk cells slots hc hs a u H locs ls i hik hI hR hS hl
    refine law_head X hL (by omega) hik hS hl (kx cells slots a u H locs ls (by omega) (by omega) hR hS) (fun h6 => ?_)
    have hin : ∀ j : Nat, j ≤ 6 → vp_in (i + nI j) L := fun j hj => by
      rw [hik, nI_add]
      exact nI_in (by omega) (by omega)
    refine law_case X (fun j hj => ?_) hI hR hS hl (by omega) (by omega) (fun a u H locs ls hI hR hS hl => ?_)
    · simp only [List.mem_cons, List.not_mem_nil, or_false] at hj
      rcases hj with rfl | rfl | rfl | rfl | rfl | rfl
      · exact hin 1 (by omega)
      · exact hin 2 (by omega)
      · exact hin 3 (by omega)
      · exact hin 4 (by omega)
      · exact hin 5 (by omega)
      · exact hin 6 (by omega)
    · refine lv_iinc (v := nI (7 * (k + 1))) (lv' := [(4, .int (nI (7 * (k + 1)))), (0, .ref b), (1, .ref (a 8 0)), (2, .ref (a 9 0)), (3, .ref (a 90 0))]) X.1.1 X.1.2.1 dL_law__3227 hl (k := 0) rfl (by rw [hik, show Int32.ofInt 7 = nI 7 from by decide, nI_add, show 7 * k + 7 = 7 * (k + 1) from by omega]) (by decide) rfl (fun ls hl => ?_)
      refine lv_goto (tgt := 23) X.1.1 X.1.2.1 dL_law__3230 (by decide) ?_
      exact ih (k + 1) (by omega) (cells + 5) (slots + 4900) (by omega) (by omega) a u H locs ls _ rfl hI hR hS hl
