/-! ===== the cases of the law's loop (3) ===== -/
section R14
variable {p : Program} {l : Launch} {e : Env} {s : State} {m : MethodId} {below : List Frame} {meth : Method} {c : Code} {H : Heap} {locs : List Loc} {cells slots : Nat} {Q : State → Prop}
variable {ls : Array Slot} {E : EV} {a : Nat → Nat → Nat} {b L : Nat} {xs : Nat → Int32}
set_option maxHeartbeats 4000000 in
theorem cs_weigh {u : HS} {i : Int32} (X : LXm E p l s m meth c b L xs) (hi : ∀ j ∈ ([1, 2, 3, 4, 5, 6] : List Int32), vp_in (i + j) L) (hI : IV u) (hR : Rel E a u H) (hS : va_S (AE E) s.heap H locs) (hl : lv_has ls 8 [(4, .int i), (0, .ref b), (1, .ref (a 8 0)), (2, .ref (a 9 0)), (3, .ref (a 90 0))]) (hcs : cells + 5 ≤ room_1.cells) (hss : slots + 4900 ≤ room_1.slots) (kk : LK E p l e s m below meth c b i cells slots Q) : W p l e room_1 s m #[.ref b] below meth c H locs cells slots Q (F0 m 2755 ls []) := by
  have hx := X.1.1
  have hb := X.1.2.1
  obtain ⟨k, v, u1, r, u2, hc, hr, hgt, hv, hk, hI2⟩ := s_weigh (ag xs i 1) (ag xs i 2) u hI
  have hc : mX8_weigh u (ag xs i 1) (ag xs i 2) = some (k, v, u1) := hc
  have hr : mX9_weigh u1 (ag xs i 1) (ag xs i 2) = some (r, u2) := hr
  refine lv_aload_n hx hb dL_law__2755 rfl (lv_at hl 2 rfl) ?_
  refine l_arg (j := 1) X hS (hi 1 (by decide)) (lv_at hl 1 rfl) (lv_at hl 0 rfl) (by decide) dL_law__2756 dL_law__2757 dL_law__2759 dL_law__2760 dL_law__2761 ?_
  refine l_arg (j := 2) X hS (hi 2 (by decide)) (lv_at hl 1 rfl) (lv_at hl 0 rfl) (by decide) dL_law__2762 dL_law__2763 dL_law__2765 dL_law__2766 dL_law__2767 ?_
  refine lv_aload_n hx hb dL_law__2768 rfl (lv_at hl 4 rfl) ?_
  refine l_callH (As := [.ref (a 8 0), .int (ag xs i 1), .int (ag xs i 2), .ref (a 90 0)]) (rest := []) X.1 (vL_weigh X.2.2.2.2 (out := (k, v, u1)) (z := kmL [3, 1] k) hc (km_31 hk)) hR hS ml_L_253 mh_weigh rfl ⟨Nat.le_of_ble_eq_true rfl, Nat.le_of_ble_eq_true rfl, by omega, by omega⟩ hl.1 rfl (Nat.le_of_ble_eq_true rfl) dL_law__2769 (fun a1 H locs hAL hR hS h92 => ?_)
  have hl : lv_has ls 8 [(4, .int i), (0, .ref b), (1, .ref (a1 8 0)), (2, .ref (a1 9 0)), (3, .ref (a1 90 0))] := by rw [hAL 8 0 (by decide) (by decide) (by decide) (by decide), hAL 9 0 (by decide) (by decide) (by decide) (by decide), hAL 90 0 (by decide) (by decide) (by decide) (by decide)]; exact hl
  refine lv_istore (lv' := [(5, .int (kmL [3, 1] k)), (4, .int i), (0, .ref b), (1, .ref (a1 8 0)), (2, .ref (a1 9 0)), (3, .ref (a1 90 0))]) hx hb dL_law__2772 hl (by decide) rfl (fun ls hl => ?_)
  refine lv_aload_n hx hb dL_law__2774 rfl (lv_at hl 4 rfl) ?_
  refine l_arg (j := 1) X hS (hi 1 (by decide)) (lv_at hl 2 rfl) (lv_at hl 1 rfl) (by decide) dL_law__2775 dL_law__2776 dL_law__2778 dL_law__2779 dL_law__2780 ?_
  refine l_arg (j := 2) X hS (hi 2 (by decide)) (lv_at hl 2 rfl) (lv_at hl 1 rfl) (by decide) dL_law__2781 dL_law__2782 dL_law__2784 dL_law__2785 dL_law__2786 ?_
  refine r_callV1 (As := [.int (ag xs i 1), .int (ag xs i 2)]) (rest := []) (r := 9) (i := 0) X.1 (vX9_weigh (out := (r, u2)) hr) hR hS (lv0 (by decide) (by decide)) (by decide) ml_L_255 mw_X9_weigh rfl ⟨Nat.le_of_ble_eq_true rfl, Nat.le_of_ble_eq_true rfl, by omega, by omega⟩ hl.1 rfl (Nat.le_of_ble_eq_true rfl) dL_law__2787 (fun H locs hR hS => ?_)
  refine lv_istore (lv' := [(6, .int r), (5, .int (kmL [3, 1] k)), (4, .int i), (0, .ref b), (1, .ref (a1 8 0)), (2, .ref (a1 9 0)), (3, .ref (a1 90 0))]) hx hb dL_law__2790 hl (by decide) rfl (fun ls hl => ?_)
  refine l_tail (off := 407) X hR hS ml_L_149 mw_X9_thrown hl hgt (fun h => (congrArg dL (h92 h)).trans ((dL_eL _).trans (congrArg Int32.toInt64 (hv (km0 (by decide) h))))) (by omega) (by omega) (by decide) dL_law__2792 dL_law__2793 dL_law__2796 dL_law__2798 dL_law__2803 dL_law__2805 dL_law__2808 dL_law__2809 dL_law__2810 dL_law__2811 dL_law__2813 dL_law__2814 dL_law__2815 dL_law__2820 (fun H locs hR hS => ?_)
  refine W.widen (k := cells + 5) (n := slots + 4900) (by omega) (by omega) ?_
  exact kk a1 u2 H locs ls hI2 hR hS (lv_sub hl [2, 3, 4, 5, 6] rfl)
set_option maxHeartbeats 4000000 in
theorem cs_wrong {u : HS} {i : Int32} (X : LXm E p l s m meth c b L xs) (hi : ∀ j ∈ ([1, 2, 3, 4, 5, 6] : List Int32), vp_in (i + j) L) (hI : IV u) (hR : Rel E a u H) (hS : va_S (AE E) s.heap H locs) (hl : lv_has ls 8 [(4, .int i), (0, .ref b), (1, .ref (a 8 0)), (2, .ref (a 9 0)), (3, .ref (a 90 0))]) (hcs : cells + 5 ≤ room_1.cells) (hss : slots + 4900 ≤ room_1.slots) (kk : LK E p l e s m below meth c b i cells slots Q) : W p l e room_1 s m #[.ref b] below meth c H locs cells slots Q (F0 m 2823 ls []) := by
  have hx := X.1.1
  have hb := X.1.2.1
  obtain ⟨k, v, u1, r, u2, hc, hr, hgt, hv, hk, hI2⟩ := s_wrong (ag xs i 1) u hI
  have hc : mX8_wrong u (ag xs i 1) = some (k, v, u1) := hc
  have hr : mX9_wrong u1 (ag xs i 1) = some (r, u2) := hr
  refine lv_aload_n hx hb dL_law__2823 rfl (lv_at hl 2 rfl) ?_
  refine l_arg (j := 1) X hS (hi 1 (by decide)) (lv_at hl 1 rfl) (lv_at hl 0 rfl) (by decide) dL_law__2824 dL_law__2825 dL_law__2827 dL_law__2828 dL_law__2829 ?_
  refine lv_aload_n hx hb dL_law__2830 rfl (lv_at hl 4 rfl) ?_
  refine l_callH (As := [.ref (a 8 0), .int (ag xs i 1), .ref (a 90 0)]) (rest := []) X.1 (vL_wrong X.2.2.2.2 (out := (k, v, u1)) (z := kmL [1] k) hc (km_1 hk)) hR hS ml_L_256 mh_wrong rfl ⟨Nat.le_of_ble_eq_true rfl, Nat.le_of_ble_eq_true rfl, by omega, by omega⟩ hl.1 rfl (Nat.le_of_ble_eq_true rfl) dL_law__2831 (fun a1 H locs hAL hR hS h92 => ?_)
  have hl : lv_has ls 8 [(4, .int i), (0, .ref b), (1, .ref (a1 8 0)), (2, .ref (a1 9 0)), (3, .ref (a1 90 0))] := by rw [hAL 8 0 (by decide) (by decide) (by decide) (by decide), hAL 9 0 (by decide) (by decide) (by decide) (by decide), hAL 90 0 (by decide) (by decide) (by decide) (by decide)]; exact hl
  refine lv_istore (lv' := [(5, .int (kmL [1] k)), (4, .int i), (0, .ref b), (1, .ref (a1 8 0)), (2, .ref (a1 9 0)), (3, .ref (a1 90 0))]) hx hb dL_law__2834 hl (by decide) rfl (fun ls hl => ?_)
  refine lv_aload_n hx hb dL_law__2836 rfl (lv_at hl 4 rfl) ?_
  refine l_arg (j := 1) X hS (hi 1 (by decide)) (lv_at hl 2 rfl) (lv_at hl 1 rfl) (by decide) dL_law__2837 dL_law__2838 dL_law__2840 dL_law__2841 dL_law__2842 ?_
  refine r_callV1 (As := [.int (ag xs i 1)]) (rest := []) (r := 9) (i := 0) X.1 (vX9_wrong (out := (r, u2)) hr) hR hS (lv0 (by decide) (by decide)) (by decide) ml_L_258 mw_X9_wrong rfl ⟨Nat.le_of_ble_eq_true rfl, Nat.le_of_ble_eq_true rfl, by omega, by omega⟩ hl.1 rfl (Nat.le_of_ble_eq_true rfl) dL_law__2843 (fun H locs hR hS => ?_)
  refine lv_istore (lv' := [(6, .int r), (5, .int (kmL [1] k)), (4, .int i), (0, .ref b), (1, .ref (a1 8 0)), (2, .ref (a1 9 0)), (3, .ref (a1 90 0))]) hx hb dL_law__2846 hl (by decide) rfl (fun ls hl => ?_)
  refine l_tail (off := 351) X hR hS ml_L_149 mw_X9_thrown hl hgt (fun h => (congrArg dL (h92 h)).trans ((dL_eL _).trans (congrArg Int32.toInt64 (hv (km0 (by decide) h))))) (by omega) (by omega) (by decide) dL_law__2848 dL_law__2849 dL_law__2852 dL_law__2854 dL_law__2859 dL_law__2861 dL_law__2864 dL_law__2865 dL_law__2866 dL_law__2867 dL_law__2869 dL_law__2870 dL_law__2871 dL_law__2876 (fun H locs hR hS => ?_)
  refine W.widen (k := cells + 5) (n := slots + 4900) (by omega) (by omega) ?_
  exact kk a1 u2 H locs ls hI2 hR hS (lv_sub hl [2, 3, 4, 5, 6] rfl)
set_option maxHeartbeats 4000000 in
theorem cs_odds {u : HS} {i : Int32} (X : LXm E p l s m meth c b L xs) (hi : ∀ j ∈ ([1, 2, 3, 4, 5, 6] : List Int32), vp_in (i + j) L) (hI : IV u) (hR : Rel E a u H) (hS : va_S (AE E) s.heap H locs) (hl : lv_has ls 8 [(4, .int i), (0, .ref b), (1, .ref (a 8 0)), (2, .ref (a 9 0)), (3, .ref (a 90 0))]) (hcs : cells + 5 ≤ room_1.cells) (hss : slots + 4900 ≤ room_1.slots) (kk : LK E p l e s m below meth c b i cells slots Q) : W p l e room_1 s m #[.ref b] below meth c H locs cells slots Q (F0 m 2879 ls []) := by
  have hx := X.1.1
  have hb := X.1.2.1
  obtain ⟨k, v, u1, r, u2, hc, hr, hgt, hv, hk, hI2⟩ := s_odds (ag xs i 1) u hI
  have hc : mX8_odds u (ag xs i 1) = some (k, v, u1) := hc
  have hr : mX9_odds u1 (ag xs i 1) = some (r, u2) := hr
  refine lv_aload_n hx hb dL_law__2879 rfl (lv_at hl 2 rfl) ?_
  refine l_arg (j := 1) X hS (hi 1 (by decide)) (lv_at hl 1 rfl) (lv_at hl 0 rfl) (by decide) dL_law__2880 dL_law__2881 dL_law__2883 dL_law__2884 dL_law__2885 ?_
  refine lv_aload_n hx hb dL_law__2886 rfl (lv_at hl 4 rfl) ?_
  refine l_callH (As := [.ref (a 8 0), .int (ag xs i 1), .ref (a 90 0)]) (rest := []) X.1 (vL_odds X.2.2.2.2 (out := (k, v, u1)) (z := kmL [3] k) hc (km_3 hk)) hR hS ml_L_259 mh_odds rfl ⟨Nat.le_of_ble_eq_true rfl, Nat.le_of_ble_eq_true rfl, by omega, by omega⟩ hl.1 rfl (Nat.le_of_ble_eq_true rfl) dL_law__2887 (fun a1 H locs hAL hR hS h92 => ?_)
  have hl : lv_has ls 8 [(4, .int i), (0, .ref b), (1, .ref (a1 8 0)), (2, .ref (a1 9 0)), (3, .ref (a1 90 0))] := by rw [hAL 8 0 (by decide) (by decide) (by decide) (by decide), hAL 9 0 (by decide) (by decide) (by decide) (by decide), hAL 90 0 (by decide) (by decide) (by decide) (by decide)]; exact hl
  refine lv_istore (lv' := [(5, .int (kmL [3] k)), (4, .int i), (0, .ref b), (1, .ref (a1 8 0)), (2, .ref (a1 9 0)), (3, .ref (a1 90 0))]) hx hb dL_law__2890 hl (by decide) rfl (fun ls hl => ?_)
  refine lv_aload_n hx hb dL_law__2892 rfl (lv_at hl 4 rfl) ?_
  refine l_arg (j := 1) X hS (hi 1 (by decide)) (lv_at hl 2 rfl) (lv_at hl 1 rfl) (by decide) dL_law__2893 dL_law__2894 dL_law__2896 dL_law__2897 dL_law__2898 ?_
  refine r_callV1 (As := [.int (ag xs i 1)]) (rest := []) (r := 9) (i := 0) X.1 (vX9_odds (out := (r, u2)) hr) hR hS (lv0 (by decide) (by decide)) (by decide) ml_L_261 mw_X9_odds rfl ⟨Nat.le_of_ble_eq_true rfl, Nat.le_of_ble_eq_true rfl, by omega, by omega⟩ hl.1 rfl (Nat.le_of_ble_eq_true rfl) dL_law__2899 (fun H locs hR hS => ?_)
  refine lv_lstore (lv' := [(6, .long r), (5, .int (kmL [3] k)), (4, .int i), (0, .ref b), (1, .ref (a1 8 0)), (2, .ref (a1 9 0)), (3, .ref (a1 90 0))]) hx hb dL_law__2902 hl (by decide) rfl (fun ls hl => ?_)
  refine l_thrown X hR hS ml_L_149 mw_X9_thrown hl.1 (lv_at hl 5 rfl) dL_law__2904 dL_law__2905 (by omega) (by omega) (fun H locs hR hS => ?_)
  refine lv_iload hx hb dL_law__2908 (lv_at hl 1 rfl) ?_
  refine lv_icmp_eq (tgt := 2915) hx hb dL_law__2910 (by decide) (fun _ => ?_) (fun c9 => absurd hgt c9)
  refine lv_iload hx hb dL_law__2915 (lv_at hl 1 rfl) ?_
  refine lv_if_ne (tgt := 2931) hx hb dL_law__2917 (by decide) (fun _ => ?_) (fun c9 => ?_)
  · refine lv_goto (tgt := 3227) hx hb dL_law__2931 (by decide) ?_
    refine W.widen (k := cells + 5) (n := slots + 4900) (by omega) (by omega) ?_
    exact kk a1 u2 H locs ls hI2 hR hS (lv_sub hl [2, 3, 4, 5, 6] rfl)
  · refine lv_aload_n hx hb dL_law__2920 rfl (lv_at hl 6 rfl) ?_
    refine lv_iconst (v := 0) hx hb dL_law__2921 (by decide) ?_
    refine r_outld X.1 hR dL_law__2922 ?_
    refine lv_lload hx hb dL_law__2923 (lv_at hl 0 rfl) ?_
    refine l_same (tgt := 2931) (off := 5) ((congrArg dL (h92 c9)).trans ((dL_eL _).trans (hv (km0 (by decide) c9)))) hx hb dL_law__2925 dL_law__2926 (by decide) ?_
    refine lv_goto (tgt := 3227) hx hb dL_law__2931 (by decide) ?_
    refine W.widen (k := cells + 5) (n := slots + 4900) (by omega) (by omega) ?_
    exact kk a1 u2 H locs ls hI2 hR hS (lv_sub hl [2, 3, 4, 5, 6] rfl)
set_option maxHeartbeats 4000000 in
theorem cs_best {u : HS} {i : Int32} (X : LXm E p l s m meth c b L xs) (hi : ∀ j ∈ ([1, 2, 3, 4, 5, 6] : List Int32), vp_in (i + j) L) (hI : IV u) (hR : Rel E a u H) (hS : va_S (AE E) s.heap H locs) (hl : lv_has ls 8 [(4, .int i), (0, .ref b), (1, .ref (a 8 0)), (2, .ref (a 9 0)), (3, .ref (a 90 0))]) (hcs : cells + 5 ≤ room_1.cells) (hss : slots + 4900 ≤ room_1.slots) (kk : LK E p l e s m below meth c b i cells slots Q) : W p l e room_1 s m #[.ref b] below meth c H locs cells slots Q (F0 m 2934 ls []) := by
  have hx := X.1.1
  have hb := X.1.2.1
  obtain ⟨v, u1, u2, hc, hr, hgt, hI2⟩ := s_best u hI
  have hc : mX8_best u = some (v, u1) := hc
  have hr : mX9_best u1 = some (v, u2) := hr
  refine lv_aload_n hx hb dL_law__2934 rfl (lv_at hl 2 rfl) ?_
  refine r_callV1 (v := .int v) (As := []) (rest := []) (r := 8) (i := 0) X.1 (vX8_best (out := (v, u1)) hc) hR hS (lv0 (by decide) (by decide)) (by decide) ml_L_262 mw_X8_best rfl ⟨Nat.le_of_ble_eq_true rfl, Nat.le_of_ble_eq_true rfl, by omega, by omega⟩ hl.1 rfl (Nat.le_of_ble_eq_true rfl) dL_law__2935 (fun H locs hR hS => ?_)
  refine lv_aload_n hx hb dL_law__2938 rfl (lv_at hl 3 rfl) ?_
  refine r_callV1 (v := .int v) (As := []) (rest := [.int v]) (r := 9) (i := 0) X.1 (vX9_best (out := (v, u2)) hr) hR hS (lv0 (by decide) (by decide)) (by decide) ml_L_265 mw_X9_best rfl ⟨Nat.le_of_ble_eq_true rfl, Nat.le_of_ble_eq_true rfl, by omega, by omega⟩ hl.1 rfl (Nat.le_of_ble_eq_true rfl) dL_law__2939 (fun H locs hR hS => ?_)
  refine lv_icmp_eq (tgt := 3227) hx hb dL_law__2942 (by decide) (fun _ => ?_) (fun c9 => absurd rfl c9)
  refine W.widen (k := cells + 5) (n := slots + 4900) (by omega) (by omega) ?_
  exact kk a u2 H locs ls hI2 hR hS hl
set_option maxHeartbeats 4000000 in
theorem cs_fits {u : HS} {i : Int32} (X : LXm E p l s m meth c b L xs) (hi : ∀ j ∈ ([1, 2, 3, 4, 5, 6] : List Int32), vp_in (i + j) L) (hI : IV u) (hR : Rel E a u H) (hS : va_S (AE E) s.heap H locs) (hl : lv_has ls 8 [(4, .int i), (0, .ref b), (1, .ref (a 8 0)), (2, .ref (a 9 0)), (3, .ref (a 90 0))]) (hcs : cells + 5 ≤ room_1.cells) (hss : slots + 4900 ≤ room_1.slots) (kk : LK E p l e s m below meth c b i cells slots Q) : W p l e room_1 s m #[.ref b] below meth c H locs cells slots Q (F0 m 2947 ls []) := by
  have hx := X.1.1
  have hb := X.1.2.1
  obtain ⟨k, v, u1, r, u2, hc, hr, hgt, hv, hk, hI2⟩ := s_fits (ag xs i 1) u hI
  have hc : mX8_fits u (ag xs i 1) = some (k, v, u1) := hc
  have hr : mX9_fits u1 (ag xs i 1) = some (r, u2) := hr
  refine lv_aload_n hx hb dL_law__2947 rfl (lv_at hl 2 rfl) ?_
  refine l_arg (j := 1) X hS (hi 1 (by decide)) (lv_at hl 1 rfl) (lv_at hl 0 rfl) (by decide) dL_law__2948 dL_law__2949 dL_law__2951 dL_law__2952 dL_law__2953 ?_
  refine lv_aload_n hx hb dL_law__2954 rfl (lv_at hl 4 rfl) ?_
  refine l_callH (As := [.ref (a 8 0), .int (ag xs i 1), .ref (a 90 0)]) (rest := []) X.1 (vL_fits X.2.2.2.2 (out := (k, v, u1)) (z := kmL [1] k) hc (km_1 hk)) hR hS ml_L_266 mh_fits rfl ⟨Nat.le_of_ble_eq_true rfl, Nat.le_of_ble_eq_true rfl, by omega, by omega⟩ hl.1 rfl (Nat.le_of_ble_eq_true rfl) dL_law__2955 (fun a1 H locs hAL hR hS h92 => ?_)
  have hl : lv_has ls 8 [(4, .int i), (0, .ref b), (1, .ref (a1 8 0)), (2, .ref (a1 9 0)), (3, .ref (a1 90 0))] := by rw [hAL 8 0 (by decide) (by decide) (by decide) (by decide), hAL 9 0 (by decide) (by decide) (by decide) (by decide), hAL 90 0 (by decide) (by decide) (by decide) (by decide)]; exact hl
  refine lv_istore (lv' := [(5, .int (kmL [1] k)), (4, .int i), (0, .ref b), (1, .ref (a1 8 0)), (2, .ref (a1 9 0)), (3, .ref (a1 90 0))]) hx hb dL_law__2958 hl (by decide) rfl (fun ls hl => ?_)
  refine lv_aload_n hx hb dL_law__2960 rfl (lv_at hl 4 rfl) ?_
  refine l_arg (j := 1) X hS (hi 1 (by decide)) (lv_at hl 2 rfl) (lv_at hl 1 rfl) (by decide) dL_law__2961 dL_law__2962 dL_law__2964 dL_law__2965 dL_law__2966 ?_
  refine r_callV1 (As := [.int (ag xs i 1)]) (rest := []) (r := 9) (i := 0) X.1 (vX9_fits (out := (r, u2)) hr) hR hS (lv0 (by decide) (by decide)) (by decide) ml_L_268 mw_X9_fits rfl ⟨Nat.le_of_ble_eq_true rfl, Nat.le_of_ble_eq_true rfl, by omega, by omega⟩ hl.1 rfl (Nat.le_of_ble_eq_true rfl) dL_law__2967 (fun H locs hR hS => ?_)
  refine lv_istore (lv' := [(6, .int r), (5, .int (kmL [1] k)), (4, .int i), (0, .ref b), (1, .ref (a1 8 0)), (2, .ref (a1 9 0)), (3, .ref (a1 90 0))]) hx hb dL_law__2970 hl (by decide) rfl (fun ls hl => ?_)
  refine l_tail (off := 227) X hR hS ml_L_149 mw_X9_thrown hl hgt (fun h => (congrArg dL (h92 h)).trans ((dL_eL _).trans (congrArg Int32.toInt64 (hv (km0 (by decide) h))))) (by omega) (by omega) (by decide) dL_law__2972 dL_law__2973 dL_law__2976 dL_law__2978 dL_law__2983 dL_law__2985 dL_law__2988 dL_law__2989 dL_law__2990 dL_law__2991 dL_law__2993 dL_law__2994 dL_law__2995 dL_law__3000 (fun H locs hR hS => ?_)
  refine W.widen (k := cells + 5) (n := slots + 4900) (by omega) (by omega) ?_
  exact kk a1 u2 H locs ls hI2 hR hS (lv_sub hl [2, 3, 4, 5, 6] rfl)
set_option maxHeartbeats 4000000 in
theorem cs_next {u : HS} {i : Int32} (X : LXm E p l s m meth c b L xs) (hi : ∀ j ∈ ([1, 2, 3, 4, 5, 6] : List Int32), vp_in (i + j) L) (hI : IV u) (hR : Rel E a u H) (hS : va_S (AE E) s.heap H locs) (hl : lv_has ls 8 [(4, .int i), (0, .ref b), (1, .ref (a 8 0)), (2, .ref (a 9 0)), (3, .ref (a 90 0))]) (hcs : cells + 5 ≤ room_1.cells) (hss : slots + 4900 ≤ room_1.slots) (kk : LK E p l e s m below meth c b i cells slots Q) : W p l e room_1 s m #[.ref b] below meth c H locs cells slots Q (F0 m 3003 ls []) := by
  have hx := X.1.1
  have hb := X.1.2.1
  obtain ⟨v, u1, u2, hc, hr, hgt, hI2⟩ := s_next u hI
  have hc : mX8_next u = some (v, u1) := hc
  have hr : mX9_next u1 = some (v, u2) := hr
  refine lv_aload_n hx hb dL_law__3003 rfl (lv_at hl 2 rfl) ?_
  refine r_callV1 (v := .int v) (As := []) (rest := []) (r := 8) (i := 0) X.1 (vX8_next (out := (v, u1)) hc) hR hS (lv0 (by decide) (by decide)) (by decide) ml_L_269 mw_X8_next rfl ⟨Nat.le_of_ble_eq_true rfl, Nat.le_of_ble_eq_true rfl, by omega, by omega⟩ hl.1 rfl (Nat.le_of_ble_eq_true rfl) dL_law__3004 (fun H locs hR hS => ?_)
  refine lv_aload_n hx hb dL_law__3007 rfl (lv_at hl 3 rfl) ?_
  refine l_callN (v := .int v) (As := []) (rest := [.int v]) X.1 (vX9_next (out := (v, u2)) hr) hR hS ml_L_272 mw_X9_next rfl ⟨Nat.le_of_ble_eq_true rfl, Nat.le_of_ble_eq_true rfl, by omega, by omega⟩ hl.1 rfl (Nat.le_of_ble_eq_true rfl) dL_law__3008 (fun a1 H locs hAN hR hS => ?_)
  have hl : lv_has ls 8 [(4, .int i), (0, .ref b), (1, .ref (a1 8 0)), (2, .ref (a1 9 0)), (3, .ref (a1 90 0))] := by rw [hAN 8 0 (by decide), hAN 9 0 (by decide), hAN 90 0 (by decide)]; exact hl
  refine lv_icmp_eq (tgt := 3227) hx hb dL_law__3011 (by decide) (fun _ => ?_) (fun c9 => absurd rfl c9)
  refine W.widen (k := cells + 5) (n := slots + 4900) (by omega) (by omega) ?_
  exact kk a1 u2 H locs ls hI2 hR hS hl
set_option maxHeartbeats 4000000 in
theorem cs_knowing {u : HS} {i : Int32} (X : LXm E p l s m meth c b L xs) (hi : ∀ j ∈ ([1, 2, 3, 4, 5, 6] : List Int32), vp_in (i + j) L) (hI : IV u) (hR : Rel E a u H) (hS : va_S (AE E) s.heap H locs) (hl : lv_has ls 8 [(4, .int i), (0, .ref b), (1, .ref (a 8 0)), (2, .ref (a 9 0)), (3, .ref (a 90 0))]) (hcs : cells + 5 ≤ room_1.cells) (hss : slots + 4900 ≤ room_1.slots) (kk : LK E p l e s m below meth c b i cells slots Q) : W p l e room_1 s m #[.ref b] below meth c H locs cells slots Q (F0 m 3016 ls []) := by
  have hx := X.1.1
  have hb := X.1.2.1
  obtain ⟨k, v, u1, r, u2, hc, hr, hgt, hv, hk, hI2⟩ := s_knowing (ag xs i 1) (ag xs i 2) u hI
  have hc : mX8_knowing u (ag xs i 1) (ag xs i 2) = some (k, v, u1) := hc
  have hr : mX9_knowing u1 (ag xs i 1) (ag xs i 2) = some (r, u2) := hr
  refine lv_aload_n hx hb dL_law__3016 rfl (lv_at hl 2 rfl) ?_
  refine l_arg (j := 1) X hS (hi 1 (by decide)) (lv_at hl 1 rfl) (lv_at hl 0 rfl) (by decide) dL_law__3017 dL_law__3018 dL_law__3020 dL_law__3021 dL_law__3022 ?_
  refine l_arg (j := 2) X hS (hi 2 (by decide)) (lv_at hl 1 rfl) (lv_at hl 0 rfl) (by decide) dL_law__3023 dL_law__3024 dL_law__3026 dL_law__3027 dL_law__3028 ?_
  refine lv_aload_n hx hb dL_law__3029 rfl (lv_at hl 4 rfl) ?_
  refine l_callH (As := [.ref (a 8 0), .int (ag xs i 1), .int (ag xs i 2), .ref (a 90 0)]) (rest := []) X.1 (vL_knowing X.2.2.2.2 (out := (k, v, u1)) (z := kmL [3, 1] k) hc (km_31 hk)) hR hS ml_L_273 mh_knowing rfl ⟨Nat.le_of_ble_eq_true rfl, Nat.le_of_ble_eq_true rfl, by omega, by omega⟩ hl.1 rfl (Nat.le_of_ble_eq_true rfl) dL_law__3030 (fun a1 H locs hAL hR hS h92 => ?_)
  have hl : lv_has ls 8 [(4, .int i), (0, .ref b), (1, .ref (a1 8 0)), (2, .ref (a1 9 0)), (3, .ref (a1 90 0))] := by rw [hAL 8 0 (by decide) (by decide) (by decide) (by decide), hAL 9 0 (by decide) (by decide) (by decide) (by decide), hAL 90 0 (by decide) (by decide) (by decide) (by decide)]; exact hl
  refine lv_istore (lv' := [(5, .int (kmL [3, 1] k)), (4, .int i), (0, .ref b), (1, .ref (a1 8 0)), (2, .ref (a1 9 0)), (3, .ref (a1 90 0))]) hx hb dL_law__3033 hl (by decide) rfl (fun ls hl => ?_)
  refine lv_aload_n hx hb dL_law__3035 rfl (lv_at hl 4 rfl) ?_
  refine l_arg (j := 1) X hS (hi 1 (by decide)) (lv_at hl 2 rfl) (lv_at hl 1 rfl) (by decide) dL_law__3036 dL_law__3037 dL_law__3039 dL_law__3040 dL_law__3041 ?_
  refine l_arg (j := 2) X hS (hi 2 (by decide)) (lv_at hl 2 rfl) (lv_at hl 1 rfl) (by decide) dL_law__3042 dL_law__3043 dL_law__3045 dL_law__3046 dL_law__3047 ?_
  refine r_callV1 (As := [.int (ag xs i 1), .int (ag xs i 2)]) (rest := []) (r := 9) (i := 0) X.1 (vX9_knowing (out := (r, u2)) hr) hR hS (lv0 (by decide) (by decide)) (by decide) ml_L_275 mw_X9_knowing rfl ⟨Nat.le_of_ble_eq_true rfl, Nat.le_of_ble_eq_true rfl, by omega, by omega⟩ hl.1 rfl (Nat.le_of_ble_eq_true rfl) dL_law__3048 (fun H locs hR hS => ?_)
  refine lv_istore (lv' := [(6, .int r), (5, .int (kmL [3, 1] k)), (4, .int i), (0, .ref b), (1, .ref (a1 8 0)), (2, .ref (a1 9 0)), (3, .ref (a1 90 0))]) hx hb dL_law__3051 hl (by decide) rfl (fun ls hl => ?_)
  refine l_tail (off := 146) X hR hS ml_L_149 mw_X9_thrown hl hgt (fun h => (congrArg dL (h92 h)).trans ((dL_eL _).trans (congrArg Int32.toInt64 (hv (km0 (by decide) h))))) (by omega) (by omega) (by decide) dL_law__3053 dL_law__3054 dL_law__3057 dL_law__3059 dL_law__3064 dL_law__3066 dL_law__3069 dL_law__3070 dL_law__3071 dL_law__3072 dL_law__3074 dL_law__3075 dL_law__3076 dL_law__3081 (fun H locs hR hS => ?_)
  refine W.widen (k := cells + 5) (n := slots + 4900) (by omega) (by omega) ?_
  exact kk a1 u2 H locs ls hI2 hR hS (lv_sub hl [2, 3, 4, 5, 6] rfl)
set_option maxHeartbeats 4000000 in
theorem cs_crossing {u : HS} {i : Int32} (X : LXm E p l s m meth c b L xs) (hi : ∀ j ∈ ([1, 2, 3, 4, 5, 6] : List Int32), vp_in (i + j) L) (hI : IV u) (hR : Rel E a u H) (hS : va_S (AE E) s.heap H locs) (hl : lv_has ls 8 [(4, .int i), (0, .ref b), (1, .ref (a 8 0)), (2, .ref (a 9 0)), (3, .ref (a 90 0))]) (hcs : cells + 5 ≤ room_1.cells) (hss : slots + 4900 ≤ room_1.slots) (kk : LK E p l e s m below meth c b i cells slots Q) : W p l e room_1 s m #[.ref b] below meth c H locs cells slots Q (F0 m 3084 ls []) := by
  have hx := X.1.1
  have hb := X.1.2.1
  obtain ⟨k, v, u1, r, u2, hc, hr, hgt, hv, hk, hI2⟩ := s_crossing (ag xs i 1) (ag xs i 2) (ag xs i 3) (ag xs i 4) u hI
  have hc : mX8_crossing u (ag xs i 1) (ag xs i 2) (ag xs i 3) (ag xs i 4) = some (k, v, u1) := hc
  have hr : mX9_crossing u1 (ag xs i 1) (ag xs i 2) (ag xs i 3) (ag xs i 4) = some (r, u2) := hr
  refine lv_aload_n hx hb dL_law__3084 rfl (lv_at hl 2 rfl) ?_
  refine l_arg (j := 1) X hS (hi 1 (by decide)) (lv_at hl 1 rfl) (lv_at hl 0 rfl) (by decide) dL_law__3085 dL_law__3086 dL_law__3088 dL_law__3089 dL_law__3090 ?_
  refine l_arg (j := 2) X hS (hi 2 (by decide)) (lv_at hl 1 rfl) (lv_at hl 0 rfl) (by decide) dL_law__3091 dL_law__3092 dL_law__3094 dL_law__3095 dL_law__3096 ?_
  refine l_arg (j := 3) X hS (hi 3 (by decide)) (lv_at hl 1 rfl) (lv_at hl 0 rfl) (by decide) dL_law__3097 dL_law__3098 dL_law__3100 dL_law__3101 dL_law__3102 ?_
  refine l_arg (j := 4) X hS (hi 4 (by decide)) (lv_at hl 1 rfl) (lv_at hl 0 rfl) (by decide) dL_law__3103 dL_law__3104 dL_law__3106 dL_law__3107 dL_law__3108 ?_
  refine lv_aload_n hx hb dL_law__3109 rfl (lv_at hl 4 rfl) ?_
  refine l_callH (As := [.ref (a 8 0), .int (ag xs i 1), .int (ag xs i 2), .int (ag xs i 3), .int (ag xs i 4), .ref (a 90 0)]) (rest := []) X.1 (vL_crossing X.2.2.2.2 (out := (k, v, u1)) (z := kmL [2, 3, 1] k) hc (km_231 hk)) hR hS ml_L_276 mh_crossing rfl ⟨Nat.le_of_ble_eq_true rfl, Nat.le_of_ble_eq_true rfl, by omega, by omega⟩ hl.1 rfl (Nat.le_of_ble_eq_true rfl) dL_law__3110 (fun a1 H locs hAL hR hS h92 => ?_)
  have hl : lv_has ls 8 [(4, .int i), (0, .ref b), (1, .ref (a1 8 0)), (2, .ref (a1 9 0)), (3, .ref (a1 90 0))] := by rw [hAL 8 0 (by decide) (by decide) (by decide) (by decide), hAL 9 0 (by decide) (by decide) (by decide) (by decide), hAL 90 0 (by decide) (by decide) (by decide) (by decide)]; exact hl
  refine lv_istore (lv' := [(5, .int (kmL [2, 3, 1] k)), (4, .int i), (0, .ref b), (1, .ref (a1 8 0)), (2, .ref (a1 9 0)), (3, .ref (a1 90 0))]) hx hb dL_law__3113 hl (by decide) rfl (fun ls hl => ?_)
  refine lv_aload_n hx hb dL_law__3115 rfl (lv_at hl 4 rfl) ?_
  refine l_arg (j := 1) X hS (hi 1 (by decide)) (lv_at hl 2 rfl) (lv_at hl 1 rfl) (by decide) dL_law__3116 dL_law__3117 dL_law__3119 dL_law__3120 dL_law__3121 ?_
  refine l_arg (j := 2) X hS (hi 2 (by decide)) (lv_at hl 2 rfl) (lv_at hl 1 rfl) (by decide) dL_law__3122 dL_law__3123 dL_law__3125 dL_law__3126 dL_law__3127 ?_
  refine l_arg (j := 3) X hS (hi 3 (by decide)) (lv_at hl 2 rfl) (lv_at hl 1 rfl) (by decide) dL_law__3128 dL_law__3129 dL_law__3131 dL_law__3132 dL_law__3133 ?_
  refine l_arg (j := 4) X hS (hi 4 (by decide)) (lv_at hl 2 rfl) (lv_at hl 1 rfl) (by decide) dL_law__3134 dL_law__3135 dL_law__3137 dL_law__3138 dL_law__3139 ?_
  refine r_callV1 (As := [.int (ag xs i 1), .int (ag xs i 2), .int (ag xs i 3), .int (ag xs i 4)]) (rest := []) (r := 9) (i := 0) X.1 (vX9_crossing (out := (r, u2)) hr) hR hS (lv0 (by decide) (by decide)) (by decide) ml_L_278 mw_X9_crossing rfl ⟨Nat.le_of_ble_eq_true rfl, Nat.le_of_ble_eq_true rfl, by omega, by omega⟩ hl.1 rfl (Nat.le_of_ble_eq_true rfl) dL_law__3140 (fun H locs hR hS => ?_)
  refine lv_istore (lv' := [(6, .int r), (5, .int (kmL [2, 3, 1] k)), (4, .int i), (0, .ref b), (1, .ref (a1 8 0)), (2, .ref (a1 9 0)), (3, .ref (a1 90 0))]) hx hb dL_law__3143 hl (by decide) rfl (fun ls hl => ?_)
  refine l_tail (off := 54) X hR hS ml_L_149 mw_X9_thrown hl hgt (fun h => (congrArg dL (h92 h)).trans ((dL_eL _).trans (congrArg Int32.toInt64 (hv (km0 (by decide) h))))) (by omega) (by omega) (by decide) dL_law__3145 dL_law__3146 dL_law__3149 dL_law__3151 dL_law__3156 dL_law__3158 dL_law__3161 dL_law__3162 dL_law__3163 dL_law__3164 dL_law__3166 dL_law__3167 dL_law__3168 dL_law__3173 (fun H locs hR hS => ?_)
  refine W.widen (k := cells + 5) (n := slots + 4900) (by omega) (by omega) ?_
  exact kk a1 u2 H locs ls hI2 hR hS (lv_sub hl [2, 3, 4, 5, 6] rfl)
set_option maxHeartbeats 4000000 in
theorem cs_image {u : HS} {i : Int32} (X : LXm E p l s m meth c b L xs) (hi : ∀ j ∈ ([1, 2, 3, 4, 5, 6] : List Int32), vp_in (i + j) L) (hI : IV u) (hR : Rel E a u H) (hS : va_S (AE E) s.heap H locs) (hl : lv_has ls 8 [(4, .int i), (0, .ref b), (1, .ref (a 8 0)), (2, .ref (a 9 0)), (3, .ref (a 90 0))]) (hcs : cells + 5 ≤ room_1.cells) (hss : slots + 4900 ≤ room_1.slots) (kk : LK E p l e s m below meth c b i cells slots Q) : W p l e room_1 s m #[.ref b] below meth c H locs cells slots Q (F0 m 3176 ls []) := by
  have hx := X.1.1
  have hb := X.1.2.1
  obtain ⟨v, u1, u2, hc, hr, hgt, hI2⟩ := s_image u hI
  have hc : mX8_image u = some (v, u1) := hc
  have hr : mX9_image u1 = some (v, u2) := hr
  refine lv_aload_n hx hb dL_law__3176 rfl (lv_at hl 2 rfl) ?_
  refine r_callV1 (v := .int v) (As := []) (rest := []) (r := 8) (i := 0) X.1 (vX8_image (out := (v, u1)) hc) hR hS (lv0 (by decide) (by decide)) (by decide) ml_L_279 mw_X8_image rfl ⟨Nat.le_of_ble_eq_true rfl, Nat.le_of_ble_eq_true rfl, by omega, by omega⟩ hl.1 rfl (Nat.le_of_ble_eq_true rfl) dL_law__3177 (fun H locs hR hS => ?_)
  refine lv_aload_n hx hb dL_law__3180 rfl (lv_at hl 3 rfl) ?_
  refine r_callV1 (v := .int v) (As := []) (rest := [.int v]) (r := 9) (i := 0) X.1 (vX9_image (out := (v, u2)) hr) hR hS (lv0 (by decide) (by decide)) (by decide) ml_L_282 mw_X9_image rfl ⟨Nat.le_of_ble_eq_true rfl, Nat.le_of_ble_eq_true rfl, by omega, by omega⟩ hl.1 rfl (Nat.le_of_ble_eq_true rfl) dL_law__3181 (fun H locs hR hS => ?_)
  refine lv_icmp_eq (tgt := 3227) hx hb dL_law__3184 (by decide) (fun _ => ?_) (fun c9 => absurd rfl c9)
  refine W.widen (k := cells + 5) (n := slots + 4900) (by omega) (by omega) ?_
  exact kk a u2 H locs ls hI2 hR hS hl
set_option maxHeartbeats 4000000 in
theorem cs_restore {u : HS} {i : Int32} (X : LXm E p l s m meth c b L xs) (hi : ∀ j ∈ ([1, 2, 3, 4, 5, 6] : List Int32), vp_in (i + j) L) (hI : IV u) (hR : Rel E a u H) (hS : va_S (AE E) s.heap H locs) (hl : lv_has ls 8 [(4, .int i), (0, .ref b), (1, .ref (a 8 0)), (2, .ref (a 9 0)), (3, .ref (a 90 0))]) (hcs : cells + 5 ≤ room_1.cells) (hss : slots + 4900 ≤ room_1.slots) (kk : LK E p l e s m below meth c b i cells slots Q) : W p l e room_1 s m #[.ref b] below meth c H locs cells slots Q (F0 m 3189 ls []) := by
  have hx := X.1.1
  have hb := X.1.2.1
  obtain ⟨v, u1, u2, hc, hr, hgt, hI2⟩ := s_restore u hI
  have hc : mX8_restore u = some (v, u1) := hc
  have hr : mX9_restore u1 = some (v, u2) := hr
  refine lv_aload_n hx hb dL_law__3189 rfl (lv_at hl 2 rfl) ?_
  refine r_callV1 (v := .int v) (As := []) (rest := []) (r := 8) (i := 0) X.1 (vX8_restore (out := (v, u1)) hc) hR hS (lv0 (by decide) (by decide)) (by decide) ml_L_283 mw_X8_restore rfl ⟨Nat.le_of_ble_eq_true rfl, Nat.le_of_ble_eq_true rfl, by omega, by omega⟩ hl.1 rfl (Nat.le_of_ble_eq_true rfl) dL_law__3190 (fun H locs hR hS => ?_)
  refine lv_aload_n hx hb dL_law__3193 rfl (lv_at hl 3 rfl) ?_
  refine r_callV1 (v := .int v) (As := []) (rest := [.int v]) (r := 9) (i := 0) X.1 (vX9_restore (out := (v, u2)) hr) hR hS (lv0 (by decide) (by decide)) (by decide) ml_L_286 mw_X9_restore rfl ⟨Nat.le_of_ble_eq_true rfl, Nat.le_of_ble_eq_true rfl, by omega, by omega⟩ hl.1 rfl (Nat.le_of_ble_eq_true rfl) dL_law__3194 (fun H locs hR hS => ?_)
  refine lv_icmp_eq (tgt := 3227) hx hb dL_law__3197 (by decide) (fun _ => ?_) (fun c9 => absurd rfl c9)
  refine W.widen (k := cells + 5) (n := slots + 4900) (by omega) (by omega) ?_
  exact kk a u2 H locs ls hI2 hR hS hl
set_option maxHeartbeats 4000000 in
theorem cs_count {u : HS} {i : Int32} (X : LXm E p l s m meth c b L xs) (hi : ∀ j ∈ ([1, 2, 3, 4, 5, 6] : List Int32), vp_in (i + j) L) (hI : IV u) (hR : Rel E a u H) (hS : va_S (AE E) s.heap H locs) (hl : lv_has ls 8 [(4, .int i), (0, .ref b), (1, .ref (a 8 0)), (2, .ref (a 9 0)), (3, .ref (a 90 0))]) (hcs : cells + 5 ≤ room_1.cells) (hss : slots + 4900 ≤ room_1.slots) (kk : LK E p l e s m below meth c b i cells slots Q) : W p l e room_1 s m #[.ref b] below meth c H locs cells slots Q (F0 m 3202 ls []) := by
  have hx := X.1.1
  have hb := X.1.2.1
  obtain ⟨v, u2, hc, hr, hI2⟩ := s_count (ag xs i 1) u hI
  have hc : mX8_count u (ag xs i 1) = some v := hc
  have hr : mX9_count u (ag xs i 1) = some (v, u2) := hr
  refine lv_aload_n hx hb dL_law__3202 rfl (lv_at hl 2 rfl) ?_
  refine l_arg (j := 1) X hS (hi 1 (by decide)) (lv_at hl 1 rfl) (lv_at hl 0 rfl) (by decide) dL_law__3203 dL_law__3204 dL_law__3206 dL_law__3207 dL_law__3208 ?_
  refine r_callV1 (v := .int v) (As := [.int (ag xs i 1)]) (rest := []) (r := 8) (i := 0) X.1 (vX8_count (out := v) hc) hR hS (lv0 (by decide) (by decide)) (by decide) ml_L_287 mw_X8_count rfl ⟨Nat.le_of_ble_eq_true rfl, Nat.le_of_ble_eq_true rfl, by omega, by omega⟩ hl.1 rfl (Nat.le_of_ble_eq_true rfl) dL_law__3209 (fun H locs hR hS => ?_)
  refine lv_aload_n hx hb dL_law__3212 rfl (lv_at hl 3 rfl) ?_
  refine l_arg (j := 1) X hS (hi 1 (by decide)) (lv_at hl 1 rfl) (lv_at hl 0 rfl) (by decide) dL_law__3213 dL_law__3214 dL_law__3216 dL_law__3217 dL_law__3218 ?_
  refine r_callV1 (v := .int v) (As := [.int (ag xs i 1)]) (rest := [.int v]) (r := 9) (i := 0) X.1 (vX9_count (out := (v, u2)) hr) hR hS (lv0 (by decide) (by decide)) (by decide) ml_L_290 mw_X9_count rfl ⟨Nat.le_of_ble_eq_true rfl, Nat.le_of_ble_eq_true rfl, by omega, by omega⟩ hl.1 rfl (Nat.le_of_ble_eq_true rfl) dL_law__3219 (fun H locs hR hS => ?_)
  refine lv_icmp_eq (tgt := 3227) hx hb dL_law__3222 (by decide) (fun _ => ?_) (fun c9 => absurd rfl c9)
  refine W.widen (k := cells + 5) (n := slots + 4900) (by omega) (by omega) ?_
  exact kk a u2 H locs ls hI2 hR hS hl
end R14
