/-! ===== the cases of the law's loop (1) ===== -/
section R14
variable {p : Program} {l : Launch} {e : Env} {s : State} {m : MethodId} {below : List Frame} {meth : Method} {c : Code} {H : Heap} {locs : List Loc} {cells slots : Nat} {Q : State → Prop}
variable {ls : Array Slot} {E : EV} {a : Nat → Nat → Nat} {b L : Nat} {xs : Nat → Int32}
set_option maxHeartbeats 4000000 in
theorem cs_blink {u : HS} {i : Int32} (X : LXm E p l s m meth c b L xs) (hi : ∀ j ∈ ([1, 2, 3, 4, 5, 6] : List Int32), vp_in (i + j) L) (hI : IV u) (hR : Rel E a u H) (hS : va_S (AE E) s.heap H locs) (hl : lv_has ls 8 [(4, .int i), (0, .ref b), (1, .ref (a 8 0)), (2, .ref (a 9 0)), (3, .ref (a 90 0))]) (hcs : cells + 5 ≤ room_1.cells) (hss : slots + 4900 ≤ room_1.slots) (kk : LK E p l e s m below meth c b i cells slots Q) : W p l e room_1 s m #[.ref b] below meth c H locs cells slots Q (F0 m 970 ls []) := by
  have hx := X.1.1
  have hb := X.1.2.1
  obtain ⟨k, v, u1, r, u2, hc, hr, hgt, hv, hk, hI2⟩ := s_blink (ag xs i 1) (ag xs i 2) (ag xs i 3) u hI
  have hc : mX8_blink u (ag xs i 1) (ag xs i 2) (ag xs i 3) = some (k, v, u1) := hc
  have hr : mX9_blink u1 (ag xs i 1) (ag xs i 2) (ag xs i 3) = some (r, u2) := hr
  refine lv_aload_n hx hb dL_law__970 rfl (lv_at hl 2 rfl) ?_
  refine l_arg (j := 1) X hS (hi 1 (by decide)) (lv_at hl 1 rfl) (lv_at hl 0 rfl) (by decide) dL_law__971 dL_law__972 dL_law__974 dL_law__975 dL_law__976 ?_
  refine l_arg (j := 2) X hS (hi 2 (by decide)) (lv_at hl 1 rfl) (lv_at hl 0 rfl) (by decide) dL_law__977 dL_law__978 dL_law__980 dL_law__981 dL_law__982 ?_
  refine l_arg (j := 3) X hS (hi 3 (by decide)) (lv_at hl 1 rfl) (lv_at hl 0 rfl) (by decide) dL_law__983 dL_law__984 dL_law__986 dL_law__987 dL_law__988 ?_
  refine lv_aload_n hx hb dL_law__989 rfl (lv_at hl 4 rfl) ?_
  refine l_callH (As := [.ref (a 8 0), .int (ag xs i 1), .int (ag xs i 2), .int (ag xs i 3), .ref (a 90 0)]) (rest := []) X.1 (vL_blink X.2.2.2.2 (out := (k, v, u1)) (z := kmL [1] k) hc (km_1 hk)) hR hS ml_L_184 mh_blink rfl ⟨Nat.le_of_ble_eq_true rfl, Nat.le_of_ble_eq_true rfl, by omega, by omega⟩ hl.1 rfl (Nat.le_of_ble_eq_true rfl) dL_law__990 (fun a1 H locs hAL hR hS h92 => ?_)
  have hl : lv_has ls 8 [(4, .int i), (0, .ref b), (1, .ref (a1 8 0)), (2, .ref (a1 9 0)), (3, .ref (a1 90 0))] := by rw [hAL 8 0 (by decide) (by decide) (by decide) (by decide), hAL 9 0 (by decide) (by decide) (by decide) (by decide), hAL 90 0 (by decide) (by decide) (by decide) (by decide)]; exact hl
  refine lv_istore (lv' := [(5, .int (kmL [1] k)), (4, .int i), (0, .ref b), (1, .ref (a1 8 0)), (2, .ref (a1 9 0)), (3, .ref (a1 90 0))]) hx hb dL_law__993 hl (by decide) rfl (fun ls hl => ?_)
  refine lv_aload_n hx hb dL_law__995 rfl (lv_at hl 4 rfl) ?_
  refine l_arg (j := 1) X hS (hi 1 (by decide)) (lv_at hl 2 rfl) (lv_at hl 1 rfl) (by decide) dL_law__996 dL_law__997 dL_law__999 dL_law__1000 dL_law__1001 ?_
  refine l_arg (j := 2) X hS (hi 2 (by decide)) (lv_at hl 2 rfl) (lv_at hl 1 rfl) (by decide) dL_law__1002 dL_law__1003 dL_law__1005 dL_law__1006 dL_law__1007 ?_
  refine l_arg (j := 3) X hS (hi 3 (by decide)) (lv_at hl 2 rfl) (lv_at hl 1 rfl) (by decide) dL_law__1008 dL_law__1009 dL_law__1011 dL_law__1012 dL_law__1013 ?_
  refine r_callV1 (As := [.int (ag xs i 1), .int (ag xs i 2), .int (ag xs i 3)]) (rest := []) (r := 9) (i := 0) X.1 (vX9_blink (out := (r, u2)) hr) hR hS (lv0 (by decide) (by decide)) (by decide) ml_L_187 mw_X9_blink rfl ⟨Nat.le_of_ble_eq_true rfl, Nat.le_of_ble_eq_true rfl, by omega, by omega⟩ hl.1 rfl (Nat.le_of_ble_eq_true rfl) dL_law__1014 (fun H locs hR hS => ?_)
  refine lv_istore (lv' := [(6, .int r), (5, .int (kmL [1] k)), (4, .int i), (0, .ref b), (1, .ref (a1 8 0)), (2, .ref (a1 9 0)), (3, .ref (a1 90 0))]) hx hb dL_law__1017 hl (by decide) rfl (fun ls hl => ?_)
  refine l_tail (off := 2180) X hR hS ml_L_149 mw_X9_thrown hl hgt (fun h => (congrArg dL (h92 h)).trans ((dL_eL _).trans (congrArg Int32.toInt64 (hv (km0 (by decide) h))))) (by omega) (by omega) (by decide) dL_law__1019 dL_law__1020 dL_law__1023 dL_law__1025 dL_law__1030 dL_law__1032 dL_law__1035 dL_law__1036 dL_law__1037 dL_law__1038 dL_law__1040 dL_law__1041 dL_law__1042 dL_law__1047 (fun H locs hR hS => ?_)
  refine W.widen (k := cells + 5) (n := slots + 4900) (by omega) (by omega) ?_
  exact kk a1 u2 H locs ls hI2 hR hS (lv_sub hl [2, 3, 4, 5, 6] rfl)
set_option maxHeartbeats 4000000 in
theorem cs_eye {u : HS} {i : Int32} (X : LXm E p l s m meth c b L xs) (hi : ∀ j ∈ ([1, 2, 3, 4, 5, 6] : List Int32), vp_in (i + j) L) (hI : IV u) (hR : Rel E a u H) (hS : va_S (AE E) s.heap H locs) (hl : lv_has ls 8 [(4, .int i), (0, .ref b), (1, .ref (a 8 0)), (2, .ref (a 9 0)), (3, .ref (a 90 0))]) (hcs : cells + 5 ≤ room_1.cells) (hss : slots + 4900 ≤ room_1.slots) (kk : LK E p l e s m below meth c b i cells slots Q) : W p l e room_1 s m #[.ref b] below meth c H locs cells slots Q (F0 m 1050 ls []) := by
  have hx := X.1.1
  have hb := X.1.2.1
  obtain ⟨k, v, u1, r, u2, hc, hr, hgt, hv, hk, hI2⟩ := s_eye (ag xs i 1) (ag xs i 2) u hI
  have hc : mX8_eye u (ag xs i 1) (ag xs i 2) = some (k, v, u1) := hc
  have hr : mX9_eye u1 (ag xs i 1) (ag xs i 2) = some (r, u2) := hr
  refine lv_aload_n hx hb dL_law__1050 rfl (lv_at hl 2 rfl) ?_
  refine l_arg (j := 1) X hS (hi 1 (by decide)) (lv_at hl 1 rfl) (lv_at hl 0 rfl) (by decide) dL_law__1051 dL_law__1052 dL_law__1054 dL_law__1055 dL_law__1056 ?_
  refine l_arg (j := 2) X hS (hi 2 (by decide)) (lv_at hl 1 rfl) (lv_at hl 0 rfl) (by decide) dL_law__1057 dL_law__1058 dL_law__1060 dL_law__1061 dL_law__1062 ?_
  refine lv_aload_n hx hb dL_law__1063 rfl (lv_at hl 4 rfl) ?_
  refine l_callH (As := [.ref (a 8 0), .int (ag xs i 1), .int (ag xs i 2), .ref (a 90 0)]) (rest := []) X.1 (vL_eye X.2.2.2.2 (out := (k, v, u1)) (z := kmL [1] k) hc (km_1 hk)) hR hS ml_L_188 mh_eye rfl ⟨Nat.le_of_ble_eq_true rfl, Nat.le_of_ble_eq_true rfl, by omega, by omega⟩ hl.1 rfl (Nat.le_of_ble_eq_true rfl) dL_law__1064 (fun a1 H locs hAL hR hS h92 => ?_)
  have hl : lv_has ls 8 [(4, .int i), (0, .ref b), (1, .ref (a1 8 0)), (2, .ref (a1 9 0)), (3, .ref (a1 90 0))] := by rw [hAL 8 0 (by decide) (by decide) (by decide) (by decide), hAL 9 0 (by decide) (by decide) (by decide) (by decide), hAL 90 0 (by decide) (by decide) (by decide) (by decide)]; exact hl
  refine lv_istore (lv' := [(5, .int (kmL [1] k)), (4, .int i), (0, .ref b), (1, .ref (a1 8 0)), (2, .ref (a1 9 0)), (3, .ref (a1 90 0))]) hx hb dL_law__1067 hl (by decide) rfl (fun ls hl => ?_)
  refine lv_aload_n hx hb dL_law__1069 rfl (lv_at hl 4 rfl) ?_
  refine l_arg (j := 1) X hS (hi 1 (by decide)) (lv_at hl 2 rfl) (lv_at hl 1 rfl) (by decide) dL_law__1070 dL_law__1071 dL_law__1073 dL_law__1074 dL_law__1075 ?_
  refine l_arg (j := 2) X hS (hi 2 (by decide)) (lv_at hl 2 rfl) (lv_at hl 1 rfl) (by decide) dL_law__1076 dL_law__1077 dL_law__1079 dL_law__1080 dL_law__1081 ?_
  refine r_callV1 (As := [.int (ag xs i 1), .int (ag xs i 2)]) (rest := []) (r := 9) (i := 0) X.1 (vX9_eye (out := (r, u2)) hr) hR hS (lv0 (by decide) (by decide)) (by decide) ml_L_190 mw_X9_eye rfl ⟨Nat.le_of_ble_eq_true rfl, Nat.le_of_ble_eq_true rfl, by omega, by omega⟩ hl.1 rfl (Nat.le_of_ble_eq_true rfl) dL_law__1082 (fun H locs hR hS => ?_)
  refine lv_istore (lv' := [(6, .int r), (5, .int (kmL [1] k)), (4, .int i), (0, .ref b), (1, .ref (a1 8 0)), (2, .ref (a1 9 0)), (3, .ref (a1 90 0))]) hx hb dL_law__1085 hl (by decide) rfl (fun ls hl => ?_)
  refine l_tail (off := 2112) X hR hS ml_L_149 mw_X9_thrown hl hgt (fun h => (congrArg dL (h92 h)).trans ((dL_eL _).trans (congrArg Int32.toInt64 (hv (km0 (by decide) h))))) (by omega) (by omega) (by decide) dL_law__1087 dL_law__1088 dL_law__1091 dL_law__1093 dL_law__1098 dL_law__1100 dL_law__1103 dL_law__1104 dL_law__1105 dL_law__1106 dL_law__1108 dL_law__1109 dL_law__1110 dL_law__1115 (fun H locs hR hS => ?_)
  refine W.widen (k := cells + 5) (n := slots + 4900) (by omega) (by omega) ?_
  exact kk a1 u2 H locs ls hI2 hR hS (lv_sub hl [2, 3, 4, 5, 6] rfl)
set_option maxHeartbeats 4000000 in
theorem cs_on {u : HS} {i : Int32} (X : LXm E p l s m meth c b L xs) (hi : ∀ j ∈ ([1, 2, 3, 4, 5, 6] : List Int32), vp_in (i + j) L) (hI : IV u) (hR : Rel E a u H) (hS : va_S (AE E) s.heap H locs) (hl : lv_has ls 8 [(4, .int i), (0, .ref b), (1, .ref (a 8 0)), (2, .ref (a 9 0)), (3, .ref (a 90 0))]) (hcs : cells + 5 ≤ room_1.cells) (hss : slots + 4900 ≤ room_1.slots) (kk : LK E p l e s m below meth c b i cells slots Q) : W p l e room_1 s m #[.ref b] below meth c H locs cells slots Q (F0 m 1118 ls []) := by
  have hx := X.1.1
  have hb := X.1.2.1
  obtain ⟨k, v, u1, r, u2, hc, hr, hgt, hv, hk, hI2⟩ := s_on (ag xs i 1) (ag xs i 2) u hI
  have hc : mX8_on u (ag xs i 1) (ag xs i 2) = some (k, v, u1) := hc
  have hr : mX9_on u1 (ag xs i 1) (ag xs i 2) = some (r, u2) := hr
  refine lv_aload_n hx hb dL_law__1118 rfl (lv_at hl 2 rfl) ?_
  refine l_arg (j := 1) X hS (hi 1 (by decide)) (lv_at hl 1 rfl) (lv_at hl 0 rfl) (by decide) dL_law__1119 dL_law__1120 dL_law__1122 dL_law__1123 dL_law__1124 ?_
  refine l_arg (j := 2) X hS (hi 2 (by decide)) (lv_at hl 1 rfl) (lv_at hl 0 rfl) (by decide) dL_law__1125 dL_law__1126 dL_law__1128 dL_law__1129 dL_law__1130 ?_
  refine lv_aload_n hx hb dL_law__1131 rfl (lv_at hl 4 rfl) ?_
  refine l_callH (As := [.ref (a 8 0), .int (ag xs i 1), .int (ag xs i 2), .ref (a 90 0)]) (rest := []) X.1 (vL_on X.2.2.2.2 (out := (k, v, u1)) (z := kmL [1] k) hc (km_1 hk)) hR hS ml_L_191 mh_on rfl ⟨Nat.le_of_ble_eq_true rfl, Nat.le_of_ble_eq_true rfl, by omega, by omega⟩ hl.1 rfl (Nat.le_of_ble_eq_true rfl) dL_law__1132 (fun a1 H locs hAL hR hS h92 => ?_)
  have hl : lv_has ls 8 [(4, .int i), (0, .ref b), (1, .ref (a1 8 0)), (2, .ref (a1 9 0)), (3, .ref (a1 90 0))] := by rw [hAL 8 0 (by decide) (by decide) (by decide) (by decide), hAL 9 0 (by decide) (by decide) (by decide) (by decide), hAL 90 0 (by decide) (by decide) (by decide) (by decide)]; exact hl
  refine lv_istore (lv' := [(5, .int (kmL [1] k)), (4, .int i), (0, .ref b), (1, .ref (a1 8 0)), (2, .ref (a1 9 0)), (3, .ref (a1 90 0))]) hx hb dL_law__1135 hl (by decide) rfl (fun ls hl => ?_)
  refine lv_aload_n hx hb dL_law__1137 rfl (lv_at hl 4 rfl) ?_
  refine l_arg (j := 1) X hS (hi 1 (by decide)) (lv_at hl 2 rfl) (lv_at hl 1 rfl) (by decide) dL_law__1138 dL_law__1139 dL_law__1141 dL_law__1142 dL_law__1143 ?_
  refine l_arg (j := 2) X hS (hi 2 (by decide)) (lv_at hl 2 rfl) (lv_at hl 1 rfl) (by decide) dL_law__1144 dL_law__1145 dL_law__1147 dL_law__1148 dL_law__1149 ?_
  refine r_callV1 (As := [.int (ag xs i 1), .int (ag xs i 2)]) (rest := []) (r := 9) (i := 0) X.1 (vX9_on (out := (r, u2)) hr) hR hS (lv0 (by decide) (by decide)) (by decide) ml_L_193 mw_X9_on rfl ⟨Nat.le_of_ble_eq_true rfl, Nat.le_of_ble_eq_true rfl, by omega, by omega⟩ hl.1 rfl (Nat.le_of_ble_eq_true rfl) dL_law__1150 (fun H locs hR hS => ?_)
  refine lv_istore (lv' := [(6, .int r), (5, .int (kmL [1] k)), (4, .int i), (0, .ref b), (1, .ref (a1 8 0)), (2, .ref (a1 9 0)), (3, .ref (a1 90 0))]) hx hb dL_law__1153 hl (by decide) rfl (fun ls hl => ?_)
  refine l_tail (off := 2044) X hR hS ml_L_149 mw_X9_thrown hl hgt (fun h => (congrArg dL (h92 h)).trans ((dL_eL _).trans (congrArg Int32.toInt64 (hv (km0 (by decide) h))))) (by omega) (by omega) (by decide) dL_law__1155 dL_law__1156 dL_law__1159 dL_law__1161 dL_law__1166 dL_law__1168 dL_law__1171 dL_law__1172 dL_law__1173 dL_law__1174 dL_law__1176 dL_law__1177 dL_law__1178 dL_law__1183 (fun H locs hR hS => ?_)
  refine W.widen (k := cells + 5) (n := slots + 4900) (by omega) (by omega) ?_
  exact kk a1 u2 H locs ls hI2 hR hS (lv_sub hl [2, 3, 4, 5, 6] rfl)
set_option maxHeartbeats 4000000 in
theorem cs_name {u : HS} {i : Int32} (X : LXm E p l s m meth c b L xs) (hi : ∀ j ∈ ([1, 2, 3, 4, 5, 6] : List Int32), vp_in (i + j) L) (hI : IV u) (hR : Rel E a u H) (hS : va_S (AE E) s.heap H locs) (hl : lv_has ls 8 [(4, .int i), (0, .ref b), (1, .ref (a 8 0)), (2, .ref (a 9 0)), (3, .ref (a 90 0))]) (hcs : cells + 5 ≤ room_1.cells) (hss : slots + 4900 ≤ room_1.slots) (kk : LK E p l e s m below meth c b i cells slots Q) : W p l e room_1 s m #[.ref b] below meth c H locs cells slots Q (F0 m 1186 ls []) := by
  have hx := X.1.1
  have hb := X.1.2.1
  obtain ⟨k, v, u1, r, u2, hc, hr, hgt, hv, hk, hI2⟩ := s_name (ag xs i 1) (ag xs i 2) (ag xs i 3) (ag xs i 4) u hI
  have hc : mX8_name u (ag xs i 1) (ag xs i 2) (ag xs i 3) (ag xs i 4) = some (k, v, u1) := hc
  have hr : mX9_name u1 (ag xs i 1) (ag xs i 2) (ag xs i 3) (ag xs i 4) = some (r, u2) := hr
  refine lv_aload_n hx hb dL_law__1186 rfl (lv_at hl 2 rfl) ?_
  refine l_arg (j := 1) X hS (hi 1 (by decide)) (lv_at hl 1 rfl) (lv_at hl 0 rfl) (by decide) dL_law__1187 dL_law__1188 dL_law__1190 dL_law__1191 dL_law__1192 ?_
  refine l_arg (j := 2) X hS (hi 2 (by decide)) (lv_at hl 1 rfl) (lv_at hl 0 rfl) (by decide) dL_law__1193 dL_law__1194 dL_law__1196 dL_law__1197 dL_law__1198 ?_
  refine l_arg (j := 3) X hS (hi 3 (by decide)) (lv_at hl 1 rfl) (lv_at hl 0 rfl) (by decide) dL_law__1199 dL_law__1200 dL_law__1202 dL_law__1203 dL_law__1204 ?_
  refine l_arg (j := 4) X hS (hi 4 (by decide)) (lv_at hl 1 rfl) (lv_at hl 0 rfl) (by decide) dL_law__1205 dL_law__1206 dL_law__1208 dL_law__1209 dL_law__1210 ?_
  refine lv_aload_n hx hb dL_law__1211 rfl (lv_at hl 4 rfl) ?_
  refine l_callH (As := [.ref (a 8 0), .int (ag xs i 1), .int (ag xs i 2), .int (ag xs i 3), .int (ag xs i 4), .ref (a 90 0)]) (rest := []) X.1 (vL_name X.2.2.2.2 (out := (k, v, u1)) (z := kmL [1] k) hc (km_1 hk)) hR hS ml_L_194 mh_name rfl ⟨Nat.le_of_ble_eq_true rfl, Nat.le_of_ble_eq_true rfl, by omega, by omega⟩ hl.1 rfl (Nat.le_of_ble_eq_true rfl) dL_law__1212 (fun a1 H locs hAL hR hS h92 => ?_)
  have hl : lv_has ls 8 [(4, .int i), (0, .ref b), (1, .ref (a1 8 0)), (2, .ref (a1 9 0)), (3, .ref (a1 90 0))] := by rw [hAL 8 0 (by decide) (by decide) (by decide) (by decide), hAL 9 0 (by decide) (by decide) (by decide) (by decide), hAL 90 0 (by decide) (by decide) (by decide) (by decide)]; exact hl
  refine lv_istore (lv' := [(5, .int (kmL [1] k)), (4, .int i), (0, .ref b), (1, .ref (a1 8 0)), (2, .ref (a1 9 0)), (3, .ref (a1 90 0))]) hx hb dL_law__1215 hl (by decide) rfl (fun ls hl => ?_)
  refine lv_aload_n hx hb dL_law__1217 rfl (lv_at hl 4 rfl) ?_
  refine l_arg (j := 1) X hS (hi 1 (by decide)) (lv_at hl 2 rfl) (lv_at hl 1 rfl) (by decide) dL_law__1218 dL_law__1219 dL_law__1221 dL_law__1222 dL_law__1223 ?_
  refine l_arg (j := 2) X hS (hi 2 (by decide)) (lv_at hl 2 rfl) (lv_at hl 1 rfl) (by decide) dL_law__1224 dL_law__1225 dL_law__1227 dL_law__1228 dL_law__1229 ?_
  refine l_arg (j := 3) X hS (hi 3 (by decide)) (lv_at hl 2 rfl) (lv_at hl 1 rfl) (by decide) dL_law__1230 dL_law__1231 dL_law__1233 dL_law__1234 dL_law__1235 ?_
  refine l_arg (j := 4) X hS (hi 4 (by decide)) (lv_at hl 2 rfl) (lv_at hl 1 rfl) (by decide) dL_law__1236 dL_law__1237 dL_law__1239 dL_law__1240 dL_law__1241 ?_
  refine r_callV1 (As := [.int (ag xs i 1), .int (ag xs i 2), .int (ag xs i 3), .int (ag xs i 4)]) (rest := []) (r := 9) (i := 0) X.1 (vX9_name (out := (r, u2)) hr) hR hS (lv0 (by decide) (by decide)) (by decide) ml_L_196 mw_X9_name rfl ⟨Nat.le_of_ble_eq_true rfl, Nat.le_of_ble_eq_true rfl, by omega, by omega⟩ hl.1 rfl (Nat.le_of_ble_eq_true rfl) dL_law__1242 (fun H locs hR hS => ?_)
  refine lv_istore (lv' := [(6, .int r), (5, .int (kmL [1] k)), (4, .int i), (0, .ref b), (1, .ref (a1 8 0)), (2, .ref (a1 9 0)), (3, .ref (a1 90 0))]) hx hb dL_law__1245 hl (by decide) rfl (fun ls hl => ?_)
  refine l_tail (off := 1952) X hR hS ml_L_149 mw_X9_thrown hl hgt (fun h => (congrArg dL (h92 h)).trans ((dL_eL _).trans (congrArg Int32.toInt64 (hv (km0 (by decide) h))))) (by omega) (by omega) (by decide) dL_law__1247 dL_law__1248 dL_law__1251 dL_law__1253 dL_law__1258 dL_law__1260 dL_law__1263 dL_law__1264 dL_law__1265 dL_law__1266 dL_law__1268 dL_law__1269 dL_law__1270 dL_law__1275 (fun H locs hR hS => ?_)
  refine W.widen (k := cells + 5) (n := slots + 4900) (by omega) (by omega) ?_
  exact kk a1 u2 H locs ls hI2 hR hS (lv_sub hl [2, 3, 4, 5, 6] rfl)
set_option maxHeartbeats 4000000 in
theorem cs_gets {u : HS} {i : Int32} (X : LXm E p l s m meth c b L xs) (hi : ∀ j ∈ ([1, 2, 3, 4, 5, 6] : List Int32), vp_in (i + j) L) (hI : IV u) (hR : Rel E a u H) (hS : va_S (AE E) s.heap H locs) (hl : lv_has ls 8 [(4, .int i), (0, .ref b), (1, .ref (a 8 0)), (2, .ref (a 9 0)), (3, .ref (a 90 0))]) (hcs : cells + 5 ≤ room_1.cells) (hss : slots + 4900 ≤ room_1.slots) (kk : LK E p l e s m below meth c b i cells slots Q) : W p l e room_1 s m #[.ref b] below meth c H locs cells slots Q (F0 m 1278 ls []) := by
  have hx := X.1.1
  have hb := X.1.2.1
  obtain ⟨k, v, u1, r, u2, hc, hr, hgt, hv, hk, hI2⟩ := s_gets (ag xs i 1) (ag xs i 2) (ag xs i 3) (ag xs i 4) (ag xs i 5) u hI
  have hc : mX8_gets u (ag xs i 1) (ag xs i 2) (ag xs i 3) (ag xs i 4) (ag xs i 5) = some (k, v, u1) := hc
  have hr : mX9_gets u1 (ag xs i 1) (ag xs i 2) (ag xs i 3) (ag xs i 4) (ag xs i 5) = some (r, u2) := hr
  refine lv_aload_n hx hb dL_law__1278 rfl (lv_at hl 2 rfl) ?_
  refine l_arg (j := 1) X hS (hi 1 (by decide)) (lv_at hl 1 rfl) (lv_at hl 0 rfl) (by decide) dL_law__1279 dL_law__1280 dL_law__1282 dL_law__1283 dL_law__1284 ?_
  refine l_arg (j := 2) X hS (hi 2 (by decide)) (lv_at hl 1 rfl) (lv_at hl 0 rfl) (by decide) dL_law__1285 dL_law__1286 dL_law__1288 dL_law__1289 dL_law__1290 ?_
  refine l_arg (j := 3) X hS (hi 3 (by decide)) (lv_at hl 1 rfl) (lv_at hl 0 rfl) (by decide) dL_law__1291 dL_law__1292 dL_law__1294 dL_law__1295 dL_law__1296 ?_
  refine l_arg (j := 4) X hS (hi 4 (by decide)) (lv_at hl 1 rfl) (lv_at hl 0 rfl) (by decide) dL_law__1297 dL_law__1298 dL_law__1300 dL_law__1301 dL_law__1302 ?_
  refine l_arg (j := 5) X hS (hi 5 (by decide)) (lv_at hl 1 rfl) (lv_at hl 0 rfl) (by decide) dL_law__1303 dL_law__1304 dL_law__1306 dL_law__1307 dL_law__1308 ?_
  refine lv_aload_n hx hb dL_law__1309 rfl (lv_at hl 4 rfl) ?_
  refine l_callH (As := [.ref (a 8 0), .int (ag xs i 1), .int (ag xs i 2), .int (ag xs i 3), .int (ag xs i 4), .int (ag xs i 5), .ref (a 90 0)]) (rest := []) X.1 (vL_gets X.2.2.2.2 (out := (k, v, u1)) (z := kmL [3, 1] k) hc (km_31 hk)) hR hS ml_L_197 mh_gets rfl ⟨Nat.le_of_ble_eq_true rfl, Nat.le_of_ble_eq_true rfl, by omega, by omega⟩ hl.1 rfl (Nat.le_of_ble_eq_true rfl) dL_law__1310 (fun a1 H locs hAL hR hS h92 => ?_)
  have hl : lv_has ls 8 [(4, .int i), (0, .ref b), (1, .ref (a1 8 0)), (2, .ref (a1 9 0)), (3, .ref (a1 90 0))] := by rw [hAL 8 0 (by decide) (by decide) (by decide) (by decide), hAL 9 0 (by decide) (by decide) (by decide) (by decide), hAL 90 0 (by decide) (by decide) (by decide) (by decide)]; exact hl
  refine lv_istore (lv' := [(5, .int (kmL [3, 1] k)), (4, .int i), (0, .ref b), (1, .ref (a1 8 0)), (2, .ref (a1 9 0)), (3, .ref (a1 90 0))]) hx hb dL_law__1313 hl (by decide) rfl (fun ls hl => ?_)
  refine lv_aload_n hx hb dL_law__1315 rfl (lv_at hl 4 rfl) ?_
  refine l_arg (j := 1) X hS (hi 1 (by decide)) (lv_at hl 2 rfl) (lv_at hl 1 rfl) (by decide) dL_law__1316 dL_law__1317 dL_law__1319 dL_law__1320 dL_law__1321 ?_
  refine l_arg (j := 2) X hS (hi 2 (by decide)) (lv_at hl 2 rfl) (lv_at hl 1 rfl) (by decide) dL_law__1322 dL_law__1323 dL_law__1325 dL_law__1326 dL_law__1327 ?_
  refine l_arg (j := 3) X hS (hi 3 (by decide)) (lv_at hl 2 rfl) (lv_at hl 1 rfl) (by decide) dL_law__1328 dL_law__1329 dL_law__1331 dL_law__1332 dL_law__1333 ?_
  refine l_arg (j := 4) X hS (hi 4 (by decide)) (lv_at hl 2 rfl) (lv_at hl 1 rfl) (by decide) dL_law__1334 dL_law__1335 dL_law__1337 dL_law__1338 dL_law__1339 ?_
  refine l_arg (j := 5) X hS (hi 5 (by decide)) (lv_at hl 2 rfl) (lv_at hl 1 rfl) (by decide) dL_law__1340 dL_law__1341 dL_law__1343 dL_law__1344 dL_law__1345 ?_
  refine r_callV1 (As := [.int (ag xs i 1), .int (ag xs i 2), .int (ag xs i 3), .int (ag xs i 4), .int (ag xs i 5)]) (rest := []) (r := 9) (i := 0) X.1 (vX9_gets (out := (r, u2)) hr) hR hS (lv0 (by decide) (by decide)) (by decide) ml_L_200 mw_X9_gets rfl ⟨Nat.le_of_ble_eq_true rfl, Nat.le_of_ble_eq_true rfl, by omega, by omega⟩ hl.1 rfl (Nat.le_of_ble_eq_true rfl) dL_law__1346 (fun H locs hR hS => ?_)
  refine lv_istore (lv' := [(6, .int r), (5, .int (kmL [3, 1] k)), (4, .int i), (0, .ref b), (1, .ref (a1 8 0)), (2, .ref (a1 9 0)), (3, .ref (a1 90 0))]) hx hb dL_law__1349 hl (by decide) rfl (fun ls hl => ?_)
  refine l_tail (off := 1848) X hR hS ml_L_149 mw_X9_thrown hl hgt (fun h => (congrArg dL (h92 h)).trans ((dL_eL _).trans (congrArg Int32.toInt64 (hv (km0 (by decide) h))))) (by omega) (by omega) (by decide) dL_law__1351 dL_law__1352 dL_law__1355 dL_law__1357 dL_law__1362 dL_law__1364 dL_law__1367 dL_law__1368 dL_law__1369 dL_law__1370 dL_law__1372 dL_law__1373 dL_law__1374 dL_law__1379 (fun H locs hR hS => ?_)
  refine W.widen (k := cells + 5) (n := slots + 4900) (by omega) (by omega) ?_
  exact kk a1 u2 H locs ls hI2 hR hS (lv_sub hl [2, 3, 4, 5, 6] rfl)
set_option maxHeartbeats 4000000 in
theorem cs_seen {u : HS} {i : Int32} (X : LXm E p l s m meth c b L xs) (hi : ∀ j ∈ ([1, 2, 3, 4, 5, 6] : List Int32), vp_in (i + j) L) (hI : IV u) (hR : Rel E a u H) (hS : va_S (AE E) s.heap H locs) (hl : lv_has ls 8 [(4, .int i), (0, .ref b), (1, .ref (a 8 0)), (2, .ref (a 9 0)), (3, .ref (a 90 0))]) (hcs : cells + 5 ≤ room_1.cells) (hss : slots + 4900 ≤ room_1.slots) (kk : LK E p l e s m below meth c b i cells slots Q) : W p l e room_1 s m #[.ref b] below meth c H locs cells slots Q (F0 m 1382 ls []) := by
  have hx := X.1.1
  have hb := X.1.2.1
  obtain ⟨k, v, u1, r, u2, hc, hr, hgt, hv, hk, hI2⟩ := s_seen (ag xs i 1) (ag xs i 2) (ag xs i 3) u hI
  have hc : mX8_seen u (ag xs i 1) (ag xs i 2) (ag xs i 3) = some (k, v, u1) := hc
  have hr : mX9_seen u1 (ag xs i 1) (ag xs i 2) (ag xs i 3) = some (r, u2) := hr
  refine lv_aload_n hx hb dL_law__1382 rfl (lv_at hl 2 rfl) ?_
  refine l_arg (j := 1) X hS (hi 1 (by decide)) (lv_at hl 1 rfl) (lv_at hl 0 rfl) (by decide) dL_law__1383 dL_law__1384 dL_law__1386 dL_law__1387 dL_law__1388 ?_
  refine l_arg (j := 2) X hS (hi 2 (by decide)) (lv_at hl 1 rfl) (lv_at hl 0 rfl) (by decide) dL_law__1389 dL_law__1390 dL_law__1392 dL_law__1393 dL_law__1394 ?_
  refine l_arg (j := 3) X hS (hi 3 (by decide)) (lv_at hl 1 rfl) (lv_at hl 0 rfl) (by decide) dL_law__1395 dL_law__1396 dL_law__1398 dL_law__1399 dL_law__1400 ?_
  refine lv_aload_n hx hb dL_law__1401 rfl (lv_at hl 4 rfl) ?_
  refine l_callH (As := [.ref (a 8 0), .int (ag xs i 1), .int (ag xs i 2), .int (ag xs i 3), .ref (a 90 0)]) (rest := []) X.1 (vL_seen X.2.2.2.2 (out := (k, v, u1)) (z := kmL [3, 1] k) hc (km_31 hk)) hR hS ml_L_201 mh_seen rfl ⟨Nat.le_of_ble_eq_true rfl, Nat.le_of_ble_eq_true rfl, by omega, by omega⟩ hl.1 rfl (Nat.le_of_ble_eq_true rfl) dL_law__1402 (fun a1 H locs hAL hR hS h92 => ?_)
  have hl : lv_has ls 8 [(4, .int i), (0, .ref b), (1, .ref (a1 8 0)), (2, .ref (a1 9 0)), (3, .ref (a1 90 0))] := by rw [hAL 8 0 (by decide) (by decide) (by decide) (by decide), hAL 9 0 (by decide) (by decide) (by decide) (by decide), hAL 90 0 (by decide) (by decide) (by decide) (by decide)]; exact hl
  refine lv_istore (lv' := [(5, .int (kmL [3, 1] k)), (4, .int i), (0, .ref b), (1, .ref (a1 8 0)), (2, .ref (a1 9 0)), (3, .ref (a1 90 0))]) hx hb dL_law__1405 hl (by decide) rfl (fun ls hl => ?_)
  refine lv_aload_n hx hb dL_law__1407 rfl (lv_at hl 4 rfl) ?_
  refine l_arg (j := 1) X hS (hi 1 (by decide)) (lv_at hl 2 rfl) (lv_at hl 1 rfl) (by decide) dL_law__1408 dL_law__1409 dL_law__1411 dL_law__1412 dL_law__1413 ?_
  refine l_arg (j := 2) X hS (hi 2 (by decide)) (lv_at hl 2 rfl) (lv_at hl 1 rfl) (by decide) dL_law__1414 dL_law__1415 dL_law__1417 dL_law__1418 dL_law__1419 ?_
  refine l_arg (j := 3) X hS (hi 3 (by decide)) (lv_at hl 2 rfl) (lv_at hl 1 rfl) (by decide) dL_law__1420 dL_law__1421 dL_law__1423 dL_law__1424 dL_law__1425 ?_
  refine r_callV1 (As := [.int (ag xs i 1), .int (ag xs i 2), .int (ag xs i 3)]) (rest := []) (r := 9) (i := 0) X.1 (vX9_seen (out := (r, u2)) hr) hR hS (lv0 (by decide) (by decide)) (by decide) ml_L_203 mw_X9_seen rfl ⟨Nat.le_of_ble_eq_true rfl, Nat.le_of_ble_eq_true rfl, by omega, by omega⟩ hl.1 rfl (Nat.le_of_ble_eq_true rfl) dL_law__1426 (fun H locs hR hS => ?_)
  refine lv_istore (lv' := [(6, .int r), (5, .int (kmL [3, 1] k)), (4, .int i), (0, .ref b), (1, .ref (a1 8 0)), (2, .ref (a1 9 0)), (3, .ref (a1 90 0))]) hx hb dL_law__1429 hl (by decide) rfl (fun ls hl => ?_)
  refine l_tail (off := 1768) X hR hS ml_L_149 mw_X9_thrown hl hgt (fun h => (congrArg dL (h92 h)).trans ((dL_eL _).trans (congrArg Int32.toInt64 (hv (km0 (by decide) h))))) (by omega) (by omega) (by decide) dL_law__1431 dL_law__1432 dL_law__1435 dL_law__1437 dL_law__1442 dL_law__1444 dL_law__1447 dL_law__1448 dL_law__1449 dL_law__1450 dL_law__1452 dL_law__1453 dL_law__1454 dL_law__1459 (fun H locs hR hS => ?_)
  refine W.widen (k := cells + 5) (n := slots + 4900) (by omega) (by omega) ?_
  exact kk a1 u2 H locs ls hI2 hR hS (lv_sub hl [2, 3, 4, 5, 6] rfl)
set_option maxHeartbeats 4000000 in
theorem cs_says {u : HS} {i : Int32} (X : LXm E p l s m meth c b L xs) (hi : ∀ j ∈ ([1, 2, 3, 4, 5, 6] : List Int32), vp_in (i + j) L) (hI : IV u) (hR : Rel E a u H) (hS : va_S (AE E) s.heap H locs) (hl : lv_has ls 8 [(4, .int i), (0, .ref b), (1, .ref (a 8 0)), (2, .ref (a 9 0)), (3, .ref (a 90 0))]) (hcs : cells + 5 ≤ room_1.cells) (hss : slots + 4900 ≤ room_1.slots) (kk : LK E p l e s m below meth c b i cells slots Q) : W p l e room_1 s m #[.ref b] below meth c H locs cells slots Q (F0 m 1462 ls []) := by
  have hx := X.1.1
  have hb := X.1.2.1
  obtain ⟨k, v, u1, r, u2, hc, hr, hgt, hv, hk, hI2⟩ := s_says (ag xs i 1) (ag xs i 2) (ag xs i 3) u hI
  have hc : mX8_says u (ag xs i 1) (ag xs i 2) (ag xs i 3) = some (k, v, u1) := hc
  have hr : mX9_says u1 (ag xs i 1) (ag xs i 2) (ag xs i 3) = some (r, u2) := hr
  refine lv_aload_n hx hb dL_law__1462 rfl (lv_at hl 2 rfl) ?_
  refine l_arg (j := 1) X hS (hi 1 (by decide)) (lv_at hl 1 rfl) (lv_at hl 0 rfl) (by decide) dL_law__1463 dL_law__1464 dL_law__1466 dL_law__1467 dL_law__1468 ?_
  refine l_arg (j := 2) X hS (hi 2 (by decide)) (lv_at hl 1 rfl) (lv_at hl 0 rfl) (by decide) dL_law__1469 dL_law__1470 dL_law__1472 dL_law__1473 dL_law__1474 ?_
  refine l_arg (j := 3) X hS (hi 3 (by decide)) (lv_at hl 1 rfl) (lv_at hl 0 rfl) (by decide) dL_law__1475 dL_law__1476 dL_law__1478 dL_law__1479 dL_law__1480 ?_
  refine lv_aload_n hx hb dL_law__1481 rfl (lv_at hl 4 rfl) ?_
  refine l_callH (As := [.ref (a 8 0), .int (ag xs i 1), .int (ag xs i 2), .int (ag xs i 3), .ref (a 90 0)]) (rest := []) X.1 (vL_says X.2.2.2.2 (out := (k, v, u1)) (z := kmL [3, 1] k) hc (km_31 hk)) hR hS ml_L_204 mh_says rfl ⟨Nat.le_of_ble_eq_true rfl, Nat.le_of_ble_eq_true rfl, by omega, by omega⟩ hl.1 rfl (Nat.le_of_ble_eq_true rfl) dL_law__1482 (fun a1 H locs hAL hR hS h92 => ?_)
  have hl : lv_has ls 8 [(4, .int i), (0, .ref b), (1, .ref (a1 8 0)), (2, .ref (a1 9 0)), (3, .ref (a1 90 0))] := by rw [hAL 8 0 (by decide) (by decide) (by decide) (by decide), hAL 9 0 (by decide) (by decide) (by decide) (by decide), hAL 90 0 (by decide) (by decide) (by decide) (by decide)]; exact hl
  refine lv_istore (lv' := [(5, .int (kmL [3, 1] k)), (4, .int i), (0, .ref b), (1, .ref (a1 8 0)), (2, .ref (a1 9 0)), (3, .ref (a1 90 0))]) hx hb dL_law__1485 hl (by decide) rfl (fun ls hl => ?_)
  refine lv_aload_n hx hb dL_law__1487 rfl (lv_at hl 4 rfl) ?_
  refine l_arg (j := 1) X hS (hi 1 (by decide)) (lv_at hl 2 rfl) (lv_at hl 1 rfl) (by decide) dL_law__1488 dL_law__1489 dL_law__1491 dL_law__1492 dL_law__1493 ?_
  refine l_arg (j := 2) X hS (hi 2 (by decide)) (lv_at hl 2 rfl) (lv_at hl 1 rfl) (by decide) dL_law__1494 dL_law__1495 dL_law__1497 dL_law__1498 dL_law__1499 ?_
  refine l_arg (j := 3) X hS (hi 3 (by decide)) (lv_at hl 2 rfl) (lv_at hl 1 rfl) (by decide) dL_law__1500 dL_law__1501 dL_law__1503 dL_law__1504 dL_law__1505 ?_
  refine r_callV1 (As := [.int (ag xs i 1), .int (ag xs i 2), .int (ag xs i 3)]) (rest := []) (r := 9) (i := 0) X.1 (vX9_says (out := (r, u2)) hr) hR hS (lv0 (by decide) (by decide)) (by decide) ml_L_206 mw_X9_says rfl ⟨Nat.le_of_ble_eq_true rfl, Nat.le_of_ble_eq_true rfl, by omega, by omega⟩ hl.1 rfl (Nat.le_of_ble_eq_true rfl) dL_law__1506 (fun H locs hR hS => ?_)
  refine lv_istore (lv' := [(6, .int r), (5, .int (kmL [3, 1] k)), (4, .int i), (0, .ref b), (1, .ref (a1 8 0)), (2, .ref (a1 9 0)), (3, .ref (a1 90 0))]) hx hb dL_law__1509 hl (by decide) rfl (fun ls hl => ?_)
  refine l_thrown X hR hS ml_L_149 mw_X9_thrown hl.1 (lv_at hl 5 rfl) dL_law__1511 dL_law__1512 (by omega) (by omega) (fun H locs hR hS => ?_)
  refine lv_iload hx hb dL_law__1515 (lv_at hl 1 rfl) ?_
  refine lv_icmp_eq (tgt := 1522) hx hb dL_law__1517 (by decide) (fun _ => ?_) (fun c9 => absurd hgt c9)
  refine lv_iload hx hb dL_law__1522 (lv_at hl 1 rfl) ?_
  refine lv_if_ne (tgt := 1546) hx hb dL_law__1524 (by decide) (fun _ => ?_) (fun c9 => ?_)
  · refine lv_goto (tgt := 3227) hx hb dL_law__1546 (by decide) ?_
    refine W.widen (k := cells + 5) (n := slots + 4900) (by omega) (by omega) ?_
    exact kk a1 u2 H locs ls hI2 hR hS (lv_sub hl [2, 3, 4, 5, 6] rfl)
  · refine lv_aload_n hx hb dL_law__1527 rfl (lv_at hl 6 rfl) ?_
    refine lv_iconst (v := 0) hx hb dL_law__1528 (by decide) ?_
    refine r_outld X.1 hR dL_law__1529 ?_
    refine lv_iload hx hb dL_law__1530 (lv_at hl 0 rfl) ?_
    refine l_bool64 hx hb dL_law__1532 dL_law__1535 dL_law__1536 dL_law__1539 ?_
    refine l_same (tgt := 1546) (off := 5) ((congrArg dL (h92 c9)).trans ((dL_eL _).trans (congrArg (fun w : Int32 => if w = 0 then (0 : Int64) else 1) (hv (km0 (by decide) c9))))) hx hb dL_law__1540 dL_law__1541 (by decide) ?_
    refine lv_goto (tgt := 3227) hx hb dL_law__1546 (by decide) ?_
    refine W.widen (k := cells + 5) (n := slots + 4900) (by omega) (by omega) ?_
    exact kk a1 u2 H locs ls hI2 hR hS (lv_sub hl [2, 3, 4, 5, 6] rfl)
set_option maxHeartbeats 4000000 in
theorem cs_miss {u : HS} {i : Int32} (X : LXm E p l s m meth c b L xs) (hi : ∀ j ∈ ([1, 2, 3, 4, 5, 6] : List Int32), vp_in (i + j) L) (hI : IV u) (hR : Rel E a u H) (hS : va_S (AE E) s.heap H locs) (hl : lv_has ls 8 [(4, .int i), (0, .ref b), (1, .ref (a 8 0)), (2, .ref (a 9 0)), (3, .ref (a 90 0))]) (hcs : cells + 5 ≤ room_1.cells) (hss : slots + 4900 ≤ room_1.slots) (kk : LK E p l e s m below meth c b i cells slots Q) : W p l e room_1 s m #[.ref b] below meth c H locs cells slots Q (F0 m 1549 ls []) := by
  have hx := X.1.1
  have hb := X.1.2.1
  obtain ⟨k, v, u1, r, u2, hc, hr, hgt, hv, hk, hI2⟩ := s_miss (ag xs i 1) (ag xs i 2) (ag xs i 3) u hI
  have hc : mX8_miss u (ag xs i 1) (ag xs i 2) (ag xs i 3) = some (k, v, u1) := hc
  have hr : mX9_miss u1 (ag xs i 1) (ag xs i 2) (ag xs i 3) = some (r, u2) := hr
  refine lv_aload_n hx hb dL_law__1549 rfl (lv_at hl 2 rfl) ?_
  refine l_arg (j := 1) X hS (hi 1 (by decide)) (lv_at hl 1 rfl) (lv_at hl 0 rfl) (by decide) dL_law__1550 dL_law__1551 dL_law__1553 dL_law__1554 dL_law__1555 ?_
  refine l_arg (j := 2) X hS (hi 2 (by decide)) (lv_at hl 1 rfl) (lv_at hl 0 rfl) (by decide) dL_law__1556 dL_law__1557 dL_law__1559 dL_law__1560 dL_law__1561 ?_
  refine l_arg (j := 3) X hS (hi 3 (by decide)) (lv_at hl 1 rfl) (lv_at hl 0 rfl) (by decide) dL_law__1562 dL_law__1563 dL_law__1565 dL_law__1566 dL_law__1567 ?_
  refine lv_aload_n hx hb dL_law__1568 rfl (lv_at hl 4 rfl) ?_
  refine l_callH (As := [.ref (a 8 0), .int (ag xs i 1), .int (ag xs i 2), .int (ag xs i 3), .ref (a 90 0)]) (rest := []) X.1 (vL_miss X.2.2.2.2 (out := (k, v, u1)) (z := kmL [3, 1] k) hc (km_31 hk)) hR hS ml_L_207 mh_miss rfl ⟨Nat.le_of_ble_eq_true rfl, Nat.le_of_ble_eq_true rfl, by omega, by omega⟩ hl.1 rfl (Nat.le_of_ble_eq_true rfl) dL_law__1569 (fun a1 H locs hAL hR hS h92 => ?_)
  have hl : lv_has ls 8 [(4, .int i), (0, .ref b), (1, .ref (a1 8 0)), (2, .ref (a1 9 0)), (3, .ref (a1 90 0))] := by rw [hAL 8 0 (by decide) (by decide) (by decide) (by decide), hAL 9 0 (by decide) (by decide) (by decide) (by decide), hAL 90 0 (by decide) (by decide) (by decide) (by decide)]; exact hl
  refine lv_istore (lv' := [(5, .int (kmL [3, 1] k)), (4, .int i), (0, .ref b), (1, .ref (a1 8 0)), (2, .ref (a1 9 0)), (3, .ref (a1 90 0))]) hx hb dL_law__1572 hl (by decide) rfl (fun ls hl => ?_)
  refine lv_aload_n hx hb dL_law__1574 rfl (lv_at hl 4 rfl) ?_
  refine l_arg (j := 1) X hS (hi 1 (by decide)) (lv_at hl 2 rfl) (lv_at hl 1 rfl) (by decide) dL_law__1575 dL_law__1576 dL_law__1578 dL_law__1579 dL_law__1580 ?_
  refine l_arg (j := 2) X hS (hi 2 (by decide)) (lv_at hl 2 rfl) (lv_at hl 1 rfl) (by decide) dL_law__1581 dL_law__1582 dL_law__1584 dL_law__1585 dL_law__1586 ?_
  refine l_arg (j := 3) X hS (hi 3 (by decide)) (lv_at hl 2 rfl) (lv_at hl 1 rfl) (by decide) dL_law__1587 dL_law__1588 dL_law__1590 dL_law__1591 dL_law__1592 ?_
  refine r_callV1 (As := [.int (ag xs i 1), .int (ag xs i 2), .int (ag xs i 3)]) (rest := []) (r := 9) (i := 0) X.1 (vX9_miss (out := (r, u2)) hr) hR hS (lv0 (by decide) (by decide)) (by decide) ml_L_209 mw_X9_miss rfl ⟨Nat.le_of_ble_eq_true rfl, Nat.le_of_ble_eq_true rfl, by omega, by omega⟩ hl.1 rfl (Nat.le_of_ble_eq_true rfl) dL_law__1593 (fun H locs hR hS => ?_)
  refine lv_istore (lv' := [(6, .int r), (5, .int (kmL [3, 1] k)), (4, .int i), (0, .ref b), (1, .ref (a1 8 0)), (2, .ref (a1 9 0)), (3, .ref (a1 90 0))]) hx hb dL_law__1596 hl (by decide) rfl (fun ls hl => ?_)
  refine l_tail (off := 1601) X hR hS ml_L_149 mw_X9_thrown hl hgt (fun h => (congrArg dL (h92 h)).trans ((dL_eL _).trans (congrArg Int32.toInt64 (hv (km0 (by decide) h))))) (by omega) (by omega) (by decide) dL_law__1598 dL_law__1599 dL_law__1602 dL_law__1604 dL_law__1609 dL_law__1611 dL_law__1614 dL_law__1615 dL_law__1616 dL_law__1617 dL_law__1619 dL_law__1620 dL_law__1621 dL_law__1626 (fun H locs hR hS => ?_)
  refine W.widen (k := cells + 5) (n := slots + 4900) (by omega) (by omega) ?_
  exact kk a1 u2 H locs ls hI2 hR hS (lv_sub hl [2, 3, 4, 5, 6] rfl)
set_option maxHeartbeats 4000000 in
theorem cs_drawn {u : HS} {i : Int32} (X : LXm E p l s m meth c b L xs) (hi : ∀ j ∈ ([1, 2, 3, 4, 5, 6] : List Int32), vp_in (i + j) L) (hI : IV u) (hR : Rel E a u H) (hS : va_S (AE E) s.heap H locs) (hl : lv_has ls 8 [(4, .int i), (0, .ref b), (1, .ref (a 8 0)), (2, .ref (a 9 0)), (3, .ref (a 90 0))]) (hcs : cells + 5 ≤ room_1.cells) (hss : slots + 4900 ≤ room_1.slots) (kk : LK E p l e s m below meth c b i cells slots Q) : W p l e room_1 s m #[.ref b] below meth c H locs cells slots Q (F0 m 1629 ls []) := by
  have hx := X.1.1
  have hb := X.1.2.1
  obtain ⟨k, v, u1, r, u2, hc, hr, hgt, hv, hk, hI2⟩ := s_drawn (ag xs i 1) (ag xs i 2) (ag xs i 3) (ag xs i 4) u hI
  have hc : mX8_drawn u (ag xs i 1) (ag xs i 2) (ag xs i 3) (ag xs i 4) = some (k, v, u1) := hc
  have hr : mX9_drawn u1 (ag xs i 1) (ag xs i 2) (ag xs i 3) (ag xs i 4) = some (r, u2) := hr
  refine lv_aload_n hx hb dL_law__1629 rfl (lv_at hl 2 rfl) ?_
  refine l_arg (j := 1) X hS (hi 1 (by decide)) (lv_at hl 1 rfl) (lv_at hl 0 rfl) (by decide) dL_law__1630 dL_law__1631 dL_law__1633 dL_law__1634 dL_law__1635 ?_
  refine l_arg (j := 2) X hS (hi 2 (by decide)) (lv_at hl 1 rfl) (lv_at hl 0 rfl) (by decide) dL_law__1636 dL_law__1637 dL_law__1639 dL_law__1640 dL_law__1641 ?_
  refine l_arg (j := 3) X hS (hi 3 (by decide)) (lv_at hl 1 rfl) (lv_at hl 0 rfl) (by decide) dL_law__1642 dL_law__1643 dL_law__1645 dL_law__1646 dL_law__1647 ?_
  refine l_arg (j := 4) X hS (hi 4 (by decide)) (lv_at hl 1 rfl) (lv_at hl 0 rfl) (by decide) dL_law__1648 dL_law__1649 dL_law__1651 dL_law__1652 dL_law__1653 ?_
  refine lv_aload_n hx hb dL_law__1654 rfl (lv_at hl 4 rfl) ?_
  refine l_callH (As := [.ref (a 8 0), .int (ag xs i 1), .int (ag xs i 2), .int (ag xs i 3), .int (ag xs i 4), .ref (a 90 0)]) (rest := []) X.1 (vL_drawn X.2.2.2.2 (out := (k, v, u1)) (z := kmL [3, 1] k) hc (km_31 hk)) hR hS ml_L_210 mh_drawn rfl ⟨Nat.le_of_ble_eq_true rfl, Nat.le_of_ble_eq_true rfl, by omega, by omega⟩ hl.1 rfl (Nat.le_of_ble_eq_true rfl) dL_law__1655 (fun a1 H locs hAL hR hS h92 => ?_)
  have hl : lv_has ls 8 [(4, .int i), (0, .ref b), (1, .ref (a1 8 0)), (2, .ref (a1 9 0)), (3, .ref (a1 90 0))] := by rw [hAL 8 0 (by decide) (by decide) (by decide) (by decide), hAL 9 0 (by decide) (by decide) (by decide) (by decide), hAL 90 0 (by decide) (by decide) (by decide) (by decide)]; exact hl
  refine lv_istore (lv' := [(5, .int (kmL [3, 1] k)), (4, .int i), (0, .ref b), (1, .ref (a1 8 0)), (2, .ref (a1 9 0)), (3, .ref (a1 90 0))]) hx hb dL_law__1658 hl (by decide) rfl (fun ls hl => ?_)
  refine lv_aload_n hx hb dL_law__1660 rfl (lv_at hl 4 rfl) ?_
  refine l_arg (j := 1) X hS (hi 1 (by decide)) (lv_at hl 2 rfl) (lv_at hl 1 rfl) (by decide) dL_law__1661 dL_law__1662 dL_law__1664 dL_law__1665 dL_law__1666 ?_
  refine l_arg (j := 2) X hS (hi 2 (by decide)) (lv_at hl 2 rfl) (lv_at hl 1 rfl) (by decide) dL_law__1667 dL_law__1668 dL_law__1670 dL_law__1671 dL_law__1672 ?_
  refine l_arg (j := 3) X hS (hi 3 (by decide)) (lv_at hl 2 rfl) (lv_at hl 1 rfl) (by decide) dL_law__1673 dL_law__1674 dL_law__1676 dL_law__1677 dL_law__1678 ?_
  refine l_arg (j := 4) X hS (hi 4 (by decide)) (lv_at hl 2 rfl) (lv_at hl 1 rfl) (by decide) dL_law__1679 dL_law__1680 dL_law__1682 dL_law__1683 dL_law__1684 ?_
  refine r_callV1 (As := [.int (ag xs i 1), .int (ag xs i 2), .int (ag xs i 3), .int (ag xs i 4)]) (rest := []) (r := 9) (i := 0) X.1 (vX9_drawn (out := (r, u2)) hr) hR hS (lv0 (by decide) (by decide)) (by decide) ml_L_212 mw_X9_drawn rfl ⟨Nat.le_of_ble_eq_true rfl, Nat.le_of_ble_eq_true rfl, by omega, by omega⟩ hl.1 rfl (Nat.le_of_ble_eq_true rfl) dL_law__1685 (fun H locs hR hS => ?_)
  refine lv_istore (lv' := [(6, .int r), (5, .int (kmL [3, 1] k)), (4, .int i), (0, .ref b), (1, .ref (a1 8 0)), (2, .ref (a1 9 0)), (3, .ref (a1 90 0))]) hx hb dL_law__1688 hl (by decide) rfl (fun ls hl => ?_)
  refine l_tail (off := 1509) X hR hS ml_L_149 mw_X9_thrown hl hgt (fun h => (congrArg dL (h92 h)).trans ((dL_eL _).trans (congrArg Int32.toInt64 (hv (km0 (by decide) h))))) (by omega) (by omega) (by decide) dL_law__1690 dL_law__1691 dL_law__1694 dL_law__1696 dL_law__1701 dL_law__1703 dL_law__1706 dL_law__1707 dL_law__1708 dL_law__1709 dL_law__1711 dL_law__1712 dL_law__1713 dL_law__1718 (fun H locs hR hS => ?_)
  refine W.widen (k := cells + 5) (n := slots + 4900) (by omega) (by omega) ?_
  exact kk a1 u2 H locs ls hI2 hR hS (lv_sub hl [2, 3, 4, 5, 6] rfl)
set_option maxHeartbeats 4000000 in
theorem cs_change {u : HS} {i : Int32} (X : LXm E p l s m meth c b L xs) (hi : ∀ j ∈ ([1, 2, 3, 4, 5, 6] : List Int32), vp_in (i + j) L) (hI : IV u) (hR : Rel E a u H) (hS : va_S (AE E) s.heap H locs) (hl : lv_has ls 8 [(4, .int i), (0, .ref b), (1, .ref (a 8 0)), (2, .ref (a 9 0)), (3, .ref (a 90 0))]) (hcs : cells + 5 ≤ room_1.cells) (hss : slots + 4900 ≤ room_1.slots) (kk : LK E p l e s m below meth c b i cells slots Q) : W p l e room_1 s m #[.ref b] below meth c H locs cells slots Q (F0 m 1721 ls []) := by
  have hx := X.1.1
  have hb := X.1.2.1
  obtain ⟨k, v, u1, r, u2, hc, hr, hgt, hv, hk, hI2⟩ := s_change (ag xs i 1) (ag xs i 2) u hI
  have hc : mX8_change u (ag xs i 1) (ag xs i 2) = some (k, v, u1) := hc
  have hr : mX9_change u1 (ag xs i 1) (ag xs i 2) = some (r, u2) := hr
  refine lv_aload_n hx hb dL_law__1721 rfl (lv_at hl 2 rfl) ?_
  refine l_arg (j := 1) X hS (hi 1 (by decide)) (lv_at hl 1 rfl) (lv_at hl 0 rfl) (by decide) dL_law__1722 dL_law__1723 dL_law__1725 dL_law__1726 dL_law__1727 ?_
  refine l_arg (j := 2) X hS (hi 2 (by decide)) (lv_at hl 1 rfl) (lv_at hl 0 rfl) (by decide) dL_law__1728 dL_law__1729 dL_law__1731 dL_law__1732 dL_law__1733 ?_
  refine lv_aload_n hx hb dL_law__1734 rfl (lv_at hl 4 rfl) ?_
  refine l_callH (As := [.ref (a 8 0), .int (ag xs i 1), .int (ag xs i 2), .ref (a 90 0)]) (rest := []) X.1 (vL_change X.2.2.2.2 (out := (k, v, u1)) (z := kmL [3, 1] k) hc (km_31 hk)) hR hS ml_L_213 mh_change rfl ⟨Nat.le_of_ble_eq_true rfl, Nat.le_of_ble_eq_true rfl, by omega, by omega⟩ hl.1 rfl (Nat.le_of_ble_eq_true rfl) dL_law__1735 (fun a1 H locs hAL hR hS h92 => ?_)
  have hl : lv_has ls 8 [(4, .int i), (0, .ref b), (1, .ref (a1 8 0)), (2, .ref (a1 9 0)), (3, .ref (a1 90 0))] := by rw [hAL 8 0 (by decide) (by decide) (by decide) (by decide), hAL 9 0 (by decide) (by decide) (by decide) (by decide), hAL 90 0 (by decide) (by decide) (by decide) (by decide)]; exact hl
  refine lv_istore (lv' := [(5, .int (kmL [3, 1] k)), (4, .int i), (0, .ref b), (1, .ref (a1 8 0)), (2, .ref (a1 9 0)), (3, .ref (a1 90 0))]) hx hb dL_law__1738 hl (by decide) rfl (fun ls hl => ?_)
  refine lv_aload_n hx hb dL_law__1740 rfl (lv_at hl 4 rfl) ?_
  refine l_arg (j := 1) X hS (hi 1 (by decide)) (lv_at hl 2 rfl) (lv_at hl 1 rfl) (by decide) dL_law__1741 dL_law__1742 dL_law__1744 dL_law__1745 dL_law__1746 ?_
  refine l_arg (j := 2) X hS (hi 2 (by decide)) (lv_at hl 2 rfl) (lv_at hl 1 rfl) (by decide) dL_law__1747 dL_law__1748 dL_law__1750 dL_law__1751 dL_law__1752 ?_
  refine r_callV1 (As := [.int (ag xs i 1), .int (ag xs i 2)]) (rest := []) (r := 9) (i := 0) X.1 (vX9_change (out := (r, u2)) hr) hR hS (lv0 (by decide) (by decide)) (by decide) ml_L_215 mw_X9_change rfl ⟨Nat.le_of_ble_eq_true rfl, Nat.le_of_ble_eq_true rfl, by omega, by omega⟩ hl.1 rfl (Nat.le_of_ble_eq_true rfl) dL_law__1753 (fun H locs hR hS => ?_)
  refine lv_istore (lv' := [(6, .int r), (5, .int (kmL [3, 1] k)), (4, .int i), (0, .ref b), (1, .ref (a1 8 0)), (2, .ref (a1 9 0)), (3, .ref (a1 90 0))]) hx hb dL_law__1756 hl (by decide) rfl (fun ls hl => ?_)
  refine l_tail (off := 1441) X hR hS ml_L_149 mw_X9_thrown hl hgt (fun h => (congrArg dL (h92 h)).trans ((dL_eL _).trans (congrArg Int32.toInt64 (hv (km0 (by decide) h))))) (by omega) (by omega) (by decide) dL_law__1758 dL_law__1759 dL_law__1762 dL_law__1764 dL_law__1769 dL_law__1771 dL_law__1774 dL_law__1775 dL_law__1776 dL_law__1777 dL_law__1779 dL_law__1780 dL_law__1781 dL_law__1786 (fun H locs hR hS => ?_)
  refine W.widen (k := cells + 5) (n := slots + 4900) (by omega) (by omega) ?_
  exact kk a1 u2 H locs ls hI2 hR hS (lv_sub hl [2, 3, 4, 5, 6] rfl)
set_option maxHeartbeats 4000000 in
theorem cs_yet {u : HS} {i : Int32} (X : LXm E p l s m meth c b L xs) (hi : ∀ j ∈ ([1, 2, 3, 4, 5, 6] : List Int32), vp_in (i + j) L) (hI : IV u) (hR : Rel E a u H) (hS : va_S (AE E) s.heap H locs) (hl : lv_has ls 8 [(4, .int i), (0, .ref b), (1, .ref (a 8 0)), (2, .ref (a 9 0)), (3, .ref (a 90 0))]) (hcs : cells + 5 ≤ room_1.cells) (hss : slots + 4900 ≤ room_1.slots) (kk : LK E p l e s m below meth c b i cells slots Q) : W p l e room_1 s m #[.ref b] below meth c H locs cells slots Q (F0 m 1789 ls []) := by
  have hx := X.1.1
  have hb := X.1.2.1
  obtain ⟨k, v, u1, r, u2, hc, hr, hgt, hv, hk, hI2⟩ := s_yet (ag xs i 1) u hI
  have hc : mX8_yet u (ag xs i 1) = some (k, v, u1) := hc
  have hr : mX9_yet u1 (ag xs i 1) = some (r, u2) := hr
  refine lv_aload_n hx hb dL_law__1789 rfl (lv_at hl 2 rfl) ?_
  refine l_arg (j := 1) X hS (hi 1 (by decide)) (lv_at hl 1 rfl) (lv_at hl 0 rfl) (by decide) dL_law__1790 dL_law__1791 dL_law__1793 dL_law__1794 dL_law__1795 ?_
  refine lv_aload_n hx hb dL_law__1796 rfl (lv_at hl 4 rfl) ?_
  refine l_callH (As := [.ref (a 8 0), .int (ag xs i 1), .ref (a 90 0)]) (rest := []) X.1 (vL_yet X.2.2.2.2 (out := (k, v, u1)) (z := kmL [3] k) hc (km_3 hk)) hR hS ml_L_216 mh_yet rfl ⟨Nat.le_of_ble_eq_true rfl, Nat.le_of_ble_eq_true rfl, by omega, by omega⟩ hl.1 rfl (Nat.le_of_ble_eq_true rfl) dL_law__1797 (fun a1 H locs hAL hR hS h92 => ?_)
  have hl : lv_has ls 8 [(4, .int i), (0, .ref b), (1, .ref (a1 8 0)), (2, .ref (a1 9 0)), (3, .ref (a1 90 0))] := by rw [hAL 8 0 (by decide) (by decide) (by decide) (by decide), hAL 9 0 (by decide) (by decide) (by decide) (by decide), hAL 90 0 (by decide) (by decide) (by decide) (by decide)]; exact hl
  refine lv_istore (lv' := [(5, .int (kmL [3] k)), (4, .int i), (0, .ref b), (1, .ref (a1 8 0)), (2, .ref (a1 9 0)), (3, .ref (a1 90 0))]) hx hb dL_law__1800 hl (by decide) rfl (fun ls hl => ?_)
  refine lv_aload_n hx hb dL_law__1802 rfl (lv_at hl 4 rfl) ?_
  refine l_arg (j := 1) X hS (hi 1 (by decide)) (lv_at hl 2 rfl) (lv_at hl 1 rfl) (by decide) dL_law__1803 dL_law__1804 dL_law__1806 dL_law__1807 dL_law__1808 ?_
  refine r_callV1 (As := [.int (ag xs i 1)]) (rest := []) (r := 9) (i := 0) X.1 (vX9_yet (out := (r, u2)) hr) hR hS (lv0 (by decide) (by decide)) (by decide) ml_L_218 mw_X9_yet rfl ⟨Nat.le_of_ble_eq_true rfl, Nat.le_of_ble_eq_true rfl, by omega, by omega⟩ hl.1 rfl (Nat.le_of_ble_eq_true rfl) dL_law__1809 (fun H locs hR hS => ?_)
  refine lv_istore (lv' := [(6, .int r), (5, .int (kmL [3] k)), (4, .int i), (0, .ref b), (1, .ref (a1 8 0)), (2, .ref (a1 9 0)), (3, .ref (a1 90 0))]) hx hb dL_law__1812 hl (by decide) rfl (fun ls hl => ?_)
  refine l_tail (off := 1385) X hR hS ml_L_149 mw_X9_thrown hl hgt (fun h => (congrArg dL (h92 h)).trans ((dL_eL _).trans (congrArg Int32.toInt64 (hv (km0 (by decide) h))))) (by omega) (by omega) (by decide) dL_law__1814 dL_law__1815 dL_law__1818 dL_law__1820 dL_law__1825 dL_law__1827 dL_law__1830 dL_law__1831 dL_law__1832 dL_law__1833 dL_law__1835 dL_law__1836 dL_law__1837 dL_law__1842 (fun H locs hR hS => ?_)
  refine W.widen (k := cells + 5) (n := slots + 4900) (by omega) (by omega) ?_
  exact kk a1 u2 H locs ls hI2 hR hS (lv_sub hl [2, 3, 4, 5, 6] rfl)
end R14
