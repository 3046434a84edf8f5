/-! ===== the law's helpers ===== -/
theorem ml_L_7 : Cond.methodLink RL 7 yX8_scene ∈ GW := gw_t 606 (by decide +kernel) (by decide +kernel)
theorem mw_X8_scene : MW yX8_scene (RRf 8) cX8_scene 3 (some .int) 1 := ⟨⟨rfl, by decide +kernel, by decide +kernel, by decide +kernel⟩, gw_t 607 (by decide +kernel) (by decide +kernel), gw_t 608 (by decide +kernel) (by decide +kernel), gw_t 1 (by decide +kernel) (by decide +kernel), gw_t 609 (by decide +kernel) (by decide +kernel)⟩
theorem cl_L_13 : Cond.classLink RL 13 "java/lang/IllegalArgumentException" ∈ GW := gw_t 605 (by decide +kernel) (by decide +kernel)
theorem ml_L_15 : Cond.methodLink RL 15 yX8_task ∈ GW := gw_t 817 (by decide +kernel) (by decide +kernel)
theorem mw_X8_task : MW yX8_task (RRf 8) cX8_task 2 (some .int) 1 := ⟨⟨rfl, by decide +kernel, by decide +kernel, by decide +kernel⟩, gw_t 818 (by decide +kernel) (by decide +kernel), gw_t 819 (by decide +kernel) (by decide +kernel), gw_t 1 (by decide +kernel) (by decide +kernel), gw_t 820 (by decide +kernel) (by decide +kernel)⟩
theorem ml_L_18 : Cond.methodLink RL 18 yX8_law ∈ GW := gw_t 837 (by decide +kernel) (by decide +kernel)
theorem mw_X8_law : MW yX8_law (RRf 8) cX8_law 2 (some .int) 1 := ⟨⟨rfl, by decide +kernel, by decide +kernel, by decide +kernel⟩, gw_t 838 (by decide +kernel) (by decide +kernel), gw_t 839 (by decide +kernel) (by decide +kernel), gw_t 1 (by decide +kernel) (by decide +kernel), gw_t 840 (by decide +kernel) (by decide +kernel)⟩
theorem ml_L_21 : Cond.methodLink RL 21 yX8_told ∈ GW := gw_t 909 (by decide +kernel) (by decide +kernel)
theorem mw_X8_told : MW yX8_told (RRf 8) cX8_told 4 (some .int) 2 := ⟨⟨rfl, by decide +kernel, by decide +kernel, by decide +kernel⟩, gw_t 910 (by decide +kernel) (by decide +kernel), gw_t 911 (by decide +kernel) (by decide +kernel), gw_t 1 (by decide +kernel) (by decide +kernel), gw_t 912 (by decide +kernel) (by decide +kernel)⟩
theorem cl_L_25 : Cond.classLink RL 25 "java/util/NoSuchElementException" ∈ GW := gw_t 908 (by decide +kernel) (by decide +kernel)
theorem ml_L_27 : Cond.methodLink RL 27 yX8_thing ∈ GW := gw_t 935 (by decide +kernel) (by decide +kernel)
theorem mw_X8_thing : MW yX8_thing (RRf 8) cX8_thing 7 (some .int) 4 := ⟨⟨rfl, by decide +kernel, by decide +kernel, by decide +kernel⟩, gw_t 936 (by decide +kernel) (by decide +kernel), gw_t 937 (by decide +kernel) (by decide +kernel), gw_t 1 (by decide +kernel) (by decide +kernel), gw_t 938 (by decide +kernel) (by decide +kernel)⟩
theorem ml_L_31 : Cond.methodLink RL 31 yX8_kept ∈ GW := gw_t 955 (by decide +kernel) (by decide +kernel)
theorem mw_X8_kept : MW yX8_kept (RRf 8) cX8_kept 4 (some .int) 2 := ⟨⟨rfl, by decide +kernel, by decide +kernel, by decide +kernel⟩, gw_t 956 (by decide +kernel) (by decide +kernel), gw_t 957 (by decide +kernel) (by decide +kernel), gw_t 1 (by decide +kernel) (by decide +kernel), gw_t 958 (by decide +kernel) (by decide +kernel)⟩
theorem cl_L_34 : Cond.classLink RL 34 "java/lang/IndexOutOfBoundsException" ∈ GW := gw_t 954 (by decide +kernel) (by decide +kernel)
theorem ml_L_36 : Cond.methodLink RL 36 yX8_throwsOf ∈ GW := gw_t 981 (by decide +kernel) (by decide +kernel)
theorem mw_X8_throwsOf : MW yX8_throwsOf (RRf 8) cX8_throwsOf 3 (some .int) 2 := ⟨⟨rfl, by decide +kernel, by decide +kernel, by decide +kernel⟩, gw_t 982 (by decide +kernel) (by decide +kernel), gw_t 983 (by decide +kernel) (by decide +kernel), gw_t 1 (by decide +kernel) (by decide +kernel), gw_t 984 (by decide +kernel) (by decide +kernel)⟩
theorem ml_L_39 : Cond.methodLink RL 39 yX8_looker ∈ GW := gw_t 993 (by decide +kernel) (by decide +kernel)
theorem mw_X8_looker : MW yX8_looker (RRf 8) cX8_looker 5 (some .int) 3 := ⟨⟨rfl, by decide +kernel, by decide +kernel, by decide +kernel⟩, gw_t 994 (by decide +kernel) (by decide +kernel), gw_t 995 (by decide +kernel) (by decide +kernel), gw_t 1 (by decide +kernel) (by decide +kernel), gw_t 996 (by decide +kernel) (by decide +kernel)⟩
theorem ml_L_43 : Cond.methodLink RL 43 yX8_eyes ∈ GW := gw_t 1004 (by decide +kernel) (by decide +kernel)
theorem mw_X8_eyes : MW yX8_eyes (RRf 8) cX8_eyes 5 (some .int) 4 := ⟨⟨rfl, by decide +kernel, by decide +kernel, by decide +kernel⟩, gw_t 1005 (by decide +kernel) (by decide +kernel), gw_t 1006 (by decide +kernel) (by decide +kernel), gw_t 1 (by decide +kernel) (by decide +kernel), gw_t 1007 (by decide +kernel) (by decide +kernel)⟩
theorem ml_L_46 : Cond.methodLink RL 46 yX8_blink ∈ GW := gw_t 1019 (by decide +kernel) (by decide +kernel)
theorem mw_X8_blink : MW yX8_blink (RRf 8) cX8_blink 4 (some .int) 3 := ⟨⟨rfl, by decide +kernel, by decide +kernel, by decide +kernel⟩, gw_t 1020 (by decide +kernel) (by decide +kernel), gw_t 1021 (by decide +kernel) (by decide +kernel), gw_t 1 (by decide +kernel) (by decide +kernel), gw_t 1022 (by decide +kernel) (by decide +kernel)⟩
theorem ml_L_50 : Cond.methodLink RL 50 yX8_eye ∈ GW := gw_t 1030 (by decide +kernel) (by decide +kernel)
theorem mw_X8_eye : MW yX8_eye (RRf 8) cX8_eye 3 (some .int) 2 := ⟨⟨rfl, by decide +kernel, by decide +kernel, by decide +kernel⟩, gw_t 1031 (by decide +kernel) (by decide +kernel), gw_t 1032 (by decide +kernel) (by decide +kernel), gw_t 1 (by decide +kernel) (by decide +kernel), gw_t 1033 (by decide +kernel) (by decide +kernel)⟩
theorem ml_L_53 : Cond.methodLink RL 53 yX8_on ∈ GW := gw_t 1037 (by decide +kernel) (by decide +kernel)
theorem mw_X8_on : MW yX8_on (RRf 8) cX8_on 3 (some .int) 2 := ⟨⟨rfl, by decide +kernel, by decide +kernel, by decide +kernel⟩, gw_t 1038 (by decide +kernel) (by decide +kernel), gw_t 1039 (by decide +kernel) (by decide +kernel), gw_t 1 (by decide +kernel) (by decide +kernel), gw_t 1040 (by decide +kernel) (by decide +kernel)⟩
theorem ml_L_56 : Cond.methodLink RL 56 yX8_name ∈ GW := gw_t 1052 (by decide +kernel) (by decide +kernel)
theorem mw_X8_name : MW yX8_name (RRf 8) cX8_name 5 (some .int) 4 := ⟨⟨rfl, by decide +kernel, by decide +kernel, by decide +kernel⟩, gw_t 1053 (by decide +kernel) (by decide +kernel), gw_t 1054 (by decide +kernel) (by decide +kernel), gw_t 1 (by decide +kernel) (by decide +kernel), gw_t 1055 (by decide +kernel) (by decide +kernel)⟩
theorem ml_L_59 : Cond.methodLink RL 59 yX8_gets ∈ GW := gw_t 1060 (by decide +kernel) (by decide +kernel)
theorem mw_X8_gets : MW yX8_gets (RRf 8) cX8_gets 6 (some .int) 5 := ⟨⟨rfl, by decide +kernel, by decide +kernel, by decide +kernel⟩, gw_t 1061 (by decide +kernel) (by decide +kernel), gw_t 1062 (by decide +kernel) (by decide +kernel), gw_t 1 (by decide +kernel) (by decide +kernel), gw_t 1063 (by decide +kernel) (by decide +kernel)⟩
theorem ml_L_63 : Cond.methodLink RL 63 yX8_seen ∈ GW := gw_t 1080 (by decide +kernel) (by decide +kernel)
theorem mw_X8_seen : MW yX8_seen (RRf 8) cX8_seen 4 (some .int) 3 := ⟨⟨rfl, by decide +kernel, by decide +kernel, by decide +kernel⟩, gw_t 1081 (by decide +kernel) (by decide +kernel), gw_t 1082 (by decide +kernel) (by decide +kernel), gw_t 1 (by decide +kernel) (by decide +kernel), gw_t 1083 (by decide +kernel) (by decide +kernel)⟩
theorem ml_L_66 : Cond.methodLink RL 66 yX8_says ∈ GW := gw_t 1088 (by decide +kernel) (by decide +kernel)
theorem mw_X8_says : MW yX8_says (RRf 8) cX8_says 4 (some .boolean) 3 := ⟨⟨rfl, by decide +kernel, by decide +kernel, by decide +kernel⟩, gw_t 1089 (by decide +kernel) (by decide +kernel), gw_t 1090 (by decide +kernel) (by decide +kernel), gw_t 1 (by decide +kernel) (by decide +kernel), gw_t 1091 (by decide +kernel) (by decide +kernel)⟩
theorem ml_L_70 : Cond.methodLink RL 70 yX8_miss ∈ GW := gw_t 1098 (by decide +kernel) (by decide +kernel)
theorem mw_X8_miss : MW yX8_miss (RRf 8) cX8_miss 5 (some .int) 3 := ⟨⟨rfl, by decide +kernel, by decide +kernel, by decide +kernel⟩, gw_t 1099 (by decide +kernel) (by decide +kernel), gw_t 1100 (by decide +kernel) (by decide +kernel), gw_t 1 (by decide +kernel) (by decide +kernel), gw_t 1101 (by decide +kernel) (by decide +kernel)⟩
theorem ml_L_73 : Cond.methodLink RL 73 yX8_drawn ∈ GW := gw_t 1114 (by decide +kernel) (by decide +kernel)
theorem mw_X8_drawn : MW yX8_drawn (RRf 8) cX8_drawn 6 (some .int) 4 := ⟨⟨rfl, by decide +kernel, by decide +kernel, by decide +kernel⟩, gw_t 1115 (by decide +kernel) (by decide +kernel), gw_t 1116 (by decide +kernel) (by decide +kernel), gw_t 1 (by decide +kernel) (by decide +kernel), gw_t 1117 (by decide +kernel) (by decide +kernel)⟩
theorem ml_L_76 : Cond.methodLink RL 76 yX8_change ∈ GW := gw_t 1125 (by decide +kernel) (by decide +kernel)
theorem mw_X8_change : MW yX8_change (RRf 8) cX8_change 3 (some .int) 2 := ⟨⟨rfl, by decide +kernel, by decide +kernel, by decide +kernel⟩, gw_t 1126 (by decide +kernel) (by decide +kernel), gw_t 1127 (by decide +kernel) (by decide +kernel), gw_t 1 (by decide +kernel) (by decide +kernel), gw_t 1128 (by decide +kernel) (by decide +kernel)⟩
theorem ml_L_79 : Cond.methodLink RL 79 yX8_yet ∈ GW := gw_t 1140 (by decide +kernel) (by decide +kernel)
theorem mw_X8_yet : MW yX8_yet (RRf 8) cX8_yet 4 (some .int) 1 := ⟨⟨rfl, by decide +kernel, by decide +kernel, by decide +kernel⟩, gw_t 1141 (by decide +kernel) (by decide +kernel), gw_t 1142 (by decide +kernel) (by decide +kernel), gw_t 1 (by decide +kernel) (by decide +kernel), gw_t 1143 (by decide +kernel) (by decide +kernel)⟩
theorem ml_L_82 : Cond.methodLink RL 82 yX8_least ∈ GW := gw_t 1151 (by decide +kernel) (by decide +kernel)
theorem mw_X8_least : MW yX8_least (RRf 8) cX8_least 7 (some .int) 3 := ⟨⟨rfl, by decide +kernel, by decide +kernel, by decide +kernel⟩, gw_t 1152 (by decide +kernel) (by decide +kernel), gw_t 1153 (by decide +kernel) (by decide +kernel), gw_t 1 (by decide +kernel) (by decide +kernel), gw_t 1154 (by decide +kernel) (by decide +kernel)⟩
theorem ml_L_85 : Cond.methodLink RL 85 yX8_answer ∈ GW := gw_t 1159 (by decide +kernel) (by decide +kernel)
theorem mw_X8_answer : MW yX8_answer (RRf 8) cX8_answer 5 (some .int) 3 := ⟨⟨rfl, by decide +kernel, by decide +kernel, by decide +kernel⟩, gw_t 1160 (by decide +kernel) (by decide +kernel), gw_t 1161 (by decide +kernel) (by decide +kernel), gw_t 1 (by decide +kernel) (by decide +kernel), gw_t 1162 (by decide +kernel) (by decide +kernel)⟩
theorem ml_L_88 : Cond.methodLink RL 88 yX8_counted ∈ GW := gw_t 1166 (by decide +kernel) (by decide +kernel)
theorem mw_X8_counted : MW yX8_counted (RRf 8) cX8_counted 4 (some .int) 2 := ⟨⟨rfl, by decide +kernel, by decide +kernel, by decide +kernel⟩, gw_t 1167 (by decide +kernel) (by decide +kernel), gw_t 1168 (by decide +kernel) (by decide +kernel), gw_t 1 (by decide +kernel) (by decide +kernel), gw_t 1169 (by decide +kernel) (by decide +kernel)⟩
theorem ml_L_91 : Cond.methodLink RL 91 yX8_sure ∈ GW := gw_t 1173 (by decide +kernel) (by decide +kernel)
theorem mw_X8_sure : MW yX8_sure (RRf 8) cX8_sure 4 (some .int) 2 := ⟨⟨rfl, by decide +kernel, by decide +kernel, by decide +kernel⟩, gw_t 1174 (by decide +kernel) (by decide +kernel), gw_t 1175 (by decide +kernel) (by decide +kernel), gw_t 1 (by decide +kernel) (by decide +kernel), gw_t 1176 (by decide +kernel) (by decide +kernel)⟩
theorem ml_L_94 : Cond.methodLink RL 94 yX8_share ∈ GW := gw_t 1180 (by decide +kernel) (by decide +kernel)
theorem mw_X8_share : MW yX8_share (RRf 8) cX8_share 8 (some .int) 4 := ⟨⟨rfl, by decide +kernel, by decide +kernel, by decide +kernel⟩, gw_t 1181 (by decide +kernel) (by decide +kernel), gw_t 1182 (by decide +kernel) (by decide +kernel), gw_t 1 (by decide +kernel) (by decide +kernel), gw_t 1183 (by decide +kernel) (by decide +kernel)⟩
theorem ml_L_97 : Cond.methodLink RL 97 yX8_guessed ∈ GW := gw_t 1206 (by decide +kernel) (by decide +kernel)
theorem mw_X8_guessed : MW yX8_guessed (RRf 8) cX8_guessed 10 (some .int) 4 := ⟨⟨rfl, by decide +kernel, by decide +kernel, by decide +kernel⟩, gw_t 1207 (by decide +kernel) (by decide +kernel), gw_t 1208 (by decide +kernel) (by decide +kernel), gw_t 1 (by decide +kernel) (by decide +kernel), gw_t 1209 (by decide +kernel) (by decide +kernel)⟩
theorem ml_L_100 : Cond.methodLink RL 100 yX8_apart ∈ GW := gw_t 1213 (by decide +kernel) (by decide +kernel)
theorem mw_X8_apart : MW yX8_apart (RRf 8) cX8_apart 11 (some .int) 6 := ⟨⟨rfl, by decide +kernel, by decide +kernel, by decide +kernel⟩, gw_t 1214 (by decide +kernel) (by decide +kernel), gw_t 1215 (by decide +kernel) (by decide +kernel), gw_t 1 (by decide +kernel) (by decide +kernel), gw_t 1216 (by decide +kernel) (by decide +kernel)⟩
theorem ml_L_104 : Cond.methodLink RL 104 yX8_gone ∈ GW := gw_t 1226 (by decide +kernel) (by decide +kernel)
theorem mw_X8_gone : MW yX8_gone (RRf 8) cX8_gone 6 (some .int) 3 := ⟨⟨rfl, by decide +kernel, by decide +kernel, by decide +kernel⟩, gw_t 1227 (by decide +kernel) (by decide +kernel), gw_t 1228 (by decide +kernel) (by decide +kernel), gw_t 1 (by decide +kernel) (by decide +kernel), gw_t 1229 (by decide +kernel) (by decide +kernel)⟩
theorem ml_L_107 : Cond.methodLink RL 107 yX8_lost ∈ GW := gw_t 1241 (by decide +kernel) (by decide +kernel)
theorem mw_X8_lost : MW yX8_lost (RRf 8) cX8_lost 2 (some .int) 1 := ⟨⟨rfl, by decide +kernel, by decide +kernel, by decide +kernel⟩, gw_t 1242 (by decide +kernel) (by decide +kernel), gw_t 1243 (by decide +kernel) (by decide +kernel), gw_t 1 (by decide +kernel) (by decide +kernel), gw_t 1244 (by decide +kernel) (by decide +kernel)⟩
theorem ml_L_110 : Cond.methodLink RL 110 yX8_cost ∈ GW := gw_t 1255 (by decide +kernel) (by decide +kernel)
theorem mw_X8_cost : MW yX8_cost (RRf 8) cX8_cost 4 (some .int) 3 := ⟨⟨rfl, by decide +kernel, by decide +kernel, by decide +kernel⟩, gw_t 1256 (by decide +kernel) (by decide +kernel), gw_t 1257 (by decide +kernel) (by decide +kernel), gw_t 1 (by decide +kernel) (by decide +kernel), gw_t 1258 (by decide +kernel) (by decide +kernel)⟩
theorem ml_L_113 : Cond.methodLink RL 113 yX8_off ∈ GW := gw_t 1275 (by decide +kernel) (by decide +kernel)
theorem mw_X8_off : MW yX8_off (RRf 8) cX8_off 8 (some .int) 3 := ⟨⟨rfl, by decide +kernel, by decide +kernel, by decide +kernel⟩, gw_t 1276 (by decide +kernel) (by decide +kernel), gw_t 1277 (by decide +kernel) (by decide +kernel), gw_t 1 (by decide +kernel) (by decide +kernel), gw_t 1278 (by decide +kernel) (by decide +kernel)⟩
theorem ml_L_116 : Cond.methodLink RL 116 yX8_weigh ∈ GW := gw_t 1283 (by decide +kernel) (by decide +kernel)
theorem mw_X8_weigh : MW yX8_weigh (RRf 8) cX8_weigh 4 (some .int) 2 := ⟨⟨rfl, by decide +kernel, by decide +kernel, by decide +kernel⟩, gw_t 1284 (by decide +kernel) (by decide +kernel), gw_t 1285 (by decide +kernel) (by decide +kernel), gw_t 1 (by decide +kernel) (by decide +kernel), gw_t 1286 (by decide +kernel) (by decide +kernel)⟩
theorem ml_L_119 : Cond.methodLink RL 119 yX8_wrong ∈ GW := gw_t 1290 (by decide +kernel) (by decide +kernel)
theorem mw_X8_wrong : MW yX8_wrong (RRf 8) cX8_wrong 3 (some .int) 1 := ⟨⟨rfl, by decide +kernel, by decide +kernel, by decide +kernel⟩, gw_t 1291 (by decide +kernel) (by decide +kernel), gw_t 1292 (by decide +kernel) (by decide +kernel), gw_t 1 (by decide +kernel) (by decide +kernel), gw_t 1293 (by decide +kernel) (by decide +kernel)⟩
theorem ml_L_122 : Cond.methodLink RL 122 yX8_odds ∈ GW := gw_t 1297 (by decide +kernel) (by decide +kernel)
theorem mw_X8_odds : MW yX8_odds (RRf 8) cX8_odds 2 (some .long) 1 := ⟨⟨rfl, by decide +kernel, by decide +kernel, by decide +kernel⟩, gw_t 1298 (by decide +kernel) (by decide +kernel), gw_t 1299 (by decide +kernel) (by decide +kernel), gw_t 1 (by decide +kernel) (by decide +kernel), gw_t 1300 (by decide +kernel) (by decide +kernel)⟩
theorem ml_L_126 : Cond.methodLink RL 126 yX8_fits ∈ GW := gw_t 1304 (by decide +kernel) (by decide +kernel)
theorem mw_X8_fits : MW yX8_fits (RRf 8) cX8_fits 2 (some .int) 1 := ⟨⟨rfl, by decide +kernel, by decide +kernel, by decide +kernel⟩, gw_t 1305 (by decide +kernel) (by decide +kernel), gw_t 1306 (by decide +kernel) (by decide +kernel), gw_t 1 (by decide +kernel) (by decide +kernel), gw_t 1307 (by decide +kernel) (by decide +kernel)⟩
theorem ml_L_129 : Cond.methodLink RL 129 yX8_knowing ∈ GW := gw_t 1318 (by decide +kernel) (by decide +kernel)
theorem mw_X8_knowing : MW yX8_knowing (RRf 8) cX8_knowing 5 (some .int) 2 := ⟨⟨rfl, by decide +kernel, by decide +kernel, by decide +kernel⟩, gw_t 1319 (by decide +kernel) (by decide +kernel), gw_t 1320 (by decide +kernel) (by decide +kernel), gw_t 1 (by decide +kernel) (by decide +kernel), gw_t 1321 (by decide +kernel) (by decide +kernel)⟩
theorem ml_L_132 : Cond.methodLink RL 132 yX8_crossing ∈ GW := gw_t 1325 (by decide +kernel) (by decide +kernel)
theorem mw_X8_crossing : MW yX8_crossing (RRf 8) cX8_crossing 8 (some .int) 4 := ⟨⟨rfl, by decide +kernel, by decide +kernel, by decide +kernel⟩, gw_t 1326 (by decide +kernel) (by decide +kernel), gw_t 1327 (by decide +kernel) (by decide +kernel), gw_t 1 (by decide +kernel) (by decide +kernel), gw_t 1328 (by decide +kernel) (by decide +kernel)⟩
set_option maxHeartbeats 4000000 in
theorem vL_scene {l : Launch} (hfl : l.stackTraces = false) {E : EV} {a0 : Nat → Nat → Nat} {u0 : HS} {x1 : Int32} {out : Nat × Int32 × HS} {z : Int32} (h : mX8_scene u0 x1 = some out) (hz : (out.1 = 0 ∧ z = 0) ∨ (out.1 = 1 ∧ z = 1)) : CtH l E yL_scene cL_scene 4 [(0, 9, 12, 13)] 9 208 3 4806 a0 u0 [.ref (a0 8 0), .int x1, .ref (a0 90 0)] z out.2.1.toInt64 out.2.2 := by
  refine CtH.start (by decide) (Nat.le_of_ble_eq_true rfl) ?_
  intro p e s m args below meth c ls C hT hr hR hS hl
  have C : Cx E p s m args meth c cL_scene 4 RL := C
  obtain ⟨a, hAL, hR, hl⟩ : ∃ a : Nat → Nat → Nat, ALo a0 a ∧ Rel E a u0 s.heap ∧ lv_has ls 4 [(0, .ref (a 8 0)), (1, .int x1), (2, .ref (a 90 0))] := ⟨a0, ALo.rf, hR, hl⟩
  have hx := C.1
  have hb := C.2.1
  refine lv_aload_n hx hb dL_scene_0 rfl (lv_at hl 2 rfl) ?_
  refine lv_iconst (v := 0) hx hb dL_scene_1 (by decide) ?_
  refine lv_aload_n hx hb dL_scene_2 rfl (lv_at hl 0 rfl) ?_
  refine lv_iload_n hx hb dL_scene_3 rfl (lv_at hl 1 rfl) ?_
  refine l_callE (As := [.int x1]) (rest := [.int 0, .ref (a 90 0)]) C (vX8_scene hfl h) hR hS ml_L_7 mw_X8_scene rfl ⟨Nat.le_of_ble_eq_true rfl, Nat.le_of_ble_eq_true rfl, Nat.le_of_ble_eq_true rfl, Nat.le_of_ble_eq_true rfl⟩ hl.1 rfl (Nat.le_of_ble_eq_true rfl) dL_scene_4 (fun hk a H locs q ce hag hR hS hq hv hc => ?_) (fun hk a H locs hag hR hS => ?_)
  · have hAL : ALo a0 a := fun r i h1 h2 h3 h4 => (hag r i h1 h2 h3).trans (hAL r i h1 h2 h3 h4)
    have hl : lv_has ls 4 [(0, .ref (a 8 0)), (1, .int x1), (2, .ref (a 90 0))] := by rw [hag 8 0 (by decide) (by decide) (by decide), hag 90 0 (by decide) (by decide) (by decide)]; exact hl
    rcases hz with ⟨hk0, hz0⟩ | ⟨hk0, hz0⟩
    · exact absurd hk0 hk
    · rw [hk0] at hc
      refine vx_catch (own := RL) (name := "java/lang/IllegalArgumentException") (E := xcl 1) C.2.2.2.1 [] ⟨0, 9, 12, 13⟩ [] (by rw [hT]; rfl) (fun z9 hz9 => absurd hz9 List.not_mem_nil) (by decide) (by decide) (C.2.2.2.2.1 _ cl_L_13) (l_cast1 C) hq hv hc ?_
      refine lv_astore_n (lv' := [(3, .ref q)]) hx hb dL_scene_12 rfl (lv_sub hl [] rfl) (by decide) rfl (fun ls hl => ?_)
      refine lv_iconst (v := 1) hx hb dL_scene_13 (by decide) ?_
      subst hz0
      exact e_iretO hAL (fun q9 => absurd q9 (by decide)) C hr hR hS (Nat.le_of_ble_eq_true rfl) (Nat.le_of_ble_eq_true rfl) dL_scene_14
  · have hAL : ALo a0 a := fun r i h1 h2 h3 h4 => (hag r i h1 h2 h3).trans (hAL r i h1 h2 h3 h4)
    have hl : lv_has ls 4 [(0, .ref (a 8 0)), (1, .int x1), (2, .ref (a 90 0))] := by rw [hag 8 0 (by decide) (by decide) (by decide), hag 90 0 (by decide) (by decide) (by decide)]; exact hl
    obtain rfl : z = 0 := by rcases hz with ⟨hk0, hz0⟩ | ⟨hk0, hz0⟩ <;> first | exact hz0 | exact absurd (hk.symm.trans hk0) (by decide)
    rw [← hag 90 0 (by decide) (by decide) (by decide)]
    refine lv_i2l (v := out.2.1.toInt64) hx hb dL_scene_7 rfl ?_
    refine r_outst (x := out.2.1.toInt64) C hR hS dL_scene_8 (fun H locs hR hS => ?_)
    refine lv_goto (tgt := 15) hx hb dL_scene_9 (by decide) ?_
    refine lv_iconst (v := 0) hx hb dL_scene_15 (by decide) ?_
    exact e_iretO (fun r i h1 h2 h3 h4 => (show upA a 92 0 _ r i = a r i from if_neg (fun q => h4 q.1)).trans (hAL r i h1 h2 h3 h4)) (fun _ => by rw [show upA a 92 0 _ 92 0 = _ from if_pos ⟨rfl, rfl⟩]) C hr hR hS (Nat.le_of_ble_eq_true rfl) (Nat.le_of_ble_eq_true rfl) dL_scene_16
set_option maxHeartbeats 4000000 in
theorem vL_task {l : Launch} (hfl : l.stackTraces = false) {E : EV} {a0 : Nat → Nat → Nat} {u0 : HS} {x1 : Int32} {out : Nat × Int32 × HS} {z : Int32} (h : mX8_task u0 x1 = some out) (hz : (out.1 = 0 ∧ z = 0) ∨ (out.1 = 1 ∧ z = 1)) : CtH l E yL_task cL_task 4 [(0, 9, 12, 13)] 9 207 1 6 a0 u0 [.ref (a0 8 0), .int x1, .ref (a0 90 0)] z out.2.1.toInt64 out.2.2 := by
  refine CtH.start (by decide) (Nat.le_of_ble_eq_true rfl) ?_
  intro p e s m args below meth c ls C hT hr hR hS hl
  have C : Cx E p s m args meth c cL_task 4 RL := C
  obtain ⟨a, hAL, hR, hl⟩ : ∃ a : Nat → Nat → Nat, ALo a0 a ∧ Rel E a u0 s.heap ∧ lv_has ls 4 [(0, .ref (a 8 0)), (1, .int x1), (2, .ref (a 90 0))] := ⟨a0, ALo.rf, hR, hl⟩
  have hx := C.1
  have hb := C.2.1
  refine lv_aload_n hx hb dL_task_0 rfl (lv_at hl 2 rfl) ?_
  refine lv_iconst (v := 0) hx hb dL_task_1 (by decide) ?_
  refine lv_aload_n hx hb dL_task_2 rfl (lv_at hl 0 rfl) ?_
  refine lv_iload_n hx hb dL_task_3 rfl (lv_at hl 1 rfl) ?_
  refine l_callX (As := [.int x1]) (rest := [.int 0, .ref (a 90 0)]) C (vX8_task hfl h) hR hS ml_L_15 mw_X8_task rfl ⟨Nat.le_of_ble_eq_true rfl, Nat.le_of_ble_eq_true rfl, Nat.le_of_ble_eq_true rfl, Nat.le_of_ble_eq_true rfl⟩ hl.1 rfl (Nat.le_of_ble_eq_true rfl) dL_task_4 (fun hk a H locs q ce hag hR hS hq hv hc => ?_) (fun hk a H locs hag hR hS => ?_)
  · have hAL : ALo a0 a := fun r i h1 h2 h3 h4 => (hag r i h1 h2 h3).trans (hAL r i h1 h2 h3 h4)
    have hl : lv_has ls 4 [(0, .ref (a 8 0)), (1, .int x1), (2, .ref (a 90 0))] := by rw [hag 8 0 (by decide) (by decide) (by decide), hag 90 0 (by decide) (by decide) (by decide)]; exact hl
    rcases hz with ⟨hk0, hz0⟩ | ⟨hk0, hz0⟩
    · exact absurd hk0 hk
    · rw [hk0] at hc
      refine vx_catch (own := RL) (name := "java/lang/IllegalArgumentException") (E := xcl 1) C.2.2.2.1 [] ⟨0, 9, 12, 13⟩ [] (by rw [hT]; rfl) (fun z9 hz9 => absurd hz9 List.not_mem_nil) (by decide) (by decide) (C.2.2.2.2.1 _ cl_L_13) (l_cast1 C) hq hv hc ?_
      refine lv_astore_n (lv' := [(3, .ref q)]) hx hb dL_task_12 rfl (lv_sub hl [] rfl) (by decide) rfl (fun ls hl => ?_)
      refine lv_iconst (v := 1) hx hb dL_task_13 (by decide) ?_
      subst hz0
      exact e_iretO hAL (fun q9 => absurd q9 (by decide)) C hr hR hS (Nat.le_of_ble_eq_true rfl) (Nat.le_of_ble_eq_true rfl) dL_task_14
  · have hAL : ALo a0 a := fun r i h1 h2 h3 h4 => (hag r i h1 h2 h3).trans (hAL r i h1 h2 h3 h4)
    have hl : lv_has ls 4 [(0, .ref (a 8 0)), (1, .int x1), (2, .ref (a 90 0))] := by rw [hag 8 0 (by decide) (by decide) (by decide), hag 90 0 (by decide) (by decide) (by decide)]; exact hl
    obtain rfl : z = 0 := by rcases hz with ⟨hk0, hz0⟩ | ⟨hk0, hz0⟩ <;> first | exact hz0 | exact absurd (hk.symm.trans hk0) (by decide)
    rw [← hag 90 0 (by decide) (by decide) (by decide)]
    refine lv_i2l (v := out.2.1.toInt64) hx hb dL_task_7 rfl ?_
    refine r_outst (x := out.2.1.toInt64) C hR hS dL_task_8 (fun H locs hR hS => ?_)
    refine lv_goto (tgt := 15) hx hb dL_task_9 (by decide) ?_
    refine lv_iconst (v := 0) hx hb dL_task_15 (by decide) ?_
    exact e_iretO (fun r i h1 h2 h3 h4 => (show upA a 92 0 _ r i = a r i from if_neg (fun q => h4 q.1)).trans (hAL r i h1 h2 h3 h4)) (fun _ => by rw [show upA a 92 0 _ 92 0 = _ from if_pos ⟨rfl, rfl⟩]) C hr hR hS (Nat.le_of_ble_eq_true rfl) (Nat.le_of_ble_eq_true rfl) dL_task_16
set_option maxHeartbeats 4000000 in
theorem vL_law {l : Launch} (hfl : l.stackTraces = false) {E : EV} {a0 : Nat → Nat → Nat} {u0 : HS} {x1 : Int32} {out : Nat × Int32 × HS} {z : Int32} (h : mX8_law u0 x1 = some out) (hz : (out.1 = 0 ∧ z = 0) ∨ (out.1 = 1 ∧ z = 1)) : CtH l E yL_law cL_law 4 [(0, 9, 12, 13)] 73 2849 1 6 a0 u0 [.ref (a0 8 0), .int x1, .ref (a0 90 0)] z out.2.1.toInt64 out.2.2 := by
  refine CtH.start (by decide) (Nat.le_of_ble_eq_true rfl) ?_
  intro p e s m args below meth c ls C hT hr hR hS hl
  have C : Cx E p s m args meth c cL_law 4 RL := C
  obtain ⟨a, hAL, hR, hl⟩ : ∃ a : Nat → Nat → Nat, ALo a0 a ∧ Rel E a u0 s.heap ∧ lv_has ls 4 [(0, .ref (a 8 0)), (1, .int x1), (2, .ref (a 90 0))] := ⟨a0, ALo.rf, hR, hl⟩
  have hx := C.1
  have hb := C.2.1
  refine lv_aload_n hx hb dL_law_0 rfl (lv_at hl 2 rfl) ?_
  refine lv_iconst (v := 0) hx hb dL_law_1 (by decide) ?_
  refine lv_aload_n hx hb dL_law_2 rfl (lv_at hl 0 rfl) ?_
  refine lv_iload_n hx hb dL_law_3 rfl (lv_at hl 1 rfl) ?_
  refine l_callX (As := [.int x1]) (rest := [.int 0, .ref (a 90 0)]) C (vX8_law hfl h) hR hS ml_L_18 mw_X8_law rfl ⟨Nat.le_of_ble_eq_true rfl, Nat.le_of_ble_eq_true rfl, Nat.le_of_ble_eq_true rfl, Nat.le_of_ble_eq_true rfl⟩ hl.1 rfl (Nat.le_of_ble_eq_true rfl) dL_law_4 (fun hk a H locs q ce hag hR hS hq hv hc => ?_) (fun hk a H locs hag hR hS => ?_)
  · have hAL : ALo a0 a := fun r i h1 h2 h3 h4 => (hag r i h1 h2 h3).trans (hAL r i h1 h2 h3 h4)
    have hl : lv_has ls 4 [(0, .ref (a 8 0)), (1, .int x1), (2, .ref (a 90 0))] := by rw [hag 8 0 (by decide) (by decide) (by decide), hag 90 0 (by decide) (by decide) (by decide)]; exact hl
    rcases hz with ⟨hk0, hz0⟩ | ⟨hk0, hz0⟩
    · exact absurd hk0 hk
    · rw [hk0] at hc
      refine vx_catch (own := RL) (name := "java/lang/IllegalArgumentException") (E := xcl 1) C.2.2.2.1 [] ⟨0, 9, 12, 13⟩ [] (by rw [hT]; rfl) (fun z9 hz9 => absurd hz9 List.not_mem_nil) (by decide) (by decide) (C.2.2.2.2.1 _ cl_L_13) (l_cast1 C) hq hv hc ?_
      refine lv_astore_n (lv' := [(3, .ref q)]) hx hb dL_law_12 rfl (lv_sub hl [] rfl) (by decide) rfl (fun ls hl => ?_)
      refine lv_iconst (v := 1) hx hb dL_law_13 (by decide) ?_
      subst hz0
      exact e_iretO hAL (fun q9 => absurd q9 (by decide)) C hr hR hS (Nat.le_of_ble_eq_true rfl) (Nat.le_of_ble_eq_true rfl) dL_law_14
  · have hAL : ALo a0 a := fun r i h1 h2 h3 h4 => (hag r i h1 h2 h3).trans (hAL r i h1 h2 h3 h4)
    have hl : lv_has ls 4 [(0, .ref (a 8 0)), (1, .int x1), (2, .ref (a 90 0))] := by rw [hag 8 0 (by decide) (by decide) (by decide), hag 90 0 (by decide) (by decide) (by decide)]; exact hl
    obtain rfl : z = 0 := by rcases hz with ⟨hk0, hz0⟩ | ⟨hk0, hz0⟩ <;> first | exact hz0 | exact absurd (hk.symm.trans hk0) (by decide)
    rw [← hag 90 0 (by decide) (by decide) (by decide)]
    refine lv_i2l (v := out.2.1.toInt64) hx hb dL_law_7 rfl ?_
    refine r_outst (x := out.2.1.toInt64) C hR hS dL_law_8 (fun H locs hR hS => ?_)
    refine lv_goto (tgt := 15) hx hb dL_law_9 (by decide) ?_
    refine lv_iconst (v := 0) hx hb dL_law_15 (by decide) ?_
    exact e_iretO (fun r i h1 h2 h3 h4 => (show upA a 92 0 _ r i = a r i from if_neg (fun q => h4 q.1)).trans (hAL r i h1 h2 h3 h4)) (fun _ => by rw [show upA a 92 0 _ 92 0 = _ from if_pos ⟨rfl, rfl⟩]) C hr hR hS (Nat.le_of_ble_eq_true rfl) (Nat.le_of_ble_eq_true rfl) dL_law_16
set_option maxHeartbeats 4000000 in
theorem vL_told {l : Launch} (hfl : l.stackTraces = false) {E : EV} {a0 : Nat → Nat → Nat} {u0 : HS} {x1 : Int32} {x2 : Int32} {out : Nat × Int32 × HS} {z : Int32} (h : mX8_told u0 x1 x2 = some out) (hz : (out.1 = 0 ∧ z = 0) ∨ (out.1 = 2 ∧ z = 1) ∨ (out.1 = 1 ∧ z = 2)) : CtH l E yL_told cL_told 5 [(0, 10, 13, 25), (0, 10, 17, 13)] 8 134 2 12 a0 u0 [.ref (a0 8 0), .int x1, .int x2, .ref (a0 90 0)] z out.2.1.toInt64 out.2.2 := by
  refine CtH.start (by decide) (Nat.le_of_ble_eq_true rfl) ?_
  intro p e s m args below meth c ls C hT hr hR hS hl
  have C : Cx E p s m args meth c cL_told 5 RL := C
  obtain ⟨a, hAL, hR, hl⟩ : ∃ a : Nat → Nat → Nat, ALo a0 a ∧ Rel E a u0 s.heap ∧ lv_has ls 5 [(0, .ref (a 8 0)), (1, .int x1), (2, .int x2), (3, .ref (a 90 0))] := ⟨a0, ALo.rf, hR, hl⟩
  have hx := C.1
  have hb := C.2.1
  refine lv_aload_n hx hb dL_told_0 rfl (lv_at hl 3 rfl) ?_
  refine lv_iconst (v := 0) hx hb dL_told_1 (by decide) ?_
  refine lv_aload_n hx hb dL_told_2 rfl (lv_at hl 0 rfl) ?_
  refine lv_iload_n hx hb dL_told_3 rfl (lv_at hl 1 rfl) ?_
  refine lv_iload_n hx hb dL_told_4 rfl (lv_at hl 2 rfl) ?_
  refine l_callX (As := [.int x1, .int x2]) (rest := [.int 0, .ref (a 90 0)]) C (vX8_told hfl h) hR hS ml_L_21 mw_X8_told rfl ⟨Nat.le_of_ble_eq_true rfl, Nat.le_of_ble_eq_true rfl, Nat.le_of_ble_eq_true rfl, Nat.le_of_ble_eq_true rfl⟩ hl.1 rfl (Nat.le_of_ble_eq_true rfl) dL_told_5 (fun hk a H locs q ce hag hR hS hq hv hc => ?_) (fun hk a H locs hag hR hS => ?_)
  · have hAL : ALo a0 a := fun r i h1 h2 h3 h4 => (hag r i h1 h2 h3).trans (hAL r i h1 h2 h3 h4)
    have hl : lv_has ls 5 [(0, .ref (a 8 0)), (1, .int x1), (2, .int x2), (3, .ref (a 90 0))] := by rw [hag 8 0 (by decide) (by decide) (by decide), hag 90 0 (by decide) (by decide) (by decide)]; exact hl
    rcases hz with ⟨hk0, hz0⟩ | ⟨hk0, hz0⟩ | ⟨hk0, hz0⟩
    · exact absurd hk0 hk
    · rw [hk0] at hc
      refine vx_catch (own := RL) (name := "java/util/NoSuchElementException") (E := xcl 2) C.2.2.2.1 [] ⟨0, 10, 13, 25⟩ [⟨0, 10, 17, 13⟩] (by rw [hT]; rfl) (fun z9 hz9 => absurd hz9 List.not_mem_nil) (by decide) (by decide) (C.2.2.2.2.1 _ cl_L_25) (l_cast2 C) hq hv hc ?_
      refine lv_astore (lv' := [(4, .ref q)]) hx hb dL_told_13 (lv_sub hl [] rfl) (by decide) rfl (fun ls hl => ?_)
      refine lv_iconst (v := 1) hx hb dL_told_15 (by decide) ?_
      subst hz0
      exact e_iretO hAL (fun q9 => absurd q9 (by decide)) C hr hR hS (Nat.le_of_ble_eq_true rfl) (Nat.le_of_ble_eq_true rfl) dL_told_16
    · rw [hk0] at hc
      refine vx_catch (own := RL) (name := "java/lang/IllegalArgumentException") (E := xcl 1) C.2.2.2.1 [⟨0, 10, 13, 25⟩] ⟨0, 10, 17, 13⟩ [] (by rw [hT]; rfl) (fun z9 hz9 => by
        simp only [List.mem_cons, List.not_mem_nil, or_false] at hz9
        rcases hz9 with rfl
        · exact Or.inr ⟨by decide, _, C.2.2.2.2.1 _ cl_L_25, l_nc12 C⟩) (by decide) (by decide) (C.2.2.2.2.1 _ cl_L_13) (l_cast1 C) hq hv hc ?_
      refine lv_astore (lv' := [(4, .ref q)]) hx hb dL_told_17 (lv_sub hl [] rfl) (by decide) rfl (fun ls hl => ?_)
      refine lv_iconst (v := 2) hx hb dL_told_19 (by decide) ?_
      subst hz0
      exact e_iretO hAL (fun q9 => absurd q9 (by decide)) C hr hR hS (Nat.le_of_ble_eq_true rfl) (Nat.le_of_ble_eq_true rfl) dL_told_20
  · have hAL : ALo a0 a := fun r i h1 h2 h3 h4 => (hag r i h1 h2 h3).trans (hAL r i h1 h2 h3 h4)
    have hl : lv_has ls 5 [(0, .ref (a 8 0)), (1, .int x1), (2, .int x2), (3, .ref (a 90 0))] := by rw [hag 8 0 (by decide) (by decide) (by decide), hag 90 0 (by decide) (by decide) (by decide)]; exact hl
    obtain rfl : z = 0 := by rcases hz with ⟨hk0, hz0⟩ | ⟨hk0, hz0⟩ | ⟨hk0, hz0⟩ <;> first | exact hz0 | exact absurd (hk.symm.trans hk0) (by decide)
    rw [← hag 90 0 (by decide) (by decide) (by decide)]
    refine lv_i2l (v := out.2.1.toInt64) hx hb dL_told_8 rfl ?_
    refine r_outst (x := out.2.1.toInt64) C hR hS dL_told_9 (fun H locs hR hS => ?_)
    refine lv_goto (tgt := 21) hx hb dL_told_10 (by decide) ?_
    refine lv_iconst (v := 0) hx hb dL_told_21 (by decide) ?_
    exact e_iretO (fun r i h1 h2 h3 h4 => (show upA a 92 0 _ r i = a r i from if_neg (fun q => h4 q.1)).trans (hAL r i h1 h2 h3 h4)) (fun _ => by rw [show upA a 92 0 _ 92 0 = _ from if_pos ⟨rfl, rfl⟩]) C hr hR hS (Nat.le_of_ble_eq_true rfl) (Nat.le_of_ble_eq_true rfl) dL_told_22
set_option maxHeartbeats 4000000 in
theorem vL_thing {l : Launch} (hfl : l.stackTraces = false) {E : EV} {a0 : Nat → Nat → Nat} {u0 : HS} {x1 : Int32} {x2 : Int32} {x3 : Int32} {x4 : Int32} {out : Nat × Int32 × HS} {z : Int32} (h : mX8_thing u0 x1 x2 x3 x4 = some out) (hz : (out.1 = 0 ∧ z = 0) ∨ (out.1 = 2 ∧ z = 1) ∨ (out.1 = 1 ∧ z = 2)) : CtH l E yL_thing cL_thing 7 [(0, 14, 17, 25), (0, 14, 21, 13)] 8 137 2 12 a0 u0 [.ref (a0 8 0), .int x1, .int x2, .int x3, .int x4, .ref (a0 90 0)] z out.2.1.toInt64 out.2.2 := by
  refine CtH.start (by decide) (Nat.le_of_ble_eq_true rfl) ?_
  intro p e s m args below meth c ls C hT hr hR hS hl
  have C : Cx E p s m args meth c cL_thing 7 RL := C
  obtain ⟨a, hAL, hR, hl⟩ : ∃ a : Nat → Nat → Nat, ALo a0 a ∧ Rel E a u0 s.heap ∧ lv_has ls 7 [(0, .ref (a 8 0)), (1, .int x1), (2, .int x2), (3, .int x3), (4, .int x4), (5, .ref (a 90 0))] := ⟨a0, ALo.rf, hR, hl⟩
  have hx := C.1
  have hb := C.2.1
  refine lv_aload hx hb dL_thing_0 (lv_at hl 5 rfl) ?_
  refine lv_iconst (v := 0) hx hb dL_thing_2 (by decide) ?_
  refine lv_aload_n hx hb dL_thing_3 rfl (lv_at hl 0 rfl) ?_
  refine lv_iload_n hx hb dL_thing_4 rfl (lv_at hl 1 rfl) ?_
  refine lv_iload_n hx hb dL_thing_5 rfl (lv_at hl 2 rfl) ?_
  refine lv_iload_n hx hb dL_thing_6 rfl (lv_at hl 3 rfl) ?_
  refine lv_iload hx hb dL_thing_7 (lv_at hl 4 rfl) ?_
  refine l_callX (As := [.int x1, .int x2, .int x3, .int x4]) (rest := [.int 0, .ref (a 90 0)]) C (vX8_thing hfl h) hR hS ml_L_27 mw_X8_thing rfl ⟨Nat.le_of_ble_eq_true rfl, Nat.le_of_ble_eq_true rfl, Nat.le_of_ble_eq_true rfl, Nat.le_of_ble_eq_true rfl⟩ hl.1 rfl (Nat.le_of_ble_eq_true rfl) dL_thing_9 (fun hk a H locs q ce hag hR hS hq hv hc => ?_) (fun hk a H locs hag hR hS => ?_)
  · have hAL : ALo a0 a := fun r i h1 h2 h3 h4 => (hag r i h1 h2 h3).trans (hAL r i h1 h2 h3 h4)
    have hl : lv_has ls 7 [(0, .ref (a 8 0)), (1, .int x1), (2, .int x2), (3, .int x3), (4, .int x4), (5, .ref (a 90 0))] := by rw [hag 8 0 (by decide) (by decide) (by decide), hag 90 0 (by decide) (by decide) (by decide)]; exact hl
    rcases hz with ⟨hk0, hz0⟩ | ⟨hk0, hz0⟩ | ⟨hk0, hz0⟩
    · exact absurd hk0 hk
    · rw [hk0] at hc
      refine vx_catch (own := RL) (name := "java/util/NoSuchElementException") (E := xcl 2) C.2.2.2.1 [] ⟨0, 14, 17, 25⟩ [⟨0, 14, 21, 13⟩] (by rw [hT]; rfl) (fun z9 hz9 => absurd hz9 List.not_mem_nil) (by decide) (by decide) (C.2.2.2.2.1 _ cl_L_25) (l_cast2 C) hq hv hc ?_
      refine lv_astore (lv' := [(6, .ref q)]) hx hb dL_thing_17 (lv_sub hl [] rfl) (by decide) rfl (fun ls hl => ?_)
      refine lv_iconst (v := 1) hx hb dL_thing_19 (by decide) ?_
      subst hz0
      exact e_iretO hAL (fun q9 => absurd q9 (by decide)) C hr hR hS (Nat.le_of_ble_eq_true rfl) (Nat.le_of_ble_eq_true rfl) dL_thing_20
    · rw [hk0] at hc
      refine vx_catch (own := RL) (name := "java/lang/IllegalArgumentException") (E := xcl 1) C.2.2.2.1 [⟨0, 14, 17, 25⟩] ⟨0, 14, 21, 13⟩ [] (by rw [hT]; rfl) (fun z9 hz9 => by
        simp only [List.mem_cons, List.not_mem_nil, or_false] at hz9
        rcases hz9 with rfl
        · exact Or.inr ⟨by decide, _, C.2.2.2.2.1 _ cl_L_25, l_nc12 C⟩) (by decide) (by decide) (C.2.2.2.2.1 _ cl_L_13) (l_cast1 C) hq hv hc ?_
      refine lv_astore (lv' := [(6, .ref q)]) hx hb dL_thing_21 (lv_sub hl [] rfl) (by decide) rfl (fun ls hl => ?_)
      refine lv_iconst (v := 2) hx hb dL_thing_23 (by decide) ?_
      subst hz0
      exact e_iretO hAL (fun q9 => absurd q9 (by decide)) C hr hR hS (Nat.le_of_ble_eq_true rfl) (Nat.le_of_ble_eq_true rfl) dL_thing_24
  · have hAL : ALo a0 a := fun r i h1 h2 h3 h4 => (hag r i h1 h2 h3).trans (hAL r i h1 h2 h3 h4)
    have hl : lv_has ls 7 [(0, .ref (a 8 0)), (1, .int x1), (2, .int x2), (3, .int x3), (4, .int x4), (5, .ref (a 90 0))] := by rw [hag 8 0 (by decide) (by decide) (by decide), hag 90 0 (by decide) (by decide) (by decide)]; exact hl
    obtain rfl : z = 0 := by rcases hz with ⟨hk0, hz0⟩ | ⟨hk0, hz0⟩ | ⟨hk0, hz0⟩ <;> first | exact hz0 | exact absurd (hk.symm.trans hk0) (by decide)
    rw [← hag 90 0 (by decide) (by decide) (by decide)]
    refine lv_i2l (v := out.2.1.toInt64) hx hb dL_thing_12 rfl ?_
    refine r_outst (x := out.2.1.toInt64) C hR hS dL_thing_13 (fun H locs hR hS => ?_)
    refine lv_goto (tgt := 25) hx hb dL_thing_14 (by decide) ?_
    refine lv_iconst (v := 0) hx hb dL_thing_25 (by decide) ?_
    exact e_iretO (fun r i h1 h2 h3 h4 => (show upA a 92 0 _ r i = a r i from if_neg (fun q => h4 q.1)).trans (hAL r i h1 h2 h3 h4)) (fun _ => by rw [show upA a 92 0 _ 92 0 = _ from if_pos ⟨rfl, rfl⟩]) C hr hR hS (Nat.le_of_ble_eq_true rfl) (Nat.le_of_ble_eq_true rfl) dL_thing_26
set_option maxHeartbeats 4000000 in
theorem vL_kept {l : Launch} (hfl : l.stackTraces = false) {E : EV} {a0 : Nat → Nat → Nat} {u0 : HS} {x1 : Int32} {x2 : Int32} {out : Nat × Int32 × HS} {z : Int32} (h : mX8_kept u0 x1 x2 = some out) (hz : (out.1 = 0 ∧ z = 0) ∨ (out.1 = 3 ∧ z = 1) ∨ (out.1 = 1 ∧ z = 2)) : CtH l E yL_kept cL_kept 5 [(0, 10, 13, 34), (0, 10, 17, 13)] 8 134 2 12 a0 u0 [.ref (a0 8 0), .int x1, .int x2, .ref (a0 90 0)] z out.2.1.toInt64 out.2.2 := by
  refine CtH.start (by decide) (Nat.le_of_ble_eq_true rfl) ?_
  intro p e s m args below meth c ls C hT hr hR hS hl
  have C : Cx E p s m args meth c cL_kept 5 RL := C
  obtain ⟨a, hAL, hR, hl⟩ : ∃ a : Nat → Nat → Nat, ALo a0 a ∧ Rel E a u0 s.heap ∧ lv_has ls 5 [(0, .ref (a 8 0)), (1, .int x1), (2, .int x2), (3, .ref (a 90 0))] := ⟨a0, ALo.rf, hR, hl⟩
  have hx := C.1
  have hb := C.2.1
  refine lv_aload_n hx hb dL_kept_0 rfl (lv_at hl 3 rfl) ?_
  refine lv_iconst (v := 0) hx hb dL_kept_1 (by decide) ?_
  refine lv_aload_n hx hb dL_kept_2 rfl (lv_at hl 0 rfl) ?_
  refine lv_iload_n hx hb dL_kept_3 rfl (lv_at hl 1 rfl) ?_
  refine lv_iload_n hx hb dL_kept_4 rfl (lv_at hl 2 rfl) ?_
  refine l_callX (As := [.int x1, .int x2]) (rest := [.int 0, .ref (a 90 0)]) C (vX8_kept hfl h) hR hS ml_L_31 mw_X8_kept rfl ⟨Nat.le_of_ble_eq_true rfl, Nat.le_of_ble_eq_true rfl, Nat.le_of_ble_eq_true rfl, Nat.le_of_ble_eq_true rfl⟩ hl.1 rfl (Nat.le_of_ble_eq_true rfl) dL_kept_5 (fun hk a H locs q ce hag hR hS hq hv hc => ?_) (fun hk a H locs hag hR hS => ?_)
  · have hAL : ALo a0 a := fun r i h1 h2 h3 h4 => (hag r i h1 h2 h3).trans (hAL r i h1 h2 h3 h4)
    have hl : lv_has ls 5 [(0, .ref (a 8 0)), (1, .int x1), (2, .int x2), (3, .ref (a 90 0))] := by rw [hag 8 0 (by decide) (by decide) (by decide), hag 90 0 (by decide) (by decide) (by decide)]; exact hl
    rcases hz with ⟨hk0, hz0⟩ | ⟨hk0, hz0⟩ | ⟨hk0, hz0⟩
    · exact absurd hk0 hk
    · rw [hk0] at hc
      refine vx_catch (own := RL) (name := "java/lang/IndexOutOfBoundsException") (E := xcl 3) C.2.2.2.1 [] ⟨0, 10, 13, 34⟩ [⟨0, 10, 17, 13⟩] (by rw [hT]; rfl) (fun z9 hz9 => absurd hz9 List.not_mem_nil) (by decide) (by decide) (C.2.2.2.2.1 _ cl_L_34) (l_cast3 C) hq hv hc ?_
      refine lv_astore (lv' := [(4, .ref q)]) hx hb dL_kept_13 (lv_sub hl [] rfl) (by decide) rfl (fun ls hl => ?_)
      refine lv_iconst (v := 1) hx hb dL_kept_15 (by decide) ?_
      subst hz0
      exact e_iretO hAL (fun q9 => absurd q9 (by decide)) C hr hR hS (Nat.le_of_ble_eq_true rfl) (Nat.le_of_ble_eq_true rfl) dL_kept_16
    · rw [hk0] at hc
      refine vx_catch (own := RL) (name := "java/lang/IllegalArgumentException") (E := xcl 1) C.2.2.2.1 [⟨0, 10, 13, 34⟩] ⟨0, 10, 17, 13⟩ [] (by rw [hT]; rfl) (fun z9 hz9 => by
        simp only [List.mem_cons, List.not_mem_nil, or_false] at hz9
        rcases hz9 with rfl
        · exact Or.inr ⟨by decide, _, C.2.2.2.2.1 _ cl_L_34, l_nc13 C⟩) (by decide) (by decide) (C.2.2.2.2.1 _ cl_L_13) (l_cast1 C) hq hv hc ?_
      refine lv_astore (lv' := [(4, .ref q)]) hx hb dL_kept_17 (lv_sub hl [] rfl) (by decide) rfl (fun ls hl => ?_)
      refine lv_iconst (v := 2) hx hb dL_kept_19 (by decide) ?_
      subst hz0
      exact e_iretO hAL (fun q9 => absurd q9 (by decide)) C hr hR hS (Nat.le_of_ble_eq_true rfl) (Nat.le_of_ble_eq_true rfl) dL_kept_20
  · have hAL : ALo a0 a := fun r i h1 h2 h3 h4 => (hag r i h1 h2 h3).trans (hAL r i h1 h2 h3 h4)
    have hl : lv_has ls 5 [(0, .ref (a 8 0)), (1, .int x1), (2, .int x2), (3, .ref (a 90 0))] := by rw [hag 8 0 (by decide) (by decide) (by decide), hag 90 0 (by decide) (by decide) (by decide)]; exact hl
    obtain rfl : z = 0 := by rcases hz with ⟨hk0, hz0⟩ | ⟨hk0, hz0⟩ | ⟨hk0, hz0⟩ <;> first | exact hz0 | exact absurd (hk.symm.trans hk0) (by decide)
    rw [← hag 90 0 (by decide) (by decide) (by decide)]
    refine lv_i2l (v := out.2.1.toInt64) hx hb dL_kept_8 rfl ?_
    refine r_outst (x := out.2.1.toInt64) C hR hS dL_kept_9 (fun H locs hR hS => ?_)
    refine lv_goto (tgt := 21) hx hb dL_kept_10 (by decide) ?_
    refine lv_iconst (v := 0) hx hb dL_kept_21 (by decide) ?_
    exact e_iretO (fun r i h1 h2 h3 h4 => (show upA a 92 0 _ r i = a r i from if_neg (fun q => h4 q.1)).trans (hAL r i h1 h2 h3 h4)) (fun _ => by rw [show upA a 92 0 _ 92 0 = _ from if_pos ⟨rfl, rfl⟩]) C hr hR hS (Nat.le_of_ble_eq_true rfl) (Nat.le_of_ble_eq_true rfl) dL_kept_22
set_option maxHeartbeats 4000000 in
theorem vL_throwsOf {l : Launch} (hfl : l.stackTraces = false) {E : EV} {a0 : Nat → Nat → Nat} {u0 : HS} {x1 : Int32} {x2 : Int32} {out : Nat × Int32 × HS} {z : Int32} (h : mX8_throwsOf u0 x1 x2 = some out) (hz : (out.1 = 0 ∧ z = 0) ∨ (out.1 = 2 ∧ z = 1) ∨ (out.1 = 3 ∧ z = 2)) : CtH l E yL_throwsOf cL_throwsOf 5 [(0, 10, 13, 25), (0, 10, 17, 34)] 8 133 2 12 a0 u0 [.ref (a0 8 0), .int x1, .int x2, .ref (a0 90 0)] z out.2.1.toInt64 out.2.2 := by
  refine CtH.start (by decide) (Nat.le_of_ble_eq_true rfl) ?_
  intro p e s m args below meth c ls C hT hr hR hS hl
  have C : Cx E p s m args meth c cL_throwsOf 5 RL := C
  obtain ⟨a, hAL, hR, hl⟩ : ∃ a : Nat → Nat → Nat, ALo a0 a ∧ Rel E a u0 s.heap ∧ lv_has ls 5 [(0, .ref (a 8 0)), (1, .int x1), (2, .int x2), (3, .ref (a 90 0))] := ⟨a0, ALo.rf, hR, hl⟩
  have hx := C.1
  have hb := C.2.1
  refine lv_aload_n hx hb dL_throwsOf_0 rfl (lv_at hl 3 rfl) ?_
  refine lv_iconst (v := 0) hx hb dL_throwsOf_1 (by decide) ?_
  refine lv_aload_n hx hb dL_throwsOf_2 rfl (lv_at hl 0 rfl) ?_
  refine lv_iload_n hx hb dL_throwsOf_3 rfl (lv_at hl 1 rfl) ?_
  refine lv_iload_n hx hb dL_throwsOf_4 rfl (lv_at hl 2 rfl) ?_
  refine l_callX (As := [.int x1, .int x2]) (rest := [.int 0, .ref (a 90 0)]) C (vX8_throwsOf hfl h) hR hS ml_L_36 mw_X8_throwsOf rfl ⟨Nat.le_of_ble_eq_true rfl, Nat.le_of_ble_eq_true rfl, Nat.le_of_ble_eq_true rfl, Nat.le_of_ble_eq_true rfl⟩ hl.1 rfl (Nat.le_of_ble_eq_true rfl) dL_throwsOf_5 (fun hk a H locs q ce hag hR hS hq hv hc => ?_) (fun hk a H locs hag hR hS => ?_)
  · have hAL : ALo a0 a := fun r i h1 h2 h3 h4 => (hag r i h1 h2 h3).trans (hAL r i h1 h2 h3 h4)
    have hl : lv_has ls 5 [(0, .ref (a 8 0)), (1, .int x1), (2, .int x2), (3, .ref (a 90 0))] := by rw [hag 8 0 (by decide) (by decide) (by decide), hag 90 0 (by decide) (by decide) (by decide)]; exact hl
    rcases hz with ⟨hk0, hz0⟩ | ⟨hk0, hz0⟩ | ⟨hk0, hz0⟩
    · exact absurd hk0 hk
    · rw [hk0] at hc
      refine vx_catch (own := RL) (name := "java/util/NoSuchElementException") (E := xcl 2) C.2.2.2.1 [] ⟨0, 10, 13, 25⟩ [⟨0, 10, 17, 34⟩] (by rw [hT]; rfl) (fun z9 hz9 => absurd hz9 List.not_mem_nil) (by decide) (by decide) (C.2.2.2.2.1 _ cl_L_25) (l_cast2 C) hq hv hc ?_
      refine lv_astore (lv' := [(4, .ref q)]) hx hb dL_throwsOf_13 (lv_sub hl [] rfl) (by decide) rfl (fun ls hl => ?_)
      refine lv_iconst (v := 1) hx hb dL_throwsOf_15 (by decide) ?_
      subst hz0
      exact e_iretO hAL (fun q9 => absurd q9 (by decide)) C hr hR hS (Nat.le_of_ble_eq_true rfl) (Nat.le_of_ble_eq_true rfl) dL_throwsOf_16
    · rw [hk0] at hc
      refine vx_catch (own := RL) (name := "java/lang/IndexOutOfBoundsException") (E := xcl 3) C.2.2.2.1 [⟨0, 10, 13, 25⟩] ⟨0, 10, 17, 34⟩ [] (by rw [hT]; rfl) (fun z9 hz9 => by
        simp only [List.mem_cons, List.not_mem_nil, or_false] at hz9
        rcases hz9 with rfl
        · exact Or.inr ⟨by decide, _, C.2.2.2.2.1 _ cl_L_25, l_nc32 C⟩) (by decide) (by decide) (C.2.2.2.2.1 _ cl_L_34) (l_cast3 C) hq hv hc ?_
      refine lv_astore (lv' := [(4, .ref q)]) hx hb dL_throwsOf_17 (lv_sub hl [] rfl) (by decide) rfl (fun ls hl => ?_)
      refine lv_iconst (v := 2) hx hb dL_throwsOf_19 (by decide) ?_
      subst hz0
      exact e_iretO hAL (fun q9 => absurd q9 (by decide)) C hr hR hS (Nat.le_of_ble_eq_true rfl) (Nat.le_of_ble_eq_true rfl) dL_throwsOf_20
  · have hAL : ALo a0 a := fun r i h1 h2 h3 h4 => (hag r i h1 h2 h3).trans (hAL r i h1 h2 h3 h4)
    have hl : lv_has ls 5 [(0, .ref (a 8 0)), (1, .int x1), (2, .int x2), (3, .ref (a 90 0))] := by rw [hag 8 0 (by decide) (by decide) (by decide), hag 90 0 (by decide) (by decide) (by decide)]; exact hl
    obtain rfl : z = 0 := by rcases hz with ⟨hk0, hz0⟩ | ⟨hk0, hz0⟩ | ⟨hk0, hz0⟩ <;> first | exact hz0 | exact absurd (hk.symm.trans hk0) (by decide)
    rw [← hag 90 0 (by decide) (by decide) (by decide)]
    refine lv_i2l (v := out.2.1.toInt64) hx hb dL_throwsOf_8 rfl ?_
    refine r_outst (x := out.2.1.toInt64) C hR hS dL_throwsOf_9 (fun H locs hR hS => ?_)
    refine lv_goto (tgt := 21) hx hb dL_throwsOf_10 (by decide) ?_
    refine lv_iconst (v := 0) hx hb dL_throwsOf_21 (by decide) ?_
    exact e_iretO (fun r i h1 h2 h3 h4 => (show upA a 92 0 _ r i = a r i from if_neg (fun q => h4 q.1)).trans (hAL r i h1 h2 h3 h4)) (fun _ => by rw [show upA a 92 0 _ 92 0 = _ from if_pos ⟨rfl, rfl⟩]) C hr hR hS (Nat.le_of_ble_eq_true rfl) (Nat.le_of_ble_eq_true rfl) dL_throwsOf_22
set_option maxHeartbeats 4000000 in
theorem vL_looker {l : Launch} (hfl : l.stackTraces = false) {E : EV} {a0 : Nat → Nat → Nat} {u0 : HS} {x1 : Int32} {x2 : Int32} {x3 : Int32} {out : Nat × Int32 × HS} {z : Int32} (h : mX8_looker u0 x1 x2 x3 = some out) (hz : (out.1 = 0 ∧ z = 0) ∨ (out.1 = 2 ∧ z = 1) ∨ (out.1 = 3 ∧ z = 2)) : CtH l E yL_looker cL_looker 6 [(0, 12, 15, 25), (0, 12, 19, 34)] 8 135 2 12 a0 u0 [.ref (a0 8 0), .int x1, .int x2, .int x3, .ref (a0 90 0)] z out.2.1.toInt64 out.2.2 := by
  refine CtH.start (by decide) (Nat.le_of_ble_eq_true rfl) ?_
  intro p e s m args below meth c ls C hT hr hR hS hl
  have C : Cx E p s m args meth c cL_looker 6 RL := C
  obtain ⟨a, hAL, hR, hl⟩ : ∃ a : Nat → Nat → Nat, ALo a0 a ∧ Rel E a u0 s.heap ∧ lv_has ls 6 [(0, .ref (a 8 0)), (1, .int x1), (2, .int x2), (3, .int x3), (4, .ref (a 90 0))] := ⟨a0, ALo.rf, hR, hl⟩
  have hx := C.1
  have hb := C.2.1
  refine lv_aload hx hb dL_looker_0 (lv_at hl 4 rfl) ?_
  refine lv_iconst (v := 0) hx hb dL_looker_2 (by decide) ?_
  refine lv_aload_n hx hb dL_looker_3 rfl (lv_at hl 0 rfl) ?_
  refine lv_iload_n hx hb dL_looker_4 rfl (lv_at hl 1 rfl) ?_
  refine lv_iload_n hx hb dL_looker_5 rfl (lv_at hl 2 rfl) ?_
  refine lv_iload_n hx hb dL_looker_6 rfl (lv_at hl 3 rfl) ?_
  refine l_callX (As := [.int x1, .int x2, .int x3]) (rest := [.int 0, .ref (a 90 0)]) C (vX8_looker hfl h) hR hS ml_L_39 mw_X8_looker rfl ⟨Nat.le_of_ble_eq_true rfl, Nat.le_of_ble_eq_true rfl, Nat.le_of_ble_eq_true rfl, Nat.le_of_ble_eq_true rfl⟩ hl.1 rfl (Nat.le_of_ble_eq_true rfl) dL_looker_7 (fun hk a H locs q ce hag hR hS hq hv hc => ?_) (fun hk a H locs hag hR hS => ?_)
  · have hAL : ALo a0 a := fun r i h1 h2 h3 h4 => (hag r i h1 h2 h3).trans (hAL r i h1 h2 h3 h4)
    have hl : lv_has ls 6 [(0, .ref (a 8 0)), (1, .int x1), (2, .int x2), (3, .int x3), (4, .ref (a 90 0))] := by rw [hag 8 0 (by decide) (by decide) (by decide), hag 90 0 (by decide) (by decide) (by decide)]; exact hl
    rcases hz with ⟨hk0, hz0⟩ | ⟨hk0, hz0⟩ | ⟨hk0, hz0⟩
    · exact absurd hk0 hk
    · rw [hk0] at hc
      refine vx_catch (own := RL) (name := "java/util/NoSuchElementException") (E := xcl 2) C.2.2.2.1 [] ⟨0, 12, 15, 25⟩ [⟨0, 12, 19, 34⟩] (by rw [hT]; rfl) (fun z9 hz9 => absurd hz9 List.not_mem_nil) (by decide) (by decide) (C.2.2.2.2.1 _ cl_L_25) (l_cast2 C) hq hv hc ?_
      refine lv_astore (lv' := [(5, .ref q)]) hx hb dL_looker_15 (lv_sub hl [] rfl) (by decide) rfl (fun ls hl => ?_)
      refine lv_iconst (v := 1) hx hb dL_looker_17 (by decide) ?_
      subst hz0
      exact e_iretO hAL (fun q9 => absurd q9 (by decide)) C hr hR hS (Nat.le_of_ble_eq_true rfl) (Nat.le_of_ble_eq_true rfl) dL_looker_18
    · rw [hk0] at hc
      refine vx_catch (own := RL) (name := "java/lang/IndexOutOfBoundsException") (E := xcl 3) C.2.2.2.1 [⟨0, 12, 15, 25⟩] ⟨0, 12, 19, 34⟩ [] (by rw [hT]; rfl) (fun z9 hz9 => by
        simp only [List.mem_cons, List.not_mem_nil, or_false] at hz9
        rcases hz9 with rfl
        · exact Or.inr ⟨by decide, _, C.2.2.2.2.1 _ cl_L_25, l_nc32 C⟩) (by decide) (by decide) (C.2.2.2.2.1 _ cl_L_34) (l_cast3 C) hq hv hc ?_
      refine lv_astore (lv' := [(5, .ref q)]) hx hb dL_looker_19 (lv_sub hl [] rfl) (by decide) rfl (fun ls hl => ?_)
      refine lv_iconst (v := 2) hx hb dL_looker_21 (by decide) ?_
      subst hz0
      exact e_iretO hAL (fun q9 => absurd q9 (by decide)) C hr hR hS (Nat.le_of_ble_eq_true rfl) (Nat.le_of_ble_eq_true rfl) dL_looker_22
  · have hAL : ALo a0 a := fun r i h1 h2 h3 h4 => (hag r i h1 h2 h3).trans (hAL r i h1 h2 h3 h4)
    have hl : lv_has ls 6 [(0, .ref (a 8 0)), (1, .int x1), (2, .int x2), (3, .int x3), (4, .ref (a 90 0))] := by rw [hag 8 0 (by decide) (by decide) (by decide), hag 90 0 (by decide) (by decide) (by decide)]; exact hl
    obtain rfl : z = 0 := by rcases hz with ⟨hk0, hz0⟩ | ⟨hk0, hz0⟩ | ⟨hk0, hz0⟩ <;> first | exact hz0 | exact absurd (hk.symm.trans hk0) (by decide)
    rw [← hag 90 0 (by decide) (by decide) (by decide)]
    refine lv_i2l (v := out.2.1.toInt64) hx hb dL_looker_10 rfl ?_
    refine r_outst (x := out.2.1.toInt64) C hR hS dL_looker_11 (fun H locs hR hS => ?_)
    refine lv_goto (tgt := 23) hx hb dL_looker_12 (by decide) ?_
    refine lv_iconst (v := 0) hx hb dL_looker_23 (by decide) ?_
    exact e_iretO (fun r i h1 h2 h3 h4 => (show upA a 92 0 _ r i = a r i from if_neg (fun q => h4 q.1)).trans (hAL r i h1 h2 h3 h4)) (fun _ => by rw [show upA a 92 0 _ 92 0 = _ from if_pos ⟨rfl, rfl⟩]) C hr hR hS (Nat.le_of_ble_eq_true rfl) (Nat.le_of_ble_eq_true rfl) dL_looker_24
set_option maxHeartbeats 4000000 in
theorem vL_eyes {l : Launch} (hfl : l.stackTraces = false) {E : EV} {a0 : Nat → Nat → Nat} {u0 : HS} {x1 : Int32} {x2 : Int32} {x3 : Int32} {x4 : Int32} {out : Nat × Int32 × HS} {z : Int32} (h : mX8_eyes u0 x1 x2 x3 x4 = some out) (hz : (out.1 = 0 ∧ z = 0) ∨ (out.1 = 1 ∧ z = 1)) : CtH l E yL_eyes cL_eyes 7 [(0, 14, 17, 13)] 8 135 2 12 a0 u0 [.ref (a0 8 0), .int x1, .int x2, .int x3, .int x4, .ref (a0 90 0)] z out.2.1.toInt64 out.2.2 := by
  refine CtH.start (by decide) (Nat.le_of_ble_eq_true rfl) ?_
  intro p e s m args below meth c ls C hT hr hR hS hl
  have C : Cx E p s m args meth c cL_eyes 7 RL := C
  obtain ⟨a, hAL, hR, hl⟩ : ∃ a : Nat → Nat → Nat, ALo a0 a ∧ Rel E a u0 s.heap ∧ lv_has ls 7 [(0, .ref (a 8 0)), (1, .int x1), (2, .int x2), (3, .int x3), (4, .int x4), (5, .ref (a 90 0))] := ⟨a0, ALo.rf, hR, hl⟩
  have hx := C.1
  have hb := C.2.1
  refine lv_aload hx hb dL_eyes_0 (lv_at hl 5 rfl) ?_
  refine lv_iconst (v := 0) hx hb dL_eyes_2 (by decide) ?_
  refine lv_aload_n hx hb dL_eyes_3 rfl (lv_at hl 0 rfl) ?_
  refine lv_iload_n hx hb dL_eyes_4 rfl (lv_at hl 1 rfl) ?_
  refine lv_iload_n hx hb dL_eyes_5 rfl (lv_at hl 2 rfl) ?_
  refine lv_iload_n hx hb dL_eyes_6 rfl (lv_at hl 3 rfl) ?_
  refine lv_iload hx hb dL_eyes_7 (lv_at hl 4 rfl) ?_
  refine l_callX (As := [.int x1, .int x2, .int x3, .int x4]) (rest := [.int 0, .ref (a 90 0)]) C (vX8_eyes hfl h) hR hS ml_L_43 mw_X8_eyes rfl ⟨Nat.le_of_ble_eq_true rfl, Nat.le_of_ble_eq_true rfl, Nat.le_of_ble_eq_true rfl, Nat.le_of_ble_eq_true rfl⟩ hl.1 rfl (Nat.le_of_ble_eq_true rfl) dL_eyes_9 (fun hk a H locs q ce hag hR hS hq hv hc => ?_) (fun hk a H locs hag hR hS => ?_)
  · have hAL : ALo a0 a := fun r i h1 h2 h3 h4 => (hag r i h1 h2 h3).trans (hAL r i h1 h2 h3 h4)
    have hl : lv_has ls 7 [(0, .ref (a 8 0)), (1, .int x1), (2, .int x2), (3, .int x3), (4, .int x4), (5, .ref (a 90 0))] := by rw [hag 8 0 (by decide) (by decide) (by decide), hag 90 0 (by decide) (by decide) (by decide)]; exact hl
    rcases hz with ⟨hk0, hz0⟩ | ⟨hk0, hz0⟩
    · exact absurd hk0 hk
    · rw [hk0] at hc
      refine vx_catch (own := RL) (name := "java/lang/IllegalArgumentException") (E := xcl 1) C.2.2.2.1 [] ⟨0, 14, 17, 13⟩ [] (by rw [hT]; rfl) (fun z9 hz9 => absurd hz9 List.not_mem_nil) (by decide) (by decide) (C.2.2.2.2.1 _ cl_L_13) (l_cast1 C) hq hv hc ?_
      refine lv_astore (lv' := [(6, .ref q)]) hx hb dL_eyes_17 (lv_sub hl [] rfl) (by decide) rfl (fun ls hl => ?_)
      refine lv_iconst (v := 1) hx hb dL_eyes_19 (by decide) ?_
      subst hz0
      exact e_iretO hAL (fun q9 => absurd q9 (by decide)) C hr hR hS (Nat.le_of_ble_eq_true rfl) (Nat.le_of_ble_eq_true rfl) dL_eyes_20
  · have hAL : ALo a0 a := fun r i h1 h2 h3 h4 => (hag r i h1 h2 h3).trans (hAL r i h1 h2 h3 h4)
    have hl : lv_has ls 7 [(0, .ref (a 8 0)), (1, .int x1), (2, .int x2), (3, .int x3), (4, .int x4), (5, .ref (a 90 0))] := by rw [hag 8 0 (by decide) (by decide) (by decide), hag 90 0 (by decide) (by decide) (by decide)]; exact hl
    obtain rfl : z = 0 := by rcases hz with ⟨hk0, hz0⟩ | ⟨hk0, hz0⟩ <;> first | exact hz0 | exact absurd (hk.symm.trans hk0) (by decide)
    rw [← hag 90 0 (by decide) (by decide) (by decide)]
    refine lv_i2l (v := out.2.1.toInt64) hx hb dL_eyes_12 rfl ?_
    refine r_outst (x := out.2.1.toInt64) C hR hS dL_eyes_13 (fun H locs hR hS => ?_)
    refine lv_goto (tgt := 21) hx hb dL_eyes_14 (by decide) ?_
    refine lv_iconst (v := 0) hx hb dL_eyes_21 (by decide) ?_
    exact e_iretO (fun r i h1 h2 h3 h4 => (show upA a 92 0 _ r i = a r i from if_neg (fun q => h4 q.1)).trans (hAL r i h1 h2 h3 h4)) (fun _ => by rw [show upA a 92 0 _ 92 0 = _ from if_pos ⟨rfl, rfl⟩]) C hr hR hS (Nat.le_of_ble_eq_true rfl) (Nat.le_of_ble_eq_true rfl) dL_eyes_22
set_option maxHeartbeats 4000000 in
theorem vL_blink {l : Launch} (hfl : l.stackTraces = false) {E : EV} {a0 : Nat → Nat → Nat} {u0 : HS} {x1 : Int32} {x2 : Int32} {x3 : Int32} {out : Nat × Int32 × HS} {z : Int32} (h : mX8_blink u0 x1 x2 x3 = some out) (hz : (out.1 = 0 ∧ z = 0) ∨ (out.1 = 1 ∧ z = 1)) : CtH l E yL_blink cL_blink 6 [(0, 12, 15, 13)] 8 134 2 12 a0 u0 [.ref (a0 8 0), .int x1, .int x2, .int x3, .ref (a0 90 0)] z out.2.1.toInt64 out.2.2 := by
  refine CtH.start (by decide) (Nat.le_of_ble_eq_true rfl) ?_
  intro p e s m args below meth c ls C hT hr hR hS hl
  have C : Cx E p s m args meth c cL_blink 6 RL := C
  obtain ⟨a, hAL, hR, hl⟩ : ∃ a : Nat → Nat → Nat, ALo a0 a ∧ Rel E a u0 s.heap ∧ lv_has ls 6 [(0, .ref (a 8 0)), (1, .int x1), (2, .int x2), (3, .int x3), (4, .ref (a 90 0))] := ⟨a0, ALo.rf, hR, hl⟩
  have hx := C.1
  have hb := C.2.1
  refine lv_aload hx hb dL_blink_0 (lv_at hl 4 rfl) ?_
  refine lv_iconst (v := 0) hx hb dL_blink_2 (by decide) ?_
  refine lv_aload_n hx hb dL_blink_3 rfl (lv_at hl 0 rfl) ?_
  refine lv_iload_n hx hb dL_blink_4 rfl (lv_at hl 1 rfl) ?_
  refine lv_iload_n hx hb dL_blink_5 rfl (lv_at hl 2 rfl) ?_
  refine lv_iload_n hx hb dL_blink_6 rfl (lv_at hl 3 rfl) ?_
  refine l_callX (As := [.int x1, .int x2, .int x3]) (rest := [.int 0, .ref (a 90 0)]) C (vX8_blink hfl h) hR hS ml_L_46 mw_X8_blink rfl ⟨Nat.le_of_ble_eq_true rfl, Nat.le_of_ble_eq_true rfl, Nat.le_of_ble_eq_true rfl, Nat.le_of_ble_eq_true rfl⟩ hl.1 rfl (Nat.le_of_ble_eq_true rfl) dL_blink_7 (fun hk a H locs q ce hag hR hS hq hv hc => ?_) (fun hk a H locs hag hR hS => ?_)
  · have hAL : ALo a0 a := fun r i h1 h2 h3 h4 => (hag r i h1 h2 h3).trans (hAL r i h1 h2 h3 h4)
    have hl : lv_has ls 6 [(0, .ref (a 8 0)), (1, .int x1), (2, .int x2), (3, .int x3), (4, .ref (a 90 0))] := by rw [hag 8 0 (by decide) (by decide) (by decide), hag 90 0 (by decide) (by decide) (by decide)]; exact hl
    rcases hz with ⟨hk0, hz0⟩ | ⟨hk0, hz0⟩
    · exact absurd hk0 hk
    · rw [hk0] at hc
      refine vx_catch (own := RL) (name := "java/lang/IllegalArgumentException") (E := xcl 1) C.2.2.2.1 [] ⟨0, 12, 15, 13⟩ [] (by rw [hT]; rfl) (fun z9 hz9 => absurd hz9 List.not_mem_nil) (by decide) (by decide) (C.2.2.2.2.1 _ cl_L_13) (l_cast1 C) hq hv hc ?_
      refine lv_astore (lv' := [(5, .ref q)]) hx hb dL_blink_15 (lv_sub hl [] rfl) (by decide) rfl (fun ls hl => ?_)
      refine lv_iconst (v := 1) hx hb dL_blink_17 (by decide) ?_
      subst hz0
      exact e_iretO hAL (fun q9 => absurd q9 (by decide)) C hr hR hS (Nat.le_of_ble_eq_true rfl) (Nat.le_of_ble_eq_true rfl) dL_blink_18
  · have hAL : ALo a0 a := fun r i h1 h2 h3 h4 => (hag r i h1 h2 h3).trans (hAL r i h1 h2 h3 h4)
    have hl : lv_has ls 6 [(0, .ref (a 8 0)), (1, .int x1), (2, .int x2), (3, .int x3), (4, .ref (a 90 0))] := by rw [hag 8 0 (by decide) (by decide) (by decide), hag 90 0 (by decide) (by decide) (by decide)]; exact hl
    obtain rfl : z = 0 := by rcases hz with ⟨hk0, hz0⟩ | ⟨hk0, hz0⟩ <;> first | exact hz0 | exact absurd (hk.symm.trans hk0) (by decide)
    rw [← hag 90 0 (by decide) (by decide) (by decide)]
    refine lv_i2l (v := out.2.1.toInt64) hx hb dL_blink_10 rfl ?_
    refine r_outst (x := out.2.1.toInt64) C hR hS dL_blink_11 (fun H locs hR hS => ?_)
    refine lv_goto (tgt := 19) hx hb dL_blink_12 (by decide) ?_
    refine lv_iconst (v := 0) hx hb dL_blink_19 (by decide) ?_
    exact e_iretO (fun r i h1 h2 h3 h4 => (show upA a 92 0 _ r i = a r i from if_neg (fun q => h4 q.1)).trans (hAL r i h1 h2 h3 h4)) (fun _ => by rw [show upA a 92 0 _ 92 0 = _ from if_pos ⟨rfl, rfl⟩]) C hr hR hS (Nat.le_of_ble_eq_true rfl) (Nat.le_of_ble_eq_true rfl) dL_blink_20
set_option maxHeartbeats 4000000 in
theorem vL_eye {l : Launch} (hfl : l.stackTraces = false) {E : EV} {a0 : Nat → Nat → Nat} {u0 : HS} {x1 : Int32} {x2 : Int32} {out : Nat × Int32 × HS} {z : Int32} (h : mX8_eye u0 x1 x2 = some out) (hz : (out.1 = 0 ∧ z = 0) ∨ (out.1 = 1 ∧ z = 1)) : CtH l E yL_eye cL_eye 5 [(0, 10, 13, 13)] 8 136 2 12 a0 u0 [.ref (a0 8 0), .int x1, .int x2, .ref (a0 90 0)] z out.2.1.toInt64 out.2.2 := by
  refine CtH.start (by decide) (Nat.le_of_ble_eq_true rfl) ?_
  intro p e s m args below meth c ls C hT hr hR hS hl
  have C : Cx E p s m args meth c cL_eye 5 RL := C
  obtain ⟨a, hAL, hR, hl⟩ : ∃ a : Nat → Nat → Nat, ALo a0 a ∧ Rel E a u0 s.heap ∧ lv_has ls 5 [(0, .ref (a 8 0)), (1, .int x1), (2, .int x2), (3, .ref (a 90 0))] := ⟨a0, ALo.rf, hR, hl⟩
  have hx := C.1
  have hb := C.2.1
  refine lv_aload_n hx hb dL_eye_0 rfl (lv_at hl 3 rfl) ?_
  refine lv_iconst (v := 0) hx hb dL_eye_1 (by decide) ?_
  refine lv_aload_n hx hb dL_eye_2 rfl (lv_at hl 0 rfl) ?_
  refine lv_iload_n hx hb dL_eye_3 rfl (lv_at hl 1 rfl) ?_
  refine lv_iload_n hx hb dL_eye_4 rfl (lv_at hl 2 rfl) ?_
  refine l_callX (As := [.int x1, .int x2]) (rest := [.int 0, .ref (a 90 0)]) C (vX8_eye hfl h) hR hS ml_L_50 mw_X8_eye rfl ⟨Nat.le_of_ble_eq_true rfl, Nat.le_of_ble_eq_true rfl, Nat.le_of_ble_eq_true rfl, Nat.le_of_ble_eq_true rfl⟩ hl.1 rfl (Nat.le_of_ble_eq_true rfl) dL_eye_5 (fun hk a H locs q ce hag hR hS hq hv hc => ?_) (fun hk a H locs hag hR hS => ?_)
  · have hAL : ALo a0 a := fun r i h1 h2 h3 h4 => (hag r i h1 h2 h3).trans (hAL r i h1 h2 h3 h4)
    have hl : lv_has ls 5 [(0, .ref (a 8 0)), (1, .int x1), (2, .int x2), (3, .ref (a 90 0))] := by rw [hag 8 0 (by decide) (by decide) (by decide), hag 90 0 (by decide) (by decide) (by decide)]; exact hl
    rcases hz with ⟨hk0, hz0⟩ | ⟨hk0, hz0⟩
    · exact absurd hk0 hk
    · rw [hk0] at hc
      refine vx_catch (own := RL) (name := "java/lang/IllegalArgumentException") (E := xcl 1) C.2.2.2.1 [] ⟨0, 10, 13, 13⟩ [] (by rw [hT]; rfl) (fun z9 hz9 => absurd hz9 List.not_mem_nil) (by decide) (by decide) (C.2.2.2.2.1 _ cl_L_13) (l_cast1 C) hq hv hc ?_
      refine lv_astore (lv' := [(4, .ref q)]) hx hb dL_eye_13 (lv_sub hl [] rfl) (by decide) rfl (fun ls hl => ?_)
      refine lv_iconst (v := 1) hx hb dL_eye_15 (by decide) ?_
      subst hz0
      exact e_iretO hAL (fun q9 => absurd q9 (by decide)) C hr hR hS (Nat.le_of_ble_eq_true rfl) (Nat.le_of_ble_eq_true rfl) dL_eye_16
  · have hAL : ALo a0 a := fun r i h1 h2 h3 h4 => (hag r i h1 h2 h3).trans (hAL r i h1 h2 h3 h4)
    have hl : lv_has ls 5 [(0, .ref (a 8 0)), (1, .int x1), (2, .int x2), (3, .ref (a 90 0))] := by rw [hag 8 0 (by decide) (by decide) (by decide), hag 90 0 (by decide) (by decide) (by decide)]; exact hl
    obtain rfl : z = 0 := by rcases hz with ⟨hk0, hz0⟩ | ⟨hk0, hz0⟩ <;> first | exact hz0 | exact absurd (hk.symm.trans hk0) (by decide)
    rw [← hag 90 0 (by decide) (by decide) (by decide)]
    refine lv_i2l (v := out.2.1.toInt64) hx hb dL_eye_8 rfl ?_
    refine r_outst (x := out.2.1.toInt64) C hR hS dL_eye_9 (fun H locs hR hS => ?_)
    refine lv_goto (tgt := 17) hx hb dL_eye_10 (by decide) ?_
    refine lv_iconst (v := 0) hx hb dL_eye_17 (by decide) ?_
    exact e_iretO (fun r i h1 h2 h3 h4 => (show upA a 92 0 _ r i = a r i from if_neg (fun q => h4 q.1)).trans (hAL r i h1 h2 h3 h4)) (fun _ => by rw [show upA a 92 0 _ 92 0 = _ from if_pos ⟨rfl, rfl⟩]) C hr hR hS (Nat.le_of_ble_eq_true rfl) (Nat.le_of_ble_eq_true rfl) dL_eye_18
set_option maxHeartbeats 4000000 in
theorem vL_on {l : Launch} (hfl : l.stackTraces = false) {E : EV} {a0 : Nat → Nat → Nat} {u0 : HS} {x1 : Int32} {x2 : Int32} {out : Nat × Int32 × HS} {z : Int32} (h : mX8_on u0 x1 x2 = some out) (hz : (out.1 = 0 ∧ z = 0) ∨ (out.1 = 1 ∧ z = 1)) : CtH l E yL_on cL_on 5 [(0, 10, 13, 13)] 8 136 2 12 a0 u0 [.ref (a0 8 0), .int x1, .int x2, .ref (a0 90 0)] z out.2.1.toInt64 out.2.2 := by
  refine CtH.start (by decide) (Nat.le_of_ble_eq_true rfl) ?_
  intro p e s m args below meth c ls C hT hr hR hS hl
  have C : Cx E p s m args meth c cL_on 5 RL := C
  obtain ⟨a, hAL, hR, hl⟩ : ∃ a : Nat → Nat → Nat, ALo a0 a ∧ Rel E a u0 s.heap ∧ lv_has ls 5 [(0, .ref (a 8 0)), (1, .int x1), (2, .int x2), (3, .ref (a 90 0))] := ⟨a0, ALo.rf, hR, hl⟩
  have hx := C.1
  have hb := C.2.1
  refine lv_aload_n hx hb dL_on_0 rfl (lv_at hl 3 rfl) ?_
  refine lv_iconst (v := 0) hx hb dL_on_1 (by decide) ?_
  refine lv_aload_n hx hb dL_on_2 rfl (lv_at hl 0 rfl) ?_
  refine lv_iload_n hx hb dL_on_3 rfl (lv_at hl 1 rfl) ?_
  refine lv_iload_n hx hb dL_on_4 rfl (lv_at hl 2 rfl) ?_
  refine l_callX (As := [.int x1, .int x2]) (rest := [.int 0, .ref (a 90 0)]) C (vX8_on hfl h) hR hS ml_L_53 mw_X8_on rfl ⟨Nat.le_of_ble_eq_true rfl, Nat.le_of_ble_eq_true rfl, Nat.le_of_ble_eq_true rfl, Nat.le_of_ble_eq_true rfl⟩ hl.1 rfl (Nat.le_of_ble_eq_true rfl) dL_on_5 (fun hk a H locs q ce hag hR hS hq hv hc => ?_) (fun hk a H locs hag hR hS => ?_)
  · have hAL : ALo a0 a := fun r i h1 h2 h3 h4 => (hag r i h1 h2 h3).trans (hAL r i h1 h2 h3 h4)
    have hl : lv_has ls 5 [(0, .ref (a 8 0)), (1, .int x1), (2, .int x2), (3, .ref (a 90 0))] := by rw [hag 8 0 (by decide) (by decide) (by decide), hag 90 0 (by decide) (by decide) (by decide)]; exact hl
    rcases hz with ⟨hk0, hz0⟩ | ⟨hk0, hz0⟩
    · exact absurd hk0 hk
    · rw [hk0] at hc
      refine vx_catch (own := RL) (name := "java/lang/IllegalArgumentException") (E := xcl 1) C.2.2.2.1 [] ⟨0, 10, 13, 13⟩ [] (by rw [hT]; rfl) (fun z9 hz9 => absurd hz9 List.not_mem_nil) (by decide) (by decide) (C.2.2.2.2.1 _ cl_L_13) (l_cast1 C) hq hv hc ?_
      refine lv_astore (lv' := [(4, .ref q)]) hx hb dL_on_13 (lv_sub hl [] rfl) (by decide) rfl (fun ls hl => ?_)
      refine lv_iconst (v := 1) hx hb dL_on_15 (by decide) ?_
      subst hz0
      exact e_iretO hAL (fun q9 => absurd q9 (by decide)) C hr hR hS (Nat.le_of_ble_eq_true rfl) (Nat.le_of_ble_eq_true rfl) dL_on_16
  · have hAL : ALo a0 a := fun r i h1 h2 h3 h4 => (hag r i h1 h2 h3).trans (hAL r i h1 h2 h3 h4)
    have hl : lv_has ls 5 [(0, .ref (a 8 0)), (1, .int x1), (2, .int x2), (3, .ref (a 90 0))] := by rw [hag 8 0 (by decide) (by decide) (by decide), hag 90 0 (by decide) (by decide) (by decide)]; exact hl
    obtain rfl : z = 0 := by rcases hz with ⟨hk0, hz0⟩ | ⟨hk0, hz0⟩ <;> first | exact hz0 | exact absurd (hk.symm.trans hk0) (by decide)
    rw [← hag 90 0 (by decide) (by decide) (by decide)]
    refine lv_i2l (v := out.2.1.toInt64) hx hb dL_on_8 rfl ?_
    refine r_outst (x := out.2.1.toInt64) C hR hS dL_on_9 (fun H locs hR hS => ?_)
    refine lv_goto (tgt := 17) hx hb dL_on_10 (by decide) ?_
    refine lv_iconst (v := 0) hx hb dL_on_17 (by decide) ?_
    exact e_iretO (fun r i h1 h2 h3 h4 => (show upA a 92 0 _ r i = a r i from if_neg (fun q => h4 q.1)).trans (hAL r i h1 h2 h3 h4)) (fun _ => by rw [show upA a 92 0 _ 92 0 = _ from if_pos ⟨rfl, rfl⟩]) C hr hR hS (Nat.le_of_ble_eq_true rfl) (Nat.le_of_ble_eq_true rfl) dL_on_18
set_option maxHeartbeats 4000000 in
theorem vL_name {l : Launch} (hfl : l.stackTraces = false) {E : EV} {a0 : Nat → Nat → Nat} {u0 : HS} {x1 : Int32} {x2 : Int32} {x3 : Int32} {x4 : Int32} {out : Nat × Int32 × HS} {z : Int32} (h : mX8_name u0 x1 x2 x3 x4 = some out) (hz : (out.1 = 0 ∧ z = 0) ∨ (out.1 = 1 ∧ z = 1)) : CtH l E yL_name cL_name 7 [(0, 14, 17, 13)] 8 138 3 18 a0 u0 [.ref (a0 8 0), .int x1, .int x2, .int x3, .int x4, .ref (a0 90 0)] z out.2.1.toInt64 out.2.2 := by
  refine CtH.start (by decide) (Nat.le_of_ble_eq_true rfl) ?_
  intro p e s m args below meth c ls C hT hr hR hS hl
  have C : Cx E p s m args meth c cL_name 7 RL := C
  obtain ⟨a, hAL, hR, hl⟩ : ∃ a : Nat → Nat → Nat, ALo a0 a ∧ Rel E a u0 s.heap ∧ lv_has ls 7 [(0, .ref (a 8 0)), (1, .int x1), (2, .int x2), (3, .int x3), (4, .int x4), (5, .ref (a 90 0))] := ⟨a0, ALo.rf, hR, hl⟩
  have hx := C.1
  have hb := C.2.1
  refine lv_aload hx hb dL_name_0 (lv_at hl 5 rfl) ?_
  refine lv_iconst (v := 0) hx hb dL_name_2 (by decide) ?_
  refine lv_aload_n hx hb dL_name_3 rfl (lv_at hl 0 rfl) ?_
  refine lv_iload_n hx hb dL_name_4 rfl (lv_at hl 1 rfl) ?_
  refine lv_iload_n hx hb dL_name_5 rfl (lv_at hl 2 rfl) ?_
  refine lv_iload_n hx hb dL_name_6 rfl (lv_at hl 3 rfl) ?_
  refine lv_iload hx hb dL_name_7 (lv_at hl 4 rfl) ?_
  refine l_callX (As := [.int x1, .int x2, .int x3, .int x4]) (rest := [.int 0, .ref (a 90 0)]) C (vX8_name hfl h) hR hS ml_L_56 mw_X8_name rfl ⟨Nat.le_of_ble_eq_true rfl, Nat.le_of_ble_eq_true rfl, Nat.le_of_ble_eq_true rfl, Nat.le_of_ble_eq_true rfl⟩ hl.1 rfl (Nat.le_of_ble_eq_true rfl) dL_name_9 (fun hk a H locs q ce hag hR hS hq hv hc => ?_) (fun hk a H locs hag hR hS => ?_)
  · have hAL : ALo a0 a := fun r i h1 h2 h3 h4 => (hag r i h1 h2 h3).trans (hAL r i h1 h2 h3 h4)
    have hl : lv_has ls 7 [(0, .ref (a 8 0)), (1, .int x1), (2, .int x2), (3, .int x3), (4, .int x4), (5, .ref (a 90 0))] := by rw [hag 8 0 (by decide) (by decide) (by decide), hag 90 0 (by decide) (by decide) (by decide)]; exact hl
    rcases hz with ⟨hk0, hz0⟩ | ⟨hk0, hz0⟩
    · exact absurd hk0 hk
    · rw [hk0] at hc
      refine vx_catch (own := RL) (name := "java/lang/IllegalArgumentException") (E := xcl 1) C.2.2.2.1 [] ⟨0, 14, 17, 13⟩ [] (by rw [hT]; rfl) (fun z9 hz9 => absurd hz9 List.not_mem_nil) (by decide) (by decide) (C.2.2.2.2.1 _ cl_L_13) (l_cast1 C) hq hv hc ?_
      refine lv_astore (lv' := [(6, .ref q)]) hx hb dL_name_17 (lv_sub hl [] rfl) (by decide) rfl (fun ls hl => ?_)
      refine lv_iconst (v := 1) hx hb dL_name_19 (by decide) ?_
      subst hz0
      exact e_iretO hAL (fun q9 => absurd q9 (by decide)) C hr hR hS (Nat.le_of_ble_eq_true rfl) (Nat.le_of_ble_eq_true rfl) dL_name_20
  · have hAL : ALo a0 a := fun r i h1 h2 h3 h4 => (hag r i h1 h2 h3).trans (hAL r i h1 h2 h3 h4)
    have hl : lv_has ls 7 [(0, .ref (a 8 0)), (1, .int x1), (2, .int x2), (3, .int x3), (4, .int x4), (5, .ref (a 90 0))] := by rw [hag 8 0 (by decide) (by decide) (by decide), hag 90 0 (by decide) (by decide) (by decide)]; exact hl
    obtain rfl : z = 0 := by rcases hz with ⟨hk0, hz0⟩ | ⟨hk0, hz0⟩ <;> first | exact hz0 | exact absurd (hk.symm.trans hk0) (by decide)
    rw [← hag 90 0 (by decide) (by decide) (by decide)]
    refine lv_i2l (v := out.2.1.toInt64) hx hb dL_name_12 rfl ?_
    refine r_outst (x := out.2.1.toInt64) C hR hS dL_name_13 (fun H locs hR hS => ?_)
    refine lv_goto (tgt := 21) hx hb dL_name_14 (by decide) ?_
    refine lv_iconst (v := 0) hx hb dL_name_21 (by decide) ?_
    exact e_iretO (fun r i h1 h2 h3 h4 => (show upA a 92 0 _ r i = a r i from if_neg (fun q => h4 q.1)).trans (hAL r i h1 h2 h3 h4)) (fun _ => by rw [show upA a 92 0 _ 92 0 = _ from if_pos ⟨rfl, rfl⟩]) C hr hR hS (Nat.le_of_ble_eq_true rfl) (Nat.le_of_ble_eq_true rfl) dL_name_22
set_option maxHeartbeats 4000000 in
theorem vL_gets {l : Launch} (hfl : l.stackTraces = false) {E : EV} {a0 : Nat → Nat → Nat} {u0 : HS} {x1 : Int32} {x2 : Int32} {x3 : Int32} {x4 : Int32} {x5 : Int32} {out : Nat × Int32 × HS} {z : Int32} (h : mX8_gets u0 x1 x2 x3 x4 x5 = some out) (hz : (out.1 = 0 ∧ z = 0) ∨ (out.1 = 3 ∧ z = 1) ∨ (out.1 = 1 ∧ z = 2)) : CtH l E yL_gets cL_gets 8 [(0, 16, 19, 34), (0, 16, 23, 13)] 8 144 3 18 a0 u0 [.ref (a0 8 0), .int x1, .int x2, .int x3, .int x4, .int x5, .ref (a0 90 0)] z out.2.1.toInt64 out.2.2 := by
  refine CtH.start (by decide) (Nat.le_of_ble_eq_true rfl) ?_
  intro p e s m args below meth c ls C hT hr hR hS hl
  have C : Cx E p s m args meth c cL_gets 8 RL := C
  obtain ⟨a, hAL, hR, hl⟩ : ∃ a : Nat → Nat → Nat, ALo a0 a ∧ Rel E a u0 s.heap ∧ lv_has ls 8 [(0, .ref (a 8 0)), (1, .int x1), (2, .int x2), (3, .int x3), (4, .int x4), (5, .int x5), (6, .ref (a 90 0))] := ⟨a0, ALo.rf, hR, hl⟩
  have hx := C.1
  have hb := C.2.1
  refine lv_aload hx hb dL_gets_0 (lv_at hl 6 rfl) ?_
  refine lv_iconst (v := 0) hx hb dL_gets_2 (by decide) ?_
  refine lv_aload_n hx hb dL_gets_3 rfl (lv_at hl 0 rfl) ?_
  refine lv_iload_n hx hb dL_gets_4 rfl (lv_at hl 1 rfl) ?_
  refine lv_iload_n hx hb dL_gets_5 rfl (lv_at hl 2 rfl) ?_
  refine lv_iload_n hx hb dL_gets_6 rfl (lv_at hl 3 rfl) ?_
  refine lv_iload hx hb dL_gets_7 (lv_at hl 4 rfl) ?_
  refine lv_iload hx hb dL_gets_9 (lv_at hl 5 rfl) ?_
  refine l_callX (As := [.int x1, .int x2, .int x3, .int x4, .int x5]) (rest := [.int 0, .ref (a 90 0)]) C (vX8_gets hfl h) hR hS ml_L_59 mw_X8_gets rfl ⟨Nat.le_of_ble_eq_true rfl, Nat.le_of_ble_eq_true rfl, Nat.le_of_ble_eq_true rfl, Nat.le_of_ble_eq_true rfl⟩ hl.1 rfl (Nat.le_of_ble_eq_true rfl) dL_gets_11 (fun hk a H locs q ce hag hR hS hq hv hc => ?_) (fun hk a H locs hag hR hS => ?_)
  · have hAL : ALo a0 a := fun r i h1 h2 h3 h4 => (hag r i h1 h2 h3).trans (hAL r i h1 h2 h3 h4)
    have hl : lv_has ls 8 [(0, .ref (a 8 0)), (1, .int x1), (2, .int x2), (3, .int x3), (4, .int x4), (5, .int x5), (6, .ref (a 90 0))] := by rw [hag 8 0 (by decide) (by decide) (by decide), hag 90 0 (by decide) (by decide) (by decide)]; exact hl
    rcases hz with ⟨hk0, hz0⟩ | ⟨hk0, hz0⟩ | ⟨hk0, hz0⟩
    · exact absurd hk0 hk
    · rw [hk0] at hc
      refine vx_catch (own := RL) (name := "java/lang/IndexOutOfBoundsException") (E := xcl 3) C.2.2.2.1 [] ⟨0, 16, 19, 34⟩ [⟨0, 16, 23, 13⟩] (by rw [hT]; rfl) (fun z9 hz9 => absurd hz9 List.not_mem_nil) (by decide) (by decide) (C.2.2.2.2.1 _ cl_L_34) (l_cast3 C) hq hv hc ?_
      refine lv_astore (lv' := [(7, .ref q)]) hx hb dL_gets_19 (lv_sub hl [] rfl) (by decide) rfl (fun ls hl => ?_)
      refine lv_iconst (v := 1) hx hb dL_gets_21 (by decide) ?_
      subst hz0
      exact e_iretO hAL (fun q9 => absurd q9 (by decide)) C hr hR hS (Nat.le_of_ble_eq_true rfl) (Nat.le_of_ble_eq_true rfl) dL_gets_22
    · rw [hk0] at hc
      refine vx_catch (own := RL) (name := "java/lang/IllegalArgumentException") (E := xcl 1) C.2.2.2.1 [⟨0, 16, 19, 34⟩] ⟨0, 16, 23, 13⟩ [] (by rw [hT]; rfl) (fun z9 hz9 => by
        simp only [List.mem_cons, List.not_mem_nil, or_false] at hz9
        rcases hz9 with rfl
        · exact Or.inr ⟨by decide, _, C.2.2.2.2.1 _ cl_L_34, l_nc13 C⟩) (by decide) (by decide) (C.2.2.2.2.1 _ cl_L_13) (l_cast1 C) hq hv hc ?_
      refine lv_astore (lv' := [(7, .ref q)]) hx hb dL_gets_23 (lv_sub hl [] rfl) (by decide) rfl (fun ls hl => ?_)
      refine lv_iconst (v := 2) hx hb dL_gets_25 (by decide) ?_
      subst hz0
      exact e_iretO hAL (fun q9 => absurd q9 (by decide)) C hr hR hS (Nat.le_of_ble_eq_true rfl) (Nat.le_of_ble_eq_true rfl) dL_gets_26
  · have hAL : ALo a0 a := fun r i h1 h2 h3 h4 => (hag r i h1 h2 h3).trans (hAL r i h1 h2 h3 h4)
    have hl : lv_has ls 8 [(0, .ref (a 8 0)), (1, .int x1), (2, .int x2), (3, .int x3), (4, .int x4), (5, .int x5), (6, .ref (a 90 0))] := by rw [hag 8 0 (by decide) (by decide) (by decide), hag 90 0 (by decide) (by decide) (by decide)]; exact hl
    obtain rfl : z = 0 := by rcases hz with ⟨hk0, hz0⟩ | ⟨hk0, hz0⟩ | ⟨hk0, hz0⟩ <;> first | exact hz0 | exact absurd (hk.symm.trans hk0) (by decide)
    rw [← hag 90 0 (by decide) (by decide) (by decide)]
    refine lv_i2l (v := out.2.1.toInt64) hx hb dL_gets_14 rfl ?_
    refine r_outst (x := out.2.1.toInt64) C hR hS dL_gets_15 (fun H locs hR hS => ?_)
    refine lv_goto (tgt := 27) hx hb dL_gets_16 (by decide) ?_
    refine lv_iconst (v := 0) hx hb dL_gets_27 (by decide) ?_
    exact e_iretO (fun r i h1 h2 h3 h4 => (show upA a 92 0 _ r i = a r i from if_neg (fun q => h4 q.1)).trans (hAL r i h1 h2 h3 h4)) (fun _ => by rw [show upA a 92 0 _ 92 0 = _ from if_pos ⟨rfl, rfl⟩]) C hr hR hS (Nat.le_of_ble_eq_true rfl) (Nat.le_of_ble_eq_true rfl) dL_gets_28
set_option maxHeartbeats 4000000 in
theorem vL_seen {l : Launch} (hfl : l.stackTraces = false) {E : EV} {a0 : Nat → Nat → Nat} {u0 : HS} {x1 : Int32} {x2 : Int32} {x3 : Int32} {out : Nat × Int32 × HS} {z : Int32} (h : mX8_seen u0 x1 x2 x3 = some out) (hz : (out.1 = 0 ∧ z = 0) ∨ (out.1 = 3 ∧ z = 1) ∨ (out.1 = 1 ∧ z = 2)) : CtH l E yL_seen cL_seen 6 [(0, 12, 15, 34), (0, 12, 19, 13)] 8 137 3 18 a0 u0 [.ref (a0 8 0), .int x1, .int x2, .int x3, .ref (a0 90 0)] z out.2.1.toInt64 out.2.2 := by
  refine CtH.start (by decide) (Nat.le_of_ble_eq_true rfl) ?_
  intro p e s m args below meth c ls C hT hr hR hS hl
  have C : Cx E p s m args meth c cL_seen 6 RL := C
  obtain ⟨a, hAL, hR, hl⟩ : ∃ a : Nat → Nat → Nat, ALo a0 a ∧ Rel E a u0 s.heap ∧ lv_has ls 6 [(0, .ref (a 8 0)), (1, .int x1), (2, .int x2), (3, .int x3), (4, .ref (a 90 0))] := ⟨a0, ALo.rf, hR, hl⟩
  have hx := C.1
  have hb := C.2.1
  refine lv_aload hx hb dL_seen_0 (lv_at hl 4 rfl) ?_
  refine lv_iconst (v := 0) hx hb dL_seen_2 (by decide) ?_
  refine lv_aload_n hx hb dL_seen_3 rfl (lv_at hl 0 rfl) ?_
  refine lv_iload_n hx hb dL_seen_4 rfl (lv_at hl 1 rfl) ?_
  refine lv_iload_n hx hb dL_seen_5 rfl (lv_at hl 2 rfl) ?_
  refine lv_iload_n hx hb dL_seen_6 rfl (lv_at hl 3 rfl) ?_
  refine l_callX (As := [.int x1, .int x2, .int x3]) (rest := [.int 0, .ref (a 90 0)]) C (vX8_seen hfl h) hR hS ml_L_63 mw_X8_seen rfl ⟨Nat.le_of_ble_eq_true rfl, Nat.le_of_ble_eq_true rfl, Nat.le_of_ble_eq_true rfl, Nat.le_of_ble_eq_true rfl⟩ hl.1 rfl (Nat.le_of_ble_eq_true rfl) dL_seen_7 (fun hk a H locs q ce hag hR hS hq hv hc => ?_) (fun hk a H locs hag hR hS => ?_)
  · have hAL : ALo a0 a := fun r i h1 h2 h3 h4 => (hag r i h1 h2 h3).trans (hAL r i h1 h2 h3 h4)
    have hl : lv_has ls 6 [(0, .ref (a 8 0)), (1, .int x1), (2, .int x2), (3, .int x3), (4, .ref (a 90 0))] := by rw [hag 8 0 (by decide) (by decide) (by decide), hag 90 0 (by decide) (by decide) (by decide)]; exact hl
    rcases hz with ⟨hk0, hz0⟩ | ⟨hk0, hz0⟩ | ⟨hk0, hz0⟩
    · exact absurd hk0 hk
    · rw [hk0] at hc
      refine vx_catch (own := RL) (name := "java/lang/IndexOutOfBoundsException") (E := xcl 3) C.2.2.2.1 [] ⟨0, 12, 15, 34⟩ [⟨0, 12, 19, 13⟩] (by rw [hT]; rfl) (fun z9 hz9 => absurd hz9 List.not_mem_nil) (by decide) (by decide) (C.2.2.2.2.1 _ cl_L_34) (l_cast3 C) hq hv hc ?_
      refine lv_astore (lv' := [(5, .ref q)]) hx hb dL_seen_15 (lv_sub hl [] rfl) (by decide) rfl (fun ls hl => ?_)
      refine lv_iconst (v := 1) hx hb dL_seen_17 (by decide) ?_
      subst hz0
      exact e_iretO hAL (fun q9 => absurd q9 (by decide)) C hr hR hS (Nat.le_of_ble_eq_true rfl) (Nat.le_of_ble_eq_true rfl) dL_seen_18
    · rw [hk0] at hc
      refine vx_catch (own := RL) (name := "java/lang/IllegalArgumentException") (E := xcl 1) C.2.2.2.1 [⟨0, 12, 15, 34⟩] ⟨0, 12, 19, 13⟩ [] (by rw [hT]; rfl) (fun z9 hz9 => by
        simp only [List.mem_cons, List.not_mem_nil, or_false] at hz9
        rcases hz9 with rfl
        · exact Or.inr ⟨by decide, _, C.2.2.2.2.1 _ cl_L_34, l_nc13 C⟩) (by decide) (by decide) (C.2.2.2.2.1 _ cl_L_13) (l_cast1 C) hq hv hc ?_
      refine lv_astore (lv' := [(5, .ref q)]) hx hb dL_seen_19 (lv_sub hl [] rfl) (by decide) rfl (fun ls hl => ?_)
      refine lv_iconst (v := 2) hx hb dL_seen_21 (by decide) ?_
      subst hz0
      exact e_iretO hAL (fun q9 => absurd q9 (by decide)) C hr hR hS (Nat.le_of_ble_eq_true rfl) (Nat.le_of_ble_eq_true rfl) dL_seen_22
  · have hAL : ALo a0 a := fun r i h1 h2 h3 h4 => (hag r i h1 h2 h3).trans (hAL r i h1 h2 h3 h4)
    have hl : lv_has ls 6 [(0, .ref (a 8 0)), (1, .int x1), (2, .int x2), (3, .int x3), (4, .ref (a 90 0))] := by rw [hag 8 0 (by decide) (by decide) (by decide), hag 90 0 (by decide) (by decide) (by decide)]; exact hl
    obtain rfl : z = 0 := by rcases hz with ⟨hk0, hz0⟩ | ⟨hk0, hz0⟩ | ⟨hk0, hz0⟩ <;> first | exact hz0 | exact absurd (hk.symm.trans hk0) (by decide)
    rw [← hag 90 0 (by decide) (by decide) (by decide)]
    refine lv_i2l (v := out.2.1.toInt64) hx hb dL_seen_10 rfl ?_
    refine r_outst (x := out.2.1.toInt64) C hR hS dL_seen_11 (fun H locs hR hS => ?_)
    refine lv_goto (tgt := 23) hx hb dL_seen_12 (by decide) ?_
    refine lv_iconst (v := 0) hx hb dL_seen_23 (by decide) ?_
    exact e_iretO (fun r i h1 h2 h3 h4 => (show upA a 92 0 _ r i = a r i from if_neg (fun q => h4 q.1)).trans (hAL r i h1 h2 h3 h4)) (fun _ => by rw [show upA a 92 0 _ 92 0 = _ from if_pos ⟨rfl, rfl⟩]) C hr hR hS (Nat.le_of_ble_eq_true rfl) (Nat.le_of_ble_eq_true rfl) dL_seen_24
set_option maxHeartbeats 4000000 in
theorem vL_says {l : Launch} (hfl : l.stackTraces = false) {E : EV} {a0 : Nat → Nat → Nat} {u0 : HS} {x1 : Int32} {x2 : Int32} {x3 : Int32} {out : Nat × Int32 × HS} {z : Int32} (h : mX8_says u0 x1 x2 x3 = some out) (hz : (out.1 = 0 ∧ z = 0) ∨ (out.1 = 3 ∧ z = 1) ∨ (out.1 = 1 ∧ z = 2)) : CtH l E yL_says cL_says 6 [(0, 19, 22, 34), (0, 19, 26, 13)] 8 168 3 18 a0 u0 [.ref (a0 8 0), .int x1, .int x2, .int x3, .ref (a0 90 0)] z (if out.2.1 = 0 then 0 else 1) out.2.2 := by
  refine CtH.start (by decide) (Nat.le_of_ble_eq_true rfl) ?_
  intro p e s m args below meth c ls C hT hr hR hS hl
  have C : Cx E p s m args meth c cL_says 6 RL := C
  obtain ⟨a, hAL, hR, hl⟩ : ∃ a : Nat → Nat → Nat, ALo a0 a ∧ Rel E a u0 s.heap ∧ lv_has ls 6 [(0, .ref (a 8 0)), (1, .int x1), (2, .int x2), (3, .int x3), (4, .ref (a 90 0))] := ⟨a0, ALo.rf, hR, hl⟩
  have hx := C.1
  have hb := C.2.1
  refine lv_aload hx hb dL_says_0 (lv_at hl 4 rfl) ?_
  refine lv_iconst (v := 0) hx hb dL_says_2 (by decide) ?_
  refine lv_aload_n hx hb dL_says_3 rfl (lv_at hl 0 rfl) ?_
  refine lv_iload_n hx hb dL_says_4 rfl (lv_at hl 1 rfl) ?_
  refine lv_iload_n hx hb dL_says_5 rfl (lv_at hl 2 rfl) ?_
  refine lv_iload_n hx hb dL_says_6 rfl (lv_at hl 3 rfl) ?_
  refine l_callX (As := [.int x1, .int x2, .int x3]) (rest := [.int 0, .ref (a 90 0)]) C (vX8_says hfl h) hR hS ml_L_66 mw_X8_says rfl ⟨Nat.le_of_ble_eq_true rfl, Nat.le_of_ble_eq_true rfl, Nat.le_of_ble_eq_true rfl, Nat.le_of_ble_eq_true rfl⟩ hl.1 rfl (Nat.le_of_ble_eq_true rfl) dL_says_7 (fun hk a H locs q ce hag hR hS hq hv hc => ?_) (fun hk a H locs hag hR hS => ?_)
  · have hAL : ALo a0 a := fun r i h1 h2 h3 h4 => (hag r i h1 h2 h3).trans (hAL r i h1 h2 h3 h4)
    have hl : lv_has ls 6 [(0, .ref (a 8 0)), (1, .int x1), (2, .int x2), (3, .int x3), (4, .ref (a 90 0))] := by rw [hag 8 0 (by decide) (by decide) (by decide), hag 90 0 (by decide) (by decide) (by decide)]; exact hl
    rcases hz with ⟨hk0, hz0⟩ | ⟨hk0, hz0⟩ | ⟨hk0, hz0⟩
    · exact absurd hk0 hk
    · rw [hk0] at hc
      refine vx_catch (own := RL) (name := "java/lang/IndexOutOfBoundsException") (E := xcl 3) C.2.2.2.1 [] ⟨0, 19, 22, 34⟩ [⟨0, 19, 26, 13⟩] (by rw [hT]; rfl) (fun z9 hz9 => absurd hz9 List.not_mem_nil) (by decide) (by decide) (C.2.2.2.2.1 _ cl_L_34) (l_cast3 C) hq hv hc ?_
      refine lv_astore (lv' := [(5, .ref q)]) hx hb dL_says_22 (lv_sub hl [] rfl) (by decide) rfl (fun ls hl => ?_)
      refine lv_iconst (v := 1) hx hb dL_says_24 (by decide) ?_
      subst hz0
      exact e_iretO hAL (fun q9 => absurd q9 (by decide)) C hr hR hS (Nat.le_of_ble_eq_true rfl) (Nat.le_of_ble_eq_true rfl) dL_says_25
    · rw [hk0] at hc
      refine vx_catch (own := RL) (name := "java/lang/IllegalArgumentException") (E := xcl 1) C.2.2.2.1 [⟨0, 19, 22, 34⟩] ⟨0, 19, 26, 13⟩ [] (by rw [hT]; rfl) (fun z9 hz9 => by
        simp only [List.mem_cons, List.not_mem_nil, or_false] at hz9
        rcases hz9 with rfl
        · exact Or.inr ⟨by decide, _, C.2.2.2.2.1 _ cl_L_34, l_nc13 C⟩) (by decide) (by decide) (C.2.2.2.2.1 _ cl_L_13) (l_cast1 C) hq hv hc ?_
      refine lv_astore (lv' := [(5, .ref q)]) hx hb dL_says_26 (lv_sub hl [] rfl) (by decide) rfl (fun ls hl => ?_)
      refine lv_iconst (v := 2) hx hb dL_says_28 (by decide) ?_
      subst hz0
      exact e_iretO hAL (fun q9 => absurd q9 (by decide)) C hr hR hS (Nat.le_of_ble_eq_true rfl) (Nat.le_of_ble_eq_true rfl) dL_says_29
  · have hAL : ALo a0 a := fun r i h1 h2 h3 h4 => (hag r i h1 h2 h3).trans (hAL r i h1 h2 h3 h4)
    have hl : lv_has ls 6 [(0, .ref (a 8 0)), (1, .int x1), (2, .int x2), (3, .int x3), (4, .ref (a 90 0))] := by rw [hag 8 0 (by decide) (by decide) (by decide), hag 90 0 (by decide) (by decide) (by decide)]; exact hl
    obtain rfl : z = 0 := by rcases hz with ⟨hk0, hz0⟩ | ⟨hk0, hz0⟩ | ⟨hk0, hz0⟩ <;> first | exact hz0 | exact absurd (hk.symm.trans hk0) (by decide)
    rw [← hag 90 0 (by decide) (by decide) (by decide)]
    refine lv_if_eq (tgt := 17) hx hb dL_says_10 (by decide) (fun c9 => ?_) (fun c9 => ?_)
    · skip
      refine lv_lconst (v := 0) hx hb dL_says_17 (by decide) ?_
      refine r_outst (x := 0) C hR hS dL_says_18 (fun H locs hR hS => ?_)
      refine lv_goto (tgt := 30) hx hb dL_says_19 (by decide) ?_
      refine lv_iconst (v := 0) hx hb dL_says_30 (by decide) ?_
      exact e_iretO (fun r i h1 h2 h3 h4 => (show upA a 92 0 _ r i = a r i from if_neg (fun q => h4 q.1)).trans (hAL r i h1 h2 h3 h4)) (fun _ => by rw [show upA a 92 0 _ 92 0 = _ from if_pos ⟨rfl, rfl⟩]; rw [if_pos c9]) C hr hR hS (Nat.le_of_ble_eq_true rfl) (Nat.le_of_ble_eq_true rfl) dL_says_31
    · skip
      refine lv_lconst (v := 1) hx hb dL_says_13 (by decide) ?_
      refine lv_goto (tgt := 18) hx hb dL_says_14 (by decide) ?_
      refine r_outst (x := 1) C hR hS dL_says_18 (fun H locs hR hS => ?_)
      refine lv_goto (tgt := 30) hx hb dL_says_19 (by decide) ?_
      refine lv_iconst (v := 0) hx hb dL_says_30 (by decide) ?_
      exact e_iretO (fun r i h1 h2 h3 h4 => (show upA a 92 0 _ r i = a r i from if_neg (fun q => h4 q.1)).trans (hAL r i h1 h2 h3 h4)) (fun _ => by rw [show upA a 92 0 _ 92 0 = _ from if_pos ⟨rfl, rfl⟩]; rw [if_neg c9]) C hr hR hS (Nat.le_of_ble_eq_true rfl) (Nat.le_of_ble_eq_true rfl) dL_says_31
set_option maxHeartbeats 4000000 in
theorem vL_miss {l : Launch} (hfl : l.stackTraces = false) {E : EV} {a0 : Nat → Nat → Nat} {u0 : HS} {x1 : Int32} {x2 : Int32} {x3 : Int32} {out : Nat × Int32 × HS} {z : Int32} (h : mX8_miss u0 x1 x2 x3 = some out) (hz : (out.1 = 0 ∧ z = 0) ∨ (out.1 = 3 ∧ z = 1) ∨ (out.1 = 1 ∧ z = 2)) : CtH l E yL_miss cL_miss 6 [(0, 12, 15, 34), (0, 12, 19, 13)] 8 169 3 18 a0 u0 [.ref (a0 8 0), .int x1, .int x2, .int x3, .ref (a0 90 0)] z out.2.1.toInt64 out.2.2 := by
  refine CtH.start (by decide) (Nat.le_of_ble_eq_true rfl) ?_
  intro p e s m args below meth c ls C hT hr hR hS hl
  have C : Cx E p s m args meth c cL_miss 6 RL := C
  obtain ⟨a, hAL, hR, hl⟩ : ∃ a : Nat → Nat → Nat, ALo a0 a ∧ Rel E a u0 s.heap ∧ lv_has ls 6 [(0, .ref (a 8 0)), (1, .int x1), (2, .int x2), (3, .int x3), (4, .ref (a 90 0))] := ⟨a0, ALo.rf, hR, hl⟩
  have hx := C.1
  have hb := C.2.1
  refine lv_aload hx hb dL_miss_0 (lv_at hl 4 rfl) ?_
  refine lv_iconst (v := 0) hx hb dL_miss_2 (by decide) ?_
  refine lv_aload_n hx hb dL_miss_3 rfl (lv_at hl 0 rfl) ?_
  refine lv_iload_n hx hb dL_miss_4 rfl (lv_at hl 1 rfl) ?_
  refine lv_iload_n hx hb dL_miss_5 rfl (lv_at hl 2 rfl) ?_
  refine lv_iload_n hx hb dL_miss_6 rfl (lv_at hl 3 rfl) ?_
  refine l_callX (As := [.int x1, .int x2, .int x3]) (rest := [.int 0, .ref (a 90 0)]) C (vX8_miss hfl h) hR hS ml_L_70 mw_X8_miss rfl ⟨Nat.le_of_ble_eq_true rfl, Nat.le_of_ble_eq_true rfl, Nat.le_of_ble_eq_true rfl, Nat.le_of_ble_eq_true rfl⟩ hl.1 rfl (Nat.le_of_ble_eq_true rfl) dL_miss_7 (fun hk a H locs q ce hag hR hS hq hv hc => ?_) (fun hk a H locs hag hR hS => ?_)
  · have hAL : ALo a0 a := fun r i h1 h2 h3 h4 => (hag r i h1 h2 h3).trans (hAL r i h1 h2 h3 h4)
    have hl : lv_has ls 6 [(0, .ref (a 8 0)), (1, .int x1), (2, .int x2), (3, .int x3), (4, .ref (a 90 0))] := by rw [hag 8 0 (by decide) (by decide) (by decide), hag 90 0 (by decide) (by decide) (by decide)]; exact hl
    rcases hz with ⟨hk0, hz0⟩ | ⟨hk0, hz0⟩ | ⟨hk0, hz0⟩
    · exact absurd hk0 hk
    · rw [hk0] at hc
      refine vx_catch (own := RL) (name := "java/lang/IndexOutOfBoundsException") (E := xcl 3) C.2.2.2.1 [] ⟨0, 12, 15, 34⟩ [⟨0, 12, 19, 13⟩] (by rw [hT]; rfl) (fun z9 hz9 => absurd hz9 List.not_mem_nil) (by decide) (by decide) (C.2.2.2.2.1 _ cl_L_34) (l_cast3 C) hq hv hc ?_
      refine lv_astore (lv' := [(5, .ref q)]) hx hb dL_miss_15 (lv_sub hl [] rfl) (by decide) rfl (fun ls hl => ?_)
      refine lv_iconst (v := 1) hx hb dL_miss_17 (by decide) ?_
      subst hz0
      exact e_iretO hAL (fun q9 => absurd q9 (by decide)) C hr hR hS (Nat.le_of_ble_eq_true rfl) (Nat.le_of_ble_eq_true rfl) dL_miss_18
    · rw [hk0] at hc
      refine vx_catch (own := RL) (name := "java/lang/IllegalArgumentException") (E := xcl 1) C.2.2.2.1 [⟨0, 12, 15, 34⟩] ⟨0, 12, 19, 13⟩ [] (by rw [hT]; rfl) (fun z9 hz9 => by
        simp only [List.mem_cons, List.not_mem_nil, or_false] at hz9
        rcases hz9 with rfl
        · exact Or.inr ⟨by decide, _, C.2.2.2.2.1 _ cl_L_34, l_nc13 C⟩) (by decide) (by decide) (C.2.2.2.2.1 _ cl_L_13) (l_cast1 C) hq hv hc ?_
      refine lv_astore (lv' := [(5, .ref q)]) hx hb dL_miss_19 (lv_sub hl [] rfl) (by decide) rfl (fun ls hl => ?_)
      refine lv_iconst (v := 2) hx hb dL_miss_21 (by decide) ?_
      subst hz0
      exact e_iretO hAL (fun q9 => absurd q9 (by decide)) C hr hR hS (Nat.le_of_ble_eq_true rfl) (Nat.le_of_ble_eq_true rfl) dL_miss_22
  · have hAL : ALo a0 a := fun r i h1 h2 h3 h4 => (hag r i h1 h2 h3).trans (hAL r i h1 h2 h3 h4)
    have hl : lv_has ls 6 [(0, .ref (a 8 0)), (1, .int x1), (2, .int x2), (3, .int x3), (4, .ref (a 90 0))] := by rw [hag 8 0 (by decide) (by decide) (by decide), hag 90 0 (by decide) (by decide) (by decide)]; exact hl
    obtain rfl : z = 0 := by rcases hz with ⟨hk0, hz0⟩ | ⟨hk0, hz0⟩ | ⟨hk0, hz0⟩ <;> first | exact hz0 | exact absurd (hk.symm.trans hk0) (by decide)
    rw [← hag 90 0 (by decide) (by decide) (by decide)]
    refine lv_i2l (v := out.2.1.toInt64) hx hb dL_miss_10 rfl ?_
    refine r_outst (x := out.2.1.toInt64) C hR hS dL_miss_11 (fun H locs hR hS => ?_)
    refine lv_goto (tgt := 23) hx hb dL_miss_12 (by decide) ?_
    refine lv_iconst (v := 0) hx hb dL_miss_23 (by decide) ?_
    exact e_iretO (fun r i h1 h2 h3 h4 => (show upA a 92 0 _ r i = a r i from if_neg (fun q => h4 q.1)).trans (hAL r i h1 h2 h3 h4)) (fun _ => by rw [show upA a 92 0 _ 92 0 = _ from if_pos ⟨rfl, rfl⟩]) C hr hR hS (Nat.le_of_ble_eq_true rfl) (Nat.le_of_ble_eq_true rfl) dL_miss_24
set_option maxHeartbeats 4000000 in
theorem vL_drawn {l : Launch} (hfl : l.stackTraces = false) {E : EV} {a0 : Nat → Nat → Nat} {u0 : HS} {x1 : Int32} {x2 : Int32} {x3 : Int32} {x4 : Int32} {out : Nat × Int32 × HS} {z : Int32} (h : mX8_drawn u0 x1 x2 x3 x4 = some out) (hz : (out.1 = 0 ∧ z = 0) ∨ (out.1 = 3 ∧ z = 1) ∨ (out.1 = 1 ∧ z = 2)) : CtH l E yL_drawn cL_drawn 7 [(0, 14, 17, 34), (0, 14, 21, 13)] 8 139 3 18 a0 u0 [.ref (a0 8 0), .int x1, .int x2, .int x3, .int x4, .ref (a0 90 0)] z out.2.1.toInt64 out.2.2 := by
  refine CtH.start (by decide) (Nat.le_of_ble_eq_true rfl) ?_
  intro p e s m args below meth c ls C hT hr hR hS hl
  have C : Cx E p s m args meth c cL_drawn 7 RL := C
  obtain ⟨a, hAL, hR, hl⟩ : ∃ a : Nat → Nat → Nat, ALo a0 a ∧ Rel E a u0 s.heap ∧ lv_has ls 7 [(0, .ref (a 8 0)), (1, .int x1), (2, .int x2), (3, .int x3), (4, .int x4), (5, .ref (a 90 0))] := ⟨a0, ALo.rf, hR, hl⟩
  have hx := C.1
  have hb := C.2.1
  refine lv_aload hx hb dL_drawn_0 (lv_at hl 5 rfl) ?_
  refine lv_iconst (v := 0) hx hb dL_drawn_2 (by decide) ?_
  refine lv_aload_n hx hb dL_drawn_3 rfl (lv_at hl 0 rfl) ?_
  refine lv_iload_n hx hb dL_drawn_4 rfl (lv_at hl 1 rfl) ?_
  refine lv_iload_n hx hb dL_drawn_5 rfl (lv_at hl 2 rfl) ?_
  refine lv_iload_n hx hb dL_drawn_6 rfl (lv_at hl 3 rfl) ?_
  refine lv_iload hx hb dL_drawn_7 (lv_at hl 4 rfl) ?_
  refine l_callX (As := [.int x1, .int x2, .int x3, .int x4]) (rest := [.int 0, .ref (a 90 0)]) C (vX8_drawn hfl h) hR hS ml_L_73 mw_X8_drawn rfl ⟨Nat.le_of_ble_eq_true rfl, Nat.le_of_ble_eq_true rfl, Nat.le_of_ble_eq_true rfl, Nat.le_of_ble_eq_true rfl⟩ hl.1 rfl (Nat.le_of_ble_eq_true rfl) dL_drawn_9 (fun hk a H locs q ce hag hR hS hq hv hc => ?_) (fun hk a H locs hag hR hS => ?_)
  · have hAL : ALo a0 a := fun r i h1 h2 h3 h4 => (hag r i h1 h2 h3).trans (hAL r i h1 h2 h3 h4)
    have hl : lv_has ls 7 [(0, .ref (a 8 0)), (1, .int x1), (2, .int x2), (3, .int x3), (4, .int x4), (5, .ref (a 90 0))] := by rw [hag 8 0 (by decide) (by decide) (by decide), hag 90 0 (by decide) (by decide) (by decide)]; exact hl
    rcases hz with ⟨hk0, hz0⟩ | ⟨hk0, hz0⟩ | ⟨hk0, hz0⟩
    · exact absurd hk0 hk
    · rw [hk0] at hc
      refine vx_catch (own := RL) (name := "java/lang/IndexOutOfBoundsException") (E := xcl 3) C.2.2.2.1 [] ⟨0, 14, 17, 34⟩ [⟨0, 14, 21, 13⟩] (by rw [hT]; rfl) (fun z9 hz9 => absurd hz9 List.not_mem_nil) (by decide) (by decide) (C.2.2.2.2.1 _ cl_L_34) (l_cast3 C) hq hv hc ?_
      refine lv_astore (lv' := [(6, .ref q)]) hx hb dL_drawn_17 (lv_sub hl [] rfl) (by decide) rfl (fun ls hl => ?_)
      refine lv_iconst (v := 1) hx hb dL_drawn_19 (by decide) ?_
      subst hz0
      exact e_iretO hAL (fun q9 => absurd q9 (by decide)) C hr hR hS (Nat.le_of_ble_eq_true rfl) (Nat.le_of_ble_eq_true rfl) dL_drawn_20
    · rw [hk0] at hc
      refine vx_catch (own := RL) (name := "java/lang/IllegalArgumentException") (E := xcl 1) C.2.2.2.1 [⟨0, 14, 17, 34⟩] ⟨0, 14, 21, 13⟩ [] (by rw [hT]; rfl) (fun z9 hz9 => by
        simp only [List.mem_cons, List.not_mem_nil, or_false] at hz9
        rcases hz9 with rfl
        · exact Or.inr ⟨by decide, _, C.2.2.2.2.1 _ cl_L_34, l_nc13 C⟩) (by decide) (by decide) (C.2.2.2.2.1 _ cl_L_13) (l_cast1 C) hq hv hc ?_
      refine lv_astore (lv' := [(6, .ref q)]) hx hb dL_drawn_21 (lv_sub hl [] rfl) (by decide) rfl (fun ls hl => ?_)
      refine lv_iconst (v := 2) hx hb dL_drawn_23 (by decide) ?_
      subst hz0
      exact e_iretO hAL (fun q9 => absurd q9 (by decide)) C hr hR hS (Nat.le_of_ble_eq_true rfl) (Nat.le_of_ble_eq_true rfl) dL_drawn_24
  · have hAL : ALo a0 a := fun r i h1 h2 h3 h4 => (hag r i h1 h2 h3).trans (hAL r i h1 h2 h3 h4)
    have hl : lv_has ls 7 [(0, .ref (a 8 0)), (1, .int x1), (2, .int x2), (3, .int x3), (4, .int x4), (5, .ref (a 90 0))] := by rw [hag 8 0 (by decide) (by decide) (by decide), hag 90 0 (by decide) (by decide) (by decide)]; exact hl
    obtain rfl : z = 0 := by rcases hz with ⟨hk0, hz0⟩ | ⟨hk0, hz0⟩ | ⟨hk0, hz0⟩ <;> first | exact hz0 | exact absurd (hk.symm.trans hk0) (by decide)
    rw [← hag 90 0 (by decide) (by decide) (by decide)]
    refine lv_i2l (v := out.2.1.toInt64) hx hb dL_drawn_12 rfl ?_
    refine r_outst (x := out.2.1.toInt64) C hR hS dL_drawn_13 (fun H locs hR hS => ?_)
    refine lv_goto (tgt := 25) hx hb dL_drawn_14 (by decide) ?_
    refine lv_iconst (v := 0) hx hb dL_drawn_25 (by decide) ?_
    exact e_iretO (fun r i h1 h2 h3 h4 => (show upA a 92 0 _ r i = a r i from if_neg (fun q => h4 q.1)).trans (hAL r i h1 h2 h3 h4)) (fun _ => by rw [show upA a 92 0 _ 92 0 = _ from if_pos ⟨rfl, rfl⟩]) C hr hR hS (Nat.le_of_ble_eq_true rfl) (Nat.le_of_ble_eq_true rfl) dL_drawn_26
set_option maxHeartbeats 4000000 in
theorem vL_change {l : Launch} (hfl : l.stackTraces = false) {E : EV} {a0 : Nat → Nat → Nat} {u0 : HS} {x1 : Int32} {x2 : Int32} {out : Nat × Int32 × HS} {z : Int32} (h : mX8_change u0 x1 x2 = some out) (hz : (out.1 = 0 ∧ z = 0) ∨ (out.1 = 3 ∧ z = 1) ∨ (out.1 = 1 ∧ z = 2)) : CtH l E yL_change cL_change 5 [(0, 10, 13, 34), (0, 10, 17, 13)] 8 159 2 12 a0 u0 [.ref (a0 8 0), .int x1, .int x2, .ref (a0 90 0)] z out.2.1.toInt64 out.2.2 := by
  refine CtH.start (by decide) (Nat.le_of_ble_eq_true rfl) ?_
  intro p e s m args below meth c ls C hT hr hR hS hl
  have C : Cx E p s m args meth c cL_change 5 RL := C
  obtain ⟨a, hAL, hR, hl⟩ : ∃ a : Nat → Nat → Nat, ALo a0 a ∧ Rel E a u0 s.heap ∧ lv_has ls 5 [(0, .ref (a 8 0)), (1, .int x1), (2, .int x2), (3, .ref (a 90 0))] := ⟨a0, ALo.rf, hR, hl⟩
  have hx := C.1
  have hb := C.2.1
  refine lv_aload_n hx hb dL_change_0 rfl (lv_at hl 3 rfl) ?_
  refine lv_iconst (v := 0) hx hb dL_change_1 (by decide) ?_
  refine lv_aload_n hx hb dL_change_2 rfl (lv_at hl 0 rfl) ?_
  refine lv_iload_n hx hb dL_change_3 rfl (lv_at hl 1 rfl) ?_
  refine lv_iload_n hx hb dL_change_4 rfl (lv_at hl 2 rfl) ?_
  refine l_callX (As := [.int x1, .int x2]) (rest := [.int 0, .ref (a 90 0)]) C (vX8_change hfl h) hR hS ml_L_76 mw_X8_change rfl ⟨Nat.le_of_ble_eq_true rfl, Nat.le_of_ble_eq_true rfl, Nat.le_of_ble_eq_true rfl, Nat.le_of_ble_eq_true rfl⟩ hl.1 rfl (Nat.le_of_ble_eq_true rfl) dL_change_5 (fun hk a H locs q ce hag hR hS hq hv hc => ?_) (fun hk a H locs hag hR hS => ?_)
  · have hAL : ALo a0 a := fun r i h1 h2 h3 h4 => (hag r i h1 h2 h3).trans (hAL r i h1 h2 h3 h4)
    have hl : lv_has ls 5 [(0, .ref (a 8 0)), (1, .int x1), (2, .int x2), (3, .ref (a 90 0))] := by rw [hag 8 0 (by decide) (by decide) (by decide), hag 90 0 (by decide) (by decide) (by decide)]; exact hl
    rcases hz with ⟨hk0, hz0⟩ | ⟨hk0, hz0⟩ | ⟨hk0, hz0⟩
    · exact absurd hk0 hk
    · rw [hk0] at hc
      refine vx_catch (own := RL) (name := "java/lang/IndexOutOfBoundsException") (E := xcl 3) C.2.2.2.1 [] ⟨0, 10, 13, 34⟩ [⟨0, 10, 17, 13⟩] (by rw [hT]; rfl) (fun z9 hz9 => absurd hz9 List.not_mem_nil) (by decide) (by decide) (C.2.2.2.2.1 _ cl_L_34) (l_cast3 C) hq hv hc ?_
      refine lv_astore (lv' := [(4, .ref q)]) hx hb dL_change_13 (lv_sub hl [] rfl) (by decide) rfl (fun ls hl => ?_)
      refine lv_iconst (v := 1) hx hb dL_change_15 (by decide) ?_
      subst hz0
      exact e_iretO hAL (fun q9 => absurd q9 (by decide)) C hr hR hS (Nat.le_of_ble_eq_true rfl) (Nat.le_of_ble_eq_true rfl) dL_change_16
    · rw [hk0] at hc
      refine vx_catch (own := RL) (name := "java/lang/IllegalArgumentException") (E := xcl 1) C.2.2.2.1 [⟨0, 10, 13, 34⟩] ⟨0, 10, 17, 13⟩ [] (by rw [hT]; rfl) (fun z9 hz9 => by
        simp only [List.mem_cons, List.not_mem_nil, or_false] at hz9
        rcases hz9 with rfl
        · exact Or.inr ⟨by decide, _, C.2.2.2.2.1 _ cl_L_34, l_nc13 C⟩) (by decide) (by decide) (C.2.2.2.2.1 _ cl_L_13) (l_cast1 C) hq hv hc ?_
      refine lv_astore (lv' := [(4, .ref q)]) hx hb dL_change_17 (lv_sub hl [] rfl) (by decide) rfl (fun ls hl => ?_)
      refine lv_iconst (v := 2) hx hb dL_change_19 (by decide) ?_
      subst hz0
      exact e_iretO hAL (fun q9 => absurd q9 (by decide)) C hr hR hS (Nat.le_of_ble_eq_true rfl) (Nat.le_of_ble_eq_true rfl) dL_change_20
  · have hAL : ALo a0 a := fun r i h1 h2 h3 h4 => (hag r i h1 h2 h3).trans (hAL r i h1 h2 h3 h4)
    have hl : lv_has ls 5 [(0, .ref (a 8 0)), (1, .int x1), (2, .int x2), (3, .ref (a 90 0))] := by rw [hag 8 0 (by decide) (by decide) (by decide), hag 90 0 (by decide) (by decide) (by decide)]; exact hl
    obtain rfl : z = 0 := by rcases hz with ⟨hk0, hz0⟩ | ⟨hk0, hz0⟩ | ⟨hk0, hz0⟩ <;> first | exact hz0 | exact absurd (hk.symm.trans hk0) (by decide)
    rw [← hag 90 0 (by decide) (by decide) (by decide)]
    refine lv_i2l (v := out.2.1.toInt64) hx hb dL_change_8 rfl ?_
    refine r_outst (x := out.2.1.toInt64) C hR hS dL_change_9 (fun H locs hR hS => ?_)
    refine lv_goto (tgt := 21) hx hb dL_change_10 (by decide) ?_
    refine lv_iconst (v := 0) hx hb dL_change_21 (by decide) ?_
    exact e_iretO (fun r i h1 h2 h3 h4 => (show upA a 92 0 _ r i = a r i from if_neg (fun q => h4 q.1)).trans (hAL r i h1 h2 h3 h4)) (fun _ => by rw [show upA a 92 0 _ 92 0 = _ from if_pos ⟨rfl, rfl⟩]) C hr hR hS (Nat.le_of_ble_eq_true rfl) (Nat.le_of_ble_eq_true rfl) dL_change_22
set_option maxHeartbeats 4000000 in
theorem vL_yet {l : Launch} (hfl : l.stackTraces = false) {E : EV} {a0 : Nat → Nat → Nat} {u0 : HS} {x1 : Int32} {out : Nat × Int32 × HS} {z : Int32} (h : mX8_yet u0 x1 = some out) (hz : (out.1 = 0 ∧ z = 0) ∨ (out.1 = 3 ∧ z = 1)) : CtH l E yL_yet cL_yet 4 [(0, 9, 12, 34)] 8 168 1 6 a0 u0 [.ref (a0 8 0), .int x1, .ref (a0 90 0)] z out.2.1.toInt64 out.2.2 := by
  refine CtH.start (by decide) (Nat.le_of_ble_eq_true rfl) ?_
  intro p e s m args below meth c ls C hT hr hR hS hl
  have C : Cx E p s m args meth c cL_yet 4 RL := C
  obtain ⟨a, hAL, hR, hl⟩ : ∃ a : Nat → Nat → Nat, ALo a0 a ∧ Rel E a u0 s.heap ∧ lv_has ls 4 [(0, .ref (a 8 0)), (1, .int x1), (2, .ref (a 90 0))] := ⟨a0, ALo.rf, hR, hl⟩
  have hx := C.1
  have hb := C.2.1
  refine lv_aload_n hx hb dL_yet_0 rfl (lv_at hl 2 rfl) ?_
  refine lv_iconst (v := 0) hx hb dL_yet_1 (by decide) ?_
  refine lv_aload_n hx hb dL_yet_2 rfl (lv_at hl 0 rfl) ?_
  refine lv_iload_n hx hb dL_yet_3 rfl (lv_at hl 1 rfl) ?_
  refine l_callX (As := [.int x1]) (rest := [.int 0, .ref (a 90 0)]) C (vX8_yet hfl h) hR hS ml_L_79 mw_X8_yet rfl ⟨Nat.le_of_ble_eq_true rfl, Nat.le_of_ble_eq_true rfl, Nat.le_of_ble_eq_true rfl, Nat.le_of_ble_eq_true rfl⟩ hl.1 rfl (Nat.le_of_ble_eq_true rfl) dL_yet_4 (fun hk a H locs q ce hag hR hS hq hv hc => ?_) (fun hk a H locs hag hR hS => ?_)
  · have hAL : ALo a0 a := fun r i h1 h2 h3 h4 => (hag r i h1 h2 h3).trans (hAL r i h1 h2 h3 h4)
    have hl : lv_has ls 4 [(0, .ref (a 8 0)), (1, .int x1), (2, .ref (a 90 0))] := by rw [hag 8 0 (by decide) (by decide) (by decide), hag 90 0 (by decide) (by decide) (by decide)]; exact hl
    rcases hz with ⟨hk0, hz0⟩ | ⟨hk0, hz0⟩
    · exact absurd hk0 hk
    · rw [hk0] at hc
      refine vx_catch (own := RL) (name := "java/lang/IndexOutOfBoundsException") (E := xcl 3) C.2.2.2.1 [] ⟨0, 9, 12, 34⟩ [] (by rw [hT]; rfl) (fun z9 hz9 => absurd hz9 List.not_mem_nil) (by decide) (by decide) (C.2.2.2.2.1 _ cl_L_34) (l_cast3 C) hq hv hc ?_
      refine lv_astore_n (lv' := [(3, .ref q)]) hx hb dL_yet_12 rfl (lv_sub hl [] rfl) (by decide) rfl (fun ls hl => ?_)
      refine lv_iconst (v := 1) hx hb dL_yet_13 (by decide) ?_
      subst hz0
      exact e_iretO hAL (fun q9 => absurd q9 (by decide)) C hr hR hS (Nat.le_of_ble_eq_true rfl) (Nat.le_of_ble_eq_true rfl) dL_yet_14
  · have hAL : ALo a0 a := fun r i h1 h2 h3 h4 => (hag r i h1 h2 h3).trans (hAL r i h1 h2 h3 h4)
    have hl : lv_has ls 4 [(0, .ref (a 8 0)), (1, .int x1), (2, .ref (a 90 0))] := by rw [hag 8 0 (by decide) (by decide) (by decide), hag 90 0 (by decide) (by decide) (by decide)]; exact hl
    obtain rfl : z = 0 := by rcases hz with ⟨hk0, hz0⟩ | ⟨hk0, hz0⟩ <;> first | exact hz0 | exact absurd (hk.symm.trans hk0) (by decide)
    rw [← hag 90 0 (by decide) (by decide) (by decide)]
    refine lv_i2l (v := out.2.1.toInt64) hx hb dL_yet_7 rfl ?_
    refine r_outst (x := out.2.1.toInt64) C hR hS dL_yet_8 (fun H locs hR hS => ?_)
    refine lv_goto (tgt := 15) hx hb dL_yet_9 (by decide) ?_
    refine lv_iconst (v := 0) hx hb dL_yet_15 (by decide) ?_
    exact e_iretO (fun r i h1 h2 h3 h4 => (show upA a 92 0 _ r i = a r i from if_neg (fun q => h4 q.1)).trans (hAL r i h1 h2 h3 h4)) (fun _ => by rw [show upA a 92 0 _ 92 0 = _ from if_pos ⟨rfl, rfl⟩]) C hr hR hS (Nat.le_of_ble_eq_true rfl) (Nat.le_of_ble_eq_true rfl) dL_yet_16
set_option maxHeartbeats 4000000 in
theorem vL_least {l : Launch} (hfl : l.stackTraces = false) {E : EV} {a0 : Nat → Nat → Nat} {u0 : HS} {x1 : Int32} {x2 : Int32} {x3 : Int32} {out : Nat × Int32 × HS} {z : Int32} (h : mX8_least u0 x1 x2 x3 = some out) (hz : (out.1 = 0 ∧ z = 0) ∨ (out.1 = 3 ∧ z = 1) ∨ (out.1 = 1 ∧ z = 2)) : CtH l E yL_least cL_least 6 [(0, 12, 15, 34), (0, 12, 19, 13)] 8 140 3 18 a0 u0 [.ref (a0 8 0), .int x1, .int x2, .int x3, .ref (a0 90 0)] z out.2.1.toInt64 out.2.2 := by
  refine CtH.start (by decide) (Nat.le_of_ble_eq_true rfl) ?_
  intro p e s m args below meth c ls C hT hr hR hS hl
  have C : Cx E p s m args meth c cL_least 6 RL := C
  obtain ⟨a, hAL, hR, hl⟩ : ∃ a : Nat → Nat → Nat, ALo a0 a ∧ Rel E a u0 s.heap ∧ lv_has ls 6 [(0, .ref (a 8 0)), (1, .int x1), (2, .int x2), (3, .int x3), (4, .ref (a 90 0))] := ⟨a0, ALo.rf, hR, hl⟩
  have hx := C.1
  have hb := C.2.1
  refine lv_aload hx hb dL_least_0 (lv_at hl 4 rfl) ?_
  refine lv_iconst (v := 0) hx hb dL_least_2 (by decide) ?_
  refine lv_aload_n hx hb dL_least_3 rfl (lv_at hl 0 rfl) ?_
  refine lv_iload_n hx hb dL_least_4 rfl (lv_at hl 1 rfl) ?_
  refine lv_iload_n hx hb dL_least_5 rfl (lv_at hl 2 rfl) ?_
  refine lv_iload_n hx hb dL_least_6 rfl (lv_at hl 3 rfl) ?_
  refine l_callX (As := [.int x1, .int x2, .int x3]) (rest := [.int 0, .ref (a 90 0)]) C (vX8_least hfl h) hR hS ml_L_82 mw_X8_least rfl ⟨Nat.le_of_ble_eq_true rfl, Nat.le_of_ble_eq_true rfl, Nat.le_of_ble_eq_true rfl, Nat.le_of_ble_eq_true rfl⟩ hl.1 rfl (Nat.le_of_ble_eq_true rfl) dL_least_7 (fun hk a H locs q ce hag hR hS hq hv hc => ?_) (fun hk a H locs hag hR hS => ?_)
  · have hAL : ALo a0 a := fun r i h1 h2 h3 h4 => (hag r i h1 h2 h3).trans (hAL r i h1 h2 h3 h4)
    have hl : lv_has ls 6 [(0, .ref (a 8 0)), (1, .int x1), (2, .int x2), (3, .int x3), (4, .ref (a 90 0))] := by rw [hag 8 0 (by decide) (by decide) (by decide), hag 90 0 (by decide) (by decide) (by decide)]; exact hl
    rcases hz with ⟨hk0, hz0⟩ | ⟨hk0, hz0⟩ | ⟨hk0, hz0⟩
    · exact absurd hk0 hk
    · rw [hk0] at hc
      refine vx_catch (own := RL) (name := "java/lang/IndexOutOfBoundsException") (E := xcl 3) C.2.2.2.1 [] ⟨0, 12, 15, 34⟩ [⟨0, 12, 19, 13⟩] (by rw [hT]; rfl) (fun z9 hz9 => absurd hz9 List.not_mem_nil) (by decide) (by decide) (C.2.2.2.2.1 _ cl_L_34) (l_cast3 C) hq hv hc ?_
      refine lv_astore (lv' := [(5, .ref q)]) hx hb dL_least_15 (lv_sub hl [] rfl) (by decide) rfl (fun ls hl => ?_)
      refine lv_iconst (v := 1) hx hb dL_least_17 (by decide) ?_
      subst hz0
      exact e_iretO hAL (fun q9 => absurd q9 (by decide)) C hr hR hS (Nat.le_of_ble_eq_true rfl) (Nat.le_of_ble_eq_true rfl) dL_least_18
    · rw [hk0] at hc
      refine vx_catch (own := RL) (name := "java/lang/IllegalArgumentException") (E := xcl 1) C.2.2.2.1 [⟨0, 12, 15, 34⟩] ⟨0, 12, 19, 13⟩ [] (by rw [hT]; rfl) (fun z9 hz9 => by
        simp only [List.mem_cons, List.not_mem_nil, or_false] at hz9
        rcases hz9 with rfl
        · exact Or.inr ⟨by decide, _, C.2.2.2.2.1 _ cl_L_34, l_nc13 C⟩) (by decide) (by decide) (C.2.2.2.2.1 _ cl_L_13) (l_cast1 C) hq hv hc ?_
      refine lv_astore (lv' := [(5, .ref q)]) hx hb dL_least_19 (lv_sub hl [] rfl) (by decide) rfl (fun ls hl => ?_)
      refine lv_iconst (v := 2) hx hb dL_least_21 (by decide) ?_
      subst hz0
      exact e_iretO hAL (fun q9 => absurd q9 (by decide)) C hr hR hS (Nat.le_of_ble_eq_true rfl) (Nat.le_of_ble_eq_true rfl) dL_least_22
  · have hAL : ALo a0 a := fun r i h1 h2 h3 h4 => (hag r i h1 h2 h3).trans (hAL r i h1 h2 h3 h4)
    have hl : lv_has ls 6 [(0, .ref (a 8 0)), (1, .int x1), (2, .int x2), (3, .int x3), (4, .ref (a 90 0))] := by rw [hag 8 0 (by decide) (by decide) (by decide), hag 90 0 (by decide) (by decide) (by decide)]; exact hl
    obtain rfl : z = 0 := by rcases hz with ⟨hk0, hz0⟩ | ⟨hk0, hz0⟩ | ⟨hk0, hz0⟩ <;> first | exact hz0 | exact absurd (hk.symm.trans hk0) (by decide)
    rw [← hag 90 0 (by decide) (by decide) (by decide)]
    refine lv_i2l (v := out.2.1.toInt64) hx hb dL_least_10 rfl ?_
    refine r_outst (x := out.2.1.toInt64) C hR hS dL_least_11 (fun H locs hR hS => ?_)
    refine lv_goto (tgt := 23) hx hb dL_least_12 (by decide) ?_
    refine lv_iconst (v := 0) hx hb dL_least_23 (by decide) ?_
    exact e_iretO (fun r i h1 h2 h3 h4 => (show upA a 92 0 _ r i = a r i from if_neg (fun q => h4 q.1)).trans (hAL r i h1 h2 h3 h4)) (fun _ => by rw [show upA a 92 0 _ 92 0 = _ from if_pos ⟨rfl, rfl⟩]) C hr hR hS (Nat.le_of_ble_eq_true rfl) (Nat.le_of_ble_eq_true rfl) dL_least_24
set_option maxHeartbeats 4000000 in
theorem vL_answer {l : Launch} (hfl : l.stackTraces = false) {E : EV} {a0 : Nat → Nat → Nat} {u0 : HS} {x1 : Int32} {x2 : Int32} {x3 : Int32} {out : Nat × Int32 × HS} {z : Int32} (h : mX8_answer u0 x1 x2 x3 = some out) (hz : (out.1 = 0 ∧ z = 0) ∨ (out.1 = 1 ∧ z = 1)) : CtH l E yL_answer cL_answer 6 [(0, 12, 15, 13)] 8 135 2 12 a0 u0 [.ref (a0 8 0), .int x1, .int x2, .int x3, .ref (a0 90 0)] z out.2.1.toInt64 out.2.2 := by
  refine CtH.start (by decide) (Nat.le_of_ble_eq_true rfl) ?_
  intro p e s m args below meth c ls C hT hr hR hS hl
  have C : Cx E p s m args meth c cL_answer 6 RL := C
  obtain ⟨a, hAL, hR, hl⟩ : ∃ a : Nat → Nat → Nat, ALo a0 a ∧ Rel E a u0 s.heap ∧ lv_has ls 6 [(0, .ref (a 8 0)), (1, .int x1), (2, .int x2), (3, .int x3), (4, .ref (a 90 0))] := ⟨a0, ALo.rf, hR, hl⟩
  have hx := C.1
  have hb := C.2.1
  refine lv_aload hx hb dL_answer_0 (lv_at hl 4 rfl) ?_
  refine lv_iconst (v := 0) hx hb dL_answer_2 (by decide) ?_
  refine lv_aload_n hx hb dL_answer_3 rfl (lv_at hl 0 rfl) ?_
  refine lv_iload_n hx hb dL_answer_4 rfl (lv_at hl 1 rfl) ?_
  refine lv_iload_n hx hb dL_answer_5 rfl (lv_at hl 2 rfl) ?_
  refine lv_iload_n hx hb dL_answer_6 rfl (lv_at hl 3 rfl) ?_
  refine l_callX (As := [.int x1, .int x2, .int x3]) (rest := [.int 0, .ref (a 90 0)]) C (vX8_answer hfl h) hR hS ml_L_85 mw_X8_answer rfl ⟨Nat.le_of_ble_eq_true rfl, Nat.le_of_ble_eq_true rfl, Nat.le_of_ble_eq_true rfl, Nat.le_of_ble_eq_true rfl⟩ hl.1 rfl (Nat.le_of_ble_eq_true rfl) dL_answer_7 (fun hk a H locs q ce hag hR hS hq hv hc => ?_) (fun hk a H locs hag hR hS => ?_)
  · have hAL : ALo a0 a := fun r i h1 h2 h3 h4 => (hag r i h1 h2 h3).trans (hAL r i h1 h2 h3 h4)
    have hl : lv_has ls 6 [(0, .ref (a 8 0)), (1, .int x1), (2, .int x2), (3, .int x3), (4, .ref (a 90 0))] := by rw [hag 8 0 (by decide) (by decide) (by decide), hag 90 0 (by decide) (by decide) (by decide)]; exact hl
    rcases hz with ⟨hk0, hz0⟩ | ⟨hk0, hz0⟩
    · exact absurd hk0 hk
    · rw [hk0] at hc
      refine vx_catch (own := RL) (name := "java/lang/IllegalArgumentException") (E := xcl 1) C.2.2.2.1 [] ⟨0, 12, 15, 13⟩ [] (by rw [hT]; rfl) (fun z9 hz9 => absurd hz9 List.not_mem_nil) (by decide) (by decide) (C.2.2.2.2.1 _ cl_L_13) (l_cast1 C) hq hv hc ?_
      refine lv_astore (lv' := [(5, .ref q)]) hx hb dL_answer_15 (lv_sub hl [] rfl) (by decide) rfl (fun ls hl => ?_)
      refine lv_iconst (v := 1) hx hb dL_answer_17 (by decide) ?_
      subst hz0
      exact e_iretO hAL (fun q9 => absurd q9 (by decide)) C hr hR hS (Nat.le_of_ble_eq_true rfl) (Nat.le_of_ble_eq_true rfl) dL_answer_18
  · have hAL : ALo a0 a := fun r i h1 h2 h3 h4 => (hag r i h1 h2 h3).trans (hAL r i h1 h2 h3 h4)
    have hl : lv_has ls 6 [(0, .ref (a 8 0)), (1, .int x1), (2, .int x2), (3, .int x3), (4, .ref (a 90 0))] := by rw [hag 8 0 (by decide) (by decide) (by decide), hag 90 0 (by decide) (by decide) (by decide)]; exact hl
    obtain rfl : z = 0 := by rcases hz with ⟨hk0, hz0⟩ | ⟨hk0, hz0⟩ <;> first | exact hz0 | exact absurd (hk.symm.trans hk0) (by decide)
    rw [← hag 90 0 (by decide) (by decide) (by decide)]
    refine lv_i2l (v := out.2.1.toInt64) hx hb dL_answer_10 rfl ?_
    refine r_outst (x := out.2.1.toInt64) C hR hS dL_answer_11 (fun H locs hR hS => ?_)
    refine lv_goto (tgt := 19) hx hb dL_answer_12 (by decide) ?_
    refine lv_iconst (v := 0) hx hb dL_answer_19 (by decide) ?_
    exact e_iretO (fun r i h1 h2 h3 h4 => (show upA a 92 0 _ r i = a r i from if_neg (fun q => h4 q.1)).trans (hAL r i h1 h2 h3 h4)) (fun _ => by rw [show upA a 92 0 _ 92 0 = _ from if_pos ⟨rfl, rfl⟩]) C hr hR hS (Nat.le_of_ble_eq_true rfl) (Nat.le_of_ble_eq_true rfl) dL_answer_20
set_option maxHeartbeats 4000000 in
theorem vL_counted {l : Launch} (hfl : l.stackTraces = false) {E : EV} {a0 : Nat → Nat → Nat} {u0 : HS} {x1 : Int32} {x2 : Int32} {out : Nat × Int32 × HS} {z : Int32} (h : mX8_counted u0 x1 x2 = some out) (hz : (out.1 = 0 ∧ z = 0) ∨ (out.1 = 1 ∧ z = 1)) : CtH l E yL_counted cL_counted 5 [(0, 10, 13, 13)] 8 134 2 12 a0 u0 [.ref (a0 8 0), .int x1, .int x2, .ref (a0 90 0)] z out.2.1.toInt64 out.2.2 := by
  refine CtH.start (by decide) (Nat.le_of_ble_eq_true rfl) ?_
  intro p e s m args below meth c ls C hT hr hR hS hl
  have C : Cx E p s m args meth c cL_counted 5 RL := C
  obtain ⟨a, hAL, hR, hl⟩ : ∃ a : Nat → Nat → Nat, ALo a0 a ∧ Rel E a u0 s.heap ∧ lv_has ls 5 [(0, .ref (a 8 0)), (1, .int x1), (2, .int x2), (3, .ref (a 90 0))] := ⟨a0, ALo.rf, hR, hl⟩
  have hx := C.1
  have hb := C.2.1
  refine lv_aload_n hx hb dL_counted_0 rfl (lv_at hl 3 rfl) ?_
  refine lv_iconst (v := 0) hx hb dL_counted_1 (by decide) ?_
  refine lv_aload_n hx hb dL_counted_2 rfl (lv_at hl 0 rfl) ?_
  refine lv_iload_n hx hb dL_counted_3 rfl (lv_at hl 1 rfl) ?_
  refine lv_iload_n hx hb dL_counted_4 rfl (lv_at hl 2 rfl) ?_
  refine l_callX (As := [.int x1, .int x2]) (rest := [.int 0, .ref (a 90 0)]) C (vX8_counted hfl h) hR hS ml_L_88 mw_X8_counted rfl ⟨Nat.le_of_ble_eq_true rfl, Nat.le_of_ble_eq_true rfl, Nat.le_of_ble_eq_true rfl, Nat.le_of_ble_eq_true rfl⟩ hl.1 rfl (Nat.le_of_ble_eq_true rfl) dL_counted_5 (fun hk a H locs q ce hag hR hS hq hv hc => ?_) (fun hk a H locs hag hR hS => ?_)
  · have hAL : ALo a0 a := fun r i h1 h2 h3 h4 => (hag r i h1 h2 h3).trans (hAL r i h1 h2 h3 h4)
    have hl : lv_has ls 5 [(0, .ref (a 8 0)), (1, .int x1), (2, .int x2), (3, .ref (a 90 0))] := by rw [hag 8 0 (by decide) (by decide) (by decide), hag 90 0 (by decide) (by decide) (by decide)]; exact hl
    rcases hz with ⟨hk0, hz0⟩ | ⟨hk0, hz0⟩
    · exact absurd hk0 hk
    · rw [hk0] at hc
      refine vx_catch (own := RL) (name := "java/lang/IllegalArgumentException") (E := xcl 1) C.2.2.2.1 [] ⟨0, 10, 13, 13⟩ [] (by rw [hT]; rfl) (fun z9 hz9 => absurd hz9 List.not_mem_nil) (by decide) (by decide) (C.2.2.2.2.1 _ cl_L_13) (l_cast1 C) hq hv hc ?_
      refine lv_astore (lv' := [(4, .ref q)]) hx hb dL_counted_13 (lv_sub hl [] rfl) (by decide) rfl (fun ls hl => ?_)
      refine lv_iconst (v := 1) hx hb dL_counted_15 (by decide) ?_
      subst hz0
      exact e_iretO hAL (fun q9 => absurd q9 (by decide)) C hr hR hS (Nat.le_of_ble_eq_true rfl) (Nat.le_of_ble_eq_true rfl) dL_counted_16
  · have hAL : ALo a0 a := fun r i h1 h2 h3 h4 => (hag r i h1 h2 h3).trans (hAL r i h1 h2 h3 h4)
    have hl : lv_has ls 5 [(0, .ref (a 8 0)), (1, .int x1), (2, .int x2), (3, .ref (a 90 0))] := by rw [hag 8 0 (by decide) (by decide) (by decide), hag 90 0 (by decide) (by decide) (by decide)]; exact hl
    obtain rfl : z = 0 := by rcases hz with ⟨hk0, hz0⟩ | ⟨hk0, hz0⟩ <;> first | exact hz0 | exact absurd (hk.symm.trans hk0) (by decide)
    rw [← hag 90 0 (by decide) (by decide) (by decide)]
    refine lv_i2l (v := out.2.1.toInt64) hx hb dL_counted_8 rfl ?_
    refine r_outst (x := out.2.1.toInt64) C hR hS dL_counted_9 (fun H locs hR hS => ?_)
    refine lv_goto (tgt := 17) hx hb dL_counted_10 (by decide) ?_
    refine lv_iconst (v := 0) hx hb dL_counted_17 (by decide) ?_
    exact e_iretO (fun r i h1 h2 h3 h4 => (show upA a 92 0 _ r i = a r i from if_neg (fun q => h4 q.1)).trans (hAL r i h1 h2 h3 h4)) (fun _ => by rw [show upA a 92 0 _ 92 0 = _ from if_pos ⟨rfl, rfl⟩]) C hr hR hS (Nat.le_of_ble_eq_true rfl) (Nat.le_of_ble_eq_true rfl) dL_counted_18
set_option maxHeartbeats 4000000 in
theorem vL_sure {l : Launch} (hfl : l.stackTraces = false) {E : EV} {a0 : Nat → Nat → Nat} {u0 : HS} {x1 : Int32} {x2 : Int32} {out : Nat × Int32 × HS} {z : Int32} (h : mX8_sure u0 x1 x2 = some out) (hz : (out.1 = 0 ∧ z = 0) ∨ (out.1 = 1 ∧ z = 1)) : CtH l E yL_sure cL_sure 5 [(0, 10, 13, 13)] 8 134 2 12 a0 u0 [.ref (a0 8 0), .int x1, .int x2, .ref (a0 90 0)] z out.2.1.toInt64 out.2.2 := by
  refine CtH.start (by decide) (Nat.le_of_ble_eq_true rfl) ?_
  intro p e s m args below meth c ls C hT hr hR hS hl
  have C : Cx E p s m args meth c cL_sure 5 RL := C
  obtain ⟨a, hAL, hR, hl⟩ : ∃ a : Nat → Nat → Nat, ALo a0 a ∧ Rel E a u0 s.heap ∧ lv_has ls 5 [(0, .ref (a 8 0)), (1, .int x1), (2, .int x2), (3, .ref (a 90 0))] := ⟨a0, ALo.rf, hR, hl⟩
  have hx := C.1
  have hb := C.2.1
  refine lv_aload_n hx hb dL_sure_0 rfl (lv_at hl 3 rfl) ?_
  refine lv_iconst (v := 0) hx hb dL_sure_1 (by decide) ?_
  refine lv_aload_n hx hb dL_sure_2 rfl (lv_at hl 0 rfl) ?_
  refine lv_iload_n hx hb dL_sure_3 rfl (lv_at hl 1 rfl) ?_
  refine lv_iload_n hx hb dL_sure_4 rfl (lv_at hl 2 rfl) ?_
  refine l_callX (As := [.int x1, .int x2]) (rest := [.int 0, .ref (a 90 0)]) C (vX8_sure hfl h) hR hS ml_L_91 mw_X8_sure rfl ⟨Nat.le_of_ble_eq_true rfl, Nat.le_of_ble_eq_true rfl, Nat.le_of_ble_eq_true rfl, Nat.le_of_ble_eq_true rfl⟩ hl.1 rfl (Nat.le_of_ble_eq_true rfl) dL_sure_5 (fun hk a H locs q ce hag hR hS hq hv hc => ?_) (fun hk a H locs hag hR hS => ?_)
  · have hAL : ALo a0 a := fun r i h1 h2 h3 h4 => (hag r i h1 h2 h3).trans (hAL r i h1 h2 h3 h4)
    have hl : lv_has ls 5 [(0, .ref (a 8 0)), (1, .int x1), (2, .int x2), (3, .ref (a 90 0))] := by rw [hag 8 0 (by decide) (by decide) (by decide), hag 90 0 (by decide) (by decide) (by decide)]; exact hl
    rcases hz with ⟨hk0, hz0⟩ | ⟨hk0, hz0⟩
    · exact absurd hk0 hk
    · rw [hk0] at hc
      refine vx_catch (own := RL) (name := "java/lang/IllegalArgumentException") (E := xcl 1) C.2.2.2.1 [] ⟨0, 10, 13, 13⟩ [] (by rw [hT]; rfl) (fun z9 hz9 => absurd hz9 List.not_mem_nil) (by decide) (by decide) (C.2.2.2.2.1 _ cl_L_13) (l_cast1 C) hq hv hc ?_
      refine lv_astore (lv' := [(4, .ref q)]) hx hb dL_sure_13 (lv_sub hl [] rfl) (by decide) rfl (fun ls hl => ?_)
      refine lv_iconst (v := 1) hx hb dL_sure_15 (by decide) ?_
      subst hz0
      exact e_iretO hAL (fun q9 => absurd q9 (by decide)) C hr hR hS (Nat.le_of_ble_eq_true rfl) (Nat.le_of_ble_eq_true rfl) dL_sure_16
  · have hAL : ALo a0 a := fun r i h1 h2 h3 h4 => (hag r i h1 h2 h3).trans (hAL r i h1 h2 h3 h4)
    have hl : lv_has ls 5 [(0, .ref (a 8 0)), (1, .int x1), (2, .int x2), (3, .ref (a 90 0))] := by rw [hag 8 0 (by decide) (by decide) (by decide), hag 90 0 (by decide) (by decide) (by decide)]; exact hl
    obtain rfl : z = 0 := by rcases hz with ⟨hk0, hz0⟩ | ⟨hk0, hz0⟩ <;> first | exact hz0 | exact absurd (hk.symm.trans hk0) (by decide)
    rw [← hag 90 0 (by decide) (by decide) (by decide)]
    refine lv_i2l (v := out.2.1.toInt64) hx hb dL_sure_8 rfl ?_
    refine r_outst (x := out.2.1.toInt64) C hR hS dL_sure_9 (fun H locs hR hS => ?_)
    refine lv_goto (tgt := 17) hx hb dL_sure_10 (by decide) ?_
    refine lv_iconst (v := 0) hx hb dL_sure_17 (by decide) ?_
    exact e_iretO (fun r i h1 h2 h3 h4 => (show upA a 92 0 _ r i = a r i from if_neg (fun q => h4 q.1)).trans (hAL r i h1 h2 h3 h4)) (fun _ => by rw [show upA a 92 0 _ 92 0 = _ from if_pos ⟨rfl, rfl⟩]) C hr hR hS (Nat.le_of_ble_eq_true rfl) (Nat.le_of_ble_eq_true rfl) dL_sure_18
set_option maxHeartbeats 4000000 in
theorem vL_share {l : Launch} (hfl : l.stackTraces = false) {E : EV} {a0 : Nat → Nat → Nat} {u0 : HS} {x1 : Int32} {x2 : Int32} {x3 : Int32} {x4 : Int32} {out : Nat × Int32 × HS} {z : Int32} (h : mX8_share u0 x1 x2 x3 x4 = some out) (hz : (out.1 = 0 ∧ z = 0) ∨ (out.1 = 2 ∧ z = 1) ∨ (out.1 = 3 ∧ z = 2) ∨ (out.1 = 1 ∧ z = 3)) : CtH l E yL_share cL_share 7 [(0, 14, 17, 25), (0, 14, 21, 34), (0, 14, 25, 13)] 8 138 3 18 a0 u0 [.ref (a0 8 0), .int x1, .int x2, .int x3, .int x4, .ref (a0 90 0)] z out.2.1.toInt64 out.2.2 := by
  refine CtH.start (by decide) (Nat.le_of_ble_eq_true rfl) ?_
  intro p e s m args below meth c ls C hT hr hR hS hl
  have C : Cx E p s m args meth c cL_share 7 RL := C
  obtain ⟨a, hAL, hR, hl⟩ : ∃ a : Nat → Nat → Nat, ALo a0 a ∧ Rel E a u0 s.heap ∧ lv_has ls 7 [(0, .ref (a 8 0)), (1, .int x1), (2, .int x2), (3, .int x3), (4, .int x4), (5, .ref (a 90 0))] := ⟨a0, ALo.rf, hR, hl⟩
  have hx := C.1
  have hb := C.2.1
  refine lv_aload hx hb dL_share_0 (lv_at hl 5 rfl) ?_
  refine lv_iconst (v := 0) hx hb dL_share_2 (by decide) ?_
  refine lv_aload_n hx hb dL_share_3 rfl (lv_at hl 0 rfl) ?_
  refine lv_iload_n hx hb dL_share_4 rfl (lv_at hl 1 rfl) ?_
  refine lv_iload_n hx hb dL_share_5 rfl (lv_at hl 2 rfl) ?_
  refine lv_iload_n hx hb dL_share_6 rfl (lv_at hl 3 rfl) ?_
  refine lv_iload hx hb dL_share_7 (lv_at hl 4 rfl) ?_
  refine l_callX (As := [.int x1, .int x2, .int x3, .int x4]) (rest := [.int 0, .ref (a 90 0)]) C (vX8_share hfl h) hR hS ml_L_94 mw_X8_share rfl ⟨Nat.le_of_ble_eq_true rfl, Nat.le_of_ble_eq_true rfl, Nat.le_of_ble_eq_true rfl, Nat.le_of_ble_eq_true rfl⟩ hl.1 rfl (Nat.le_of_ble_eq_true rfl) dL_share_9 (fun hk a H locs q ce hag hR hS hq hv hc => ?_) (fun hk a H locs hag hR hS => ?_)
  · have hAL : ALo a0 a := fun r i h1 h2 h3 h4 => (hag r i h1 h2 h3).trans (hAL r i h1 h2 h3 h4)
    have hl : lv_has ls 7 [(0, .ref (a 8 0)), (1, .int x1), (2, .int x2), (3, .int x3), (4, .int x4), (5, .ref (a 90 0))] := by rw [hag 8 0 (by decide) (by decide) (by decide), hag 90 0 (by decide) (by decide) (by decide)]; exact hl
    rcases hz with ⟨hk0, hz0⟩ | ⟨hk0, hz0⟩ | ⟨hk0, hz0⟩ | ⟨hk0, hz0⟩
    · exact absurd hk0 hk
    · rw [hk0] at hc
      refine vx_catch (own := RL) (name := "java/util/NoSuchElementException") (E := xcl 2) C.2.2.2.1 [] ⟨0, 14, 17, 25⟩ [⟨0, 14, 21, 34⟩, ⟨0, 14, 25, 13⟩] (by rw [hT]; rfl) (fun z9 hz9 => absurd hz9 List.not_mem_nil) (by decide) (by decide) (C.2.2.2.2.1 _ cl_L_25) (l_cast2 C) hq hv hc ?_
      refine lv_astore (lv' := [(6, .ref q)]) hx hb dL_share_17 (lv_sub hl [] rfl) (by decide) rfl (fun ls hl => ?_)
      refine lv_iconst (v := 1) hx hb dL_share_19 (by decide) ?_
      subst hz0
      exact e_iretO hAL (fun q9 => absurd q9 (by decide)) C hr hR hS (Nat.le_of_ble_eq_true rfl) (Nat.le_of_ble_eq_true rfl) dL_share_20
    · rw [hk0] at hc
      refine vx_catch (own := RL) (name := "java/lang/IndexOutOfBoundsException") (E := xcl 3) C.2.2.2.1 [⟨0, 14, 17, 25⟩] ⟨0, 14, 21, 34⟩ [⟨0, 14, 25, 13⟩] (by rw [hT]; rfl) (fun z9 hz9 => by
        simp only [List.mem_cons, List.not_mem_nil, or_false] at hz9
        rcases hz9 with rfl
        · exact Or.inr ⟨by decide, _, C.2.2.2.2.1 _ cl_L_25, l_nc32 C⟩) (by decide) (by decide) (C.2.2.2.2.1 _ cl_L_34) (l_cast3 C) hq hv hc ?_
      refine lv_astore (lv' := [(6, .ref q)]) hx hb dL_share_21 (lv_sub hl [] rfl) (by decide) rfl (fun ls hl => ?_)
      refine lv_iconst (v := 2) hx hb dL_share_23 (by decide) ?_
      subst hz0
      exact e_iretO hAL (fun q9 => absurd q9 (by decide)) C hr hR hS (Nat.le_of_ble_eq_true rfl) (Nat.le_of_ble_eq_true rfl) dL_share_24
    · rw [hk0] at hc
      refine vx_catch (own := RL) (name := "java/lang/IllegalArgumentException") (E := xcl 1) C.2.2.2.1 [⟨0, 14, 17, 25⟩, ⟨0, 14, 21, 34⟩] ⟨0, 14, 25, 13⟩ [] (by rw [hT]; rfl) (fun z9 hz9 => by
        simp only [List.mem_cons, List.not_mem_nil, or_false] at hz9
        rcases hz9 with rfl | rfl
        · exact Or.inr ⟨by decide, _, C.2.2.2.2.1 _ cl_L_25, l_nc12 C⟩
        · exact Or.inr ⟨by decide, _, C.2.2.2.2.1 _ cl_L_34, l_nc13 C⟩) (by decide) (by decide) (C.2.2.2.2.1 _ cl_L_13) (l_cast1 C) hq hv hc ?_
      refine lv_astore (lv' := [(6, .ref q)]) hx hb dL_share_25 (lv_sub hl [] rfl) (by decide) rfl (fun ls hl => ?_)
      refine lv_iconst (v := 3) hx hb dL_share_27 (by decide) ?_
      subst hz0
      exact e_iretO hAL (fun q9 => absurd q9 (by decide)) C hr hR hS (Nat.le_of_ble_eq_true rfl) (Nat.le_of_ble_eq_true rfl) dL_share_28
  · have hAL : ALo a0 a := fun r i h1 h2 h3 h4 => (hag r i h1 h2 h3).trans (hAL r i h1 h2 h3 h4)
    have hl : lv_has ls 7 [(0, .ref (a 8 0)), (1, .int x1), (2, .int x2), (3, .int x3), (4, .int x4), (5, .ref (a 90 0))] := by rw [hag 8 0 (by decide) (by decide) (by decide), hag 90 0 (by decide) (by decide) (by decide)]; exact hl
    obtain rfl : z = 0 := by rcases hz with ⟨hk0, hz0⟩ | ⟨hk0, hz0⟩ | ⟨hk0, hz0⟩ | ⟨hk0, hz0⟩ <;> first | exact hz0 | exact absurd (hk.symm.trans hk0) (by decide)
    rw [← hag 90 0 (by decide) (by decide) (by decide)]
    refine lv_i2l (v := out.2.1.toInt64) hx hb dL_share_12 rfl ?_
    refine r_outst (x := out.2.1.toInt64) C hR hS dL_share_13 (fun H locs hR hS => ?_)
    refine lv_goto (tgt := 29) hx hb dL_share_14 (by decide) ?_
    refine lv_iconst (v := 0) hx hb dL_share_29 (by decide) ?_
    exact e_iretO (fun r i h1 h2 h3 h4 => (show upA a 92 0 _ r i = a r i from if_neg (fun q => h4 q.1)).trans (hAL r i h1 h2 h3 h4)) (fun _ => by rw [show upA a 92 0 _ 92 0 = _ from if_pos ⟨rfl, rfl⟩]) C hr hR hS (Nat.le_of_ble_eq_true rfl) (Nat.le_of_ble_eq_true rfl) dL_share_30
set_option maxHeartbeats 4000000 in
theorem vL_guessed {l : Launch} (hfl : l.stackTraces = false) {E : EV} {a0 : Nat → Nat → Nat} {u0 : HS} {x1 : Int32} {x2 : Int32} {x3 : Int32} {x4 : Int32} {out : Nat × Int32 × HS} {z : Int32} (h : mX8_guessed u0 x1 x2 x3 x4 = some out) (hz : (out.1 = 0 ∧ z = 0) ∨ (out.1 = 2 ∧ z = 1) ∨ (out.1 = 3 ∧ z = 2) ∨ (out.1 = 1 ∧ z = 3)) : CtH l E yL_guessed cL_guessed 7 [(0, 14, 17, 25), (0, 14, 21, 34), (0, 14, 25, 13)] 8 140 4 24 a0 u0 [.ref (a0 8 0), .int x1, .int x2, .int x3, .int x4, .ref (a0 90 0)] z out.2.1.toInt64 out.2.2 := by
  refine CtH.start (by decide) (Nat.le_of_ble_eq_true rfl) ?_
  intro p e s m args below meth c ls C hT hr hR hS hl
  have C : Cx E p s m args meth c cL_guessed 7 RL := C
  obtain ⟨a, hAL, hR, hl⟩ : ∃ a : Nat → Nat → Nat, ALo a0 a ∧ Rel E a u0 s.heap ∧ lv_has ls 7 [(0, .ref (a 8 0)), (1, .int x1), (2, .int x2), (3, .int x3), (4, .int x4), (5, .ref (a 90 0))] := ⟨a0, ALo.rf, hR, hl⟩
  have hx := C.1
  have hb := C.2.1
  refine lv_aload hx hb dL_guessed_0 (lv_at hl 5 rfl) ?_
  refine lv_iconst (v := 0) hx hb dL_guessed_2 (by decide) ?_
  refine lv_aload_n hx hb dL_guessed_3 rfl (lv_at hl 0 rfl) ?_
  refine lv_iload_n hx hb dL_guessed_4 rfl (lv_at hl 1 rfl) ?_
  refine lv_iload_n hx hb dL_guessed_5 rfl (lv_at hl 2 rfl) ?_
  refine lv_iload_n hx hb dL_guessed_6 rfl (lv_at hl 3 rfl) ?_
  refine lv_iload hx hb dL_guessed_7 (lv_at hl 4 rfl) ?_
  refine l_callX (As := [.int x1, .int x2, .int x3, .int x4]) (rest := [.int 0, .ref (a 90 0)]) C (vX8_guessed hfl h) hR hS ml_L_97 mw_X8_guessed rfl ⟨Nat.le_of_ble_eq_true rfl, Nat.le_of_ble_eq_true rfl, Nat.le_of_ble_eq_true rfl, Nat.le_of_ble_eq_true rfl⟩ hl.1 rfl (Nat.le_of_ble_eq_true rfl) dL_guessed_9 (fun hk a H locs q ce hag hR hS hq hv hc => ?_) (fun hk a H locs hag hR hS => ?_)
  · have hAL : ALo a0 a := fun r i h1 h2 h3 h4 => (hag r i h1 h2 h3).trans (hAL r i h1 h2 h3 h4)
    have hl : lv_has ls 7 [(0, .ref (a 8 0)), (1, .int x1), (2, .int x2), (3, .int x3), (4, .int x4), (5, .ref (a 90 0))] := by rw [hag 8 0 (by decide) (by decide) (by decide), hag 90 0 (by decide) (by decide) (by decide)]; exact hl
    rcases hz with ⟨hk0, hz0⟩ | ⟨hk0, hz0⟩ | ⟨hk0, hz0⟩ | ⟨hk0, hz0⟩
    · exact absurd hk0 hk
    · rw [hk0] at hc
      refine vx_catch (own := RL) (name := "java/util/NoSuchElementException") (E := xcl 2) C.2.2.2.1 [] ⟨0, 14, 17, 25⟩ [⟨0, 14, 21, 34⟩, ⟨0, 14, 25, 13⟩] (by rw [hT]; rfl) (fun z9 hz9 => absurd hz9 List.not_mem_nil) (by decide) (by decide) (C.2.2.2.2.1 _ cl_L_25) (l_cast2 C) hq hv hc ?_
      refine lv_astore (lv' := [(6, .ref q)]) hx hb dL_guessed_17 (lv_sub hl [] rfl) (by decide) rfl (fun ls hl => ?_)
      refine lv_iconst (v := 1) hx hb dL_guessed_19 (by decide) ?_
      subst hz0
      exact e_iretO hAL (fun q9 => absurd q9 (by decide)) C hr hR hS (Nat.le_of_ble_eq_true rfl) (Nat.le_of_ble_eq_true rfl) dL_guessed_20
    · rw [hk0] at hc
      refine vx_catch (own := RL) (name := "java/lang/IndexOutOfBoundsException") (E := xcl 3) C.2.2.2.1 [⟨0, 14, 17, 25⟩] ⟨0, 14, 21, 34⟩ [⟨0, 14, 25, 13⟩] (by rw [hT]; rfl) (fun z9 hz9 => by
        simp only [List.mem_cons, List.not_mem_nil, or_false] at hz9
        rcases hz9 with rfl
        · exact Or.inr ⟨by decide, _, C.2.2.2.2.1 _ cl_L_25, l_nc32 C⟩) (by decide) (by decide) (C.2.2.2.2.1 _ cl_L_34) (l_cast3 C) hq hv hc ?_
      refine lv_astore (lv' := [(6, .ref q)]) hx hb dL_guessed_21 (lv_sub hl [] rfl) (by decide) rfl (fun ls hl => ?_)
      refine lv_iconst (v := 2) hx hb dL_guessed_23 (by decide) ?_
      subst hz0
      exact e_iretO hAL (fun q9 => absurd q9 (by decide)) C hr hR hS (Nat.le_of_ble_eq_true rfl) (Nat.le_of_ble_eq_true rfl) dL_guessed_24
    · rw [hk0] at hc
      refine vx_catch (own := RL) (name := "java/lang/IllegalArgumentException") (E := xcl 1) C.2.2.2.1 [⟨0, 14, 17, 25⟩, ⟨0, 14, 21, 34⟩] ⟨0, 14, 25, 13⟩ [] (by rw [hT]; rfl) (fun z9 hz9 => by
        simp only [List.mem_cons, List.not_mem_nil, or_false] at hz9
        rcases hz9 with rfl | rfl
        · exact Or.inr ⟨by decide, _, C.2.2.2.2.1 _ cl_L_25, l_nc12 C⟩
        · exact Or.inr ⟨by decide, _, C.2.2.2.2.1 _ cl_L_34, l_nc13 C⟩) (by decide) (by decide) (C.2.2.2.2.1 _ cl_L_13) (l_cast1 C) hq hv hc ?_
      refine lv_astore (lv' := [(6, .ref q)]) hx hb dL_guessed_25 (lv_sub hl [] rfl) (by decide) rfl (fun ls hl => ?_)
      refine lv_iconst (v := 3) hx hb dL_guessed_27 (by decide) ?_
      subst hz0
      exact e_iretO hAL (fun q9 => absurd q9 (by decide)) C hr hR hS (Nat.le_of_ble_eq_true rfl) (Nat.le_of_ble_eq_true rfl) dL_guessed_28
  · have hAL : ALo a0 a := fun r i h1 h2 h3 h4 => (hag r i h1 h2 h3).trans (hAL r i h1 h2 h3 h4)
    have hl : lv_has ls 7 [(0, .ref (a 8 0)), (1, .int x1), (2, .int x2), (3, .int x3), (4, .int x4), (5, .ref (a 90 0))] := by rw [hag 8 0 (by decide) (by decide) (by decide), hag 90 0 (by decide) (by decide) (by decide)]; exact hl
    obtain rfl : z = 0 := by rcases hz with ⟨hk0, hz0⟩ | ⟨hk0, hz0⟩ | ⟨hk0, hz0⟩ | ⟨hk0, hz0⟩ <;> first | exact hz0 | exact absurd (hk.symm.trans hk0) (by decide)
    rw [← hag 90 0 (by decide) (by decide) (by decide)]
    refine lv_i2l (v := out.2.1.toInt64) hx hb dL_guessed_12 rfl ?_
    refine r_outst (x := out.2.1.toInt64) C hR hS dL_guessed_13 (fun H locs hR hS => ?_)
    refine lv_goto (tgt := 29) hx hb dL_guessed_14 (by decide) ?_
    refine lv_iconst (v := 0) hx hb dL_guessed_29 (by decide) ?_
    exact e_iretO (fun r i h1 h2 h3 h4 => (show upA a 92 0 _ r i = a r i from if_neg (fun q => h4 q.1)).trans (hAL r i h1 h2 h3 h4)) (fun _ => by rw [show upA a 92 0 _ 92 0 = _ from if_pos ⟨rfl, rfl⟩]) C hr hR hS (Nat.le_of_ble_eq_true rfl) (Nat.le_of_ble_eq_true rfl) dL_guessed_30
set_option maxHeartbeats 4000000 in
theorem vL_apart {l : Launch} (hfl : l.stackTraces = false) {E : EV} {a0 : Nat → Nat → Nat} {u0 : HS} {x1 : Int32} {x2 : Int32} {x3 : Int32} {x4 : Int32} {x5 : Int32} {x6 : Int32} {out : Nat × Int32 × HS} {z : Int32} (h : mX8_apart u0 x1 x2 x3 x4 x5 x6 = some out) (hz : (out.1 = 0 ∧ z = 0) ∨ (out.1 = 2 ∧ z = 1) ∨ (out.1 = 3 ∧ z = 2) ∨ (out.1 = 1 ∧ z = 3)) : CtH l E yL_apart cL_apart 9 [(0, 18, 21, 25), (0, 18, 25, 34), (0, 18, 29, 13)] 8 141 5 30 a0 u0 [.ref (a0 8 0), .int x1, .int x2, .int x3, .int x4, .int x5, .int x6, .ref (a0 90 0)] z out.2.1.toInt64 out.2.2 := by
  refine CtH.start (by decide) (Nat.le_of_ble_eq_true rfl) ?_
  intro p e s m args below meth c ls C hT hr hR hS hl
  have C : Cx E p s m args meth c cL_apart 9 RL := C
  obtain ⟨a, hAL, hR, hl⟩ : ∃ a : Nat → Nat → Nat, ALo a0 a ∧ Rel E a u0 s.heap ∧ lv_has ls 9 [(0, .ref (a 8 0)), (1, .int x1), (2, .int x2), (3, .int x3), (4, .int x4), (5, .int x5), (6, .int x6), (7, .ref (a 90 0))] := ⟨a0, ALo.rf, hR, hl⟩
  have hx := C.1
  have hb := C.2.1
  refine lv_aload hx hb dL_apart_0 (lv_at hl 7 rfl) ?_
  refine lv_iconst (v := 0) hx hb dL_apart_2 (by decide) ?_
  refine lv_aload_n hx hb dL_apart_3 rfl (lv_at hl 0 rfl) ?_
  refine lv_iload_n hx hb dL_apart_4 rfl (lv_at hl 1 rfl) ?_
  refine lv_iload_n hx hb dL_apart_5 rfl (lv_at hl 2 rfl) ?_
  refine lv_iload_n hx hb dL_apart_6 rfl (lv_at hl 3 rfl) ?_
  refine lv_iload hx hb dL_apart_7 (lv_at hl 4 rfl) ?_
  refine lv_iload hx hb dL_apart_9 (lv_at hl 5 rfl) ?_
  refine lv_iload hx hb dL_apart_11 (lv_at hl 6 rfl) ?_
  refine l_callX (As := [.int x1, .int x2, .int x3, .int x4, .int x5, .int x6]) (rest := [.int 0, .ref (a 90 0)]) C (vX8_apart hfl h) hR hS ml_L_100 mw_X8_apart rfl ⟨Nat.le_of_ble_eq_true rfl, Nat.le_of_ble_eq_true rfl, Nat.le_of_ble_eq_true rfl, Nat.le_of_ble_eq_true rfl⟩ hl.1 rfl (Nat.le_of_ble_eq_true rfl) dL_apart_13 (fun hk a H locs q ce hag hR hS hq hv hc => ?_) (fun hk a H locs hag hR hS => ?_)
  · have hAL : ALo a0 a := fun r i h1 h2 h3 h4 => (hag r i h1 h2 h3).trans (hAL r i h1 h2 h3 h4)
    have hl : lv_has ls 9 [(0, .ref (a 8 0)), (1, .int x1), (2, .int x2), (3, .int x3), (4, .int x4), (5, .int x5), (6, .int x6), (7, .ref (a 90 0))] := by rw [hag 8 0 (by decide) (by decide) (by decide), hag 90 0 (by decide) (by decide) (by decide)]; exact hl
    rcases hz with ⟨hk0, hz0⟩ | ⟨hk0, hz0⟩ | ⟨hk0, hz0⟩ | ⟨hk0, hz0⟩
    · exact absurd hk0 hk
    · rw [hk0] at hc
      refine vx_catch (own := RL) (name := "java/util/NoSuchElementException") (E := xcl 2) C.2.2.2.1 [] ⟨0, 18, 21, 25⟩ [⟨0, 18, 25, 34⟩, ⟨0, 18, 29, 13⟩] (by rw [hT]; rfl) (fun z9 hz9 => absurd hz9 List.not_mem_nil) (by decide) (by decide) (C.2.2.2.2.1 _ cl_L_25) (l_cast2 C) hq hv hc ?_
      refine lv_astore (lv' := [(8, .ref q)]) hx hb dL_apart_21 (lv_sub hl [] rfl) (by decide) rfl (fun ls hl => ?_)
      refine lv_iconst (v := 1) hx hb dL_apart_23 (by decide) ?_
      subst hz0
      exact e_iretO hAL (fun q9 => absurd q9 (by decide)) C hr hR hS (Nat.le_of_ble_eq_true rfl) (Nat.le_of_ble_eq_true rfl) dL_apart_24
    · rw [hk0] at hc
      refine vx_catch (own := RL) (name := "java/lang/IndexOutOfBoundsException") (E := xcl 3) C.2.2.2.1 [⟨0, 18, 21, 25⟩] ⟨0, 18, 25, 34⟩ [⟨0, 18, 29, 13⟩] (by rw [hT]; rfl) (fun z9 hz9 => by
        simp only [List.mem_cons, List.not_mem_nil, or_false] at hz9
        rcases hz9 with rfl
        · exact Or.inr ⟨by decide, _, C.2.2.2.2.1 _ cl_L_25, l_nc32 C⟩) (by decide) (by decide) (C.2.2.2.2.1 _ cl_L_34) (l_cast3 C) hq hv hc ?_
      refine lv_astore (lv' := [(8, .ref q)]) hx hb dL_apart_25 (lv_sub hl [] rfl) (by decide) rfl (fun ls hl => ?_)
      refine lv_iconst (v := 2) hx hb dL_apart_27 (by decide) ?_
      subst hz0
      exact e_iretO hAL (fun q9 => absurd q9 (by decide)) C hr hR hS (Nat.le_of_ble_eq_true rfl) (Nat.le_of_ble_eq_true rfl) dL_apart_28
    · rw [hk0] at hc
      refine vx_catch (own := RL) (name := "java/lang/IllegalArgumentException") (E := xcl 1) C.2.2.2.1 [⟨0, 18, 21, 25⟩, ⟨0, 18, 25, 34⟩] ⟨0, 18, 29, 13⟩ [] (by rw [hT]; rfl) (fun z9 hz9 => by
        simp only [List.mem_cons, List.not_mem_nil, or_false] at hz9
        rcases hz9 with rfl | rfl
        · exact Or.inr ⟨by decide, _, C.2.2.2.2.1 _ cl_L_25, l_nc12 C⟩
        · exact Or.inr ⟨by decide, _, C.2.2.2.2.1 _ cl_L_34, l_nc13 C⟩) (by decide) (by decide) (C.2.2.2.2.1 _ cl_L_13) (l_cast1 C) hq hv hc ?_
      refine lv_astore (lv' := [(8, .ref q)]) hx hb dL_apart_29 (lv_sub hl [] rfl) (by decide) rfl (fun ls hl => ?_)
      refine lv_iconst (v := 3) hx hb dL_apart_31 (by decide) ?_
      subst hz0
      exact e_iretO hAL (fun q9 => absurd q9 (by decide)) C hr hR hS (Nat.le_of_ble_eq_true rfl) (Nat.le_of_ble_eq_true rfl) dL_apart_32
  · have hAL : ALo a0 a := fun r i h1 h2 h3 h4 => (hag r i h1 h2 h3).trans (hAL r i h1 h2 h3 h4)
    have hl : lv_has ls 9 [(0, .ref (a 8 0)), (1, .int x1), (2, .int x2), (3, .int x3), (4, .int x4), (5, .int x5), (6, .int x6), (7, .ref (a 90 0))] := by rw [hag 8 0 (by decide) (by decide) (by decide), hag 90 0 (by decide) (by decide) (by decide)]; exact hl
    obtain rfl : z = 0 := by rcases hz with ⟨hk0, hz0⟩ | ⟨hk0, hz0⟩ | ⟨hk0, hz0⟩ | ⟨hk0, hz0⟩ <;> first | exact hz0 | exact absurd (hk.symm.trans hk0) (by decide)
    rw [← hag 90 0 (by decide) (by decide) (by decide)]
    refine lv_i2l (v := out.2.1.toInt64) hx hb dL_apart_16 rfl ?_
    refine r_outst (x := out.2.1.toInt64) C hR hS dL_apart_17 (fun H locs hR hS => ?_)
    refine lv_goto (tgt := 33) hx hb dL_apart_18 (by decide) ?_
    refine lv_iconst (v := 0) hx hb dL_apart_33 (by decide) ?_
    exact e_iretO (fun r i h1 h2 h3 h4 => (show upA a 92 0 _ r i = a r i from if_neg (fun q => h4 q.1)).trans (hAL r i h1 h2 h3 h4)) (fun _ => by rw [show upA a 92 0 _ 92 0 = _ from if_pos ⟨rfl, rfl⟩]) C hr hR hS (Nat.le_of_ble_eq_true rfl) (Nat.le_of_ble_eq_true rfl) dL_apart_34
set_option maxHeartbeats 4000000 in
theorem vL_gone {l : Launch} (hfl : l.stackTraces = false) {E : EV} {a0 : Nat → Nat → Nat} {u0 : HS} {x1 : Int32} {x2 : Int32} {x3 : Int32} {out : Nat × Int32 × HS} {z : Int32} (h : mX8_gone u0 x1 x2 x3 = some out) (hz : (out.1 = 0 ∧ z = 0) ∨ (out.1 = 2 ∧ z = 1) ∨ (out.1 = 3 ∧ z = 2) ∨ (out.1 = 1 ∧ z = 3)) : CtH l E yL_gone cL_gone 6 [(0, 12, 15, 25), (0, 12, 19, 34), (0, 12, 23, 13)] 8 136 3 18 a0 u0 [.ref (a0 8 0), .int x1, .int x2, .int x3, .ref (a0 90 0)] z out.2.1.toInt64 out.2.2 := by
  refine CtH.start (by decide) (Nat.le_of_ble_eq_true rfl) ?_
  intro p e s m args below meth c ls C hT hr hR hS hl
  have C : Cx E p s m args meth c cL_gone 6 RL := C
  obtain ⟨a, hAL, hR, hl⟩ : ∃ a : Nat → Nat → Nat, ALo a0 a ∧ Rel E a u0 s.heap ∧ lv_has ls 6 [(0, .ref (a 8 0)), (1, .int x1), (2, .int x2), (3, .int x3), (4, .ref (a 90 0))] := ⟨a0, ALo.rf, hR, hl⟩
  have hx := C.1
  have hb := C.2.1
  refine lv_aload hx hb dL_gone_0 (lv_at hl 4 rfl) ?_
  refine lv_iconst (v := 0) hx hb dL_gone_2 (by decide) ?_
  refine lv_aload_n hx hb dL_gone_3 rfl (lv_at hl 0 rfl) ?_
  refine lv_iload_n hx hb dL_gone_4 rfl (lv_at hl 1 rfl) ?_
  refine lv_iload_n hx hb dL_gone_5 rfl (lv_at hl 2 rfl) ?_
  refine lv_iload_n hx hb dL_gone_6 rfl (lv_at hl 3 rfl) ?_
  refine l_callX (As := [.int x1, .int x2, .int x3]) (rest := [.int 0, .ref (a 90 0)]) C (vX8_gone hfl h) hR hS ml_L_104 mw_X8_gone rfl ⟨Nat.le_of_ble_eq_true rfl, Nat.le_of_ble_eq_true rfl, Nat.le_of_ble_eq_true rfl, Nat.le_of_ble_eq_true rfl⟩ hl.1 rfl (Nat.le_of_ble_eq_true rfl) dL_gone_7 (fun hk a H locs q ce hag hR hS hq hv hc => ?_) (fun hk a H locs hag hR hS => ?_)
  · have hAL : ALo a0 a := fun r i h1 h2 h3 h4 => (hag r i h1 h2 h3).trans (hAL r i h1 h2 h3 h4)
    have hl : lv_has ls 6 [(0, .ref (a 8 0)), (1, .int x1), (2, .int x2), (3, .int x3), (4, .ref (a 90 0))] := by rw [hag 8 0 (by decide) (by decide) (by decide), hag 90 0 (by decide) (by decide) (by decide)]; exact hl
    rcases hz with ⟨hk0, hz0⟩ | ⟨hk0, hz0⟩ | ⟨hk0, hz0⟩ | ⟨hk0, hz0⟩
    · exact absurd hk0 hk
    · rw [hk0] at hc
      refine vx_catch (own := RL) (name := "java/util/NoSuchElementException") (E := xcl 2) C.2.2.2.1 [] ⟨0, 12, 15, 25⟩ [⟨0, 12, 19, 34⟩, ⟨0, 12, 23, 13⟩] (by rw [hT]; rfl) (fun z9 hz9 => absurd hz9 List.not_mem_nil) (by decide) (by decide) (C.2.2.2.2.1 _ cl_L_25) (l_cast2 C) hq hv hc ?_
      refine lv_astore (lv' := [(5, .ref q)]) hx hb dL_gone_15 (lv_sub hl [] rfl) (by decide) rfl (fun ls hl => ?_)
      refine lv_iconst (v := 1) hx hb dL_gone_17 (by decide) ?_
      subst hz0
      exact e_iretO hAL (fun q9 => absurd q9 (by decide)) C hr hR hS (Nat.le_of_ble_eq_true rfl) (Nat.le_of_ble_eq_true rfl) dL_gone_18
    · rw [hk0] at hc
      refine vx_catch (own := RL) (name := "java/lang/IndexOutOfBoundsException") (E := xcl 3) C.2.2.2.1 [⟨0, 12, 15, 25⟩] ⟨0, 12, 19, 34⟩ [⟨0, 12, 23, 13⟩] (by rw [hT]; rfl) (fun z9 hz9 => by
        simp only [List.mem_cons, List.not_mem_nil, or_false] at hz9
        rcases hz9 with rfl
        · exact Or.inr ⟨by decide, _, C.2.2.2.2.1 _ cl_L_25, l_nc32 C⟩) (by decide) (by decide) (C.2.2.2.2.1 _ cl_L_34) (l_cast3 C) hq hv hc ?_
      refine lv_astore (lv' := [(5, .ref q)]) hx hb dL_gone_19 (lv_sub hl [] rfl) (by decide) rfl (fun ls hl => ?_)
      refine lv_iconst (v := 2) hx hb dL_gone_21 (by decide) ?_
      subst hz0
      exact e_iretO hAL (fun q9 => absurd q9 (by decide)) C hr hR hS (Nat.le_of_ble_eq_true rfl) (Nat.le_of_ble_eq_true rfl) dL_gone_22
    · rw [hk0] at hc
      refine vx_catch (own := RL) (name := "java/lang/IllegalArgumentException") (E := xcl 1) C.2.2.2.1 [⟨0, 12, 15, 25⟩, ⟨0, 12, 19, 34⟩] ⟨0, 12, 23, 13⟩ [] (by rw [hT]; rfl) (fun z9 hz9 => by
        simp only [List.mem_cons, List.not_mem_nil, or_false] at hz9
        rcases hz9 with rfl | rfl
        · exact Or.inr ⟨by decide, _, C.2.2.2.2.1 _ cl_L_25, l_nc12 C⟩
        · exact Or.inr ⟨by decide, _, C.2.2.2.2.1 _ cl_L_34, l_nc13 C⟩) (by decide) (by decide) (C.2.2.2.2.1 _ cl_L_13) (l_cast1 C) hq hv hc ?_
      refine lv_astore (lv' := [(5, .ref q)]) hx hb dL_gone_23 (lv_sub hl [] rfl) (by decide) rfl (fun ls hl => ?_)
      refine lv_iconst (v := 3) hx hb dL_gone_25 (by decide) ?_
      subst hz0
      exact e_iretO hAL (fun q9 => absurd q9 (by decide)) C hr hR hS (Nat.le_of_ble_eq_true rfl) (Nat.le_of_ble_eq_true rfl) dL_gone_26
  · have hAL : ALo a0 a := fun r i h1 h2 h3 h4 => (hag r i h1 h2 h3).trans (hAL r i h1 h2 h3 h4)
    have hl : lv_has ls 6 [(0, .ref (a 8 0)), (1, .int x1), (2, .int x2), (3, .int x3), (4, .ref (a 90 0))] := by rw [hag 8 0 (by decide) (by decide) (by decide), hag 90 0 (by decide) (by decide) (by decide)]; exact hl
    obtain rfl : z = 0 := by rcases hz with ⟨hk0, hz0⟩ | ⟨hk0, hz0⟩ | ⟨hk0, hz0⟩ | ⟨hk0, hz0⟩ <;> first | exact hz0 | exact absurd (hk.symm.trans hk0) (by decide)
    rw [← hag 90 0 (by decide) (by decide) (by decide)]
    refine lv_i2l (v := out.2.1.toInt64) hx hb dL_gone_10 rfl ?_
    refine r_outst (x := out.2.1.toInt64) C hR hS dL_gone_11 (fun H locs hR hS => ?_)
    refine lv_goto (tgt := 27) hx hb dL_gone_12 (by decide) ?_
    refine lv_iconst (v := 0) hx hb dL_gone_27 (by decide) ?_
    exact e_iretO (fun r i h1 h2 h3 h4 => (show upA a 92 0 _ r i = a r i from if_neg (fun q => h4 q.1)).trans (hAL r i h1 h2 h3 h4)) (fun _ => by rw [show upA a 92 0 _ 92 0 = _ from if_pos ⟨rfl, rfl⟩]) C hr hR hS (Nat.le_of_ble_eq_true rfl) (Nat.le_of_ble_eq_true rfl) dL_gone_28
set_option maxHeartbeats 4000000 in
theorem vL_lost {l : Launch} (hfl : l.stackTraces = false) {E : EV} {a0 : Nat → Nat → Nat} {u0 : HS} {x1 : Int32} {out : Nat × Int32 × HS} {z : Int32} (h : mX8_lost u0 x1 = some out) (hz : (out.1 = 0 ∧ z = 0) ∨ (out.1 = 1 ∧ z = 1)) : CtH l E yL_lost cL_lost 4 [(0, 9, 12, 13)] 8 132 1 6 a0 u0 [.ref (a0 8 0), .int x1, .ref (a0 90 0)] z out.2.1.toInt64 out.2.2 := by
  refine CtH.start (by decide) (Nat.le_of_ble_eq_true rfl) ?_
  intro p e s m args below meth c ls C hT hr hR hS hl
  have C : Cx E p s m args meth c cL_lost 4 RL := C
  obtain ⟨a, hAL, hR, hl⟩ : ∃ a : Nat → Nat → Nat, ALo a0 a ∧ Rel E a u0 s.heap ∧ lv_has ls 4 [(0, .ref (a 8 0)), (1, .int x1), (2, .ref (a 90 0))] := ⟨a0, ALo.rf, hR, hl⟩
  have hx := C.1
  have hb := C.2.1
  refine lv_aload_n hx hb dL_lost_0 rfl (lv_at hl 2 rfl) ?_
  refine lv_iconst (v := 0) hx hb dL_lost_1 (by decide) ?_
  refine lv_aload_n hx hb dL_lost_2 rfl (lv_at hl 0 rfl) ?_
  refine lv_iload_n hx hb dL_lost_3 rfl (lv_at hl 1 rfl) ?_
  refine l_callX (As := [.int x1]) (rest := [.int 0, .ref (a 90 0)]) C (vX8_lost hfl h) hR hS ml_L_107 mw_X8_lost rfl ⟨Nat.le_of_ble_eq_true rfl, Nat.le_of_ble_eq_true rfl, Nat.le_of_ble_eq_true rfl, Nat.le_of_ble_eq_true rfl⟩ hl.1 rfl (Nat.le_of_ble_eq_true rfl) dL_lost_4 (fun hk a H locs q ce hag hR hS hq hv hc => ?_) (fun hk a H locs hag hR hS => ?_)
  · have hAL : ALo a0 a := fun r i h1 h2 h3 h4 => (hag r i h1 h2 h3).trans (hAL r i h1 h2 h3 h4)
    have hl : lv_has ls 4 [(0, .ref (a 8 0)), (1, .int x1), (2, .ref (a 90 0))] := by rw [hag 8 0 (by decide) (by decide) (by decide), hag 90 0 (by decide) (by decide) (by decide)]; exact hl
    rcases hz with ⟨hk0, hz0⟩ | ⟨hk0, hz0⟩
    · exact absurd hk0 hk
    · rw [hk0] at hc
      refine vx_catch (own := RL) (name := "java/lang/IllegalArgumentException") (E := xcl 1) C.2.2.2.1 [] ⟨0, 9, 12, 13⟩ [] (by rw [hT]; rfl) (fun z9 hz9 => absurd hz9 List.not_mem_nil) (by decide) (by decide) (C.2.2.2.2.1 _ cl_L_13) (l_cast1 C) hq hv hc ?_
      refine lv_astore_n (lv' := [(3, .ref q)]) hx hb dL_lost_12 rfl (lv_sub hl [] rfl) (by decide) rfl (fun ls hl => ?_)
      refine lv_iconst (v := 1) hx hb dL_lost_13 (by decide) ?_
      subst hz0
      exact e_iretO hAL (fun q9 => absurd q9 (by decide)) C hr hR hS (Nat.le_of_ble_eq_true rfl) (Nat.le_of_ble_eq_true rfl) dL_lost_14
  · have hAL : ALo a0 a := fun r i h1 h2 h3 h4 => (hag r i h1 h2 h3).trans (hAL r i h1 h2 h3 h4)
    have hl : lv_has ls 4 [(0, .ref (a 8 0)), (1, .int x1), (2, .ref (a 90 0))] := by rw [hag 8 0 (by decide) (by decide) (by decide), hag 90 0 (by decide) (by decide) (by decide)]; exact hl
    obtain rfl : z = 0 := by rcases hz with ⟨hk0, hz0⟩ | ⟨hk0, hz0⟩ <;> first | exact hz0 | exact absurd (hk.symm.trans hk0) (by decide)
    rw [← hag 90 0 (by decide) (by decide) (by decide)]
    refine lv_i2l (v := out.2.1.toInt64) hx hb dL_lost_7 rfl ?_
    refine r_outst (x := out.2.1.toInt64) C hR hS dL_lost_8 (fun H locs hR hS => ?_)
    refine lv_goto (tgt := 15) hx hb dL_lost_9 (by decide) ?_
    refine lv_iconst (v := 0) hx hb dL_lost_15 (by decide) ?_
    exact e_iretO (fun r i h1 h2 h3 h4 => (show upA a 92 0 _ r i = a r i from if_neg (fun q => h4 q.1)).trans (hAL r i h1 h2 h3 h4)) (fun _ => by rw [show upA a 92 0 _ 92 0 = _ from if_pos ⟨rfl, rfl⟩]) C hr hR hS (Nat.le_of_ble_eq_true rfl) (Nat.le_of_ble_eq_true rfl) dL_lost_16
set_option maxHeartbeats 4000000 in
theorem vL_cost {l : Launch} (hfl : l.stackTraces = false) {E : EV} {a0 : Nat → Nat → Nat} {u0 : HS} {x1 : Int32} {x2 : Int32} {x3 : Int32} {out : Nat × Int32 × HS} {z : Int32} (h : mX8_cost u0 x1 x2 x3 = some out) (hz : (out.1 = 0 ∧ z = 0) ∨ (out.1 = 2 ∧ z = 1) ∨ (out.1 = 3 ∧ z = 2)) : CtH l E yL_cost cL_cost 6 [(0, 12, 15, 25), (0, 12, 19, 34)] 8 134 3 18 a0 u0 [.ref (a0 8 0), .int x1, .int x2, .int x3, .ref (a0 90 0)] z out.2.1.toInt64 out.2.2 := by
  refine CtH.start (by decide) (Nat.le_of_ble_eq_true rfl) ?_
  intro p e s m args below meth c ls C hT hr hR hS hl
  have C : Cx E p s m args meth c cL_cost 6 RL := C
  obtain ⟨a, hAL, hR, hl⟩ : ∃ a : Nat → Nat → Nat, ALo a0 a ∧ Rel E a u0 s.heap ∧ lv_has ls 6 [(0, .ref (a 8 0)), (1, .int x1), (2, .int x2), (3, .int x3), (4, .ref (a 90 0))] := ⟨a0, ALo.rf, hR, hl⟩
  have hx := C.1
  have hb := C.2.1
  refine lv_aload hx hb dL_cost_0 (lv_at hl 4 rfl) ?_
  refine lv_iconst (v := 0) hx hb dL_cost_2 (by decide) ?_
  refine lv_aload_n hx hb dL_cost_3 rfl (lv_at hl 0 rfl) ?_
  refine lv_iload_n hx hb dL_cost_4 rfl (lv_at hl 1 rfl) ?_
  refine lv_iload_n hx hb dL_cost_5 rfl (lv_at hl 2 rfl) ?_
  refine lv_iload_n hx hb dL_cost_6 rfl (lv_at hl 3 rfl) ?_
  refine l_callX (As := [.int x1, .int x2, .int x3]) (rest := [.int 0, .ref (a 90 0)]) C (vX8_cost hfl h) hR hS ml_L_110 mw_X8_cost rfl ⟨Nat.le_of_ble_eq_true rfl, Nat.le_of_ble_eq_true rfl, Nat.le_of_ble_eq_true rfl, Nat.le_of_ble_eq_true rfl⟩ hl.1 rfl (Nat.le_of_ble_eq_true rfl) dL_cost_7 (fun hk a H locs q ce hag hR hS hq hv hc => ?_) (fun hk a H locs hag hR hS => ?_)
  · have hAL : ALo a0 a := fun r i h1 h2 h3 h4 => (hag r i h1 h2 h3).trans (hAL r i h1 h2 h3 h4)
    have hl : lv_has ls 6 [(0, .ref (a 8 0)), (1, .int x1), (2, .int x2), (3, .int x3), (4, .ref (a 90 0))] := by rw [hag 8 0 (by decide) (by decide) (by decide), hag 90 0 (by decide) (by decide) (by decide)]; exact hl
    rcases hz with ⟨hk0, hz0⟩ | ⟨hk0, hz0⟩ | ⟨hk0, hz0⟩
    · exact absurd hk0 hk
    · rw [hk0] at hc
      refine vx_catch (own := RL) (name := "java/util/NoSuchElementException") (E := xcl 2) C.2.2.2.1 [] ⟨0, 12, 15, 25⟩ [⟨0, 12, 19, 34⟩] (by rw [hT]; rfl) (fun z9 hz9 => absurd hz9 List.not_mem_nil) (by decide) (by decide) (C.2.2.2.2.1 _ cl_L_25) (l_cast2 C) hq hv hc ?_
      refine lv_astore (lv' := [(5, .ref q)]) hx hb dL_cost_15 (lv_sub hl [] rfl) (by decide) rfl (fun ls hl => ?_)
      refine lv_iconst (v := 1) hx hb dL_cost_17 (by decide) ?_
      subst hz0
      exact e_iretO hAL (fun q9 => absurd q9 (by decide)) C hr hR hS (Nat.le_of_ble_eq_true rfl) (Nat.le_of_ble_eq_true rfl) dL_cost_18
    · rw [hk0] at hc
      refine vx_catch (own := RL) (name := "java/lang/IndexOutOfBoundsException") (E := xcl 3) C.2.2.2.1 [⟨0, 12, 15, 25⟩] ⟨0, 12, 19, 34⟩ [] (by rw [hT]; rfl) (fun z9 hz9 => by
        simp only [List.mem_cons, List.not_mem_nil, or_false] at hz9
        rcases hz9 with rfl
        · exact Or.inr ⟨by decide, _, C.2.2.2.2.1 _ cl_L_25, l_nc32 C⟩) (by decide) (by decide) (C.2.2.2.2.1 _ cl_L_34) (l_cast3 C) hq hv hc ?_
      refine lv_astore (lv' := [(5, .ref q)]) hx hb dL_cost_19 (lv_sub hl [] rfl) (by decide) rfl (fun ls hl => ?_)
      refine lv_iconst (v := 2) hx hb dL_cost_21 (by decide) ?_
      subst hz0
      exact e_iretO hAL (fun q9 => absurd q9 (by decide)) C hr hR hS (Nat.le_of_ble_eq_true rfl) (Nat.le_of_ble_eq_true rfl) dL_cost_22
  · have hAL : ALo a0 a := fun r i h1 h2 h3 h4 => (hag r i h1 h2 h3).trans (hAL r i h1 h2 h3 h4)
    have hl : lv_has ls 6 [(0, .ref (a 8 0)), (1, .int x1), (2, .int x2), (3, .int x3), (4, .ref (a 90 0))] := by rw [hag 8 0 (by decide) (by decide) (by decide), hag 90 0 (by decide) (by decide) (by decide)]; exact hl
    obtain rfl : z = 0 := by rcases hz with ⟨hk0, hz0⟩ | ⟨hk0, hz0⟩ | ⟨hk0, hz0⟩ <;> first | exact hz0 | exact absurd (hk.symm.trans hk0) (by decide)
    rw [← hag 90 0 (by decide) (by decide) (by decide)]
    refine lv_i2l (v := out.2.1.toInt64) hx hb dL_cost_10 rfl ?_
    refine r_outst (x := out.2.1.toInt64) C hR hS dL_cost_11 (fun H locs hR hS => ?_)
    refine lv_goto (tgt := 23) hx hb dL_cost_12 (by decide) ?_
    refine lv_iconst (v := 0) hx hb dL_cost_23 (by decide) ?_
    exact e_iretO (fun r i h1 h2 h3 h4 => (show upA a 92 0 _ r i = a r i from if_neg (fun q => h4 q.1)).trans (hAL r i h1 h2 h3 h4)) (fun _ => by rw [show upA a 92 0 _ 92 0 = _ from if_pos ⟨rfl, rfl⟩]) C hr hR hS (Nat.le_of_ble_eq_true rfl) (Nat.le_of_ble_eq_true rfl) dL_cost_24
set_option maxHeartbeats 4000000 in
theorem vL_off {l : Launch} (hfl : l.stackTraces = false) {E : EV} {a0 : Nat → Nat → Nat} {u0 : HS} {x1 : Int32} {x2 : Int32} {x3 : Int32} {out : Nat × Int32 × HS} {z : Int32} (h : mX8_off u0 x1 x2 x3 = some out) (hz : (out.1 = 0 ∧ z = 0) ∨ (out.1 = 2 ∧ z = 1) ∨ (out.1 = 3 ∧ z = 2) ∨ (out.1 = 1 ∧ z = 3)) : CtH l E yL_off cL_off 6 [(0, 12, 15, 25), (0, 12, 19, 34), (0, 12, 23, 13)] 8 138 3 18 a0 u0 [.ref (a0 8 0), .int x1, .int x2, .int x3, .ref (a0 90 0)] z out.2.1.toInt64 out.2.2 := by
  refine CtH.start (by decide) (Nat.le_of_ble_eq_true rfl) ?_
  intro p e s m args below meth c ls C hT hr hR hS hl
  have C : Cx E p s m args meth c cL_off 6 RL := C
  obtain ⟨a, hAL, hR, hl⟩ : ∃ a : Nat → Nat → Nat, ALo a0 a ∧ Rel E a u0 s.heap ∧ lv_has ls 6 [(0, .ref (a 8 0)), (1, .int x1), (2, .int x2), (3, .int x3), (4, .ref (a 90 0))] := ⟨a0, ALo.rf, hR, hl⟩
  have hx := C.1
  have hb := C.2.1
  refine lv_aload hx hb dL_off_0 (lv_at hl 4 rfl) ?_
  refine lv_iconst (v := 0) hx hb dL_off_2 (by decide) ?_
  refine lv_aload_n hx hb dL_off_3 rfl (lv_at hl 0 rfl) ?_
  refine lv_iload_n hx hb dL_off_4 rfl (lv_at hl 1 rfl) ?_
  refine lv_iload_n hx hb dL_off_5 rfl (lv_at hl 2 rfl) ?_
  refine lv_iload_n hx hb dL_off_6 rfl (lv_at hl 3 rfl) ?_
  refine l_callX (As := [.int x1, .int x2, .int x3]) (rest := [.int 0, .ref (a 90 0)]) C (vX8_off hfl h) hR hS ml_L_113 mw_X8_off rfl ⟨Nat.le_of_ble_eq_true rfl, Nat.le_of_ble_eq_true rfl, Nat.le_of_ble_eq_true rfl, Nat.le_of_ble_eq_true rfl⟩ hl.1 rfl (Nat.le_of_ble_eq_true rfl) dL_off_7 (fun hk a H locs q ce hag hR hS hq hv hc => ?_) (fun hk a H locs hag hR hS => ?_)
  · have hAL : ALo a0 a := fun r i h1 h2 h3 h4 => (hag r i h1 h2 h3).trans (hAL r i h1 h2 h3 h4)
    have hl : lv_has ls 6 [(0, .ref (a 8 0)), (1, .int x1), (2, .int x2), (3, .int x3), (4, .ref (a 90 0))] := by rw [hag 8 0 (by decide) (by decide) (by decide), hag 90 0 (by decide) (by decide) (by decide)]; exact hl
    rcases hz with ⟨hk0, hz0⟩ | ⟨hk0, hz0⟩ | ⟨hk0, hz0⟩ | ⟨hk0, hz0⟩
    · exact absurd hk0 hk
    · rw [hk0] at hc
      refine vx_catch (own := RL) (name := "java/util/NoSuchElementException") (E := xcl 2) C.2.2.2.1 [] ⟨0, 12, 15, 25⟩ [⟨0, 12, 19, 34⟩, ⟨0, 12, 23, 13⟩] (by rw [hT]; rfl) (fun z9 hz9 => absurd hz9 List.not_mem_nil) (by decide) (by decide) (C.2.2.2.2.1 _ cl_L_25) (l_cast2 C) hq hv hc ?_
      refine lv_astore (lv' := [(5, .ref q)]) hx hb dL_off_15 (lv_sub hl [] rfl) (by decide) rfl (fun ls hl => ?_)
      refine lv_iconst (v := 1) hx hb dL_off_17 (by decide) ?_
      subst hz0
      exact e_iretO hAL (fun q9 => absurd q9 (by decide)) C hr hR hS (Nat.le_of_ble_eq_true rfl) (Nat.le_of_ble_eq_true rfl) dL_off_18
    · rw [hk0] at hc
      refine vx_catch (own := RL) (name := "java/lang/IndexOutOfBoundsException") (E := xcl 3) C.2.2.2.1 [⟨0, 12, 15, 25⟩] ⟨0, 12, 19, 34⟩ [⟨0, 12, 23, 13⟩] (by rw [hT]; rfl) (fun z9 hz9 => by
        simp only [List.mem_cons, List.not_mem_nil, or_false] at hz9
        rcases hz9 with rfl
        · exact Or.inr ⟨by decide, _, C.2.2.2.2.1 _ cl_L_25, l_nc32 C⟩) (by decide) (by decide) (C.2.2.2.2.1 _ cl_L_34) (l_cast3 C) hq hv hc ?_
      refine lv_astore (lv' := [(5, .ref q)]) hx hb dL_off_19 (lv_sub hl [] rfl) (by decide) rfl (fun ls hl => ?_)
      refine lv_iconst (v := 2) hx hb dL_off_21 (by decide) ?_
      subst hz0
      exact e_iretO hAL (fun q9 => absurd q9 (by decide)) C hr hR hS (Nat.le_of_ble_eq_true rfl) (Nat.le_of_ble_eq_true rfl) dL_off_22
    · rw [hk0] at hc
      refine vx_catch (own := RL) (name := "java/lang/IllegalArgumentException") (E := xcl 1) C.2.2.2.1 [⟨0, 12, 15, 25⟩, ⟨0, 12, 19, 34⟩] ⟨0, 12, 23, 13⟩ [] (by rw [hT]; rfl) (fun z9 hz9 => by
        simp only [List.mem_cons, List.not_mem_nil, or_false] at hz9
        rcases hz9 with rfl | rfl
        · exact Or.inr ⟨by decide, _, C.2.2.2.2.1 _ cl_L_25, l_nc12 C⟩
        · exact Or.inr ⟨by decide, _, C.2.2.2.2.1 _ cl_L_34, l_nc13 C⟩) (by decide) (by decide) (C.2.2.2.2.1 _ cl_L_13) (l_cast1 C) hq hv hc ?_
      refine lv_astore (lv' := [(5, .ref q)]) hx hb dL_off_23 (lv_sub hl [] rfl) (by decide) rfl (fun ls hl => ?_)
      refine lv_iconst (v := 3) hx hb dL_off_25 (by decide) ?_
      subst hz0
      exact e_iretO hAL (fun q9 => absurd q9 (by decide)) C hr hR hS (Nat.le_of_ble_eq_true rfl) (Nat.le_of_ble_eq_true rfl) dL_off_26
  · have hAL : ALo a0 a := fun r i h1 h2 h3 h4 => (hag r i h1 h2 h3).trans (hAL r i h1 h2 h3 h4)
    have hl : lv_has ls 6 [(0, .ref (a 8 0)), (1, .int x1), (2, .int x2), (3, .int x3), (4, .ref (a 90 0))] := by rw [hag 8 0 (by decide) (by decide) (by decide), hag 90 0 (by decide) (by decide) (by decide)]; exact hl
    obtain rfl : z = 0 := by rcases hz with ⟨hk0, hz0⟩ | ⟨hk0, hz0⟩ | ⟨hk0, hz0⟩ | ⟨hk0, hz0⟩ <;> first | exact hz0 | exact absurd (hk.symm.trans hk0) (by decide)
    rw [← hag 90 0 (by decide) (by decide) (by decide)]
    refine lv_i2l (v := out.2.1.toInt64) hx hb dL_off_10 rfl ?_
    refine r_outst (x := out.2.1.toInt64) C hR hS dL_off_11 (fun H locs hR hS => ?_)
    refine lv_goto (tgt := 27) hx hb dL_off_12 (by decide) ?_
    refine lv_iconst (v := 0) hx hb dL_off_27 (by decide) ?_
    exact e_iretO (fun r i h1 h2 h3 h4 => (show upA a 92 0 _ r i = a r i from if_neg (fun q => h4 q.1)).trans (hAL r i h1 h2 h3 h4)) (fun _ => by rw [show upA a 92 0 _ 92 0 = _ from if_pos ⟨rfl, rfl⟩]) C hr hR hS (Nat.le_of_ble_eq_true rfl) (Nat.le_of_ble_eq_true rfl) dL_off_28
set_option maxHeartbeats 4000000 in
theorem vL_weigh {l : Launch} (hfl : l.stackTraces = false) {E : EV} {a0 : Nat → Nat → Nat} {u0 : HS} {x1 : Int32} {x2 : Int32} {out : Nat × Int32 × HS} {z : Int32} (h : mX8_weigh u0 x1 x2 = some out) (hz : (out.1 = 0 ∧ z = 0) ∨ (out.1 = 3 ∧ z = 1) ∨ (out.1 = 1 ∧ z = 2)) : CtH l E yL_weigh cL_weigh 5 [(0, 10, 13, 34), (0, 10, 17, 13)] 8 134 2 12 a0 u0 [.ref (a0 8 0), .int x1, .int x2, .ref (a0 90 0)] z out.2.1.toInt64 out.2.2 := by
  refine CtH.start (by decide) (Nat.le_of_ble_eq_true rfl) ?_
  intro p e s m args below meth c ls C hT hr hR hS hl
  have C : Cx E p s m args meth c cL_weigh 5 RL := C
  obtain ⟨a, hAL, hR, hl⟩ : ∃ a : Nat → Nat → Nat, ALo a0 a ∧ Rel E a u0 s.heap ∧ lv_has ls 5 [(0, .ref (a 8 0)), (1, .int x1), (2, .int x2), (3, .ref (a 90 0))] := ⟨a0, ALo.rf, hR, hl⟩
  have hx := C.1
  have hb := C.2.1
  refine lv_aload_n hx hb dL_weigh_0 rfl (lv_at hl 3 rfl) ?_
  refine lv_iconst (v := 0) hx hb dL_weigh_1 (by decide) ?_
  refine lv_aload_n hx hb dL_weigh_2 rfl (lv_at hl 0 rfl) ?_
  refine lv_iload_n hx hb dL_weigh_3 rfl (lv_at hl 1 rfl) ?_
  refine lv_iload_n hx hb dL_weigh_4 rfl (lv_at hl 2 rfl) ?_
  refine l_callX (As := [.int x1, .int x2]) (rest := [.int 0, .ref (a 90 0)]) C (vX8_weigh hfl h) hR hS ml_L_116 mw_X8_weigh rfl ⟨Nat.le_of_ble_eq_true rfl, Nat.le_of_ble_eq_true rfl, Nat.le_of_ble_eq_true rfl, Nat.le_of_ble_eq_true rfl⟩ hl.1 rfl (Nat.le_of_ble_eq_true rfl) dL_weigh_5 (fun hk a H locs q ce hag hR hS hq hv hc => ?_) (fun hk a H locs hag hR hS => ?_)
  · have hAL : ALo a0 a := fun r i h1 h2 h3 h4 => (hag r i h1 h2 h3).trans (hAL r i h1 h2 h3 h4)
    have hl : lv_has ls 5 [(0, .ref (a 8 0)), (1, .int x1), (2, .int x2), (3, .ref (a 90 0))] := by rw [hag 8 0 (by decide) (by decide) (by decide), hag 90 0 (by decide) (by decide) (by decide)]; exact hl
    rcases hz with ⟨hk0, hz0⟩ | ⟨hk0, hz0⟩ | ⟨hk0, hz0⟩
    · exact absurd hk0 hk
    · rw [hk0] at hc
      refine vx_catch (own := RL) (name := "java/lang/IndexOutOfBoundsException") (E := xcl 3) C.2.2.2.1 [] ⟨0, 10, 13, 34⟩ [⟨0, 10, 17, 13⟩] (by rw [hT]; rfl) (fun z9 hz9 => absurd hz9 List.not_mem_nil) (by decide) (by decide) (C.2.2.2.2.1 _ cl_L_34) (l_cast3 C) hq hv hc ?_
      refine lv_astore (lv' := [(4, .ref q)]) hx hb dL_weigh_13 (lv_sub hl [] rfl) (by decide) rfl (fun ls hl => ?_)
      refine lv_iconst (v := 1) hx hb dL_weigh_15 (by decide) ?_
      subst hz0
      exact e_iretO hAL (fun q9 => absurd q9 (by decide)) C hr hR hS (Nat.le_of_ble_eq_true rfl) (Nat.le_of_ble_eq_true rfl) dL_weigh_16
    · rw [hk0] at hc
      refine vx_catch (own := RL) (name := "java/lang/IllegalArgumentException") (E := xcl 1) C.2.2.2.1 [⟨0, 10, 13, 34⟩] ⟨0, 10, 17, 13⟩ [] (by rw [hT]; rfl) (fun z9 hz9 => by
        simp only [List.mem_cons, List.not_mem_nil, or_false] at hz9
        rcases hz9 with rfl
        · exact Or.inr ⟨by decide, _, C.2.2.2.2.1 _ cl_L_34, l_nc13 C⟩) (by decide) (by decide) (C.2.2.2.2.1 _ cl_L_13) (l_cast1 C) hq hv hc ?_
      refine lv_astore (lv' := [(4, .ref q)]) hx hb dL_weigh_17 (lv_sub hl [] rfl) (by decide) rfl (fun ls hl => ?_)
      refine lv_iconst (v := 2) hx hb dL_weigh_19 (by decide) ?_
      subst hz0
      exact e_iretO hAL (fun q9 => absurd q9 (by decide)) C hr hR hS (Nat.le_of_ble_eq_true rfl) (Nat.le_of_ble_eq_true rfl) dL_weigh_20
  · have hAL : ALo a0 a := fun r i h1 h2 h3 h4 => (hag r i h1 h2 h3).trans (hAL r i h1 h2 h3 h4)
    have hl : lv_has ls 5 [(0, .ref (a 8 0)), (1, .int x1), (2, .int x2), (3, .ref (a 90 0))] := by rw [hag 8 0 (by decide) (by decide) (by decide), hag 90 0 (by decide) (by decide) (by decide)]; exact hl
    obtain rfl : z = 0 := by rcases hz with ⟨hk0, hz0⟩ | ⟨hk0, hz0⟩ | ⟨hk0, hz0⟩ <;> first | exact hz0 | exact absurd (hk.symm.trans hk0) (by decide)
    rw [← hag 90 0 (by decide) (by decide) (by decide)]
    refine lv_i2l (v := out.2.1.toInt64) hx hb dL_weigh_8 rfl ?_
    refine r_outst (x := out.2.1.toInt64) C hR hS dL_weigh_9 (fun H locs hR hS => ?_)
    refine lv_goto (tgt := 21) hx hb dL_weigh_10 (by decide) ?_
    refine lv_iconst (v := 0) hx hb dL_weigh_21 (by decide) ?_
    exact e_iretO (fun r i h1 h2 h3 h4 => (show upA a 92 0 _ r i = a r i from if_neg (fun q => h4 q.1)).trans (hAL r i h1 h2 h3 h4)) (fun _ => by rw [show upA a 92 0 _ 92 0 = _ from if_pos ⟨rfl, rfl⟩]) C hr hR hS (Nat.le_of_ble_eq_true rfl) (Nat.le_of_ble_eq_true rfl) dL_weigh_22
set_option maxHeartbeats 4000000 in
theorem vL_wrong {l : Launch} (hfl : l.stackTraces = false) {E : EV} {a0 : Nat → Nat → Nat} {u0 : HS} {x1 : Int32} {out : Nat × Int32 × HS} {z : Int32} (h : mX8_wrong u0 x1 = some out) (hz : (out.1 = 0 ∧ z = 0) ∨ (out.1 = 1 ∧ z = 1)) : CtH l E yL_wrong cL_wrong 4 [(0, 9, 12, 13)] 8 132 1 6 a0 u0 [.ref (a0 8 0), .int x1, .ref (a0 90 0)] z out.2.1.toInt64 out.2.2 := by
  refine CtH.start (by decide) (Nat.le_of_ble_eq_true rfl) ?_
  intro p e s m args below meth c ls C hT hr hR hS hl
  have C : Cx E p s m args meth c cL_wrong 4 RL := C
  obtain ⟨a, hAL, hR, hl⟩ : ∃ a : Nat → Nat → Nat, ALo a0 a ∧ Rel E a u0 s.heap ∧ lv_has ls 4 [(0, .ref (a 8 0)), (1, .int x1), (2, .ref (a 90 0))] := ⟨a0, ALo.rf, hR, hl⟩
  have hx := C.1
  have hb := C.2.1
  refine lv_aload_n hx hb dL_wrong_0 rfl (lv_at hl 2 rfl) ?_
  refine lv_iconst (v := 0) hx hb dL_wrong_1 (by decide) ?_
  refine lv_aload_n hx hb dL_wrong_2 rfl (lv_at hl 0 rfl) ?_
  refine lv_iload_n hx hb dL_wrong_3 rfl (lv_at hl 1 rfl) ?_
  refine l_callX (As := [.int x1]) (rest := [.int 0, .ref (a 90 0)]) C (vX8_wrong hfl h) hR hS ml_L_119 mw_X8_wrong rfl ⟨Nat.le_of_ble_eq_true rfl, Nat.le_of_ble_eq_true rfl, Nat.le_of_ble_eq_true rfl, Nat.le_of_ble_eq_true rfl⟩ hl.1 rfl (Nat.le_of_ble_eq_true rfl) dL_wrong_4 (fun hk a H locs q ce hag hR hS hq hv hc => ?_) (fun hk a H locs hag hR hS => ?_)
  · have hAL : ALo a0 a := fun r i h1 h2 h3 h4 => (hag r i h1 h2 h3).trans (hAL r i h1 h2 h3 h4)
    have hl : lv_has ls 4 [(0, .ref (a 8 0)), (1, .int x1), (2, .ref (a 90 0))] := by rw [hag 8 0 (by decide) (by decide) (by decide), hag 90 0 (by decide) (by decide) (by decide)]; exact hl
    rcases hz with ⟨hk0, hz0⟩ | ⟨hk0, hz0⟩
    · exact absurd hk0 hk
    · rw [hk0] at hc
      refine vx_catch (own := RL) (name := "java/lang/IllegalArgumentException") (E := xcl 1) C.2.2.2.1 [] ⟨0, 9, 12, 13⟩ [] (by rw [hT]; rfl) (fun z9 hz9 => absurd hz9 List.not_mem_nil) (by decide) (by decide) (C.2.2.2.2.1 _ cl_L_13) (l_cast1 C) hq hv hc ?_
      refine lv_astore_n (lv' := [(3, .ref q)]) hx hb dL_wrong_12 rfl (lv_sub hl [] rfl) (by decide) rfl (fun ls hl => ?_)
      refine lv_iconst (v := 1) hx hb dL_wrong_13 (by decide) ?_
      subst hz0
      exact e_iretO hAL (fun q9 => absurd q9 (by decide)) C hr hR hS (Nat.le_of_ble_eq_true rfl) (Nat.le_of_ble_eq_true rfl) dL_wrong_14
  · have hAL : ALo a0 a := fun r i h1 h2 h3 h4 => (hag r i h1 h2 h3).trans (hAL r i h1 h2 h3 h4)
    have hl : lv_has ls 4 [(0, .ref (a 8 0)), (1, .int x1), (2, .ref (a 90 0))] := by rw [hag 8 0 (by decide) (by decide) (by decide), hag 90 0 (by decide) (by decide) (by decide)]; exact hl
    obtain rfl : z = 0 := by rcases hz with ⟨hk0, hz0⟩ | ⟨hk0, hz0⟩ <;> first | exact hz0 | exact absurd (hk.symm.trans hk0) (by decide)
    rw [← hag 90 0 (by decide) (by decide) (by decide)]
    refine lv_i2l (v := out.2.1.toInt64) hx hb dL_wrong_7 rfl ?_
    refine r_outst (x := out.2.1.toInt64) C hR hS dL_wrong_8 (fun H locs hR hS => ?_)
    refine lv_goto (tgt := 15) hx hb dL_wrong_9 (by decide) ?_
    refine lv_iconst (v := 0) hx hb dL_wrong_15 (by decide) ?_
    exact e_iretO (fun r i h1 h2 h3 h4 => (show upA a 92 0 _ r i = a r i from if_neg (fun q => h4 q.1)).trans (hAL r i h1 h2 h3 h4)) (fun _ => by rw [show upA a 92 0 _ 92 0 = _ from if_pos ⟨rfl, rfl⟩]) C hr hR hS (Nat.le_of_ble_eq_true rfl) (Nat.le_of_ble_eq_true rfl) dL_wrong_16
set_option maxHeartbeats 4000000 in
theorem vL_odds {l : Launch} (hfl : l.stackTraces = false) {E : EV} {a0 : Nat → Nat → Nat} {u0 : HS} {x1 : Int32} {out : Nat × Int64 × HS} {z : Int32} (h : mX8_odds u0 x1 = some out) (hz : (out.1 = 0 ∧ z = 0) ∨ (out.1 = 3 ∧ z = 1)) : CtH l E yL_odds cL_odds 4 [(0, 8, 11, 34)] 8 191 1 6 a0 u0 [.ref (a0 8 0), .int x1, .ref (a0 90 0)] z out.2.1 out.2.2 := by
  refine CtH.start (by decide) (Nat.le_of_ble_eq_true rfl) ?_
  intro p e s m args below meth c ls C hT hr hR hS hl
  have C : Cx E p s m args meth c cL_odds 4 RL := C
  obtain ⟨a, hAL, hR, hl⟩ : ∃ a : Nat → Nat → Nat, ALo a0 a ∧ Rel E a u0 s.heap ∧ lv_has ls 4 [(0, .ref (a 8 0)), (1, .int x1), (2, .ref (a 90 0))] := ⟨a0, ALo.rf, hR, hl⟩
  have hx := C.1
  have hb := C.2.1
  refine lv_aload_n hx hb dL_odds_0 rfl (lv_at hl 2 rfl) ?_
  refine lv_iconst (v := 0) hx hb dL_odds_1 (by decide) ?_
  refine lv_aload_n hx hb dL_odds_2 rfl (lv_at hl 0 rfl) ?_
  refine lv_iload_n hx hb dL_odds_3 rfl (lv_at hl 1 rfl) ?_
  refine l_callX (As := [.int x1]) (rest := [.int 0, .ref (a 90 0)]) C (vX8_odds hfl h) hR hS ml_L_122 mw_X8_odds rfl ⟨Nat.le_of_ble_eq_true rfl, Nat.le_of_ble_eq_true rfl, Nat.le_of_ble_eq_true rfl, Nat.le_of_ble_eq_true rfl⟩ hl.1 rfl (Nat.le_of_ble_eq_true rfl) dL_odds_4 (fun hk a H locs q ce hag hR hS hq hv hc => ?_) (fun hk a H locs hag hR hS => ?_)
  · have hAL : ALo a0 a := fun r i h1 h2 h3 h4 => (hag r i h1 h2 h3).trans (hAL r i h1 h2 h3 h4)
    have hl : lv_has ls 4 [(0, .ref (a 8 0)), (1, .int x1), (2, .ref (a 90 0))] := by rw [hag 8 0 (by decide) (by decide) (by decide), hag 90 0 (by decide) (by decide) (by decide)]; exact hl
    rcases hz with ⟨hk0, hz0⟩ | ⟨hk0, hz0⟩
    · exact absurd hk0 hk
    · rw [hk0] at hc
      refine vx_catch (own := RL) (name := "java/lang/IndexOutOfBoundsException") (E := xcl 3) C.2.2.2.1 [] ⟨0, 8, 11, 34⟩ [] (by rw [hT]; rfl) (fun z9 hz9 => absurd hz9 List.not_mem_nil) (by decide) (by decide) (C.2.2.2.2.1 _ cl_L_34) (l_cast3 C) hq hv hc ?_
      refine lv_astore_n (lv' := [(3, .ref q)]) hx hb dL_odds_11 rfl (lv_sub hl [] rfl) (by decide) rfl (fun ls hl => ?_)
      refine lv_iconst (v := 1) hx hb dL_odds_12 (by decide) ?_
      subst hz0
      exact e_iretO hAL (fun q9 => absurd q9 (by decide)) C hr hR hS (Nat.le_of_ble_eq_true rfl) (Nat.le_of_ble_eq_true rfl) dL_odds_13
  · have hAL : ALo a0 a := fun r i h1 h2 h3 h4 => (hag r i h1 h2 h3).trans (hAL r i h1 h2 h3 h4)
    have hl : lv_has ls 4 [(0, .ref (a 8 0)), (1, .int x1), (2, .ref (a 90 0))] := by rw [hag 8 0 (by decide) (by decide) (by decide), hag 90 0 (by decide) (by decide) (by decide)]; exact hl
    obtain rfl : z = 0 := by rcases hz with ⟨hk0, hz0⟩ | ⟨hk0, hz0⟩ <;> first | exact hz0 | exact absurd (hk.symm.trans hk0) (by decide)
    rw [← hag 90 0 (by decide) (by decide) (by decide)]
    refine r_outst (x := out.2.1) C hR hS dL_odds_7 (fun H locs hR hS => ?_)
    refine lv_goto (tgt := 14) hx hb dL_odds_8 (by decide) ?_
    refine lv_iconst (v := 0) hx hb dL_odds_14 (by decide) ?_
    exact e_iretO (fun r i h1 h2 h3 h4 => (show upA a 92 0 _ r i = a r i from if_neg (fun q => h4 q.1)).trans (hAL r i h1 h2 h3 h4)) (fun _ => by rw [show upA a 92 0 _ 92 0 = _ from if_pos ⟨rfl, rfl⟩]) C hr hR hS (Nat.le_of_ble_eq_true rfl) (Nat.le_of_ble_eq_true rfl) dL_odds_15
set_option maxHeartbeats 4000000 in
theorem vL_fits {l : Launch} (hfl : l.stackTraces = false) {E : EV} {a0 : Nat → Nat → Nat} {u0 : HS} {x1 : Int32} {out : Nat × Int32 × HS} {z : Int32} (h : mX8_fits u0 x1 = some out) (hz : (out.1 = 0 ∧ z = 0) ∨ (out.1 = 1 ∧ z = 1)) : CtH l E yL_fits cL_fits 4 [(0, 9, 12, 13)] 8 191 1 6 a0 u0 [.ref (a0 8 0), .int x1, .ref (a0 90 0)] z out.2.1.toInt64 out.2.2 := by
  refine CtH.start (by decide) (Nat.le_of_ble_eq_true rfl) ?_
  intro p e s m args below meth c ls C hT hr hR hS hl
  have C : Cx E p s m args meth c cL_fits 4 RL := C
  obtain ⟨a, hAL, hR, hl⟩ : ∃ a : Nat → Nat → Nat, ALo a0 a ∧ Rel E a u0 s.heap ∧ lv_has ls 4 [(0, .ref (a 8 0)), (1, .int x1), (2, .ref (a 90 0))] := ⟨a0, ALo.rf, hR, hl⟩
  have hx := C.1
  have hb := C.2.1
  refine lv_aload_n hx hb dL_fits_0 rfl (lv_at hl 2 rfl) ?_
  refine lv_iconst (v := 0) hx hb dL_fits_1 (by decide) ?_
  refine lv_aload_n hx hb dL_fits_2 rfl (lv_at hl 0 rfl) ?_
  refine lv_iload_n hx hb dL_fits_3 rfl (lv_at hl 1 rfl) ?_
  refine l_callX (As := [.int x1]) (rest := [.int 0, .ref (a 90 0)]) C (vX8_fits hfl h) hR hS ml_L_126 mw_X8_fits rfl ⟨Nat.le_of_ble_eq_true rfl, Nat.le_of_ble_eq_true rfl, Nat.le_of_ble_eq_true rfl, Nat.le_of_ble_eq_true rfl⟩ hl.1 rfl (Nat.le_of_ble_eq_true rfl) dL_fits_4 (fun hk a H locs q ce hag hR hS hq hv hc => ?_) (fun hk a H locs hag hR hS => ?_)
  · have hAL : ALo a0 a := fun r i h1 h2 h3 h4 => (hag r i h1 h2 h3).trans (hAL r i h1 h2 h3 h4)
    have hl : lv_has ls 4 [(0, .ref (a 8 0)), (1, .int x1), (2, .ref (a 90 0))] := by rw [hag 8 0 (by decide) (by decide) (by decide), hag 90 0 (by decide) (by decide) (by decide)]; exact hl
    rcases hz with ⟨hk0, hz0⟩ | ⟨hk0, hz0⟩
    · exact absurd hk0 hk
    · rw [hk0] at hc
      refine vx_catch (own := RL) (name := "java/lang/IllegalArgumentException") (E := xcl 1) C.2.2.2.1 [] ⟨0, 9, 12, 13⟩ [] (by rw [hT]; rfl) (fun z9 hz9 => absurd hz9 List.not_mem_nil) (by decide) (by decide) (C.2.2.2.2.1 _ cl_L_13) (l_cast1 C) hq hv hc ?_
      refine lv_astore_n (lv' := [(3, .ref q)]) hx hb dL_fits_12 rfl (lv_sub hl [] rfl) (by decide) rfl (fun ls hl => ?_)
      refine lv_iconst (v := 1) hx hb dL_fits_13 (by decide) ?_
      subst hz0
      exact e_iretO hAL (fun q9 => absurd q9 (by decide)) C hr hR hS (Nat.le_of_ble_eq_true rfl) (Nat.le_of_ble_eq_true rfl) dL_fits_14
  · have hAL : ALo a0 a := fun r i h1 h2 h3 h4 => (hag r i h1 h2 h3).trans (hAL r i h1 h2 h3 h4)
    have hl : lv_has ls 4 [(0, .ref (a 8 0)), (1, .int x1), (2, .ref (a 90 0))] := by rw [hag 8 0 (by decide) (by decide) (by decide), hag 90 0 (by decide) (by decide) (by decide)]; exact hl
    obtain rfl : z = 0 := by rcases hz with ⟨hk0, hz0⟩ | ⟨hk0, hz0⟩ <;> first | exact hz0 | exact absurd (hk.symm.trans hk0) (by decide)
    rw [← hag 90 0 (by decide) (by decide) (by decide)]
    refine lv_i2l (v := out.2.1.toInt64) hx hb dL_fits_7 rfl ?_
    refine r_outst (x := out.2.1.toInt64) C hR hS dL_fits_8 (fun H locs hR hS => ?_)
    refine lv_goto (tgt := 15) hx hb dL_fits_9 (by decide) ?_
    refine lv_iconst (v := 0) hx hb dL_fits_15 (by decide) ?_
    exact e_iretO (fun r i h1 h2 h3 h4 => (show upA a 92 0 _ r i = a r i from if_neg (fun q => h4 q.1)).trans (hAL r i h1 h2 h3 h4)) (fun _ => by rw [show upA a 92 0 _ 92 0 = _ from if_pos ⟨rfl, rfl⟩]) C hr hR hS (Nat.le_of_ble_eq_true rfl) (Nat.le_of_ble_eq_true rfl) dL_fits_16
set_option maxHeartbeats 4000000 in
theorem vL_knowing {l : Launch} (hfl : l.stackTraces = false) {E : EV} {a0 : Nat → Nat → Nat} {u0 : HS} {x1 : Int32} {x2 : Int32} {out : Nat × Int32 × HS} {z : Int32} (h : mX8_knowing u0 x1 x2 = some out) (hz : (out.1 = 0 ∧ z = 0) ∨ (out.1 = 3 ∧ z = 1) ∨ (out.1 = 1 ∧ z = 2)) : CtH l E yL_knowing cL_knowing 5 [(0, 10, 13, 34), (0, 10, 17, 13)] 8 169 2 12 a0 u0 [.ref (a0 8 0), .int x1, .int x2, .ref (a0 90 0)] z out.2.1.toInt64 out.2.2 := by
  refine CtH.start (by decide) (Nat.le_of_ble_eq_true rfl) ?_
  intro p e s m args below meth c ls C hT hr hR hS hl
  have C : Cx E p s m args meth c cL_knowing 5 RL := C
  obtain ⟨a, hAL, hR, hl⟩ : ∃ a : Nat → Nat → Nat, ALo a0 a ∧ Rel E a u0 s.heap ∧ lv_has ls 5 [(0, .ref (a 8 0)), (1, .int x1), (2, .int x2), (3, .ref (a 90 0))] := ⟨a0, ALo.rf, hR, hl⟩
  have hx := C.1
  have hb := C.2.1
  refine lv_aload_n hx hb dL_knowing_0 rfl (lv_at hl 3 rfl) ?_
  refine lv_iconst (v := 0) hx hb dL_knowing_1 (by decide) ?_
  refine lv_aload_n hx hb dL_knowing_2 rfl (lv_at hl 0 rfl) ?_
  refine lv_iload_n hx hb dL_knowing_3 rfl (lv_at hl 1 rfl) ?_
  refine lv_iload_n hx hb dL_knowing_4 rfl (lv_at hl 2 rfl) ?_
  refine l_callX (As := [.int x1, .int x2]) (rest := [.int 0, .ref (a 90 0)]) C (vX8_knowing hfl h) hR hS ml_L_129 mw_X8_knowing rfl ⟨Nat.le_of_ble_eq_true rfl, Nat.le_of_ble_eq_true rfl, Nat.le_of_ble_eq_true rfl, Nat.le_of_ble_eq_true rfl⟩ hl.1 rfl (Nat.le_of_ble_eq_true rfl) dL_knowing_5 (fun hk a H locs q ce hag hR hS hq hv hc => ?_) (fun hk a H locs hag hR hS => ?_)
  · have hAL : ALo a0 a := fun r i h1 h2 h3 h4 => (hag r i h1 h2 h3).trans (hAL r i h1 h2 h3 h4)
    have hl : lv_has ls 5 [(0, .ref (a 8 0)), (1, .int x1), (2, .int x2), (3, .ref (a 90 0))] := by rw [hag 8 0 (by decide) (by decide) (by decide), hag 90 0 (by decide) (by decide) (by decide)]; exact hl
    rcases hz with ⟨hk0, hz0⟩ | ⟨hk0, hz0⟩ | ⟨hk0, hz0⟩
    · exact absurd hk0 hk
    · rw [hk0] at hc
      refine vx_catch (own := RL) (name := "java/lang/IndexOutOfBoundsException") (E := xcl 3) C.2.2.2.1 [] ⟨0, 10, 13, 34⟩ [⟨0, 10, 17, 13⟩] (by rw [hT]; rfl) (fun z9 hz9 => absurd hz9 List.not_mem_nil) (by decide) (by decide) (C.2.2.2.2.1 _ cl_L_34) (l_cast3 C) hq hv hc ?_
      refine lv_astore (lv' := [(4, .ref q)]) hx hb dL_knowing_13 (lv_sub hl [] rfl) (by decide) rfl (fun ls hl => ?_)
      refine lv_iconst (v := 1) hx hb dL_knowing_15 (by decide) ?_
      subst hz0
      exact e_iretO hAL (fun q9 => absurd q9 (by decide)) C hr hR hS (Nat.le_of_ble_eq_true rfl) (Nat.le_of_ble_eq_true rfl) dL_knowing_16
    · rw [hk0] at hc
      refine vx_catch (own := RL) (name := "java/lang/IllegalArgumentException") (E := xcl 1) C.2.2.2.1 [⟨0, 10, 13, 34⟩] ⟨0, 10, 17, 13⟩ [] (by rw [hT]; rfl) (fun z9 hz9 => by
        simp only [List.mem_cons, List.not_mem_nil, or_false] at hz9
        rcases hz9 with rfl
        · exact Or.inr ⟨by decide, _, C.2.2.2.2.1 _ cl_L_34, l_nc13 C⟩) (by decide) (by decide) (C.2.2.2.2.1 _ cl_L_13) (l_cast1 C) hq hv hc ?_
      refine lv_astore (lv' := [(4, .ref q)]) hx hb dL_knowing_17 (lv_sub hl [] rfl) (by decide) rfl (fun ls hl => ?_)
      refine lv_iconst (v := 2) hx hb dL_knowing_19 (by decide) ?_
      subst hz0
      exact e_iretO hAL (fun q9 => absurd q9 (by decide)) C hr hR hS (Nat.le_of_ble_eq_true rfl) (Nat.le_of_ble_eq_true rfl) dL_knowing_20
  · have hAL : ALo a0 a := fun r i h1 h2 h3 h4 => (hag r i h1 h2 h3).trans (hAL r i h1 h2 h3 h4)
    have hl : lv_has ls 5 [(0, .ref (a 8 0)), (1, .int x1), (2, .int x2), (3, .ref (a 90 0))] := by rw [hag 8 0 (by decide) (by decide) (by decide), hag 90 0 (by decide) (by decide) (by decide)]; exact hl
    obtain rfl : z = 0 := by rcases hz with ⟨hk0, hz0⟩ | ⟨hk0, hz0⟩ | ⟨hk0, hz0⟩ <;> first | exact hz0 | exact absurd (hk.symm.trans hk0) (by decide)
    rw [← hag 90 0 (by decide) (by decide) (by decide)]
    refine lv_i2l (v := out.2.1.toInt64) hx hb dL_knowing_8 rfl ?_
    refine r_outst (x := out.2.1.toInt64) C hR hS dL_knowing_9 (fun H locs hR hS => ?_)
    refine lv_goto (tgt := 21) hx hb dL_knowing_10 (by decide) ?_
    refine lv_iconst (v := 0) hx hb dL_knowing_21 (by decide) ?_
    exact e_iretO (fun r i h1 h2 h3 h4 => (show upA a 92 0 _ r i = a r i from if_neg (fun q => h4 q.1)).trans (hAL r i h1 h2 h3 h4)) (fun _ => by rw [show upA a 92 0 _ 92 0 = _ from if_pos ⟨rfl, rfl⟩]) C hr hR hS (Nat.le_of_ble_eq_true rfl) (Nat.le_of_ble_eq_true rfl) dL_knowing_22
set_option maxHeartbeats 4000000 in
theorem vL_crossing {l : Launch} (hfl : l.stackTraces = false) {E : EV} {a0 : Nat → Nat → Nat} {u0 : HS} {x1 : Int32} {x2 : Int32} {x3 : Int32} {x4 : Int32} {out : Nat × Int32 × HS} {z : Int32} (h : mX8_crossing u0 x1 x2 x3 x4 = some out) (hz : (out.1 = 0 ∧ z = 0) ∨ (out.1 = 2 ∧ z = 1) ∨ (out.1 = 3 ∧ z = 2) ∨ (out.1 = 1 ∧ z = 3)) : CtH l E yL_crossing cL_crossing 7 [(0, 14, 17, 25), (0, 14, 21, 34), (0, 14, 25, 13)] 8 197 3 18 a0 u0 [.ref (a0 8 0), .int x1, .int x2, .int x3, .int x4, .ref (a0 90 0)] z out.2.1.toInt64 out.2.2 := by
  refine CtH.start (by decide) (Nat.le_of_ble_eq_true rfl) ?_
  intro p e s m args below meth c ls C hT hr hR hS hl
  have C : Cx E p s m args meth c cL_crossing 7 RL := C
  obtain ⟨a, hAL, hR, hl⟩ : ∃ a : Nat → Nat → Nat, ALo a0 a ∧ Rel E a u0 s.heap ∧ lv_has ls 7 [(0, .ref (a 8 0)), (1, .int x1), (2, .int x2), (3, .int x3), (4, .int x4), (5, .ref (a 90 0))] := ⟨a0, ALo.rf, hR, hl⟩
  have hx := C.1
  have hb := C.2.1
  refine lv_aload hx hb dL_crossing_0 (lv_at hl 5 rfl) ?_
  refine lv_iconst (v := 0) hx hb dL_crossing_2 (by decide) ?_
  refine lv_aload_n hx hb dL_crossing_3 rfl (lv_at hl 0 rfl) ?_
  refine lv_iload_n hx hb dL_crossing_4 rfl (lv_at hl 1 rfl) ?_
  refine lv_iload_n hx hb dL_crossing_5 rfl (lv_at hl 2 rfl) ?_
  refine lv_iload_n hx hb dL_crossing_6 rfl (lv_at hl 3 rfl) ?_
  refine lv_iload hx hb dL_crossing_7 (lv_at hl 4 rfl) ?_
  refine l_callX (As := [.int x1, .int x2, .int x3, .int x4]) (rest := [.int 0, .ref (a 90 0)]) C (vX8_crossing hfl h) hR hS ml_L_132 mw_X8_crossing rfl ⟨Nat.le_of_ble_eq_true rfl, Nat.le_of_ble_eq_true rfl, Nat.le_of_ble_eq_true rfl, Nat.le_of_ble_eq_true rfl⟩ hl.1 rfl (Nat.le_of_ble_eq_true rfl) dL_crossing_9 (fun hk a H locs q ce hag hR hS hq hv hc => ?_) (fun hk a H locs hag hR hS => ?_)
  · have hAL : ALo a0 a := fun r i h1 h2 h3 h4 => (hag r i h1 h2 h3).trans (hAL r i h1 h2 h3 h4)
    have hl : lv_has ls 7 [(0, .ref (a 8 0)), (1, .int x1), (2, .int x2), (3, .int x3), (4, .int x4), (5, .ref (a 90 0))] := by rw [hag 8 0 (by decide) (by decide) (by decide), hag 90 0 (by decide) (by decide) (by decide)]; exact hl
    rcases hz with ⟨hk0, hz0⟩ | ⟨hk0, hz0⟩ | ⟨hk0, hz0⟩ | ⟨hk0, hz0⟩
    · exact absurd hk0 hk
    · rw [hk0] at hc
      refine vx_catch (own := RL) (name := "java/util/NoSuchElementException") (E := xcl 2) C.2.2.2.1 [] ⟨0, 14, 17, 25⟩ [⟨0, 14, 21, 34⟩, ⟨0, 14, 25, 13⟩] (by rw [hT]; rfl) (fun z9 hz9 => absurd hz9 List.not_mem_nil) (by decide) (by decide) (C.2.2.2.2.1 _ cl_L_25) (l_cast2 C) hq hv hc ?_
      refine lv_astore (lv' := [(6, .ref q)]) hx hb dL_crossing_17 (lv_sub hl [] rfl) (by decide) rfl (fun ls hl => ?_)
      refine lv_iconst (v := 1) hx hb dL_crossing_19 (by decide) ?_
      subst hz0
      exact e_iretO hAL (fun q9 => absurd q9 (by decide)) C hr hR hS (Nat.le_of_ble_eq_true rfl) (Nat.le_of_ble_eq_true rfl) dL_crossing_20
    · rw [hk0] at hc
      refine vx_catch (own := RL) (name := "java/lang/IndexOutOfBoundsException") (E := xcl 3) C.2.2.2.1 [⟨0, 14, 17, 25⟩] ⟨0, 14, 21, 34⟩ [⟨0, 14, 25, 13⟩] (by rw [hT]; rfl) (fun z9 hz9 => by
        simp only [List.mem_cons, List.not_mem_nil, or_false] at hz9
        rcases hz9 with rfl
        · exact Or.inr ⟨by decide, _, C.2.2.2.2.1 _ cl_L_25, l_nc32 C⟩) (by decide) (by decide) (C.2.2.2.2.1 _ cl_L_34) (l_cast3 C) hq hv hc ?_
      refine lv_astore (lv' := [(6, .ref q)]) hx hb dL_crossing_21 (lv_sub hl [] rfl) (by decide) rfl (fun ls hl => ?_)
      refine lv_iconst (v := 2) hx hb dL_crossing_23 (by decide) ?_
      subst hz0
      exact e_iretO hAL (fun q9 => absurd q9 (by decide)) C hr hR hS (Nat.le_of_ble_eq_true rfl) (Nat.le_of_ble_eq_true rfl) dL_crossing_24
    · rw [hk0] at hc
      refine vx_catch (own := RL) (name := "java/lang/IllegalArgumentException") (E := xcl 1) C.2.2.2.1 [⟨0, 14, 17, 25⟩, ⟨0, 14, 21, 34⟩] ⟨0, 14, 25, 13⟩ [] (by rw [hT]; rfl) (fun z9 hz9 => by
        simp only [List.mem_cons, List.not_mem_nil, or_false] at hz9
        rcases hz9 with rfl | rfl
        · exact Or.inr ⟨by decide, _, C.2.2.2.2.1 _ cl_L_25, l_nc12 C⟩
        · exact Or.inr ⟨by decide, _, C.2.2.2.2.1 _ cl_L_34, l_nc13 C⟩) (by decide) (by decide) (C.2.2.2.2.1 _ cl_L_13) (l_cast1 C) hq hv hc ?_
      refine lv_astore (lv' := [(6, .ref q)]) hx hb dL_crossing_25 (lv_sub hl [] rfl) (by decide) rfl (fun ls hl => ?_)
      refine lv_iconst (v := 3) hx hb dL_crossing_27 (by decide) ?_
      subst hz0
      exact e_iretO hAL (fun q9 => absurd q9 (by decide)) C hr hR hS (Nat.le_of_ble_eq_true rfl) (Nat.le_of_ble_eq_true rfl) dL_crossing_28
  · have hAL : ALo a0 a := fun r i h1 h2 h3 h4 => (hag r i h1 h2 h3).trans (hAL r i h1 h2 h3 h4)
    have hl : lv_has ls 7 [(0, .ref (a 8 0)), (1, .int x1), (2, .int x2), (3, .int x3), (4, .int x4), (5, .ref (a 90 0))] := by rw [hag 8 0 (by decide) (by decide) (by decide), hag 90 0 (by decide) (by decide) (by decide)]; exact hl
    obtain rfl : z = 0 := by rcases hz with ⟨hk0, hz0⟩ | ⟨hk0, hz0⟩ | ⟨hk0, hz0⟩ | ⟨hk0, hz0⟩ <;> first | exact hz0 | exact absurd (hk.symm.trans hk0) (by decide)
    rw [← hag 90 0 (by decide) (by decide) (by decide)]
    refine lv_i2l (v := out.2.1.toInt64) hx hb dL_crossing_12 rfl ?_
    refine r_outst (x := out.2.1.toInt64) C hR hS dL_crossing_13 (fun H locs hR hS => ?_)
    refine lv_goto (tgt := 29) hx hb dL_crossing_14 (by decide) ?_
    refine lv_iconst (v := 0) hx hb dL_crossing_29 (by decide) ?_
    exact e_iretO (fun r i h1 h2 h3 h4 => (show upA a 92 0 _ r i = a r i from if_neg (fun q => h4 q.1)).trans (hAL r i h1 h2 h3 h4)) (fun _ => by rw [show upA a 92 0 _ 92 0 = _ from if_pos ⟨rfl, rfl⟩]) C hr hR hS (Nat.le_of_ble_eq_true rfl) (Nat.le_of_ble_eq_true rfl) dL_crossing_30
