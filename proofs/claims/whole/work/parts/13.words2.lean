theorem fl_X0_9 : Cond.fieldLink RX0 9 (TTf 0 0).1 (TTf 0 0).2.1 (TTf 0 0).2.2.1 ∈ GW := gw_t 130 (by decide +kernel) (by decide +kernel)
theorem fl_X0_15 : Cond.fieldLink RX0 15 (TTf 0 1).1 (TTf 0 1).2.1 (TTf 0 1).2.2.1 ∈ GW := gw_t 132 (by decide +kernel) (by decide +kernel)
theorem fl_X0_19 : Cond.fieldLink RX0 19 (TTf 0 2).1 (TTf 0 2).2.1 (TTf 0 2).2.2.1 ∈ GW := gw_t 134 (by decide +kernel) (by decide +kernel)
theorem fl_X0_22 : Cond.fieldLink RX0 22 (TTf 0 3).1 (TTf 0 3).2.1 (TTf 0 3).2.2.1 ∈ GW := gw_t 136 (by decide +kernel) (by decide +kernel)
theorem fl_X0_25 : Cond.fieldLink RX0 25 (TTf 0 4).1 (TTf 0 4).2.1 (TTf 0 4).2.2.1 ∈ GW := gw_t 137 (by decide +kernel) (by decide +kernel)
theorem fl_X0_28 : Cond.fieldLink RX0 28 (TTf 0 5).1 (TTf 0 5).2.1 (TTf 0 5).2.2.1 ∈ GW := gw_t 139 (by decide +kernel) (by decide +kernel)
theorem fl_X0_31 : Cond.fieldLink RX0 31 (TTf 0 6).1 (TTf 0 6).2.1 (TTf 0 6).2.2.1 ∈ GW := gw_t 141 (by decide +kernel) (by decide +kernel)
theorem fl_X0_34 : Cond.fieldLink RX0 34 (TTf 0 7).1 (TTf 0 7).2.1 (TTf 0 7).2.2.1 ∈ GW := gw_t 143 (by decide +kernel) (by decide +kernel)
theorem fl_X0_37 : Cond.fieldLink RX0 37 (TTf 0 8).1 (TTf 0 8).2.1 (TTf 0 8).2.2.1 ∈ GW := gw_t 146 (by decide +kernel) (by decide +kernel)
theorem fl_X0_40 : Cond.fieldLink RX0 40 (TTf 0 9).1 (TTf 0 9).2.1 (TTf 0 9).2.2.1 ∈ GW := gw_t 148 (by decide +kernel) (by decide +kernel)
theorem fl_X0_43 : Cond.fieldLink RX0 43 (TTf 0 10).1 (TTf 0 10).2.1 (TTf 0 10).2.2.1 ∈ GW := gw_t 150 (by decide +kernel) (by decide +kernel)
theorem fl_X0_46 : Cond.fieldLink RX0 46 (TTf 0 11).1 (TTf 0 11).2.1 (TTf 0 11).2.2.1 ∈ GW := gw_t 152 (by decide +kernel) (by decide +kernel)
theorem fl_X0_49 : Cond.fieldLink RX0 49 (TTf 0 12).1 (TTf 0 12).2.1 (TTf 0 12).2.2.1 ∈ GW := gw_t 155 (by decide +kernel) (by decide +kernel)
theorem fl_X0_52 : Cond.fieldLink RX0 52 (TTf 0 13).1 (TTf 0 13).2.1 (TTf 0 13).2.2.1 ∈ GW := gw_t 157 (by decide +kernel) (by decide +kernel)
theorem fl_X0_55 : Cond.fieldLink RX0 55 (TTf 0 14).1 (TTf 0 14).2.1 (TTf 0 14).2.2.1 ∈ GW := gw_t 159 (by decide +kernel) (by decide +kernel)
theorem fl_X0_58 : Cond.fieldLink RX0 58 (TTf 0 15).1 (TTf 0 15).2.1 (TTf 0 15).2.2.1 ∈ GW := gw_t 161 (by decide +kernel) (by decide +kernel)
theorem fl_X0_61 : Cond.fieldLink RX0 61 (TTf 0 16).1 (TTf 0 16).2.1 (TTf 0 16).2.2.1 ∈ GW := gw_t 163 (by decide +kernel) (by decide +kernel)
theorem fl_X1_9 : Cond.fieldLink RX1 9 (TTf 1 0).1 (TTf 1 0).2.1 (TTf 1 0).2.2.1 ∈ GW := gw_t 83 (by decide +kernel) (by decide +kernel)
theorem fl_X1_15 : Cond.fieldLink RX1 15 (TTf 1 1).1 (TTf 1 1).2.1 (TTf 1 1).2.2.1 ∈ GW := gw_t 85 (by decide +kernel) (by decide +kernel)
theorem fl_X2_12 : Cond.fieldLink RX2 12 (TTf 2 1).1 (TTf 2 1).2.1 (TTf 2 1).2.2.1 ∈ GW := gw_t 118 (by decide +kernel) (by decide +kernel)
theorem fl_X2_18 : Cond.fieldLink RX2 18 (TTf 2 0).1 (TTf 2 0).2.1 (TTf 2 0).2.2.1 ∈ GW := gw_t 117 (by decide +kernel) (by decide +kernel)
theorem fl_X2_22 : Cond.fieldLink RX2 22 (TTf 1 1).1 (TTf 1 1).2.1 (TTf 1 1).2.2.1 ∈ GW := gw_t 86 (by decide +kernel) (by decide +kernel)
theorem fl_X2_26 : Cond.fieldLink RX2 26 (TTf 1 2).1 (TTf 1 2).2.1 (TTf 1 2).2.2.1 ∈ GW := gw_t 88 (by decide +kernel) (by decide +kernel)
theorem fl_X2_47 : Cond.fieldLink RX2 47 (TTf 1 3).1 (TTf 1 3).2.1 (TTf 1 3).2.2.1 ∈ GW := gw_t 91 (by decide +kernel) (by decide +kernel)
theorem fl_X2_51 : Cond.fieldLink RX2 51 (TTf 1 4).1 (TTf 1 4).2.1 (TTf 1 4).2.2.1 ∈ GW := gw_t 94 (by decide +kernel) (by decide +kernel)
theorem fl_X2_133 : Cond.fieldLink RX2 133 (TTf 5 4).1 (TTf 5 4).2.1 (TTf 5 4).2.2.1 ∈ GW := gw_t 44 (by decide +kernel) (by decide +kernel)
theorem fl_X3_9 : Cond.fieldLink RX3 9 (TTf 3 0).1 (TTf 3 0).2.1 (TTf 3 0).2.2.1 ∈ GW := gw_t 213 (by decide +kernel) (by decide +kernel)
theorem fl_X3_15 : Cond.fieldLink RX3 15 (TTf 3 1).1 (TTf 3 1).2.1 (TTf 3 1).2.2.1 ∈ GW := gw_t 215 (by decide +kernel) (by decide +kernel)
theorem fl_X3_19 : Cond.fieldLink RX3 19 (TTf 3 2).1 (TTf 3 2).2.1 (TTf 3 2).2.2.1 ∈ GW := gw_t 216 (by decide +kernel) (by decide +kernel)
theorem fl_X3_22 : Cond.fieldLink RX3 22 (TTf 3 3).1 (TTf 3 3).2.1 (TTf 3 3).2.2.1 ∈ GW := gw_t 219 (by decide +kernel) (by decide +kernel)
theorem fl_X3_25 : Cond.fieldLink RX3 25 (TTf 3 4).1 (TTf 3 4).2.1 (TTf 3 4).2.2.1 ∈ GW := gw_t 221 (by decide +kernel) (by decide +kernel)
theorem fl_X3_28 : Cond.fieldLink RX3 28 (TTf 3 5).1 (TTf 3 5).2.1 (TTf 3 5).2.2.1 ∈ GW := gw_t 222 (by decide +kernel) (by decide +kernel)
theorem fl_X3_31 : Cond.fieldLink RX3 31 (TTf 3 6).1 (TTf 3 6).2.1 (TTf 3 6).2.2.1 ∈ GW := gw_t 225 (by decide +kernel) (by decide +kernel)
theorem fl_X3_34 : Cond.fieldLink RX3 34 (TTf 3 7).1 (TTf 3 7).2.1 (TTf 3 7).2.2.1 ∈ GW := gw_t 227 (by decide +kernel) (by decide +kernel)
theorem fl_X3_37 : Cond.fieldLink RX3 37 (TTf 3 8).1 (TTf 3 8).2.1 (TTf 3 8).2.2.1 ∈ GW := gw_t 228 (by decide +kernel) (by decide +kernel)
theorem fl_X3_40 : Cond.fieldLink RX3 40 (TTf 3 9).1 (TTf 3 9).2.1 (TTf 3 9).2.2.1 ∈ GW := gw_t 229 (by decide +kernel) (by decide +kernel)
theorem fl_X3_43 : Cond.fieldLink RX3 43 (TTf 3 10).1 (TTf 3 10).2.1 (TTf 3 10).2.2.1 ∈ GW := gw_t 233 (by decide +kernel) (by decide +kernel)
theorem fl_X3_46 : Cond.fieldLink RX3 46 (TTf 3 11).1 (TTf 3 11).2.1 (TTf 3 11).2.2.1 ∈ GW := gw_t 235 (by decide +kernel) (by decide +kernel)
theorem fl_X3_49 : Cond.fieldLink RX3 49 (TTf 3 12).1 (TTf 3 12).2.1 (TTf 3 12).2.2.1 ∈ GW := gw_t 239 (by decide +kernel) (by decide +kernel)
theorem fl_X3_52 : Cond.fieldLink RX3 52 (TTf 3 13).1 (TTf 3 13).2.1 (TTf 3 13).2.2.1 ∈ GW := gw_t 240 (by decide +kernel) (by decide +kernel)
theorem fl_X3_90 : Cond.fieldLink RX3 90 (TTf 5 4).1 (TTf 5 4).2.1 (TTf 5 4).2.2.1 ∈ GW := gw_t 43 (by decide +kernel) (by decide +kernel)
theorem fl_X4_11 : Cond.fieldLink RX4 11 (TTf 4 1).1 (TTf 4 1).2.1 (TTf 4 1).2.2.1 ∈ GW := gw_t 345 (by decide +kernel) (by decide +kernel)
theorem fl_X4_15 : Cond.fieldLink RX4 15 (TTf 4 2).1 (TTf 4 2).2.1 (TTf 4 2).2.2.1 ∈ GW := gw_t 346 (by decide +kernel) (by decide +kernel)
theorem fl_X4_19 : Cond.fieldLink RX4 19 (TTf 4 3).1 (TTf 4 3).2.1 (TTf 4 3).2.2.1 ∈ GW := gw_t 347 (by decide +kernel) (by decide +kernel)
theorem fl_X4_22 : Cond.fieldLink RX4 22 (TTf 4 4).1 (TTf 4 4).2.1 (TTf 4 4).2.2.1 ∈ GW := gw_t 348 (by decide +kernel) (by decide +kernel)
theorem fl_X4_25 : Cond.fieldLink RX4 25 (TTf 4 5).1 (TTf 4 5).2.1 (TTf 4 5).2.2.1 ∈ GW := gw_t 349 (by decide +kernel) (by decide +kernel)
theorem fl_X4_29 : Cond.fieldLink RX4 29 (TTf 4 0).1 (TTf 4 0).2.1 (TTf 4 0).2.2.1 ∈ GW := gw_t 344 (by decide +kernel) (by decide +kernel)
theorem fl_X4_33 : Cond.fieldLink RX4 33 (TTf 1 0).1 (TTf 1 0).2.1 (TTf 1 0).2.2.1 ∈ GW := gw_t 84 (by decide +kernel) (by decide +kernel)
theorem fl_X4_38 : Cond.fieldLink RX4 38 (TTf 7 5).1 (TTf 7 5).2.1 (TTf 7 5).2.2.1 ∈ GW := gw_t 310 (by decide +kernel) (by decide +kernel)
theorem fl_X4_47 : Cond.fieldLink RX4 47 (TTf 1 2).1 (TTf 1 2).2.1 (TTf 1 2).2.2.1 ∈ GW := gw_t 89 (by decide +kernel) (by decide +kernel)
theorem fl_X4_50 : Cond.fieldLink RX4 50 (TTf 7 6).1 (TTf 7 6).2.1 (TTf 7 6).2.2.1 ∈ GW := gw_t 313 (by decide +kernel) (by decide +kernel)
theorem fl_X4_53 : Cond.fieldLink RX4 53 (TTf 1 3).1 (TTf 1 3).2.1 (TTf 1 3).2.2.1 ∈ GW := gw_t 92 (by decide +kernel) (by decide +kernel)
theorem fl_X4_56 : Cond.fieldLink RX4 56 (TTf 1 5).1 (TTf 1 5).2.1 (TTf 1 5).2.2.1 ∈ GW := gw_t 98 (by decide +kernel) (by decide +kernel)
theorem fl_X4_59 : Cond.fieldLink RX4 59 (TTf 1 6).1 (TTf 1 6).2.1 (TTf 1 6).2.2.1 ∈ GW := gw_t 101 (by decide +kernel) (by decide +kernel)
theorem fl_X4_66 : Cond.fieldLink RX4 66 (TTf 1 4).1 (TTf 1 4).2.1 (TTf 1 4).2.2.1 ∈ GW := gw_t 95 (by decide +kernel) (by decide +kernel)
theorem fl_X4_96 : Cond.fieldLink RX4 96 (TTf 7 0).1 (TTf 7 0).2.1 (TTf 7 0).2.2.1 ∈ GW := gw_t 303 (by decide +kernel) (by decide +kernel)
theorem fl_X4_100 : Cond.fieldLink RX4 100 (TTf 3 11).1 (TTf 3 11).2.1 (TTf 3 11).2.2.1 ∈ GW := gw_t 238 (by decide +kernel) (by decide +kernel)
theorem fl_X4_113 : Cond.fieldLink RX4 113 (TTf 3 9).1 (TTf 3 9).2.1 (TTf 3 9).2.2.1 ∈ GW := gw_t 232 (by decide +kernel) (by decide +kernel)
theorem fl_X5_9 : Cond.fieldLink RX5 9 (TTf 5 0).1 (TTf 5 0).2.1 (TTf 5 0).2.2.1 ∈ GW := gw_t 37 (by decide +kernel) (by decide +kernel)
theorem fl_X5_15 : Cond.fieldLink RX5 15 (TTf 5 1).1 (TTf 5 1).2.1 (TTf 5 1).2.2.1 ∈ GW := gw_t 38 (by decide +kernel) (by decide +kernel)
theorem fl_X5_19 : Cond.fieldLink RX5 19 (TTf 5 2).1 (TTf 5 2).2.1 (TTf 5 2).2.2.1 ∈ GW := gw_t 40 (by decide +kernel) (by decide +kernel)
theorem fl_X5_22 : Cond.fieldLink RX5 22 (TTf 5 3).1 (TTf 5 3).2.1 (TTf 5 3).2.2.1 ∈ GW := gw_t 41 (by decide +kernel) (by decide +kernel)
theorem fl_X5_25 : Cond.fieldLink RX5 25 (TTf 5 4).1 (TTf 5 4).2.1 (TTf 5 4).2.2.1 ∈ GW := gw_t 42 (by decide +kernel) (by decide +kernel)
theorem fl_X5_28 : Cond.fieldLink RX5 28 (TTf 5 5).1 (TTf 5 5).2.1 (TTf 5 5).2.2.1 ∈ GW := gw_t 45 (by decide +kernel) (by decide +kernel)
theorem fl_X5_31 : Cond.fieldLink RX5 31 (TTf 5 6).1 (TTf 5 6).2.1 (TTf 5 6).2.2.1 ∈ GW := gw_t 47 (by decide +kernel) (by decide +kernel)
theorem fl_X6_9 : Cond.fieldLink RX6 9 (TTf 6 0).1 (TTf 6 0).2.1 (TTf 6 0).2.2.1 ∈ GW := gw_t 276 (by decide +kernel) (by decide +kernel)
theorem fl_X6_15 : Cond.fieldLink RX6 15 (TTf 6 1).1 (TTf 6 1).2.1 (TTf 6 1).2.2.1 ∈ GW := gw_t 279 (by decide +kernel) (by decide +kernel)
theorem fl_X6_18 : Cond.fieldLink RX6 18 (TTf 6 2).1 (TTf 6 2).2.1 (TTf 6 2).2.2.1 ∈ GW := gw_t 282 (by decide +kernel) (by decide +kernel)
theorem fl_X6_21 : Cond.fieldLink RX6 21 (TTf 6 3).1 (TTf 6 3).2.1 (TTf 6 3).2.2.1 ∈ GW := gw_t 285 (by decide +kernel) (by decide +kernel)
theorem fl_X6_24 : Cond.fieldLink RX6 24 (TTf 6 4).1 (TTf 6 4).2.1 (TTf 6 4).2.2.1 ∈ GW := gw_t 288 (by decide +kernel) (by decide +kernel)
theorem fl_X7_12 : Cond.fieldLink RX7 12 (TTf 7 0).1 (TTf 7 0).2.1 (TTf 7 0).2.2.1 ∈ GW := gw_t 302 (by decide +kernel) (by decide +kernel)
theorem fl_X7_21 : Cond.fieldLink RX7 21 (TTf 7 1).1 (TTf 7 1).2.1 (TTf 7 1).2.2.1 ∈ GW := gw_t 304 (by decide +kernel) (by decide +kernel)
theorem fl_X7_25 : Cond.fieldLink RX7 25 (TTf 7 2).1 (TTf 7 2).2.1 (TTf 7 2).2.2.1 ∈ GW := gw_t 305 (by decide +kernel) (by decide +kernel)
theorem fl_X7_29 : Cond.fieldLink RX7 29 (TTf 7 3).1 (TTf 7 3).2.1 (TTf 7 3).2.2.1 ∈ GW := gw_t 306 (by decide +kernel) (by decide +kernel)
theorem fl_X7_33 : Cond.fieldLink RX7 33 (TTf 7 4).1 (TTf 7 4).2.1 (TTf 7 4).2.2.1 ∈ GW := gw_t 308 (by decide +kernel) (by decide +kernel)
theorem fl_X7_36 : Cond.fieldLink RX7 36 (TTf 7 5).1 (TTf 7 5).2.1 (TTf 7 5).2.2.1 ∈ GW := gw_t 309 (by decide +kernel) (by decide +kernel)
theorem fl_X7_39 : Cond.fieldLink RX7 39 (TTf 7 6).1 (TTf 7 6).2.1 (TTf 7 6).2.2.1 ∈ GW := gw_t 312 (by decide +kernel) (by decide +kernel)
theorem fl_X7_42 : Cond.fieldLink RX7 42 (TTf 7 7).1 (TTf 7 7).2.1 (TTf 7 7).2.2.1 ∈ GW := gw_t 314 (by decide +kernel) (by decide +kernel)
theorem fl_X7_46 : Cond.fieldLink RX7 46 (TTf 7 8).1 (TTf 7 8).2.1 (TTf 7 8).2.2.1 ∈ GW := gw_t 315 (by decide +kernel) (by decide +kernel)
theorem fl_X7_49 : Cond.fieldLink RX7 49 (TTf 7 9).1 (TTf 7 9).2.1 (TTf 7 9).2.2.1 ∈ GW := gw_t 316 (by decide +kernel) (by decide +kernel)
theorem fl_X7_63 : Cond.fieldLink RX7 63 (TTf 3 5).1 (TTf 3 5).2.1 (TTf 3 5).2.2.1 ∈ GW := gw_t 223 (by decide +kernel) (by decide +kernel)
theorem fl_X7_66 : Cond.fieldLink RX7 66 (TTf 6 2).1 (TTf 6 2).2.1 (TTf 6 2).2.2.1 ∈ GW := gw_t 283 (by decide +kernel) (by decide +kernel)
theorem fl_X7_73 : Cond.fieldLink RX7 73 (TTf 3 6).1 (TTf 3 6).2.1 (TTf 3 6).2.2.1 ∈ GW := gw_t 226 (by decide +kernel) (by decide +kernel)
theorem fl_X7_80 : Cond.fieldLink RX7 80 (TTf 0 7).1 (TTf 0 7).2.1 (TTf 0 7).2.2.1 ∈ GW := gw_t 144 (by decide +kernel) (by decide +kernel)
theorem fl_X7_85 : Cond.fieldLink RX7 85 (TTf 0 8).1 (TTf 0 8).2.1 (TTf 0 8).2.2.1 ∈ GW := gw_t 147 (by decide +kernel) (by decide +kernel)
theorem fl_X7_88 : Cond.fieldLink RX7 88 (TTf 0 9).1 (TTf 0 9).2.1 (TTf 0 9).2.2.1 ∈ GW := gw_t 149 (by decide +kernel) (by decide +kernel)
theorem fl_X7_91 : Cond.fieldLink RX7 91 (TTf 0 10).1 (TTf 0 10).2.1 (TTf 0 10).2.2.1 ∈ GW := gw_t 151 (by decide +kernel) (by decide +kernel)
theorem fl_X7_94 : Cond.fieldLink RX7 94 (TTf 0 11).1 (TTf 0 11).2.1 (TTf 0 11).2.2.1 ∈ GW := gw_t 153 (by decide +kernel) (by decide +kernel)
theorem fl_X7_97 : Cond.fieldLink RX7 97 (TTf 0 12).1 (TTf 0 12).2.1 (TTf 0 12).2.2.1 ∈ GW := gw_t 156 (by decide +kernel) (by decide +kernel)
theorem fl_X7_100 : Cond.fieldLink RX7 100 (TTf 0 13).1 (TTf 0 13).2.1 (TTf 0 13).2.2.1 ∈ GW := gw_t 158 (by decide +kernel) (by decide +kernel)
theorem fl_X7_103 : Cond.fieldLink RX7 103 (TTf 0 14).1 (TTf 0 14).2.1 (TTf 0 14).2.2.1 ∈ GW := gw_t 160 (by decide +kernel) (by decide +kernel)
theorem fl_X7_117 : Cond.fieldLink RX7 117 (TTf 6 0).1 (TTf 6 0).2.1 (TTf 6 0).2.2.1 ∈ GW := gw_t 277 (by decide +kernel) (by decide +kernel)
theorem fl_X7_123 : Cond.fieldLink RX7 123 (TTf 6 3).1 (TTf 6 3).2.1 (TTf 6 3).2.2.1 ∈ GW := gw_t 286 (by decide +kernel) (by decide +kernel)
theorem fl_X7_126 : Cond.fieldLink RX7 126 (TTf 6 1).1 (TTf 6 1).2.1 (TTf 6 1).2.2.1 ∈ GW := gw_t 281 (by decide +kernel) (by decide +kernel)
theorem fl_X7_133 : Cond.fieldLink RX7 133 (TTf 3 2).1 (TTf 3 2).2.1 (TTf 3 2).2.2.1 ∈ GW := gw_t 218 (by decide +kernel) (by decide +kernel)
theorem fl_X7_136 : Cond.fieldLink RX7 136 (TTf 3 9).1 (TTf 3 9).2.1 (TTf 3 9).2.2.1 ∈ GW := gw_t 231 (by decide +kernel) (by decide +kernel)
theorem fl_X7_139 : Cond.fieldLink RX7 139 (TTf 6 4).1 (TTf 6 4).2.1 (TTf 6 4).2.2.1 ∈ GW := gw_t 290 (by decide +kernel) (by decide +kernel)
theorem fl_X7_145 : Cond.fieldLink RX7 145 (TTf 3 11).1 (TTf 3 11).2.1 (TTf 3 11).2.2.1 ∈ GW := gw_t 237 (by decide +kernel) (by decide +kernel)
theorem fl_X8_10 : Cond.fieldLink RX8 10 (TTf 8 0).1 (TTf 8 0).2.1 (TTf 8 0).2.2.1 ∈ GW := gw_t 366 (by decide +kernel) (by decide +kernel)
theorem fl_X8_18 : Cond.fieldLink RX8 18 (TTf 8 1).1 (TTf 8 1).2.1 (TTf 8 1).2.2.1 ∈ GW := gw_t 367 (by decide +kernel) (by decide +kernel)
theorem fl_X8_22 : Cond.fieldLink RX8 22 (TTf 8 2).1 (TTf 8 2).2.1 (TTf 8 2).2.2.1 ∈ GW := gw_t 368 (by decide +kernel) (by decide +kernel)
theorem fl_X8_28 : Cond.fieldLink RX8 28 (TTf 8 3).1 (TTf 8 3).2.1 (TTf 8 3).2.2.1 ∈ GW := gw_t 369 (by decide +kernel) (by decide +kernel)
theorem fl_X8_32 : Cond.fieldLink RX8 32 (TTf 8 4).1 (TTf 8 4).2.1 (TTf 8 4).2.2.1 ∈ GW := gw_t 370 (by decide +kernel) (by decide +kernel)
theorem fl_X8_37 : Cond.fieldLink RX8 37 (TTf 8 5).1 (TTf 8 5).2.1 (TTf 8 5).2.2.1 ∈ GW := gw_t 371 (by decide +kernel) (by decide +kernel)
theorem fl_X8_41 : Cond.fieldLink RX8 41 (TTf 8 6).1 (TTf 8 6).2.1 (TTf 8 6).2.2.1 ∈ GW := gw_t 372 (by decide +kernel) (by decide +kernel)
theorem fl_X8_56 : Cond.fieldLink RX8 56 (TTf 8 8).1 (TTf 8 8).2.1 (TTf 8 8).2.2.1 ∈ GW := gw_t 374 (by decide +kernel) (by decide +kernel)
theorem fl_X8_60 : Cond.fieldLink RX8 60 (TTf 8 9).1 (TTf 8 9).2.1 (TTf 8 9).2.2.1 ∈ GW := gw_t 375 (by decide +kernel) (by decide +kernel)
theorem fl_X8_64 : Cond.fieldLink RX8 64 (TTf 8 10).1 (TTf 8 10).2.1 (TTf 8 10).2.2.1 ∈ GW := gw_t 376 (by decide +kernel) (by decide +kernel)
theorem fl_X8_70 : Cond.fieldLink RX8 70 (TTf 8 11).1 (TTf 8 11).2.1 (TTf 8 11).2.2.1 ∈ GW := gw_t 377 (by decide +kernel) (by decide +kernel)
theorem fl_X8_79 : Cond.fieldLink RX8 79 (TTf 8 12).1 (TTf 8 12).2.1 (TTf 8 12).2.2.1 ∈ GW := gw_t 378 (by decide +kernel) (by decide +kernel)
theorem fl_X8_83 : Cond.fieldLink RX8 83 (TTf 8 13).1 (TTf 8 13).2.1 (TTf 8 13).2.2.1 ∈ GW := gw_t 379 (by decide +kernel) (by decide +kernel)
theorem fl_X8_87 : Cond.fieldLink RX8 87 (TTf 8 14).1 (TTf 8 14).2.1 (TTf 8 14).2.2.1 ∈ GW := gw_t 380 (by decide +kernel) (by decide +kernel)
theorem fl_X8_102 : Cond.fieldLink RX8 102 (TTf 5 1).1 (TTf 5 1).2.1 (TTf 5 1).2.2.1 ∈ GW := gw_t 39 (by decide +kernel) (by decide +kernel)
theorem fl_X8_125 : Cond.fieldLink RX8 125 (TTf 5 6).1 (TTf 5 6).2.1 (TTf 5 6).2.2.1 ∈ GW := gw_t 48 (by decide +kernel) (by decide +kernel)
theorem fl_X8_140 : Cond.fieldLink RX8 140 (TTf 3 11).1 (TTf 3 11).2.1 (TTf 3 11).2.2.1 ∈ GW := gw_t 236 (by decide +kernel) (by decide +kernel)
theorem fl_X8_143 : Cond.fieldLink RX8 143 (TTf 3 9).1 (TTf 3 9).2.1 (TTf 3 9).2.2.1 ∈ GW := gw_t 230 (by decide +kernel) (by decide +kernel)
theorem fl_X8_146 : Cond.fieldLink RX8 146 (TTf 3 10).1 (TTf 3 10).2.1 (TTf 3 10).2.2.1 ∈ GW := gw_t 234 (by decide +kernel) (by decide +kernel)
theorem fl_X8_179 : Cond.fieldLink RX8 179 (TTf 6 2).1 (TTf 6 2).2.1 (TTf 6 2).2.2.1 ∈ GW := gw_t 284 (by decide +kernel) (by decide +kernel)
theorem fl_X8_268 : Cond.fieldLink RX8 268 (TTf 0 0).1 (TTf 0 0).2.1 (TTf 0 0).2.2.1 ∈ GW := gw_t 131 (by decide +kernel) (by decide +kernel)
theorem fl_X8_283 : Cond.fieldLink RX8 283 (TTf 0 5).1 (TTf 0 5).2.1 (TTf 0 5).2.2.1 ∈ GW := gw_t 140 (by decide +kernel) (by decide +kernel)
theorem fl_X8_334 : Cond.fieldLink RX8 334 (TTf 0 15).1 (TTf 0 15).2.1 (TTf 0 15).2.2.1 ∈ GW := gw_t 162 (by decide +kernel) (by decide +kernel)
theorem fl_X8_337 : Cond.fieldLink RX8 337 (TTf 0 16).1 (TTf 0 16).2.1 (TTf 0 16).2.2.1 ∈ GW := gw_t 164 (by decide +kernel) (by decide +kernel)
theorem fl_X8_361 : Cond.fieldLink RX8 361 (TTf 0 7).1 (TTf 0 7).2.1 (TTf 0 7).2.2.1 ∈ GW := gw_t 145 (by decide +kernel) (by decide +kernel)
theorem fl_X8_364 : Cond.fieldLink RX8 364 (TTf 0 11).1 (TTf 0 11).2.1 (TTf 0 11).2.2.1 ∈ GW := gw_t 154 (by decide +kernel) (by decide +kernel)
theorem fl_X8_376 : Cond.fieldLink RX8 376 (TTf 0 1).1 (TTf 0 1).2.1 (TTf 0 1).2.2.1 ∈ GW := gw_t 133 (by decide +kernel) (by decide +kernel)
theorem fl_X8_379 : Cond.fieldLink RX8 379 (TTf 0 2).1 (TTf 0 2).2.1 (TTf 0 2).2.2.1 ∈ GW := gw_t 135 (by decide +kernel) (by decide +kernel)
theorem fl_X9_9 : Cond.fieldLink RX9 9 (TTf 9 3).1 (TTf 9 3).2.1 (TTf 9 3).2.2.1 ∈ GW := gw_t 1340 (by decide +kernel) (by decide +kernel)
theorem fl_X9_13 : Cond.fieldLink RX9 13 (TTf 9 11).1 (TTf 9 11).2.1 (TTf 9 11).2.2.1 ∈ GW := gw_t 1348 (by decide +kernel) (by decide +kernel)
theorem fl_X9_17 : Cond.fieldLink RX9 17 (TTf 9 12).1 (TTf 9 12).2.1 (TTf 9 12).2.2.1 ∈ GW := gw_t 1349 (by decide +kernel) (by decide +kernel)
theorem fl_X9_22 : Cond.fieldLink RX9 22 (TTf 9 13).1 (TTf 9 13).2.1 (TTf 9 13).2.2.1 ∈ GW := gw_t 1350 (by decide +kernel) (by decide +kernel)
theorem fl_X9_25 : Cond.fieldLink RX9 25 (TTf 9 17).1 (TTf 9 17).2.1 (TTf 9 17).2.2.1 ∈ GW := gw_t 1354 (by decide +kernel) (by decide +kernel)
theorem fl_X9_28 : Cond.fieldLink RX9 28 (TTf 9 18).1 (TTf 9 18).2.1 (TTf 9 18).2.2.1 ∈ GW := gw_t 1355 (by decide +kernel) (by decide +kernel)
theorem fl_X9_31 : Cond.fieldLink RX9 31 (TTf 9 19).1 (TTf 9 19).2.1 (TTf 9 19).2.2.1 ∈ GW := gw_t 1356 (by decide +kernel) (by decide +kernel)
theorem fl_X9_34 : Cond.fieldLink RX9 34 (TTf 9 20).1 (TTf 9 20).2.1 (TTf 9 20).2.2.1 ∈ GW := gw_t 1357 (by decide +kernel) (by decide +kernel)
theorem fl_X9_37 : Cond.fieldLink RX9 37 (TTf 9 21).1 (TTf 9 21).2.1 (TTf 9 21).2.2.1 ∈ GW := gw_t 1358 (by decide +kernel) (by decide +kernel)
theorem fl_X9_40 : Cond.fieldLink RX9 40 (TTf 9 22).1 (TTf 9 22).2.1 (TTf 9 22).2.2.1 ∈ GW := gw_t 1359 (by decide +kernel) (by decide +kernel)
theorem fl_X9_43 : Cond.fieldLink RX9 43 (TTf 9 23).1 (TTf 9 23).2.1 (TTf 9 23).2.2.1 ∈ GW := gw_t 1360 (by decide +kernel) (by decide +kernel)
theorem fl_X9_46 : Cond.fieldLink RX9 46 (TTf 9 24).1 (TTf 9 24).2.1 (TTf 9 24).2.2.1 ∈ GW := gw_t 1361 (by decide +kernel) (by decide +kernel)
theorem fl_X9_49 : Cond.fieldLink RX9 49 (TTf 9 25).1 (TTf 9 25).2.1 (TTf 9 25).2.2.1 ∈ GW := gw_t 1362 (by decide +kernel) (by decide +kernel)
theorem fl_X9_52 : Cond.fieldLink RX9 52 (TTf 9 26).1 (TTf 9 26).2.1 (TTf 9 26).2.2.1 ∈ GW := gw_t 1363 (by decide +kernel) (by decide +kernel)
theorem fl_X9_55 : Cond.fieldLink RX9 55 (TTf 9 27).1 (TTf 9 27).2.1 (TTf 9 27).2.2.1 ∈ GW := gw_t 1364 (by decide +kernel) (by decide +kernel)
theorem fl_X9_58 : Cond.fieldLink RX9 58 (TTf 9 31).1 (TTf 9 31).2.1 (TTf 9 31).2.2.1 ∈ GW := gw_t 1368 (by decide +kernel) (by decide +kernel)
theorem fl_X9_61 : Cond.fieldLink RX9 61 (TTf 9 33).1 (TTf 9 33).2.1 (TTf 9 33).2.2.1 ∈ GW := gw_t 1370 (by decide +kernel) (by decide +kernel)
theorem fl_X9_64 : Cond.fieldLink RX9 64 (TTf 9 34).1 (TTf 9 34).2.1 (TTf 9 34).2.2.1 ∈ GW := gw_t 1371 (by decide +kernel) (by decide +kernel)
theorem fl_X9_67 : Cond.fieldLink RX9 67 (TTf 9 35).1 (TTf 9 35).2.1 (TTf 9 35).2.2.1 ∈ GW := gw_t 1372 (by decide +kernel) (by decide +kernel)
theorem fl_X9_70 : Cond.fieldLink RX9 70 (TTf 9 36).1 (TTf 9 36).2.1 (TTf 9 36).2.2.1 ∈ GW := gw_t 1373 (by decide +kernel) (by decide +kernel)
theorem fl_X9_73 : Cond.fieldLink RX9 73 (TTf 9 40).1 (TTf 9 40).2.1 (TTf 9 40).2.2.1 ∈ GW := gw_t 1377 (by decide +kernel) (by decide +kernel)
theorem fl_X9_76 : Cond.fieldLink RX9 76 (TTf 9 0).1 (TTf 9 0).2.1 (TTf 9 0).2.2.1 ∈ GW := gw_t 1337 (by decide +kernel) (by decide +kernel)
theorem fl_X9_79 : Cond.fieldLink RX9 79 (TTf 9 1).1 (TTf 9 1).2.1 (TTf 9 1).2.2.1 ∈ GW := gw_t 1338 (by decide +kernel) (by decide +kernel)
theorem fl_X9_82 : Cond.fieldLink RX9 82 (TTf 9 2).1 (TTf 9 2).2.1 (TTf 9 2).2.2.1 ∈ GW := gw_t 1339 (by decide +kernel) (by decide +kernel)
theorem fl_X9_85 : Cond.fieldLink RX9 85 (TTf 9 4).1 (TTf 9 4).2.1 (TTf 9 4).2.2.1 ∈ GW := gw_t 1341 (by decide +kernel) (by decide +kernel)
theorem fl_X9_92 : Cond.fieldLink RX9 92 (TTf 9 6).1 (TTf 9 6).2.1 (TTf 9 6).2.2.1 ∈ GW := gw_t 1343 (by decide +kernel) (by decide +kernel)
theorem fl_X9_95 : Cond.fieldLink RX9 95 (TTf 9 7).1 (TTf 9 7).2.1 (TTf 9 7).2.2.1 ∈ GW := gw_t 1344 (by decide +kernel) (by decide +kernel)
theorem fl_X9_98 : Cond.fieldLink RX9 98 (TTf 9 8).1 (TTf 9 8).2.1 (TTf 9 8).2.2.1 ∈ GW := gw_t 1345 (by decide +kernel) (by decide +kernel)
theorem fl_X9_125 : Cond.fieldLink RX9 125 (TTf 9 5).1 (TTf 9 5).2.1 (TTf 9 5).2.2.1 ∈ GW := gw_t 1342 (by decide +kernel) (by decide +kernel)
theorem fl_X9_128 : Cond.fieldLink RX9 128 (TTf 9 9).1 (TTf 9 9).2.1 (TTf 9 9).2.2.1 ∈ GW := gw_t 1346 (by decide +kernel) (by decide +kernel)
theorem fl_X9_131 : Cond.fieldLink RX9 131 (TTf 9 10).1 (TTf 9 10).2.1 (TTf 9 10).2.2.1 ∈ GW := gw_t 1347 (by decide +kernel) (by decide +kernel)
theorem fl_X9_166 : Cond.fieldLink RX9 166 (TTf 9 14).1 (TTf 9 14).2.1 (TTf 9 14).2.2.1 ∈ GW := gw_t 1351 (by decide +kernel) (by decide +kernel)
theorem fl_X9_179 : Cond.fieldLink RX9 179 (TTf 9 15).1 (TTf 9 15).2.1 (TTf 9 15).2.2.1 ∈ GW := gw_t 1352 (by decide +kernel) (by decide +kernel)
theorem fl_X9_219 : Cond.fieldLink RX9 219 (TTf 9 16).1 (TTf 9 16).2.1 (TTf 9 16).2.2.1 ∈ GW := gw_t 1353 (by decide +kernel) (by decide +kernel)
theorem fl_X9_288 : Cond.fieldLink RX9 288 (TTf 9 28).1 (TTf 9 28).2.1 (TTf 9 28).2.2.1 ∈ GW := gw_t 1365 (by decide +kernel) (by decide +kernel)
theorem fl_X9_298 : Cond.fieldLink RX9 298 (TTf 9 29).1 (TTf 9 29).2.1 (TTf 9 29).2.2.1 ∈ GW := gw_t 1366 (by decide +kernel) (by decide +kernel)
theorem fl_X9_301 : Cond.fieldLink RX9 301 (TTf 9 30).1 (TTf 9 30).2.1 (TTf 9 30).2.2.1 ∈ GW := gw_t 1367 (by decide +kernel) (by decide +kernel)
theorem fl_X9_314 : Cond.fieldLink RX9 314 (TTf 9 39).1 (TTf 9 39).2.1 (TTf 9 39).2.2.1 ∈ GW := gw_t 1376 (by decide +kernel) (by decide +kernel)
theorem fl_X9_320 : Cond.fieldLink RX9 320 (TTf 9 38).1 (TTf 9 38).2.1 (TTf 9 38).2.2.1 ∈ GW := gw_t 1375 (by decide +kernel) (by decide +kernel)
theorem fl_X9_340 : Cond.fieldLink RX9 340 (TTf 9 41).1 (TTf 9 41).2.1 (TTf 9 41).2.2.1 ∈ GW := gw_t 1378 (by decide +kernel) (by decide +kernel)
theorem fl_X9_343 : Cond.fieldLink RX9 343 (TTf 9 42).1 (TTf 9 42).2.1 (TTf 9 42).2.2.1 ∈ GW := gw_t 1379 (by decide +kernel) (by decide +kernel)
theorem fl_X9_420 : Cond.fieldLink RX9 420 (TTf 9 37).1 (TTf 9 37).2.1 (TTf 9 37).2.2.1 ∈ GW := gw_t 1374 (by decide +kernel) (by decide +kernel)
theorem fl_X9_430 : Cond.fieldLink RX9 430 (TTf 9 32).1 (TTf 9 32).2.1 (TTf 9 32).2.2.1 ∈ GW := gw_t 1369 (by decide +kernel) (by decide +kernel)
theorem ml_X0_64 : Cond.methodLink RX0 64 yX0_isKnowing ∈ GW := gw_t 1192 (by decide +kernel) (by decide +kernel)
theorem ml_X0_68 : Cond.methodLink RX0 68 yX0_reply ∈ GW := gw_t 1193 (by decide +kernel) (by decide +kernel)
theorem ml_X0_72 : Cond.methodLink RX0 72 yX0_inGroup ∈ GW := gw_t 1188 (by decide +kernel) (by decide +kernel)
theorem ml_X0_76 : Cond.methodLink RX0 76 yX0_hasTallied ∈ GW := gw_t 1271 (by decide +kernel) (by decide +kernel)
theorem ml_X0_80 : Cond.methodLink RX0 80 arraycopyName ∈ GW := gw_t 587 (by decide +kernel) (by decide +kernel)
theorem ml_X2_31 : Cond.methodLink RX2 31 yX5_clauseWord ∈ GW := gw_t 846 (by decide +kernel) (by decide +kernel)
theorem ml_X2_136 : Cond.methodLink RX2 136 yX5_blame ∈ GW := gw_t 878 (by decide +kernel) (by decide +kernel)
theorem ml_X3_57 : Cond.methodLink RX3 57 yX5_clauseWord ∈ GW := gw_t 685 (by decide +kernel) (by decide +kernel)
theorem ml_X3_63 : Cond.methodLink RX3 63 yX3_readClause ∈ GW := gw_t 757 (by decide +kernel) (by decide +kernel)
theorem ml_X3_69 : Cond.methodLink RX3 69 yX5_demandSign ∈ GW := gw_t 790 (by decide +kernel) (by decide +kernel)
theorem ml_X3_73 : Cond.methodLink RX3 73 yX3_readThing ∈ GW := gw_t 761 (by decide +kernel) (by decide +kernel)
theorem ml_X3_77 : Cond.methodLink RX3 77 yX3_readWay ∈ GW := gw_t 776 (by decide +kernel) (by decide +kernel)
theorem ml_X3_80 : Cond.methodLink RX3 80 yX3_readThrow ∈ GW := gw_t 781 (by decide +kernel) (by decide +kernel)
theorem ml_X3_83 : Cond.methodLink RX3 83 yX5_demandNumber ∈ GW := gw_t 766 (by decide +kernel) (by decide +kernel)
theorem ml_X3_87 : Cond.methodLink RX3 87 yX3_readTurn ∈ GW := gw_t 785 (by decide +kernel) (by decide +kernel)
theorem ml_X3_93 : Cond.methodLink RX3 93 yX5_blame ∈ GW := gw_t 765 (by decide +kernel) (by decide +kernel)
theorem ml_X3_97 : Cond.methodLink RX3 97 Lib.Math.max.name ∈ GW := gw_t 780 (by decide +kernel) (by decide +kernel)
theorem ml_X3_109 : Cond.methodLink RX3 109 yX3_onTheWay ∈ GW := gw_t 806 (by decide +kernel) (by decide +kernel)
theorem ml_X3_113 : Cond.methodLink RX3 113 yX3_isCell ∈ GW := gw_t 485 (by decide +kernel) (by decide +kernel)
theorem ml_X3_117 : Cond.methodLink RX3 117 yX3_placeAt ∈ GW := gw_t 948 (by decide +kernel) (by decide +kernel)
theorem ml_X3_120 : Cond.methodLink RX3 120 yX7_farther ∈ GW := gw_t 949 (by decide +kernel) (by decide +kernel)
theorem ml_X3_125 : Cond.methodLink RX3 125 yX3_isThrownFrom ∈ GW := gw_t 989 (by decide +kernel) (by decide +kernel)
theorem ml_X4_43 : Cond.methodLink RX4 43 yX4_joined ∈ GW := gw_t 540 (by decide +kernel) (by decide +kernel)
theorem ml_X4_62 : Cond.methodLink RX4 62 yX4_work ∈ GW := gw_t 536 (by decide +kernel) (by decide +kernel)
theorem ml_X4_69 : Cond.methodLink RX4 69 Lib.Math.min.name ∈ GW := gw_t 543 (by decide +kernel) (by decide +kernel)
theorem ml_X4_75 : Cond.methodLink RX4 75 Lib.Math.max.name ∈ GW := gw_t 544 (by decide +kernel) (by decide +kernel)
theorem ml_X4_79 : Cond.methodLink RX4 79 yX4_lastOf ∈ GW := gw_t 553 (by decide +kernel) (by decide +kernel)
theorem ml_X4_84 : Cond.methodLink RX4 84 yX4_addFrom ∈ GW := gw_t 557 (by decide +kernel) (by decide +kernel)
theorem ml_X4_88 : Cond.methodLink RX4 88 yX7_regard ∈ GW := gw_t 516 (by decide +kernel) (by decide +kernel)
theorem ml_X4_92 : Cond.methodLink RX4 92 yX4_getsNow ∈ GW := gw_t 532 (by decide +kernel) (by decide +kernel)
theorem ml_X4_105 : Cond.methodLink RX4 105 yX3_turned ∈ GW := gw_t 512 (by decide +kernel) (by decide +kernel)
theorem ml_X4_109 : Cond.methodLink RX4 109 yX4_drawNow ∈ GW := gw_t 547 (by decide +kernel) (by decide +kernel)
theorem ml_X4_116 : Cond.methodLink RX4 116 yX4_firstSeen ∈ GW := gw_t 508 (by decide +kernel) (by decide +kernel)
theorem ml_X5_34 : Cond.methodLink RX5 34 yX5_takeWord ∈ GW := gw_t 689 (by decide +kernel) (by decide +kernel)
theorem ml_X5_38 : Cond.methodLink RX5 38 yX5_blame ∈ GW := gw_t 753 (by decide +kernel) (by decide +kernel)
theorem ml_X5_42 : Cond.methodLink RX5 42 yX5_skipBlanks ∈ GW := gw_t 693 (by decide +kernel) (by decide +kernel)
theorem ml_X5_45 : Cond.methodLink RX5 45 yX5_isAt ∈ GW := gw_t 697 (by decide +kernel) (by decide +kernel)
theorem ml_X5_49 : Cond.methodLink RX5 49 yX5_wordIn ∈ GW := gw_t 701 (by decide +kernel) (by decide +kernel)
theorem ml_X5_53 : Cond.methodLink RX5 53 yJ0_length_8abf5 ∈ GW := gw_t 705 (by decide +kernel) (by decide +kernel)
theorem ml_X5_59 : Cond.methodLink RX5 59 yJ0_charAt_5068e ∈ GW := gw_t 715 (by decide +kernel) (by decide +kernel)
theorem ml_X5_63 : Cond.methodLink RX5 63 yX5_takeSign ∈ GW := gw_t 794 (by decide +kernel) (by decide +kernel)
theorem ml_X5_66 : Cond.methodLink RX5 66 yX5_isNumberNext ∈ GW := gw_t 770 (by decide +kernel) (by decide +kernel)
theorem ml_X5_71 : Cond.methodLink RX5 71 Lib.Math.min.name ∈ GW := gw_t 775 (by decide +kernel) (by decide +kernel)
theorem ml_X6_29 : Cond.methodLink RX6 29 yX5_clauseWord ∈ GW := gw_t 826 (by decide +kernel) (by decide +kernel)
theorem ml_X6_35 : Cond.methodLink RX6 35 yX5_demandNumber ∈ GW := gw_t 827 (by decide +kernel) (by decide +kernel)
theorem ml_X6_39 : Cond.methodLink RX6 39 yX6_put ∈ GW := gw_t 828 (by decide +kernel) (by decide +kernel)
theorem ml_X6_45 : Cond.methodLink RX6 45 yX5_demandSign ∈ GW := gw_t 833 (by decide +kernel) (by decide +kernel)
theorem ml_X7_52 : Cond.methodLink RX7 52 yX7_bend ∈ GW := gw_t 465 (by decide +kernel) (by decide +kernel)
theorem ml_X7_56 : Cond.methodLink RX7 56 yX7_follow ∈ GW := gw_t 469 (by decide +kernel) (by decide +kernel)
theorem ml_X7_60 : Cond.methodLink RX7 60 yX7_clearLatest ∈ GW := gw_t 473 (by decide +kernel) (by decide +kernel)
theorem ml_X7_69 : Cond.methodLink RX7 69 yX3_isThrownFrom ∈ GW := gw_t 477 (by decide +kernel) (by decide +kernel)
theorem ml_X7_76 : Cond.methodLink RX7 76 yX3_placeAt ∈ GW := gw_t 481 (by decide +kernel) (by decide +kernel)
theorem ml_X7_106 : Cond.methodLink RX7 106 Lib.Math.min.name ∈ GW := gw_t 493 (by decide +kernel) (by decide +kernel)
theorem ml_X7_111 : Cond.methodLink RX7 111 yX7_shut ∈ GW := gw_t 496 (by decide +kernel) (by decide +kernel)
theorem ml_X7_114 : Cond.methodLink RX7 114 yX3_tintAt ∈ GW := gw_t 520 (by decide +kernel) (by decide +kernel)
theorem ml_X7_120 : Cond.methodLink RX7 120 yX3_crowd ∈ GW := gw_t 524 (by decide +kernel) (by decide +kernel)
theorem ml_X7_129 : Cond.methodLink RX7 129 yX7_farther ∈ GW := gw_t 528 (by decide +kernel) (by decide +kernel)
theorem ml_X7_142 : Cond.methodLink RX7 142 yX3_turned ∈ GW := gw_t 531 (by decide +kernel) (by decide +kernel)
theorem ml_X7_148 : Cond.methodLink RX7 148 yX7_nearInTenth ∈ GW := gw_t 1045 (by decide +kernel) (by decide +kernel)
theorem ml_X7_151 : Cond.methodLink RX7 151 yX7_isDropped ∈ GW := gw_t 1106 (by decide +kernel) (by decide +kernel)
theorem ml_X7_155 : Cond.methodLink RX7 155 yX7_tenthsWithin ∈ GW := gw_t 1110 (by decide +kernel) (by decide +kernel)
theorem ml_X8_94 : Cond.methodLink RX8 94 yX5_hasRoom ∈ GW := gw_t 417 (by decide +kernel) (by decide +kernel)
theorem ml_X8_98 : Cond.methodLink RX8 98 yX5_put ∈ GW := gw_t 421 (by decide +kernel) (by decide +kernel)
theorem ml_X8_188 : Cond.methodLink RX8 188 yX3_throwsFrom ∈ GW := gw_t 985 (by decide +kernel) (by decide +kernel)
theorem ml_X8_196 : Cond.methodLink RX8 196 yX8_forgetStates ∈ GW := gw_t 594 (by decide +kernel) (by decide +kernel)
theorem ml_X8_209 : Cond.methodLink RX8 209 yX8_lookAs ∈ GW := gw_t 457 (by decide +kernel) (by decide +kernel)
theorem ml_X8_216 : Cond.methodLink RX8 216 yX8_sceneFor ∈ GW := gw_t 441 (by decide +kernel) (by decide +kernel)
theorem ml_X8_220 : Cond.methodLink RX8 220 yX7_tenthsWithin ∈ GW := gw_t 1041 (by decide +kernel) (by decide +kernel)
theorem ml_X8_243 : Cond.methodLink RX8 243 yX4_firstSeen ∈ GW := gw_t 1084 (by decide +kernel) (by decide +kernel)
theorem ml_X8_250 : Cond.methodLink RX8 250 yX8_stateOf ∈ GW := gw_t 453 (by decide +kernel) (by decide +kernel)
theorem ml_X8_253 : Cond.methodLink RX8 253 yX8_isYes ∈ GW := gw_t 561 (by decide +kernel) (by decide +kernel)
theorem ml_X8_256 : Cond.methodLink RX8 256 yX0_isKnowing ∈ GW := gw_t 445 (by decide +kernel) (by decide +kernel)
theorem ml_X8_277 : Cond.methodLink RX8 277 yX0_reply ∈ GW := gw_t 449 (by decide +kernel) (by decide +kernel)
theorem ml_X8_310 : Cond.methodLink RX8 310 yX8_choose ∈ GW := gw_t 1220 (by decide +kernel) (by decide +kernel)
theorem ml_X8_321 : Cond.methodLink RX8 321 yX8_lostBy ∈ GW := gw_t 1245 (by decide +kernel) (by decide +kernel)
theorem ml_X8_340 : Cond.methodLink RX8 340 yX8_oddsOf ∈ GW := gw_t 433 (by decide +kernel) (by decide +kernel)
theorem ml_X8_350 : Cond.methodLink RX8 350 yX8_lesserOdds ∈ GW := gw_t 568 (by decide +kernel) (by decide +kernel)
theorem ml_X8_354 : Cond.methodLink RX8 354 yX8_stateOfNew ∈ GW := gw_t 572 (by decide +kernel) (by decide +kernel)
theorem ml_X8_357 : Cond.methodLink RX8 357 yX0_copyFrom ∈ GW := gw_t 583 (by decide +kernel) (by decide +kernel)
theorem ml_X8_382 : Cond.methodLink RX8 382 yX7_open ∈ GW := gw_t 461 (by decide +kernel) (by decide +kernel)
theorem ml_X8_385 : Cond.methodLink RX8 385 yX7_heed ∈ GW := gw_t 489 (by decide +kernel) (by decide +kernel)
theorem ml_X8_389 : Cond.methodLink RX8 389 yX4_plain ∈ GW := gw_t 500 (by decide +kernel) (by decide +kernel)
theorem ml_X8_392 : Cond.methodLink RX8 392 yX4_judge ∈ GW := gw_t 504 (by decide +kernel) (by decide +kernel)
theorem ml_X8_395 : Cond.methodLink RX8 395 yX4_heedChangesAlone ∈ GW := gw_t 1133 (by decide +kernel) (by decide +kernel)
theorem ml_X8_398 : Cond.methodLink RX8 398 Lib.Math.abs.name ∈ GW := gw_t 1249 (by decide +kernel) (by decide +kernel)
theorem ml_X8_401 : Cond.methodLink RX8 401 yX0_hasTallied ∈ GW := gw_t 1263 (by decide +kernel) (by decide +kernel)
theorem ml_X8_404 : Cond.methodLink RX8 404 yX8_isHeard ∈ GW := gw_t 437 (by decide +kernel) (by decide +kernel)
theorem ml_X8_407 : Cond.methodLink RX8 407 Lib.MathLoose.min_long.x ∈ GW := gw_t 576 (by decide +kernel) (by decide +kernel)
theorem ml_X9_88 : Cond.methodLink RX9 88 yX9_byteAt ∈ GW := gw_t 1498 (by decide +kernel) (by decide +kernel)
theorem ml_X9_101 : Cond.methodLink RX9 101 yX9_blanks ∈ GW := gw_t 1494 (by decide +kernel) (by decide +kernel)
theorem ml_X9_104 : Cond.methodLink RX9 104 yX9_isDigit ∈ GW := gw_t 1537 (by decide +kernel) (by decide +kernel)
theorem ml_X9_108 : Cond.methodLink RX9 108 yX9_wrongAt ∈ GW := gw_t 1525 (by decide +kernel) (by decide +kernel)
theorem ml_X9_113 : Cond.methodLink RX9 113 yX9_in ∈ GW := gw_t 1479 (by decide +kernel) (by decide +kernel)
theorem ml_X9_117 : Cond.methodLink RX9 117 yX9_wordHere ∈ GW := gw_t 1514 (by decide +kernel) (by decide +kernel)
theorem ml_X9_121 : Cond.methodLink RX9 121 yX9_word ∈ GW := gw_t 1518 (by decide +kernel) (by decide +kernel)
theorem ml_X9_134 : Cond.methodLink RX9 134 yX9_isWord ∈ GW := gw_t 1510 (by decide +kernel) (by decide +kernel)
theorem ml_X9_138 : Cond.methodLink RX9 138 yX9_sceneHere ∈ GW := gw_t 1506 (by decide +kernel) (by decide +kernel)
theorem ml_X9_141 : Cond.methodLink RX9 141 yX9_needs ∈ GW := gw_t 1521 (by decide +kernel) (by decide +kernel)
theorem ml_X9_144 : Cond.methodLink RX9 144 yX9_skipWord ∈ GW := gw_t 1529 (by decide +kernel) (by decide +kernel)
theorem ml_X9_147 : Cond.methodLink RX9 147 yX9_number ∈ GW := gw_t 1533 (by decide +kernel) (by decide +kernel)
theorem ml_X9_151 : Cond.methodLink RX9 151 yX9_readsWay ∈ GW := gw_t 1541 (by decide +kernel) (by decide +kernel)
theorem ml_X9_155 : Cond.methodLink RX9 155 yX9_sign ∈ GW := gw_t 1545 (by decide +kernel) (by decide +kernel)
theorem ml_X9_159 : Cond.methodLink RX9 159 yX9_begins ∈ GW := gw_t 1490 (by decide +kernel) (by decide +kernel)
theorem ml_X9_162 : Cond.methodLink RX9 162 yX9_bad ∈ GW := gw_t 1482 (by decide +kernel) (by decide +kernel)
theorem ml_X9_169 : Cond.methodLink RX9 169 yX9_isRead ∈ GW := gw_t 1486 (by decide +kernel) (by decide +kernel)
theorem ml_X9_173 : Cond.methodLink RX9 173 yX9_sceneClause ∈ GW := gw_t 1502 (by decide +kernel) (by decide +kernel)
theorem ml_X9_176 : Cond.methodLink RX9 176 yX9_taskHere ∈ GW := gw_t 1560 (by decide +kernel) (by decide +kernel)
theorem ml_X9_182 : Cond.methodLink RX9 182 yX9_less ∈ GW := gw_t 1553 (by decide +kernel) (by decide +kernel)
theorem ml_X9_186 : Cond.methodLink RX9 186 yX9_taskClause ∈ GW := gw_t 1556 (by decide +kernel) (by decide +kernel)
theorem ml_X9_216 : Cond.methodLink RX9 216 yX9_lawHere ∈ GW := gw_t 1572 (by decide +kernel) (by decide +kernel)
theorem ml_X9_225 : Cond.methodLink RX9 225 yX9_worked ∈ GW := gw_t 1778 (by decide +kernel) (by decide +kernel)
theorem ml_X9_228 : Cond.methodLink RX9 228 yX9_work ∈ GW := gw_t 1774 (by decide +kernel) (by decide +kernel)
theorem ml_X9_231 : Cond.methodLink RX9 231 yX9_holds ∈ GW := gw_t 1770 (by decide +kernel) (by decide +kernel)
theorem ml_X9_235 : Cond.methodLink RX9 235 yX9_within ∈ GW := gw_t 1781 (by decide +kernel) (by decide +kernel)
theorem ml_X9_238 : Cond.methodLink RX9 238 yX9_wayOf ∈ GW := gw_t 1651 (by decide +kernel) (by decide +kernel)
theorem ml_X9_241 : Cond.methodLink RX9 241 yX9_isThere ∈ GW := gw_t 1663 (by decide +kernel) (by decide +kernel)
theorem ml_X9_244 : Cond.methodLink RX9 244 yX9_placeOf ∈ GW := gw_t 1647 (by decide +kernel) (by decide +kernel)
theorem ml_X9_248 : Cond.methodLink RX9 248 yX9_amount ∈ GW := gw_t 1667 (by decide +kernel) (by decide +kernel)
theorem ml_X9_251 : Cond.methodLink RX9 251 yX9_more ∈ GW := gw_t 1632 (by decide +kernel) (by decide +kernel)
theorem ml_X9_254 : Cond.methodLink RX9 254 yX9_isScene ∈ GW := gw_t 1620 (by decide +kernel) (by decide +kernel)
theorem ml_X9_257 : Cond.methodLink RX9 257 yX9_countOf ∈ GW := gw_t 1624 (by decide +kernel) (by decide +kernel)
theorem ml_X9_260 : Cond.methodLink RX9 260 yX9_endOf ∈ GW := gw_t 1628 (by decide +kernel) (by decide +kernel)
theorem ml_X9_263 : Cond.methodLink RX9 263 yX9_oddOf ∈ GW := gw_t 1635 (by decide +kernel) (by decide +kernel)
theorem ml_X9_266 : Cond.methodLink RX9 266 yX9_turnsOf ∈ GW := gw_t 1639 (by decide +kernel) (by decide +kernel)
theorem ml_X9_269 : Cond.methodLink RX9 269 yX9_colourOf ∈ GW := gw_t 1655 (by decide +kernel) (by decide +kernel)
theorem ml_X9_272 : Cond.methodLink RX9 272 yX9_paceOf ∈ GW := gw_t 1659 (by decide +kernel) (by decide +kernel)
theorem ml_X9_275 : Cond.methodLink RX9 275 yX9_isChanged ∈ GW := gw_t 1670 (by decide +kernel) (by decide +kernel)
theorem ml_X9_278 : Cond.methodLink RX9 278 yX9_isTask ∈ GW := gw_t 1678 (by decide +kernel) (by decide +kernel)
theorem ml_X9_281 : Cond.methodLink RX9 281 yX9_isCounted ∈ GW := gw_t 1690 (by decide +kernel) (by decide +kernel)
theorem ml_X9_285 : Cond.methodLink RX9 285 yX9_throwsBy ∈ GW := gw_t 1686 (by decide +kernel) (by decide +kernel)
theorem ml_X9_291 : Cond.methodLink RX9 291 yX9_comes ∈ GW := gw_t 1698 (by decide +kernel) (by decide +kernel)
theorem ml_X9_295 : Cond.methodLink RX9 295 yX9_isLooker ∈ GW := gw_t 1706 (by decide +kernel) (by decide +kernel)
theorem ml_X9_304 : Cond.methodLink RX9 304 yX9_isShut ∈ GW := gw_t 1722 (by decide +kernel) (by decide +kernel)
theorem ml_X9_308 : Cond.methodLink RX9 308 yX9_looks ∈ GW := gw_t 1726 (by decide +kernel) (by decide +kernel)
theorem ml_X9_311 : Cond.methodLink RX9 311 yX9_eyeOf ∈ GW := gw_t 1718 (by decide +kernel) (by decide +kernel)
theorem ml_X9_317 : Cond.methodLink RX9 317 yX9_nearOf ∈ GW := gw_t 1742 (by decide +kernel) (by decide +kernel)
theorem ml_X9_323 : Cond.methodLink RX9 323 yX9_fullOf ∈ GW := gw_t 1746 (by decide +kernel) (by decide +kernel)
theorem ml_X9_326 : Cond.methodLink RX9 326 yX9_isThing ∈ GW := gw_t 1734 (by decide +kernel) (by decide +kernel)
theorem ml_X9_329 : Cond.methodLink RX9 329 yX9_tellsNames ∈ GW := gw_t 1738 (by decide +kernel) (by decide +kernel)
theorem ml_X9_333 : Cond.methodLink RX9 333 yX9_getsNow ∈ GW := gw_t 1766 (by decide +kernel) (by decide +kernel)
theorem ml_X9_336 : Cond.methodLink RX9 336 yX9_lastOf ∈ GW := gw_t 1788 (by decide +kernel) (by decide +kernel)
theorem ml_X9_346 : Cond.methodLink RX9 346 yX9_getsIn ∈ GW := gw_t 1762 (by decide +kernel) (by decide +kernel)
theorem ml_X9_350 : Cond.methodLink RX9 350 yX9_lineNow ∈ GW := gw_t 1784 (by decide +kernel) (by decide +kernel)
theorem ml_X9_353 : Cond.methodLink RX9 353 yX9_goes ∈ GW := gw_t 1800 (by decide +kernel) (by decide +kernel)
theorem ml_X9_357 : Cond.methodLink RX9 357 yX9_isLaw ∈ GW := gw_t 1758 (by decide +kernel) (by decide +kernel)
theorem ml_X9_360 : Cond.methodLink RX9 360 yX9_seenOf ∈ GW := gw_t 1796 (by decide +kernel) (by decide +kernel)
theorem ml_X9_363 : Cond.methodLink RX9 363 yX9_isUnsure ∈ GW := gw_t 1813 (by decide +kernel) (by decide +kernel)
theorem ml_X9_366 : Cond.methodLink RX9 366 yX9_isForgotten ∈ GW := gw_t 1817 (by decide +kernel) (by decide +kernel)
theorem ml_X9_369 : Cond.methodLink RX9 369 yX9_saysBy ∈ GW := gw_t 1809 (by decide +kernel) (by decide +kernel)
theorem ml_X9_372 : Cond.methodLink RX9 372 yX9_isDropped ∈ GW := gw_t 1825 (by decide +kernel) (by decide +kernel)
theorem ml_X9_375 : Cond.methodLink RX9 375 yX9_nearest ∈ GW := gw_t 1829 (by decide +kernel) (by decide +kernel)
theorem ml_X9_378 : Cond.methodLink RX9 378 yX9_changeOf ∈ GW := gw_t 1841 (by decide +kernel) (by decide +kernel)
theorem ml_X9_381 : Cond.methodLink RX9 381 yX9_isOf ∈ GW := gw_t 1877 (by decide +kernel) (by decide +kernel)
theorem ml_X9_384 : Cond.methodLink RX9 384 yX9_isInGroup ∈ GW := gw_t 1873 (by decide +kernel) (by decide +kernel)
theorem ml_X9_388 : Cond.methodLink RX9 388 yX9_asked ∈ GW := gw_t 1869 (by decide +kernel) (by decide +kernel)
theorem ml_X9_391 : Cond.methodLink RX9 391 yX9_yes ∈ GW := gw_t 1881 (by decide +kernel) (by decide +kernel)
theorem ml_X9_394 : Cond.methodLink RX9 394 yX9_root ∈ GW := gw_t 1885 (by decide +kernel) (by decide +kernel)
theorem ml_X9_397 : Cond.methodLink RX9 397 yX9_choose ∈ GW := gw_t 1896 (by decide +kernel) (by decide +kernel)
theorem ml_X9_400 : Cond.methodLink RX9 400 yX9_lostOf ∈ GW := gw_t 1907 (by decide +kernel) (by decide +kernel)
theorem ml_X9_403 : Cond.methodLink RX9 403 yX9_lostBy ∈ GW := gw_t 1915 (by decide +kernel) (by decide +kernel)
theorem ml_X9_407 : Cond.methodLink RX9 407 yX9_isAsked ∈ GW := gw_t 1939 (by decide +kernel) (by decide +kernel)
theorem ml_X9_410 : Cond.methodLink RX9 410 yX9_isAlike ∈ GW := gw_t 1943 (by decide +kernel) (by decide +kernel)
theorem ml_X9_413 : Cond.methodLink RX9 413 yX9_oddsOf ∈ GW := gw_t 1935 (by decide +kernel) (by decide +kernel)
theorem ml_X9_417 : Cond.methodLink RX9 417 yX9_fitting ∈ GW := gw_t 1955 (by decide +kernel) (by decide +kernel)
theorem ml_X9_423 : Cond.methodLink RX9 423 yX9_moves ∈ GW := gw_t 1979 (by decide +kernel) (by decide +kernel)
theorem ml_X9_426 : Cond.methodLink RX9 426 yX9_movesRow ∈ GW := gw_t 1983 (by decide +kernel) (by decide +kernel)
theorem ml_X9_433 : Cond.methodLink RX9 433 yX9_movesAll ∈ GW := gw_t 1975 (by decide +kernel) (by decide +kernel)
theorem mw_X0_copyFrom : MW yX0_copyFrom (RRf 0) cX0_copyFrom 2 none 1 := ⟨⟨rfl, by decide +kernel, by decide +kernel, by decide +kernel⟩, gw_t 584 (by decide +kernel) (by decide +kernel), gw_t 585 (by decide +kernel) (by decide +kernel), gw_t 5 (by decide +kernel) (by decide +kernel), gw_t 586 (by decide +kernel) (by decide +kernel)⟩
theorem mw_X0_hasTallied : MW yX0_hasTallied (RRf 0) cX0_hasTallied 4 (some .boolean) 3 := ⟨⟨rfl, by decide +kernel, by decide +kernel, by decide +kernel⟩, gw_t 1264 (by decide +kernel) (by decide +kernel), gw_t 1265 (by decide +kernel) (by decide +kernel), gw_t 5 (by decide +kernel) (by decide +kernel), gw_t 1266 (by decide +kernel) (by decide +kernel)⟩
theorem mw_X0_inGroup : MW yX0_inGroup (RRf 0) cX0_inGroup 5 (some .boolean) 4 := ⟨⟨rfl, by decide +kernel, by decide +kernel, by decide +kernel⟩, gw_t 1189 (by decide +kernel) (by decide +kernel), gw_t 1190 (by decide +kernel) (by decide +kernel), gw_t 5 (by decide +kernel) (by decide +kernel), gw_t 1191 (by decide +kernel) (by decide +kernel)⟩
theorem mw_X0_isKnowing : MW yX0_isKnowing (RRf 0) cX0_isKnowing 2 (some .boolean) 1 := ⟨⟨rfl, by decide +kernel, by decide +kernel, by decide +kernel⟩, gw_t 446 (by decide +kernel) (by decide +kernel), gw_t 447 (by decide +kernel) (by decide +kernel), gw_t 5 (by decide +kernel) (by decide +kernel), gw_t 448 (by decide +kernel) (by decide +kernel)⟩
theorem mw_X0_reply : MW yX0_reply (RRf 0) cX0_reply 3 (some .int) 2 := ⟨⟨rfl, by decide +kernel, by decide +kernel, by decide +kernel⟩, gw_t 450 (by decide +kernel) (by decide +kernel), gw_t 451 (by decide +kernel) (by decide +kernel), gw_t 5 (by decide +kernel) (by decide +kernel), gw_t 452 (by decide +kernel) (by decide +kernel)⟩
theorem mw_X3_crowd : MW yX3_crowd (RRf 3) cX3_crowd 5 (some .int) 2 := ⟨⟨rfl, by decide +kernel, by decide +kernel, by decide +kernel⟩, gw_t 525 (by decide +kernel) (by decide +kernel), gw_t 526 (by decide +kernel) (by decide +kernel), gw_t 7 (by decide +kernel) (by decide +kernel), gw_t 527 (by decide +kernel) (by decide +kernel)⟩
theorem mw_X3_isCell : MW yX3_isCell (RRf 3) cX3_isCell 3 (some .boolean) 2 := ⟨⟨rfl, by decide +kernel, by decide +kernel, by decide +kernel⟩, gw_t 487 (by decide +kernel) (by decide +kernel), gw_in (List.mem_append_left _ (List.mem_of_getElem? (i := 7) (by decide +kernel))) (by decide +kernel), gw_t 7 (by decide +kernel) (by decide +kernel), gw_t 488 (by decide +kernel) (by decide +kernel)⟩
theorem mw_X3_isThrownFrom : MW yX3_isThrownFrom (RRf 3) cX3_isThrownFrom 3 (some .boolean) 2 := ⟨⟨rfl, by decide +kernel, by decide +kernel, by decide +kernel⟩, gw_t 478 (by decide +kernel) (by decide +kernel), gw_t 479 (by decide +kernel) (by decide +kernel), gw_t 7 (by decide +kernel) (by decide +kernel), gw_t 480 (by decide +kernel) (by decide +kernel)⟩
theorem mw_X3_placeAt : MW yX3_placeAt (RRf 3) cX3_placeAt 3 (some .int) 2 := ⟨⟨rfl, by decide +kernel, by decide +kernel, by decide +kernel⟩, gw_t 482 (by decide +kernel) (by decide +kernel), gw_t 483 (by decide +kernel) (by decide +kernel), gw_t 7 (by decide +kernel) (by decide +kernel), gw_t 484 (by decide +kernel) (by decide +kernel)⟩
theorem mw_X3_readClause : MW yX3_readClause (RRf 3) cX3_readClause 3 none 2 := ⟨⟨rfl, by decide +kernel, by decide +kernel, by decide +kernel⟩, gw_t 759 (by decide +kernel) (by decide +kernel), gw_in (List.mem_append_left _ (List.mem_of_getElem? (i := 20) (by decide +kernel))) (by decide +kernel), gw_t 7 (by decide +kernel) (by decide +kernel), gw_t 760 (by decide +kernel) (by decide +kernel)⟩
theorem mw_X3_readThing : MW yX3_readThing (RRf 3) cX3_readThing 2 none 1 := ⟨⟨rfl, by decide +kernel, by decide +kernel, by decide +kernel⟩, gw_t 763 (by decide +kernel) (by decide +kernel), gw_in (List.mem_append_left _ (List.mem_of_getElem? (i := 21) (by decide +kernel))) (by decide +kernel), gw_t 7 (by decide +kernel) (by decide +kernel), gw_t 764 (by decide +kernel) (by decide +kernel)⟩
theorem mw_X3_readThrow : MW yX3_readThrow (RRf 3) cX3_readThrow 3 none 1 := ⟨⟨rfl, by decide +kernel, by decide +kernel, by decide +kernel⟩, gw_t 783 (by decide +kernel) (by decide +kernel), gw_in (List.mem_append_left _ (List.mem_of_getElem? (i := 23) (by decide +kernel))) (by decide +kernel), gw_t 7 (by decide +kernel) (by decide +kernel), gw_t 784 (by decide +kernel) (by decide +kernel)⟩
theorem mw_X3_readTurn : MW yX3_readTurn (RRf 3) cX3_readTurn 3 none 1 := ⟨⟨rfl, by decide +kernel, by decide +kernel, by decide +kernel⟩, gw_t 787 (by decide +kernel) (by decide +kernel), gw_in (List.mem_append_left _ (List.mem_of_getElem? (i := 24) (by decide +kernel))) (by decide +kernel), gw_t 7 (by decide +kernel) (by decide +kernel), gw_t 788 (by decide +kernel) (by decide +kernel)⟩
theorem mw_X3_readWay : MW yX3_readWay (RRf 3) cX3_readWay 3 none 1 := ⟨⟨rfl, by decide +kernel, by decide +kernel, by decide +kernel⟩, gw_t 778 (by decide +kernel) (by decide +kernel), gw_in (List.mem_append_left _ (List.mem_of_getElem? (i := 22) (by decide +kernel))) (by decide +kernel), gw_t 7 (by decide +kernel) (by decide +kernel), gw_t 779 (by decide +kernel) (by decide +kernel)⟩
theorem mw_X3_throwsFrom : MW yX3_throwsFrom (RRf 3) cX3_throwsFrom 4 (some .int) 1 := ⟨⟨rfl, by decide +kernel, by decide +kernel, by decide +kernel⟩, gw_t 986 (by decide +kernel) (by decide +kernel), gw_t 987 (by decide +kernel) (by decide +kernel), gw_t 7 (by decide +kernel) (by decide +kernel), gw_t 988 (by decide +kernel) (by decide +kernel)⟩
theorem mw_X3_tintAt : MW yX3_tintAt (RRf 3) cX3_tintAt 3 (some .int) 2 := ⟨⟨rfl, by decide +kernel, by decide +kernel, by decide +kernel⟩, gw_t 521 (by decide +kernel) (by decide +kernel), gw_t 522 (by decide +kernel) (by decide +kernel), gw_t 7 (by decide +kernel) (by decide +kernel), gw_t 523 (by decide +kernel) (by decide +kernel)⟩
theorem mw_X3_turned : MW yX3_turned (RRf 3) cX3_turned 5 (some .boolean) 2 := ⟨⟨rfl, by decide +kernel, by decide +kernel, by decide +kernel⟩, gw_t 513 (by decide +kernel) (by decide +kernel), gw_t 514 (by decide +kernel) (by decide +kernel), gw_t 7 (by decide +kernel) (by decide +kernel), gw_t 515 (by decide +kernel) (by decide +kernel)⟩
theorem mw_X4_addFrom : MW yX4_addFrom (RRf 4) cX4_addFrom 6 none 4 := ⟨⟨rfl, by decide +kernel, by decide +kernel, by decide +kernel⟩, gw_t 559 (by decide +kernel) (by decide +kernel), gw_in (List.mem_append_left _ (List.mem_of_getElem? (i := 12) (by decide +kernel))) (by decide +kernel), gw_t 9 (by decide +kernel) (by decide +kernel), gw_t 560 (by decide +kernel) (by decide +kernel)⟩
theorem mw_X4_drawNow : MW yX4_drawNow (RRf 4) cX4_drawNow 1 (some .int) 0 := ⟨⟨rfl, by decide +kernel, by decide +kernel, by decide +kernel⟩, gw_t 549 (by decide +kernel) (by decide +kernel), gw_in (List.mem_append_left _ (List.mem_of_getElem? (i := 10) (by decide +kernel))) (by decide +kernel), gw_t 9 (by decide +kernel) (by decide +kernel), gw_t 550 (by decide +kernel) (by decide +kernel)⟩
theorem mw_X4_firstSeen : MW yX4_firstSeen (RRf 4) cX4_firstSeen 4 (some .int) 2 := ⟨⟨rfl, by decide +kernel, by decide +kernel, by decide +kernel⟩, gw_t 509 (by decide +kernel) (by decide +kernel), gw_t 510 (by decide +kernel) (by decide +kernel), gw_t 9 (by decide +kernel) (by decide +kernel), gw_t 511 (by decide +kernel) (by decide +kernel)⟩
theorem mw_X4_getsNow : MW yX4_getsNow (RRf 4) cX4_getsNow 4 (some .int) 1 := ⟨⟨rfl, by decide +kernel, by decide +kernel, by decide +kernel⟩, gw_t 533 (by decide +kernel) (by decide +kernel), gw_t 534 (by decide +kernel) (by decide +kernel), gw_t 9 (by decide +kernel) (by decide +kernel), gw_t 535 (by decide +kernel) (by decide +kernel)⟩
theorem mw_X4_heedChangesAlone : MW yX4_heedChangesAlone (RRf 4) cX4_heedChangesAlone 1 none 0 := ⟨⟨rfl, by decide +kernel, by decide +kernel, by decide +kernel⟩, gw_t 1134 (by decide +kernel) (by decide +kernel), gw_t 1135 (by decide +kernel) (by decide +kernel), gw_t 9 (by decide +kernel) (by decide +kernel), gw_t 1136 (by decide +kernel) (by decide +kernel)⟩
theorem mw_X4_judge : MW yX4_judge (RRf 4) cX4_judge 6 (some .int) 1 := ⟨⟨rfl, by decide +kernel, by decide +kernel, by decide +kernel⟩, gw_t 505 (by decide +kernel) (by decide +kernel), gw_t 506 (by decide +kernel) (by decide +kernel), gw_t 9 (by decide +kernel) (by decide +kernel), gw_t 507 (by decide +kernel) (by decide +kernel)⟩
theorem mw_X4_lastOf : MW yX4_lastOf (RRf 4) cX4_lastOf 7 (some .int) 5 := ⟨⟨rfl, by decide +kernel, by decide +kernel, by decide +kernel⟩, gw_t 555 (by decide +kernel) (by decide +kernel), gw_in (List.mem_append_left _ (List.mem_of_getElem? (i := 11) (by decide +kernel))) (by decide +kernel), gw_t 9 (by decide +kernel) (by decide +kernel), gw_t 556 (by decide +kernel) (by decide +kernel)⟩
theorem mw_X4_plain : MW yX4_plain (RRf 4) cX4_plain 1 none 0 := ⟨⟨rfl, by decide +kernel, by decide +kernel, by decide +kernel⟩, gw_t 501 (by decide +kernel) (by decide +kernel), gw_t 502 (by decide +kernel) (by decide +kernel), gw_t 9 (by decide +kernel) (by decide +kernel), gw_t 503 (by decide +kernel) (by decide +kernel)⟩
theorem mw_X4_work : MW yX4_work (RRf 4) cX4_work 7 (some .int) 3 := ⟨⟨rfl, by decide +kernel, by decide +kernel, by decide +kernel⟩, gw_t 538 (by decide +kernel) (by decide +kernel), gw_in (List.mem_append_left _ (List.mem_of_getElem? (i := 9) (by decide +kernel))) (by decide +kernel), gw_t 9 (by decide +kernel) (by decide +kernel), gw_t 539 (by decide +kernel) (by decide +kernel)⟩
theorem mw_X5_blame : MW yX5_blame (RRf 5) cX5_blame 3 none 2 := ⟨⟨rfl, by decide +kernel, by decide +kernel, by decide +kernel⟩, gw_t 754 (by decide +kernel) (by decide +kernel), gw_t 755 (by decide +kernel) (by decide +kernel), gw_t 2 (by decide +kernel) (by decide +kernel), gw_t 756 (by decide +kernel) (by decide +kernel)⟩
theorem mw_X5_clauseWord : MW yX5_clauseWord (RRf 5) cX5_clauseWord 5 (some .int) 3 := ⟨⟨rfl, by decide +kernel, by decide +kernel, by decide +kernel⟩, gw_t 686 (by decide +kernel) (by decide +kernel), gw_t 687 (by decide +kernel) (by decide +kernel), gw_t 2 (by decide +kernel) (by decide +kernel), gw_t 688 (by decide +kernel) (by decide +kernel)⟩
theorem mw_X5_demandNumber : MW yX5_demandNumber (RRf 5) cX5_demandNumber 4 (some .int) 2 := ⟨⟨rfl, by decide +kernel, by decide +kernel, by decide +kernel⟩, gw_t 767 (by decide +kernel) (by decide +kernel), gw_t 768 (by decide +kernel) (by decide +kernel), gw_t 2 (by decide +kernel) (by decide +kernel), gw_t 769 (by decide +kernel) (by decide +kernel)⟩
theorem mw_X5_demandSign : MW yX5_demandSign (RRf 5) cX5_demandSign 3 (some .int) 1 := ⟨⟨rfl, by decide +kernel, by decide +kernel, by decide +kernel⟩, gw_t 791 (by decide +kernel) (by decide +kernel), gw_t 792 (by decide +kernel) (by decide +kernel), gw_t 2 (by decide +kernel) (by decide +kernel), gw_t 793 (by decide +kernel) (by decide +kernel)⟩
theorem mw_X5_hasRoom : MW yX5_hasRoom (RRf 5) cX5_hasRoom 1 (some .boolean) 0 := ⟨⟨rfl, by decide +kernel, by decide +kernel, by decide +kernel⟩, gw_t 418 (by decide +kernel) (by decide +kernel), gw_t 419 (by decide +kernel) (by decide +kernel), gw_t 2 (by decide +kernel) (by decide +kernel), gw_t 420 (by decide +kernel) (by decide +kernel)⟩
theorem mw_X5_isAt : MW yX5_isAt (RRf 5) cX5_isAt 4 (some .boolean) 3 := ⟨⟨rfl, by decide +kernel, by decide +kernel, by decide +kernel⟩, gw_t 699 (by decide +kernel) (by decide +kernel), gw_in (List.mem_append_left _ (List.mem_of_getElem? (i := 18) (by decide +kernel))) (by decide +kernel), gw_t 2 (by decide +kernel) (by decide +kernel), gw_t 700 (by decide +kernel) (by decide +kernel)⟩
theorem mw_X5_isNumberNext : MW yX5_isNumberNext (RRf 5) cX5_isNumberNext 1 (some .boolean) 0 := ⟨⟨rfl, by decide +kernel, by decide +kernel, by decide +kernel⟩, gw_t 771 (by decide +kernel) (by decide +kernel), gw_t 772 (by decide +kernel) (by decide +kernel), gw_t 2 (by decide +kernel) (by decide +kernel), gw_t 773 (by decide +kernel) (by decide +kernel)⟩
theorem mw_X5_put : MW yX5_put (RRf 5) cX5_put 3 none 1 := ⟨⟨rfl, by decide +kernel, by decide +kernel, by decide +kernel⟩, gw_t 422 (by decide +kernel) (by decide +kernel), gw_t 423 (by decide +kernel) (by decide +kernel), gw_t 2 (by decide +kernel) (by decide +kernel), gw_t 424 (by decide +kernel) (by decide +kernel)⟩
theorem mw_X5_skipBlanks : MW yX5_skipBlanks (RRf 5) cX5_skipBlanks 1 none 0 := ⟨⟨rfl, by decide +kernel, by decide +kernel, by decide +kernel⟩, gw_t 695 (by decide +kernel) (by decide +kernel), gw_in (List.mem_append_left _ (List.mem_of_getElem? (i := 17) (by decide +kernel))) (by decide +kernel), gw_t 2 (by decide +kernel) (by decide +kernel), gw_t 696 (by decide +kernel) (by decide +kernel)⟩
theorem mw_X5_takeSign : MW yX5_takeSign (RRf 5) cX5_takeSign 3 (some .int) 1 := ⟨⟨rfl, by decide +kernel, by decide +kernel, by decide +kernel⟩, gw_t 795 (by decide +kernel) (by decide +kernel), gw_t 796 (by decide +kernel) (by decide +kernel), gw_t 2 (by decide +kernel) (by decide +kernel), gw_t 797 (by decide +kernel) (by decide +kernel)⟩
theorem mw_X5_takeWord : MW yX5_takeWord (RRf 5) cX5_takeWord 4 (some .int) 1 := ⟨⟨rfl, by decide +kernel, by decide +kernel, by decide +kernel⟩, gw_t 690 (by decide +kernel) (by decide +kernel), gw_t 691 (by decide +kernel) (by decide +kernel), gw_t 2 (by decide +kernel) (by decide +kernel), gw_t 692 (by decide +kernel) (by decide +kernel)⟩
theorem mw_X5_wordIn : MW yX5_wordIn (RRf 5) cX5_wordIn 7 (some .int) 2 := ⟨⟨rfl, by decide +kernel, by decide +kernel, by decide +kernel⟩, gw_t 703 (by decide +kernel) (by decide +kernel), gw_in (List.mem_append_left _ (List.mem_of_getElem? (i := 19) (by decide +kernel))) (by decide +kernel), gw_t 2 (by decide +kernel) (by decide +kernel), gw_t 704 (by decide +kernel) (by decide +kernel)⟩
theorem mw_X6_put : MW yX6_put (RRf 6) cX6_put 3 none 2 := ⟨⟨rfl, by decide +kernel, by decide +kernel, by decide +kernel⟩, gw_t 830 (by decide +kernel) (by decide +kernel), gw_in (List.mem_append_left _ (List.mem_of_getElem? (i := 27) (by decide +kernel))) (by decide +kernel), gw_t 8 (by decide +kernel) (by decide +kernel), gw_t 831 (by decide +kernel) (by decide +kernel)⟩
theorem mw_X7_bend : MW yX7_bend (RRf 7) cX7_bend 3 none 2 := ⟨⟨rfl, by decide +kernel, by decide +kernel, by decide +kernel⟩, gw_t 466 (by decide +kernel) (by decide +kernel), gw_t 467 (by decide +kernel) (by decide +kernel), gw_t 6 (by decide +kernel) (by decide +kernel), gw_t 468 (by decide +kernel) (by decide +kernel)⟩
theorem mw_X7_clearLatest : MW yX7_clearLatest (RRf 7) cX7_clearLatest 3 none 1 := ⟨⟨rfl, by decide +kernel, by decide +kernel, by decide +kernel⟩, gw_t 475 (by decide +kernel) (by decide +kernel), gw_in (List.mem_append_left _ (List.mem_of_getElem? (i := 6) (by decide +kernel))) (by decide +kernel), gw_t 6 (by decide +kernel) (by decide +kernel), gw_t 476 (by decide +kernel) (by decide +kernel)⟩
theorem mw_X7_follow : MW yX7_follow (RRf 7) cX7_follow 5 none 1 := ⟨⟨rfl, by decide +kernel, by decide +kernel, by decide +kernel⟩, gw_t 471 (by decide +kernel) (by decide +kernel), gw_in (List.mem_append_left _ (List.mem_of_getElem? (i := 5) (by decide +kernel))) (by decide +kernel), gw_t 6 (by decide +kernel) (by decide +kernel), gw_t 472 (by decide +kernel) (by decide +kernel)⟩
theorem mw_X7_heed : MW yX7_heed (RRf 7) cX7_heed 6 none 3 := ⟨⟨rfl, by decide +kernel, by decide +kernel, by decide +kernel⟩, gw_t 490 (by decide +kernel) (by decide +kernel), gw_t 491 (by decide +kernel) (by decide +kernel), gw_t 6 (by decide +kernel) (by decide +kernel), gw_t 492 (by decide +kernel) (by decide +kernel)⟩
theorem mw_X7_isDropped : MW yX7_isDropped (RRf 7) cX7_isDropped 2 (some .boolean) 0 := ⟨⟨rfl, by decide +kernel, by decide +kernel, by decide +kernel⟩, gw_t 1108 (by decide +kernel) (by decide +kernel), gw_in (List.mem_append_left _ (List.mem_of_getElem? (i := 41) (by decide +kernel))) (by decide +kernel), gw_t 6 (by decide +kernel) (by decide +kernel), gw_t 1109 (by decide +kernel) (by decide +kernel)⟩
theorem mw_X7_nearInTenth : MW yX7_nearInTenth (RRf 7) cX7_nearInTenth 4 (some .int) 2 := ⟨⟨rfl, by decide +kernel, by decide +kernel, by decide +kernel⟩, gw_t 1047 (by decide +kernel) (by decide +kernel), gw_in (List.mem_append_left _ (List.mem_of_getElem? (i := 39) (by decide +kernel))) (by decide +kernel), gw_t 6 (by decide +kernel) (by decide +kernel), gw_t 1048 (by decide +kernel) (by decide +kernel)⟩
theorem mw_X7_open : MW yX7_open (RRf 7) cX7_open 5 none 4 := ⟨⟨rfl, by decide +kernel, by decide +kernel, by decide +kernel⟩, gw_t 462 (by decide +kernel) (by decide +kernel), gw_t 463 (by decide +kernel) (by decide +kernel), gw_t 6 (by decide +kernel) (by decide +kernel), gw_t 464 (by decide +kernel) (by decide +kernel)⟩
theorem mw_X7_regard : MW yX7_regard (RRf 7) cX7_regard 8 none 2 := ⟨⟨rfl, by decide +kernel, by decide +kernel, by decide +kernel⟩, gw_t 517 (by decide +kernel) (by decide +kernel), gw_t 518 (by decide +kernel) (by decide +kernel), gw_t 6 (by decide +kernel) (by decide +kernel), gw_t 519 (by decide +kernel) (by decide +kernel)⟩
theorem mw_X7_shut : MW yX7_shut (RRf 7) cX7_shut 4 none 2 := ⟨⟨rfl, by decide +kernel, by decide +kernel, by decide +kernel⟩, gw_t 498 (by decide +kernel) (by decide +kernel), gw_in (List.mem_append_left _ (List.mem_of_getElem? (i := 8) (by decide +kernel))) (by decide +kernel), gw_t 6 (by decide +kernel) (by decide +kernel), gw_t 499 (by decide +kernel) (by decide +kernel)⟩
theorem mw_X7_tenthsWithin : MW yX7_tenthsWithin (RRf 7) cX7_tenthsWithin 4 (some .int) 1 := ⟨⟨rfl, by decide +kernel, by decide +kernel, by decide +kernel⟩, gw_t 1042 (by decide +kernel) (by decide +kernel), gw_t 1043 (by decide +kernel) (by decide +kernel), gw_t 6 (by decide +kernel) (by decide +kernel), gw_t 1044 (by decide +kernel) (by decide +kernel)⟩
theorem mw_X8_forgetStates : MW yX8_forgetStates (RRf 8) cX8_forgetStates 3 none 1 := ⟨⟨rfl, by decide +kernel, by decide +kernel, by decide +kernel⟩, gw_t 596 (by decide +kernel) (by decide +kernel), gw_in (List.mem_append_left _ (List.mem_of_getElem? (i := 15) (by decide +kernel))) (by decide +kernel), gw_t 1 (by decide +kernel) (by decide +kernel), gw_t 597 (by decide +kernel) (by decide +kernel)⟩
theorem mw_X8_isHeard : MW yX8_isHeard (RRf 8) cX8_isHeard 2 (some .boolean) 1 := ⟨⟨rfl, by decide +kernel, by decide +kernel, by decide +kernel⟩, gw_t 439 (by decide +kernel) (by decide +kernel), gw_in (List.mem_append_left _ (List.mem_of_getElem? (i := 1) (by decide +kernel))) (by decide +kernel), gw_t 1 (by decide +kernel) (by decide +kernel), gw_t 440 (by decide +kernel) (by decide +kernel)⟩
theorem mw_X8_lesserOdds : MW yX8_lesserOdds (RRf 8) cX8_lesserOdds 8 (some .long) 2 := ⟨⟨rfl, by decide +kernel, by decide +kernel, by decide +kernel⟩, gw_t 570 (by decide +kernel) (by decide +kernel), gw_in (List.mem_append_left _ (List.mem_of_getElem? (i := 13) (by decide +kernel))) (by decide +kernel), gw_t 1 (by decide +kernel) (by decide +kernel), gw_t 571 (by decide +kernel) (by decide +kernel)⟩
theorem mw_X8_lookAs : MW yX8_lookAs (RRf 8) cX8_lookAs 3 none 2 := ⟨⟨rfl, by decide +kernel, by decide +kernel, by decide +kernel⟩, gw_t 459 (by decide +kernel) (by decide +kernel), gw_in (List.mem_append_left _ (List.mem_of_getElem? (i := 4) (by decide +kernel))) (by decide +kernel), gw_t 1 (by decide +kernel) (by decide +kernel), gw_t 460 (by decide +kernel) (by decide +kernel)⟩
theorem mw_X8_lostBy : MW yX8_lostBy (RRf 8) cX8_lostBy 3 (some .int) 1 := ⟨⟨rfl, by decide +kernel, by decide +kernel, by decide +kernel⟩, gw_t 1247 (by decide +kernel) (by decide +kernel), gw_in (List.mem_append_left _ (List.mem_of_getElem? (i := 44) (by decide +kernel))) (by decide +kernel), gw_t 1 (by decide +kernel) (by decide +kernel), gw_t 1248 (by decide +kernel) (by decide +kernel)⟩
theorem mw_X8_oddsOf : MW yX8_oddsOf (RRf 8) cX8_oddsOf 6 (some .long) 1 := ⟨⟨rfl, by decide +kernel, by decide +kernel, by decide +kernel⟩, gw_t 435 (by decide +kernel) (by decide +kernel), gw_in (List.mem_append_left _ (List.mem_of_getElem? (i := 0) (by decide +kernel))) (by decide +kernel), gw_t 1 (by decide +kernel) (by decide +kernel), gw_t 436 (by decide +kernel) (by decide +kernel)⟩
theorem mw_X8_sceneFor : MW yX8_sceneFor (RRf 8) cX8_sceneFor 2 (some (.object "MiddleUnseen$Scene")) 1 := ⟨⟨rfl, by decide +kernel, by decide +kernel, by decide +kernel⟩, gw_t 443 (by decide +kernel) (by decide +kernel), gw_in (List.mem_append_left _ (List.mem_of_getElem? (i := 2) (by decide +kernel))) (by decide +kernel), gw_t 1 (by decide +kernel) (by decide +kernel), gw_t 444 (by decide +kernel) (by decide +kernel)⟩
theorem mw_X8_stateOf : MW yX8_stateOf (RRf 8) cX8_stateOf 4 (some .int) 2 := ⟨⟨rfl, by decide +kernel, by decide +kernel, by decide +kernel⟩, gw_t 455 (by decide +kernel) (by decide +kernel), gw_in (List.mem_append_left _ (List.mem_of_getElem? (i := 3) (by decide +kernel))) (by decide +kernel), gw_t 1 (by decide +kernel) (by decide +kernel), gw_t 456 (by decide +kernel) (by decide +kernel)⟩
theorem mw_X8_stateOfNew : MW yX8_stateOfNew (RRf 8) cX8_stateOfNew 5 (some .int) 3 := ⟨⟨rfl, by decide +kernel, by decide +kernel, by decide +kernel⟩, gw_t 574 (by decide +kernel) (by decide +kernel), gw_in (List.mem_append_left _ (List.mem_of_getElem? (i := 14) (by decide +kernel))) (by decide +kernel), gw_t 1 (by decide +kernel) (by decide +kernel), gw_t 575 (by decide +kernel) (by decide +kernel)⟩
theorem mw_X9_asked : MW yX9_asked (RRf 9) cX9_asked 6 (some .int) 3 := ⟨⟨rfl, by decide +kernel, by decide +kernel, by decide +kernel⟩, gw_t 1871 (by decide +kernel) (by decide +kernel), gw_in (List.mem_append_left _ (List.mem_of_getElem? (i := 113) (by decide +kernel))) (by decide +kernel), gw_t 10 (by decide +kernel) (by decide +kernel), gw_t 1872 (by decide +kernel) (by decide +kernel)⟩
theorem mw_X9_bad : MW yX9_bad (RRf 9) cX9_bad 3 (some .boolean) 2 := ⟨⟨rfl, by decide +kernel, by decide +kernel, by decide +kernel⟩, gw_t 1484 (by decide +kernel) (by decide +kernel), gw_in (List.mem_append_left _ (List.mem_of_getElem? (i := 47) (by decide +kernel))) (by decide +kernel), gw_t 10 (by decide +kernel) (by decide +kernel), gw_t 1485 (by decide +kernel) (by decide +kernel)⟩
theorem mw_X9_begins : MW yX9_begins (RRf 9) cX9_begins 2 none 1 := ⟨⟨rfl, by decide +kernel, by decide +kernel, by decide +kernel⟩, gw_t 1492 (by decide +kernel) (by decide +kernel), gw_in (List.mem_append_left _ (List.mem_of_getElem? (i := 49) (by decide +kernel))) (by decide +kernel), gw_t 10 (by decide +kernel) (by decide +kernel), gw_t 1493 (by decide +kernel) (by decide +kernel)⟩
theorem mw_X9_blanks : MW yX9_blanks (RRf 9) cX9_blanks 1 none 0 := ⟨⟨rfl, by decide +kernel, by decide +kernel, by decide +kernel⟩, gw_t 1496 (by decide +kernel) (by decide +kernel), gw_in (List.mem_append_left _ (List.mem_of_getElem? (i := 50) (by decide +kernel))) (by decide +kernel), gw_t 10 (by decide +kernel) (by decide +kernel), gw_t 1497 (by decide +kernel) (by decide +kernel)⟩
theorem mw_X9_byteAt : MW yX9_byteAt (RRf 9) cX9_byteAt 2 (some .int) 1 := ⟨⟨rfl, by decide +kernel, by decide +kernel, by decide +kernel⟩, gw_t 1500 (by decide +kernel) (by decide +kernel), gw_in (List.mem_append_left _ (List.mem_of_getElem? (i := 51) (by decide +kernel))) (by decide +kernel), gw_t 10 (by decide +kernel) (by decide +kernel), gw_t 1501 (by decide +kernel) (by decide +kernel)⟩
theorem mw_X9_changeOf : MW yX9_changeOf (RRf 9) cX9_changeOf 4 (some .int) 2 := ⟨⟨rfl, by decide +kernel, by decide +kernel, by decide +kernel⟩, gw_t 1843 (by decide +kernel) (by decide +kernel), gw_in (List.mem_append_left _ (List.mem_of_getElem? (i := 112) (by decide +kernel))) (by decide +kernel), gw_t 10 (by decide +kernel) (by decide +kernel), gw_t 1844 (by decide +kernel) (by decide +kernel)⟩
theorem mw_X9_colourOf : MW yX9_colourOf (RRf 9) cX9_colourOf 6 (some .int) 3 := ⟨⟨rfl, by decide +kernel, by decide +kernel, by decide +kernel⟩, gw_t 1657 (by decide +kernel) (by decide +kernel), gw_in (List.mem_append_left _ (List.mem_of_getElem? (i := 82) (by decide +kernel))) (by decide +kernel), gw_t 10 (by decide +kernel) (by decide +kernel), gw_t 1658 (by decide +kernel) (by decide +kernel)⟩
theorem mw_X9_comes : MW yX9_comes (RRf 9) cX9_comes 6 none 4 := ⟨⟨rfl, by decide +kernel, by decide +kernel, by decide +kernel⟩, gw_t 1700 (by decide +kernel) (by decide +kernel), gw_in (List.mem_append_left _ (List.mem_of_getElem? (i := 89) (by decide +kernel))) (by decide +kernel), gw_t 10 (by decide +kernel) (by decide +kernel), gw_t 1701 (by decide +kernel) (by decide +kernel)⟩
theorem mw_X9_countOf : MW yX9_countOf (RRf 9) cX9_countOf 5 (some .int) 2 := ⟨⟨rfl, by decide +kernel, by decide +kernel, by decide +kernel⟩, gw_t 1626 (by decide +kernel) (by decide +kernel), gw_in (List.mem_append_left _ (List.mem_of_getElem? (i := 76) (by decide +kernel))) (by decide +kernel), gw_t 10 (by decide +kernel) (by decide +kernel), gw_t 1627 (by decide +kernel) (by decide +kernel)⟩
theorem mw_X9_endOf : MW yX9_endOf (RRf 9) cX9_endOf 4 (some .int) 1 := ⟨⟨rfl, by decide +kernel, by decide +kernel, by decide +kernel⟩, gw_t 1630 (by decide +kernel) (by decide +kernel), gw_in (List.mem_append_left _ (List.mem_of_getElem? (i := 77) (by decide +kernel))) (by decide +kernel), gw_t 10 (by decide +kernel) (by decide +kernel), gw_t 1631 (by decide +kernel) (by decide +kernel)⟩
theorem mw_X9_eyeOf : MW yX9_eyeOf (RRf 9) cX9_eyeOf 3 (some .int) 2 := ⟨⟨rfl, by decide +kernel, by decide +kernel, by decide +kernel⟩, gw_t 1720 (by decide +kernel) (by decide +kernel), gw_in (List.mem_append_left _ (List.mem_of_getElem? (i := 91) (by decide +kernel))) (by decide +kernel), gw_t 10 (by decide +kernel) (by decide +kernel), gw_t 1721 (by decide +kernel) (by decide +kernel)⟩
theorem mw_X9_fitting : MW yX9_fitting (RRf 9) cX9_fitting 6 (some .int) 1 := ⟨⟨rfl, by decide +kernel, by decide +kernel, by decide +kernel⟩, gw_t 1957 (by decide +kernel) (by decide +kernel), gw_in (List.mem_append_left _ (List.mem_of_getElem? (i := 122) (by decide +kernel))) (by decide +kernel), gw_t 10 (by decide +kernel) (by decide +kernel), gw_t 1958 (by decide +kernel) (by decide +kernel)⟩
theorem mw_X9_fullOf : MW yX9_fullOf (RRf 9) cX9_fullOf 6 (some .int) 2 := ⟨⟨rfl, by decide +kernel, by decide +kernel, by decide +kernel⟩, gw_t 1748 (by decide +kernel) (by decide +kernel), gw_in (List.mem_append_left _ (List.mem_of_getElem? (i := 97) (by decide +kernel))) (by decide +kernel), gw_t 10 (by decide +kernel) (by decide +kernel), gw_t 1749 (by decide +kernel) (by decide +kernel)⟩
theorem mw_X9_getsIn : MW yX9_getsIn (RRf 9) cX9_getsIn 5 (some .int) 4 := ⟨⟨rfl, by decide +kernel, by decide +kernel, by decide +kernel⟩, gw_t 1764 (by decide +kernel) (by decide +kernel), gw_in (List.mem_append_left _ (List.mem_of_getElem? (i := 99) (by decide +kernel))) (by decide +kernel), gw_t 10 (by decide +kernel) (by decide +kernel), gw_t 1765 (by decide +kernel) (by decide +kernel)⟩
theorem mw_X9_getsNow : MW yX9_getsNow (RRf 9) cX9_getsNow 5 (some .int) 1 := ⟨⟨rfl, by decide +kernel, by decide +kernel, by decide +kernel⟩, gw_t 1768 (by decide +kernel) (by decide +kernel), gw_in (List.mem_append_left _ (List.mem_of_getElem? (i := 100) (by decide +kernel))) (by decide +kernel), gw_t 10 (by decide +kernel) (by decide +kernel), gw_t 1769 (by decide +kernel) (by decide +kernel)⟩
theorem mw_X9_goes : MW yX9_goes (RRf 9) cX9_goes 11 none 6 := ⟨⟨rfl, by decide +kernel, by decide +kernel, by decide +kernel⟩, gw_t 1802 (by decide +kernel) (by decide +kernel), gw_in (List.mem_append_left _ (List.mem_of_getElem? (i := 106) (by decide +kernel))) (by decide +kernel), gw_t 10 (by decide +kernel) (by decide +kernel), gw_t 1803 (by decide +kernel) (by decide +kernel)⟩
theorem mw_X9_holds : MW yX9_holds (RRf 9) cX9_holds 3 (some .boolean) 2 := ⟨⟨rfl, by decide +kernel, by decide +kernel, by decide +kernel⟩, gw_t 1772 (by decide +kernel) (by decide +kernel), gw_in (List.mem_append_left _ (List.mem_of_getElem? (i := 101) (by decide +kernel))) (by decide +kernel), gw_t 10 (by decide +kernel) (by decide +kernel), gw_t 1773 (by decide +kernel) (by decide +kernel)⟩
theorem mw_X9_isAlike : MW yX9_isAlike (RRf 9) cX9_isAlike 3 (some .boolean) 2 := ⟨⟨rfl, by decide +kernel, by decide +kernel, by decide +kernel⟩, gw_t 1945 (by decide +kernel) (by decide +kernel), gw_in (List.mem_append_left _ (List.mem_of_getElem? (i := 121) (by decide +kernel))) (by decide +kernel), gw_t 10 (by decide +kernel) (by decide +kernel), gw_t 1946 (by decide +kernel) (by decide +kernel)⟩
theorem mw_X9_isAsked : MW yX9_isAsked (RRf 9) cX9_isAsked 2 (some .boolean) 1 := ⟨⟨rfl, by decide +kernel, by decide +kernel, by decide +kernel⟩, gw_t 1941 (by decide +kernel) (by decide +kernel), gw_in (List.mem_append_left _ (List.mem_of_getElem? (i := 120) (by decide +kernel))) (by decide +kernel), gw_t 10 (by decide +kernel) (by decide +kernel), gw_t 1942 (by decide +kernel) (by decide +kernel)⟩
theorem mw_X9_isChanged : MW yX9_isChanged (RRf 9) cX9_isChanged 5 (some .boolean) 3 := ⟨⟨rfl, by decide +kernel, by decide +kernel, by decide +kernel⟩, gw_t 1672 (by decide +kernel) (by decide +kernel), gw_in (List.mem_append_left _ (List.mem_of_getElem? (i := 85) (by decide +kernel))) (by decide +kernel), gw_t 10 (by decide +kernel) (by decide +kernel), gw_t 1673 (by decide +kernel) (by decide +kernel)⟩
theorem mw_X9_isCounted : MW yX9_isCounted (RRf 9) cX9_isCounted 4 (some .boolean) 3 := ⟨⟨rfl, by decide +kernel, by decide +kernel, by decide +kernel⟩, gw_t 1692 (by decide +kernel) (by decide +kernel), gw_in (List.mem_append_left _ (List.mem_of_getElem? (i := 88) (by decide +kernel))) (by decide +kernel), gw_t 10 (by decide +kernel) (by decide +kernel), gw_t 1693 (by decide +kernel) (by decide +kernel)⟩
theorem mw_X9_isDropped : MW yX9_isDropped (RRf 9) cX9_isDropped 5 (some .boolean) 2 := ⟨⟨rfl, by decide +kernel, by decide +kernel, by decide +kernel⟩, gw_t 1827 (by decide +kernel) (by decide +kernel), gw_in (List.mem_append_left _ (List.mem_of_getElem? (i := 110) (by decide +kernel))) (by decide +kernel), gw_t 10 (by decide +kernel) (by decide +kernel), gw_t 1828 (by decide +kernel) (by decide +kernel)⟩
theorem mw_X9_isForgotten : MW yX9_isForgotten (RRf 9) cX9_isForgotten 4 (some .boolean) 2 := ⟨⟨rfl, by decide +kernel, by decide +kernel, by decide +kernel⟩, gw_t 1819 (by decide +kernel) (by decide +kernel), gw_in (List.mem_append_left _ (List.mem_of_getElem? (i := 109) (by decide +kernel))) (by decide +kernel), gw_t 10 (by decide +kernel) (by decide +kernel), gw_t 1820 (by decide +kernel) (by decide +kernel)⟩
theorem mw_X9_isInGroup : MW yX9_isInGroup (RRf 9) cX9_isInGroup 5 (some .boolean) 4 := ⟨⟨rfl, by decide +kernel, by decide +kernel, by decide +kernel⟩, gw_t 1875 (by decide +kernel) (by decide +kernel), gw_in (List.mem_append_left _ (List.mem_of_getElem? (i := 114) (by decide +kernel))) (by decide +kernel), gw_t 10 (by decide +kernel) (by decide +kernel), gw_t 1876 (by decide +kernel) (by decide +kernel)⟩
theorem mw_X9_isLaw : MW yX9_isLaw (RRf 9) cX9_isLaw 2 (some .boolean) 1 := ⟨⟨rfl, by decide +kernel, by decide +kernel, by decide +kernel⟩, gw_t 1760 (by decide +kernel) (by decide +kernel), gw_in (List.mem_append_left _ (List.mem_of_getElem? (i := 98) (by decide +kernel))) (by decide +kernel), gw_t 10 (by decide +kernel) (by decide +kernel), gw_t 1761 (by decide +kernel) (by decide +kernel)⟩
theorem mw_X9_isLooker : MW yX9_isLooker (RRf 9) cX9_isLooker 2 (some .boolean) 1 := ⟨⟨rfl, by decide +kernel, by decide +kernel, by decide +kernel⟩, gw_t 1708 (by decide +kernel) (by decide +kernel), gw_in (List.mem_append_left _ (List.mem_of_getElem? (i := 90) (by decide +kernel))) (by decide +kernel), gw_t 10 (by decide +kernel) (by decide +kernel), gw_t 1709 (by decide +kernel) (by decide +kernel)⟩
theorem mw_X9_isOf : MW yX9_isOf (RRf 9) cX9_isOf 4 (some .boolean) 3 := ⟨⟨rfl, by decide +kernel, by decide +kernel, by decide +kernel⟩, gw_t 1879 (by decide +kernel) (by decide +kernel), gw_in (List.mem_append_left _ (List.mem_of_getElem? (i := 115) (by decide +kernel))) (by decide +kernel), gw_t 10 (by decide +kernel) (by decide +kernel), gw_t 1880 (by decide +kernel) (by decide +kernel)⟩
theorem mw_X9_isRead : MW yX9_isRead (RRf 9) cX9_isRead 3 (some .boolean) 2 := ⟨⟨rfl, by decide +kernel, by decide +kernel, by decide +kernel⟩, gw_t 1488 (by decide +kernel) (by decide +kernel), gw_in (List.mem_append_left _ (List.mem_of_getElem? (i := 48) (by decide +kernel))) (by decide +kernel), gw_t 10 (by decide +kernel) (by decide +kernel), gw_t 1489 (by decide +kernel) (by decide +kernel)⟩
theorem mw_X9_isScene : MW yX9_isScene (RRf 9) cX9_isScene 2 (some .boolean) 1 := ⟨⟨rfl, by decide +kernel, by decide +kernel, by decide +kernel⟩, gw_t 1622 (by decide +kernel) (by decide +kernel), gw_in (List.mem_append_left _ (List.mem_of_getElem? (i := 75) (by decide +kernel))) (by decide +kernel), gw_t 10 (by decide +kernel) (by decide +kernel), gw_t 1623 (by decide +kernel) (by decide +kernel)⟩
theorem mw_X9_isShut : MW yX9_isShut (RRf 9) cX9_isShut 4 (some .boolean) 2 := ⟨⟨rfl, by decide +kernel, by decide +kernel, by decide +kernel⟩, gw_t 1724 (by decide +kernel) (by decide +kernel), gw_in (List.mem_append_left _ (List.mem_of_getElem? (i := 92) (by decide +kernel))) (by decide +kernel), gw_t 10 (by decide +kernel) (by decide +kernel), gw_t 1725 (by decide +kernel) (by decide +kernel)⟩
theorem mw_X9_isTask : MW yX9_isTask (RRf 9) cX9_isTask 2 (some .boolean) 1 := ⟨⟨rfl, by decide +kernel, by decide +kernel, by decide +kernel⟩, gw_t 1680 (by decide +kernel) (by decide +kernel), gw_in (List.mem_append_left _ (List.mem_of_getElem? (i := 86) (by decide +kernel))) (by decide +kernel), gw_t 10 (by decide +kernel) (by decide +kernel), gw_t 1681 (by decide +kernel) (by decide +kernel)⟩
theorem mw_X9_isThere : MW yX9_isThere (RRf 9) cX9_isThere 4 (some .boolean) 3 := ⟨⟨rfl, by decide +kernel, by decide +kernel, by decide +kernel⟩, gw_t 1665 (by decide +kernel) (by decide +kernel), gw_in (List.mem_append_left _ (List.mem_of_getElem? (i := 84) (by decide +kernel))) (by decide +kernel), gw_t 10 (by decide +kernel) (by decide +kernel), gw_t 1666 (by decide +kernel) (by decide +kernel)⟩
theorem mw_X9_isThing : MW yX9_isThing (RRf 9) cX9_isThing 3 (some .boolean) 2 := ⟨⟨rfl, by decide +kernel, by decide +kernel, by decide +kernel⟩, gw_t 1736 (by decide +kernel) (by decide +kernel), gw_in (List.mem_append_left _ (List.mem_of_getElem? (i := 94) (by decide +kernel))) (by decide +kernel), gw_t 10 (by decide +kernel) (by decide +kernel), gw_t 1737 (by decide +kernel) (by decide +kernel)⟩
theorem mw_X9_isUnsure : MW yX9_isUnsure (RRf 9) cX9_isUnsure 3 (some .boolean) 2 := ⟨⟨rfl, by decide +kernel, by decide +kernel, by decide +kernel⟩, gw_t 1815 (by decide +kernel) (by decide +kernel), gw_in (List.mem_append_left _ (List.mem_of_getElem? (i := 108) (by decide +kernel))) (by decide +kernel), gw_t 10 (by decide +kernel) (by decide +kernel), gw_t 1816 (by decide +kernel) (by decide +kernel)⟩
theorem mw_X9_isWord : MW yX9_isWord (RRf 9) cX9_isWord 7 (some .boolean) 6 := ⟨⟨rfl, by decide +kernel, by decide +kernel, by decide +kernel⟩, gw_t 1512 (by decide +kernel) (by decide +kernel), gw_in (List.mem_append_left _ (List.mem_of_getElem? (i := 54) (by decide +kernel))) (by decide +kernel), gw_t 10 (by decide +kernel) (by decide +kernel), gw_t 1513 (by decide +kernel) (by decide +kernel)⟩
theorem mw_X9_lastOf : MW yX9_lastOf (RRf 9) cX9_lastOf 9 (some .int) 5 := ⟨⟨rfl, by decide +kernel, by decide +kernel, by decide +kernel⟩, gw_t 1790 (by decide +kernel) (by decide +kernel), gw_in (List.mem_append_left _ (List.mem_of_getElem? (i := 104) (by decide +kernel))) (by decide +kernel), gw_t 10 (by decide +kernel) (by decide +kernel), gw_t 1791 (by decide +kernel) (by decide +kernel)⟩
theorem mw_X9_lawHere : MW yX9_lawHere (RRf 9) cX9_lawHere 1 (some .int) 0 := ⟨⟨rfl, by decide +kernel, by decide +kernel, by decide +kernel⟩, gw_t 1574 (by decide +kernel) (by decide +kernel), gw_in (List.mem_append_left _ (List.mem_of_getElem? (i := 65) (by decide +kernel))) (by decide +kernel), gw_t 10 (by decide +kernel) (by decide +kernel), gw_t 1575 (by decide +kernel) (by decide +kernel)⟩
theorem mw_X9_lineNow : MW yX9_lineNow (RRf 9) cX9_lineNow 2 (some .int) 1 := ⟨⟨rfl, by decide +kernel, by decide +kernel, by decide +kernel⟩, gw_t 1786 (by decide +kernel) (by decide +kernel), gw_in (List.mem_append_left _ (List.mem_of_getElem? (i := 103) (by decide +kernel))) (by decide +kernel), gw_t 10 (by decide +kernel) (by decide +kernel), gw_t 1787 (by decide +kernel) (by decide +kernel)⟩
theorem mw_X9_looks : MW yX9_looks (RRf 9) cX9_looks 7 (some .int) 2 := ⟨⟨rfl, by decide +kernel, by decide +kernel, by decide +kernel⟩, gw_t 1728 (by decide +kernel) (by decide +kernel), gw_in (List.mem_append_left _ (List.mem_of_getElem? (i := 93) (by decide +kernel))) (by decide +kernel), gw_t 10 (by decide +kernel) (by decide +kernel), gw_t 1729 (by decide +kernel) (by decide +kernel)⟩
theorem mw_X9_lostBy : MW yX9_lostBy (RRf 9) cX9_lostBy 6 (some .int) 3 := ⟨⟨rfl, by decide +kernel, by decide +kernel, by decide +kernel⟩, gw_t 1917 (by decide +kernel) (by decide +kernel), gw_in (List.mem_append_left _ (List.mem_of_getElem? (i := 118) (by decide +kernel))) (by decide +kernel), gw_t 10 (by decide +kernel) (by decide +kernel), gw_t 1918 (by decide +kernel) (by decide +kernel)⟩
theorem mw_X9_lostOf : MW yX9_lostOf (RRf 9) cX9_lostOf 3 (some .int) 1 := ⟨⟨rfl, by decide +kernel, by decide +kernel, by decide +kernel⟩, gw_t 1909 (by decide +kernel) (by decide +kernel), gw_in (List.mem_append_left _ (List.mem_of_getElem? (i := 117) (by decide +kernel))) (by decide +kernel), gw_t 10 (by decide +kernel) (by decide +kernel), gw_t 1910 (by decide +kernel) (by decide +kernel)⟩
theorem mw_X9_moves : MW yX9_moves (RRf 9) cX9_moves 4 (some .int) 3 := ⟨⟨rfl, by decide +kernel, by decide +kernel, by decide +kernel⟩, gw_t 1981 (by decide +kernel) (by decide +kernel), gw_in (List.mem_append_left _ (List.mem_of_getElem? (i := 124) (by decide +kernel))) (by decide +kernel), gw_t 10 (by decide +kernel) (by decide +kernel), gw_t 1982 (by decide +kernel) (by decide +kernel)⟩
theorem mw_X9_movesAll : MW yX9_movesAll (RRf 9) cX9_movesAll 5 none 2 := ⟨⟨rfl, by decide +kernel, by decide +kernel, by decide +kernel⟩, gw_t 1977 (by decide +kernel) (by decide +kernel), gw_in (List.mem_append_left _ (List.mem_of_getElem? (i := 123) (by decide +kernel))) (by decide +kernel), gw_t 10 (by decide +kernel) (by decide +kernel), gw_t 1978 (by decide +kernel) (by decide +kernel)⟩
theorem mw_X9_movesRow : MW yX9_movesRow (RRf 9) cX9_movesRow 5 none 3 := ⟨⟨rfl, by decide +kernel, by decide +kernel, by decide +kernel⟩, gw_t 1985 (by decide +kernel) (by decide +kernel), gw_in (List.mem_append_left _ (List.mem_of_getElem? (i := 125) (by decide +kernel))) (by decide +kernel), gw_t 10 (by decide +kernel) (by decide +kernel), gw_t 1986 (by decide +kernel) (by decide +kernel)⟩
theorem mw_X9_nearOf : MW yX9_nearOf (RRf 9) cX9_nearOf 8 (some .int) 3 := ⟨⟨rfl, by decide +kernel, by decide +kernel, by decide +kernel⟩, gw_t 1744 (by decide +kernel) (by decide +kernel), gw_in (List.mem_append_left _ (List.mem_of_getElem? (i := 96) (by decide +kernel))) (by decide +kernel), gw_t 10 (by decide +kernel) (by decide +kernel), gw_t 1745 (by decide +kernel) (by decide +kernel)⟩
theorem mw_X9_nearest : MW yX9_nearest (RRf 9) cX9_nearest 5 (some .int) 2 := ⟨⟨rfl, by decide +kernel, by decide +kernel, by decide +kernel⟩, gw_t 1831 (by decide +kernel) (by decide +kernel), gw_in (List.mem_append_left _ (List.mem_of_getElem? (i := 111) (by decide +kernel))) (by decide +kernel), gw_t 10 (by decide +kernel) (by decide +kernel), gw_t 1832 (by decide +kernel) (by decide +kernel)⟩
theorem mw_X9_needs : MW yX9_needs (RRf 9) cX9_needs 3 none 2 := ⟨⟨rfl, by decide +kernel, by decide +kernel, by decide +kernel⟩, gw_t 1523 (by decide +kernel) (by decide +kernel), gw_in (List.mem_append_left _ (List.mem_of_getElem? (i := 56) (by decide +kernel))) (by decide +kernel), gw_t 10 (by decide +kernel) (by decide +kernel), gw_t 1524 (by decide +kernel) (by decide +kernel)⟩
theorem mw_X9_number : MW yX9_number (RRf 9) cX9_number 6 (some .int) 3 := ⟨⟨rfl, by decide +kernel, by decide +kernel, by decide +kernel⟩, gw_t 1535 (by decide +kernel) (by decide +kernel), gw_in (List.mem_append_left _ (List.mem_of_getElem? (i := 59) (by decide +kernel))) (by decide +kernel), gw_t 10 (by decide +kernel) (by decide +kernel), gw_t 1536 (by decide +kernel) (by decide +kernel)⟩
theorem mw_X9_oddOf : MW yX9_oddOf (RRf 9) cX9_oddOf 4 (some .int) 1 := ⟨⟨rfl, by decide +kernel, by decide +kernel, by decide +kernel⟩, gw_t 1637 (by decide +kernel) (by decide +kernel), gw_in (List.mem_append_left _ (List.mem_of_getElem? (i := 78) (by decide +kernel))) (by decide +kernel), gw_t 10 (by decide +kernel) (by decide +kernel), gw_t 1638 (by decide +kernel) (by decide +kernel)⟩
theorem mw_X9_oddsOf : MW yX9_oddsOf (RRf 9) cX9_oddsOf 5 (some .long) 1 := ⟨⟨rfl, by decide +kernel, by decide +kernel, by decide +kernel⟩, gw_t 1937 (by decide +kernel) (by decide +kernel), gw_in (List.mem_append_left _ (List.mem_of_getElem? (i := 119) (by decide +kernel))) (by decide +kernel), gw_t 10 (by decide +kernel) (by decide +kernel), gw_t 1938 (by decide +kernel) (by decide +kernel)⟩
theorem mw_X9_paceOf : MW yX9_paceOf (RRf 9) cX9_paceOf 4 (some .int) 3 := ⟨⟨rfl, by decide +kernel, by decide +kernel, by decide +kernel⟩, gw_t 1661 (by decide +kernel) (by decide +kernel), gw_in (List.mem_append_left _ (List.mem_of_getElem? (i := 83) (by decide +kernel))) (by decide +kernel), gw_t 10 (by decide +kernel) (by decide +kernel), gw_t 1662 (by decide +kernel) (by decide +kernel)⟩
theorem mw_X9_placeOf : MW yX9_placeOf (RRf 9) cX9_placeOf 7 (some .int) 4 := ⟨⟨rfl, by decide +kernel, by decide +kernel, by decide +kernel⟩, gw_t 1649 (by decide +kernel) (by decide +kernel), gw_in (List.mem_append_left _ (List.mem_of_getElem? (i := 80) (by decide +kernel))) (by decide +kernel), gw_t 10 (by decide +kernel) (by decide +kernel), gw_t 1650 (by decide +kernel) (by decide +kernel)⟩
theorem mw_X9_readsWay : MW yX9_readsWay (RRf 9) cX9_readsWay 2 none 1 := ⟨⟨rfl, by decide +kernel, by decide +kernel, by decide +kernel⟩, gw_t 1543 (by decide +kernel) (by decide +kernel), gw_in (List.mem_append_left _ (List.mem_of_getElem? (i := 60) (by decide +kernel))) (by decide +kernel), gw_t 10 (by decide +kernel) (by decide +kernel), gw_t 1544 (by decide +kernel) (by decide +kernel)⟩
theorem mw_X9_saysBy : MW yX9_saysBy (RRf 9) cX9_saysBy 5 (some .boolean) 3 := ⟨⟨rfl, by decide +kernel, by decide +kernel, by decide +kernel⟩, gw_t 1811 (by decide +kernel) (by decide +kernel), gw_in (List.mem_append_left _ (List.mem_of_getElem? (i := 107) (by decide +kernel))) (by decide +kernel), gw_t 10 (by decide +kernel) (by decide +kernel), gw_t 1812 (by decide +kernel) (by decide +kernel)⟩
theorem mw_X9_sceneClause : MW yX9_sceneClause (RRf 9) cX9_sceneClause 3 none 0 := ⟨⟨rfl, by decide +kernel, by decide +kernel, by decide +kernel⟩, gw_t 1504 (by decide +kernel) (by decide +kernel), gw_in (List.mem_append_left _ (List.mem_of_getElem? (i := 52) (by decide +kernel))) (by decide +kernel), gw_t 10 (by decide +kernel) (by decide +kernel), gw_t 1505 (by decide +kernel) (by decide +kernel)⟩
theorem mw_X9_sceneHere : MW yX9_sceneHere (RRf 9) cX9_sceneHere 1 (some .int) 0 := ⟨⟨rfl, by decide +kernel, by decide +kernel, by decide +kernel⟩, gw_t 1508 (by decide +kernel) (by decide +kernel), gw_in (List.mem_append_left _ (List.mem_of_getElem? (i := 53) (by decide +kernel))) (by decide +kernel), gw_t 10 (by decide +kernel) (by decide +kernel), gw_t 1509 (by decide +kernel) (by decide +kernel)⟩
theorem mw_X9_seenOf : MW yX9_seenOf (RRf 9) cX9_seenOf 4 (some .int) 3 := ⟨⟨rfl, by decide +kernel, by decide +kernel, by decide +kernel⟩, gw_t 1798 (by decide +kernel) (by decide +kernel), gw_in (List.mem_append_left _ (List.mem_of_getElem? (i := 105) (by decide +kernel))) (by decide +kernel), gw_t 10 (by decide +kernel) (by decide +kernel), gw_t 1799 (by decide +kernel) (by decide +kernel)⟩
theorem mw_X9_sign : MW yX9_sign (RRf 9) cX9_sign 2 none 1 := ⟨⟨rfl, by decide +kernel, by decide +kernel, by decide +kernel⟩, gw_t 1547 (by decide +kernel) (by decide +kernel), gw_in (List.mem_append_left _ (List.mem_of_getElem? (i := 61) (by decide +kernel))) (by decide +kernel), gw_t 10 (by decide +kernel) (by decide +kernel), gw_t 1548 (by decide +kernel) (by decide +kernel)⟩
theorem mw_X9_skipWord : MW yX9_skipWord (RRf 9) cX9_skipWord 1 none 0 := ⟨⟨rfl, by decide +kernel, by decide +kernel, by decide +kernel⟩, gw_t 1531 (by decide +kernel) (by decide +kernel), gw_in (List.mem_append_left _ (List.mem_of_getElem? (i := 58) (by decide +kernel))) (by decide +kernel), gw_t 10 (by decide +kernel) (by decide +kernel), gw_t 1532 (by decide +kernel) (by decide +kernel)⟩
theorem mw_X9_taskClause : MW yX9_taskClause (RRf 9) cX9_taskClause 3 none 0 := ⟨⟨rfl, by decide +kernel, by decide +kernel, by decide +kernel⟩, gw_t 1558 (by decide +kernel) (by decide +kernel), gw_in (List.mem_append_left _ (List.mem_of_getElem? (i := 62) (by decide +kernel))) (by decide +kernel), gw_t 10 (by decide +kernel) (by decide +kernel), gw_t 1559 (by decide +kernel) (by decide +kernel)⟩
theorem mw_X9_taskHere : MW yX9_taskHere (RRf 9) cX9_taskHere 1 (some .int) 0 := ⟨⟨rfl, by decide +kernel, by decide +kernel, by decide +kernel⟩, gw_t 1562 (by decide +kernel) (by decide +kernel), gw_in (List.mem_append_left _ (List.mem_of_getElem? (i := 63) (by decide +kernel))) (by decide +kernel), gw_t 10 (by decide +kernel) (by decide +kernel), gw_t 1563 (by decide +kernel) (by decide +kernel)⟩
theorem mw_X9_tellsNames : MW yX9_tellsNames (RRf 9) cX9_tellsNames 7 none 3 := ⟨⟨rfl, by decide +kernel, by decide +kernel, by decide +kernel⟩, gw_t 1740 (by decide +kernel) (by decide +kernel), gw_in (List.mem_append_left _ (List.mem_of_getElem? (i := 95) (by decide +kernel))) (by decide +kernel), gw_t 10 (by decide +kernel) (by decide +kernel), gw_t 1741 (by decide +kernel) (by decide +kernel)⟩
theorem mw_X9_throwsBy : MW yX9_throwsBy (RRf 9) cX9_throwsBy 5 (some .int) 2 := ⟨⟨rfl, by decide +kernel, by decide +kernel, by decide +kernel⟩, gw_t 1688 (by decide +kernel) (by decide +kernel), gw_in (List.mem_append_left _ (List.mem_of_getElem? (i := 87) (by decide +kernel))) (by decide +kernel), gw_t 10 (by decide +kernel) (by decide +kernel), gw_t 1689 (by decide +kernel) (by decide +kernel)⟩
theorem mw_X9_turnsOf : MW yX9_turnsOf (RRf 9) cX9_turnsOf 3 (some .int) 1 := ⟨⟨rfl, by decide +kernel, by decide +kernel, by decide +kernel⟩, gw_t 1641 (by decide +kernel) (by decide +kernel), gw_in (List.mem_append_left _ (List.mem_of_getElem? (i := 79) (by decide +kernel))) (by decide +kernel), gw_t 10 (by decide +kernel) (by decide +kernel), gw_t 1642 (by decide +kernel) (by decide +kernel)⟩
theorem mw_X9_wayOf : MW yX9_wayOf (RRf 9) cX9_wayOf 6 (some .int) 3 := ⟨⟨rfl, by decide +kernel, by decide +kernel, by decide +kernel⟩, gw_t 1653 (by decide +kernel) (by decide +kernel), gw_in (List.mem_append_left _ (List.mem_of_getElem? (i := 81) (by decide +kernel))) (by decide +kernel), gw_t 10 (by decide +kernel) (by decide +kernel), gw_t 1654 (by decide +kernel) (by decide +kernel)⟩
theorem mw_X9_wordHere : MW yX9_wordHere (RRf 9) cX9_wordHere 3 (some .int) 0 := ⟨⟨rfl, by decide +kernel, by decide +kernel, by decide +kernel⟩, gw_t 1516 (by decide +kernel) (by decide +kernel), gw_in (List.mem_append_left _ (List.mem_of_getElem? (i := 55) (by decide +kernel))) (by decide +kernel), gw_t 10 (by decide +kernel) (by decide +kernel), gw_t 1517 (by decide +kernel) (by decide +kernel)⟩
theorem mw_X9_work : MW yX9_work (RRf 9) cX9_work 7 (some .int) 3 := ⟨⟨rfl, by decide +kernel, by decide +kernel, by decide +kernel⟩, gw_t 1776 (by decide +kernel) (by decide +kernel), gw_in (List.mem_append_left _ (List.mem_of_getElem? (i := 102) (by decide +kernel))) (by decide +kernel), gw_t 10 (by decide +kernel) (by decide +kernel), gw_t 1777 (by decide +kernel) (by decide +kernel)⟩
theorem mw_X9_wrongAt : MW yX9_wrongAt (RRf 9) cX9_wrongAt 3 none 2 := ⟨⟨rfl, by decide +kernel, by decide +kernel, by decide +kernel⟩, gw_t 1527 (by decide +kernel) (by decide +kernel), gw_in (List.mem_append_left _ (List.mem_of_getElem? (i := 57) (by decide +kernel))) (by decide +kernel), gw_t 10 (by decide +kernel) (by decide +kernel), gw_t 1528 (by decide +kernel) (by decide +kernel)⟩
theorem mw_X9_yes : MW yX9_yes (RRf 9) cX9_yes 6 (some .int) 3 := ⟨⟨rfl, by decide +kernel, by decide +kernel, by decide +kernel⟩, gw_t 1883 (by decide +kernel) (by decide +kernel), gw_in (List.mem_append_left _ (List.mem_of_getElem? (i := 116) (by decide +kernel))) (by decide +kernel), gw_t 10 (by decide +kernel) (by decide +kernel), gw_t 1884 (by decide +kernel) (by decide +kernel)⟩
theorem ms_X3_onTheWay : MS yX3_onTheWay cX3_onTheWay 3 (some .int) 3 := ⟨⟨by decide +kernel, by decide +kernel, by decide +kernel⟩, gw_t 807 (by decide +kernel) (by decide +kernel), gw_t 7 (by decide +kernel) (by decide +kernel), gw_t 808 (by decide +kernel) (by decide +kernel)⟩
theorem ms_X4_joined : MS yX4_joined cX4_joined 3 (some .int) 3 := ⟨⟨by decide +kernel, by decide +kernel, by decide +kernel⟩, gw_t 541 (by decide +kernel) (by decide +kernel), gw_t 9 (by decide +kernel) (by decide +kernel), gw_t 542 (by decide +kernel) (by decide +kernel)⟩
theorem ms_X7_farther : MS yX7_farther cX7_farther 5 (some .int) 3 := ⟨⟨by decide +kernel, by decide +kernel, by decide +kernel⟩, gw_t 529 (by decide +kernel) (by decide +kernel), gw_t 6 (by decide +kernel) (by decide +kernel), gw_t 530 (by decide +kernel) (by decide +kernel)⟩
theorem ms_X8_choose : MS yX8_choose cX8_choose 5 (some .int) 2 := ⟨⟨by decide +kernel, by decide +kernel, by decide +kernel⟩, gw_t 1221 (by decide +kernel) (by decide +kernel), gw_t 1 (by decide +kernel) (by decide +kernel), gw_t 1222 (by decide +kernel) (by decide +kernel)⟩
theorem ms_X8_isYes : MS yX8_isYes cX8_isYes 2 (some .boolean) 2 := ⟨⟨by decide +kernel, by decide +kernel, by decide +kernel⟩, gw_t 562 (by decide +kernel) (by decide +kernel), gw_t 1 (by decide +kernel) (by decide +kernel), gw_t 563 (by decide +kernel) (by decide +kernel)⟩
theorem ms_X9_amount : MS yX9_amount cX9_amount 1 (some .int) 1 := ⟨⟨by decide +kernel, by decide +kernel, by decide +kernel⟩, gw_t 1668 (by decide +kernel) (by decide +kernel), gw_t 10 (by decide +kernel) (by decide +kernel), gw_t 1669 (by decide +kernel) (by decide +kernel)⟩
theorem ms_X9_choose : MS yX9_choose cX9_choose 5 (some .int) 2 := ⟨⟨by decide +kernel, by decide +kernel, by decide +kernel⟩, gw_t 1897 (by decide +kernel) (by decide +kernel), gw_t 10 (by decide +kernel) (by decide +kernel), gw_t 1898 (by decide +kernel) (by decide +kernel)⟩
theorem ms_X9_in : MS yX9_in cX9_in 3 (some .boolean) 3 := ⟨⟨by decide +kernel, by decide +kernel, by decide +kernel⟩, gw_t 1480 (by decide +kernel) (by decide +kernel), gw_t 10 (by decide +kernel) (by decide +kernel), gw_t 1481 (by decide +kernel) (by decide +kernel)⟩
theorem ms_X9_isDigit : MS yX9_isDigit cX9_isDigit 1 (some .boolean) 1 := ⟨⟨by decide +kernel, by decide +kernel, by decide +kernel⟩, gw_t 1538 (by decide +kernel) (by decide +kernel), gw_t 10 (by decide +kernel) (by decide +kernel), gw_t 1539 (by decide +kernel) (by decide +kernel)⟩
theorem ms_X9_less : MS yX9_less cX9_less 2 (some .int) 2 := ⟨⟨by decide +kernel, by decide +kernel, by decide +kernel⟩, gw_t 1554 (by decide +kernel) (by decide +kernel), gw_t 10 (by decide +kernel) (by decide +kernel), gw_t 1555 (by decide +kernel) (by decide +kernel)⟩
theorem ms_X9_more : MS yX9_more cX9_more 2 (some .int) 2 := ⟨⟨by decide +kernel, by decide +kernel, by decide +kernel⟩, gw_t 1633 (by decide +kernel) (by decide +kernel), gw_t 10 (by decide +kernel) (by decide +kernel), gw_t 1634 (by decide +kernel) (by decide +kernel)⟩
theorem ms_X9_root : MS yX9_root cX9_root 2 (some .int) 1 := ⟨⟨by decide +kernel, by decide +kernel, by decide +kernel⟩, gw_t 1886 (by decide +kernel) (by decide +kernel), gw_t 10 (by decide +kernel) (by decide +kernel), gw_t 1887 (by decide +kernel) (by decide +kernel)⟩
theorem ms_X9_within : MS yX9_within cX9_within 3 (some .int) 3 := ⟨⟨by decide +kernel, by decide +kernel, by decide +kernel⟩, gw_t 1782 (by decide +kernel) (by decide +kernel), gw_t 10 (by decide +kernel) (by decide +kernel), gw_t 1783 (by decide +kernel) (by decide +kernel)⟩
theorem ms_X9_word : MS yX9_word cX9_word 7 (some .int) 6 := ⟨⟨by decide +kernel, by decide +kernel, by decide +kernel⟩, gw_t 1519 (by decide +kernel) (by decide +kernel), gw_t 10 (by decide +kernel) (by decide +kernel), gw_t 1520 (by decide +kernel) (by decide +kernel)⟩
theorem ms_X9_worked : MS yX9_worked cX9_worked 3 (some .int) 3 := ⟨⟨by decide +kernel, by decide +kernel, by decide +kernel⟩, gw_t 1779 (by decide +kernel) (by decide +kernel), gw_t 10 (by decide +kernel) (by decide +kernel), gw_t 1780 (by decide +kernel) (by decide +kernel)⟩
theorem cst_X4_78 : Cond.constant RX4 78 100000 ∈ GW := gw_t 552 (by decide +kernel) (by decide +kernel)
theorem cst_X4_83 : Cond.constant RX4 83 1103515245 ∈ GW := gw_t 551 (by decide +kernel) (by decide +kernel)
theorem cst_X5_70 : Cond.constant RX5 70 1000000 ∈ GW := gw_t 774 (by decide +kernel) (by decide +kernel)
theorem cst_X9_112 : Cond.constant RX9 112 100000 ∈ GW := gw_t 1540 (by decide +kernel) (by decide +kernel)
theorem cst_X9_349 : Cond.constant RX9 349 1103515245 ∈ GW := gw_t 1804 (by decide +kernel) (by decide +kernel)
