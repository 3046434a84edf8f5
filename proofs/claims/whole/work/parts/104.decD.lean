theorem dX8_init_0 : decode cX8_init 0 = .ok (.aload_n 0, 1) := by decide +kernel
theorem dX8_init_1 : decode cX8_init 1 = .ok (.invokespecial 1, 3) := by decide +kernel
theorem dX8_init_4 : decode cX8_init 4 = .ok (.aload_n 0, 1) := by decide +kernel
theorem dX8_init_5 : decode cX8_init 5 = .ok (.new 7, 3) := by decide +kernel
theorem dX8_init_8 : decode cX8_init 8 = .ok (.dup, 1) := by decide +kernel
theorem dX8_init_9 : decode cX8_init 9 = .ok (.invokespecial 9, 3) := by decide +kernel
theorem dX8_init_12 : decode cX8_init 12 = .ok (.putfield 10, 3) := by decide +kernel
theorem dX8_init_15 : decode cX8_init 15 = .ok (.aload_n 0, 1) := by decide +kernel
theorem dX8_init_16 : decode cX8_init 16 = .ok (.bipush 6, 2) := by decide +kernel
theorem dX8_init_18 : decode cX8_init 18 = .ok (.anewarray 16, 3) := by decide +kernel
theorem dX8_init_21 : decode cX8_init 21 = .ok (.putfield 18, 3) := by decide +kernel
theorem dX8_init_24 : decode cX8_init 24 = .ok (.aload_n 0, 1) := by decide +kernel
theorem dX8_init_25 : decode cX8_init 25 = .ok (.iconst 0, 1) := by decide +kernel
theorem dX8_init_26 : decode cX8_init 26 = .ok (.putfield 22, 3) := by decide +kernel
theorem dX8_init_29 : decode cX8_init 29 = .ok (.aload_n 0, 1) := by decide +kernel
theorem dX8_init_30 : decode cX8_init 30 = .ok (.bipush 6, 2) := by decide +kernel
theorem dX8_init_32 : decode cX8_init 32 = .ok (.anewarray 26, 3) := by decide +kernel
theorem dX8_init_35 : decode cX8_init 35 = .ok (.putfield 28, 3) := by decide +kernel
theorem dX8_init_38 : decode cX8_init 38 = .ok (.aload_n 0, 1) := by decide +kernel
theorem dX8_init_39 : decode cX8_init 39 = .ok (.iconst 0, 1) := by decide +kernel
theorem dX8_init_40 : decode cX8_init 40 = .ok (.putfield 32, 3) := by decide +kernel
theorem dX8_init_43 : decode cX8_init 43 = .ok (.aload_n 0, 1) := by decide +kernel
theorem dX8_init_44 : decode cX8_init 44 = .ok (.iconst 4, 1) := by decide +kernel
theorem dX8_init_45 : decode cX8_init 45 = .ok (.anewarray 35, 3) := by decide +kernel
theorem dX8_init_48 : decode cX8_init 48 = .ok (.putfield 37, 3) := by decide +kernel
theorem dX8_init_51 : decode cX8_init 51 = .ok (.aload_n 0, 1) := by decide +kernel
theorem dX8_init_52 : decode cX8_init 52 = .ok (.iconst 0, 1) := by decide +kernel
theorem dX8_init_53 : decode cX8_init 53 = .ok (.putfield 41, 3) := by decide +kernel
theorem dX8_init_56 : decode cX8_init 56 = .ok (.aload_n 0, 1) := by decide +kernel
theorem dX8_init_57 : decode cX8_init 57 = .ok (.new 44, 3) := by decide +kernel
theorem dX8_init_60 : decode cX8_init 60 = .ok (.dup, 1) := by decide +kernel
theorem dX8_init_61 : decode cX8_init 61 = .ok (.aload_n 0, 1) := by decide +kernel
theorem dX8_init_62 : decode cX8_init 62 = .ok (.getfield 10, 3) := by decide +kernel
theorem dX8_init_65 : decode cX8_init 65 = .ok (.invokespecial 46, 3) := by decide +kernel
theorem dX8_init_68 : decode cX8_init 68 = .ok (.putfield 49, 3) := by decide +kernel
theorem dX8_init_71 : decode cX8_init 71 = .ok (.aload_n 0, 1) := by decide +kernel
theorem dX8_init_72 : decode cX8_init 72 = .ok (.new 53, 3) := by decide +kernel
theorem dX8_init_75 : decode cX8_init 75 = .ok (.dup, 1) := by decide +kernel
theorem dX8_init_76 : decode cX8_init 76 = .ok (.invokespecial 55, 3) := by decide +kernel
theorem dX8_init_79 : decode cX8_init 79 = .ok (.putfield 56, 3) := by decide +kernel
theorem dX8_init_82 : decode cX8_init 82 = .ok (.aload_n 0, 1) := by decide +kernel
theorem dX8_init_83 : decode cX8_init 83 = .ok (.iconst 3, 1) := by decide +kernel
theorem dX8_init_84 : decode cX8_init 84 = .ok (.anewarray 53, 3) := by decide +kernel
theorem dX8_init_87 : decode cX8_init 87 = .ok (.putfield 60, 3) := by decide +kernel
theorem dX8_init_90 : decode cX8_init 90 = .ok (.aload_n 0, 1) := by decide +kernel
theorem dX8_init_91 : decode cX8_init 91 = .ok (.iconst 0, 1) := by decide +kernel
theorem dX8_init_92 : decode cX8_init 92 = .ok (.putfield 64, 3) := by decide +kernel
theorem dX8_init_95 : decode cX8_init 95 = .ok (.aload_n 0, 1) := by decide +kernel
theorem dX8_init_96 : decode cX8_init 96 = .ok (.new 67, 3) := by decide +kernel
theorem dX8_init_99 : decode cX8_init 99 = .ok (.dup, 1) := by decide +kernel
theorem dX8_init_100 : decode cX8_init 100 = .ok (.invokespecial 69, 3) := by decide +kernel
theorem dX8_init_103 : decode cX8_init 103 = .ok (.putfield 70, 3) := by decide +kernel
theorem dX8_init_106 : decode cX8_init 106 = .ok (.aload_n 0, 1) := by decide +kernel
theorem dX8_init_107 : decode cX8_init 107 = .ok (.new 74, 3) := by decide +kernel
theorem dX8_init_110 : decode cX8_init 110 = .ok (.dup, 1) := by decide +kernel
theorem dX8_init_111 : decode cX8_init 111 = .ok (.aload_n 0, 1) := by decide +kernel
theorem dX8_init_112 : decode cX8_init 112 = .ok (.getfield 70, 3) := by decide +kernel
theorem dX8_init_115 : decode cX8_init 115 = .ok (.invokespecial 76, 3) := by decide +kernel
theorem dX8_init_118 : decode cX8_init 118 = .ok (.putfield 79, 3) := by decide +kernel
theorem dX8_init_121 : decode cX8_init 121 = .ok (.aload_n 0, 1) := by decide +kernel
theorem dX8_init_122 : decode cX8_init 122 = .ok (.sipush 200, 3) := by decide +kernel
theorem dX8_init_125 : decode cX8_init 125 = .ok (.newarray .int, 2) := by decide +kernel
theorem dX8_init_127 : decode cX8_init 127 = .ok (.putfield 83, 3) := by decide +kernel
theorem dX8_init_130 : decode cX8_init 130 = .ok (.aload_n 0, 1) := by decide +kernel
theorem dX8_init_131 : decode cX8_init 131 = .ok (.iconst 4, 1) := by decide +kernel
theorem dX8_init_132 : decode cX8_init 132 = .ok (.newarray .long, 2) := by decide +kernel
theorem dX8_init_134 : decode cX8_init 134 = .ok (.putfield 87, 3) := by decide +kernel
theorem dX8_init_137 : decode cX8_init 137 = .ok (.iconst 0, 1) := by decide +kernel
theorem dX8_init_138 : decode cX8_init 138 = .ok (.istore_n 1, 1) := by decide +kernel
theorem dX8_init_139 : decode cX8_init 139 = .ok (.iload_n 1, 1) := by decide +kernel
theorem dX8_init_140 : decode cX8_init 140 = .ok (.bipush 6, 2) := by decide +kernel
theorem dX8_init_142 : decode cX8_init 142 = .ok (.if_icmp .ge 22, 3) := by decide +kernel
theorem dX8_init_145 : decode cX8_init 145 = .ok (.aload_n 0, 1) := by decide +kernel
theorem dX8_init_146 : decode cX8_init 146 = .ok (.getfield 18, 3) := by decide +kernel
theorem dX8_init_149 : decode cX8_init 149 = .ok (.iload_n 1, 1) := by decide +kernel
theorem dX8_init_150 : decode cX8_init 150 = .ok (.new 16, 3) := by decide +kernel
theorem dX8_init_153 : decode cX8_init 153 = .ok (.dup, 1) := by decide +kernel
theorem dX8_init_154 : decode cX8_init 154 = .ok (.invokespecial 91, 3) := by decide +kernel
theorem dX8_init_157 : decode cX8_init 157 = .ok (.aastore, 1) := by decide +kernel
theorem dX8_init_158 : decode cX8_init 158 = .ok (.iinc 1 1, 3) := by decide +kernel
theorem dX8_init_161 : decode cX8_init 161 = .ok (.goto (-22), 3) := by decide +kernel
theorem dX8_init_164 : decode cX8_init 164 = .ok (.iconst 0, 1) := by decide +kernel
theorem dX8_init_165 : decode cX8_init 165 = .ok (.istore_n 1, 1) := by decide +kernel
theorem dX8_init_166 : decode cX8_init 166 = .ok (.iload_n 1, 1) := by decide +kernel
theorem dX8_init_167 : decode cX8_init 167 = .ok (.bipush 6, 2) := by decide +kernel
theorem dX8_init_169 : decode cX8_init 169 = .ok (.if_icmp .ge 22, 3) := by decide +kernel
theorem dX8_init_172 : decode cX8_init 172 = .ok (.aload_n 0, 1) := by decide +kernel
theorem dX8_init_173 : decode cX8_init 173 = .ok (.getfield 28, 3) := by decide +kernel
theorem dX8_init_176 : decode cX8_init 176 = .ok (.iload_n 1, 1) := by decide +kernel
theorem dX8_init_177 : decode cX8_init 177 = .ok (.new 26, 3) := by decide +kernel
theorem dX8_init_180 : decode cX8_init 180 = .ok (.dup, 1) := by decide +kernel
theorem dX8_init_181 : decode cX8_init 181 = .ok (.invokespecial 92, 3) := by decide +kernel
theorem dX8_init_184 : decode cX8_init 184 = .ok (.aastore, 1) := by decide +kernel
theorem dX8_init_185 : decode cX8_init 185 = .ok (.iinc 1 1, 3) := by decide +kernel
theorem dX8_init_188 : decode cX8_init 188 = .ok (.goto (-22), 3) := by decide +kernel
theorem dX8_init_191 : decode cX8_init 191 = .ok (.iconst 0, 1) := by decide +kernel
theorem dX8_init_192 : decode cX8_init 192 = .ok (.istore_n 1, 1) := by decide +kernel
theorem dX8_init_193 : decode cX8_init 193 = .ok (.iload_n 1, 1) := by decide +kernel
theorem dX8_init_194 : decode cX8_init 194 = .ok (.iconst 4, 1) := by decide +kernel
theorem dX8_init_195 : decode cX8_init 195 = .ok (.if_icmp .ge 22, 3) := by decide +kernel
theorem dX8_init_198 : decode cX8_init 198 = .ok (.aload_n 0, 1) := by decide +kernel
theorem dX8_init_199 : decode cX8_init 199 = .ok (.getfield 37, 3) := by decide +kernel
theorem dX8_init_202 : decode cX8_init 202 = .ok (.iload_n 1, 1) := by decide +kernel
theorem dX8_init_203 : decode cX8_init 203 = .ok (.new 35, 3) := by decide +kernel
theorem dX8_init_206 : decode cX8_init 206 = .ok (.dup, 1) := by decide +kernel
theorem dX8_init_207 : decode cX8_init 207 = .ok (.invokespecial 93, 3) := by decide +kernel
theorem dX8_init_210 : decode cX8_init 210 = .ok (.aastore, 1) := by decide +kernel
theorem dX8_init_211 : decode cX8_init 211 = .ok (.iinc 1 1, 3) := by decide +kernel
theorem dX8_init_214 : decode cX8_init 214 = .ok (.goto (-21), 3) := by decide +kernel
theorem dX8_init_217 : decode cX8_init 217 = .ok (.iconst 0, 1) := by decide +kernel
theorem dX8_init_218 : decode cX8_init 218 = .ok (.istore_n 1, 1) := by decide +kernel
theorem dX8_init_219 : decode cX8_init 219 = .ok (.iload_n 1, 1) := by decide +kernel
theorem dX8_init_220 : decode cX8_init 220 = .ok (.iconst 3, 1) := by decide +kernel
theorem dX8_init_221 : decode cX8_init 221 = .ok (.if_icmp .ge 22, 3) := by decide +kernel
theorem dX8_init_224 : decode cX8_init 224 = .ok (.aload_n 0, 1) := by decide +kernel
theorem dX8_init_225 : decode cX8_init 225 = .ok (.getfield 60, 3) := by decide +kernel
theorem dX8_init_228 : decode cX8_init 228 = .ok (.iload_n 1, 1) := by decide +kernel
theorem dX8_init_229 : decode cX8_init 229 = .ok (.new 53, 3) := by decide +kernel
theorem dX8_init_232 : decode cX8_init 232 = .ok (.dup, 1) := by decide +kernel
theorem dX8_init_233 : decode cX8_init 233 = .ok (.invokespecial 55, 3) := by decide +kernel
theorem dX8_init_236 : decode cX8_init 236 = .ok (.aastore, 1) := by decide +kernel
theorem dX8_init_237 : decode cX8_init 237 = .ok (.iinc 1 1, 3) := by decide +kernel
theorem dX8_init_240 : decode cX8_init 240 = .ok (.goto (-21), 3) := by decide +kernel
theorem dX8_init_243 : decode cX8_init 243 = .ok (.iconst 0, 1) := by decide +kernel
theorem dX8_init_244 : decode cX8_init 244 = .ok (.istore_n 1, 1) := by decide +kernel
theorem dX8_init_245 : decode cX8_init 245 = .ok (.iload_n 1, 1) := by decide +kernel
theorem dX8_init_246 : decode cX8_init 246 = .ok (.aload_n 0, 1) := by decide +kernel
theorem dX8_init_247 : decode cX8_init 247 = .ok (.getfield 83, 3) := by decide +kernel
theorem dX8_init_250 : decode cX8_init 250 = .ok (.arraylength, 1) := by decide +kernel
theorem dX8_init_251 : decode cX8_init 251 = .ok (.if_icmp .ge 16, 3) := by decide +kernel
theorem dX8_init_254 : decode cX8_init 254 = .ok (.aload_n 0, 1) := by decide +kernel
theorem dX8_init_255 : decode cX8_init 255 = .ok (.getfield 83, 3) := by decide +kernel
theorem dX8_init_258 : decode cX8_init 258 = .ok (.iload_n 1, 1) := by decide +kernel
theorem dX8_init_259 : decode cX8_init 259 = .ok (.iconst (-1), 1) := by decide +kernel
theorem dX8_init_260 : decode cX8_init 260 = .ok (.iastore, 1) := by decide +kernel
theorem dX8_init_261 : decode cX8_init 261 = .ok (.iinc 1 1, 3) := by decide +kernel
theorem dX8_init_264 : decode cX8_init 264 = .ok (.goto (-19), 3) := by decide +kernel
theorem dX8_init_267 : decode cX8_init 267 = .ok (.return_, 1) := by decide +kernel
theorem dX8_feed_0 : decode cX8_feed 0 = .ok (.aload_n 0, 1) := by decide +kernel
theorem dX8_feed_1 : decode cX8_feed 1 = .ok (.getfield 10, 3) := by decide +kernel
theorem dX8_feed_4 : decode cX8_feed 4 = .ok (.invokevirtual 94, 3) := by decide +kernel
theorem dX8_feed_7 : decode cX8_feed 7 = .ok (.ifCond .ne 5, 3) := by decide +kernel
theorem dX8_feed_10 : decode cX8_feed 10 = .ok (.iconst (-1), 1) := by decide +kernel
theorem dX8_feed_11 : decode cX8_feed 11 = .ok (.ireturn, 1) := by decide +kernel
theorem dX8_feed_12 : decode cX8_feed 12 = .ok (.aload_n 0, 1) := by decide +kernel
theorem dX8_feed_13 : decode cX8_feed 13 = .ok (.getfield 10, 3) := by decide +kernel
theorem dX8_feed_16 : decode cX8_feed 16 = .ok (.iload_n 1, 1) := by decide +kernel
theorem dX8_feed_17 : decode cX8_feed 17 = .ok (.invokevirtual 98, 3) := by decide +kernel
theorem dX8_feed_20 : decode cX8_feed 20 = .ok (.aload_n 0, 1) := by decide +kernel
theorem dX8_feed_21 : decode cX8_feed 21 = .ok (.getfield 10, 3) := by decide +kernel
theorem dX8_feed_24 : decode cX8_feed 24 = .ok (.iload_n 2, 1) := by decide +kernel
theorem dX8_feed_25 : decode cX8_feed 25 = .ok (.invokevirtual 98, 3) := by decide +kernel
theorem dX8_feed_28 : decode cX8_feed 28 = .ok (.aload_n 0, 1) := by decide +kernel
theorem dX8_feed_29 : decode cX8_feed 29 = .ok (.getfield 10, 3) := by decide +kernel
theorem dX8_feed_32 : decode cX8_feed 32 = .ok (.iload_n 3, 1) := by decide +kernel
theorem dX8_feed_33 : decode cX8_feed 33 = .ok (.invokevirtual 98, 3) := by decide +kernel
theorem dX8_feed_36 : decode cX8_feed 36 = .ok (.aload_n 0, 1) := by decide +kernel
theorem dX8_feed_37 : decode cX8_feed 37 = .ok (.getfield 10, 3) := by decide +kernel
theorem dX8_feed_40 : decode cX8_feed 40 = .ok (.iload 4, 2) := by decide +kernel
theorem dX8_feed_42 : decode cX8_feed 42 = .ok (.invokevirtual 98, 3) := by decide +kernel
theorem dX8_feed_45 : decode cX8_feed 45 = .ok (.aload_n 0, 1) := by decide +kernel
theorem dX8_feed_46 : decode cX8_feed 46 = .ok (.getfield 10, 3) := by decide +kernel
theorem dX8_feed_49 : decode cX8_feed 49 = .ok (.iload 5, 2) := by decide +kernel
theorem dX8_feed_51 : decode cX8_feed 51 = .ok (.invokevirtual 98, 3) := by decide +kernel
theorem dX8_feed_54 : decode cX8_feed 54 = .ok (.aload_n 0, 1) := by decide +kernel
theorem dX8_feed_55 : decode cX8_feed 55 = .ok (.getfield 10, 3) := by decide +kernel
theorem dX8_feed_58 : decode cX8_feed 58 = .ok (.getfield 102, 3) := by decide +kernel
theorem dX8_feed_61 : decode cX8_feed 61 = .ok (.ireturn, 1) := by decide +kernel
theorem dX8_scene_0 : decode cX8_scene 0 = .ok (.iload_n 1, 1) := by decide +kernel
theorem dX8_scene_1 : decode cX8_scene 1 = .ok (.ifCond .lt 18, 3) := by decide +kernel
theorem dX8_scene_4 : decode cX8_scene 4 = .ok (.iload_n 1, 1) := by decide +kernel
theorem dX8_scene_5 : decode cX8_scene 5 = .ok (.aload_n 0, 1) := by decide +kernel
theorem dX8_scene_6 : decode cX8_scene 6 = .ok (.getfield 10, 3) := by decide +kernel
theorem dX8_scene_9 : decode cX8_scene 9 = .ok (.getfield 102, 3) := by decide +kernel
theorem dX8_scene_12 : decode cX8_scene 12 = .ok (.if_icmp .gt 7, 3) := by decide +kernel
theorem dX8_scene_15 : decode cX8_scene 15 = .ok (.iconst 1, 1) := by decide +kernel
theorem dX8_scene_16 : decode cX8_scene 16 = .ok (.goto 4, 3) := by decide +kernel
theorem dX8_scene_19 : decode cX8_scene 19 = .ok (.iconst 0, 1) := by decide +kernel
theorem dX8_scene_20 : decode cX8_scene 20 = .ok (.invokestatic 105, 3) := by decide +kernel
theorem dX8_scene_23 : decode cX8_scene 23 = .ok (.aload_n 0, 1) := by decide +kernel
theorem dX8_scene_24 : decode cX8_scene 24 = .ok (.getfield 10, 3) := by decide +kernel
theorem dX8_scene_27 : decode cX8_scene 27 = .ok (.iload_n 1, 1) := by decide +kernel
theorem dX8_scene_28 : decode cX8_scene 28 = .ok (.invokevirtual 109, 3) := by decide +kernel
theorem dX8_scene_31 : decode cX8_scene 31 = .ok (.aload_n 0, 1) := by decide +kernel
theorem dX8_scene_32 : decode cX8_scene 32 = .ok (.getfield 22, 3) := by decide +kernel
theorem dX8_scene_35 : decode cX8_scene 35 = .ok (.bipush 6, 2) := by decide +kernel
theorem dX8_scene_37 : decode cX8_scene 37 = .ok (.if_icmp .ne 5, 3) := by decide +kernel
theorem dX8_scene_40 : decode cX8_scene 40 = .ok (.iconst (-1), 1) := by decide +kernel
theorem dX8_scene_41 : decode cX8_scene 41 = .ok (.ireturn, 1) := by decide +kernel
theorem dX8_scene_42 : decode cX8_scene 42 = .ok (.aload_n 0, 1) := by decide +kernel
theorem dX8_scene_43 : decode cX8_scene 43 = .ok (.getfield 18, 3) := by decide +kernel
theorem dX8_scene_46 : decode cX8_scene 46 = .ok (.aload_n 0, 1) := by decide +kernel
theorem dX8_scene_47 : decode cX8_scene 47 = .ok (.getfield 22, 3) := by decide +kernel
theorem dX8_scene_50 : decode cX8_scene 50 = .ok (.aaload, 1) := by decide +kernel
theorem dX8_scene_51 : decode cX8_scene 51 = .ok (.astore_n 2, 1) := by decide +kernel
theorem dX8_scene_52 : decode cX8_scene 52 = .ok (.aload_n 2, 1) := by decide +kernel
theorem dX8_scene_53 : decode cX8_scene 53 = .ok (.aload_n 0, 1) := by decide +kernel
theorem dX8_scene_54 : decode cX8_scene 54 = .ok (.getfield 10, 3) := by decide +kernel
theorem dX8_scene_57 : decode cX8_scene 57 = .ok (.invokevirtual 112, 3) := by decide +kernel
theorem dX8_scene_60 : decode cX8_scene 60 = .ok (.aload_n 0, 1) := by decide +kernel
theorem dX8_scene_61 : decode cX8_scene 61 = .ok (.getfield 10, 3) := by decide +kernel
theorem dX8_scene_64 : decode cX8_scene 64 = .ok (.getfield 115, 3) := by decide +kernel
theorem dX8_scene_67 : decode cX8_scene 67 = .ok (.ifCond .eq 14, 3) := by decide +kernel
theorem dX8_scene_70 : decode cX8_scene 70 = .ok (.aload_n 0, 1) := by decide +kernel
theorem dX8_scene_71 : decode cX8_scene 71 = .ok (.getfield 10, 3) := by decide +kernel
theorem dX8_scene_74 : decode cX8_scene 74 = .ok (.getfield 115, 3) := by decide +kernel
theorem dX8_scene_77 : decode cX8_scene 77 = .ok (.bipush 10, 2) := by decide +kernel
theorem dX8_scene_79 : decode cX8_scene 79 = .ok (.isub, 1) := by decide +kernel
theorem dX8_scene_80 : decode cX8_scene 80 = .ok (.ireturn, 1) := by decide +kernel
theorem dX8_scene_81 : decode cX8_scene 81 = .ok (.aload_n 2, 1) := by decide +kernel
theorem dX8_scene_82 : decode cX8_scene 82 = .ok (.invokevirtual 118, 3) := by decide +kernel
theorem dX8_scene_85 : decode cX8_scene 85 = .ok (.aload_n 0, 1) := by decide +kernel
theorem dX8_scene_86 : decode cX8_scene 86 = .ok (.dup, 1) := by decide +kernel
theorem dX8_scene_87 : decode cX8_scene 87 = .ok (.getfield 22, 3) := by decide +kernel
theorem dX8_scene_90 : decode cX8_scene 90 = .ok (.dup_x1, 1) := by decide +kernel
theorem dX8_scene_91 : decode cX8_scene 91 = .ok (.iconst 1, 1) := by decide +kernel
theorem dX8_scene_92 : decode cX8_scene 92 = .ok (.iadd, 1) := by decide +kernel
theorem dX8_scene_93 : decode cX8_scene 93 = .ok (.putfield 22, 3) := by decide +kernel
theorem dX8_scene_96 : decode cX8_scene 96 = .ok (.ireturn, 1) := by decide +kernel
theorem dX8_task_0 : decode cX8_task 0 = .ok (.iload_n 1, 1) := by decide +kernel
theorem dX8_task_1 : decode cX8_task 1 = .ok (.ifCond .lt 25, 3) := by decide +kernel
theorem dX8_task_4 : decode cX8_task 4 = .ok (.iload_n 1, 1) := by decide +kernel
theorem dX8_task_5 : decode cX8_task 5 = .ok (.aload_n 0, 1) := by decide +kernel
theorem dX8_task_6 : decode cX8_task 6 = .ok (.getfield 10, 3) := by decide +kernel
theorem dX8_task_9 : decode cX8_task 9 = .ok (.getfield 102, 3) := by decide +kernel
theorem dX8_task_12 : decode cX8_task 12 = .ok (.if_icmp .gt 14, 3) := by decide +kernel
theorem dX8_task_15 : decode cX8_task 15 = .ok (.iload_n 1, 1) := by decide +kernel
theorem dX8_task_16 : decode cX8_task 16 = .ok (.sipush 200, 3) := by decide +kernel
theorem dX8_task_19 : decode cX8_task 19 = .ok (.if_icmp .gt 7, 3) := by decide +kernel
theorem dX8_task_22 : decode cX8_task 22 = .ok (.iconst 1, 1) := by decide +kernel
theorem dX8_task_23 : decode cX8_task 23 = .ok (.goto 4, 3) := by decide +kernel
theorem dX8_task_26 : decode cX8_task 26 = .ok (.iconst 0, 1) := by decide +kernel
theorem dX8_task_27 : decode cX8_task 27 = .ok (.invokestatic 105, 3) := by decide +kernel
theorem dX8_task_30 : decode cX8_task 30 = .ok (.aload_n 0, 1) := by decide +kernel
theorem dX8_task_31 : decode cX8_task 31 = .ok (.getfield 10, 3) := by decide +kernel
theorem dX8_task_34 : decode cX8_task 34 = .ok (.iload_n 1, 1) := by decide +kernel
theorem dX8_task_35 : decode cX8_task 35 = .ok (.invokevirtual 109, 3) := by decide +kernel
theorem dX8_task_38 : decode cX8_task 38 = .ok (.aload_n 0, 1) := by decide +kernel
theorem dX8_task_39 : decode cX8_task 39 = .ok (.getfield 32, 3) := by decide +kernel
theorem dX8_task_42 : decode cX8_task 42 = .ok (.bipush 6, 2) := by decide +kernel
theorem dX8_task_44 : decode cX8_task 44 = .ok (.if_icmp .ne 5, 3) := by decide +kernel
theorem dX8_task_47 : decode cX8_task 47 = .ok (.iconst (-1), 1) := by decide +kernel
theorem dX8_task_48 : decode cX8_task 48 = .ok (.ireturn, 1) := by decide +kernel
theorem dX8_task_49 : decode cX8_task 49 = .ok (.aload_n 0, 1) := by decide +kernel
theorem dX8_task_50 : decode cX8_task 50 = .ok (.getfield 28, 3) := by decide +kernel
theorem dX8_task_53 : decode cX8_task 53 = .ok (.aload_n 0, 1) := by decide +kernel
theorem dX8_task_54 : decode cX8_task 54 = .ok (.getfield 32, 3) := by decide +kernel
theorem dX8_task_57 : decode cX8_task 57 = .ok (.aaload, 1) := by decide +kernel
theorem dX8_task_58 : decode cX8_task 58 = .ok (.aload_n 0, 1) := by decide +kernel
theorem dX8_task_59 : decode cX8_task 59 = .ok (.getfield 10, 3) := by decide +kernel
theorem dX8_task_62 : decode cX8_task 62 = .ok (.invokevirtual 121, 3) := by decide +kernel
theorem dX8_task_65 : decode cX8_task 65 = .ok (.aload_n 0, 1) := by decide +kernel
theorem dX8_task_66 : decode cX8_task 66 = .ok (.getfield 10, 3) := by decide +kernel
theorem dX8_task_69 : decode cX8_task 69 = .ok (.getfield 115, 3) := by decide +kernel
theorem dX8_task_72 : decode cX8_task 72 = .ok (.ifCond .eq 16, 3) := by decide +kernel
theorem dX8_task_75 : decode cX8_task 75 = .ok (.aload_n 0, 1) := by decide +kernel
theorem dX8_task_76 : decode cX8_task 76 = .ok (.getfield 10, 3) := by decide +kernel
theorem dX8_task_79 : decode cX8_task 79 = .ok (.getfield 115, 3) := by decide +kernel
theorem dX8_task_82 : decode cX8_task 82 = .ok (.bipush 10, 2) := by decide +kernel
theorem dX8_task_84 : decode cX8_task 84 = .ok (.isub, 1) := by decide +kernel
theorem dX8_task_85 : decode cX8_task 85 = .ok (.goto 14, 3) := by decide +kernel
theorem dX8_task_88 : decode cX8_task 88 = .ok (.aload_n 0, 1) := by decide +kernel
theorem dX8_task_89 : decode cX8_task 89 = .ok (.dup, 1) := by decide +kernel
theorem dX8_task_90 : decode cX8_task 90 = .ok (.getfield 32, 3) := by decide +kernel
theorem dX8_task_93 : decode cX8_task 93 = .ok (.dup_x1, 1) := by decide +kernel
theorem dX8_task_94 : decode cX8_task 94 = .ok (.iconst 1, 1) := by decide +kernel
theorem dX8_task_95 : decode cX8_task 95 = .ok (.iadd, 1) := by decide +kernel
theorem dX8_task_96 : decode cX8_task 96 = .ok (.putfield 32, 3) := by decide +kernel
theorem dX8_task_99 : decode cX8_task 99 = .ok (.ireturn, 1) := by decide +kernel
theorem dX8_law_0 : decode cX8_law 0 = .ok (.iload_n 1, 1) := by decide +kernel
theorem dX8_law_1 : decode cX8_law 1 = .ok (.ifCond .lt 18, 3) := by decide +kernel
theorem dX8_law_4 : decode cX8_law 4 = .ok (.iload_n 1, 1) := by decide +kernel
theorem dX8_law_5 : decode cX8_law 5 = .ok (.aload_n 0, 1) := by decide +kernel
theorem dX8_law_6 : decode cX8_law 6 = .ok (.getfield 10, 3) := by decide +kernel
theorem dX8_law_9 : decode cX8_law 9 = .ok (.getfield 102, 3) := by decide +kernel
theorem dX8_law_12 : decode cX8_law 12 = .ok (.if_icmp .gt 7, 3) := by decide +kernel
theorem dX8_law_15 : decode cX8_law 15 = .ok (.iconst 1, 1) := by decide +kernel
theorem dX8_law_16 : decode cX8_law 16 = .ok (.goto 4, 3) := by decide +kernel
theorem dX8_law_19 : decode cX8_law 19 = .ok (.iconst 0, 1) := by decide +kernel
theorem dX8_law_20 : decode cX8_law 20 = .ok (.invokestatic 105, 3) := by decide +kernel
theorem dX8_law_23 : decode cX8_law 23 = .ok (.aload_n 0, 1) := by decide +kernel
theorem dX8_law_24 : decode cX8_law 24 = .ok (.getfield 10, 3) := by decide +kernel
theorem dX8_law_27 : decode cX8_law 27 = .ok (.iload_n 1, 1) := by decide +kernel
theorem dX8_law_28 : decode cX8_law 28 = .ok (.invokevirtual 109, 3) := by decide +kernel
theorem dX8_law_31 : decode cX8_law 31 = .ok (.aload_n 0, 1) := by decide +kernel
theorem dX8_law_32 : decode cX8_law 32 = .ok (.getfield 41, 3) := by decide +kernel
theorem dX8_law_35 : decode cX8_law 35 = .ok (.iconst 4, 1) := by decide +kernel
theorem dX8_law_36 : decode cX8_law 36 = .ok (.if_icmp .ne 5, 3) := by decide +kernel
theorem dX8_law_39 : decode cX8_law 39 = .ok (.iconst (-1), 1) := by decide +kernel
theorem dX8_law_40 : decode cX8_law 40 = .ok (.ireturn, 1) := by decide +kernel
theorem dX8_law_41 : decode cX8_law 41 = .ok (.aload_n 0, 1) := by decide +kernel
theorem dX8_law_42 : decode cX8_law 42 = .ok (.getfield 49, 3) := by decide +kernel
theorem dX8_law_45 : decode cX8_law 45 = .ok (.aload_n 0, 1) := by decide +kernel
theorem dX8_law_46 : decode cX8_law 46 = .ok (.getfield 37, 3) := by decide +kernel
theorem dX8_law_49 : decode cX8_law 49 = .ok (.aload_n 0, 1) := by decide +kernel
theorem dX8_law_50 : decode cX8_law 50 = .ok (.getfield 41, 3) := by decide +kernel
theorem dX8_law_53 : decode cX8_law 53 = .ok (.aaload, 1) := by decide +kernel
theorem dX8_law_54 : decode cX8_law 54 = .ok (.invokevirtual 122, 3) := by decide +kernel
theorem dX8_law_57 : decode cX8_law 57 = .ok (.aload_n 0, 1) := by decide +kernel
theorem dX8_law_58 : decode cX8_law 58 = .ok (.getfield 10, 3) := by decide +kernel
theorem dX8_law_61 : decode cX8_law 61 = .ok (.getfield 115, 3) := by decide +kernel
theorem dX8_law_64 : decode cX8_law 64 = .ok (.ifCond .eq 16, 3) := by decide +kernel
theorem dX8_law_67 : decode cX8_law 67 = .ok (.aload_n 0, 1) := by decide +kernel
theorem dX8_law_68 : decode cX8_law 68 = .ok (.getfield 10, 3) := by decide +kernel
theorem dX8_law_71 : decode cX8_law 71 = .ok (.getfield 115, 3) := by decide +kernel
theorem dX8_law_74 : decode cX8_law 74 = .ok (.bipush 10, 2) := by decide +kernel
theorem dX8_law_76 : decode cX8_law 76 = .ok (.isub, 1) := by decide +kernel
theorem dX8_law_77 : decode cX8_law 77 = .ok (.goto 14, 3) := by decide +kernel
theorem dX8_law_80 : decode cX8_law 80 = .ok (.aload_n 0, 1) := by decide +kernel
theorem dX8_law_81 : decode cX8_law 81 = .ok (.dup, 1) := by decide +kernel
theorem dX8_law_82 : decode cX8_law 82 = .ok (.getfield 41, 3) := by decide +kernel
theorem dX8_law_85 : decode cX8_law 85 = .ok (.dup_x1, 1) := by decide +kernel
theorem dX8_law_86 : decode cX8_law 86 = .ok (.iconst 1, 1) := by decide +kernel
theorem dX8_law_87 : decode cX8_law 87 = .ok (.iadd, 1) := by decide +kernel
theorem dX8_law_88 : decode cX8_law 88 = .ok (.putfield 41, 3) := by decide +kernel
theorem dX8_law_91 : decode cX8_law 91 = .ok (.ireturn, 1) := by decide +kernel
theorem dX8_fault_0 : decode cX8_fault 0 = .ok (.aload_n 0, 1) := by decide +kernel
theorem dX8_fault_1 : decode cX8_fault 1 = .ok (.getfield 10, 3) := by decide +kernel
theorem dX8_fault_4 : decode cX8_fault 4 = .ok (.getfield 125, 3) := by decide +kernel
theorem dX8_fault_7 : decode cX8_fault 7 = .ok (.ireturn, 1) := by decide +kernel
theorem dX8_told_0 : decode cX8_told 0 = .ok (.aload_n 0, 1) := by decide +kernel
theorem dX8_told_1 : decode cX8_told 1 = .ok (.iload_n 1, 1) := by decide +kernel
theorem dX8_told_2 : decode cX8_told 2 = .ok (.invokevirtual 128, 3) := by decide +kernel
theorem dX8_told_5 : decode cX8_told 5 = .ok (.iload_n 2, 1) := by decide +kernel
theorem dX8_told_6 : decode cX8_told 6 = .ok (.ifCond .lt 12, 3) := by decide +kernel
theorem dX8_told_9 : decode cX8_told 9 = .ok (.iload_n 2, 1) := by decide +kernel
theorem dX8_told_10 : decode cX8_told 10 = .ok (.iconst 5, 1) := by decide +kernel
theorem dX8_told_11 : decode cX8_told 11 = .ok (.if_icmp .gt 7, 3) := by decide +kernel
theorem dX8_told_14 : decode cX8_told 14 = .ok (.iconst 1, 1) := by decide +kernel
theorem dX8_told_15 : decode cX8_told 15 = .ok (.goto 4, 3) := by decide +kernel
theorem dX8_told_18 : decode cX8_told 18 = .ok (.iconst 0, 1) := by decide +kernel
theorem dX8_told_19 : decode cX8_told 19 = .ok (.invokestatic 105, 3) := by decide +kernel
theorem dX8_told_22 : decode cX8_told 22 = .ok (.aload_n 0, 1) := by decide +kernel
theorem dX8_told_23 : decode cX8_told 23 = .ok (.getfield 18, 3) := by decide +kernel
theorem dX8_told_26 : decode cX8_told 26 = .ok (.iload_n 1, 1) := by decide +kernel
theorem dX8_told_27 : decode cX8_told 27 = .ok (.aaload, 1) := by decide +kernel
theorem dX8_told_28 : decode cX8_told 28 = .ok (.astore_n 3, 1) := by decide +kernel
theorem dX8_told_29 : decode cX8_told 29 = .ok (.iload_n 2, 1) := by decide +kernel
theorem dX8_told_30 : decode cX8_told 30 = .ok (.tableswitch 59 0 4 #[34, 39, 44, 49, 54], 34) := by decide +kernel
theorem dX8_told_64 : decode cX8_told 64 = .ok (.aload_n 3, 1) := by decide +kernel
theorem dX8_told_65 : decode cX8_told 65 = .ok (.getfield 131, 3) := by decide +kernel
theorem dX8_told_68 : decode cX8_told 68 = .ok (.ireturn, 1) := by decide +kernel
theorem dX8_told_69 : decode cX8_told 69 = .ok (.aload_n 3, 1) := by decide +kernel
theorem dX8_told_70 : decode cX8_told 70 = .ok (.getfield 134, 3) := by decide +kernel
theorem dX8_told_73 : decode cX8_told 73 = .ok (.ireturn, 1) := by decide +kernel
theorem dX8_told_74 : decode cX8_told 74 = .ok (.aload_n 3, 1) := by decide +kernel
theorem dX8_told_75 : decode cX8_told 75 = .ok (.getfield 137, 3) := by decide +kernel
theorem dX8_told_78 : decode cX8_told 78 = .ok (.ireturn, 1) := by decide +kernel
theorem dX8_told_79 : decode cX8_told 79 = .ok (.aload_n 3, 1) := by decide +kernel
theorem dX8_told_80 : decode cX8_told 80 = .ok (.getfield 140, 3) := by decide +kernel
theorem dX8_told_83 : decode cX8_told 83 = .ok (.ireturn, 1) := by decide +kernel
theorem dX8_told_84 : decode cX8_told 84 = .ok (.aload_n 3, 1) := by decide +kernel
theorem dX8_told_85 : decode cX8_told 85 = .ok (.getfield 143, 3) := by decide +kernel
theorem dX8_told_88 : decode cX8_told 88 = .ok (.ireturn, 1) := by decide +kernel
theorem dX8_told_89 : decode cX8_told 89 = .ok (.aload_n 3, 1) := by decide +kernel
theorem dX8_told_90 : decode cX8_told 90 = .ok (.getfield 146, 3) := by decide +kernel
theorem dX8_told_93 : decode cX8_told 93 = .ok (.ireturn, 1) := by decide +kernel
theorem dX8_thing_0 : decode cX8_thing 0 = .ok (.aload_n 0, 1) := by decide +kernel
theorem dX8_thing_1 : decode cX8_thing 1 = .ok (.iload_n 1, 1) := by decide +kernel
theorem dX8_thing_2 : decode cX8_thing 2 = .ok (.invokevirtual 128, 3) := by decide +kernel
theorem dX8_thing_5 : decode cX8_thing 5 = .ok (.aload_n 0, 1) := by decide +kernel
theorem dX8_thing_6 : decode cX8_thing 6 = .ok (.getfield 18, 3) := by decide +kernel
theorem dX8_thing_9 : decode cX8_thing 9 = .ok (.iload_n 1, 1) := by decide +kernel
theorem dX8_thing_10 : decode cX8_thing 10 = .ok (.aaload, 1) := by decide +kernel
theorem dX8_thing_11 : decode cX8_thing 11 = .ok (.astore 5, 2) := by decide +kernel
theorem dX8_thing_13 : decode cX8_thing 13 = .ok (.iload_n 2, 1) := by decide +kernel
theorem dX8_thing_14 : decode cX8_thing 14 = .ok (.ifCond .lt 34, 3) := by decide +kernel
theorem dX8_thing_17 : decode cX8_thing 17 = .ok (.iload_n 2, 1) := by decide +kernel
theorem dX8_thing_18 : decode cX8_thing 18 = .ok (.aload 5, 2) := by decide +kernel
theorem dX8_thing_20 : decode cX8_thing 20 = .ok (.getfield 131, 3) := by decide +kernel
theorem dX8_thing_23 : decode cX8_thing 23 = .ok (.if_icmp .ge 25, 3) := by decide +kernel
theorem dX8_thing_26 : decode cX8_thing 26 = .ok (.iload_n 3, 1) := by decide +kernel
theorem dX8_thing_27 : decode cX8_thing 27 = .ok (.invokestatic 149, 3) := by decide +kernel
theorem dX8_thing_30 : decode cX8_thing 30 = .ok (.ifCond .eq 18, 3) := by decide +kernel
theorem dX8_thing_33 : decode cX8_thing 33 = .ok (.iload 4, 2) := by decide +kernel
theorem dX8_thing_35 : decode cX8_thing 35 = .ok (.ifCond .lt 13, 3) := by decide +kernel
theorem dX8_thing_38 : decode cX8_thing 38 = .ok (.iload 4, 2) := by decide +kernel
theorem dX8_thing_40 : decode cX8_thing 40 = .ok (.iconst 5, 1) := by decide +kernel
theorem dX8_thing_41 : decode cX8_thing 41 = .ok (.if_icmp .gt 7, 3) := by decide +kernel
theorem dX8_thing_44 : decode cX8_thing 44 = .ok (.iconst 1, 1) := by decide +kernel
theorem dX8_thing_45 : decode cX8_thing 45 = .ok (.goto 4, 3) := by decide +kernel
theorem dX8_thing_48 : decode cX8_thing 48 = .ok (.iconst 0, 1) := by decide +kernel
theorem dX8_thing_49 : decode cX8_thing 49 = .ok (.invokestatic 105, 3) := by decide +kernel
theorem dX8_thing_52 : decode cX8_thing 52 = .ok (.aload 5, 2) := by decide +kernel
theorem dX8_thing_54 : decode cX8_thing 54 = .ok (.iload_n 2, 1) := by decide +kernel
theorem dX8_thing_55 : decode cX8_thing 55 = .ok (.iload_n 3, 1) := by decide +kernel
theorem dX8_thing_56 : decode cX8_thing 56 = .ok (.invokevirtual 153, 3) := by decide +kernel
theorem dX8_thing_59 : decode cX8_thing 59 = .ok (.istore 6, 2) := by decide +kernel
theorem dX8_thing_61 : decode cX8_thing 61 = .ok (.iload 4, 2) := by decide +kernel
theorem dX8_thing_63 : decode cX8_thing 63 = .ok (.tableswitch 89 0 4 #[33, 49, 65, 73, 81], 33) := by decide +kernel
theorem dX8_thing_96 : decode cX8_thing 96 = .ok (.iload 6, 2) := by decide +kernel
theorem dX8_thing_98 : decode cX8_thing 98 = .ok (.iconst (-1), 1) := by decide +kernel
theorem dX8_thing_99 : decode cX8_thing 99 = .ok (.if_icmp .ne 7, 3) := by decide +kernel
theorem dX8_thing_102 : decode cX8_thing 102 = .ok (.iconst (-1), 1) := by decide +kernel
theorem dX8_thing_103 : decode cX8_thing 103 = .ok (.goto 8, 3) := by decide +kernel
theorem dX8_thing_106 : decode cX8_thing 106 = .ok (.iload 6, 2) := by decide +kernel
theorem dX8_thing_108 : decode cX8_thing 108 = .ok (.bipush 100, 2) := by decide +kernel
theorem dX8_thing_110 : decode cX8_thing 110 = .ok (.idiv, 1) := by decide +kernel
theorem dX8_thing_111 : decode cX8_thing 111 = .ok (.ireturn, 1) := by decide +kernel
theorem dX8_thing_112 : decode cX8_thing 112 = .ok (.iload 6, 2) := by decide +kernel
theorem dX8_thing_114 : decode cX8_thing 114 = .ok (.iconst (-1), 1) := by decide +kernel
theorem dX8_thing_115 : decode cX8_thing 115 = .ok (.if_icmp .ne 7, 3) := by decide +kernel
theorem dX8_thing_118 : decode cX8_thing 118 = .ok (.iconst (-1), 1) := by decide +kernel
theorem dX8_thing_119 : decode cX8_thing 119 = .ok (.goto 8, 3) := by decide +kernel
theorem dX8_thing_122 : decode cX8_thing 122 = .ok (.iload 6, 2) := by decide +kernel
theorem dX8_thing_124 : decode cX8_thing 124 = .ok (.bipush 100, 2) := by decide +kernel
theorem dX8_thing_126 : decode cX8_thing 126 = .ok (.irem, 1) := by decide +kernel
theorem dX8_thing_127 : decode cX8_thing 127 = .ok (.ireturn, 1) := by decide +kernel
theorem dX8_thing_128 : decode cX8_thing 128 = .ok (.aload 5, 2) := by decide +kernel
theorem dX8_thing_130 : decode cX8_thing 130 = .ok (.iload_n 2, 1) := by decide +kernel
theorem dX8_thing_131 : decode cX8_thing 131 = .ok (.iload_n 3, 1) := by decide +kernel
theorem dX8_thing_132 : decode cX8_thing 132 = .ok (.invokevirtual 157, 3) := by decide +kernel
theorem dX8_thing_135 : decode cX8_thing 135 = .ok (.ireturn, 1) := by decide +kernel
theorem dX8_thing_136 : decode cX8_thing 136 = .ok (.aload 5, 2) := by decide +kernel
theorem dX8_thing_138 : decode cX8_thing 138 = .ok (.iload_n 2, 1) := by decide +kernel
theorem dX8_thing_139 : decode cX8_thing 139 = .ok (.iload_n 3, 1) := by decide +kernel
theorem dX8_thing_140 : decode cX8_thing 140 = .ok (.invokevirtual 160, 3) := by decide +kernel
theorem dX8_thing_143 : decode cX8_thing 143 = .ok (.ireturn, 1) := by decide +kernel
theorem dX8_thing_144 : decode cX8_thing 144 = .ok (.aload 5, 2) := by decide +kernel
theorem dX8_thing_146 : decode cX8_thing 146 = .ok (.getfield 163, 3) := by decide +kernel
theorem dX8_thing_149 : decode cX8_thing 149 = .ok (.iload_n 2, 1) := by decide +kernel
theorem dX8_thing_150 : decode cX8_thing 150 = .ok (.iaload, 1) := by decide +kernel
theorem dX8_thing_151 : decode cX8_thing 151 = .ok (.ireturn, 1) := by decide +kernel
theorem dX8_thing_152 : decode cX8_thing 152 = .ok (.aload 5, 2) := by decide +kernel
theorem dX8_thing_154 : decode cX8_thing 154 = .ok (.iload_n 2, 1) := by decide +kernel
theorem dX8_thing_155 : decode cX8_thing 155 = .ok (.iload_n 3, 1) := by decide +kernel
theorem dX8_thing_156 : decode cX8_thing 156 = .ok (.invokevirtual 166, 3) := by decide +kernel
theorem dX8_thing_159 : decode cX8_thing 159 = .ok (.ifCond .eq 7, 3) := by decide +kernel
theorem dX8_thing_162 : decode cX8_thing 162 = .ok (.iconst 1, 1) := by decide +kernel
theorem dX8_thing_163 : decode cX8_thing 163 = .ok (.goto 4, 3) := by decide +kernel
theorem dX8_thing_166 : decode cX8_thing 166 = .ok (.iconst 0, 1) := by decide +kernel
theorem dX8_thing_167 : decode cX8_thing 167 = .ok (.ireturn, 1) := by decide +kernel
theorem dX8_kept_0 : decode cX8_kept 0 = .ok (.aload_n 0, 1) := by decide +kernel
theorem dX8_kept_1 : decode cX8_kept 1 = .ok (.iload_n 1, 1) := by decide +kernel
theorem dX8_kept_2 : decode cX8_kept 2 = .ok (.invokevirtual 170, 3) := by decide +kernel
theorem dX8_kept_5 : decode cX8_kept 5 = .ok (.iload_n 2, 1) := by decide +kernel
theorem dX8_kept_6 : decode cX8_kept 6 = .ok (.ifCond .lt 12, 3) := by decide +kernel
theorem dX8_kept_9 : decode cX8_kept 9 = .ok (.iload_n 2, 1) := by decide +kernel
theorem dX8_kept_10 : decode cX8_kept 10 = .ok (.iconst 4, 1) := by decide +kernel
theorem dX8_kept_11 : decode cX8_kept 11 = .ok (.if_icmp .gt 7, 3) := by decide +kernel
theorem dX8_kept_14 : decode cX8_kept 14 = .ok (.iconst 1, 1) := by decide +kernel
theorem dX8_kept_15 : decode cX8_kept 15 = .ok (.goto 4, 3) := by decide +kernel
theorem dX8_kept_18 : decode cX8_kept 18 = .ok (.iconst 0, 1) := by decide +kernel
theorem dX8_kept_19 : decode cX8_kept 19 = .ok (.invokestatic 105, 3) := by decide +kernel
theorem dX8_kept_22 : decode cX8_kept 22 = .ok (.aload_n 0, 1) := by decide +kernel
theorem dX8_kept_23 : decode cX8_kept 23 = .ok (.getfield 28, 3) := by decide +kernel
theorem dX8_kept_26 : decode cX8_kept 26 = .ok (.iload_n 1, 1) := by decide +kernel
theorem dX8_kept_27 : decode cX8_kept 27 = .ok (.aaload, 1) := by decide +kernel
theorem dX8_kept_28 : decode cX8_kept 28 = .ok (.astore_n 3, 1) := by decide +kernel
theorem dX8_kept_29 : decode cX8_kept 29 = .ok (.iload_n 2, 1) := by decide +kernel
theorem dX8_kept_30 : decode cX8_kept 30 = .ok (.tableswitch 50 0 3 #[30, 35, 40, 45], 30) := by decide +kernel
theorem dX8_kept_60 : decode cX8_kept 60 = .ok (.aload_n 3, 1) := by decide +kernel
theorem dX8_kept_61 : decode cX8_kept 61 = .ok (.getfield 173, 3) := by decide +kernel
theorem dX8_kept_64 : decode cX8_kept 64 = .ok (.ireturn, 1) := by decide +kernel
theorem dX8_kept_65 : decode cX8_kept 65 = .ok (.aload_n 3, 1) := by decide +kernel
theorem dX8_kept_66 : decode cX8_kept 66 = .ok (.getfield 176, 3) := by decide +kernel
theorem dX8_kept_69 : decode cX8_kept 69 = .ok (.ireturn, 1) := by decide +kernel
theorem dX8_kept_70 : decode cX8_kept 70 = .ok (.aload_n 3, 1) := by decide +kernel
theorem dX8_kept_71 : decode cX8_kept 71 = .ok (.getfield 179, 3) := by decide +kernel
theorem dX8_kept_74 : decode cX8_kept 74 = .ok (.ireturn, 1) := by decide +kernel
theorem dX8_kept_75 : decode cX8_kept 75 = .ok (.aload_n 3, 1) := by decide +kernel
theorem dX8_kept_76 : decode cX8_kept 76 = .ok (.getfield 182, 3) := by decide +kernel
theorem dX8_kept_79 : decode cX8_kept 79 = .ok (.ireturn, 1) := by decide +kernel
theorem dX8_kept_80 : decode cX8_kept 80 = .ok (.aload_n 3, 1) := by decide +kernel
theorem dX8_kept_81 : decode cX8_kept 81 = .ok (.getfield 185, 3) := by decide +kernel
theorem dX8_kept_84 : decode cX8_kept 84 = .ok (.ireturn, 1) := by decide +kernel
theorem dX8_throwsOf_0 : decode cX8_throwsOf 0 = .ok (.aload_n 0, 1) := by decide +kernel
theorem dX8_throwsOf_1 : decode cX8_throwsOf 1 = .ok (.iload_n 1, 1) := by decide +kernel
theorem dX8_throwsOf_2 : decode cX8_throwsOf 2 = .ok (.invokevirtual 128, 3) := by decide +kernel
theorem dX8_throwsOf_5 : decode cX8_throwsOf 5 = .ok (.aload_n 0, 1) := by decide +kernel
theorem dX8_throwsOf_6 : decode cX8_throwsOf 6 = .ok (.iload_n 2, 1) := by decide +kernel
theorem dX8_throwsOf_7 : decode cX8_throwsOf 7 = .ok (.invokevirtual 170, 3) := by decide +kernel
theorem dX8_throwsOf_10 : decode cX8_throwsOf 10 = .ok (.aload_n 0, 1) := by decide +kernel
theorem dX8_throwsOf_11 : decode cX8_throwsOf 11 = .ok (.getfield 18, 3) := by decide +kernel
theorem dX8_throwsOf_14 : decode cX8_throwsOf 14 = .ok (.iload_n 1, 1) := by decide +kernel
theorem dX8_throwsOf_15 : decode cX8_throwsOf 15 = .ok (.aaload, 1) := by decide +kernel
theorem dX8_throwsOf_16 : decode cX8_throwsOf 16 = .ok (.aload_n 0, 1) := by decide +kernel
theorem dX8_throwsOf_17 : decode cX8_throwsOf 17 = .ok (.getfield 28, 3) := by decide +kernel
theorem dX8_throwsOf_20 : decode cX8_throwsOf 20 = .ok (.iload_n 2, 1) := by decide +kernel
theorem dX8_throwsOf_21 : decode cX8_throwsOf 21 = .ok (.aaload, 1) := by decide +kernel
theorem dX8_throwsOf_22 : decode cX8_throwsOf 22 = .ok (.getfield 179, 3) := by decide +kernel
theorem dX8_throwsOf_25 : decode cX8_throwsOf 25 = .ok (.invokevirtual 188, 3) := by decide +kernel
theorem dX8_throwsOf_28 : decode cX8_throwsOf 28 = .ok (.ireturn, 1) := by decide +kernel
theorem dX8_looker_0 : decode cX8_looker 0 = .ok (.aload_n 0, 1) := by decide +kernel
theorem dX8_looker_1 : decode cX8_looker 1 = .ok (.iload_n 1, 1) := by decide +kernel
theorem dX8_looker_2 : decode cX8_looker 2 = .ok (.invokevirtual 128, 3) := by decide +kernel
theorem dX8_looker_5 : decode cX8_looker 5 = .ok (.aload_n 0, 1) := by decide +kernel
theorem dX8_looker_6 : decode cX8_looker 6 = .ok (.iload_n 2, 1) := by decide +kernel
theorem dX8_looker_7 : decode cX8_looker 7 = .ok (.invokevirtual 170, 3) := by decide +kernel
theorem dX8_looker_10 : decode cX8_looker 10 = .ok (.aload_n 0, 1) := by decide +kernel
theorem dX8_looker_11 : decode cX8_looker 11 = .ok (.getfield 56, 3) := by decide +kernel
theorem dX8_looker_14 : decode cX8_looker 14 = .ok (.iload_n 1, 1) := by decide +kernel
theorem dX8_looker_15 : decode cX8_looker 15 = .ok (.iload_n 2, 1) := by decide +kernel
theorem dX8_looker_16 : decode cX8_looker 16 = .ok (.iload_n 3, 1) := by decide +kernel
theorem dX8_looker_17 : decode cX8_looker 17 = .ok (.invokevirtual 192, 3) := by decide +kernel
theorem dX8_looker_20 : decode cX8_looker 20 = .ok (.istore 4, 2) := by decide +kernel
theorem dX8_looker_22 : decode cX8_looker 22 = .ok (.iload 4, 2) := by decide +kernel
theorem dX8_looker_24 : decode cX8_looker 24 = .ok (.iconst (-1), 1) := by decide +kernel
theorem dX8_looker_25 : decode cX8_looker 25 = .ok (.if_icmp .eq 9, 3) := by decide +kernel
theorem dX8_looker_28 : decode cX8_looker 28 = .ok (.aload_n 0, 1) := by decide +kernel
theorem dX8_looker_29 : decode cX8_looker 29 = .ok (.iload 4, 2) := by decide +kernel
theorem dX8_looker_31 : decode cX8_looker 31 = .ok (.invokevirtual 196, 3) := by decide +kernel
theorem dX8_looker_34 : decode cX8_looker 34 = .ok (.iload 4, 2) := by decide +kernel
theorem dX8_looker_36 : decode cX8_looker 36 = .ok (.ireturn, 1) := by decide +kernel
theorem dX8_eyes_0 : decode cX8_eyes 0 = .ok (.aload_n 0, 1) := by decide +kernel
theorem dX8_eyes_1 : decode cX8_eyes 1 = .ok (.iload_n 1, 1) := by decide +kernel
theorem dX8_eyes_2 : decode cX8_eyes 2 = .ok (.invokevirtual 199, 3) := by decide +kernel
theorem dX8_eyes_5 : decode cX8_eyes 5 = .ok (.iload_n 2, 1) := by decide +kernel
theorem dX8_eyes_6 : decode cX8_eyes 6 = .ok (.invokestatic 149, 3) := by decide +kernel
theorem dX8_eyes_9 : decode cX8_eyes 9 = .ok (.ifCond .eq 29, 3) := by decide +kernel
theorem dX8_eyes_12 : decode cX8_eyes 12 = .ok (.iload_n 3, 1) := by decide +kernel
theorem dX8_eyes_13 : decode cX8_eyes 13 = .ok (.ifCond .lt 25, 3) := by decide +kernel
theorem dX8_eyes_16 : decode cX8_eyes 16 = .ok (.iload_n 3, 1) := by decide +kernel
theorem dX8_eyes_17 : decode cX8_eyes 17 = .ok (.bipush 40, 2) := by decide +kernel
theorem dX8_eyes_19 : decode cX8_eyes 19 = .ok (.if_icmp .ge 19, 3) := by decide +kernel
theorem dX8_eyes_22 : decode cX8_eyes 22 = .ok (.iload 4, 2) := by decide +kernel
theorem dX8_eyes_24 : decode cX8_eyes 24 = .ok (.ifCond .lt 14, 3) := by decide +kernel
theorem dX8_eyes_27 : decode cX8_eyes 27 = .ok (.iload 4, 2) := by decide +kernel
theorem dX8_eyes_29 : decode cX8_eyes 29 = .ok (.bipush 30, 2) := by decide +kernel
theorem dX8_eyes_31 : decode cX8_eyes 31 = .ok (.if_icmp .ge 7, 3) := by decide +kernel
theorem dX8_eyes_34 : decode cX8_eyes 34 = .ok (.iconst 1, 1) := by decide +kernel
theorem dX8_eyes_35 : decode cX8_eyes 35 = .ok (.goto 4, 3) := by decide +kernel
theorem dX8_eyes_38 : decode cX8_eyes 38 = .ok (.iconst 0, 1) := by decide +kernel
theorem dX8_eyes_39 : decode cX8_eyes 39 = .ok (.invokestatic 105, 3) := by decide +kernel
theorem dX8_eyes_42 : decode cX8_eyes 42 = .ok (.aload_n 0, 1) := by decide +kernel
theorem dX8_eyes_43 : decode cX8_eyes 43 = .ok (.iload_n 1, 1) := by decide +kernel
theorem dX8_eyes_44 : decode cX8_eyes 44 = .ok (.invokevirtual 196, 3) := by decide +kernel
theorem dX8_eyes_47 : decode cX8_eyes 47 = .ok (.aload_n 0, 1) := by decide +kernel
theorem dX8_eyes_48 : decode cX8_eyes 48 = .ok (.getfield 56, 3) := by decide +kernel
theorem dX8_eyes_51 : decode cX8_eyes 51 = .ok (.iload_n 1, 1) := by decide +kernel
theorem dX8_eyes_52 : decode cX8_eyes 52 = .ok (.iload_n 2, 1) := by decide +kernel
theorem dX8_eyes_53 : decode cX8_eyes 53 = .ok (.iload_n 3, 1) := by decide +kernel
theorem dX8_eyes_54 : decode cX8_eyes 54 = .ok (.bipush 100, 2) := by decide +kernel
theorem dX8_eyes_56 : decode cX8_eyes 56 = .ok (.imul, 1) := by decide +kernel
theorem dX8_eyes_57 : decode cX8_eyes 57 = .ok (.iload 4, 2) := by decide +kernel
theorem dX8_eyes_59 : decode cX8_eyes 59 = .ok (.iadd, 1) := by decide +kernel
theorem dX8_eyes_60 : decode cX8_eyes 60 = .ok (.invokevirtual 202, 3) := by decide +kernel
theorem dX8_eyes_63 : decode cX8_eyes 63 = .ok (.ireturn, 1) := by decide +kernel
theorem dX8_blink_0 : decode cX8_blink 0 = .ok (.aload_n 0, 1) := by decide +kernel
theorem dX8_blink_1 : decode cX8_blink 1 = .ok (.iload_n 1, 1) := by decide +kernel
theorem dX8_blink_2 : decode cX8_blink 2 = .ok (.invokevirtual 199, 3) := by decide +kernel
theorem dX8_blink_5 : decode cX8_blink 5 = .ok (.iload_n 2, 1) := by decide +kernel
theorem dX8_blink_6 : decode cX8_blink 6 = .ok (.invokestatic 149, 3) := by decide +kernel
theorem dX8_blink_9 : decode cX8_blink 9 = .ok (.ifCond .eq 19, 3) := by decide +kernel
theorem dX8_blink_12 : decode cX8_blink 12 = .ok (.iload_n 3, 1) := by decide +kernel
theorem dX8_blink_13 : decode cX8_blink 13 = .ok (.invokestatic 149, 3) := by decide +kernel
theorem dX8_blink_16 : decode cX8_blink 16 = .ok (.ifCond .eq 12, 3) := by decide +kernel
theorem dX8_blink_19 : decode cX8_blink 19 = .ok (.iload_n 2, 1) := by decide +kernel
theorem dX8_blink_20 : decode cX8_blink 20 = .ok (.iload_n 3, 1) := by decide +kernel
theorem dX8_blink_21 : decode cX8_blink 21 = .ok (.if_icmp .gt 7, 3) := by decide +kernel
theorem dX8_blink_24 : decode cX8_blink 24 = .ok (.iconst 1, 1) := by decide +kernel
theorem dX8_blink_25 : decode cX8_blink 25 = .ok (.goto 4, 3) := by decide +kernel
theorem dX8_blink_28 : decode cX8_blink 28 = .ok (.iconst 0, 1) := by decide +kernel
theorem dX8_blink_29 : decode cX8_blink 29 = .ok (.invokestatic 105, 3) := by decide +kernel
theorem dX8_blink_32 : decode cX8_blink 32 = .ok (.aload_n 0, 1) := by decide +kernel
theorem dX8_blink_33 : decode cX8_blink 33 = .ok (.iload_n 1, 1) := by decide +kernel
theorem dX8_blink_34 : decode cX8_blink 34 = .ok (.invokevirtual 196, 3) := by decide +kernel
theorem dX8_blink_37 : decode cX8_blink 37 = .ok (.aload_n 0, 1) := by decide +kernel
theorem dX8_blink_38 : decode cX8_blink 38 = .ok (.getfield 56, 3) := by decide +kernel
theorem dX8_blink_41 : decode cX8_blink 41 = .ok (.iload_n 1, 1) := by decide +kernel
theorem dX8_blink_42 : decode cX8_blink 42 = .ok (.iload_n 2, 1) := by decide +kernel
theorem dX8_blink_43 : decode cX8_blink 43 = .ok (.iload_n 3, 1) := by decide +kernel
theorem dX8_blink_44 : decode cX8_blink 44 = .ok (.invokevirtual 206, 3) := by decide +kernel
theorem dX8_blink_47 : decode cX8_blink 47 = .ok (.ireturn, 1) := by decide +kernel
theorem dX8_eye_0 : decode cX8_eye 0 = .ok (.aload_n 0, 1) := by decide +kernel
theorem dX8_eye_1 : decode cX8_eye 1 = .ok (.iload_n 1, 1) := by decide +kernel
theorem dX8_eye_2 : decode cX8_eye 2 = .ok (.invokevirtual 199, 3) := by decide +kernel
theorem dX8_eye_5 : decode cX8_eye 5 = .ok (.iload_n 2, 1) := by decide +kernel
theorem dX8_eye_6 : decode cX8_eye 6 = .ok (.invokestatic 149, 3) := by decide +kernel
theorem dX8_eye_9 : decode cX8_eye 9 = .ok (.invokestatic 105, 3) := by decide +kernel
theorem dX8_eye_12 : decode cX8_eye 12 = .ok (.aload_n 0, 1) := by decide +kernel
theorem dX8_eye_13 : decode cX8_eye 13 = .ok (.iload_n 1, 1) := by decide +kernel
theorem dX8_eye_14 : decode cX8_eye 14 = .ok (.iload_n 2, 1) := by decide +kernel
theorem dX8_eye_15 : decode cX8_eye 15 = .ok (.invokevirtual 209, 3) := by decide +kernel
theorem dX8_eye_18 : decode cX8_eye 18 = .ok (.aload_n 0, 1) := by decide +kernel
theorem dX8_eye_19 : decode cX8_eye 19 = .ok (.getfield 70, 3) := by decide +kernel
theorem dX8_eye_22 : decode cX8_eye 22 = .ok (.getfield 213, 3) := by decide +kernel
theorem dX8_eye_25 : decode cX8_eye 25 = .ok (.iload_n 2, 1) := by decide +kernel
theorem dX8_eye_26 : decode cX8_eye 26 = .ok (.iaload, 1) := by decide +kernel
theorem dX8_eye_27 : decode cX8_eye 27 = .ok (.ireturn, 1) := by decide +kernel
theorem dX8_on_0 : decode cX8_on 0 = .ok (.aload_n 0, 1) := by decide +kernel
theorem dX8_on_1 : decode cX8_on 1 = .ok (.iload_n 1, 1) := by decide +kernel
theorem dX8_on_2 : decode cX8_on 2 = .ok (.invokevirtual 199, 3) := by decide +kernel
theorem dX8_on_5 : decode cX8_on 5 = .ok (.iload_n 2, 1) := by decide +kernel
theorem dX8_on_6 : decode cX8_on 6 = .ok (.ifCond .lt 13, 3) := by decide +kernel
theorem dX8_on_9 : decode cX8_on 9 = .ok (.iload_n 2, 1) := by decide +kernel
theorem dX8_on_10 : decode cX8_on 10 = .ok (.bipush 40, 2) := by decide +kernel
theorem dX8_on_12 : decode cX8_on 12 = .ok (.if_icmp .gt 7, 3) := by decide +kernel
theorem dX8_on_15 : decode cX8_on 15 = .ok (.iconst 1, 1) := by decide +kernel
theorem dX8_on_16 : decode cX8_on 16 = .ok (.goto 4, 3) := by decide +kernel
theorem dX8_on_19 : decode cX8_on 19 = .ok (.iconst 0, 1) := by decide +kernel
theorem dX8_on_20 : decode cX8_on 20 = .ok (.invokestatic 105, 3) := by decide +kernel
theorem dX8_on_23 : decode cX8_on 23 = .ok (.aload_n 0, 1) := by decide +kernel
theorem dX8_on_24 : decode cX8_on 24 = .ok (.iload_n 1, 1) := by decide +kernel
theorem dX8_on_25 : decode cX8_on 25 = .ok (.aload_n 0, 1) := by decide +kernel
theorem dX8_on_26 : decode cX8_on 26 = .ok (.iload_n 1, 1) := by decide +kernel
theorem dX8_on_27 : decode cX8_on 27 = .ok (.invokevirtual 216, 3) := by decide +kernel
theorem dX8_on_30 : decode cX8_on 30 = .ok (.getfield 140, 3) := by decide +kernel
theorem dX8_on_33 : decode cX8_on 33 = .ok (.invokevirtual 209, 3) := by decide +kernel
theorem dX8_on_36 : decode cX8_on 36 = .ok (.aload_n 0, 1) := by decide +kernel
theorem dX8_on_37 : decode cX8_on 37 = .ok (.getfield 70, 3) := by decide +kernel
theorem dX8_on_40 : decode cX8_on 40 = .ok (.iload_n 2, 1) := by decide +kernel
theorem dX8_on_41 : decode cX8_on 41 = .ok (.invokevirtual 220, 3) := by decide +kernel
theorem dX8_on_44 : decode cX8_on 44 = .ok (.ireturn, 1) := by decide +kernel
theorem dX8_name_0 : decode cX8_name 0 = .ok (.aload_n 0, 1) := by decide +kernel
theorem dX8_name_1 : decode cX8_name 1 = .ok (.iload_n 1, 1) := by decide +kernel
theorem dX8_name_2 : decode cX8_name 2 = .ok (.invokevirtual 199, 3) := by decide +kernel
theorem dX8_name_5 : decode cX8_name 5 = .ok (.iload_n 2, 1) := by decide +kernel
theorem dX8_name_6 : decode cX8_name 6 = .ok (.ifCond .lt 26, 3) := by decide +kernel
theorem dX8_name_9 : decode cX8_name 9 = .ok (.iload_n 2, 1) := by decide +kernel
theorem dX8_name_10 : decode cX8_name 10 = .ok (.aload_n 0, 1) := by decide +kernel
theorem dX8_name_11 : decode cX8_name 11 = .ok (.iload_n 1, 1) := by decide +kernel
theorem dX8_name_12 : decode cX8_name 12 = .ok (.invokevirtual 216, 3) := by decide +kernel
theorem dX8_name_15 : decode cX8_name 15 = .ok (.getfield 131, 3) := by decide +kernel
theorem dX8_name_18 : decode cX8_name 18 = .ok (.if_icmp .ge 14, 3) := by decide +kernel
theorem dX8_name_21 : decode cX8_name 21 = .ok (.iload_n 3, 1) := by decide +kernel
theorem dX8_name_22 : decode cX8_name 22 = .ok (.invokestatic 149, 3) := by decide +kernel
theorem dX8_name_25 : decode cX8_name 25 = .ok (.ifCond .eq 7, 3) := by decide +kernel
theorem dX8_name_28 : decode cX8_name 28 = .ok (.iconst 1, 1) := by decide +kernel
theorem dX8_name_29 : decode cX8_name 29 = .ok (.goto 4, 3) := by decide +kernel
theorem dX8_name_32 : decode cX8_name 32 = .ok (.iconst 0, 1) := by decide +kernel
theorem dX8_name_33 : decode cX8_name 33 = .ok (.invokestatic 105, 3) := by decide +kernel
theorem dX8_name_36 : decode cX8_name 36 = .ok (.iload 4, 2) := by decide +kernel
theorem dX8_name_38 : decode cX8_name 38 = .ok (.ifCond .lt 14, 3) := by decide +kernel
theorem dX8_name_41 : decode cX8_name 41 = .ok (.iload 4, 2) := by decide +kernel
theorem dX8_name_43 : decode cX8_name 43 = .ok (.bipush 11, 2) := by decide +kernel
theorem dX8_name_45 : decode cX8_name 45 = .ok (.if_icmp .ge 7, 3) := by decide +kernel
theorem dX8_name_48 : decode cX8_name 48 = .ok (.iconst 1, 1) := by decide +kernel
theorem dX8_name_49 : decode cX8_name 49 = .ok (.goto 4, 3) := by decide +kernel
theorem dX8_name_52 : decode cX8_name 52 = .ok (.iconst 0, 1) := by decide +kernel
theorem dX8_name_53 : decode cX8_name 53 = .ok (.invokestatic 105, 3) := by decide +kernel
theorem dX8_name_56 : decode cX8_name 56 = .ok (.aload_n 0, 1) := by decide +kernel
theorem dX8_name_57 : decode cX8_name 57 = .ok (.iload_n 1, 1) := by decide +kernel
theorem dX8_name_58 : decode cX8_name 58 = .ok (.iload_n 3, 1) := by decide +kernel
theorem dX8_name_59 : decode cX8_name 59 = .ok (.invokevirtual 209, 3) := by decide +kernel
theorem dX8_name_62 : decode cX8_name 62 = .ok (.aload_n 0, 1) := by decide +kernel
theorem dX8_name_63 : decode cX8_name 63 = .ok (.getfield 70, 3) := by decide +kernel
theorem dX8_name_66 : decode cX8_name 66 = .ok (.iload_n 2, 1) := by decide +kernel
theorem dX8_name_67 : decode cX8_name 67 = .ok (.iload_n 3, 1) := by decide +kernel
theorem dX8_name_68 : decode cX8_name 68 = .ok (.invokevirtual 223, 3) := by decide +kernel
theorem dX8_name_71 : decode cX8_name 71 = .ok (.aload_n 0, 1) := by decide +kernel
theorem dX8_name_72 : decode cX8_name 72 = .ok (.getfield 70, 3) := by decide +kernel
theorem dX8_name_75 : decode cX8_name 75 = .ok (.getfield 226, 3) := by decide +kernel
theorem dX8_name_78 : decode cX8_name 78 = .ok (.iload 4, 2) := by decide +kernel
theorem dX8_name_80 : decode cX8_name 80 = .ok (.iaload, 1) := by decide +kernel
theorem dX8_name_81 : decode cX8_name 81 = .ok (.ireturn, 1) := by decide +kernel
theorem dX8_gets_0 : decode cX8_gets 0 = .ok (.aload_n 0, 1) := by decide +kernel
theorem dX8_gets_1 : decode cX8_gets 1 = .ok (.iload_n 1, 1) := by decide +kernel
theorem dX8_gets_2 : decode cX8_gets 2 = .ok (.invokevirtual 229, 3) := by decide +kernel
theorem dX8_gets_5 : decode cX8_gets 5 = .ok (.aload_n 0, 1) := by decide +kernel
theorem dX8_gets_6 : decode cX8_gets 6 = .ok (.iload_n 2, 1) := by decide +kernel
theorem dX8_gets_7 : decode cX8_gets 7 = .ok (.invokevirtual 199, 3) := by decide +kernel
theorem dX8_gets_10 : decode cX8_gets 10 = .ok (.iload_n 3, 1) := by decide +kernel
theorem dX8_gets_11 : decode cX8_gets 11 = .ok (.ifCond .lt 38, 3) := by decide +kernel
theorem dX8_gets_14 : decode cX8_gets 14 = .ok (.iload_n 3, 1) := by decide +kernel
theorem dX8_gets_15 : decode cX8_gets 15 = .ok (.aload_n 0, 1) := by decide +kernel
theorem dX8_gets_16 : decode cX8_gets 16 = .ok (.iload_n 2, 1) := by decide +kernel
theorem dX8_gets_17 : decode cX8_gets 17 = .ok (.invokevirtual 216, 3) := by decide +kernel
theorem dX8_gets_20 : decode cX8_gets 20 = .ok (.getfield 131, 3) := by decide +kernel
theorem dX8_gets_23 : decode cX8_gets 23 = .ok (.if_icmp .ge 26, 3) := by decide +kernel
theorem dX8_gets_26 : decode cX8_gets 26 = .ok (.iload 4, 2) := by decide +kernel
theorem dX8_gets_28 : decode cX8_gets 28 = .ok (.invokestatic 149, 3) := by decide +kernel
theorem dX8_gets_31 : decode cX8_gets 31 = .ok (.ifCond .eq 18, 3) := by decide +kernel
theorem dX8_gets_34 : decode cX8_gets 34 = .ok (.iload 5, 2) := by decide +kernel
theorem dX8_gets_36 : decode cX8_gets 36 = .ok (.ifCond .lt 13, 3) := by decide +kernel
theorem dX8_gets_39 : decode cX8_gets 39 = .ok (.iload 5, 2) := by decide +kernel
theorem dX8_gets_41 : decode cX8_gets 41 = .ok (.iconst 2, 1) := by decide +kernel
theorem dX8_gets_42 : decode cX8_gets 42 = .ok (.if_icmp .gt 7, 3) := by decide +kernel
theorem dX8_gets_45 : decode cX8_gets 45 = .ok (.iconst 1, 1) := by decide +kernel
theorem dX8_gets_46 : decode cX8_gets 46 = .ok (.goto 4, 3) := by decide +kernel
theorem dX8_gets_49 : decode cX8_gets 49 = .ok (.iconst 0, 1) := by decide +kernel
theorem dX8_gets_50 : decode cX8_gets 50 = .ok (.invokestatic 105, 3) := by decide +kernel
theorem dX8_gets_53 : decode cX8_gets 53 = .ok (.aload_n 0, 1) := by decide +kernel
theorem dX8_gets_54 : decode cX8_gets 54 = .ok (.iload_n 2, 1) := by decide +kernel
theorem dX8_gets_55 : decode cX8_gets 55 = .ok (.iload 4, 2) := by decide +kernel
theorem dX8_gets_57 : decode cX8_gets 57 = .ok (.invokevirtual 209, 3) := by decide +kernel
theorem dX8_gets_60 : decode cX8_gets 60 = .ok (.iload 5, 2) := by decide +kernel
theorem dX8_gets_62 : decode cX8_gets 62 = .ok (.iconst 1, 1) := by decide +kernel
theorem dX8_gets_63 : decode cX8_gets 63 = .ok (.if_icmp .ne 20, 3) := by decide +kernel
theorem dX8_gets_66 : decode cX8_gets 66 = .ok (.aload_n 0, 1) := by decide +kernel
theorem dX8_gets_67 : decode cX8_gets 67 = .ok (.getfield 79, 3) := by decide +kernel
theorem dX8_gets_70 : decode cX8_gets 70 = .ok (.aload_n 0, 1) := by decide +kernel
theorem dX8_gets_71 : decode cX8_gets 71 = .ok (.getfield 37, 3) := by decide +kernel
theorem dX8_gets_74 : decode cX8_gets 74 = .ok (.iload_n 1, 1) := by decide +kernel
theorem dX8_gets_75 : decode cX8_gets 75 = .ok (.aaload, 1) := by decide +kernel
theorem dX8_gets_76 : decode cX8_gets 76 = .ok (.iload_n 3, 1) := by decide +kernel
theorem dX8_gets_77 : decode cX8_gets 77 = .ok (.iload 4, 2) := by decide +kernel
theorem dX8_gets_79 : decode cX8_gets 79 = .ok (.invokevirtual 232, 3) := by decide +kernel
theorem dX8_gets_82 : decode cX8_gets 82 = .ok (.ireturn, 1) := by decide +kernel
theorem dX8_gets_83 : decode cX8_gets 83 = .ok (.aload_n 0, 1) := by decide +kernel
theorem dX8_gets_84 : decode cX8_gets 84 = .ok (.getfield 70, 3) := by decide +kernel
theorem dX8_gets_87 : decode cX8_gets 87 = .ok (.iload_n 3, 1) := by decide +kernel
theorem dX8_gets_88 : decode cX8_gets 88 = .ok (.iload 4, 2) := by decide +kernel
theorem dX8_gets_90 : decode cX8_gets 90 = .ok (.invokevirtual 223, 3) := by decide +kernel
theorem dX8_gets_93 : decode cX8_gets 93 = .ok (.iload 5, 2) := by decide +kernel
theorem dX8_gets_95 : decode cX8_gets 95 = .ok (.ifCond .ne 19, 3) := by decide +kernel
theorem dX8_gets_98 : decode cX8_gets 98 = .ok (.aload_n 0, 1) := by decide +kernel
theorem dX8_gets_99 : decode cX8_gets 99 = .ok (.getfield 79, 3) := by decide +kernel
theorem dX8_gets_102 : decode cX8_gets 102 = .ok (.aload_n 0, 1) := by decide +kernel
theorem dX8_gets_103 : decode cX8_gets 103 = .ok (.getfield 37, 3) := by decide +kernel
theorem dX8_gets_106 : decode cX8_gets 106 = .ok (.iload_n 1, 1) := by decide +kernel
theorem dX8_gets_107 : decode cX8_gets 107 = .ok (.aaload, 1) := by decide +kernel
theorem dX8_gets_108 : decode cX8_gets 108 = .ok (.invokevirtual 236, 3) := by decide +kernel
theorem dX8_gets_111 : decode cX8_gets 111 = .ok (.goto 16, 3) := by decide +kernel
theorem dX8_gets_114 : decode cX8_gets 114 = .ok (.aload_n 0, 1) := by decide +kernel
theorem dX8_gets_115 : decode cX8_gets 115 = .ok (.getfield 79, 3) := by decide +kernel
theorem dX8_gets_118 : decode cX8_gets 118 = .ok (.aload_n 0, 1) := by decide +kernel
theorem dX8_gets_119 : decode cX8_gets 119 = .ok (.getfield 37, 3) := by decide +kernel
theorem dX8_gets_122 : decode cX8_gets 122 = .ok (.iload_n 1, 1) := by decide +kernel
theorem dX8_gets_123 : decode cX8_gets 123 = .ok (.aaload, 1) := by decide +kernel
theorem dX8_gets_124 : decode cX8_gets 124 = .ok (.invokevirtual 240, 3) := by decide +kernel
theorem dX8_gets_127 : decode cX8_gets 127 = .ok (.ireturn, 1) := by decide +kernel
theorem dX8_seen_0 : decode cX8_seen 0 = .ok (.aload_n 0, 1) := by decide +kernel
theorem dX8_seen_1 : decode cX8_seen 1 = .ok (.iload_n 1, 1) := by decide +kernel
theorem dX8_seen_2 : decode cX8_seen 2 = .ok (.invokevirtual 229, 3) := by decide +kernel
theorem dX8_seen_5 : decode cX8_seen 5 = .ok (.aload_n 0, 1) := by decide +kernel
theorem dX8_seen_6 : decode cX8_seen 6 = .ok (.iload_n 2, 1) := by decide +kernel
theorem dX8_seen_7 : decode cX8_seen 7 = .ok (.invokevirtual 199, 3) := by decide +kernel
theorem dX8_seen_10 : decode cX8_seen 10 = .ok (.iload_n 3, 1) := by decide +kernel
theorem dX8_seen_11 : decode cX8_seen 11 = .ok (.ifCond .lt 19, 3) := by decide +kernel
theorem dX8_seen_14 : decode cX8_seen 14 = .ok (.iload_n 3, 1) := by decide +kernel
theorem dX8_seen_15 : decode cX8_seen 15 = .ok (.aload_n 0, 1) := by decide +kernel
theorem dX8_seen_16 : decode cX8_seen 16 = .ok (.iload_n 2, 1) := by decide +kernel
theorem dX8_seen_17 : decode cX8_seen 17 = .ok (.invokevirtual 216, 3) := by decide +kernel
theorem dX8_seen_20 : decode cX8_seen 20 = .ok (.getfield 131, 3) := by decide +kernel
theorem dX8_seen_23 : decode cX8_seen 23 = .ok (.if_icmp .ge 7, 3) := by decide +kernel
theorem dX8_seen_26 : decode cX8_seen 26 = .ok (.iconst 1, 1) := by decide +kernel
theorem dX8_seen_27 : decode cX8_seen 27 = .ok (.goto 4, 3) := by decide +kernel
theorem dX8_seen_30 : decode cX8_seen 30 = .ok (.iconst 0, 1) := by decide +kernel
theorem dX8_seen_31 : decode cX8_seen 31 = .ok (.invokestatic 105, 3) := by decide +kernel
theorem dX8_seen_34 : decode cX8_seen 34 = .ok (.aload_n 0, 1) := by decide +kernel
theorem dX8_seen_35 : decode cX8_seen 35 = .ok (.iload_n 2, 1) := by decide +kernel
theorem dX8_seen_36 : decode cX8_seen 36 = .ok (.aload_n 0, 1) := by decide +kernel
theorem dX8_seen_37 : decode cX8_seen 37 = .ok (.iload_n 2, 1) := by decide +kernel
theorem dX8_seen_38 : decode cX8_seen 38 = .ok (.invokevirtual 216, 3) := by decide +kernel
theorem dX8_seen_41 : decode cX8_seen 41 = .ok (.getfield 140, 3) := by decide +kernel
theorem dX8_seen_44 : decode cX8_seen 44 = .ok (.invokevirtual 209, 3) := by decide +kernel
theorem dX8_seen_47 : decode cX8_seen 47 = .ok (.aload_n 0, 1) := by decide +kernel
theorem dX8_seen_48 : decode cX8_seen 48 = .ok (.getfield 79, 3) := by decide +kernel
theorem dX8_seen_51 : decode cX8_seen 51 = .ok (.aload_n 0, 1) := by decide +kernel
theorem dX8_seen_52 : decode cX8_seen 52 = .ok (.getfield 37, 3) := by decide +kernel
theorem dX8_seen_55 : decode cX8_seen 55 = .ok (.iload_n 1, 1) := by decide +kernel
theorem dX8_seen_56 : decode cX8_seen 56 = .ok (.aaload, 1) := by decide +kernel
theorem dX8_seen_57 : decode cX8_seen 57 = .ok (.iload_n 3, 1) := by decide +kernel
theorem dX8_seen_58 : decode cX8_seen 58 = .ok (.invokevirtual 243, 3) := by decide +kernel
theorem dX8_seen_61 : decode cX8_seen 61 = .ok (.ireturn, 1) := by decide +kernel
theorem dX8_says_0 : decode cX8_says 0 = .ok (.aload_n 0, 1) := by decide +kernel
theorem dX8_says_1 : decode cX8_says 1 = .ok (.iload_n 1, 1) := by decide +kernel
theorem dX8_says_2 : decode cX8_says 2 = .ok (.invokevirtual 229, 3) := by decide +kernel
theorem dX8_says_5 : decode cX8_says 5 = .ok (.aload_n 0, 1) := by decide +kernel
theorem dX8_says_6 : decode cX8_says 6 = .ok (.iload_n 2, 1) := by decide +kernel
theorem dX8_says_7 : decode cX8_says 7 = .ok (.invokevirtual 199, 3) := by decide +kernel
theorem dX8_says_10 : decode cX8_says 10 = .ok (.iload_n 3, 1) := by decide +kernel
theorem dX8_says_11 : decode cX8_says 11 = .ok (.invokestatic 247, 3) := by decide +kernel
theorem dX8_says_14 : decode cX8_says 14 = .ok (.invokestatic 105, 3) := by decide +kernel
theorem dX8_says_17 : decode cX8_says 17 = .ok (.aload_n 0, 1) := by decide +kernel
theorem dX8_says_18 : decode cX8_says 18 = .ok (.iload_n 1, 1) := by decide +kernel
theorem dX8_says_19 : decode cX8_says 19 = .ok (.iload_n 2, 1) := by decide +kernel
theorem dX8_says_20 : decode cX8_says 20 = .ok (.invokevirtual 250, 3) := by decide +kernel
theorem dX8_says_23 : decode cX8_says 23 = .ok (.iload_n 3, 1) := by decide +kernel
theorem dX8_says_24 : decode cX8_says 24 = .ok (.invokestatic 253, 3) := by decide +kernel
theorem dX8_says_27 : decode cX8_says 27 = .ok (.ireturn, 1) := by decide +kernel
theorem dX8_miss_0 : decode cX8_miss 0 = .ok (.aload_n 0, 1) := by decide +kernel
theorem dX8_miss_1 : decode cX8_miss 1 = .ok (.iload_n 1, 1) := by decide +kernel
theorem dX8_miss_2 : decode cX8_miss 2 = .ok (.invokevirtual 229, 3) := by decide +kernel
theorem dX8_miss_5 : decode cX8_miss 5 = .ok (.aload_n 0, 1) := by decide +kernel
theorem dX8_miss_6 : decode cX8_miss 6 = .ok (.iload_n 2, 1) := by decide +kernel
theorem dX8_miss_7 : decode cX8_miss 7 = .ok (.invokevirtual 199, 3) := by decide +kernel
theorem dX8_miss_10 : decode cX8_miss 10 = .ok (.iload_n 3, 1) := by decide +kernel
theorem dX8_miss_11 : decode cX8_miss 11 = .ok (.iconst 1, 1) := by decide +kernel
theorem dX8_miss_12 : decode cX8_miss 12 = .ok (.if_icmp .lt 13, 3) := by decide +kernel
theorem dX8_miss_15 : decode cX8_miss 15 = .ok (.iload_n 3, 1) := by decide +kernel
theorem dX8_miss_16 : decode cX8_miss 16 = .ok (.bipush 99, 2) := by decide +kernel
theorem dX8_miss_18 : decode cX8_miss 18 = .ok (.if_icmp .gt 7, 3) := by decide +kernel
theorem dX8_miss_21 : decode cX8_miss 21 = .ok (.iconst 1, 1) := by decide +kernel
theorem dX8_miss_22 : decode cX8_miss 22 = .ok (.goto 4, 3) := by decide +kernel
theorem dX8_miss_25 : decode cX8_miss 25 = .ok (.iconst 0, 1) := by decide +kernel
theorem dX8_miss_26 : decode cX8_miss 26 = .ok (.invokestatic 105, 3) := by decide +kernel
theorem dX8_miss_29 : decode cX8_miss 29 = .ok (.aload_n 0, 1) := by decide +kernel
theorem dX8_miss_30 : decode cX8_miss 30 = .ok (.iload_n 1, 1) := by decide +kernel
theorem dX8_miss_31 : decode cX8_miss 31 = .ok (.iload_n 2, 1) := by decide +kernel
theorem dX8_miss_32 : decode cX8_miss 32 = .ok (.invokevirtual 250, 3) := by decide +kernel
theorem dX8_miss_35 : decode cX8_miss 35 = .ok (.istore 4, 2) := by decide +kernel
theorem dX8_miss_37 : decode cX8_miss 37 = .ok (.iload 4, 2) := by decide +kernel
theorem dX8_miss_39 : decode cX8_miss 39 = .ok (.iconst 0, 1) := by decide +kernel
theorem dX8_miss_40 : decode cX8_miss 40 = .ok (.invokestatic 253, 3) := by decide +kernel
theorem dX8_miss_43 : decode cX8_miss 43 = .ok (.ifCond .eq 21, 3) := by decide +kernel
theorem dX8_miss_46 : decode cX8_miss 46 = .ok (.aload_n 0, 1) := by decide +kernel
theorem dX8_miss_47 : decode cX8_miss 47 = .ok (.getfield 56, 3) := by decide +kernel
theorem dX8_miss_50 : decode cX8_miss 50 = .ok (.iload_n 2, 1) := by decide +kernel
theorem dX8_miss_51 : decode cX8_miss 51 = .ok (.invokevirtual 256, 3) := by decide +kernel
theorem dX8_miss_54 : decode cX8_miss 54 = .ok (.ifCond .eq 8, 3) := by decide +kernel
theorem dX8_miss_57 : decode cX8_miss 57 = .ok (.bipush 7, 2) := by decide +kernel
theorem dX8_miss_59 : decode cX8_miss 59 = .ok (.goto 4, 3) := by decide +kernel
theorem dX8_miss_62 : decode cX8_miss 62 = .ok (.iconst (-1), 1) := by decide +kernel
theorem dX8_miss_63 : decode cX8_miss 63 = .ok (.ireturn, 1) := by decide +kernel
theorem dX8_miss_64 : decode cX8_miss 64 = .ok (.iload 4, 2) := by decide +kernel
theorem dX8_miss_66 : decode cX8_miss 66 = .ok (.iconst 1, 1) := by decide +kernel
theorem dX8_miss_67 : decode cX8_miss 67 = .ok (.iand, 1) := by decide +kernel
theorem dX8_miss_68 : decode cX8_miss 68 = .ok (.ifCond .eq 16, 3) := by decide +kernel
theorem dX8_miss_71 : decode cX8_miss 71 = .ok (.iload 4, 2) := by decide +kernel
theorem dX8_miss_73 : decode cX8_miss 73 = .ok (.iconst 2, 1) := by decide +kernel
theorem dX8_miss_74 : decode cX8_miss 74 = .ok (.iand, 1) := by decide +kernel
theorem dX8_miss_75 : decode cX8_miss 75 = .ok (.ifCond .eq 7, 3) := by decide +kernel
theorem dX8_miss_78 : decode cX8_miss 78 = .ok (.iconst 3, 1) := by decide +kernel
theorem dX8_miss_79 : decode cX8_miss 79 = .ok (.goto 4, 3) := by decide +kernel
theorem dX8_miss_82 : decode cX8_miss 82 = .ok (.iconst 4, 1) := by decide +kernel
theorem dX8_miss_83 : decode cX8_miss 83 = .ok (.ireturn, 1) := by decide +kernel
theorem dX8_miss_84 : decode cX8_miss 84 = .ok (.aload_n 0, 1) := by decide +kernel
theorem dX8_miss_85 : decode cX8_miss 85 = .ok (.iload_n 2, 1) := by decide +kernel
theorem dX8_miss_86 : decode cX8_miss 86 = .ok (.aload_n 0, 1) := by decide +kernel
theorem dX8_miss_87 : decode cX8_miss 87 = .ok (.iload_n 2, 1) := by decide +kernel
theorem dX8_miss_88 : decode cX8_miss 88 = .ok (.invokevirtual 216, 3) := by decide +kernel
theorem dX8_miss_91 : decode cX8_miss 91 = .ok (.getfield 140, 3) := by decide +kernel
theorem dX8_miss_94 : decode cX8_miss 94 = .ok (.invokevirtual 209, 3) := by decide +kernel
theorem dX8_miss_97 : decode cX8_miss 97 = .ok (.aload_n 0, 1) := by decide +kernel
theorem dX8_miss_98 : decode cX8_miss 98 = .ok (.getfield 70, 3) := by decide +kernel
theorem dX8_miss_101 : decode cX8_miss 101 = .ok (.iload_n 3, 1) := by decide +kernel
theorem dX8_miss_102 : decode cX8_miss 102 = .ok (.invokevirtual 259, 3) := by decide +kernel
theorem dX8_miss_105 : decode cX8_miss 105 = .ok (.ireturn, 1) := by decide +kernel
theorem dX8_drawn_0 : decode cX8_drawn 0 = .ok (.aload_n 0, 1) := by decide +kernel
theorem dX8_drawn_1 : decode cX8_drawn 1 = .ok (.iload_n 1, 1) := by decide +kernel
theorem dX8_drawn_2 : decode cX8_drawn 2 = .ok (.invokevirtual 229, 3) := by decide +kernel
theorem dX8_drawn_5 : decode cX8_drawn 5 = .ok (.aload_n 0, 1) := by decide +kernel
theorem dX8_drawn_6 : decode cX8_drawn 6 = .ok (.iload_n 2, 1) := by decide +kernel
theorem dX8_drawn_7 : decode cX8_drawn 7 = .ok (.invokevirtual 199, 3) := by decide +kernel
theorem dX8_drawn_10 : decode cX8_drawn 10 = .ok (.iload_n 3, 1) := by decide +kernel
theorem dX8_drawn_11 : decode cX8_drawn 11 = .ok (.ifCond .lt 13, 3) := by decide +kernel
theorem dX8_drawn_14 : decode cX8_drawn 14 = .ok (.iload_n 3, 1) := by decide +kernel
theorem dX8_drawn_15 : decode cX8_drawn 15 = .ok (.bipush 50, 2) := by decide +kernel
theorem dX8_drawn_17 : decode cX8_drawn 17 = .ok (.if_icmp .gt 7, 3) := by decide +kernel
theorem dX8_drawn_20 : decode cX8_drawn 20 = .ok (.iconst 1, 1) := by decide +kernel
theorem dX8_drawn_21 : decode cX8_drawn 21 = .ok (.goto 4, 3) := by decide +kernel
theorem dX8_drawn_24 : decode cX8_drawn 24 = .ok (.iconst 0, 1) := by decide +kernel
theorem dX8_drawn_25 : decode cX8_drawn 25 = .ok (.invokestatic 105, 3) := by decide +kernel
theorem dX8_drawn_28 : decode cX8_drawn 28 = .ok (.aload_n 0, 1) := by decide +kernel
theorem dX8_drawn_29 : decode cX8_drawn 29 = .ok (.iload_n 2, 1) := by decide +kernel
theorem dX8_drawn_30 : decode cX8_drawn 30 = .ok (.invokevirtual 216, 3) := by decide +kernel
theorem dX8_drawn_33 : decode cX8_drawn 33 = .ok (.astore 5, 2) := by decide +kernel
theorem dX8_drawn_35 : decode cX8_drawn 35 = .ok (.aload 5, 2) := by decide +kernel
theorem dX8_drawn_37 : decode cX8_drawn 37 = .ok (.getfield 143, 3) := by decide +kernel
theorem dX8_drawn_40 : decode cX8_drawn 40 = .ok (.iconst (-1), 1) := by decide +kernel
theorem dX8_drawn_41 : decode cX8_drawn 41 = .ok (.if_icmp .ne 5, 3) := by decide +kernel
theorem dX8_drawn_44 : decode cX8_drawn 44 = .ok (.iconst (-1), 1) := by decide +kernel
theorem dX8_drawn_45 : decode cX8_drawn 45 = .ok (.ireturn, 1) := by decide +kernel
theorem dX8_drawn_46 : decode cX8_drawn 46 = .ok (.aload_n 0, 1) := by decide +kernel
theorem dX8_drawn_47 : decode cX8_drawn 47 = .ok (.iload_n 2, 1) := by decide +kernel
theorem dX8_drawn_48 : decode cX8_drawn 48 = .ok (.aload 5, 2) := by decide +kernel
theorem dX8_drawn_50 : decode cX8_drawn 50 = .ok (.getfield 140, 3) := by decide +kernel
theorem dX8_drawn_53 : decode cX8_drawn 53 = .ok (.invokevirtual 209, 3) := by decide +kernel
theorem dX8_drawn_56 : decode cX8_drawn 56 = .ok (.aload_n 0, 1) := by decide +kernel
theorem dX8_drawn_57 : decode cX8_drawn 57 = .ok (.getfield 79, 3) := by decide +kernel
theorem dX8_drawn_60 : decode cX8_drawn 60 = .ok (.iload_n 3, 1) := by decide +kernel
theorem dX8_drawn_61 : decode cX8_drawn 61 = .ok (.iload 4, 2) := by decide +kernel
theorem dX8_drawn_63 : decode cX8_drawn 63 = .ok (.invokevirtual 262, 3) := by decide +kernel
theorem dX8_drawn_66 : decode cX8_drawn 66 = .ok (.aload_n 0, 1) := by decide +kernel
theorem dX8_drawn_67 : decode cX8_drawn 67 = .ok (.getfield 79, 3) := by decide +kernel
theorem dX8_drawn_70 : decode cX8_drawn 70 = .ok (.aload_n 0, 1) := by decide +kernel
theorem dX8_drawn_71 : decode cX8_drawn 71 = .ok (.getfield 37, 3) := by decide +kernel
theorem dX8_drawn_74 : decode cX8_drawn 74 = .ok (.iload_n 1, 1) := by decide +kernel
theorem dX8_drawn_75 : decode cX8_drawn 75 = .ok (.aaload, 1) := by decide +kernel
theorem dX8_drawn_76 : decode cX8_drawn 76 = .ok (.aload 5, 2) := by decide +kernel
theorem dX8_drawn_78 : decode cX8_drawn 78 = .ok (.getfield 143, 3) := by decide +kernel
theorem dX8_drawn_81 : decode cX8_drawn 81 = .ok (.invokevirtual 243, 3) := by decide +kernel
theorem dX8_drawn_84 : decode cX8_drawn 84 = .ok (.ireturn, 1) := by decide +kernel
theorem dX8_change_0 : decode cX8_change 0 = .ok (.aload_n 0, 1) := by decide +kernel
theorem dX8_change_1 : decode cX8_change 1 = .ok (.iload_n 1, 1) := by decide +kernel
theorem dX8_change_2 : decode cX8_change 2 = .ok (.invokevirtual 229, 3) := by decide +kernel
theorem dX8_change_5 : decode cX8_change 5 = .ok (.aload_n 0, 1) := by decide +kernel
theorem dX8_change_6 : decode cX8_change 6 = .ok (.iload_n 2, 1) := by decide +kernel
theorem dX8_change_7 : decode cX8_change 7 = .ok (.invokevirtual 199, 3) := by decide +kernel
theorem dX8_change_10 : decode cX8_change 10 = .ok (.aload_n 0, 1) := by decide +kernel
theorem dX8_change_11 : decode cX8_change 11 = .ok (.iload_n 1, 1) := by decide +kernel
theorem dX8_change_12 : decode cX8_change 12 = .ok (.iload_n 2, 1) := by decide +kernel
theorem dX8_change_13 : decode cX8_change 13 = .ok (.invokevirtual 265, 3) := by decide +kernel
theorem dX8_change_16 : decode cX8_change 16 = .ok (.ireturn, 1) := by decide +kernel
theorem dX8_yet_0 : decode cX8_yet 0 = .ok (.aload_n 0, 1) := by decide +kernel
theorem dX8_yet_1 : decode cX8_yet 1 = .ok (.iload_n 1, 1) := by decide +kernel
theorem dX8_yet_2 : decode cX8_yet 2 = .ok (.invokevirtual 229, 3) := by decide +kernel
theorem dX8_yet_5 : decode cX8_yet 5 = .ok (.iconst 0, 1) := by decide +kernel
theorem dX8_yet_6 : decode cX8_yet 6 = .ok (.istore_n 2, 1) := by decide +kernel
theorem dX8_yet_7 : decode cX8_yet 7 = .ok (.iconst 0, 1) := by decide +kernel
theorem dX8_yet_8 : decode cX8_yet 8 = .ok (.istore_n 3, 1) := by decide +kernel
theorem dX8_yet_9 : decode cX8_yet 9 = .ok (.iload_n 3, 1) := by decide +kernel
theorem dX8_yet_10 : decode cX8_yet 10 = .ok (.aload_n 0, 1) := by decide +kernel
theorem dX8_yet_11 : decode cX8_yet 11 = .ok (.getfield 56, 3) := by decide +kernel
theorem dX8_yet_14 : decode cX8_yet 14 = .ok (.getfield 268, 3) := by decide +kernel
theorem dX8_yet_17 : decode cX8_yet 17 = .ok (.if_icmp .ge 34, 3) := by decide +kernel
theorem dX8_yet_20 : decode cX8_yet 20 = .ok (.aload_n 0, 1) := by decide +kernel
theorem dX8_yet_21 : decode cX8_yet 21 = .ok (.iload_n 1, 1) := by decide +kernel
theorem dX8_yet_22 : decode cX8_yet 22 = .ok (.iload_n 3, 1) := by decide +kernel
theorem dX8_yet_23 : decode cX8_yet 23 = .ok (.invokevirtual 250, 3) := by decide +kernel
theorem dX8_yet_26 : decode cX8_yet 26 = .ok (.iconst 1, 1) := by decide +kernel
theorem dX8_yet_27 : decode cX8_yet 27 = .ok (.iand, 1) := by decide +kernel
theorem dX8_yet_28 : decode cX8_yet 28 = .ok (.ifCond .ne 17, 3) := by decide +kernel
theorem dX8_yet_31 : decode cX8_yet 31 = .ok (.aload_n 0, 1) := by decide +kernel
theorem dX8_yet_32 : decode cX8_yet 32 = .ok (.iload_n 3, 1) := by decide +kernel
theorem dX8_yet_33 : decode cX8_yet 33 = .ok (.invokevirtual 271, 3) := by decide +kernel
theorem dX8_yet_36 : decode cX8_yet 36 = .ok (.ifCond .eq 9, 3) := by decide +kernel
theorem dX8_yet_39 : decode cX8_yet 39 = .ok (.iload_n 2, 1) := by decide +kernel
theorem dX8_yet_40 : decode cX8_yet 40 = .ok (.iconst 1, 1) := by decide +kernel
theorem dX8_yet_41 : decode cX8_yet 41 = .ok (.iload_n 3, 1) := by decide +kernel
theorem dX8_yet_42 : decode cX8_yet 42 = .ok (.ishl, 1) := by decide +kernel
theorem dX8_yet_43 : decode cX8_yet 43 = .ok (.ior, 1) := by decide +kernel
theorem dX8_yet_44 : decode cX8_yet 44 = .ok (.istore_n 2, 1) := by decide +kernel
theorem dX8_yet_45 : decode cX8_yet 45 = .ok (.iinc 3 1, 3) := by decide +kernel
theorem dX8_yet_48 : decode cX8_yet 48 = .ok (.goto (-39), 3) := by decide +kernel
theorem dX8_yet_51 : decode cX8_yet 51 = .ok (.iload_n 2, 1) := by decide +kernel
theorem dX8_yet_52 : decode cX8_yet 52 = .ok (.ireturn, 1) := by decide +kernel
theorem dX8_least_0 : decode cX8_least 0 = .ok (.aload_n 0, 1) := by decide +kernel
theorem dX8_least_1 : decode cX8_least 1 = .ok (.iload_n 1, 1) := by decide +kernel
theorem dX8_least_2 : decode cX8_least 2 = .ok (.invokevirtual 229, 3) := by decide +kernel
theorem dX8_least_5 : decode cX8_least 5 = .ok (.aload_n 0, 1) := by decide +kernel
theorem dX8_least_6 : decode cX8_least 6 = .ok (.iload_n 2, 1) := by decide +kernel
theorem dX8_least_7 : decode cX8_least 7 = .ok (.invokevirtual 199, 3) := by decide +kernel
theorem dX8_least_10 : decode cX8_least 10 = .ok (.iload_n 3, 1) := by decide +kernel
theorem dX8_least_11 : decode cX8_least 11 = .ok (.ifCond .lt 12, 3) := by decide +kernel
theorem dX8_least_14 : decode cX8_least 14 = .ok (.iload_n 3, 1) := by decide +kernel
theorem dX8_least_15 : decode cX8_least 15 = .ok (.iconst 2, 1) := by decide +kernel
theorem dX8_least_16 : decode cX8_least 16 = .ok (.if_icmp .gt 7, 3) := by decide +kernel
theorem dX8_least_19 : decode cX8_least 19 = .ok (.iconst 1, 1) := by decide +kernel
theorem dX8_least_20 : decode cX8_least 20 = .ok (.goto 4, 3) := by decide +kernel
theorem dX8_least_23 : decode cX8_least 23 = .ok (.iconst 0, 1) := by decide +kernel
theorem dX8_least_24 : decode cX8_least 24 = .ok (.invokestatic 105, 3) := by decide +kernel
theorem dX8_least_27 : decode cX8_least 27 = .ok (.aload_n 0, 1) := by decide +kernel
theorem dX8_least_28 : decode cX8_least 28 = .ok (.iload_n 2, 1) := by decide +kernel
theorem dX8_least_29 : decode cX8_least 29 = .ok (.invokevirtual 216, 3) := by decide +kernel
theorem dX8_least_32 : decode cX8_least 32 = .ok (.astore 4, 2) := by decide +kernel
theorem dX8_least_34 : decode cX8_least 34 = .ok (.aload 4, 2) := by decide +kernel
theorem dX8_least_36 : decode cX8_least 36 = .ok (.getfield 143, 3) := by decide +kernel
theorem dX8_least_39 : decode cX8_least 39 = .ok (.iconst (-1), 1) := by decide +kernel
theorem dX8_least_40 : decode cX8_least 40 = .ok (.if_icmp .ne 5, 3) := by decide +kernel
theorem dX8_least_43 : decode cX8_least 43 = .ok (.iconst (-1), 1) := by decide +kernel
theorem dX8_least_44 : decode cX8_least 44 = .ok (.ireturn, 1) := by decide +kernel
theorem dX8_least_45 : decode cX8_least 45 = .ok (.aload_n 0, 1) := by decide +kernel
theorem dX8_least_46 : decode cX8_least 46 = .ok (.iload_n 2, 1) := by decide +kernel
theorem dX8_least_47 : decode cX8_least 47 = .ok (.aload 4, 2) := by decide +kernel
theorem dX8_least_49 : decode cX8_least 49 = .ok (.getfield 140, 3) := by decide +kernel
theorem dX8_least_52 : decode cX8_least 52 = .ok (.invokevirtual 209, 3) := by decide +kernel
theorem dX8_least_55 : decode cX8_least 55 = .ok (.iload_n 3, 1) := by decide +kernel
theorem dX8_least_56 : decode cX8_least 56 = .ok (.iconst 1, 1) := by decide +kernel
theorem dX8_least_57 : decode cX8_least 57 = .ok (.if_icmp .ne 8, 3) := by decide +kernel
theorem dX8_least_60 : decode cX8_least 60 = .ok (.bipush 20, 2) := by decide +kernel
theorem dX8_least_62 : decode cX8_least 62 = .ok (.goto 5, 3) := by decide +kernel
theorem dX8_least_65 : decode cX8_least 65 = .ok (.bipush 9, 2) := by decide +kernel
theorem dX8_least_67 : decode cX8_least 67 = .ok (.istore 5, 2) := by decide +kernel
theorem dX8_least_69 : decode cX8_least 69 = .ok (.iload_n 3, 1) := by decide +kernel
theorem dX8_least_70 : decode cX8_least 70 = .ok (.iconst 1, 1) := by decide +kernel
theorem dX8_least_71 : decode cX8_least 71 = .ok (.if_icmp .ne 7, 3) := by decide +kernel
theorem dX8_least_74 : decode cX8_least 74 = .ok (.iconst 0, 1) := by decide +kernel
theorem dX8_least_75 : decode cX8_least 75 = .ok (.goto 4, 3) := by decide +kernel
theorem dX8_least_78 : decode cX8_least 78 = .ok (.iconst 1, 1) := by decide +kernel
theorem dX8_least_79 : decode cX8_least 79 = .ok (.istore 6, 2) := by decide +kernel
theorem dX8_least_81 : decode cX8_least 81 = .ok (.iload 6, 2) := by decide +kernel
theorem dX8_least_83 : decode cX8_least 83 = .ok (.iload 5, 2) := by decide +kernel
theorem dX8_least_85 : decode cX8_least 85 = .ok (.if_icmp .gt 44, 3) := by decide +kernel
theorem dX8_least_88 : decode cX8_least 88 = .ok (.aload_n 0, 1) := by decide +kernel
theorem dX8_least_89 : decode cX8_least 89 = .ok (.getfield 70, 3) := by decide +kernel
theorem dX8_least_92 : decode cX8_least 92 = .ok (.iload_n 3, 1) := by decide +kernel
theorem dX8_least_93 : decode cX8_least 93 = .ok (.iload 6, 2) := by decide +kernel
theorem dX8_least_95 : decode cX8_least 95 = .ok (.invokevirtual 274, 3) := by decide +kernel
theorem dX8_least_98 : decode cX8_least 98 = .ok (.aload_n 0, 1) := by decide +kernel
theorem dX8_least_99 : decode cX8_least 99 = .ok (.getfield 79, 3) := by decide +kernel
theorem dX8_least_102 : decode cX8_least 102 = .ok (.aload_n 0, 1) := by decide +kernel
theorem dX8_least_103 : decode cX8_least 103 = .ok (.getfield 37, 3) := by decide +kernel
theorem dX8_least_106 : decode cX8_least 106 = .ok (.iload_n 1, 1) := by decide +kernel
theorem dX8_least_107 : decode cX8_least 107 = .ok (.aaload, 1) := by decide +kernel
theorem dX8_least_108 : decode cX8_least 108 = .ok (.aload 4, 2) := by decide +kernel
theorem dX8_least_110 : decode cX8_least 110 = .ok (.getfield 143, 3) := by decide +kernel
theorem dX8_least_113 : decode cX8_least 113 = .ok (.invokevirtual 243, 3) := by decide +kernel
theorem dX8_least_116 : decode cX8_least 116 = .ok (.iconst (-1), 1) := by decide +kernel
theorem dX8_least_117 : decode cX8_least 117 = .ok (.if_icmp .eq 6, 3) := by decide +kernel
theorem dX8_least_120 : decode cX8_least 120 = .ok (.iload 6, 2) := by decide +kernel
theorem dX8_least_122 : decode cX8_least 122 = .ok (.ireturn, 1) := by decide +kernel
theorem dX8_least_123 : decode cX8_least 123 = .ok (.iinc 6 1, 3) := by decide +kernel
theorem dX8_least_126 : decode cX8_least 126 = .ok (.goto (-45), 3) := by decide +kernel
theorem dX8_least_129 : decode cX8_least 129 = .ok (.iconst (-1), 1) := by decide +kernel
theorem dX8_least_130 : decode cX8_least 130 = .ok (.ireturn, 1) := by decide +kernel
theorem dX8_answer_0 : decode cX8_answer 0 = .ok (.aload_n 0, 1) := by decide +kernel
theorem dX8_answer_1 : decode cX8_answer 1 = .ok (.iload_n 1, 1) := by decide +kernel
theorem dX8_answer_2 : decode cX8_answer 2 = .ok (.invokevirtual 199, 3) := by decide +kernel
theorem dX8_answer_5 : decode cX8_answer 5 = .ok (.iload_n 2, 1) := by decide +kernel
theorem dX8_answer_6 : decode cX8_answer 6 = .ok (.invokestatic 247, 3) := by decide +kernel
theorem dX8_answer_9 : decode cX8_answer 9 = .ok (.invokestatic 105, 3) := by decide +kernel
theorem dX8_answer_12 : decode cX8_answer 12 = .ok (.aload_n 0, 1) := by decide +kernel
theorem dX8_answer_13 : decode cX8_answer 13 = .ok (.getfield 56, 3) := by decide +kernel
theorem dX8_answer_16 : decode cX8_answer 16 = .ok (.iload_n 1, 1) := by decide +kernel
theorem dX8_answer_17 : decode cX8_answer 17 = .ok (.iload_n 2, 1) := by decide +kernel
theorem dX8_answer_18 : decode cX8_answer 18 = .ok (.invokevirtual 277, 3) := by decide +kernel
theorem dX8_answer_21 : decode cX8_answer 21 = .ok (.istore 4, 2) := by decide +kernel
theorem dX8_answer_23 : decode cX8_answer 23 = .ok (.aload_n 0, 1) := by decide +kernel
theorem dX8_answer_24 : decode cX8_answer 24 = .ok (.getfield 56, 3) := by decide +kernel
theorem dX8_answer_27 : decode cX8_answer 27 = .ok (.getfield 280, 3) := by decide +kernel
theorem dX8_answer_30 : decode cX8_answer 30 = .ok (.iload_n 1, 1) := by decide +kernel
theorem dX8_answer_31 : decode cX8_answer 31 = .ok (.iconst 3, 1) := by decide +kernel
theorem dX8_answer_32 : decode cX8_answer 32 = .ok (.imul, 1) := by decide +kernel
theorem dX8_answer_33 : decode cX8_answer 33 = .ok (.iload_n 2, 1) := by decide +kernel
theorem dX8_answer_34 : decode cX8_answer 34 = .ok (.iadd, 1) := by decide +kernel
theorem dX8_answer_35 : decode cX8_answer 35 = .ok (.iload_n 3, 1) := by decide +kernel
theorem dX8_answer_36 : decode cX8_answer 36 = .ok (.ifCond .eq 7, 3) := by decide +kernel
theorem dX8_answer_39 : decode cX8_answer 39 = .ok (.iconst 1, 1) := by decide +kernel
theorem dX8_answer_40 : decode cX8_answer 40 = .ok (.goto 4, 3) := by decide +kernel
theorem dX8_answer_43 : decode cX8_answer 43 = .ok (.iconst 0, 1) := by decide +kernel
theorem dX8_answer_44 : decode cX8_answer 44 = .ok (.iastore, 1) := by decide +kernel
theorem dX8_answer_45 : decode cX8_answer 45 = .ok (.iload 4, 2) := by decide +kernel
theorem dX8_answer_47 : decode cX8_answer 47 = .ok (.ireturn, 1) := by decide +kernel
theorem dX8_counted_0 : decode cX8_counted 0 = .ok (.aload_n 0, 1) := by decide +kernel
theorem dX8_counted_1 : decode cX8_counted 1 = .ok (.iload_n 1, 1) := by decide +kernel
theorem dX8_counted_2 : decode cX8_counted 2 = .ok (.invokevirtual 199, 3) := by decide +kernel
theorem dX8_counted_5 : decode cX8_counted 5 = .ok (.iload_n 2, 1) := by decide +kernel
theorem dX8_counted_6 : decode cX8_counted 6 = .ok (.ifCond .lt 14, 3) := by decide +kernel
theorem dX8_counted_9 : decode cX8_counted 9 = .ok (.iload_n 2, 1) := by decide +kernel
theorem dX8_counted_10 : decode cX8_counted 10 = .ok (.sipush 999, 3) := by decide +kernel
theorem dX8_counted_13 : decode cX8_counted 13 = .ok (.if_icmp .gt 7, 3) := by decide +kernel
theorem dX8_counted_16 : decode cX8_counted 16 = .ok (.iconst 1, 1) := by decide +kernel
theorem dX8_counted_17 : decode cX8_counted 17 = .ok (.goto 4, 3) := by decide +kernel
theorem dX8_counted_20 : decode cX8_counted 20 = .ok (.iconst 0, 1) := by decide +kernel
theorem dX8_counted_21 : decode cX8_counted 21 = .ok (.invokestatic 105, 3) := by decide +kernel
theorem dX8_counted_24 : decode cX8_counted 24 = .ok (.aload_n 0, 1) := by decide +kernel
theorem dX8_counted_25 : decode cX8_counted 25 = .ok (.getfield 56, 3) := by decide +kernel
theorem dX8_counted_28 : decode cX8_counted 28 = .ok (.getfield 283, 3) := by decide +kernel
theorem dX8_counted_31 : decode cX8_counted 31 = .ok (.iload_n 1, 1) := by decide +kernel
theorem dX8_counted_32 : decode cX8_counted 32 = .ok (.iaload, 1) := by decide +kernel
theorem dX8_counted_33 : decode cX8_counted 33 = .ok (.istore_n 3, 1) := by decide +kernel
theorem dX8_counted_34 : decode cX8_counted 34 = .ok (.aload_n 0, 1) := by decide +kernel
theorem dX8_counted_35 : decode cX8_counted 35 = .ok (.getfield 56, 3) := by decide +kernel
theorem dX8_counted_38 : decode cX8_counted 38 = .ok (.getfield 283, 3) := by decide +kernel
theorem dX8_counted_41 : decode cX8_counted 41 = .ok (.iload_n 1, 1) := by decide +kernel
theorem dX8_counted_42 : decode cX8_counted 42 = .ok (.iload_n 2, 1) := by decide +kernel
theorem dX8_counted_43 : decode cX8_counted 43 = .ok (.iastore, 1) := by decide +kernel
theorem dX8_counted_44 : decode cX8_counted 44 = .ok (.iload_n 3, 1) := by decide +kernel
theorem dX8_counted_45 : decode cX8_counted 45 = .ok (.ireturn, 1) := by decide +kernel
theorem dX8_sure_0 : decode cX8_sure 0 = .ok (.aload_n 0, 1) := by decide +kernel
theorem dX8_sure_1 : decode cX8_sure 1 = .ok (.iload_n 1, 1) := by decide +kernel
theorem dX8_sure_2 : decode cX8_sure 2 = .ok (.invokevirtual 199, 3) := by decide +kernel
theorem dX8_sure_5 : decode cX8_sure 5 = .ok (.iload_n 2, 1) := by decide +kernel
theorem dX8_sure_6 : decode cX8_sure 6 = .ok (.ifCond .lt 13, 3) := by decide +kernel
theorem dX8_sure_9 : decode cX8_sure 9 = .ok (.iload_n 2, 1) := by decide +kernel
theorem dX8_sure_10 : decode cX8_sure 10 = .ok (.bipush 100, 2) := by decide +kernel
theorem dX8_sure_12 : decode cX8_sure 12 = .ok (.if_icmp .gt 7, 3) := by decide +kernel
theorem dX8_sure_15 : decode cX8_sure 15 = .ok (.iconst 1, 1) := by decide +kernel
theorem dX8_sure_16 : decode cX8_sure 16 = .ok (.goto 4, 3) := by decide +kernel
theorem dX8_sure_19 : decode cX8_sure 19 = .ok (.iconst 0, 1) := by decide +kernel
theorem dX8_sure_20 : decode cX8_sure 20 = .ok (.invokestatic 105, 3) := by decide +kernel
theorem dX8_sure_23 : decode cX8_sure 23 = .ok (.aload_n 0, 1) := by decide +kernel
theorem dX8_sure_24 : decode cX8_sure 24 = .ok (.getfield 56, 3) := by decide +kernel
theorem dX8_sure_27 : decode cX8_sure 27 = .ok (.getfield 286, 3) := by decide +kernel
theorem dX8_sure_30 : decode cX8_sure 30 = .ok (.iload_n 1, 1) := by decide +kernel
theorem dX8_sure_31 : decode cX8_sure 31 = .ok (.iaload, 1) := by decide +kernel
theorem dX8_sure_32 : decode cX8_sure 32 = .ok (.istore_n 3, 1) := by decide +kernel
theorem dX8_sure_33 : decode cX8_sure 33 = .ok (.aload_n 0, 1) := by decide +kernel
theorem dX8_sure_34 : decode cX8_sure 34 = .ok (.getfield 56, 3) := by decide +kernel
theorem dX8_sure_37 : decode cX8_sure 37 = .ok (.getfield 286, 3) := by decide +kernel
theorem dX8_sure_40 : decode cX8_sure 40 = .ok (.iload_n 1, 1) := by decide +kernel
theorem dX8_sure_41 : decode cX8_sure 41 = .ok (.iload_n 2, 1) := by decide +kernel
theorem dX8_sure_42 : decode cX8_sure 42 = .ok (.iastore, 1) := by decide +kernel
theorem dX8_sure_43 : decode cX8_sure 43 = .ok (.iload_n 3, 1) := by decide +kernel
theorem dX8_sure_44 : decode cX8_sure 44 = .ok (.ireturn, 1) := by decide +kernel
theorem dX8_share_0 : decode cX8_share 0 = .ok (.aload_n 0, 1) := by decide +kernel
theorem dX8_share_1 : decode cX8_share 1 = .ok (.iload_n 1, 1) := by decide +kernel
theorem dX8_share_2 : decode cX8_share 2 = .ok (.invokevirtual 128, 3) := by decide +kernel
theorem dX8_share_5 : decode cX8_share 5 = .ok (.aload_n 0, 1) := by decide +kernel
theorem dX8_share_6 : decode cX8_share 6 = .ok (.iload_n 2, 1) := by decide +kernel
theorem dX8_share_7 : decode cX8_share 7 = .ok (.invokevirtual 170, 3) := by decide +kernel
theorem dX8_share_10 : decode cX8_share 10 = .ok (.iload_n 3, 1) := by decide +kernel
theorem dX8_share_11 : decode cX8_share 11 = .ok (.invokestatic 247, 3) := by decide +kernel
theorem dX8_share_14 : decode cX8_share 14 = .ok (.ifCond .eq 18, 3) := by decide +kernel
theorem dX8_share_17 : decode cX8_share 17 = .ok (.iload 4, 2) := by decide +kernel
theorem dX8_share_19 : decode cX8_share 19 = .ok (.ifCond .lt 13, 3) := by decide +kernel
theorem dX8_share_22 : decode cX8_share 22 = .ok (.iload 4, 2) := by decide +kernel
theorem dX8_share_24 : decode cX8_share 24 = .ok (.iconst 3, 1) := by decide +kernel
theorem dX8_share_25 : decode cX8_share 25 = .ok (.if_icmp .gt 7, 3) := by decide +kernel
theorem dX8_share_28 : decode cX8_share 28 = .ok (.iconst 1, 1) := by decide +kernel
theorem dX8_share_29 : decode cX8_share 29 = .ok (.goto 4, 3) := by decide +kernel
theorem dX8_share_32 : decode cX8_share 32 = .ok (.iconst 0, 1) := by decide +kernel
theorem dX8_share_33 : decode cX8_share 33 = .ok (.invokestatic 105, 3) := by decide +kernel
theorem dX8_share_36 : decode cX8_share 36 = .ok (.aload_n 0, 1) := by decide +kernel
theorem dX8_share_37 : decode cX8_share 37 = .ok (.getfield 56, 3) := by decide +kernel
theorem dX8_share_40 : decode cX8_share 40 = .ok (.iload_n 1, 1) := by decide +kernel
theorem dX8_share_41 : decode cX8_share 41 = .ok (.iload_n 2, 1) := by decide +kernel
theorem dX8_share_42 : decode cX8_share 42 = .ok (.iload_n 3, 1) := by decide +kernel
theorem dX8_share_43 : decode cX8_share 43 = .ok (.invokevirtual 289, 3) := by decide +kernel
theorem dX8_share_46 : decode cX8_share 46 = .ok (.istore 5, 2) := by decide +kernel
theorem dX8_share_48 : decode cX8_share 48 = .ok (.aload_n 0, 1) := by decide +kernel
theorem dX8_share_49 : decode cX8_share 49 = .ok (.getfield 56, 3) := by decide +kernel
theorem dX8_share_52 : decode cX8_share 52 = .ok (.iload_n 1, 1) := by decide +kernel
theorem dX8_share_53 : decode cX8_share 53 = .ok (.iload_n 2, 1) := by decide +kernel
theorem dX8_share_54 : decode cX8_share 54 = .ok (.iload_n 3, 1) := by decide +kernel
theorem dX8_share_55 : decode cX8_share 55 = .ok (.invokevirtual 292, 3) := by decide +kernel
theorem dX8_share_58 : decode cX8_share 58 = .ok (.istore 6, 2) := by decide +kernel
theorem dX8_share_60 : decode cX8_share 60 = .ok (.iconst 1, 1) := by decide +kernel
theorem dX8_share_61 : decode cX8_share 61 = .ok (.iload 6, 2) := by decide +kernel
theorem dX8_share_63 : decode cX8_share 63 = .ok (.invokestatic 295, 3) := by decide +kernel
theorem dX8_share_66 : decode cX8_share 66 = .ok (.iadd, 1) := by decide +kernel
theorem dX8_share_67 : decode cX8_share 67 = .ok (.istore 7, 2) := by decide +kernel
theorem dX8_share_69 : decode cX8_share 69 = .ok (.iload 4, 2) := by decide +kernel
theorem dX8_share_71 : decode cX8_share 71 = .ok (.tableswitch 41 0 2 #[25, 28, 31], 25) := by decide +kernel
theorem dX8_share_96 : decode cX8_share 96 = .ok (.iload 5, 2) := by decide +kernel
theorem dX8_share_98 : decode cX8_share 98 = .ok (.ireturn, 1) := by decide +kernel
theorem dX8_share_99 : decode cX8_share 99 = .ok (.iload 6, 2) := by decide +kernel
theorem dX8_share_101 : decode cX8_share 101 = .ok (.ireturn, 1) := by decide +kernel
theorem dX8_share_102 : decode cX8_share 102 = .ok (.iconst 0, 1) := by decide +kernel
theorem dX8_share_103 : decode cX8_share 103 = .ok (.iload 6, 2) := by decide +kernel
theorem dX8_share_105 : decode cX8_share 105 = .ok (.iload 7, 2) := by decide +kernel
theorem dX8_share_107 : decode cX8_share 107 = .ok (.isub, 1) := by decide +kernel
theorem dX8_share_108 : decode cX8_share 108 = .ok (.invokestatic 298, 3) := by decide +kernel
theorem dX8_share_111 : decode cX8_share 111 = .ok (.ireturn, 1) := by decide +kernel
theorem dX8_share_112 : decode cX8_share 112 = .ok (.iload 5, 2) := by decide +kernel
theorem dX8_share_114 : decode cX8_share 114 = .ok (.iload 6, 2) := by decide +kernel
theorem dX8_share_116 : decode cX8_share 116 = .ok (.iload 7, 2) := by decide +kernel
theorem dX8_share_118 : decode cX8_share 118 = .ok (.iadd, 1) := by decide +kernel
theorem dX8_share_119 : decode cX8_share 119 = .ok (.invokestatic 303, 3) := by decide +kernel
theorem dX8_share_122 : decode cX8_share 122 = .ok (.ireturn, 1) := by decide +kernel
theorem dX8_guessed_0 : decode cX8_guessed 0 = .ok (.aload_n 0, 1) := by decide +kernel
theorem dX8_guessed_1 : decode cX8_guessed 1 = .ok (.iload_n 1, 1) := by decide +kernel
theorem dX8_guessed_2 : decode cX8_guessed 2 = .ok (.invokevirtual 128, 3) := by decide +kernel
theorem dX8_guessed_5 : decode cX8_guessed 5 = .ok (.aload_n 0, 1) := by decide +kernel
theorem dX8_guessed_6 : decode cX8_guessed 6 = .ok (.iload_n 2, 1) := by decide +kernel
theorem dX8_guessed_7 : decode cX8_guessed 7 = .ok (.invokevirtual 128, 3) := by decide +kernel
theorem dX8_guessed_10 : decode cX8_guessed 10 = .ok (.aload_n 0, 1) := by decide +kernel
theorem dX8_guessed_11 : decode cX8_guessed 11 = .ok (.iload_n 3, 1) := by decide +kernel
theorem dX8_guessed_12 : decode cX8_guessed 12 = .ok (.invokevirtual 170, 3) := by decide +kernel
theorem dX8_guessed_15 : decode cX8_guessed 15 = .ok (.iload 4, 2) := by decide +kernel
theorem dX8_guessed_17 : decode cX8_guessed 17 = .ok (.invokestatic 247, 3) := by decide +kernel
theorem dX8_guessed_20 : decode cX8_guessed 20 = .ok (.invokestatic 105, 3) := by decide +kernel
theorem dX8_guessed_23 : decode cX8_guessed 23 = .ok (.aload_n 0, 1) := by decide +kernel
theorem dX8_guessed_24 : decode cX8_guessed 24 = .ok (.getfield 56, 3) := by decide +kernel
theorem dX8_guessed_27 : decode cX8_guessed 27 = .ok (.iload_n 1, 1) := by decide +kernel
theorem dX8_guessed_28 : decode cX8_guessed 28 = .ok (.iload_n 3, 1) := by decide +kernel
theorem dX8_guessed_29 : decode cX8_guessed 29 = .ok (.iload 4, 2) := by decide +kernel
theorem dX8_guessed_31 : decode cX8_guessed 31 = .ok (.invokevirtual 289, 3) := by decide +kernel
theorem dX8_guessed_34 : decode cX8_guessed 34 = .ok (.istore 5, 2) := by decide +kernel
theorem dX8_guessed_36 : decode cX8_guessed 36 = .ok (.aload_n 0, 1) := by decide +kernel
theorem dX8_guessed_37 : decode cX8_guessed 37 = .ok (.getfield 56, 3) := by decide +kernel
theorem dX8_guessed_40 : decode cX8_guessed 40 = .ok (.iload_n 1, 1) := by decide +kernel
theorem dX8_guessed_41 : decode cX8_guessed 41 = .ok (.iload_n 3, 1) := by decide +kernel
theorem dX8_guessed_42 : decode cX8_guessed 42 = .ok (.iload 4, 2) := by decide +kernel
theorem dX8_guessed_44 : decode cX8_guessed 44 = .ok (.invokevirtual 292, 3) := by decide +kernel
theorem dX8_guessed_47 : decode cX8_guessed 47 = .ok (.istore 6, 2) := by decide +kernel
theorem dX8_guessed_49 : decode cX8_guessed 49 = .ok (.aload_n 0, 1) := by decide +kernel
theorem dX8_guessed_50 : decode cX8_guessed 50 = .ok (.getfield 56, 3) := by decide +kernel
theorem dX8_guessed_53 : decode cX8_guessed 53 = .ok (.iload_n 2, 1) := by decide +kernel
theorem dX8_guessed_54 : decode cX8_guessed 54 = .ok (.iload_n 3, 1) := by decide +kernel
theorem dX8_guessed_55 : decode cX8_guessed 55 = .ok (.iload 4, 2) := by decide +kernel
theorem dX8_guessed_57 : decode cX8_guessed 57 = .ok (.invokevirtual 289, 3) := by decide +kernel
theorem dX8_guessed_60 : decode cX8_guessed 60 = .ok (.istore 7, 2) := by decide +kernel
theorem dX8_guessed_62 : decode cX8_guessed 62 = .ok (.aload_n 0, 1) := by decide +kernel
theorem dX8_guessed_63 : decode cX8_guessed 63 = .ok (.getfield 56, 3) := by decide +kernel
theorem dX8_guessed_66 : decode cX8_guessed 66 = .ok (.iload_n 2, 1) := by decide +kernel
theorem dX8_guessed_67 : decode cX8_guessed 67 = .ok (.iload_n 3, 1) := by decide +kernel
theorem dX8_guessed_68 : decode cX8_guessed 68 = .ok (.iload 4, 2) := by decide +kernel
theorem dX8_guessed_70 : decode cX8_guessed 70 = .ok (.invokevirtual 292, 3) := by decide +kernel
theorem dX8_guessed_73 : decode cX8_guessed 73 = .ok (.istore 8, 2) := by decide +kernel
theorem dX8_guessed_75 : decode cX8_guessed 75 = .ok (.iload 5, 2) := by decide +kernel
theorem dX8_guessed_77 : decode cX8_guessed 77 = .ok (.iload 7, 2) := by decide +kernel
theorem dX8_guessed_79 : decode cX8_guessed 79 = .ok (.iload 8, 2) := by decide +kernel
theorem dX8_guessed_81 : decode cX8_guessed 81 = .ok (.isub, 1) := by decide +kernel
theorem dX8_guessed_82 : decode cX8_guessed 82 = .ok (.imul, 1) := by decide +kernel
theorem dX8_guessed_83 : decode cX8_guessed 83 = .ok (.istore 9, 2) := by decide +kernel
theorem dX8_guessed_85 : decode cX8_guessed 85 = .ok (.iload 9, 2) := by decide +kernel
theorem dX8_guessed_87 : decode cX8_guessed 87 = .ok (.ifCond .ne 5, 3) := by decide +kernel
theorem dX8_guessed_90 : decode cX8_guessed 90 = .ok (.iconst (-1), 1) := by decide +kernel
theorem dX8_guessed_91 : decode cX8_guessed 91 = .ok (.ireturn, 1) := by decide +kernel
theorem dX8_guessed_92 : decode cX8_guessed 92 = .ok (.iconst 0, 1) := by decide +kernel
theorem dX8_guessed_93 : decode cX8_guessed 93 = .ok (.sipush 1000, 3) := by decide +kernel
theorem dX8_guessed_96 : decode cX8_guessed 96 = .ok (.iload 6, 2) := by decide +kernel
theorem dX8_guessed_98 : decode cX8_guessed 98 = .ok (.iload 7, 2) := by decide +kernel
theorem dX8_guessed_100 : decode cX8_guessed 100 = .ok (.imul, 1) := by decide +kernel
theorem dX8_guessed_101 : decode cX8_guessed 101 = .ok (.iload 8, 2) := by decide +kernel
theorem dX8_guessed_103 : decode cX8_guessed 103 = .ok (.iload 5, 2) := by decide +kernel
theorem dX8_guessed_105 : decode cX8_guessed 105 = .ok (.imul, 1) := by decide +kernel
theorem dX8_guessed_106 : decode cX8_guessed 106 = .ok (.isub, 1) := by decide +kernel
theorem dX8_guessed_107 : decode cX8_guessed 107 = .ok (.imul, 1) := by decide +kernel
theorem dX8_guessed_108 : decode cX8_guessed 108 = .ok (.iload 9, 2) := by decide +kernel
theorem dX8_guessed_110 : decode cX8_guessed 110 = .ok (.idiv, 1) := by decide +kernel
theorem dX8_guessed_111 : decode cX8_guessed 111 = .ok (.invokestatic 298, 3) := by decide +kernel
theorem dX8_guessed_114 : decode cX8_guessed 114 = .ok (.ireturn, 1) := by decide +kernel
theorem dX8_apart_0 : decode cX8_apart 0 = .ok (.aload_n 0, 1) := by decide +kernel
theorem dX8_apart_1 : decode cX8_apart 1 = .ok (.iload_n 1, 1) := by decide +kernel
theorem dX8_apart_2 : decode cX8_apart 2 = .ok (.invokevirtual 128, 3) := by decide +kernel
theorem dX8_apart_5 : decode cX8_apart 5 = .ok (.aload_n 0, 1) := by decide +kernel
theorem dX8_apart_6 : decode cX8_apart 6 = .ok (.iload_n 3, 1) := by decide +kernel
theorem dX8_apart_7 : decode cX8_apart 7 = .ok (.invokevirtual 128, 3) := by decide +kernel
theorem dX8_apart_10 : decode cX8_apart 10 = .ok (.aload_n 0, 1) := by decide +kernel
theorem dX8_apart_11 : decode cX8_apart 11 = .ok (.iload_n 2, 1) := by decide +kernel
theorem dX8_apart_12 : decode cX8_apart 12 = .ok (.invokevirtual 170, 3) := by decide +kernel
theorem dX8_apart_15 : decode cX8_apart 15 = .ok (.aload_n 0, 1) := by decide +kernel
theorem dX8_apart_16 : decode cX8_apart 16 = .ok (.iload 4, 2) := by decide +kernel
theorem dX8_apart_18 : decode cX8_apart 18 = .ok (.invokevirtual 170, 3) := by decide +kernel
theorem dX8_apart_21 : decode cX8_apart 21 = .ok (.iload 5, 2) := by decide +kernel
theorem dX8_apart_23 : decode cX8_apart 23 = .ok (.invokestatic 247, 3) := by decide +kernel
theorem dX8_apart_26 : decode cX8_apart 26 = .ok (.ifCond .eq 18, 3) := by decide +kernel
theorem dX8_apart_29 : decode cX8_apart 29 = .ok (.iload 6, 2) := by decide +kernel
theorem dX8_apart_31 : decode cX8_apart 31 = .ok (.ifCond .lt 13, 3) := by decide +kernel
theorem dX8_apart_34 : decode cX8_apart 34 = .ok (.iload 6, 2) := by decide +kernel
theorem dX8_apart_36 : decode cX8_apart 36 = .ok (.iconst 2, 1) := by decide +kernel
theorem dX8_apart_37 : decode cX8_apart 37 = .ok (.if_icmp .gt 7, 3) := by decide +kernel
theorem dX8_apart_40 : decode cX8_apart 40 = .ok (.iconst 1, 1) := by decide +kernel
theorem dX8_apart_41 : decode cX8_apart 41 = .ok (.goto 4, 3) := by decide +kernel
theorem dX8_apart_44 : decode cX8_apart 44 = .ok (.iconst 0, 1) := by decide +kernel
theorem dX8_apart_45 : decode cX8_apart 45 = .ok (.invokestatic 105, 3) := by decide +kernel
theorem dX8_apart_48 : decode cX8_apart 48 = .ok (.aload_n 0, 1) := by decide +kernel
theorem dX8_apart_49 : decode cX8_apart 49 = .ok (.getfield 56, 3) := by decide +kernel
theorem dX8_apart_52 : decode cX8_apart 52 = .ok (.iload_n 1, 1) := by decide +kernel
theorem dX8_apart_53 : decode cX8_apart 53 = .ok (.iload_n 2, 1) := by decide +kernel
theorem dX8_apart_54 : decode cX8_apart 54 = .ok (.iload 5, 2) := by decide +kernel
theorem dX8_apart_56 : decode cX8_apart 56 = .ok (.invokevirtual 289, 3) := by decide +kernel
theorem dX8_apart_59 : decode cX8_apart 59 = .ok (.istore 7, 2) := by decide +kernel
theorem dX8_apart_61 : decode cX8_apart 61 = .ok (.aload_n 0, 1) := by decide +kernel
theorem dX8_apart_62 : decode cX8_apart 62 = .ok (.getfield 56, 3) := by decide +kernel
theorem dX8_apart_65 : decode cX8_apart 65 = .ok (.iload_n 1, 1) := by decide +kernel
theorem dX8_apart_66 : decode cX8_apart 66 = .ok (.iload_n 2, 1) := by decide +kernel
theorem dX8_apart_67 : decode cX8_apart 67 = .ok (.iload 5, 2) := by decide +kernel
theorem dX8_apart_69 : decode cX8_apart 69 = .ok (.invokevirtual 292, 3) := by decide +kernel
theorem dX8_apart_72 : decode cX8_apart 72 = .ok (.istore 8, 2) := by decide +kernel
theorem dX8_apart_74 : decode cX8_apart 74 = .ok (.aload_n 0, 1) := by decide +kernel
theorem dX8_apart_75 : decode cX8_apart 75 = .ok (.getfield 56, 3) := by decide +kernel
theorem dX8_apart_78 : decode cX8_apart 78 = .ok (.iload_n 3, 1) := by decide +kernel
theorem dX8_apart_79 : decode cX8_apart 79 = .ok (.iload 4, 2) := by decide +kernel
theorem dX8_apart_81 : decode cX8_apart 81 = .ok (.iload 5, 2) := by decide +kernel
theorem dX8_apart_83 : decode cX8_apart 83 = .ok (.invokevirtual 289, 3) := by decide +kernel
theorem dX8_apart_86 : decode cX8_apart 86 = .ok (.istore 9, 2) := by decide +kernel
theorem dX8_apart_88 : decode cX8_apart 88 = .ok (.aload_n 0, 1) := by decide +kernel
theorem dX8_apart_89 : decode cX8_apart 89 = .ok (.getfield 56, 3) := by decide +kernel
theorem dX8_apart_92 : decode cX8_apart 92 = .ok (.iload_n 3, 1) := by decide +kernel
theorem dX8_apart_93 : decode cX8_apart 93 = .ok (.iload 4, 2) := by decide +kernel
theorem dX8_apart_95 : decode cX8_apart 95 = .ok (.iload 5, 2) := by decide +kernel
theorem dX8_apart_97 : decode cX8_apart 97 = .ok (.invokevirtual 292, 3) := by decide +kernel
theorem dX8_apart_100 : decode cX8_apart 100 = .ok (.istore 10, 2) := by decide +kernel
theorem dX8_apart_102 : decode cX8_apart 102 = .ok (.iload 6, 2) := by decide +kernel
theorem dX8_apart_104 : decode cX8_apart 104 = .ok (.lookupswitch 52 #[(0, 28), (1, 40)], 28) := by decide +kernel
theorem dX8_apart_132 : decode cX8_apart 132 = .ok (.iload 8, 2) := by decide +kernel
theorem dX8_apart_134 : decode cX8_apart 134 = .ok (.iload 9, 2) := by decide +kernel
theorem dX8_apart_136 : decode cX8_apart 136 = .ok (.imul, 1) := by decide +kernel
theorem dX8_apart_137 : decode cX8_apart 137 = .ok (.iload 10, 2) := by decide +kernel
theorem dX8_apart_139 : decode cX8_apart 139 = .ok (.iload 7, 2) := by decide +kernel
theorem dX8_apart_141 : decode cX8_apart 141 = .ok (.imul, 1) := by decide +kernel
theorem dX8_apart_142 : decode cX8_apart 142 = .ok (.isub, 1) := by decide +kernel
theorem dX8_apart_143 : decode cX8_apart 143 = .ok (.ireturn, 1) := by decide +kernel
theorem dX8_apart_144 : decode cX8_apart 144 = .ok (.iload 7, 2) := by decide +kernel
theorem dX8_apart_146 : decode cX8_apart 146 = .ok (.iload 8, 2) := by decide +kernel
theorem dX8_apart_148 : decode cX8_apart 148 = .ok (.iload 9, 2) := by decide +kernel
theorem dX8_apart_150 : decode cX8_apart 150 = .ok (.iload 10, 2) := by decide +kernel
theorem dX8_apart_152 : decode cX8_apart 152 = .ok (.invokestatic 306, 3) := by decide +kernel
theorem dX8_apart_155 : decode cX8_apart 155 = .ok (.ireturn, 1) := by decide +kernel
theorem dX8_apart_156 : decode cX8_apart 156 = .ok (.iload 7, 2) := by decide +kernel
theorem dX8_apart_158 : decode cX8_apart 158 = .ok (.iload 9, 2) := by decide +kernel
theorem dX8_apart_160 : decode cX8_apart 160 = .ok (.iadd, 1) := by decide +kernel
theorem dX8_apart_161 : decode cX8_apart 161 = .ok (.iload 7, 2) := by decide +kernel
theorem dX8_apart_163 : decode cX8_apart 163 = .ok (.invokestatic 310, 3) := by decide +kernel
theorem dX8_apart_166 : decode cX8_apart 166 = .ok (.ireturn, 1) := by decide +kernel
theorem dX8_gone_0 : decode cX8_gone 0 = .ok (.aload_n 0, 1) := by decide +kernel
theorem dX8_gone_1 : decode cX8_gone 1 = .ok (.iload_n 1, 1) := by decide +kernel
theorem dX8_gone_2 : decode cX8_gone 2 = .ok (.invokevirtual 128, 3) := by decide +kernel
theorem dX8_gone_5 : decode cX8_gone 5 = .ok (.aload_n 0, 1) := by decide +kernel
theorem dX8_gone_6 : decode cX8_gone 6 = .ok (.iload_n 2, 1) := by decide +kernel
theorem dX8_gone_7 : decode cX8_gone 7 = .ok (.invokevirtual 170, 3) := by decide +kernel
theorem dX8_gone_10 : decode cX8_gone 10 = .ok (.iload_n 3, 1) := by decide +kernel
theorem dX8_gone_11 : decode cX8_gone 11 = .ok (.ifCond .lt 12, 3) := by decide +kernel
theorem dX8_gone_14 : decode cX8_gone 14 = .ok (.iload_n 3, 1) := by decide +kernel
theorem dX8_gone_15 : decode cX8_gone 15 = .ok (.iconst 2, 1) := by decide +kernel
theorem dX8_gone_16 : decode cX8_gone 16 = .ok (.if_icmp .gt 7, 3) := by decide +kernel
theorem dX8_gone_19 : decode cX8_gone 19 = .ok (.iconst 1, 1) := by decide +kernel
theorem dX8_gone_20 : decode cX8_gone 20 = .ok (.goto 4, 3) := by decide +kernel
theorem dX8_gone_23 : decode cX8_gone 23 = .ok (.iconst 0, 1) := by decide +kernel
theorem dX8_gone_24 : decode cX8_gone 24 = .ok (.invokestatic 105, 3) := by decide +kernel
theorem dX8_gone_27 : decode cX8_gone 27 = .ok (.iconst 0, 1) := by decide +kernel
theorem dX8_gone_28 : decode cX8_gone 28 = .ok (.istore 4, 2) := by decide +kernel
theorem dX8_gone_30 : decode cX8_gone 30 = .ok (.iconst 0, 1) := by decide +kernel
theorem dX8_gone_31 : decode cX8_gone 31 = .ok (.istore 5, 2) := by decide +kernel
theorem dX8_gone_33 : decode cX8_gone 33 = .ok (.iload 5, 2) := by decide +kernel
theorem dX8_gone_35 : decode cX8_gone 35 = .ok (.aload_n 0, 1) := by decide +kernel
theorem dX8_gone_36 : decode cX8_gone 36 = .ok (.getfield 56, 3) := by decide +kernel
theorem dX8_gone_39 : decode cX8_gone 39 = .ok (.getfield 268, 3) := by decide +kernel
theorem dX8_gone_42 : decode cX8_gone 42 = .ok (.if_icmp .ge 52, 3) := by decide +kernel
theorem dX8_gone_45 : decode cX8_gone 45 = .ok (.aload_n 0, 1) := by decide +kernel
theorem dX8_gone_46 : decode cX8_gone 46 = .ok (.getfield 56, 3) := by decide +kernel
theorem dX8_gone_49 : decode cX8_gone 49 = .ok (.iload 5, 2) := by decide +kernel
theorem dX8_gone_51 : decode cX8_gone 51 = .ok (.iload_n 1, 1) := by decide +kernel
theorem dX8_gone_52 : decode cX8_gone 52 = .ok (.iload_n 2, 1) := by decide +kernel
theorem dX8_gone_53 : decode cX8_gone 53 = .ok (.invokevirtual 313, 3) := by decide +kernel
theorem dX8_gone_56 : decode cX8_gone 56 = .ok (.ifCond .eq 32, 3) := by decide +kernel
theorem dX8_gone_59 : decode cX8_gone 59 = .ok (.iload_n 3, 1) := by decide +kernel
theorem dX8_gone_60 : decode cX8_gone 60 = .ok (.iconst 2, 1) := by decide +kernel
theorem dX8_gone_61 : decode cX8_gone 61 = .ok (.if_icmp .eq 24, 3) := by decide +kernel
theorem dX8_gone_64 : decode cX8_gone 64 = .ok (.aload_n 0, 1) := by decide +kernel
theorem dX8_gone_65 : decode cX8_gone 65 = .ok (.getfield 56, 3) := by decide +kernel
theorem dX8_gone_68 : decode cX8_gone 68 = .ok (.iload 5, 2) := by decide +kernel
theorem dX8_gone_70 : decode cX8_gone 70 = .ok (.iload_n 3, 1) := by decide +kernel
theorem dX8_gone_71 : decode cX8_gone 71 = .ok (.ifCond .ne 7, 3) := by decide +kernel
theorem dX8_gone_74 : decode cX8_gone 74 = .ok (.iconst 1, 1) := by decide +kernel
theorem dX8_gone_75 : decode cX8_gone 75 = .ok (.goto 4, 3) := by decide +kernel
theorem dX8_gone_78 : decode cX8_gone 78 = .ok (.iconst 0, 1) := by decide +kernel
theorem dX8_gone_79 : decode cX8_gone 79 = .ok (.invokevirtual 317, 3) := by decide +kernel
theorem dX8_gone_82 : decode cX8_gone 82 = .ok (.ifCond .eq 6, 3) := by decide +kernel
theorem dX8_gone_85 : decode cX8_gone 85 = .ok (.iinc 4 1, 3) := by decide +kernel
theorem dX8_gone_88 : decode cX8_gone 88 = .ok (.iinc 5 1, 3) := by decide +kernel
theorem dX8_gone_91 : decode cX8_gone 91 = .ok (.goto (-58), 3) := by decide +kernel
theorem dX8_gone_94 : decode cX8_gone 94 = .ok (.iload 4, 2) := by decide +kernel
theorem dX8_gone_96 : decode cX8_gone 96 = .ok (.ireturn, 1) := by decide +kernel
theorem dX8_lost_0 : decode cX8_lost 0 = .ok (.aload_n 0, 1) := by decide +kernel
theorem dX8_lost_1 : decode cX8_lost 1 = .ok (.iload_n 1, 1) := by decide +kernel
theorem dX8_lost_2 : decode cX8_lost 2 = .ok (.invokevirtual 199, 3) := by decide +kernel
theorem dX8_lost_5 : decode cX8_lost 5 = .ok (.aload_n 0, 1) := by decide +kernel
theorem dX8_lost_6 : decode cX8_lost 6 = .ok (.iload_n 1, 1) := by decide +kernel
theorem dX8_lost_7 : decode cX8_lost 7 = .ok (.invokevirtual 321, 3) := by decide +kernel
theorem dX8_lost_10 : decode cX8_lost 10 = .ok (.ireturn, 1) := by decide +kernel
theorem dX8_cost_0 : decode cX8_cost 0 = .ok (.aload_n 0, 1) := by decide +kernel
theorem dX8_cost_1 : decode cX8_cost 1 = .ok (.iload_n 1, 1) := by decide +kernel
theorem dX8_cost_2 : decode cX8_cost 2 = .ok (.invokevirtual 128, 3) := by decide +kernel
theorem dX8_cost_5 : decode cX8_cost 5 = .ok (.aload_n 0, 1) := by decide +kernel
theorem dX8_cost_6 : decode cX8_cost 6 = .ok (.iload_n 2, 1) := by decide +kernel
theorem dX8_cost_7 : decode cX8_cost 7 = .ok (.invokevirtual 170, 3) := by decide +kernel
theorem dX8_cost_10 : decode cX8_cost 10 = .ok (.aload_n 0, 1) := by decide +kernel
theorem dX8_cost_11 : decode cX8_cost 11 = .ok (.iload_n 3, 1) := by decide +kernel
theorem dX8_cost_12 : decode cX8_cost 12 = .ok (.invokevirtual 170, 3) := by decide +kernel
theorem dX8_cost_15 : decode cX8_cost 15 = .ok (.aload_n 0, 1) := by decide +kernel
theorem dX8_cost_16 : decode cX8_cost 16 = .ok (.getfield 28, 3) := by decide +kernel
theorem dX8_cost_19 : decode cX8_cost 19 = .ok (.iload_n 2, 1) := by decide +kernel
theorem dX8_cost_20 : decode cX8_cost 20 = .ok (.aaload, 1) := by decide +kernel
theorem dX8_cost_21 : decode cX8_cost 21 = .ok (.getfield 179, 3) := by decide +kernel
theorem dX8_cost_24 : decode cX8_cost 24 = .ok (.iconst (-1), 1) := by decide +kernel
theorem dX8_cost_25 : decode cX8_cost 25 = .ok (.if_icmp .eq 16, 3) := by decide +kernel
theorem dX8_cost_28 : decode cX8_cost 28 = .ok (.aload_n 0, 1) := by decide +kernel
theorem dX8_cost_29 : decode cX8_cost 29 = .ok (.getfield 28, 3) := by decide +kernel
theorem dX8_cost_32 : decode cX8_cost 32 = .ok (.iload_n 3, 1) := by decide +kernel
theorem dX8_cost_33 : decode cX8_cost 33 = .ok (.aaload, 1) := by decide +kernel
theorem dX8_cost_34 : decode cX8_cost 34 = .ok (.getfield 179, 3) := by decide +kernel
theorem dX8_cost_37 : decode cX8_cost 37 = .ok (.iconst (-1), 1) := by decide +kernel
theorem dX8_cost_38 : decode cX8_cost 38 = .ok (.if_icmp .ne 5, 3) := by decide +kernel
theorem dX8_cost_41 : decode cX8_cost 41 = .ok (.iconst 0, 1) := by decide +kernel
theorem dX8_cost_42 : decode cX8_cost 42 = .ok (.ireturn, 1) := by decide +kernel
theorem dX8_cost_43 : decode cX8_cost 43 = .ok (.aload_n 0, 1) := by decide +kernel
theorem dX8_cost_44 : decode cX8_cost 44 = .ok (.iload_n 1, 1) := by decide +kernel
theorem dX8_cost_45 : decode cX8_cost 45 = .ok (.iload_n 2, 1) := by decide +kernel
theorem dX8_cost_46 : decode cX8_cost 46 = .ok (.invokevirtual 324, 3) := by decide +kernel
theorem dX8_cost_49 : decode cX8_cost 49 = .ok (.aload_n 0, 1) := by decide +kernel
theorem dX8_cost_50 : decode cX8_cost 50 = .ok (.getfield 56, 3) := by decide +kernel
theorem dX8_cost_53 : decode cX8_cost 53 = .ok (.iload_n 1, 1) := by decide +kernel
theorem dX8_cost_54 : decode cX8_cost 54 = .ok (.iload_n 3, 1) := by decide +kernel
theorem dX8_cost_55 : decode cX8_cost 55 = .ok (.invokevirtual 327, 3) := by decide +kernel
theorem dX8_cost_58 : decode cX8_cost 58 = .ok (.imul, 1) := by decide +kernel
theorem dX8_cost_59 : decode cX8_cost 59 = .ok (.aload_n 0, 1) := by decide +kernel
theorem dX8_cost_60 : decode cX8_cost 60 = .ok (.iload_n 1, 1) := by decide +kernel
theorem dX8_cost_61 : decode cX8_cost 61 = .ok (.iload_n 3, 1) := by decide +kernel
theorem dX8_cost_62 : decode cX8_cost 62 = .ok (.invokevirtual 324, 3) := by decide +kernel
theorem dX8_cost_65 : decode cX8_cost 65 = .ok (.aload_n 0, 1) := by decide +kernel
theorem dX8_cost_66 : decode cX8_cost 66 = .ok (.getfield 56, 3) := by decide +kernel
theorem dX8_cost_69 : decode cX8_cost 69 = .ok (.iload_n 1, 1) := by decide +kernel
theorem dX8_cost_70 : decode cX8_cost 70 = .ok (.iload_n 2, 1) := by decide +kernel
theorem dX8_cost_71 : decode cX8_cost 71 = .ok (.invokevirtual 327, 3) := by decide +kernel
theorem dX8_cost_74 : decode cX8_cost 74 = .ok (.imul, 1) := by decide +kernel
theorem dX8_cost_75 : decode cX8_cost 75 = .ok (.isub, 1) := by decide +kernel
theorem dX8_cost_76 : decode cX8_cost 76 = .ok (.ireturn, 1) := by decide +kernel
theorem dX8_off_0 : decode cX8_off 0 = .ok (.aload_n 0, 1) := by decide +kernel
theorem dX8_off_1 : decode cX8_off 1 = .ok (.iload_n 1, 1) := by decide +kernel
theorem dX8_off_2 : decode cX8_off 2 = .ok (.invokevirtual 128, 3) := by decide +kernel
theorem dX8_off_5 : decode cX8_off 5 = .ok (.aload_n 0, 1) := by decide +kernel
theorem dX8_off_6 : decode cX8_off 6 = .ok (.iload_n 2, 1) := by decide +kernel
theorem dX8_off_7 : decode cX8_off 7 = .ok (.invokevirtual 170, 3) := by decide +kernel
theorem dX8_off_10 : decode cX8_off 10 = .ok (.iload_n 3, 1) := by decide +kernel
theorem dX8_off_11 : decode cX8_off 11 = .ok (.ifCond .eq 8, 3) := by decide +kernel
theorem dX8_off_14 : decode cX8_off 14 = .ok (.iload_n 3, 1) := by decide +kernel
theorem dX8_off_15 : decode cX8_off 15 = .ok (.iconst 1, 1) := by decide +kernel
theorem dX8_off_16 : decode cX8_off 16 = .ok (.if_icmp .ne 7, 3) := by decide +kernel
theorem dX8_off_19 : decode cX8_off 19 = .ok (.iconst 1, 1) := by decide +kernel
theorem dX8_off_20 : decode cX8_off 20 = .ok (.goto 4, 3) := by decide +kernel
theorem dX8_off_23 : decode cX8_off 23 = .ok (.iconst 0, 1) := by decide +kernel
theorem dX8_off_24 : decode cX8_off 24 = .ok (.invokestatic 105, 3) := by decide +kernel
theorem dX8_off_27 : decode cX8_off 27 = .ok (.iconst 0, 1) := by decide +kernel
theorem dX8_off_28 : decode cX8_off 28 = .ok (.istore 4, 2) := by decide +kernel
theorem dX8_off_30 : decode cX8_off 30 = .ok (.iconst 0, 1) := by decide +kernel
theorem dX8_off_31 : decode cX8_off 31 = .ok (.istore 5, 2) := by decide +kernel
theorem dX8_off_33 : decode cX8_off 33 = .ok (.iconst 0, 1) := by decide +kernel
theorem dX8_off_34 : decode cX8_off 34 = .ok (.istore 6, 2) := by decide +kernel
theorem dX8_off_36 : decode cX8_off 36 = .ok (.iload 6, 2) := by decide +kernel
theorem dX8_off_38 : decode cX8_off 38 = .ok (.aload_n 0, 1) := by decide +kernel
theorem dX8_off_39 : decode cX8_off 39 = .ok (.getfield 56, 3) := by decide +kernel
theorem dX8_off_42 : decode cX8_off 42 = .ok (.getfield 268, 3) := by decide +kernel
theorem dX8_off_45 : decode cX8_off 45 = .ok (.if_icmp .ge 101, 3) := by decide +kernel
theorem dX8_off_48 : decode cX8_off 48 = .ok (.aload_n 0, 1) := by decide +kernel
theorem dX8_off_49 : decode cX8_off 49 = .ok (.getfield 56, 3) := by decide +kernel
theorem dX8_off_52 : decode cX8_off 52 = .ok (.iload 6, 2) := by decide +kernel
theorem dX8_off_54 : decode cX8_off 54 = .ok (.iload_n 1, 1) := by decide +kernel
theorem dX8_off_55 : decode cX8_off 55 = .ok (.iload_n 2, 1) := by decide +kernel
theorem dX8_off_56 : decode cX8_off 56 = .ok (.iconst 0, 1) := by decide +kernel
theorem dX8_off_57 : decode cX8_off 57 = .ok (.invokevirtual 330, 3) := by decide +kernel
theorem dX8_off_60 : decode cX8_off 60 = .ok (.ifCond .eq 80, 3) := by decide +kernel
theorem dX8_off_63 : decode cX8_off 63 = .ok (.aload_n 0, 1) := by decide +kernel
theorem dX8_off_64 : decode cX8_off 64 = .ok (.getfield 56, 3) := by decide +kernel
theorem dX8_off_67 : decode cX8_off 67 = .ok (.getfield 286, 3) := by decide +kernel
theorem dX8_off_70 : decode cX8_off 70 = .ok (.iload 6, 2) := by decide +kernel
theorem dX8_off_72 : decode cX8_off 72 = .ok (.iaload, 1) := by decide +kernel
theorem dX8_off_73 : decode cX8_off 73 = .ok (.iconst (-1), 1) := by decide +kernel
theorem dX8_off_74 : decode cX8_off 74 = .ok (.if_icmp .eq 66, 3) := by decide +kernel
theorem dX8_off_77 : decode cX8_off 77 = .ok (.aload_n 0, 1) := by decide +kernel
theorem dX8_off_78 : decode cX8_off 78 = .ok (.getfield 56, 3) := by decide +kernel
theorem dX8_off_81 : decode cX8_off 81 = .ok (.iload 6, 2) := by decide +kernel
theorem dX8_off_83 : decode cX8_off 83 = .ok (.iconst 0, 1) := by decide +kernel
theorem dX8_off_84 : decode cX8_off 84 = .ok (.invokevirtual 277, 3) := by decide +kernel
theorem dX8_off_87 : decode cX8_off 87 = .ok (.istore 7, 2) := by decide +kernel
theorem dX8_off_89 : decode cX8_off 89 = .ok (.iload 4, 2) := by decide +kernel
theorem dX8_off_91 : decode cX8_off 91 = .ok (.aload_n 0, 1) := by decide +kernel
theorem dX8_off_92 : decode cX8_off 92 = .ok (.getfield 56, 3) := by decide +kernel
theorem dX8_off_95 : decode cX8_off 95 = .ok (.getfield 286, 3) := by decide +kernel
theorem dX8_off_98 : decode cX8_off 98 = .ok (.iload 6, 2) := by decide +kernel
theorem dX8_off_100 : decode cX8_off 100 = .ok (.iaload, 1) := by decide +kernel
theorem dX8_off_101 : decode cX8_off 101 = .ok (.bipush 100, 2) := by decide +kernel
theorem dX8_off_103 : decode cX8_off 103 = .ok (.iload 7, 2) := by decide +kernel
theorem dX8_off_105 : decode cX8_off 105 = .ok (.imul, 1) := by decide +kernel
theorem dX8_off_106 : decode cX8_off 106 = .ok (.isub, 1) := by decide +kernel
theorem dX8_off_107 : decode cX8_off 107 = .ok (.iadd, 1) := by decide +kernel
theorem dX8_off_108 : decode cX8_off 108 = .ok (.istore 4, 2) := by decide +kernel
theorem dX8_off_110 : decode cX8_off 110 = .ok (.iload 5, 2) := by decide +kernel
theorem dX8_off_112 : decode cX8_off 112 = .ok (.aload_n 0, 1) := by decide +kernel
theorem dX8_off_113 : decode cX8_off 113 = .ok (.getfield 56, 3) := by decide +kernel
theorem dX8_off_116 : decode cX8_off 116 = .ok (.getfield 286, 3) := by decide +kernel
theorem dX8_off_119 : decode cX8_off 119 = .ok (.iload 6, 2) := by decide +kernel
theorem dX8_off_121 : decode cX8_off 121 = .ok (.iaload, 1) := by decide +kernel
theorem dX8_off_122 : decode cX8_off 122 = .ok (.bipush 50, 2) := by decide +kernel
theorem dX8_off_124 : decode cX8_off 124 = .ok (.if_icmp .lt 12, 3) := by decide +kernel
theorem dX8_off_127 : decode cX8_off 127 = .ok (.iload 7, 2) := by decide +kernel
theorem dX8_off_129 : decode cX8_off 129 = .ok (.ifCond .ne 7, 3) := by decide +kernel
theorem dX8_off_132 : decode cX8_off 132 = .ok (.iconst 1, 1) := by decide +kernel
theorem dX8_off_133 : decode cX8_off 133 = .ok (.goto 4, 3) := by decide +kernel
theorem dX8_off_136 : decode cX8_off 136 = .ok (.iconst 0, 1) := by decide +kernel
theorem dX8_off_137 : decode cX8_off 137 = .ok (.iadd, 1) := by decide +kernel
theorem dX8_off_138 : decode cX8_off 138 = .ok (.istore 5, 2) := by decide +kernel
theorem dX8_off_140 : decode cX8_off 140 = .ok (.iinc 6 1, 3) := by decide +kernel
theorem dX8_off_143 : decode cX8_off 143 = .ok (.goto (-107), 3) := by decide +kernel
theorem dX8_off_146 : decode cX8_off 146 = .ok (.iload_n 3, 1) := by decide +kernel
theorem dX8_off_147 : decode cX8_off 147 = .ok (.ifCond .ne 8, 3) := by decide +kernel
theorem dX8_off_150 : decode cX8_off 150 = .ok (.iload 4, 2) := by decide +kernel
theorem dX8_off_152 : decode cX8_off 152 = .ok (.goto 5, 3) := by decide +kernel
theorem dX8_off_155 : decode cX8_off 155 = .ok (.iload 5, 2) := by decide +kernel
theorem dX8_off_157 : decode cX8_off 157 = .ok (.ireturn, 1) := by decide +kernel
theorem dX8_weigh_0 : decode cX8_weigh 0 = .ok (.aload_n 0, 1) := by decide +kernel
theorem dX8_weigh_1 : decode cX8_weigh 1 = .ok (.iload_n 1, 1) := by decide +kernel
theorem dX8_weigh_2 : decode cX8_weigh 2 = .ok (.invokevirtual 229, 3) := by decide +kernel
theorem dX8_weigh_5 : decode cX8_weigh 5 = .ok (.iload_n 2, 1) := by decide +kernel
theorem dX8_weigh_6 : decode cX8_weigh 6 = .ok (.iconst 1, 1) := by decide +kernel
theorem dX8_weigh_7 : decode cX8_weigh 7 = .ok (.if_icmp .lt 13, 3) := by decide +kernel
theorem dX8_weigh_10 : decode cX8_weigh 10 = .ok (.iload_n 2, 1) := by decide +kernel
theorem dX8_weigh_11 : decode cX8_weigh 11 = .ok (.bipush 9, 2) := by decide +kernel
theorem dX8_weigh_13 : decode cX8_weigh 13 = .ok (.if_icmp .gt 7, 3) := by decide +kernel
theorem dX8_weigh_16 : decode cX8_weigh 16 = .ok (.iconst 1, 1) := by decide +kernel
theorem dX8_weigh_17 : decode cX8_weigh 17 = .ok (.goto 4, 3) := by decide +kernel
theorem dX8_weigh_20 : decode cX8_weigh 20 = .ok (.iconst 0, 1) := by decide +kernel
theorem dX8_weigh_21 : decode cX8_weigh 21 = .ok (.invokestatic 105, 3) := by decide +kernel
theorem dX8_weigh_24 : decode cX8_weigh 24 = .ok (.aload_n 0, 1) := by decide +kernel
theorem dX8_weigh_25 : decode cX8_weigh 25 = .ok (.getfield 56, 3) := by decide +kernel
theorem dX8_weigh_28 : decode cX8_weigh 28 = .ok (.getfield 334, 3) := by decide +kernel
theorem dX8_weigh_31 : decode cX8_weigh 31 = .ok (.iload_n 1, 1) := by decide +kernel
theorem dX8_weigh_32 : decode cX8_weigh 32 = .ok (.iaload, 1) := by decide +kernel
theorem dX8_weigh_33 : decode cX8_weigh 33 = .ok (.istore_n 3, 1) := by decide +kernel
theorem dX8_weigh_34 : decode cX8_weigh 34 = .ok (.aload_n 0, 1) := by decide +kernel
theorem dX8_weigh_35 : decode cX8_weigh 35 = .ok (.getfield 56, 3) := by decide +kernel
theorem dX8_weigh_38 : decode cX8_weigh 38 = .ok (.getfield 334, 3) := by decide +kernel
theorem dX8_weigh_41 : decode cX8_weigh 41 = .ok (.iload_n 1, 1) := by decide +kernel
theorem dX8_weigh_42 : decode cX8_weigh 42 = .ok (.iload_n 2, 1) := by decide +kernel
theorem dX8_weigh_43 : decode cX8_weigh 43 = .ok (.iastore, 1) := by decide +kernel
theorem dX8_weigh_44 : decode cX8_weigh 44 = .ok (.iload_n 3, 1) := by decide +kernel
theorem dX8_weigh_45 : decode cX8_weigh 45 = .ok (.ireturn, 1) := by decide +kernel
theorem dX8_wrong_0 : decode cX8_wrong 0 = .ok (.iload_n 1, 1) := by decide +kernel
theorem dX8_wrong_1 : decode cX8_wrong 1 = .ok (.iconst 1, 1) := by decide +kernel
theorem dX8_wrong_2 : decode cX8_wrong 2 = .ok (.if_icmp .lt 13, 3) := by decide +kernel
theorem dX8_wrong_5 : decode cX8_wrong 5 = .ok (.iload_n 1, 1) := by decide +kernel
theorem dX8_wrong_6 : decode cX8_wrong 6 = .ok (.bipush 8, 2) := by decide +kernel
theorem dX8_wrong_8 : decode cX8_wrong 8 = .ok (.if_icmp .gt 7, 3) := by decide +kernel
theorem dX8_wrong_11 : decode cX8_wrong 11 = .ok (.iconst 1, 1) := by decide +kernel
theorem dX8_wrong_12 : decode cX8_wrong 12 = .ok (.goto 4, 3) := by decide +kernel
theorem dX8_wrong_15 : decode cX8_wrong 15 = .ok (.iconst 0, 1) := by decide +kernel
theorem dX8_wrong_16 : decode cX8_wrong 16 = .ok (.invokestatic 105, 3) := by decide +kernel
theorem dX8_wrong_19 : decode cX8_wrong 19 = .ok (.aload_n 0, 1) := by decide +kernel
theorem dX8_wrong_20 : decode cX8_wrong 20 = .ok (.getfield 56, 3) := by decide +kernel
theorem dX8_wrong_23 : decode cX8_wrong 23 = .ok (.getfield 337, 3) := by decide +kernel
theorem dX8_wrong_26 : decode cX8_wrong 26 = .ok (.istore_n 2, 1) := by decide +kernel
theorem dX8_wrong_27 : decode cX8_wrong 27 = .ok (.aload_n 0, 1) := by decide +kernel
theorem dX8_wrong_28 : decode cX8_wrong 28 = .ok (.getfield 56, 3) := by decide +kernel
theorem dX8_wrong_31 : decode cX8_wrong 31 = .ok (.iload_n 1, 1) := by decide +kernel
theorem dX8_wrong_32 : decode cX8_wrong 32 = .ok (.putfield 337, 3) := by decide +kernel
theorem dX8_wrong_35 : decode cX8_wrong 35 = .ok (.iload_n 2, 1) := by decide +kernel
theorem dX8_wrong_36 : decode cX8_wrong 36 = .ok (.ireturn, 1) := by decide +kernel
theorem dX8_odds_0 : decode cX8_odds 0 = .ok (.aload_n 0, 1) := by decide +kernel
theorem dX8_odds_1 : decode cX8_odds 1 = .ok (.iload_n 1, 1) := by decide +kernel
theorem dX8_odds_2 : decode cX8_odds 2 = .ok (.invokevirtual 229, 3) := by decide +kernel
theorem dX8_odds_5 : decode cX8_odds 5 = .ok (.aload_n 0, 1) := by decide +kernel
theorem dX8_odds_6 : decode cX8_odds 6 = .ok (.iload_n 1, 1) := by decide +kernel
theorem dX8_odds_7 : decode cX8_odds 7 = .ok (.invokevirtual 340, 3) := by decide +kernel
theorem dX8_odds_10 : decode cX8_odds 10 = .ok (.lreturn, 1) := by decide +kernel
theorem dX8_best_0 : decode cX8_best 0 = .ok (.iconst (-1), 1) := by decide +kernel
theorem dX8_best_1 : decode cX8_best 1 = .ok (.istore_n 1, 1) := by decide +kernel
theorem dX8_best_2 : decode cX8_best 2 = .ok (.lconst 0, 1) := by decide +kernel
theorem dX8_best_3 : decode cX8_best 3 = .ok (.lstore_n 2, 1) := by decide +kernel
theorem dX8_best_4 : decode cX8_best 4 = .ok (.iconst 0, 1) := by decide +kernel
theorem dX8_best_5 : decode cX8_best 5 = .ok (.istore 4, 2) := by decide +kernel
theorem dX8_best_7 : decode cX8_best 7 = .ok (.iload 4, 2) := by decide +kernel
theorem dX8_best_9 : decode cX8_best 9 = .ok (.aload_n 0, 1) := by decide +kernel
theorem dX8_best_10 : decode cX8_best 10 = .ok (.getfield 41, 3) := by decide +kernel
theorem dX8_best_13 : decode cX8_best 13 = .ok (.if_icmp .ge 35, 3) := by decide +kernel
theorem dX8_best_16 : decode cX8_best 16 = .ok (.aload_n 0, 1) := by decide +kernel
theorem dX8_best_17 : decode cX8_best 17 = .ok (.iload 4, 2) := by decide +kernel
theorem dX8_best_19 : decode cX8_best 19 = .ok (.invokevirtual 340, 3) := by decide +kernel
theorem dX8_best_22 : decode cX8_best 22 = .ok (.lstore 5, 2) := by decide +kernel
theorem dX8_best_24 : decode cX8_best 24 = .ok (.iload_n 1, 1) := by decide +kernel
theorem dX8_best_25 : decode cX8_best 25 = .ok (.iconst (-1), 1) := by decide +kernel
theorem dX8_best_26 : decode cX8_best 26 = .ok (.if_icmp .eq 10, 3) := by decide +kernel
theorem dX8_best_29 : decode cX8_best 29 = .ok (.lload 5, 2) := by decide +kernel
theorem dX8_best_31 : decode cX8_best 31 = .ok (.lload_n 2, 1) := by decide +kernel
theorem dX8_best_32 : decode cX8_best 32 = .ok (.lcmp, 1) := by decide +kernel
theorem dX8_best_33 : decode cX8_best 33 = .ok (.ifCond .le 9, 3) := by decide +kernel
theorem dX8_best_36 : decode cX8_best 36 = .ok (.iload 4, 2) := by decide +kernel
theorem dX8_best_38 : decode cX8_best 38 = .ok (.istore_n 1, 1) := by decide +kernel
theorem dX8_best_39 : decode cX8_best 39 = .ok (.lload 5, 2) := by decide +kernel
theorem dX8_best_41 : decode cX8_best 41 = .ok (.lstore_n 2, 1) := by decide +kernel
theorem dX8_best_42 : decode cX8_best 42 = .ok (.iinc 4 1, 3) := by decide +kernel
theorem dX8_best_45 : decode cX8_best 45 = .ok (.goto (-38), 3) := by decide +kernel
theorem dX8_best_48 : decode cX8_best 48 = .ok (.iload_n 1, 1) := by decide +kernel
theorem dX8_best_49 : decode cX8_best 49 = .ok (.ireturn, 1) := by decide +kernel
theorem dX8_fits_0 : decode cX8_fits 0 = .ok (.iload_n 1, 1) := by decide +kernel
theorem dX8_fits_1 : decode cX8_fits 1 = .ok (.invokestatic 344, 3) := by decide +kernel
theorem dX8_fits_4 : decode cX8_fits 4 = .ok (.invokestatic 105, 3) := by decide +kernel
theorem dX8_fits_7 : decode cX8_fits 7 = .ok (.aload_n 0, 1) := by decide +kernel
theorem dX8_fits_8 : decode cX8_fits 8 = .ok (.iload_n 1, 1) := by decide +kernel
theorem dX8_fits_9 : decode cX8_fits 9 = .ok (.invokevirtual 347, 3) := by decide +kernel
theorem dX8_fits_12 : decode cX8_fits 12 = .ok (.ireturn, 1) := by decide +kernel
theorem dX8_next_0 : decode cX8_next 0 = .ok (.aload_n 0, 1) := by decide +kernel
theorem dX8_next_1 : decode cX8_next 1 = .ok (.getfield 41, 3) := by decide +kernel
theorem dX8_next_4 : decode cX8_next 4 = .ok (.ifCond .ne 5, 3) := by decide +kernel
theorem dX8_next_7 : decode cX8_next 7 = .ok (.iconst (-1), 1) := by decide +kernel
theorem dX8_next_8 : decode cX8_next 8 = .ok (.ireturn, 1) := by decide +kernel
theorem dX8_next_9 : decode cX8_next 9 = .ok (.iconst 0, 1) := by decide +kernel
theorem dX8_next_10 : decode cX8_next 10 = .ok (.istore_n 1, 1) := by decide +kernel
theorem dX8_next_11 : decode cX8_next 11 = .ok (.iload_n 1, 1) := by decide +kernel
theorem dX8_next_12 : decode cX8_next 12 = .ok (.aload_n 0, 1) := by decide +kernel
theorem dX8_next_13 : decode cX8_next 13 = .ok (.getfield 41, 3) := by decide +kernel
theorem dX8_next_16 : decode cX8_next 16 = .ok (.if_icmp .ge 20, 3) := by decide +kernel
theorem dX8_next_19 : decode cX8_next 19 = .ok (.aload_n 0, 1) := by decide +kernel
theorem dX8_next_20 : decode cX8_next 20 = .ok (.getfield 87, 3) := by decide +kernel
theorem dX8_next_23 : decode cX8_next 23 = .ok (.iload_n 1, 1) := by decide +kernel
theorem dX8_next_24 : decode cX8_next 24 = .ok (.aload_n 0, 1) := by decide +kernel
theorem dX8_next_25 : decode cX8_next 25 = .ok (.iload_n 1, 1) := by decide +kernel
theorem dX8_next_26 : decode cX8_next 26 = .ok (.invokevirtual 340, 3) := by decide +kernel
theorem dX8_next_29 : decode cX8_next 29 = .ok (.lastore, 1) := by decide +kernel
theorem dX8_next_30 : decode cX8_next 30 = .ok (.iinc 1 1, 3) := by decide +kernel
theorem dX8_next_33 : decode cX8_next 33 = .ok (.goto (-22), 3) := by decide +kernel
theorem dX8_next_36 : decode cX8_next 36 = .ok (.iconst (-1), 1) := by decide +kernel
theorem dX8_next_37 : decode cX8_next 37 = .ok (.istore_n 1, 1) := by decide +kernel
theorem dX8_next_38 : decode cX8_next 38 = .ok (.lconst 0, 1) := by decide +kernel
theorem dX8_next_39 : decode cX8_next 39 = .ok (.lstore_n 2, 1) := by decide +kernel
theorem dX8_next_40 : decode cX8_next 40 = .ok (.iconst 0, 1) := by decide +kernel
theorem dX8_next_41 : decode cX8_next 41 = .ok (.istore 4, 2) := by decide +kernel
theorem dX8_next_43 : decode cX8_next 43 = .ok (.iload 4, 2) := by decide +kernel
theorem dX8_next_45 : decode cX8_next 45 = .ok (.aload_n 0, 1) := by decide +kernel
theorem dX8_next_46 : decode cX8_next 46 = .ok (.getfield 22, 3) := by decide +kernel
theorem dX8_next_49 : decode cX8_next 49 = .ok (.if_icmp .ge 75, 3) := by decide +kernel
theorem dX8_next_52 : decode cX8_next 52 = .ok (.iconst 0, 1) := by decide +kernel
theorem dX8_next_53 : decode cX8_next 53 = .ok (.istore 5, 2) := by decide +kernel
theorem dX8_next_55 : decode cX8_next 55 = .ok (.iload 5, 2) := by decide +kernel
theorem dX8_next_57 : decode cX8_next 57 = .ok (.aload_n 0, 1) := by decide +kernel
theorem dX8_next_58 : decode cX8_next 58 = .ok (.getfield 32, 3) := by decide +kernel
theorem dX8_next_61 : decode cX8_next 61 = .ok (.if_icmp .ge 57, 3) := by decide +kernel
theorem dX8_next_64 : decode cX8_next 64 = .ok (.aload_n 0, 1) := by decide +kernel
theorem dX8_next_65 : decode cX8_next 65 = .ok (.getfield 18, 3) := by decide +kernel
theorem dX8_next_68 : decode cX8_next 68 = .ok (.iload 4, 2) := by decide +kernel
theorem dX8_next_70 : decode cX8_next 70 = .ok (.aaload, 1) := by decide +kernel
theorem dX8_next_71 : decode cX8_next 71 = .ok (.getfield 143, 3) := by decide +kernel
theorem dX8_next_74 : decode cX8_next 74 = .ok (.iconst (-1), 1) := by decide +kernel
theorem dX8_next_75 : decode cX8_next 75 = .ok (.if_icmp .eq 43, 3) := by decide +kernel
theorem dX8_next_78 : decode cX8_next 78 = .ok (.aload_n 0, 1) := by decide +kernel
theorem dX8_next_79 : decode cX8_next 79 = .ok (.iload 4, 2) := by decide +kernel
theorem dX8_next_81 : decode cX8_next 81 = .ok (.iload 5, 2) := by decide +kernel
theorem dX8_next_83 : decode cX8_next 83 = .ok (.invokevirtual 350, 3) := by decide +kernel
theorem dX8_next_86 : decode cX8_next 86 = .ok (.lstore 6, 2) := by decide +kernel
theorem dX8_next_88 : decode cX8_next 88 = .ok (.iload_n 1, 1) := by decide +kernel
theorem dX8_next_89 : decode cX8_next 89 = .ok (.iconst (-1), 1) := by decide +kernel
theorem dX8_next_90 : decode cX8_next 90 = .ok (.if_icmp .eq 10, 3) := by decide +kernel
theorem dX8_next_93 : decode cX8_next 93 = .ok (.lload 6, 2) := by decide +kernel
theorem dX8_next_95 : decode cX8_next 95 = .ok (.lload_n 2, 1) := by decide +kernel
theorem dX8_next_96 : decode cX8_next 96 = .ok (.lcmp, 1) := by decide +kernel
theorem dX8_next_97 : decode cX8_next 97 = .ok (.ifCond .le 15, 3) := by decide +kernel
theorem dX8_next_100 : decode cX8_next 100 = .ok (.bipush 10, 2) := by decide +kernel
theorem dX8_next_102 : decode cX8_next 102 = .ok (.iload 4, 2) := by decide +kernel
theorem dX8_next_104 : decode cX8_next 104 = .ok (.imul, 1) := by decide +kernel
theorem dX8_next_105 : decode cX8_next 105 = .ok (.iload 5, 2) := by decide +kernel
theorem dX8_next_107 : decode cX8_next 107 = .ok (.iadd, 1) := by decide +kernel
theorem dX8_next_108 : decode cX8_next 108 = .ok (.istore_n 1, 1) := by decide +kernel
theorem dX8_next_109 : decode cX8_next 109 = .ok (.lload 6, 2) := by decide +kernel
theorem dX8_next_111 : decode cX8_next 111 = .ok (.lstore_n 2, 1) := by decide +kernel
theorem dX8_next_112 : decode cX8_next 112 = .ok (.iinc 5 1, 3) := by decide +kernel
theorem dX8_next_115 : decode cX8_next 115 = .ok (.goto (-60), 3) := by decide +kernel
theorem dX8_next_118 : decode cX8_next 118 = .ok (.iinc 4 1, 3) := by decide +kernel
theorem dX8_next_121 : decode cX8_next 121 = .ok (.goto (-78), 3) := by decide +kernel
theorem dX8_next_124 : decode cX8_next 124 = .ok (.iload_n 1, 1) := by decide +kernel
theorem dX8_next_125 : decode cX8_next 125 = .ok (.ireturn, 1) := by decide +kernel
theorem dX8_knowing_0 : decode cX8_knowing 0 = .ok (.aload_n 0, 1) := by decide +kernel
theorem dX8_knowing_1 : decode cX8_knowing 1 = .ok (.iload_n 1, 1) := by decide +kernel
theorem dX8_knowing_2 : decode cX8_knowing 2 = .ok (.invokevirtual 229, 3) := by decide +kernel
theorem dX8_knowing_5 : decode cX8_knowing 5 = .ok (.iload_n 2, 1) := by decide +kernel
theorem dX8_knowing_6 : decode cX8_knowing 6 = .ok (.ifCond .lt 12, 3) := by decide +kernel
theorem dX8_knowing_9 : decode cX8_knowing 9 = .ok (.iload_n 2, 1) := by decide +kernel
theorem dX8_knowing_10 : decode cX8_knowing 10 = .ok (.iconst 2, 1) := by decide +kernel
theorem dX8_knowing_11 : decode cX8_knowing 11 = .ok (.if_icmp .gt 7, 3) := by decide +kernel
theorem dX8_knowing_14 : decode cX8_knowing 14 = .ok (.iconst 1, 1) := by decide +kernel
theorem dX8_knowing_15 : decode cX8_knowing 15 = .ok (.goto 4, 3) := by decide +kernel
theorem dX8_knowing_18 : decode cX8_knowing 18 = .ok (.iconst 0, 1) := by decide +kernel
theorem dX8_knowing_19 : decode cX8_knowing 19 = .ok (.invokestatic 105, 3) := by decide +kernel
theorem dX8_knowing_22 : decode cX8_knowing 22 = .ok (.iconst 0, 1) := by decide +kernel
theorem dX8_knowing_23 : decode cX8_knowing 23 = .ok (.istore_n 3, 1) := by decide +kernel
theorem dX8_knowing_24 : decode cX8_knowing 24 = .ok (.iconst 0, 1) := by decide +kernel
theorem dX8_knowing_25 : decode cX8_knowing 25 = .ok (.istore 4, 2) := by decide +kernel
theorem dX8_knowing_27 : decode cX8_knowing 27 = .ok (.iload 4, 2) := by decide +kernel
theorem dX8_knowing_29 : decode cX8_knowing 29 = .ok (.aload_n 0, 1) := by decide +kernel
theorem dX8_knowing_30 : decode cX8_knowing 30 = .ok (.getfield 56, 3) := by decide +kernel
theorem dX8_knowing_33 : decode cX8_knowing 33 = .ok (.getfield 268, 3) := by decide +kernel
theorem dX8_knowing_36 : decode cX8_knowing 36 = .ok (.if_icmp .ge 58, 3) := by decide +kernel
theorem dX8_knowing_39 : decode cX8_knowing 39 = .ok (.aload_n 0, 1) := by decide +kernel
theorem dX8_knowing_40 : decode cX8_knowing 40 = .ok (.getfield 56, 3) := by decide +kernel
theorem dX8_knowing_43 : decode cX8_knowing 43 = .ok (.iload 4, 2) := by decide +kernel
theorem dX8_knowing_45 : decode cX8_knowing 45 = .ok (.invokevirtual 256, 3) := by decide +kernel
theorem dX8_knowing_48 : decode cX8_knowing 48 = .ok (.ifCond .eq 40, 3) := by decide +kernel
theorem dX8_knowing_51 : decode cX8_knowing 51 = .ok (.iload_n 2, 1) := by decide +kernel
theorem dX8_knowing_52 : decode cX8_knowing 52 = .ok (.ifCond .eq 17, 3) := by decide +kernel
theorem dX8_knowing_55 : decode cX8_knowing 55 = .ok (.aload_n 0, 1) := by decide +kernel
theorem dX8_knowing_56 : decode cX8_knowing 56 = .ok (.iload_n 1, 1) := by decide +kernel
theorem dX8_knowing_57 : decode cX8_knowing 57 = .ok (.iload 4, 2) := by decide +kernel
theorem dX8_knowing_59 : decode cX8_knowing 59 = .ok (.invokevirtual 250, 3) := by decide +kernel
theorem dX8_knowing_62 : decode cX8_knowing 62 = .ok (.iconst 0, 1) := by decide +kernel
theorem dX8_knowing_63 : decode cX8_knowing 63 = .ok (.invokestatic 253, 3) := by decide +kernel
theorem dX8_knowing_66 : decode cX8_knowing 66 = .ok (.ifCond .eq 22, 3) := by decide +kernel
theorem dX8_knowing_69 : decode cX8_knowing 69 = .ok (.iload_n 2, 1) := by decide +kernel
theorem dX8_knowing_70 : decode cX8_knowing 70 = .ok (.iconst 2, 1) := by decide +kernel
theorem dX8_knowing_71 : decode cX8_knowing 71 = .ok (.if_icmp .lt 14, 3) := by decide +kernel
theorem dX8_knowing_74 : decode cX8_knowing 74 = .ok (.aload_n 0, 1) := by decide +kernel
theorem dX8_knowing_75 : decode cX8_knowing 75 = .ok (.iload_n 1, 1) := by decide +kernel
theorem dX8_knowing_76 : decode cX8_knowing 76 = .ok (.iload 4, 2) := by decide +kernel
theorem dX8_knowing_78 : decode cX8_knowing 78 = .ok (.invokevirtual 265, 3) := by decide +kernel
theorem dX8_knowing_81 : decode cX8_knowing 81 = .ok (.iconst (-1), 1) := by decide +kernel
theorem dX8_knowing_82 : decode cX8_knowing 82 = .ok (.if_icmp .ne 6, 3) := by decide +kernel
theorem dX8_knowing_85 : decode cX8_knowing 85 = .ok (.iinc 3 1, 3) := by decide +kernel
theorem dX8_knowing_88 : decode cX8_knowing 88 = .ok (.iinc 4 1, 3) := by decide +kernel
theorem dX8_knowing_91 : decode cX8_knowing 91 = .ok (.goto (-64), 3) := by decide +kernel
theorem dX8_knowing_94 : decode cX8_knowing 94 = .ok (.iload_n 3, 1) := by decide +kernel
theorem dX8_knowing_95 : decode cX8_knowing 95 = .ok (.ireturn, 1) := by decide +kernel
theorem dX8_crossing_0 : decode cX8_crossing 0 = .ok (.aload_n 0, 1) := by decide +kernel
theorem dX8_crossing_1 : decode cX8_crossing 1 = .ok (.iload_n 1, 1) := by decide +kernel
theorem dX8_crossing_2 : decode cX8_crossing 2 = .ok (.invokevirtual 128, 3) := by decide +kernel
theorem dX8_crossing_5 : decode cX8_crossing 5 = .ok (.aload_n 0, 1) := by decide +kernel
theorem dX8_crossing_6 : decode cX8_crossing 6 = .ok (.iload_n 2, 1) := by decide +kernel
theorem dX8_crossing_7 : decode cX8_crossing 7 = .ok (.invokevirtual 170, 3) := by decide +kernel
theorem dX8_crossing_10 : decode cX8_crossing 10 = .ok (.iload_n 3, 1) := by decide +kernel
theorem dX8_crossing_11 : decode cX8_crossing 11 = .ok (.invokestatic 247, 3) := by decide +kernel
theorem dX8_crossing_14 : decode cX8_crossing 14 = .ok (.ifCond .eq 15, 3) := by decide +kernel
theorem dX8_crossing_17 : decode cX8_crossing 17 = .ok (.iload 4, 2) := by decide +kernel
theorem dX8_crossing_19 : decode cX8_crossing 19 = .ok (.invokestatic 344, 3) := by decide +kernel
theorem dX8_crossing_22 : decode cX8_crossing 22 = .ok (.ifCond .eq 7, 3) := by decide +kernel
theorem dX8_crossing_25 : decode cX8_crossing 25 = .ok (.iconst 1, 1) := by decide +kernel
theorem dX8_crossing_26 : decode cX8_crossing 26 = .ok (.goto 4, 3) := by decide +kernel
theorem dX8_crossing_29 : decode cX8_crossing 29 = .ok (.iconst 0, 1) := by decide +kernel
theorem dX8_crossing_30 : decode cX8_crossing 30 = .ok (.invokestatic 105, 3) := by decide +kernel
theorem dX8_crossing_33 : decode cX8_crossing 33 = .ok (.aload_n 0, 1) := by decide +kernel
theorem dX8_crossing_34 : decode cX8_crossing 34 = .ok (.iload 4, 2) := by decide +kernel
theorem dX8_crossing_36 : decode cX8_crossing 36 = .ok (.invokevirtual 347, 3) := by decide +kernel
theorem dX8_crossing_39 : decode cX8_crossing 39 = .ok (.istore 5, 2) := by decide +kernel
theorem dX8_crossing_41 : decode cX8_crossing 41 = .ok (.iconst 0, 1) := by decide +kernel
theorem dX8_crossing_42 : decode cX8_crossing 42 = .ok (.istore 6, 2) := by decide +kernel
theorem dX8_crossing_44 : decode cX8_crossing 44 = .ok (.iconst 0, 1) := by decide +kernel
theorem dX8_crossing_45 : decode cX8_crossing 45 = .ok (.istore 7, 2) := by decide +kernel
theorem dX8_crossing_47 : decode cX8_crossing 47 = .ok (.iload 7, 2) := by decide +kernel
theorem dX8_crossing_49 : decode cX8_crossing 49 = .ok (.aload_n 0, 1) := by decide +kernel
theorem dX8_crossing_50 : decode cX8_crossing 50 = .ok (.getfield 41, 3) := by decide +kernel
theorem dX8_crossing_53 : decode cX8_crossing 53 = .ok (.if_icmp .ge 44, 3) := by decide +kernel
theorem dX8_crossing_56 : decode cX8_crossing 56 = .ok (.iload 5, 2) := by decide +kernel
theorem dX8_crossing_58 : decode cX8_crossing 58 = .ok (.iload 7, 2) := by decide +kernel
theorem dX8_crossing_60 : decode cX8_crossing 60 = .ok (.ishr, 1) := by decide +kernel
theorem dX8_crossing_61 : decode cX8_crossing 61 = .ok (.iconst 1, 1) := by decide +kernel
theorem dX8_crossing_62 : decode cX8_crossing 62 = .ok (.iand, 1) := by decide +kernel
theorem dX8_crossing_63 : decode cX8_crossing 63 = .ok (.ifCond .eq 28, 3) := by decide +kernel
theorem dX8_crossing_66 : decode cX8_crossing 66 = .ok (.iload 6, 2) := by decide +kernel
theorem dX8_crossing_68 : decode cX8_crossing 68 = .ok (.aload_n 0, 1) := by decide +kernel
theorem dX8_crossing_69 : decode cX8_crossing 69 = .ok (.iload 7, 2) := by decide +kernel
theorem dX8_crossing_71 : decode cX8_crossing 71 = .ok (.iload_n 1, 1) := by decide +kernel
theorem dX8_crossing_72 : decode cX8_crossing 72 = .ok (.iload_n 2, 1) := by decide +kernel
theorem dX8_crossing_73 : decode cX8_crossing 73 = .ok (.invokevirtual 354, 3) := by decide +kernel
theorem dX8_crossing_76 : decode cX8_crossing 76 = .ok (.iload_n 3, 1) := by decide +kernel
theorem dX8_crossing_77 : decode cX8_crossing 77 = .ok (.invokestatic 253, 3) := by decide +kernel
theorem dX8_crossing_80 : decode cX8_crossing 80 = .ok (.ifCond .eq 7, 3) := by decide +kernel
theorem dX8_crossing_83 : decode cX8_crossing 83 = .ok (.iconst 2, 1) := by decide +kernel
theorem dX8_crossing_84 : decode cX8_crossing 84 = .ok (.goto 4, 3) := by decide +kernel
theorem dX8_crossing_87 : decode cX8_crossing 87 = .ok (.iconst 1, 1) := by decide +kernel
theorem dX8_crossing_88 : decode cX8_crossing 88 = .ok (.ior, 1) := by decide +kernel
theorem dX8_crossing_89 : decode cX8_crossing 89 = .ok (.istore 6, 2) := by decide +kernel
theorem dX8_crossing_91 : decode cX8_crossing 91 = .ok (.iinc 7 1, 3) := by decide +kernel
theorem dX8_crossing_94 : decode cX8_crossing 94 = .ok (.goto (-47), 3) := by decide +kernel
theorem dX8_crossing_97 : decode cX8_crossing 97 = .ok (.iload 6, 2) := by decide +kernel
theorem dX8_crossing_99 : decode cX8_crossing 99 = .ok (.ireturn, 1) := by decide +kernel
theorem dX8_image_0 : decode cX8_image 0 = .ok (.aload_n 0, 1) := by decide +kernel
theorem dX8_image_1 : decode cX8_image 1 = .ok (.getfield 64, 3) := by decide +kernel
theorem dX8_image_4 : decode cX8_image 4 = .ok (.iconst 3, 1) := by decide +kernel
theorem dX8_image_5 : decode cX8_image 5 = .ok (.if_icmp .ne 5, 3) := by decide +kernel
theorem dX8_image_8 : decode cX8_image 8 = .ok (.iconst (-1), 1) := by decide +kernel
theorem dX8_image_9 : decode cX8_image 9 = .ok (.ireturn, 1) := by decide +kernel
theorem dX8_image_10 : decode cX8_image 10 = .ok (.aload_n 0, 1) := by decide +kernel
theorem dX8_image_11 : decode cX8_image 11 = .ok (.getfield 60, 3) := by decide +kernel
theorem dX8_image_14 : decode cX8_image 14 = .ok (.aload_n 0, 1) := by decide +kernel
theorem dX8_image_15 : decode cX8_image 15 = .ok (.getfield 64, 3) := by decide +kernel
theorem dX8_image_18 : decode cX8_image 18 = .ok (.aaload, 1) := by decide +kernel
theorem dX8_image_19 : decode cX8_image 19 = .ok (.aload_n 0, 1) := by decide +kernel
theorem dX8_image_20 : decode cX8_image 20 = .ok (.getfield 56, 3) := by decide +kernel
theorem dX8_image_23 : decode cX8_image 23 = .ok (.invokevirtual 357, 3) := by decide +kernel
theorem dX8_image_26 : decode cX8_image 26 = .ok (.aload_n 0, 1) := by decide +kernel
theorem dX8_image_27 : decode cX8_image 27 = .ok (.dup, 1) := by decide +kernel
theorem dX8_image_28 : decode cX8_image 28 = .ok (.getfield 64, 3) := by decide +kernel
theorem dX8_image_31 : decode cX8_image 31 = .ok (.iconst 1, 1) := by decide +kernel
theorem dX8_image_32 : decode cX8_image 32 = .ok (.iadd, 1) := by decide +kernel
theorem dX8_image_33 : decode cX8_image 33 = .ok (.putfield 64, 3) := by decide +kernel
theorem dX8_image_36 : decode cX8_image 36 = .ok (.aload_n 0, 1) := by decide +kernel
theorem dX8_image_37 : decode cX8_image 37 = .ok (.getfield 64, 3) := by decide +kernel
theorem dX8_image_40 : decode cX8_image 40 = .ok (.ireturn, 1) := by decide +kernel
theorem dX8_restore_0 : decode cX8_restore 0 = .ok (.aload_n 0, 1) := by decide +kernel
theorem dX8_restore_1 : decode cX8_restore 1 = .ok (.getfield 64, 3) := by decide +kernel
theorem dX8_restore_4 : decode cX8_restore 4 = .ok (.ifCond .ne 5, 3) := by decide +kernel
theorem dX8_restore_7 : decode cX8_restore 7 = .ok (.iconst (-1), 1) := by decide +kernel
theorem dX8_restore_8 : decode cX8_restore 8 = .ok (.ireturn, 1) := by decide +kernel
theorem dX8_restore_9 : decode cX8_restore 9 = .ok (.aload_n 0, 1) := by decide +kernel
theorem dX8_restore_10 : decode cX8_restore 10 = .ok (.dup, 1) := by decide +kernel
theorem dX8_restore_11 : decode cX8_restore 11 = .ok (.getfield 64, 3) := by decide +kernel
theorem dX8_restore_14 : decode cX8_restore 14 = .ok (.iconst 1, 1) := by decide +kernel
theorem dX8_restore_15 : decode cX8_restore 15 = .ok (.isub, 1) := by decide +kernel
theorem dX8_restore_16 : decode cX8_restore 16 = .ok (.putfield 64, 3) := by decide +kernel
theorem dX8_restore_19 : decode cX8_restore 19 = .ok (.aload_n 0, 1) := by decide +kernel
theorem dX8_restore_20 : decode cX8_restore 20 = .ok (.getfield 56, 3) := by decide +kernel
theorem dX8_restore_23 : decode cX8_restore 23 = .ok (.aload_n 0, 1) := by decide +kernel
theorem dX8_restore_24 : decode cX8_restore 24 = .ok (.getfield 60, 3) := by decide +kernel
theorem dX8_restore_27 : decode cX8_restore 27 = .ok (.aload_n 0, 1) := by decide +kernel
theorem dX8_restore_28 : decode cX8_restore 28 = .ok (.getfield 64, 3) := by decide +kernel
theorem dX8_restore_31 : decode cX8_restore 31 = .ok (.aaload, 1) := by decide +kernel
theorem dX8_restore_32 : decode cX8_restore 32 = .ok (.invokevirtual 357, 3) := by decide +kernel
theorem dX8_restore_35 : decode cX8_restore 35 = .ok (.iconst 0, 1) := by decide +kernel
theorem dX8_restore_36 : decode cX8_restore 36 = .ok (.istore_n 1, 1) := by decide +kernel
theorem dX8_restore_37 : decode cX8_restore 37 = .ok (.iload_n 1, 1) := by decide +kernel
theorem dX8_restore_38 : decode cX8_restore 38 = .ok (.bipush 14, 2) := by decide +kernel
theorem dX8_restore_40 : decode cX8_restore 40 = .ok (.if_icmp .ge 14, 3) := by decide +kernel
theorem dX8_restore_43 : decode cX8_restore 43 = .ok (.aload_n 0, 1) := by decide +kernel
theorem dX8_restore_44 : decode cX8_restore 44 = .ok (.iload_n 1, 1) := by decide +kernel
theorem dX8_restore_45 : decode cX8_restore 45 = .ok (.invokevirtual 196, 3) := by decide +kernel
theorem dX8_restore_48 : decode cX8_restore 48 = .ok (.iinc 1 1, 3) := by decide +kernel
theorem dX8_restore_51 : decode cX8_restore 51 = .ok (.goto (-14), 3) := by decide +kernel
theorem dX8_restore_54 : decode cX8_restore 54 = .ok (.aload_n 0, 1) := by decide +kernel
theorem dX8_restore_55 : decode cX8_restore 55 = .ok (.getfield 64, 3) := by decide +kernel
theorem dX8_restore_58 : decode cX8_restore 58 = .ok (.ireturn, 1) := by decide +kernel
theorem dX8_count_0 : decode cX8_count 0 = .ok (.iload_n 1, 1) := by decide +kernel
theorem dX8_count_1 : decode cX8_count 1 = .ok (.tableswitch 111 0 8 #[51, 56, 61, 66, 74, 82, 90, 95, 103], 51) := by decide +kernel
theorem dX8_count_52 : decode cX8_count 52 = .ok (.aload_n 0, 1) := by decide +kernel
theorem dX8_count_53 : decode cX8_count 53 = .ok (.getfield 22, 3) := by decide +kernel
theorem dX8_count_56 : decode cX8_count 56 = .ok (.ireturn, 1) := by decide +kernel
theorem dX8_count_57 : decode cX8_count 57 = .ok (.aload_n 0, 1) := by decide +kernel
theorem dX8_count_58 : decode cX8_count 58 = .ok (.getfield 32, 3) := by decide +kernel
theorem dX8_count_61 : decode cX8_count 61 = .ok (.ireturn, 1) := by decide +kernel
theorem dX8_count_62 : decode cX8_count 62 = .ok (.aload_n 0, 1) := by decide +kernel
theorem dX8_count_63 : decode cX8_count 63 = .ok (.getfield 41, 3) := by decide +kernel
theorem dX8_count_66 : decode cX8_count 66 = .ok (.ireturn, 1) := by decide +kernel
theorem dX8_count_67 : decode cX8_count 67 = .ok (.aload_n 0, 1) := by decide +kernel
theorem dX8_count_68 : decode cX8_count 68 = .ok (.getfield 56, 3) := by decide +kernel
theorem dX8_count_71 : decode cX8_count 71 = .ok (.getfield 268, 3) := by decide +kernel
theorem dX8_count_74 : decode cX8_count 74 = .ok (.ireturn, 1) := by decide +kernel
theorem dX8_count_75 : decode cX8_count 75 = .ok (.aload_n 0, 1) := by decide +kernel
theorem dX8_count_76 : decode cX8_count 76 = .ok (.getfield 56, 3) := by decide +kernel
theorem dX8_count_79 : decode cX8_count 79 = .ok (.getfield 361, 3) := by decide +kernel
theorem dX8_count_82 : decode cX8_count 82 = .ok (.ireturn, 1) := by decide +kernel
theorem dX8_count_83 : decode cX8_count 83 = .ok (.aload_n 0, 1) := by decide +kernel
theorem dX8_count_84 : decode cX8_count 84 = .ok (.getfield 56, 3) := by decide +kernel
theorem dX8_count_87 : decode cX8_count 87 = .ok (.getfield 364, 3) := by decide +kernel
theorem dX8_count_90 : decode cX8_count 90 = .ok (.ireturn, 1) := by decide +kernel
theorem dX8_count_91 : decode cX8_count 91 = .ok (.aload_n 0, 1) := by decide +kernel
theorem dX8_count_92 : decode cX8_count 92 = .ok (.getfield 64, 3) := by decide +kernel
theorem dX8_count_95 : decode cX8_count 95 = .ok (.ireturn, 1) := by decide +kernel
theorem dX8_count_96 : decode cX8_count 96 = .ok (.aload_n 0, 1) := by decide +kernel
theorem dX8_count_97 : decode cX8_count 97 = .ok (.getfield 10, 3) := by decide +kernel
theorem dX8_count_100 : decode cX8_count 100 = .ok (.getfield 102, 3) := by decide +kernel
theorem dX8_count_103 : decode cX8_count 103 = .ok (.ireturn, 1) := by decide +kernel
theorem dX8_count_104 : decode cX8_count 104 = .ok (.aload_n 0, 1) := by decide +kernel
theorem dX8_count_105 : decode cX8_count 105 = .ok (.getfield 56, 3) := by decide +kernel
theorem dX8_count_108 : decode cX8_count 108 = .ok (.getfield 337, 3) := by decide +kernel
theorem dX8_count_111 : decode cX8_count 111 = .ok (.ireturn, 1) := by decide +kernel
theorem dX8_count_112 : decode cX8_count 112 = .ok (.iconst (-1), 1) := by decide +kernel
theorem dX8_count_113 : decode cX8_count 113 = .ok (.ireturn, 1) := by decide +kernel
theorem dX8_require_0 : decode cX8_require 0 = .ok (.iload_n 0, 1) := by decide +kernel
theorem dX8_require_1 : decode cX8_require 1 = .ok (.ifCond .ne 11, 3) := by decide +kernel
theorem dX8_require_4 : decode cX8_require 4 = .ok (.new 367, 3) := by decide +kernel
theorem dX8_require_7 : decode cX8_require 7 = .ok (.dup, 1) := by decide +kernel
theorem dX8_require_8 : decode cX8_require 8 = .ok (.invokespecial 369, 3) := by decide +kernel
theorem dX8_require_11 : decode cX8_require 11 = .ok (.athrow, 1) := by decide +kernel
theorem dX8_require_12 : decode cX8_require 12 = .ok (.return_, 1) := by decide +kernel
theorem dX8_requireScene_0 : decode cX8_requireScene 0 = .ok (.iload_n 1, 1) := by decide +kernel
theorem dX8_requireScene_1 : decode cX8_requireScene 1 = .ok (.ifCond .lt 11, 3) := by decide +kernel
theorem dX8_requireScene_4 : decode cX8_requireScene 4 = .ok (.iload_n 1, 1) := by decide +kernel
theorem dX8_requireScene_5 : decode cX8_requireScene 5 = .ok (.aload_n 0, 1) := by decide +kernel
theorem dX8_requireScene_6 : decode cX8_requireScene 6 = .ok (.getfield 22, 3) := by decide +kernel
theorem dX8_requireScene_9 : decode cX8_requireScene 9 = .ok (.if_icmp .lt 11, 3) := by decide +kernel
theorem dX8_requireScene_12 : decode cX8_requireScene 12 = .ok (.new 370, 3) := by decide +kernel
theorem dX8_requireScene_15 : decode cX8_requireScene 15 = .ok (.dup, 1) := by decide +kernel
theorem dX8_requireScene_16 : decode cX8_requireScene 16 = .ok (.invokespecial 372, 3) := by decide +kernel
theorem dX8_requireScene_19 : decode cX8_requireScene 19 = .ok (.athrow, 1) := by decide +kernel
theorem dX8_requireScene_20 : decode cX8_requireScene 20 = .ok (.return_, 1) := by decide +kernel
theorem dX8_requireTask_0 : decode cX8_requireTask 0 = .ok (.iload_n 1, 1) := by decide +kernel
theorem dX8_requireTask_1 : decode cX8_requireTask 1 = .ok (.ifCond .lt 11, 3) := by decide +kernel
theorem dX8_requireTask_4 : decode cX8_requireTask 4 = .ok (.iload_n 1, 1) := by decide +kernel
theorem dX8_requireTask_5 : decode cX8_requireTask 5 = .ok (.aload_n 0, 1) := by decide +kernel
theorem dX8_requireTask_6 : decode cX8_requireTask 6 = .ok (.getfield 32, 3) := by decide +kernel
theorem dX8_requireTask_9 : decode cX8_requireTask 9 = .ok (.if_icmp .lt 11, 3) := by decide +kernel
theorem dX8_requireTask_12 : decode cX8_requireTask 12 = .ok (.new 373, 3) := by decide +kernel
theorem dX8_requireTask_15 : decode cX8_requireTask 15 = .ok (.dup, 1) := by decide +kernel
theorem dX8_requireTask_16 : decode cX8_requireTask 16 = .ok (.invokespecial 375, 3) := by decide +kernel
theorem dX8_requireTask_19 : decode cX8_requireTask 19 = .ok (.athrow, 1) := by decide +kernel
theorem dX8_requireTask_20 : decode cX8_requireTask 20 = .ok (.return_, 1) := by decide +kernel
theorem dX8_requireLaw_0 : decode cX8_requireLaw 0 = .ok (.iload_n 1, 1) := by decide +kernel
theorem dX8_requireLaw_1 : decode cX8_requireLaw 1 = .ok (.ifCond .lt 11, 3) := by decide +kernel
theorem dX8_requireLaw_4 : decode cX8_requireLaw 4 = .ok (.iload_n 1, 1) := by decide +kernel
theorem dX8_requireLaw_5 : decode cX8_requireLaw 5 = .ok (.aload_n 0, 1) := by decide +kernel
theorem dX8_requireLaw_6 : decode cX8_requireLaw 6 = .ok (.getfield 41, 3) := by decide +kernel
theorem dX8_requireLaw_9 : decode cX8_requireLaw 9 = .ok (.if_icmp .lt 11, 3) := by decide +kernel
theorem dX8_requireLaw_12 : decode cX8_requireLaw 12 = .ok (.new 373, 3) := by decide +kernel
theorem dX8_requireLaw_15 : decode cX8_requireLaw 15 = .ok (.dup, 1) := by decide +kernel
theorem dX8_requireLaw_16 : decode cX8_requireLaw 16 = .ok (.invokespecial 375, 3) := by decide +kernel
theorem dX8_requireLaw_19 : decode cX8_requireLaw 19 = .ok (.athrow, 1) := by decide +kernel
theorem dX8_requireLaw_20 : decode cX8_requireLaw 20 = .ok (.return_, 1) := by decide +kernel
theorem dX8_requireLooker_0 : decode cX8_requireLooker 0 = .ok (.iload_n 1, 1) := by decide +kernel
theorem dX8_requireLooker_1 : decode cX8_requireLooker 1 = .ok (.ifCond .lt 14, 3) := by decide +kernel
theorem dX8_requireLooker_4 : decode cX8_requireLooker 4 = .ok (.iload_n 1, 1) := by decide +kernel
theorem dX8_requireLooker_5 : decode cX8_requireLooker 5 = .ok (.aload_n 0, 1) := by decide +kernel
theorem dX8_requireLooker_6 : decode cX8_requireLooker 6 = .ok (.getfield 56, 3) := by decide +kernel
theorem dX8_requireLooker_9 : decode cX8_requireLooker 9 = .ok (.getfield 268, 3) := by decide +kernel
theorem dX8_requireLooker_12 : decode cX8_requireLooker 12 = .ok (.if_icmp .lt 11, 3) := by decide +kernel
theorem dX8_requireLooker_15 : decode cX8_requireLooker 15 = .ok (.new 367, 3) := by decide +kernel
theorem dX8_requireLooker_18 : decode cX8_requireLooker 18 = .ok (.dup, 1) := by decide +kernel
theorem dX8_requireLooker_19 : decode cX8_requireLooker 19 = .ok (.invokespecial 369, 3) := by decide +kernel
theorem dX8_requireLooker_22 : decode cX8_requireLooker 22 = .ok (.athrow, 1) := by decide +kernel
theorem dX8_requireLooker_23 : decode cX8_requireLooker 23 = .ok (.return_, 1) := by decide +kernel
theorem dX8_isTenth_0 : decode cX8_isTenth 0 = .ok (.iload_n 0, 1) := by decide +kernel
theorem dX8_isTenth_1 : decode cX8_isTenth 1 = .ok (.ifCond .lt 14, 3) := by decide +kernel
theorem dX8_isTenth_4 : decode cX8_isTenth 4 = .ok (.iload_n 0, 1) := by decide +kernel
theorem dX8_isTenth_5 : decode cX8_isTenth 5 = .ok (.sipush 300, 3) := by decide +kernel
theorem dX8_isTenth_8 : decode cX8_isTenth 8 = .ok (.if_icmp .ge 7, 3) := by decide +kernel
theorem dX8_isTenth_11 : decode cX8_isTenth 11 = .ok (.iconst 1, 1) := by decide +kernel
theorem dX8_isTenth_12 : decode cX8_isTenth 12 = .ok (.goto 4, 3) := by decide +kernel
theorem dX8_isTenth_15 : decode cX8_isTenth 15 = .ok (.iconst 0, 1) := by decide +kernel
theorem dX8_isTenth_16 : decode cX8_isTenth 16 = .ok (.ireturn, 1) := by decide +kernel
theorem dX8_isAsking_0 : decode cX8_isAsking 0 = .ok (.iload_n 0, 1) := by decide +kernel
theorem dX8_isAsking_1 : decode cX8_isAsking 1 = .ok (.ifCond .lt 12, 3) := by decide +kernel
theorem dX8_isAsking_4 : decode cX8_isAsking 4 = .ok (.iload_n 0, 1) := by decide +kernel
theorem dX8_isAsking_5 : decode cX8_isAsking 5 = .ok (.iconst 3, 1) := by decide +kernel
theorem dX8_isAsking_6 : decode cX8_isAsking 6 = .ok (.if_icmp .ge 7, 3) := by decide +kernel
theorem dX8_isAsking_9 : decode cX8_isAsking 9 = .ok (.iconst 1, 1) := by decide +kernel
theorem dX8_isAsking_10 : decode cX8_isAsking 10 = .ok (.goto 4, 3) := by decide +kernel
theorem dX8_isAsking_13 : decode cX8_isAsking 13 = .ok (.iconst 0, 1) := by decide +kernel
theorem dX8_isAsking_14 : decode cX8_isAsking 14 = .ok (.ireturn, 1) := by decide +kernel
theorem dX8_isFit_0 : decode cX8_isFit 0 = .ok (.iload_n 0, 1) := by decide +kernel
theorem dX8_isFit_1 : decode cX8_isFit 1 = .ok (.ifCond .lt 13, 3) := by decide +kernel
theorem dX8_isFit_4 : decode cX8_isFit 4 = .ok (.iload_n 0, 1) := by decide +kernel
theorem dX8_isFit_5 : decode cX8_isFit 5 = .ok (.bipush 14, 2) := by decide +kernel
theorem dX8_isFit_7 : decode cX8_isFit 7 = .ok (.if_icmp .gt 7, 3) := by decide +kernel
theorem dX8_isFit_10 : decode cX8_isFit 10 = .ok (.iconst 1, 1) := by decide +kernel
theorem dX8_isFit_11 : decode cX8_isFit 11 = .ok (.goto 4, 3) := by decide +kernel
theorem dX8_isFit_14 : decode cX8_isFit 14 = .ok (.iconst 0, 1) := by decide +kernel
theorem dX8_isFit_15 : decode cX8_isFit 15 = .ok (.ireturn, 1) := by decide +kernel
theorem dX8_sceneFor_0 : decode cX8_sceneFor 0 = .ok (.aload_n 0, 1) := by decide +kernel
theorem dX8_sceneFor_1 : decode cX8_sceneFor 1 = .ok (.getfield 18, 3) := by decide +kernel
theorem dX8_sceneFor_4 : decode cX8_sceneFor 4 = .ok (.aload_n 0, 1) := by decide +kernel
theorem dX8_sceneFor_5 : decode cX8_sceneFor 5 = .ok (.getfield 56, 3) := by decide +kernel
theorem dX8_sceneFor_8 : decode cX8_sceneFor 8 = .ok (.getfield 376, 3) := by decide +kernel
theorem dX8_sceneFor_11 : decode cX8_sceneFor 11 = .ok (.iload_n 1, 1) := by decide +kernel
theorem dX8_sceneFor_12 : decode cX8_sceneFor 12 = .ok (.iaload, 1) := by decide +kernel
theorem dX8_sceneFor_13 : decode cX8_sceneFor 13 = .ok (.aaload, 1) := by decide +kernel
theorem dX8_sceneFor_14 : decode cX8_sceneFor 14 = .ok (.areturn, 1) := by decide +kernel
theorem dX8_lookAs_0 : decode cX8_lookAs 0 = .ok (.aload_n 0, 1) := by decide +kernel
theorem dX8_lookAs_1 : decode cX8_lookAs 1 = .ok (.getfield 70, 3) := by decide +kernel
theorem dX8_lookAs_4 : decode cX8_lookAs 4 = .ok (.aload_n 0, 1) := by decide +kernel
theorem dX8_lookAs_5 : decode cX8_lookAs 5 = .ok (.iload_n 1, 1) := by decide +kernel
theorem dX8_lookAs_6 : decode cX8_lookAs 6 = .ok (.invokevirtual 216, 3) := by decide +kernel
theorem dX8_lookAs_9 : decode cX8_lookAs 9 = .ok (.aload_n 0, 1) := by decide +kernel
theorem dX8_lookAs_10 : decode cX8_lookAs 10 = .ok (.getfield 28, 3) := by decide +kernel
theorem dX8_lookAs_13 : decode cX8_lookAs 13 = .ok (.aload_n 0, 1) := by decide +kernel
theorem dX8_lookAs_14 : decode cX8_lookAs 14 = .ok (.getfield 56, 3) := by decide +kernel
theorem dX8_lookAs_17 : decode cX8_lookAs 17 = .ok (.getfield 379, 3) := by decide +kernel
theorem dX8_lookAs_20 : decode cX8_lookAs 20 = .ok (.iload_n 1, 1) := by decide +kernel
theorem dX8_lookAs_21 : decode cX8_lookAs 21 = .ok (.iaload, 1) := by decide +kernel
theorem dX8_lookAs_22 : decode cX8_lookAs 22 = .ok (.aaload, 1) := by decide +kernel
theorem dX8_lookAs_23 : decode cX8_lookAs 23 = .ok (.aload_n 0, 1) := by decide +kernel
theorem dX8_lookAs_24 : decode cX8_lookAs 24 = .ok (.getfield 56, 3) := by decide +kernel
theorem dX8_lookAs_27 : decode cX8_lookAs 27 = .ok (.iload_n 1, 1) := by decide +kernel
theorem dX8_lookAs_28 : decode cX8_lookAs 28 = .ok (.invokevirtual 256, 3) := by decide +kernel
theorem dX8_lookAs_31 : decode cX8_lookAs 31 = .ok (.iload_n 2, 1) := by decide +kernel
theorem dX8_lookAs_32 : decode cX8_lookAs 32 = .ok (.invokevirtual 382, 3) := by decide +kernel
theorem dX8_lookAs_35 : decode cX8_lookAs 35 = .ok (.aload_n 0, 1) := by decide +kernel
theorem dX8_lookAs_36 : decode cX8_lookAs 36 = .ok (.getfield 70, 3) := by decide +kernel
theorem dX8_lookAs_39 : decode cX8_lookAs 39 = .ok (.aload_n 0, 1) := by decide +kernel
theorem dX8_lookAs_40 : decode cX8_lookAs 40 = .ok (.getfield 56, 3) := by decide +kernel
theorem dX8_lookAs_43 : decode cX8_lookAs 43 = .ok (.iload_n 1, 1) := by decide +kernel
theorem dX8_lookAs_44 : decode cX8_lookAs 44 = .ok (.iload_n 2, 1) := by decide +kernel
theorem dX8_lookAs_45 : decode cX8_lookAs 45 = .ok (.invokevirtual 385, 3) := by decide +kernel
theorem dX8_lookAs_48 : decode cX8_lookAs 48 = .ok (.aload_n 0, 1) := by decide +kernel
theorem dX8_lookAs_49 : decode cX8_lookAs 49 = .ok (.getfield 79, 3) := by decide +kernel
theorem dX8_lookAs_52 : decode cX8_lookAs 52 = .ok (.invokevirtual 389, 3) := by decide +kernel
theorem dX8_lookAs_55 : decode cX8_lookAs 55 = .ok (.return_, 1) := by decide +kernel
theorem dX8_stateOf_0 : decode cX8_stateOf 0 = .ok (.iload_n 2, 1) := by decide +kernel
theorem dX8_stateOf_1 : decode cX8_stateOf 1 = .ok (.iconst 4, 1) := by decide +kernel
theorem dX8_stateOf_2 : decode cX8_stateOf 2 = .ok (.imul, 1) := by decide +kernel
theorem dX8_stateOf_3 : decode cX8_stateOf 3 = .ok (.iload_n 1, 1) := by decide +kernel
theorem dX8_stateOf_4 : decode cX8_stateOf 4 = .ok (.iadd, 1) := by decide +kernel
theorem dX8_stateOf_5 : decode cX8_stateOf 5 = .ok (.istore_n 3, 1) := by decide +kernel
theorem dX8_stateOf_6 : decode cX8_stateOf 6 = .ok (.aload_n 0, 1) := by decide +kernel
theorem dX8_stateOf_7 : decode cX8_stateOf 7 = .ok (.getfield 83, 3) := by decide +kernel
theorem dX8_stateOf_10 : decode cX8_stateOf 10 = .ok (.iload_n 3, 1) := by decide +kernel
theorem dX8_stateOf_11 : decode cX8_stateOf 11 = .ok (.iaload, 1) := by decide +kernel
theorem dX8_stateOf_12 : decode cX8_stateOf 12 = .ok (.iconst (-1), 1) := by decide +kernel
theorem dX8_stateOf_13 : decode cX8_stateOf 13 = .ok (.if_icmp .ne 35, 3) := by decide +kernel
theorem dX8_stateOf_16 : decode cX8_stateOf 16 = .ok (.aload_n 0, 1) := by decide +kernel
theorem dX8_stateOf_17 : decode cX8_stateOf 17 = .ok (.iload_n 2, 1) := by decide +kernel
theorem dX8_stateOf_18 : decode cX8_stateOf 18 = .ok (.aload_n 0, 1) := by decide +kernel
theorem dX8_stateOf_19 : decode cX8_stateOf 19 = .ok (.iload_n 2, 1) := by decide +kernel
theorem dX8_stateOf_20 : decode cX8_stateOf 20 = .ok (.invokevirtual 216, 3) := by decide +kernel
theorem dX8_stateOf_23 : decode cX8_stateOf 23 = .ok (.getfield 140, 3) := by decide +kernel
theorem dX8_stateOf_26 : decode cX8_stateOf 26 = .ok (.invokevirtual 209, 3) := by decide +kernel
theorem dX8_stateOf_29 : decode cX8_stateOf 29 = .ok (.aload_n 0, 1) := by decide +kernel
theorem dX8_stateOf_30 : decode cX8_stateOf 30 = .ok (.getfield 83, 3) := by decide +kernel
theorem dX8_stateOf_33 : decode cX8_stateOf 33 = .ok (.iload_n 3, 1) := by decide +kernel
theorem dX8_stateOf_34 : decode cX8_stateOf 34 = .ok (.aload_n 0, 1) := by decide +kernel
theorem dX8_stateOf_35 : decode cX8_stateOf 35 = .ok (.getfield 79, 3) := by decide +kernel
theorem dX8_stateOf_38 : decode cX8_stateOf 38 = .ok (.aload_n 0, 1) := by decide +kernel
theorem dX8_stateOf_39 : decode cX8_stateOf 39 = .ok (.getfield 37, 3) := by decide +kernel
theorem dX8_stateOf_42 : decode cX8_stateOf 42 = .ok (.iload_n 1, 1) := by decide +kernel
theorem dX8_stateOf_43 : decode cX8_stateOf 43 = .ok (.aaload, 1) := by decide +kernel
theorem dX8_stateOf_44 : decode cX8_stateOf 44 = .ok (.invokevirtual 392, 3) := by decide +kernel
theorem dX8_stateOf_47 : decode cX8_stateOf 47 = .ok (.iastore, 1) := by decide +kernel
theorem dX8_stateOf_48 : decode cX8_stateOf 48 = .ok (.aload_n 0, 1) := by decide +kernel
theorem dX8_stateOf_49 : decode cX8_stateOf 49 = .ok (.getfield 83, 3) := by decide +kernel
theorem dX8_stateOf_52 : decode cX8_stateOf 52 = .ok (.iload_n 3, 1) := by decide +kernel
theorem dX8_stateOf_53 : decode cX8_stateOf 53 = .ok (.iaload, 1) := by decide +kernel
theorem dX8_stateOf_54 : decode cX8_stateOf 54 = .ok (.ireturn, 1) := by decide +kernel
theorem dX8_stateOfNew_0 : decode cX8_stateOfNew 0 = .ok (.bipush 14, 2) := by decide +kernel
theorem dX8_stateOfNew_2 : decode cX8_stateOfNew 2 = .ok (.iload_n 2, 1) := by decide +kernel
theorem dX8_stateOfNew_3 : decode cX8_stateOfNew 3 = .ok (.bipush 6, 2) := by decide +kernel
theorem dX8_stateOfNew_5 : decode cX8_stateOfNew 5 = .ok (.imul, 1) := by decide +kernel
theorem dX8_stateOfNew_6 : decode cX8_stateOfNew 6 = .ok (.iadd, 1) := by decide +kernel
theorem dX8_stateOfNew_7 : decode cX8_stateOfNew 7 = .ok (.iload_n 3, 1) := by decide +kernel
theorem dX8_stateOfNew_8 : decode cX8_stateOfNew 8 = .ok (.iadd, 1) := by decide +kernel
theorem dX8_stateOfNew_9 : decode cX8_stateOfNew 9 = .ok (.iconst 4, 1) := by decide +kernel
theorem dX8_stateOfNew_10 : decode cX8_stateOfNew 10 = .ok (.imul, 1) := by decide +kernel
theorem dX8_stateOfNew_11 : decode cX8_stateOfNew 11 = .ok (.iload_n 1, 1) := by decide +kernel
theorem dX8_stateOfNew_12 : decode cX8_stateOfNew 12 = .ok (.iadd, 1) := by decide +kernel
theorem dX8_stateOfNew_13 : decode cX8_stateOfNew 13 = .ok (.istore 4, 2) := by decide +kernel
theorem dX8_stateOfNew_15 : decode cX8_stateOfNew 15 = .ok (.aload_n 0, 1) := by decide +kernel
theorem dX8_stateOfNew_16 : decode cX8_stateOfNew 16 = .ok (.getfield 83, 3) := by decide +kernel
theorem dX8_stateOfNew_19 : decode cX8_stateOfNew 19 = .ok (.iload 4, 2) := by decide +kernel
theorem dX8_stateOfNew_21 : decode cX8_stateOfNew 21 = .ok (.iaload, 1) := by decide +kernel
theorem dX8_stateOfNew_22 : decode cX8_stateOfNew 22 = .ok (.iconst (-1), 1) := by decide +kernel
theorem dX8_stateOfNew_23 : decode cX8_stateOfNew 23 = .ok (.if_icmp .ne 59, 3) := by decide +kernel
theorem dX8_stateOfNew_26 : decode cX8_stateOfNew 26 = .ok (.aload_n 0, 1) := by decide +kernel
theorem dX8_stateOfNew_27 : decode cX8_stateOfNew 27 = .ok (.getfield 70, 3) := by decide +kernel
theorem dX8_stateOfNew_30 : decode cX8_stateOfNew 30 = .ok (.aload_n 0, 1) := by decide +kernel
theorem dX8_stateOfNew_31 : decode cX8_stateOfNew 31 = .ok (.getfield 18, 3) := by decide +kernel
theorem dX8_stateOfNew_34 : decode cX8_stateOfNew 34 = .ok (.iload_n 2, 1) := by decide +kernel
theorem dX8_stateOfNew_35 : decode cX8_stateOfNew 35 = .ok (.aaload, 1) := by decide +kernel
theorem dX8_stateOfNew_36 : decode cX8_stateOfNew 36 = .ok (.aload_n 0, 1) := by decide +kernel
theorem dX8_stateOfNew_37 : decode cX8_stateOfNew 37 = .ok (.getfield 28, 3) := by decide +kernel
theorem dX8_stateOfNew_40 : decode cX8_stateOfNew 40 = .ok (.iload_n 3, 1) := by decide +kernel
theorem dX8_stateOfNew_41 : decode cX8_stateOfNew 41 = .ok (.aaload, 1) := by decide +kernel
theorem dX8_stateOfNew_42 : decode cX8_stateOfNew 42 = .ok (.iconst 0, 1) := by decide +kernel
theorem dX8_stateOfNew_43 : decode cX8_stateOfNew 43 = .ok (.aload_n 0, 1) := by decide +kernel
theorem dX8_stateOfNew_44 : decode cX8_stateOfNew 44 = .ok (.getfield 18, 3) := by decide +kernel
theorem dX8_stateOfNew_47 : decode cX8_stateOfNew 47 = .ok (.iload_n 2, 1) := by decide +kernel
theorem dX8_stateOfNew_48 : decode cX8_stateOfNew 48 = .ok (.aaload, 1) := by decide +kernel
theorem dX8_stateOfNew_49 : decode cX8_stateOfNew 49 = .ok (.getfield 140, 3) := by decide +kernel
theorem dX8_stateOfNew_52 : decode cX8_stateOfNew 52 = .ok (.invokevirtual 382, 3) := by decide +kernel
theorem dX8_stateOfNew_55 : decode cX8_stateOfNew 55 = .ok (.aload_n 0, 1) := by decide +kernel
theorem dX8_stateOfNew_56 : decode cX8_stateOfNew 56 = .ok (.getfield 79, 3) := by decide +kernel
theorem dX8_stateOfNew_59 : decode cX8_stateOfNew 59 = .ok (.invokevirtual 389, 3) := by decide +kernel
theorem dX8_stateOfNew_62 : decode cX8_stateOfNew 62 = .ok (.aload_n 0, 1) := by decide +kernel
theorem dX8_stateOfNew_63 : decode cX8_stateOfNew 63 = .ok (.getfield 83, 3) := by decide +kernel
theorem dX8_stateOfNew_66 : decode cX8_stateOfNew 66 = .ok (.iload 4, 2) := by decide +kernel
theorem dX8_stateOfNew_68 : decode cX8_stateOfNew 68 = .ok (.aload_n 0, 1) := by decide +kernel
theorem dX8_stateOfNew_69 : decode cX8_stateOfNew 69 = .ok (.getfield 79, 3) := by decide +kernel
theorem dX8_stateOfNew_72 : decode cX8_stateOfNew 72 = .ok (.aload_n 0, 1) := by decide +kernel
theorem dX8_stateOfNew_73 : decode cX8_stateOfNew 73 = .ok (.getfield 37, 3) := by decide +kernel
theorem dX8_stateOfNew_76 : decode cX8_stateOfNew 76 = .ok (.iload_n 1, 1) := by decide +kernel
theorem dX8_stateOfNew_77 : decode cX8_stateOfNew 77 = .ok (.aaload, 1) := by decide +kernel
theorem dX8_stateOfNew_78 : decode cX8_stateOfNew 78 = .ok (.invokevirtual 392, 3) := by decide +kernel
theorem dX8_stateOfNew_81 : decode cX8_stateOfNew 81 = .ok (.iastore, 1) := by decide +kernel
theorem dX8_stateOfNew_82 : decode cX8_stateOfNew 82 = .ok (.aload_n 0, 1) := by decide +kernel
theorem dX8_stateOfNew_83 : decode cX8_stateOfNew 83 = .ok (.getfield 83, 3) := by decide +kernel
theorem dX8_stateOfNew_86 : decode cX8_stateOfNew 86 = .ok (.iload 4, 2) := by decide +kernel
theorem dX8_stateOfNew_88 : decode cX8_stateOfNew 88 = .ok (.iaload, 1) := by decide +kernel
theorem dX8_stateOfNew_89 : decode cX8_stateOfNew 89 = .ok (.ireturn, 1) := by decide +kernel
theorem dX8_forgetStates_0 : decode cX8_forgetStates 0 = .ok (.iconst 0, 1) := by decide +kernel
theorem dX8_forgetStates_1 : decode cX8_forgetStates 1 = .ok (.istore_n 2, 1) := by decide +kernel
theorem dX8_forgetStates_2 : decode cX8_forgetStates 2 = .ok (.iload_n 2, 1) := by decide +kernel
theorem dX8_forgetStates_3 : decode cX8_forgetStates 3 = .ok (.iconst 4, 1) := by decide +kernel
theorem dX8_forgetStates_4 : decode cX8_forgetStates 4 = .ok (.if_icmp .ge 20, 3) := by decide +kernel
theorem dX8_forgetStates_7 : decode cX8_forgetStates 7 = .ok (.aload_n 0, 1) := by decide +kernel
theorem dX8_forgetStates_8 : decode cX8_forgetStates 8 = .ok (.getfield 83, 3) := by decide +kernel
theorem dX8_forgetStates_11 : decode cX8_forgetStates 11 = .ok (.iload_n 1, 1) := by decide +kernel
theorem dX8_forgetStates_12 : decode cX8_forgetStates 12 = .ok (.iconst 4, 1) := by decide +kernel
theorem dX8_forgetStates_13 : decode cX8_forgetStates 13 = .ok (.imul, 1) := by decide +kernel
theorem dX8_forgetStates_14 : decode cX8_forgetStates 14 = .ok (.iload_n 2, 1) := by decide +kernel
theorem dX8_forgetStates_15 : decode cX8_forgetStates 15 = .ok (.iadd, 1) := by decide +kernel
theorem dX8_forgetStates_16 : decode cX8_forgetStates 16 = .ok (.iconst (-1), 1) := by decide +kernel
theorem dX8_forgetStates_17 : decode cX8_forgetStates 17 = .ok (.iastore, 1) := by decide +kernel
theorem dX8_forgetStates_18 : decode cX8_forgetStates 18 = .ok (.iinc 2 1, 3) := by decide +kernel
theorem dX8_forgetStates_21 : decode cX8_forgetStates 21 = .ok (.goto (-19), 3) := by decide +kernel
theorem dX8_forgetStates_24 : decode cX8_forgetStates 24 = .ok (.return_, 1) := by decide +kernel
theorem dX8_isYes_0 : decode cX8_isYes 0 = .ok (.iload_n 1, 1) := by decide +kernel
theorem dX8_isYes_1 : decode cX8_isYes 1 = .ok (.lookupswitch 51 #[(0, 27), (1, 38)], 27) := by decide +kernel
theorem dX8_isYes_28 : decode cX8_isYes 28 = .ok (.iload_n 0, 1) := by decide +kernel
theorem dX8_isYes_29 : decode cX8_isYes 29 = .ok (.iconst 1, 1) := by decide +kernel
theorem dX8_isYes_30 : decode cX8_isYes 30 = .ok (.if_icmp .ne 7, 3) := by decide +kernel
theorem dX8_isYes_33 : decode cX8_isYes 33 = .ok (.iconst 1, 1) := by decide +kernel
theorem dX8_isYes_34 : decode cX8_isYes 34 = .ok (.goto 4, 3) := by decide +kernel
theorem dX8_isYes_37 : decode cX8_isYes 37 = .ok (.iconst 0, 1) := by decide +kernel
theorem dX8_isYes_38 : decode cX8_isYes 38 = .ok (.ireturn, 1) := by decide +kernel
theorem dX8_isYes_39 : decode cX8_isYes 39 = .ok (.iload_n 0, 1) := by decide +kernel
theorem dX8_isYes_40 : decode cX8_isYes 40 = .ok (.iconst 5, 1) := by decide +kernel
theorem dX8_isYes_41 : decode cX8_isYes 41 = .ok (.iand, 1) := by decide +kernel
theorem dX8_isYes_42 : decode cX8_isYes 42 = .ok (.iconst 1, 1) := by decide +kernel
theorem dX8_isYes_43 : decode cX8_isYes 43 = .ok (.if_icmp .ne 7, 3) := by decide +kernel
theorem dX8_isYes_46 : decode cX8_isYes 46 = .ok (.iconst 1, 1) := by decide +kernel
theorem dX8_isYes_47 : decode cX8_isYes 47 = .ok (.goto 4, 3) := by decide +kernel
theorem dX8_isYes_50 : decode cX8_isYes 50 = .ok (.iconst 0, 1) := by decide +kernel
theorem dX8_isYes_51 : decode cX8_isYes 51 = .ok (.ireturn, 1) := by decide +kernel
theorem dX8_isYes_52 : decode cX8_isYes 52 = .ok (.iload_n 0, 1) := by decide +kernel
theorem dX8_isYes_53 : decode cX8_isYes 53 = .ok (.iconst 1, 1) := by decide +kernel
theorem dX8_isYes_54 : decode cX8_isYes 54 = .ok (.iand, 1) := by decide +kernel
theorem dX8_isYes_55 : decode cX8_isYes 55 = .ok (.ifCond .eq 7, 3) := by decide +kernel
theorem dX8_isYes_58 : decode cX8_isYes 58 = .ok (.iconst 1, 1) := by decide +kernel
theorem dX8_isYes_59 : decode cX8_isYes 59 = .ok (.goto 4, 3) := by decide +kernel
theorem dX8_isYes_62 : decode cX8_isYes 62 = .ok (.iconst 0, 1) := by decide +kernel
theorem dX8_isYes_63 : decode cX8_isYes 63 = .ok (.ireturn, 1) := by decide +kernel
theorem dX8_changeSeen_0 : decode cX8_changeSeen 0 = .ok (.aload_n 0, 1) := by decide +kernel
theorem dX8_changeSeen_1 : decode cX8_changeSeen 1 = .ok (.iload_n 2, 1) := by decide +kernel
theorem dX8_changeSeen_2 : decode cX8_changeSeen 2 = .ok (.invokevirtual 216, 3) := by decide +kernel
theorem dX8_changeSeen_5 : decode cX8_changeSeen 5 = .ok (.astore_n 3, 1) := by decide +kernel
theorem dX8_changeSeen_6 : decode cX8_changeSeen 6 = .ok (.aload_n 3, 1) := by decide +kernel
theorem dX8_changeSeen_7 : decode cX8_changeSeen 7 = .ok (.getfield 146, 3) := by decide +kernel
theorem dX8_changeSeen_10 : decode cX8_changeSeen 10 = .ok (.iconst (-1), 1) := by decide +kernel
theorem dX8_changeSeen_11 : decode cX8_changeSeen 11 = .ok (.if_icmp .ne 5, 3) := by decide +kernel
theorem dX8_changeSeen_14 : decode cX8_changeSeen 14 = .ok (.iconst (-1), 1) := by decide +kernel
theorem dX8_changeSeen_15 : decode cX8_changeSeen 15 = .ok (.ireturn, 1) := by decide +kernel
theorem dX8_changeSeen_16 : decode cX8_changeSeen 16 = .ok (.aload_n 0, 1) := by decide +kernel
theorem dX8_changeSeen_17 : decode cX8_changeSeen 17 = .ok (.iload_n 2, 1) := by decide +kernel
theorem dX8_changeSeen_18 : decode cX8_changeSeen 18 = .ok (.aload_n 3, 1) := by decide +kernel
theorem dX8_changeSeen_19 : decode cX8_changeSeen 19 = .ok (.getfield 140, 3) := by decide +kernel
theorem dX8_changeSeen_22 : decode cX8_changeSeen 22 = .ok (.invokevirtual 209, 3) := by decide +kernel
theorem dX8_changeSeen_25 : decode cX8_changeSeen 25 = .ok (.aload_n 0, 1) := by decide +kernel
theorem dX8_changeSeen_26 : decode cX8_changeSeen 26 = .ok (.getfield 79, 3) := by decide +kernel
theorem dX8_changeSeen_29 : decode cX8_changeSeen 29 = .ok (.invokevirtual 395, 3) := by decide +kernel
theorem dX8_changeSeen_32 : decode cX8_changeSeen 32 = .ok (.aload_n 0, 1) := by decide +kernel
theorem dX8_changeSeen_33 : decode cX8_changeSeen 33 = .ok (.getfield 79, 3) := by decide +kernel
theorem dX8_changeSeen_36 : decode cX8_changeSeen 36 = .ok (.aload_n 0, 1) := by decide +kernel
theorem dX8_changeSeen_37 : decode cX8_changeSeen 37 = .ok (.getfield 37, 3) := by decide +kernel
theorem dX8_changeSeen_40 : decode cX8_changeSeen 40 = .ok (.iload_n 1, 1) := by decide +kernel
theorem dX8_changeSeen_41 : decode cX8_changeSeen 41 = .ok (.aaload, 1) := by decide +kernel
theorem dX8_changeSeen_42 : decode cX8_changeSeen 42 = .ok (.aload_n 3, 1) := by decide +kernel
theorem dX8_changeSeen_43 : decode cX8_changeSeen 43 = .ok (.getfield 146, 3) := by decide +kernel
theorem dX8_changeSeen_46 : decode cX8_changeSeen 46 = .ok (.invokevirtual 243, 3) := by decide +kernel
theorem dX8_changeSeen_49 : decode cX8_changeSeen 49 = .ok (.ireturn, 1) := by decide +kernel
theorem dX8_wasOnIt_0 : decode cX8_wasOnIt 0 = .ok (.aload_n 0, 1) := by decide +kernel
theorem dX8_wasOnIt_1 : decode cX8_wasOnIt 1 = .ok (.iload_n 1, 1) := by decide +kernel
theorem dX8_wasOnIt_2 : decode cX8_wasOnIt 2 = .ok (.aload_n 0, 1) := by decide +kernel
theorem dX8_wasOnIt_3 : decode cX8_wasOnIt 3 = .ok (.iload_n 1, 1) := by decide +kernel
theorem dX8_wasOnIt_4 : decode cX8_wasOnIt 4 = .ok (.invokevirtual 216, 3) := by decide +kernel
theorem dX8_wasOnIt_7 : decode cX8_wasOnIt 7 = .ok (.getfield 140, 3) := by decide +kernel
theorem dX8_wasOnIt_10 : decode cX8_wasOnIt 10 = .ok (.invokevirtual 209, 3) := by decide +kernel
theorem dX8_wasOnIt_13 : decode cX8_wasOnIt 13 = .ok (.aload_n 0, 1) := by decide +kernel
theorem dX8_wasOnIt_14 : decode cX8_wasOnIt 14 = .ok (.getfield 70, 3) := by decide +kernel
theorem dX8_wasOnIt_17 : decode cX8_wasOnIt 17 = .ok (.iconst 2, 1) := by decide +kernel
theorem dX8_wasOnIt_18 : decode cX8_wasOnIt 18 = .ok (.invokevirtual 220, 3) := by decide +kernel
theorem dX8_wasOnIt_21 : decode cX8_wasOnIt 21 = .ok (.ifCond .le 7, 3) := by decide +kernel
theorem dX8_wasOnIt_24 : decode cX8_wasOnIt 24 = .ok (.iconst 1, 1) := by decide +kernel
theorem dX8_wasOnIt_25 : decode cX8_wasOnIt 25 = .ok (.goto 4, 3) := by decide +kernel
theorem dX8_wasOnIt_28 : decode cX8_wasOnIt 28 = .ok (.iconst 0, 1) := by decide +kernel
theorem dX8_wasOnIt_29 : decode cX8_wasOnIt 29 = .ok (.ireturn, 1) := by decide +kernel
theorem dX8_lostBy_0 : decode cX8_lostBy 0 = .ok (.aload_n 0, 1) := by decide +kernel
theorem dX8_lostBy_1 : decode cX8_lostBy 1 = .ok (.getfield 28, 3) := by decide +kernel
theorem dX8_lostBy_4 : decode cX8_lostBy 4 = .ok (.aload_n 0, 1) := by decide +kernel
theorem dX8_lostBy_5 : decode cX8_lostBy 5 = .ok (.getfield 56, 3) := by decide +kernel
theorem dX8_lostBy_8 : decode cX8_lostBy 8 = .ok (.getfield 379, 3) := by decide +kernel
theorem dX8_lostBy_11 : decode cX8_lostBy 11 = .ok (.iload_n 1, 1) := by decide +kernel
theorem dX8_lostBy_12 : decode cX8_lostBy 12 = .ok (.iaload, 1) := by decide +kernel
theorem dX8_lostBy_13 : decode cX8_lostBy 13 = .ok (.aaload, 1) := by decide +kernel
theorem dX8_lostBy_14 : decode cX8_lostBy 14 = .ok (.getfield 179, 3) := by decide +kernel
theorem dX8_lostBy_17 : decode cX8_lostBy 17 = .ok (.istore_n 2, 1) := by decide +kernel
theorem dX8_lostBy_18 : decode cX8_lostBy 18 = .ok (.iload_n 2, 1) := by decide +kernel
theorem dX8_lostBy_19 : decode cX8_lostBy 19 = .ok (.iconst (-1), 1) := by decide +kernel
theorem dX8_lostBy_20 : decode cX8_lostBy 20 = .ok (.if_icmp .eq 16, 3) := by decide +kernel
theorem dX8_lostBy_23 : decode cX8_lostBy 23 = .ok (.aload_n 0, 1) := by decide +kernel
theorem dX8_lostBy_24 : decode cX8_lostBy 24 = .ok (.getfield 56, 3) := by decide +kernel
theorem dX8_lostBy_27 : decode cX8_lostBy 27 = .ok (.getfield 283, 3) := by decide +kernel
theorem dX8_lostBy_30 : decode cX8_lostBy 30 = .ok (.iload_n 1, 1) := by decide +kernel
theorem dX8_lostBy_31 : decode cX8_lostBy 31 = .ok (.iaload, 1) := by decide +kernel
theorem dX8_lostBy_32 : decode cX8_lostBy 32 = .ok (.iconst (-1), 1) := by decide +kernel
theorem dX8_lostBy_33 : decode cX8_lostBy 33 = .ok (.if_icmp .ne 5, 3) := by decide +kernel
theorem dX8_lostBy_36 : decode cX8_lostBy 36 = .ok (.iconst (-1), 1) := by decide +kernel
theorem dX8_lostBy_37 : decode cX8_lostBy 37 = .ok (.ireturn, 1) := by decide +kernel
theorem dX8_lostBy_38 : decode cX8_lostBy 38 = .ok (.aload_n 0, 1) := by decide +kernel
theorem dX8_lostBy_39 : decode cX8_lostBy 39 = .ok (.iload_n 1, 1) := by decide +kernel
theorem dX8_lostBy_40 : decode cX8_lostBy 40 = .ok (.invokevirtual 216, 3) := by decide +kernel
theorem dX8_lostBy_43 : decode cX8_lostBy 43 = .ok (.iload_n 2, 1) := by decide +kernel
theorem dX8_lostBy_44 : decode cX8_lostBy 44 = .ok (.invokevirtual 188, 3) := by decide +kernel
theorem dX8_lostBy_47 : decode cX8_lostBy 47 = .ok (.aload_n 0, 1) := by decide +kernel
theorem dX8_lostBy_48 : decode cX8_lostBy 48 = .ok (.getfield 56, 3) := by decide +kernel
theorem dX8_lostBy_51 : decode cX8_lostBy 51 = .ok (.getfield 283, 3) := by decide +kernel
theorem dX8_lostBy_54 : decode cX8_lostBy 54 = .ok (.iload_n 1, 1) := by decide +kernel
theorem dX8_lostBy_55 : decode cX8_lostBy 55 = .ok (.iaload, 1) := by decide +kernel
theorem dX8_lostBy_56 : decode cX8_lostBy 56 = .ok (.isub, 1) := by decide +kernel
theorem dX8_lostBy_57 : decode cX8_lostBy 57 = .ok (.invokestatic 398, 3) := by decide +kernel
theorem dX8_lostBy_60 : decode cX8_lostBy 60 = .ok (.ireturn, 1) := by decide +kernel
theorem dX8_lostTogether_0 : decode cX8_lostTogether 0 = .ok (.iconst 0, 1) := by decide +kernel
theorem dX8_lostTogether_1 : decode cX8_lostTogether 1 = .ok (.istore_n 3, 1) := by decide +kernel
theorem dX8_lostTogether_2 : decode cX8_lostTogether 2 = .ok (.iconst 0, 1) := by decide +kernel
theorem dX8_lostTogether_3 : decode cX8_lostTogether 3 = .ok (.istore 4, 2) := by decide +kernel
theorem dX8_lostTogether_5 : decode cX8_lostTogether 5 = .ok (.iload 4, 2) := by decide +kernel
theorem dX8_lostTogether_7 : decode cX8_lostTogether 7 = .ok (.aload_n 0, 1) := by decide +kernel
theorem dX8_lostTogether_8 : decode cX8_lostTogether 8 = .ok (.getfield 56, 3) := by decide +kernel
theorem dX8_lostTogether_11 : decode cX8_lostTogether 11 = .ok (.getfield 268, 3) := by decide +kernel
theorem dX8_lostTogether_14 : decode cX8_lostTogether 14 = .ok (.if_icmp .ge 32, 3) := by decide +kernel
theorem dX8_lostTogether_17 : decode cX8_lostTogether 17 = .ok (.aload_n 0, 1) := by decide +kernel
theorem dX8_lostTogether_18 : decode cX8_lostTogether 18 = .ok (.getfield 56, 3) := by decide +kernel
theorem dX8_lostTogether_21 : decode cX8_lostTogether 21 = .ok (.iload 4, 2) := by decide +kernel
theorem dX8_lostTogether_23 : decode cX8_lostTogether 23 = .ok (.iload_n 1, 1) := by decide +kernel
theorem dX8_lostTogether_24 : decode cX8_lostTogether 24 = .ok (.iload_n 2, 1) := by decide +kernel
theorem dX8_lostTogether_25 : decode cX8_lostTogether 25 = .ok (.invokevirtual 401, 3) := by decide +kernel
theorem dX8_lostTogether_28 : decode cX8_lostTogether 28 = .ok (.ifCond .eq 12, 3) := by decide +kernel
theorem dX8_lostTogether_31 : decode cX8_lostTogether 31 = .ok (.iload_n 3, 1) := by decide +kernel
theorem dX8_lostTogether_32 : decode cX8_lostTogether 32 = .ok (.aload_n 0, 1) := by decide +kernel
theorem dX8_lostTogether_33 : decode cX8_lostTogether 33 = .ok (.iload 4, 2) := by decide +kernel
theorem dX8_lostTogether_35 : decode cX8_lostTogether 35 = .ok (.invokevirtual 321, 3) := by decide +kernel
theorem dX8_lostTogether_38 : decode cX8_lostTogether 38 = .ok (.iadd, 1) := by decide +kernel
theorem dX8_lostTogether_39 : decode cX8_lostTogether 39 = .ok (.istore_n 3, 1) := by decide +kernel
theorem dX8_lostTogether_40 : decode cX8_lostTogether 40 = .ok (.iinc 4 1, 3) := by decide +kernel
theorem dX8_lostTogether_43 : decode cX8_lostTogether 43 = .ok (.goto (-38), 3) := by decide +kernel
theorem dX8_lostTogether_46 : decode cX8_lostTogether 46 = .ok (.iload_n 3, 1) := by decide +kernel
theorem dX8_lostTogether_47 : decode cX8_lostTogether 47 = .ok (.ireturn, 1) := by decide +kernel
theorem dX8_root_0 : decode cX8_root 0 = .ok (.iconst 0, 1) := by decide +kernel
theorem dX8_root_1 : decode cX8_root 1 = .ok (.istore_n 1, 1) := by decide +kernel
theorem dX8_root_2 : decode cX8_root 2 = .ok (.iload_n 1, 1) := by decide +kernel
theorem dX8_root_3 : decode cX8_root 3 = .ok (.iconst 1, 1) := by decide +kernel
theorem dX8_root_4 : decode cX8_root 4 = .ok (.iadd, 1) := by decide +kernel
theorem dX8_root_5 : decode cX8_root 5 = .ok (.iload_n 1, 1) := by decide +kernel
theorem dX8_root_6 : decode cX8_root 6 = .ok (.iconst 1, 1) := by decide +kernel
theorem dX8_root_7 : decode cX8_root 7 = .ok (.iadd, 1) := by decide +kernel
theorem dX8_root_8 : decode cX8_root 8 = .ok (.imul, 1) := by decide +kernel
theorem dX8_root_9 : decode cX8_root 9 = .ok (.iload_n 0, 1) := by decide +kernel
theorem dX8_root_10 : decode cX8_root 10 = .ok (.if_icmp .gt 15, 3) := by decide +kernel
theorem dX8_root_13 : decode cX8_root 13 = .ok (.iload_n 1, 1) := by decide +kernel
theorem dX8_root_14 : decode cX8_root 14 = .ok (.bipush 14, 2) := by decide +kernel
theorem dX8_root_16 : decode cX8_root 16 = .ok (.if_icmp .ge 9, 3) := by decide +kernel
theorem dX8_root_19 : decode cX8_root 19 = .ok (.iinc 1 1, 3) := by decide +kernel
theorem dX8_root_22 : decode cX8_root 22 = .ok (.goto (-20), 3) := by decide +kernel
theorem dX8_root_25 : decode cX8_root 25 = .ok (.iload_n 1, 1) := by decide +kernel
theorem dX8_root_26 : decode cX8_root 26 = .ok (.ireturn, 1) := by decide +kernel
theorem dX8_choose_0 : decode cX8_choose 0 = .ok (.iload_n 1, 1) := by decide +kernel
theorem dX8_choose_1 : decode cX8_choose 1 = .ok (.ifCond .lt 8, 3) := by decide +kernel
theorem dX8_choose_4 : decode cX8_choose 4 = .ok (.iload_n 1, 1) := by decide +kernel
theorem dX8_choose_5 : decode cX8_choose 5 = .ok (.iload_n 0, 1) := by decide +kernel
theorem dX8_choose_6 : decode cX8_choose 6 = .ok (.if_icmp .le 5, 3) := by decide +kernel
theorem dX8_choose_9 : decode cX8_choose 9 = .ok (.iconst 0, 1) := by decide +kernel
theorem dX8_choose_10 : decode cX8_choose 10 = .ok (.ireturn, 1) := by decide +kernel
theorem dX8_choose_11 : decode cX8_choose 11 = .ok (.lconst 1, 1) := by decide +kernel
theorem dX8_choose_12 : decode cX8_choose 12 = .ok (.lstore_n 2, 1) := by decide +kernel
theorem dX8_choose_13 : decode cX8_choose 13 = .ok (.iconst 1, 1) := by decide +kernel
theorem dX8_choose_14 : decode cX8_choose 14 = .ok (.istore 4, 2) := by decide +kernel
theorem dX8_choose_16 : decode cX8_choose 16 = .ok (.iload 4, 2) := by decide +kernel
theorem dX8_choose_18 : decode cX8_choose 18 = .ok (.iload_n 1, 1) := by decide +kernel
theorem dX8_choose_19 : decode cX8_choose 19 = .ok (.if_icmp .gt 23, 3) := by decide +kernel
theorem dX8_choose_22 : decode cX8_choose 22 = .ok (.lload_n 2, 1) := by decide +kernel
theorem dX8_choose_23 : decode cX8_choose 23 = .ok (.iload_n 0, 1) := by decide +kernel
theorem dX8_choose_24 : decode cX8_choose 24 = .ok (.iload_n 1, 1) := by decide +kernel
theorem dX8_choose_25 : decode cX8_choose 25 = .ok (.isub, 1) := by decide +kernel
theorem dX8_choose_26 : decode cX8_choose 26 = .ok (.iload 4, 2) := by decide +kernel
theorem dX8_choose_28 : decode cX8_choose 28 = .ok (.iadd, 1) := by decide +kernel
theorem dX8_choose_29 : decode cX8_choose 29 = .ok (.i2l, 1) := by decide +kernel
theorem dX8_choose_30 : decode cX8_choose 30 = .ok (.lmul, 1) := by decide +kernel
theorem dX8_choose_31 : decode cX8_choose 31 = .ok (.iload 4, 2) := by decide +kernel
theorem dX8_choose_33 : decode cX8_choose 33 = .ok (.i2l, 1) := by decide +kernel
theorem dX8_choose_34 : decode cX8_choose 34 = .ok (.ldiv, 1) := by decide +kernel
theorem dX8_choose_35 : decode cX8_choose 35 = .ok (.lstore_n 2, 1) := by decide +kernel
theorem dX8_choose_36 : decode cX8_choose 36 = .ok (.iinc 4 1, 3) := by decide +kernel
theorem dX8_choose_39 : decode cX8_choose 39 = .ok (.goto (-23), 3) := by decide +kernel
theorem dX8_choose_42 : decode cX8_choose 42 = .ok (.lload_n 2, 1) := by decide +kernel
theorem dX8_choose_43 : decode cX8_choose 43 = .ok (.l2i, 1) := by decide +kernel
theorem dX8_choose_44 : decode cX8_choose 44 = .ok (.ireturn, 1) := by decide +kernel
theorem dX8_waysOf_0 : decode cX8_waysOf 0 = .ok (.iload_n 1, 1) := by decide +kernel
theorem dX8_waysOf_1 : decode cX8_waysOf 1 = .ok (.iload_n 3, 1) := by decide +kernel
theorem dX8_waysOf_2 : decode cX8_waysOf 2 = .ok (.iadd, 1) := by decide +kernel
theorem dX8_waysOf_3 : decode cX8_waysOf 3 = .ok (.istore 4, 2) := by decide +kernel
theorem dX8_waysOf_5 : decode cX8_waysOf 5 = .ok (.iload_n 0, 1) := by decide +kernel
theorem dX8_waysOf_6 : decode cX8_waysOf 6 = .ok (.iload_n 2, 1) := by decide +kernel
theorem dX8_waysOf_7 : decode cX8_waysOf 7 = .ok (.iadd, 1) := by decide +kernel
theorem dX8_waysOf_8 : decode cX8_waysOf 8 = .ok (.iload 4, 2) := by decide +kernel
theorem dX8_waysOf_10 : decode cX8_waysOf 10 = .ok (.isub, 1) := by decide +kernel
theorem dX8_waysOf_11 : decode cX8_waysOf 11 = .ok (.istore 5, 2) := by decide +kernel
theorem dX8_waysOf_13 : decode cX8_waysOf 13 = .ok (.iconst 0, 1) := by decide +kernel
theorem dX8_waysOf_14 : decode cX8_waysOf 14 = .ok (.istore 6, 2) := by decide +kernel
theorem dX8_waysOf_16 : decode cX8_waysOf 16 = .ok (.iload_n 1, 1) := by decide +kernel
theorem dX8_waysOf_17 : decode cX8_waysOf 17 = .ok (.istore 7, 2) := by decide +kernel
theorem dX8_waysOf_19 : decode cX8_waysOf 19 = .ok (.iload 7, 2) := by decide +kernel
theorem dX8_waysOf_21 : decode cX8_waysOf 21 = .ok (.iload 4, 2) := by decide +kernel
theorem dX8_waysOf_23 : decode cX8_waysOf 23 = .ok (.if_icmp .gt 37, 3) := by decide +kernel
theorem dX8_waysOf_26 : decode cX8_waysOf 26 = .ok (.iload 7, 2) := by decide +kernel
theorem dX8_waysOf_28 : decode cX8_waysOf 28 = .ok (.iload_n 0, 1) := by decide +kernel
theorem dX8_waysOf_29 : decode cX8_waysOf 29 = .ok (.if_icmp .gt 31, 3) := by decide +kernel
theorem dX8_waysOf_32 : decode cX8_waysOf 32 = .ok (.iload 6, 2) := by decide +kernel
theorem dX8_waysOf_34 : decode cX8_waysOf 34 = .ok (.iload 4, 2) := by decide +kernel
theorem dX8_waysOf_36 : decode cX8_waysOf 36 = .ok (.iload 7, 2) := by decide +kernel
theorem dX8_waysOf_38 : decode cX8_waysOf 38 = .ok (.invokestatic 310, 3) := by decide +kernel
theorem dX8_waysOf_41 : decode cX8_waysOf 41 = .ok (.iload 5, 2) := by decide +kernel
theorem dX8_waysOf_43 : decode cX8_waysOf 43 = .ok (.iload_n 0, 1) := by decide +kernel
theorem dX8_waysOf_44 : decode cX8_waysOf 44 = .ok (.iload 7, 2) := by decide +kernel
theorem dX8_waysOf_46 : decode cX8_waysOf 46 = .ok (.isub, 1) := by decide +kernel
theorem dX8_waysOf_47 : decode cX8_waysOf 47 = .ok (.invokestatic 310, 3) := by decide +kernel
theorem dX8_waysOf_50 : decode cX8_waysOf 50 = .ok (.imul, 1) := by decide +kernel
theorem dX8_waysOf_51 : decode cX8_waysOf 51 = .ok (.iadd, 1) := by decide +kernel
theorem dX8_waysOf_52 : decode cX8_waysOf 52 = .ok (.istore 6, 2) := by decide +kernel
theorem dX8_waysOf_54 : decode cX8_waysOf 54 = .ok (.iinc 7 1, 3) := by decide +kernel
theorem dX8_waysOf_57 : decode cX8_waysOf 57 = .ok (.goto (-38), 3) := by decide +kernel
theorem dX8_waysOf_60 : decode cX8_waysOf 60 = .ok (.iload 6, 2) := by decide +kernel
theorem dX8_waysOf_62 : decode cX8_waysOf 62 = .ok (.ireturn, 1) := by decide +kernel
theorem dX8_isHeard_0 : decode cX8_isHeard 0 = .ok (.aload_n 0, 1) := by decide +kernel
theorem dX8_isHeard_1 : decode cX8_isHeard 1 = .ok (.iload_n 1, 1) := by decide +kernel
theorem dX8_isHeard_2 : decode cX8_isHeard 2 = .ok (.invokevirtual 216, 3) := by decide +kernel
theorem dX8_isHeard_5 : decode cX8_isHeard 5 = .ok (.getfield 143, 3) := by decide +kernel
theorem dX8_isHeard_8 : decode cX8_isHeard 8 = .ok (.iconst (-1), 1) := by decide +kernel
theorem dX8_isHeard_9 : decode cX8_isHeard 9 = .ok (.if_icmp .eq 31, 3) := by decide +kernel
theorem dX8_isHeard_12 : decode cX8_isHeard 12 = .ok (.aload_n 0, 1) := by decide +kernel
theorem dX8_isHeard_13 : decode cX8_isHeard 13 = .ok (.getfield 56, 3) := by decide +kernel
theorem dX8_isHeard_16 : decode cX8_isHeard 16 = .ok (.iload_n 1, 1) := by decide +kernel
theorem dX8_isHeard_17 : decode cX8_isHeard 17 = .ok (.invokevirtual 256, 3) := by decide +kernel
theorem dX8_isHeard_20 : decode cX8_isHeard 20 = .ok (.ifCond .ne 20, 3) := by decide +kernel
theorem dX8_isHeard_23 : decode cX8_isHeard 23 = .ok (.aload_n 0, 1) := by decide +kernel
theorem dX8_isHeard_24 : decode cX8_isHeard 24 = .ok (.getfield 56, 3) := by decide +kernel
theorem dX8_isHeard_27 : decode cX8_isHeard 27 = .ok (.iload_n 1, 1) := by decide +kernel
theorem dX8_isHeard_28 : decode cX8_isHeard 28 = .ok (.iconst 0, 1) := by decide +kernel
theorem dX8_isHeard_29 : decode cX8_isHeard 29 = .ok (.invokevirtual 277, 3) := by decide +kernel
theorem dX8_isHeard_32 : decode cX8_isHeard 32 = .ok (.iconst (-1), 1) := by decide +kernel
theorem dX8_isHeard_33 : decode cX8_isHeard 33 = .ok (.if_icmp .eq 7, 3) := by decide +kernel
theorem dX8_isHeard_36 : decode cX8_isHeard 36 = .ok (.iconst 1, 1) := by decide +kernel
theorem dX8_isHeard_37 : decode cX8_isHeard 37 = .ok (.goto 4, 3) := by decide +kernel
theorem dX8_isHeard_40 : decode cX8_isHeard 40 = .ok (.iconst 0, 1) := by decide +kernel
theorem dX8_isHeard_41 : decode cX8_isHeard 41 = .ok (.ireturn, 1) := by decide +kernel
theorem dX8_oddsOf_0 : decode cX8_oddsOf 0 = .ok (.aload_n 0, 1) := by decide +kernel
theorem dX8_oddsOf_1 : decode cX8_oddsOf 1 = .ok (.getfield 56, 3) := by decide +kernel
theorem dX8_oddsOf_4 : decode cX8_oddsOf 4 = .ok (.getfield 334, 3) := by decide +kernel
theorem dX8_oddsOf_7 : decode cX8_oddsOf 7 = .ok (.iload_n 1, 1) := by decide +kernel
theorem dX8_oddsOf_8 : decode cX8_oddsOf 8 = .ok (.iaload, 1) := by decide +kernel
theorem dX8_oddsOf_9 : decode cX8_oddsOf 9 = .ok (.i2l, 1) := by decide +kernel
theorem dX8_oddsOf_10 : decode cX8_oddsOf 10 = .ok (.lstore_n 2, 1) := by decide +kernel
theorem dX8_oddsOf_11 : decode cX8_oddsOf 11 = .ok (.iconst 0, 1) := by decide +kernel
theorem dX8_oddsOf_12 : decode cX8_oddsOf 12 = .ok (.istore 4, 2) := by decide +kernel
theorem dX8_oddsOf_14 : decode cX8_oddsOf 14 = .ok (.iload 4, 2) := by decide +kernel
theorem dX8_oddsOf_16 : decode cX8_oddsOf 16 = .ok (.aload_n 0, 1) := by decide +kernel
theorem dX8_oddsOf_17 : decode cX8_oddsOf 17 = .ok (.getfield 56, 3) := by decide +kernel
theorem dX8_oddsOf_20 : decode cX8_oddsOf 20 = .ok (.getfield 268, 3) := by decide +kernel
theorem dX8_oddsOf_23 : decode cX8_oddsOf 23 = .ok (.if_icmp .ge 88, 3) := by decide +kernel
theorem dX8_oddsOf_26 : decode cX8_oddsOf 26 = .ok (.aload_n 0, 1) := by decide +kernel
theorem dX8_oddsOf_27 : decode cX8_oddsOf 27 = .ok (.iload 4, 2) := by decide +kernel
theorem dX8_oddsOf_29 : decode cX8_oddsOf 29 = .ok (.invokevirtual 404, 3) := by decide +kernel
theorem dX8_oddsOf_32 : decode cX8_oddsOf 32 = .ok (.ifCond .eq 73, 3) := by decide +kernel
theorem dX8_oddsOf_35 : decode cX8_oddsOf 35 = .ok (.aload_n 0, 1) := by decide +kernel
theorem dX8_oddsOf_36 : decode cX8_oddsOf 36 = .ok (.iload_n 1, 1) := by decide +kernel
theorem dX8_oddsOf_37 : decode cX8_oddsOf 37 = .ok (.iload 4, 2) := by decide +kernel
theorem dX8_oddsOf_39 : decode cX8_oddsOf 39 = .ok (.invokevirtual 250, 3) := by decide +kernel
theorem dX8_oddsOf_42 : decode cX8_oddsOf 42 = .ok (.iconst 0, 1) := by decide +kernel
theorem dX8_oddsOf_43 : decode cX8_oddsOf 43 = .ok (.invokestatic 253, 3) := by decide +kernel
theorem dX8_oddsOf_46 : decode cX8_oddsOf 46 = .ok (.aload_n 0, 1) := by decide +kernel
theorem dX8_oddsOf_47 : decode cX8_oddsOf 47 = .ok (.getfield 56, 3) := by decide +kernel
theorem dX8_oddsOf_50 : decode cX8_oddsOf 50 = .ok (.iload 4, 2) := by decide +kernel
theorem dX8_oddsOf_52 : decode cX8_oddsOf 52 = .ok (.iconst 0, 1) := by decide +kernel
theorem dX8_oddsOf_53 : decode cX8_oddsOf 53 = .ok (.invokevirtual 277, 3) := by decide +kernel
theorem dX8_oddsOf_56 : decode cX8_oddsOf 56 = .ok (.iconst 1, 1) := by decide +kernel
theorem dX8_oddsOf_57 : decode cX8_oddsOf 57 = .ok (.if_icmp .ne 7, 3) := by decide +kernel
theorem dX8_oddsOf_60 : decode cX8_oddsOf 60 = .ok (.iconst 1, 1) := by decide +kernel
theorem dX8_oddsOf_61 : decode cX8_oddsOf 61 = .ok (.goto 4, 3) := by decide +kernel
theorem dX8_oddsOf_64 : decode cX8_oddsOf 64 = .ok (.iconst 0, 1) := by decide +kernel
theorem dX8_oddsOf_65 : decode cX8_oddsOf 65 = .ok (.if_icmp .ne 7, 3) := by decide +kernel
theorem dX8_oddsOf_68 : decode cX8_oddsOf 68 = .ok (.iconst 1, 1) := by decide +kernel
theorem dX8_oddsOf_69 : decode cX8_oddsOf 69 = .ok (.goto 4, 3) := by decide +kernel
theorem dX8_oddsOf_72 : decode cX8_oddsOf 72 = .ok (.iconst 0, 1) := by decide +kernel
theorem dX8_oddsOf_73 : decode cX8_oddsOf 73 = .ok (.istore 5, 2) := by decide +kernel
theorem dX8_oddsOf_75 : decode cX8_oddsOf 75 = .ok (.lload_n 2, 1) := by decide +kernel
theorem dX8_oddsOf_76 : decode cX8_oddsOf 76 = .ok (.iload 5, 2) := by decide +kernel
theorem dX8_oddsOf_78 : decode cX8_oddsOf 78 = .ok (.ifCond .eq 17, 3) := by decide +kernel
theorem dX8_oddsOf_81 : decode cX8_oddsOf 81 = .ok (.bipush 16, 2) := by decide +kernel
theorem dX8_oddsOf_83 : decode cX8_oddsOf 83 = .ok (.aload_n 0, 1) := by decide +kernel
theorem dX8_oddsOf_84 : decode cX8_oddsOf 84 = .ok (.getfield 56, 3) := by decide +kernel
theorem dX8_oddsOf_87 : decode cX8_oddsOf 87 = .ok (.getfield 337, 3) := by decide +kernel
theorem dX8_oddsOf_90 : decode cX8_oddsOf 90 = .ok (.isub, 1) := by decide +kernel
theorem dX8_oddsOf_91 : decode cX8_oddsOf 91 = .ok (.i2l, 1) := by decide +kernel
theorem dX8_oddsOf_92 : decode cX8_oddsOf 92 = .ok (.goto 11, 3) := by decide +kernel
theorem dX8_oddsOf_95 : decode cX8_oddsOf 95 = .ok (.aload_n 0, 1) := by decide +kernel
theorem dX8_oddsOf_96 : decode cX8_oddsOf 96 = .ok (.getfield 56, 3) := by decide +kernel
theorem dX8_oddsOf_99 : decode cX8_oddsOf 99 = .ok (.getfield 337, 3) := by decide +kernel
theorem dX8_oddsOf_102 : decode cX8_oddsOf 102 = .ok (.i2l, 1) := by decide +kernel
theorem dX8_oddsOf_103 : decode cX8_oddsOf 103 = .ok (.lmul, 1) := by decide +kernel
theorem dX8_oddsOf_104 : decode cX8_oddsOf 104 = .ok (.lstore_n 2, 1) := by decide +kernel
theorem dX8_oddsOf_105 : decode cX8_oddsOf 105 = .ok (.iinc 4 1, 3) := by decide +kernel
theorem dX8_oddsOf_108 : decode cX8_oddsOf 108 = .ok (.goto (-94), 3) := by decide +kernel
theorem dX8_oddsOf_111 : decode cX8_oddsOf 111 = .ok (.lload_n 2, 1) := by decide +kernel
theorem dX8_oddsOf_112 : decode cX8_oddsOf 112 = .ok (.lreturn, 1) := by decide +kernel
theorem dX8_fitting_0 : decode cX8_fitting 0 = .ok (.iconst 0, 1) := by decide +kernel
theorem dX8_fitting_1 : decode cX8_fitting 1 = .ok (.istore_n 2, 1) := by decide +kernel
theorem dX8_fitting_2 : decode cX8_fitting 2 = .ok (.iconst 0, 1) := by decide +kernel
theorem dX8_fitting_3 : decode cX8_fitting 3 = .ok (.istore_n 3, 1) := by decide +kernel
theorem dX8_fitting_4 : decode cX8_fitting 4 = .ok (.iload_n 3, 1) := by decide +kernel
theorem dX8_fitting_5 : decode cX8_fitting 5 = .ok (.aload_n 0, 1) := by decide +kernel
theorem dX8_fitting_6 : decode cX8_fitting 6 = .ok (.getfield 41, 3) := by decide +kernel
theorem dX8_fitting_9 : decode cX8_fitting 9 = .ok (.if_icmp .ge 94, 3) := by decide +kernel
theorem dX8_fitting_12 : decode cX8_fitting 12 = .ok (.iconst 0, 1) := by decide +kernel
theorem dX8_fitting_13 : decode cX8_fitting 13 = .ok (.istore 4, 2) := by decide +kernel
theorem dX8_fitting_15 : decode cX8_fitting 15 = .ok (.iconst 0, 1) := by decide +kernel
theorem dX8_fitting_16 : decode cX8_fitting 16 = .ok (.istore 5, 2) := by decide +kernel
theorem dX8_fitting_18 : decode cX8_fitting 18 = .ok (.iload 5, 2) := by decide +kernel
theorem dX8_fitting_20 : decode cX8_fitting 20 = .ok (.aload_n 0, 1) := by decide +kernel
theorem dX8_fitting_21 : decode cX8_fitting 21 = .ok (.getfield 56, 3) := by decide +kernel
theorem dX8_fitting_24 : decode cX8_fitting 24 = .ok (.getfield 268, 3) := by decide +kernel
theorem dX8_fitting_27 : decode cX8_fitting 27 = .ok (.if_icmp .ge 54, 3) := by decide +kernel
theorem dX8_fitting_30 : decode cX8_fitting 30 = .ok (.aload_n 0, 1) := by decide +kernel
theorem dX8_fitting_31 : decode cX8_fitting 31 = .ok (.iload 5, 2) := by decide +kernel
theorem dX8_fitting_33 : decode cX8_fitting 33 = .ok (.invokevirtual 404, 3) := by decide +kernel
theorem dX8_fitting_36 : decode cX8_fitting 36 = .ok (.ifCond .eq 39, 3) := by decide +kernel
theorem dX8_fitting_39 : decode cX8_fitting 39 = .ok (.aload_n 0, 1) := by decide +kernel
theorem dX8_fitting_40 : decode cX8_fitting 40 = .ok (.iload_n 3, 1) := by decide +kernel
theorem dX8_fitting_41 : decode cX8_fitting 41 = .ok (.iload 5, 2) := by decide +kernel
theorem dX8_fitting_43 : decode cX8_fitting 43 = .ok (.invokevirtual 250, 3) := by decide +kernel
theorem dX8_fitting_46 : decode cX8_fitting 46 = .ok (.iconst 0, 1) := by decide +kernel
theorem dX8_fitting_47 : decode cX8_fitting 47 = .ok (.invokestatic 253, 3) := by decide +kernel
theorem dX8_fitting_50 : decode cX8_fitting 50 = .ok (.aload_n 0, 1) := by decide +kernel
theorem dX8_fitting_51 : decode cX8_fitting 51 = .ok (.getfield 56, 3) := by decide +kernel
theorem dX8_fitting_54 : decode cX8_fitting 54 = .ok (.iload 5, 2) := by decide +kernel
theorem dX8_fitting_56 : decode cX8_fitting 56 = .ok (.iconst 0, 1) := by decide +kernel
theorem dX8_fitting_57 : decode cX8_fitting 57 = .ok (.invokevirtual 277, 3) := by decide +kernel
theorem dX8_fitting_60 : decode cX8_fitting 60 = .ok (.iconst 1, 1) := by decide +kernel
theorem dX8_fitting_61 : decode cX8_fitting 61 = .ok (.if_icmp .ne 7, 3) := by decide +kernel
theorem dX8_fitting_64 : decode cX8_fitting 64 = .ok (.iconst 1, 1) := by decide +kernel
theorem dX8_fitting_65 : decode cX8_fitting 65 = .ok (.goto 4, 3) := by decide +kernel
theorem dX8_fitting_68 : decode cX8_fitting 68 = .ok (.iconst 0, 1) := by decide +kernel
theorem dX8_fitting_69 : decode cX8_fitting 69 = .ok (.if_icmp .eq 6, 3) := by decide +kernel
theorem dX8_fitting_72 : decode cX8_fitting 72 = .ok (.iinc 4 1, 3) := by decide +kernel
theorem dX8_fitting_75 : decode cX8_fitting 75 = .ok (.iinc 5 1, 3) := by decide +kernel
theorem dX8_fitting_78 : decode cX8_fitting 78 = .ok (.goto (-60), 3) := by decide +kernel
theorem dX8_fitting_81 : decode cX8_fitting 81 = .ok (.iload_n 2, 1) := by decide +kernel
theorem dX8_fitting_82 : decode cX8_fitting 82 = .ok (.iload 4, 2) := by decide +kernel
theorem dX8_fitting_84 : decode cX8_fitting 84 = .ok (.iload_n 1, 1) := by decide +kernel
theorem dX8_fitting_85 : decode cX8_fitting 85 = .ok (.if_icmp .gt 9, 3) := by decide +kernel
theorem dX8_fitting_88 : decode cX8_fitting 88 = .ok (.iconst 1, 1) := by decide +kernel
theorem dX8_fitting_89 : decode cX8_fitting 89 = .ok (.iload_n 3, 1) := by decide +kernel
theorem dX8_fitting_90 : decode cX8_fitting 90 = .ok (.ishl, 1) := by decide +kernel
theorem dX8_fitting_91 : decode cX8_fitting 91 = .ok (.goto 4, 3) := by decide +kernel
theorem dX8_fitting_94 : decode cX8_fitting 94 = .ok (.iconst 0, 1) := by decide +kernel
theorem dX8_fitting_95 : decode cX8_fitting 95 = .ok (.ior, 1) := by decide +kernel
theorem dX8_fitting_96 : decode cX8_fitting 96 = .ok (.istore_n 2, 1) := by decide +kernel
theorem dX8_fitting_97 : decode cX8_fitting 97 = .ok (.iinc 3 1, 3) := by decide +kernel
theorem dX8_fitting_100 : decode cX8_fitting 100 = .ok (.goto (-96), 3) := by decide +kernel
theorem dX8_fitting_103 : decode cX8_fitting 103 = .ok (.iload_n 2, 1) := by decide +kernel
theorem dX8_fitting_104 : decode cX8_fitting 104 = .ok (.ireturn, 1) := by decide +kernel
theorem dX8_lesserOdds_0 : decode cX8_lesserOdds 0 = .ok (.lconst 0, 1) := by decide +kernel
theorem dX8_lesserOdds_1 : decode cX8_lesserOdds 1 = .ok (.lstore_n 3, 1) := by decide +kernel
theorem dX8_lesserOdds_2 : decode cX8_lesserOdds 2 = .ok (.lconst 0, 1) := by decide +kernel
theorem dX8_lesserOdds_3 : decode cX8_lesserOdds 3 = .ok (.lstore 5, 2) := by decide +kernel
theorem dX8_lesserOdds_5 : decode cX8_lesserOdds 5 = .ok (.iconst 0, 1) := by decide +kernel
theorem dX8_lesserOdds_6 : decode cX8_lesserOdds 6 = .ok (.istore 7, 2) := by decide +kernel
theorem dX8_lesserOdds_8 : decode cX8_lesserOdds 8 = .ok (.iload 7, 2) := by decide +kernel
theorem dX8_lesserOdds_10 : decode cX8_lesserOdds 10 = .ok (.aload_n 0, 1) := by decide +kernel
theorem dX8_lesserOdds_11 : decode cX8_lesserOdds 11 = .ok (.getfield 41, 3) := by decide +kernel
theorem dX8_lesserOdds_14 : decode cX8_lesserOdds 14 = .ok (.if_icmp .ge 49, 3) := by decide +kernel
theorem dX8_lesserOdds_17 : decode cX8_lesserOdds 17 = .ok (.aload_n 0, 1) := by decide +kernel
theorem dX8_lesserOdds_18 : decode cX8_lesserOdds 18 = .ok (.iload 7, 2) := by decide +kernel
theorem dX8_lesserOdds_20 : decode cX8_lesserOdds 20 = .ok (.iload_n 1, 1) := by decide +kernel
theorem dX8_lesserOdds_21 : decode cX8_lesserOdds 21 = .ok (.iload_n 2, 1) := by decide +kernel
theorem dX8_lesserOdds_22 : decode cX8_lesserOdds 22 = .ok (.invokevirtual 354, 3) := by decide +kernel
theorem dX8_lesserOdds_25 : decode cX8_lesserOdds 25 = .ok (.iconst 0, 1) := by decide +kernel
theorem dX8_lesserOdds_26 : decode cX8_lesserOdds 26 = .ok (.invokestatic 253, 3) := by decide +kernel
theorem dX8_lesserOdds_29 : decode cX8_lesserOdds 29 = .ok (.ifCond .eq 16, 3) := by decide +kernel
theorem dX8_lesserOdds_32 : decode cX8_lesserOdds 32 = .ok (.lload_n 3, 1) := by decide +kernel
theorem dX8_lesserOdds_33 : decode cX8_lesserOdds 33 = .ok (.aload_n 0, 1) := by decide +kernel
theorem dX8_lesserOdds_34 : decode cX8_lesserOdds 34 = .ok (.getfield 87, 3) := by decide +kernel
theorem dX8_lesserOdds_37 : decode cX8_lesserOdds 37 = .ok (.iload 7, 2) := by decide +kernel
theorem dX8_lesserOdds_39 : decode cX8_lesserOdds 39 = .ok (.laload, 1) := by decide +kernel
theorem dX8_lesserOdds_40 : decode cX8_lesserOdds 40 = .ok (.ladd, 1) := by decide +kernel
theorem dX8_lesserOdds_41 : decode cX8_lesserOdds 41 = .ok (.lstore_n 3, 1) := by decide +kernel
theorem dX8_lesserOdds_42 : decode cX8_lesserOdds 42 = .ok (.goto 15, 3) := by decide +kernel
theorem dX8_lesserOdds_45 : decode cX8_lesserOdds 45 = .ok (.lload 5, 2) := by decide +kernel
theorem dX8_lesserOdds_47 : decode cX8_lesserOdds 47 = .ok (.aload_n 0, 1) := by decide +kernel
theorem dX8_lesserOdds_48 : decode cX8_lesserOdds 48 = .ok (.getfield 87, 3) := by decide +kernel
theorem dX8_lesserOdds_51 : decode cX8_lesserOdds 51 = .ok (.iload 7, 2) := by decide +kernel
theorem dX8_lesserOdds_53 : decode cX8_lesserOdds 53 = .ok (.laload, 1) := by decide +kernel
theorem dX8_lesserOdds_54 : decode cX8_lesserOdds 54 = .ok (.ladd, 1) := by decide +kernel
theorem dX8_lesserOdds_55 : decode cX8_lesserOdds 55 = .ok (.lstore 5, 2) := by decide +kernel
theorem dX8_lesserOdds_57 : decode cX8_lesserOdds 57 = .ok (.iinc 7 1, 3) := by decide +kernel
theorem dX8_lesserOdds_60 : decode cX8_lesserOdds 60 = .ok (.goto (-52), 3) := by decide +kernel
theorem dX8_lesserOdds_63 : decode cX8_lesserOdds 63 = .ok (.lload_n 3, 1) := by decide +kernel
theorem dX8_lesserOdds_64 : decode cX8_lesserOdds 64 = .ok (.lload 5, 2) := by decide +kernel
theorem dX8_lesserOdds_66 : decode cX8_lesserOdds 66 = .ok (.invokestatic 407, 3) := by decide +kernel
theorem dX8_lesserOdds_69 : decode cX8_lesserOdds 69 = .ok (.lreturn, 1) := by decide +kernel
theorem dJ0_length_8abf5_0 : decode cJ0_length_8abf5 0 = .ok (.aload_n 0, 1) := by decide +kernel
theorem dJ0_length_8abf5_1 : decode cJ0_length_8abf5 1 = .ok (.getfield 9, 3) := by decide +kernel
theorem dJ0_length_8abf5_4 : decode cJ0_length_8abf5 4 = .ok (.arraylength, 1) := by decide +kernel
theorem dJ0_length_8abf5_5 : decode cJ0_length_8abf5 5 = .ok (.aload_n 0, 1) := by decide +kernel
theorem dJ0_length_8abf5_6 : decode cJ0_length_8abf5 6 = .ok (.invokevirtual 335, 3) := by decide +kernel
theorem dJ0_length_8abf5_9 : decode cJ0_length_8abf5 9 = .ok (.ishr, 1) := by decide +kernel
theorem dJ0_length_8abf5_10 : decode cJ0_length_8abf5 10 = .ok (.ireturn, 1) := by decide +kernel
theorem dJ0_charAt_5068e_0 : decode cJ0_charAt_5068e 0 = .ok (.aload_n 0, 1) := by decide +kernel
theorem dJ0_charAt_5068e_1 : decode cJ0_charAt_5068e 1 = .ok (.invokevirtual 492, 3) := by decide +kernel
theorem dJ0_charAt_5068e_4 : decode cJ0_charAt_5068e 4 = .ok (.ifCond .eq 12, 3) := by decide +kernel
theorem dJ0_charAt_5068e_7 : decode cJ0_charAt_5068e 7 = .ok (.aload_n 0, 1) := by decide +kernel
theorem dJ0_charAt_5068e_8 : decode cJ0_charAt_5068e 8 = .ok (.getfield 9, 3) := by decide +kernel
theorem dJ0_charAt_5068e_11 : decode cJ0_charAt_5068e 11 = .ok (.iload_n 1, 1) := by decide +kernel
theorem dJ0_charAt_5068e_12 : decode cJ0_charAt_5068e 12 = .ok (.invokestatic 495, 3) := by decide +kernel
theorem dJ0_charAt_5068e_15 : decode cJ0_charAt_5068e 15 = .ok (.ireturn, 1) := by decide +kernel
theorem dJ0_charAt_5068e_16 : decode cJ0_charAt_5068e 16 = .ok (.aload_n 0, 1) := by decide +kernel
theorem dJ0_charAt_5068e_17 : decode cJ0_charAt_5068e 17 = .ok (.getfield 9, 3) := by decide +kernel
theorem dJ0_charAt_5068e_20 : decode cJ0_charAt_5068e 20 = .ok (.iload_n 1, 1) := by decide +kernel
theorem dJ0_charAt_5068e_21 : decode cJ0_charAt_5068e 21 = .ok (.invokestatic 498, 3) := by decide +kernel
theorem dJ0_charAt_5068e_24 : decode cJ0_charAt_5068e 24 = .ok (.ireturn, 1) := by decide +kernel
theorem dJ0_coder_7d493_0 : decode cJ0_coder_7d493 0 = .ok (.getstatic 38, 3) := by decide +kernel
theorem dJ0_coder_7d493_3 : decode cJ0_coder_7d493 3 = .ok (.ifCond .eq 10, 3) := by decide +kernel
theorem dJ0_coder_7d493_6 : decode cJ0_coder_7d493 6 = .ok (.aload_n 0, 1) := by decide +kernel
theorem dJ0_coder_7d493_7 : decode cJ0_coder_7d493 7 = .ok (.getfield 15, 3) := by decide +kernel
theorem dJ0_coder_7d493_10 : decode cJ0_coder_7d493 10 = .ok (.goto 4, 3) := by decide +kernel
theorem dJ0_coder_7d493_13 : decode cJ0_coder_7d493 13 = .ok (.iconst 1, 1) := by decide +kernel
theorem dJ0_coder_7d493_14 : decode cJ0_coder_7d493 14 = .ok (.ireturn, 1) := by decide +kernel
theorem dJ0_isLatin1_aae02_0 : decode cJ0_isLatin1_aae02 0 = .ok (.getstatic 38, 3) := by decide +kernel
theorem dJ0_isLatin1_aae02_3 : decode cJ0_isLatin1_aae02 3 = .ok (.ifCond .eq 14, 3) := by decide +kernel
theorem dJ0_isLatin1_aae02_6 : decode cJ0_isLatin1_aae02 6 = .ok (.aload_n 0, 1) := by decide +kernel
theorem dJ0_isLatin1_aae02_7 : decode cJ0_isLatin1_aae02 7 = .ok (.getfield 15, 3) := by decide +kernel
theorem dJ0_isLatin1_aae02_10 : decode cJ0_isLatin1_aae02 10 = .ok (.ifCond .ne 7, 3) := by decide +kernel
theorem dJ0_isLatin1_aae02_13 : decode cJ0_isLatin1_aae02 13 = .ok (.iconst 1, 1) := by decide +kernel
theorem dJ0_isLatin1_aae02_14 : decode cJ0_isLatin1_aae02 14 = .ok (.goto 4, 3) := by decide +kernel
theorem dJ0_isLatin1_aae02_17 : decode cJ0_isLatin1_aae02 17 = .ok (.iconst 0, 1) := by decide +kernel
theorem dJ0_isLatin1_aae02_18 : decode cJ0_isLatin1_aae02 18 = .ok (.ireturn, 1) := by decide +kernel
theorem dJ0_checkIndex_df160_0 : decode cJ0_checkIndex_df160 0 = .ok (.iload_n 0, 1) := by decide +kernel
theorem dJ0_checkIndex_df160_1 : decode cJ0_checkIndex_df160 1 = .ok (.iload_n 1, 1) := by decide +kernel
theorem dJ0_checkIndex_df160_2 : decode cJ0_checkIndex_df160 2 = .ok (.getstatic 1053, 3) := by decide +kernel
theorem dJ0_checkIndex_df160_5 : decode cJ0_checkIndex_df160 5 = .ok (.invokestatic 1059, 3) := by decide +kernel
theorem dJ0_checkIndex_df160_8 : decode cJ0_checkIndex_df160 8 = .ok (.pop, 1) := by decide +kernel
theorem dJ0_checkIndex_df160_9 : decode cJ0_checkIndex_df160 9 = .ok (.return_, 1) := by decide +kernel
theorem dJ1_charAt_3b067_0 : decode cJ1_charAt_3b067 0 = .ok (.iload_n 1, 1) := by decide +kernel
theorem dJ1_charAt_3b067_1 : decode cJ1_charAt_3b067 1 = .ok (.aload_n 0, 1) := by decide +kernel
theorem dJ1_charAt_3b067_2 : decode cJ1_charAt_3b067 2 = .ok (.arraylength, 1) := by decide +kernel
theorem dJ1_charAt_3b067_3 : decode cJ1_charAt_3b067 3 = .ok (.invokestatic 9, 3) := by decide +kernel
theorem dJ1_charAt_3b067_6 : decode cJ1_charAt_3b067 6 = .ok (.aload_n 0, 1) := by decide +kernel
theorem dJ1_charAt_3b067_7 : decode cJ1_charAt_3b067 7 = .ok (.iload_n 1, 1) := by decide +kernel
theorem dJ1_charAt_3b067_8 : decode cJ1_charAt_3b067 8 = .ok (.baload, 1) := by decide +kernel
theorem dJ1_charAt_3b067_9 : decode cJ1_charAt_3b067 9 = .ok (.sipush 255, 3) := by decide +kernel
theorem dJ1_charAt_3b067_12 : decode cJ1_charAt_3b067 12 = .ok (.iand, 1) := by decide +kernel
theorem dJ1_charAt_3b067_13 : decode cJ1_charAt_3b067 13 = .ok (.i2c, 1) := by decide +kernel
theorem dJ1_charAt_3b067_14 : decode cJ1_charAt_3b067 14 = .ok (.ireturn, 1) := by decide +kernel
theorem dJ2_getChar_3b067_0 : decode cJ2_getChar_3b067 0 = .ok (.getstatic 44, 3) := by decide +kernel
theorem dJ2_getChar_3b067_3 : decode cJ2_getChar_3b067 3 = .ok (.ifCond .ne 25, 3) := by decide +kernel
theorem dJ2_getChar_3b067_6 : decode cJ2_getChar_3b067 6 = .ok (.iload_n 1, 1) := by decide +kernel
theorem dJ2_getChar_3b067_7 : decode cJ2_getChar_3b067 7 = .ok (.ifCond .lt 11, 3) := by decide +kernel
theorem dJ2_getChar_3b067_10 : decode cJ2_getChar_3b067 10 = .ok (.iload_n 1, 1) := by decide +kernel
theorem dJ2_getChar_3b067_11 : decode cJ2_getChar_3b067 11 = .ok (.aload_n 0, 1) := by decide +kernel
theorem dJ2_getChar_3b067_12 : decode cJ2_getChar_3b067 12 = .ok (.invokestatic 48, 3) := by decide +kernel
theorem dJ2_getChar_3b067_15 : decode cJ2_getChar_3b067 15 = .ok (.if_icmp .lt 13, 3) := by decide +kernel
theorem dJ2_getChar_3b067_18 : decode cJ2_getChar_3b067 18 = .ok (.new 52, 3) := by decide +kernel
theorem dJ2_getChar_3b067_21 : decode cJ2_getChar_3b067 21 = .ok (.dup, 1) := by decide +kernel
theorem dJ2_getChar_3b067_22 : decode cJ2_getChar_3b067 22 = .ok (.ldc 54, 2) := by decide +kernel
theorem dJ2_getChar_3b067_24 : decode cJ2_getChar_3b067 24 = .ok (.invokespecial 56, 3) := by decide +kernel
theorem dJ2_getChar_3b067_27 : decode cJ2_getChar_3b067 27 = .ok (.athrow, 1) := by decide +kernel
theorem dJ2_getChar_3b067_28 : decode cJ2_getChar_3b067 28 = .ok (.iload_n 1, 1) := by decide +kernel
theorem dJ2_getChar_3b067_29 : decode cJ2_getChar_3b067 29 = .ok (.iconst 1, 1) := by decide +kernel
theorem dJ2_getChar_3b067_30 : decode cJ2_getChar_3b067 30 = .ok (.ishl, 1) := by decide +kernel
theorem dJ2_getChar_3b067_31 : decode cJ2_getChar_3b067 31 = .ok (.istore_n 1, 1) := by decide +kernel
theorem dJ2_getChar_3b067_32 : decode cJ2_getChar_3b067 32 = .ok (.aload_n 0, 1) := by decide +kernel
theorem dJ2_getChar_3b067_33 : decode cJ2_getChar_3b067 33 = .ok (.iload_n 1, 1) := by decide +kernel
theorem dJ2_getChar_3b067_34 : decode cJ2_getChar_3b067 34 = .ok (.iinc 1 1, 3) := by decide +kernel
theorem dJ2_getChar_3b067_37 : decode cJ2_getChar_3b067 37 = .ok (.baload, 1) := by decide +kernel
theorem dJ2_getChar_3b067_38 : decode cJ2_getChar_3b067 38 = .ok (.sipush 255, 3) := by decide +kernel
theorem dJ2_getChar_3b067_41 : decode cJ2_getChar_3b067 41 = .ok (.iand, 1) := by decide +kernel
theorem dJ2_getChar_3b067_42 : decode cJ2_getChar_3b067 42 = .ok (.getstatic 59, 3) := by decide +kernel
theorem dJ2_getChar_3b067_45 : decode cJ2_getChar_3b067 45 = .ok (.ishl, 1) := by decide +kernel
theorem dJ2_getChar_3b067_46 : decode cJ2_getChar_3b067 46 = .ok (.aload_n 0, 1) := by decide +kernel
theorem dJ2_getChar_3b067_47 : decode cJ2_getChar_3b067 47 = .ok (.iload_n 1, 1) := by decide +kernel
theorem dJ2_getChar_3b067_48 : decode cJ2_getChar_3b067 48 = .ok (.baload, 1) := by decide +kernel
theorem dJ2_getChar_3b067_49 : decode cJ2_getChar_3b067 49 = .ok (.sipush 255, 3) := by decide +kernel
theorem dJ2_getChar_3b067_52 : decode cJ2_getChar_3b067 52 = .ok (.iand, 1) := by decide +kernel
theorem dJ2_getChar_3b067_53 : decode cJ2_getChar_3b067 53 = .ok (.getstatic 63, 3) := by decide +kernel
theorem dJ2_getChar_3b067_56 : decode cJ2_getChar_3b067 56 = .ok (.ishl, 1) := by decide +kernel
theorem dJ2_getChar_3b067_57 : decode cJ2_getChar_3b067 57 = .ok (.ior, 1) := by decide +kernel
theorem dJ2_getChar_3b067_58 : decode cJ2_getChar_3b067 58 = .ok (.i2c, 1) := by decide +kernel
theorem dJ2_getChar_3b067_59 : decode cJ2_getChar_3b067 59 = .ok (.ireturn, 1) := by decide +kernel
theorem dJ2_length_9d52b_0 : decode cJ2_length_9d52b 0 = .ok (.aload_n 0, 1) := by decide +kernel
theorem dJ2_length_9d52b_1 : decode cJ2_length_9d52b 1 = .ok (.arraylength, 1) := by decide +kernel
theorem dJ2_length_9d52b_2 : decode cJ2_length_9d52b 2 = .ok (.iconst 1, 1) := by decide +kernel
theorem dJ2_length_9d52b_3 : decode cJ2_length_9d52b 3 = .ok (.ishr, 1) := by decide +kernel
theorem dJ2_length_9d52b_4 : decode cJ2_length_9d52b 4 = .ok (.ireturn, 1) := by decide +kernel
theorem dJ2_charAt_3b067_0 : decode cJ2_charAt_3b067 0 = .ok (.iload_n 1, 1) := by decide +kernel
theorem dJ2_charAt_3b067_1 : decode cJ2_charAt_3b067 1 = .ok (.aload_n 0, 1) := by decide +kernel
theorem dJ2_charAt_3b067_2 : decode cJ2_charAt_3b067 2 = .ok (.invokestatic 67, 3) := by decide +kernel
theorem dJ2_charAt_3b067_5 : decode cJ2_charAt_3b067 5 = .ok (.aload_n 0, 1) := by decide +kernel
theorem dJ2_charAt_3b067_6 : decode cJ2_charAt_3b067 6 = .ok (.iload_n 1, 1) := by decide +kernel
theorem dJ2_charAt_3b067_7 : decode cJ2_charAt_3b067 7 = .ok (.invokestatic 71, 3) := by decide +kernel
theorem dJ2_charAt_3b067_10 : decode cJ2_charAt_3b067 10 = .ok (.ireturn, 1) := by decide +kernel
theorem dJ2_checkIndex_2214a_0 : decode cJ2_checkIndex_2214a 0 = .ok (.iload_n 0, 1) := by decide +kernel
theorem dJ2_checkIndex_2214a_1 : decode cJ2_checkIndex_2214a 1 = .ok (.aload_n 1, 1) := by decide +kernel
theorem dJ2_checkIndex_2214a_2 : decode cJ2_checkIndex_2214a 2 = .ok (.invokestatic 48, 3) := by decide +kernel
theorem dJ2_checkIndex_2214a_5 : decode cJ2_checkIndex_2214a 5 = .ok (.invokestatic 414, 3) := by decide +kernel
theorem dJ2_checkIndex_2214a_8 : decode cJ2_checkIndex_2214a 8 = .ok (.return_, 1) := by decide +kernel
theorem dJ3_checkIndex_8e157_0 : decode cJ3_checkIndex_8e157 0 = .ok (.iload_n 0, 1) := by decide +kernel
theorem dJ3_checkIndex_8e157_1 : decode cJ3_checkIndex_8e157 1 = .ok (.ifCond .lt 8, 3) := by decide +kernel
theorem dJ3_checkIndex_8e157_4 : decode cJ3_checkIndex_8e157 4 = .ok (.iload_n 0, 1) := by decide +kernel
theorem dJ3_checkIndex_8e157_5 : decode cJ3_checkIndex_8e157 5 = .ok (.iload_n 1, 1) := by decide +kernel
theorem dJ3_checkIndex_8e157_6 : decode cJ3_checkIndex_8e157 6 = .ok (.if_icmp .lt 10, 3) := by decide +kernel
theorem dJ3_checkIndex_8e157_9 : decode cJ3_checkIndex_8e157 9 = .ok (.aload_n 2, 1) := by decide +kernel
theorem dJ3_checkIndex_8e157_10 : decode cJ3_checkIndex_8e157 10 = .ok (.iload_n 0, 1) := by decide +kernel
theorem dJ3_checkIndex_8e157_11 : decode cJ3_checkIndex_8e157 11 = .ok (.iload_n 1, 1) := by decide +kernel
theorem dJ3_checkIndex_8e157_12 : decode cJ3_checkIndex_8e157 12 = .ok (.invokestatic 95, 3) := by decide +kernel
theorem dJ3_checkIndex_8e157_15 : decode cJ3_checkIndex_8e157 15 = .ok (.athrow, 1) := by decide +kernel
theorem dJ3_checkIndex_8e157_16 : decode cJ3_checkIndex_8e157 16 = .ok (.iload_n 0, 1) := by decide +kernel
theorem dJ3_checkIndex_8e157_17 : decode cJ3_checkIndex_8e157 17 = .ok (.ireturn, 1) := by decide +kernel
theorem dJ9_abs_0f7a4_0 : decode cJ9_abs_0f7a4 0 = .ok (.iload_n 0, 1) := by decide +kernel
theorem dJ9_abs_0f7a4_1 : decode cJ9_abs_0f7a4 1 = .ok (.ifCond .ge 8, 3) := by decide +kernel
theorem dJ9_abs_0f7a4_4 : decode cJ9_abs_0f7a4 4 = .ok (.iload_n 0, 1) := by decide +kernel
theorem dJ9_abs_0f7a4_5 : decode cJ9_abs_0f7a4 5 = .ok (.ineg, 1) := by decide +kernel
theorem dJ9_abs_0f7a4_6 : decode cJ9_abs_0f7a4 6 = .ok (.goto 4, 3) := by decide +kernel
theorem dJ9_abs_0f7a4_9 : decode cJ9_abs_0f7a4 9 = .ok (.iload_n 0, 1) := by decide +kernel
theorem dJ9_abs_0f7a4_10 : decode cJ9_abs_0f7a4 10 = .ok (.ireturn, 1) := by decide +kernel
theorem dJ9_max_7cf53_0 : decode cJ9_max_7cf53 0 = .ok (.iload_n 0, 1) := by decide +kernel
theorem dJ9_max_7cf53_1 : decode cJ9_max_7cf53 1 = .ok (.iload_n 1, 1) := by decide +kernel
theorem dJ9_max_7cf53_2 : decode cJ9_max_7cf53 2 = .ok (.if_icmp .lt 7, 3) := by decide +kernel
theorem dJ9_max_7cf53_5 : decode cJ9_max_7cf53 5 = .ok (.iload_n 0, 1) := by decide +kernel
theorem dJ9_max_7cf53_6 : decode cJ9_max_7cf53 6 = .ok (.goto 4, 3) := by decide +kernel
theorem dJ9_max_7cf53_9 : decode cJ9_max_7cf53 9 = .ok (.iload_n 1, 1) := by decide +kernel
theorem dJ9_max_7cf53_10 : decode cJ9_max_7cf53 10 = .ok (.ireturn, 1) := by decide +kernel
theorem dJ9_min_7cf53_0 : decode cJ9_min_7cf53 0 = .ok (.iload_n 0, 1) := by decide +kernel
theorem dJ9_min_7cf53_1 : decode cJ9_min_7cf53 1 = .ok (.iload_n 1, 1) := by decide +kernel
theorem dJ9_min_7cf53_2 : decode cJ9_min_7cf53 2 = .ok (.if_icmp .gt 7, 3) := by decide +kernel
theorem dJ9_min_7cf53_5 : decode cJ9_min_7cf53 5 = .ok (.iload_n 0, 1) := by decide +kernel
theorem dJ9_min_7cf53_6 : decode cJ9_min_7cf53 6 = .ok (.goto 4, 3) := by decide +kernel
theorem dJ9_min_7cf53_9 : decode cJ9_min_7cf53 9 = .ok (.iload_n 1, 1) := by decide +kernel
theorem dJ9_min_7cf53_10 : decode cJ9_min_7cf53 10 = .ok (.ireturn, 1) := by decide +kernel
theorem dJ9_min_f86c9_0 : decode cJ9_min_f86c9 0 = .ok (.lload_n 0, 1) := by decide +kernel
theorem dJ9_min_f86c9_1 : decode cJ9_min_f86c9 1 = .ok (.lload_n 2, 1) := by decide +kernel
theorem dJ9_min_f86c9_2 : decode cJ9_min_f86c9 2 = .ok (.lcmp, 1) := by decide +kernel
theorem dJ9_min_f86c9_3 : decode cJ9_min_f86c9 3 = .ok (.ifCond .gt 7, 3) := by decide +kernel
theorem dJ9_min_f86c9_6 : decode cJ9_min_f86c9 6 = .ok (.lload_n 0, 1) := by decide +kernel
theorem dJ9_min_f86c9_7 : decode cJ9_min_f86c9 7 = .ok (.goto 4, 3) := by decide +kernel
theorem dJ9_min_f86c9_10 : decode cJ9_min_f86c9 10 = .ok (.lload_n 2, 1) := by decide +kernel
theorem dJ9_min_f86c9_11 : decode cJ9_min_f86c9 11 = .ok (.lreturn, 1) := by decide +kernel
