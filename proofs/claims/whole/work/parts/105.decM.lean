theorem dX9_init_0 : decode cX9_init 0 = .ok (.aload_n 0, 1) := by decide +kernel
theorem dX9_init_1 : decode cX9_init 1 = .ok (.invokespecial 1, 3) := by decide +kernel
theorem dX9_init_4 : decode cX9_init 4 = .ok (.aload_n 0, 1) := by decide +kernel
theorem dX9_init_5 : decode cX9_init 5 = .ok (.iconst (-1), 1) := by decide +kernel
theorem dX9_init_6 : decode cX9_init 6 = .ok (.putfield 9, 3) := by decide +kernel
theorem dX9_init_9 : decode cX9_init 9 = .ok (.aload_n 0, 1) := by decide +kernel
theorem dX9_init_10 : decode cX9_init 10 = .ok (.sipush 400, 3) := by decide +kernel
theorem dX9_init_13 : decode cX9_init 13 = .ok (.newarray .int, 2) := by decide +kernel
theorem dX9_init_15 : decode cX9_init 15 = .ok (.putfield 13, 3) := by decide +kernel
theorem dX9_init_18 : decode cX9_init 18 = .ok (.aload_n 0, 1) := by decide +kernel
theorem dX9_init_19 : decode cX9_init 19 = .ok (.sipush 500, 3) := by decide +kernel
theorem dX9_init_22 : decode cX9_init 22 = .ok (.newarray .int, 2) := by decide +kernel
theorem dX9_init_24 : decode cX9_init 24 = .ok (.putfield 17, 3) := by decide +kernel
theorem dX9_init_27 : decode cX9_init 27 = .ok (.aload_n 0, 1) := by decide +kernel
theorem dX9_init_28 : decode cX9_init 28 = .ok (.bipush 24, 2) := by decide +kernel
theorem dX9_init_30 : decode cX9_init 30 = .ok (.bipush 8, 2) := by decide +kernel
theorem dX9_init_32 : decode cX9_init 32 = .ok (.multianewarray 20 2, 4) := by decide +kernel
theorem dX9_init_36 : decode cX9_init 36 = .ok (.putfield 22, 3) := by decide +kernel
theorem dX9_init_39 : decode cX9_init 39 = .ok (.aload_n 0, 1) := by decide +kernel
theorem dX9_init_40 : decode cX9_init 40 = .ok (.sipush 144, 3) := by decide +kernel
theorem dX9_init_43 : decode cX9_init 43 = .ok (.bipush 8, 2) := by decide +kernel
theorem dX9_init_45 : decode cX9_init 45 = .ok (.multianewarray 20 2, 4) := by decide +kernel
theorem dX9_init_49 : decode cX9_init 49 = .ok (.putfield 25, 3) := by decide +kernel
theorem dX9_init_52 : decode cX9_init 52 = .ok (.aload_n 0, 1) := by decide +kernel
theorem dX9_init_53 : decode cX9_init 53 = .ok (.bipush 6, 2) := by decide +kernel
theorem dX9_init_55 : decode cX9_init 55 = .ok (.newarray .int, 2) := by decide +kernel
theorem dX9_init_57 : decode cX9_init 57 = .ok (.putfield 28, 3) := by decide +kernel
theorem dX9_init_60 : decode cX9_init 60 = .ok (.aload_n 0, 1) := by decide +kernel
theorem dX9_init_61 : decode cX9_init 61 = .ok (.bipush 6, 2) := by decide +kernel
theorem dX9_init_63 : decode cX9_init 63 = .ok (.newarray .int, 2) := by decide +kernel
theorem dX9_init_65 : decode cX9_init 65 = .ok (.putfield 31, 3) := by decide +kernel
theorem dX9_init_68 : decode cX9_init 68 = .ok (.aload_n 0, 1) := by decide +kernel
theorem dX9_init_69 : decode cX9_init 69 = .ok (.bipush 48, 2) := by decide +kernel
theorem dX9_init_71 : decode cX9_init 71 = .ok (.iconst 2, 1) := by decide +kernel
theorem dX9_init_72 : decode cX9_init 72 = .ok (.multianewarray 20 2, 4) := by decide +kernel
theorem dX9_init_76 : decode cX9_init 76 = .ok (.putfield 34, 3) := by decide +kernel
theorem dX9_init_79 : decode cX9_init 79 = .ok (.aload_n 0, 1) := by decide +kernel
theorem dX9_init_80 : decode cX9_init 80 = .ok (.bipush 6, 2) := by decide +kernel
theorem dX9_init_82 : decode cX9_init 82 = .ok (.iconst 5, 1) := by decide +kernel
theorem dX9_init_83 : decode cX9_init 83 = .ok (.multianewarray 20 2, 4) := by decide +kernel
theorem dX9_init_87 : decode cX9_init 87 = .ok (.putfield 37, 3) := by decide +kernel
theorem dX9_init_90 : decode cX9_init 90 = .ok (.aload_n 0, 1) := by decide +kernel
theorem dX9_init_91 : decode cX9_init 91 = .ok (.iconst 4, 1) := by decide +kernel
theorem dX9_init_92 : decode cX9_init 92 = .ok (.sipush 500, 3) := by decide +kernel
theorem dX9_init_95 : decode cX9_init 95 = .ok (.multianewarray 20 2, 4) := by decide +kernel
theorem dX9_init_99 : decode cX9_init 99 = .ok (.putfield 40, 3) := by decide +kernel
theorem dX9_init_102 : decode cX9_init 102 = .ok (.aload_n 0, 1) := by decide +kernel
theorem dX9_init_103 : decode cX9_init 103 = .ok (.bipush 64, 2) := by decide +kernel
theorem dX9_init_105 : decode cX9_init 105 = .ok (.iconst 4, 1) := by decide +kernel
theorem dX9_init_106 : decode cX9_init 106 = .ok (.multianewarray 20 2, 4) := by decide +kernel
theorem dX9_init_110 : decode cX9_init 110 = .ok (.putfield 43, 3) := by decide +kernel
theorem dX9_init_113 : decode cX9_init 113 = .ok (.aload_n 0, 1) := by decide +kernel
theorem dX9_init_114 : decode cX9_init 114 = .ok (.iconst 4, 1) := by decide +kernel
theorem dX9_init_115 : decode cX9_init 115 = .ok (.newarray .int, 2) := by decide +kernel
theorem dX9_init_117 : decode cX9_init 117 = .ok (.putfield 46, 3) := by decide +kernel
theorem dX9_init_120 : decode cX9_init 120 = .ok (.aload_n 0, 1) := by decide +kernel
theorem dX9_init_121 : decode cX9_init 121 = .ok (.iconst 4, 1) := by decide +kernel
theorem dX9_init_122 : decode cX9_init 122 = .ok (.newarray .int, 2) := by decide +kernel
theorem dX9_init_124 : decode cX9_init 124 = .ok (.dup, 1) := by decide +kernel
theorem dX9_init_125 : decode cX9_init 125 = .ok (.iconst 0, 1) := by decide +kernel
theorem dX9_init_126 : decode cX9_init 126 = .ok (.iconst 1, 1) := by decide +kernel
theorem dX9_init_127 : decode cX9_init 127 = .ok (.iastore, 1) := by decide +kernel
theorem dX9_init_128 : decode cX9_init 128 = .ok (.dup, 1) := by decide +kernel
theorem dX9_init_129 : decode cX9_init 129 = .ok (.iconst 1, 1) := by decide +kernel
theorem dX9_init_130 : decode cX9_init 130 = .ok (.iconst 1, 1) := by decide +kernel
theorem dX9_init_131 : decode cX9_init 131 = .ok (.iastore, 1) := by decide +kernel
theorem dX9_init_132 : decode cX9_init 132 = .ok (.dup, 1) := by decide +kernel
theorem dX9_init_133 : decode cX9_init 133 = .ok (.iconst 2, 1) := by decide +kernel
theorem dX9_init_134 : decode cX9_init 134 = .ok (.iconst 1, 1) := by decide +kernel
theorem dX9_init_135 : decode cX9_init 135 = .ok (.iastore, 1) := by decide +kernel
theorem dX9_init_136 : decode cX9_init 136 = .ok (.dup, 1) := by decide +kernel
theorem dX9_init_137 : decode cX9_init 137 = .ok (.iconst 3, 1) := by decide +kernel
theorem dX9_init_138 : decode cX9_init 138 = .ok (.iconst 1, 1) := by decide +kernel
theorem dX9_init_139 : decode cX9_init 139 = .ok (.iastore, 1) := by decide +kernel
theorem dX9_init_140 : decode cX9_init 140 = .ok (.putfield 49, 3) := by decide +kernel
theorem dX9_init_143 : decode cX9_init 143 = .ok (.aload_n 0, 1) := by decide +kernel
theorem dX9_init_144 : decode cX9_init 144 = .ok (.sipush 150, 3) := by decide +kernel
theorem dX9_init_147 : decode cX9_init 147 = .ok (.newarray .int, 2) := by decide +kernel
theorem dX9_init_149 : decode cX9_init 149 = .ok (.putfield 52, 3) := by decide +kernel
theorem dX9_init_152 : decode cX9_init 152 = .ok (.aload_n 0, 1) := by decide +kernel
theorem dX9_init_153 : decode cX9_init 153 = .ok (.bipush 11, 2) := by decide +kernel
theorem dX9_init_155 : decode cX9_init 155 = .ok (.newarray .int, 2) := by decide +kernel
theorem dX9_init_157 : decode cX9_init 157 = .ok (.putfield 55, 3) := by decide +kernel
theorem dX9_init_160 : decode cX9_init 160 = .ok (.aload_n 0, 1) := by decide +kernel
theorem dX9_init_161 : decode cX9_init 161 = .ok (.iconst 4, 1) := by decide +kernel
theorem dX9_init_162 : decode cX9_init 162 = .ok (.putfield 58, 3) := by decide +kernel
theorem dX9_init_165 : decode cX9_init 165 = .ok (.aload_n 0, 1) := by decide +kernel
theorem dX9_init_166 : decode cX9_init 166 = .ok (.bipush 15, 2) := by decide +kernel
theorem dX9_init_168 : decode cX9_init 168 = .ok (.bipush 8, 2) := by decide +kernel
theorem dX9_init_170 : decode cX9_init 170 = .ok (.multianewarray 20 2, 4) := by decide +kernel
theorem dX9_init_174 : decode cX9_init 174 = .ok (.putfield 61, 3) := by decide +kernel
theorem dX9_init_177 : decode cX9_init 177 = .ok (.aload_n 0, 1) := by decide +kernel
theorem dX9_init_178 : decode cX9_init 178 = .ok (.bipush 60, 2) := by decide +kernel
theorem dX9_init_180 : decode cX9_init 180 = .ok (.iconst 4, 1) := by decide +kernel
theorem dX9_init_181 : decode cX9_init 181 = .ok (.multianewarray 20 2, 4) := by decide +kernel
theorem dX9_init_185 : decode cX9_init 185 = .ok (.putfield 64, 3) := by decide +kernel
theorem dX9_init_188 : decode cX9_init 188 = .ok (.aload_n 0, 1) := by decide +kernel
theorem dX9_init_189 : decode cX9_init 189 = .ok (.bipush 40, 2) := by decide +kernel
theorem dX9_init_191 : decode cX9_init 191 = .ok (.iconst 3, 1) := by decide +kernel
theorem dX9_init_192 : decode cX9_init 192 = .ok (.multianewarray 20 2, 4) := by decide +kernel
theorem dX9_init_196 : decode cX9_init 196 = .ok (.putfield 67, 3) := by decide +kernel
theorem dX9_init_199 : decode cX9_init 199 = .ok (.aload_n 0, 1) := by decide +kernel
theorem dX9_init_200 : decode cX9_init 200 = .ok (.iconst 3, 1) := by decide +kernel
theorem dX9_init_201 : decode cX9_init 201 = .ok (.sipush 520, 3) := by decide +kernel
theorem dX9_init_204 : decode cX9_init 204 = .ok (.multianewarray 20 2, 4) := by decide +kernel
theorem dX9_init_208 : decode cX9_init 208 = .ok (.putfield 70, 3) := by decide +kernel
theorem dX9_init_211 : decode cX9_init 211 = .ok (.aload_n 0, 1) := by decide +kernel
theorem dX9_init_212 : decode cX9_init 212 = .ok (.iconst 1, 1) := by decide +kernel
theorem dX9_init_213 : decode cX9_init 213 = .ok (.putfield 73, 3) := by decide +kernel
theorem dX9_init_216 : decode cX9_init 216 = .ok (.return_, 1) := by decide +kernel
theorem dX9_thrown_0 : decode cX9_thrown 0 = .ok (.aload_n 0, 1) := by decide +kernel
theorem dX9_thrown_1 : decode cX9_thrown 1 = .ok (.getfield 76, 3) := by decide +kernel
theorem dX9_thrown_4 : decode cX9_thrown 4 = .ok (.ireturn, 1) := by decide +kernel
theorem dX9_bad_0 : decode cX9_bad 0 = .ok (.iload_n 1, 1) := by decide +kernel
theorem dX9_bad_1 : decode cX9_bad 1 = .ok (.ifCond .eq 15, 3) := by decide +kernel
theorem dX9_bad_4 : decode cX9_bad 4 = .ok (.aload_n 0, 1) := by decide +kernel
theorem dX9_bad_5 : decode cX9_bad 5 = .ok (.getfield 76, 3) := by decide +kernel
theorem dX9_bad_8 : decode cX9_bad 8 = .ok (.ifCond .ne 8, 3) := by decide +kernel
theorem dX9_bad_11 : decode cX9_bad 11 = .ok (.aload_n 0, 1) := by decide +kernel
theorem dX9_bad_12 : decode cX9_bad 12 = .ok (.iload_n 2, 1) := by decide +kernel
theorem dX9_bad_13 : decode cX9_bad 13 = .ok (.putfield 76, 3) := by decide +kernel
theorem dX9_bad_16 : decode cX9_bad 16 = .ok (.aload_n 0, 1) := by decide +kernel
theorem dX9_bad_17 : decode cX9_bad 17 = .ok (.getfield 76, 3) := by decide +kernel
theorem dX9_bad_20 : decode cX9_bad 20 = .ok (.ifCond .eq 7, 3) := by decide +kernel
theorem dX9_bad_23 : decode cX9_bad 23 = .ok (.iconst 1, 1) := by decide +kernel
theorem dX9_bad_24 : decode cX9_bad 24 = .ok (.goto 4, 3) := by decide +kernel
theorem dX9_bad_27 : decode cX9_bad 27 = .ok (.iconst 0, 1) := by decide +kernel
theorem dX9_bad_28 : decode cX9_bad 28 = .ok (.ireturn, 1) := by decide +kernel
theorem dX9_in_0 : decode cX9_in 0 = .ok (.iload_n 0, 1) := by decide +kernel
theorem dX9_in_1 : decode cX9_in 1 = .ok (.iload_n 1, 1) := by decide +kernel
theorem dX9_in_2 : decode cX9_in 2 = .ok (.if_icmp .lt 12, 3) := by decide +kernel
theorem dX9_in_5 : decode cX9_in 5 = .ok (.iload_n 0, 1) := by decide +kernel
theorem dX9_in_6 : decode cX9_in 6 = .ok (.iload_n 2, 1) := by decide +kernel
theorem dX9_in_7 : decode cX9_in 7 = .ok (.if_icmp .gt 7, 3) := by decide +kernel
theorem dX9_in_10 : decode cX9_in 10 = .ok (.iconst 1, 1) := by decide +kernel
theorem dX9_in_11 : decode cX9_in 11 = .ok (.goto 4, 3) := by decide +kernel
theorem dX9_in_14 : decode cX9_in 14 = .ok (.iconst 0, 1) := by decide +kernel
theorem dX9_in_15 : decode cX9_in 15 = .ok (.ireturn, 1) := by decide +kernel
theorem dX9_within_0 : decode cX9_within 0 = .ok (.iload_n 0, 1) := by decide +kernel
theorem dX9_within_1 : decode cX9_within 1 = .ok (.iload_n 1, 1) := by decide +kernel
theorem dX9_within_2 : decode cX9_within 2 = .ok (.if_icmp .ge 7, 3) := by decide +kernel
theorem dX9_within_5 : decode cX9_within 5 = .ok (.iload_n 1, 1) := by decide +kernel
theorem dX9_within_6 : decode cX9_within 6 = .ok (.goto 13, 3) := by decide +kernel
theorem dX9_within_9 : decode cX9_within 9 = .ok (.iload_n 0, 1) := by decide +kernel
theorem dX9_within_10 : decode cX9_within 10 = .ok (.iload_n 2, 1) := by decide +kernel
theorem dX9_within_11 : decode cX9_within 11 = .ok (.if_icmp .le 7, 3) := by decide +kernel
theorem dX9_within_14 : decode cX9_within 14 = .ok (.iload_n 2, 1) := by decide +kernel
theorem dX9_within_15 : decode cX9_within 15 = .ok (.goto 4, 3) := by decide +kernel
theorem dX9_within_18 : decode cX9_within 18 = .ok (.iload_n 0, 1) := by decide +kernel
theorem dX9_within_19 : decode cX9_within 19 = .ok (.ireturn, 1) := by decide +kernel
theorem dX9_more_0 : decode cX9_more 0 = .ok (.iload_n 0, 1) := by decide +kernel
theorem dX9_more_1 : decode cX9_more 1 = .ok (.iload_n 1, 1) := by decide +kernel
theorem dX9_more_2 : decode cX9_more 2 = .ok (.if_icmp .le 7, 3) := by decide +kernel
theorem dX9_more_5 : decode cX9_more 5 = .ok (.iload_n 0, 1) := by decide +kernel
theorem dX9_more_6 : decode cX9_more 6 = .ok (.goto 4, 3) := by decide +kernel
theorem dX9_more_9 : decode cX9_more 9 = .ok (.iload_n 1, 1) := by decide +kernel
theorem dX9_more_10 : decode cX9_more 10 = .ok (.ireturn, 1) := by decide +kernel
theorem dX9_less_0 : decode cX9_less 0 = .ok (.iload_n 0, 1) := by decide +kernel
theorem dX9_less_1 : decode cX9_less 1 = .ok (.iload_n 1, 1) := by decide +kernel
theorem dX9_less_2 : decode cX9_less 2 = .ok (.if_icmp .ge 7, 3) := by decide +kernel
theorem dX9_less_5 : decode cX9_less 5 = .ok (.iload_n 0, 1) := by decide +kernel
theorem dX9_less_6 : decode cX9_less 6 = .ok (.goto 4, 3) := by decide +kernel
theorem dX9_less_9 : decode cX9_less 9 = .ok (.iload_n 1, 1) := by decide +kernel
theorem dX9_less_10 : decode cX9_less 10 = .ok (.ireturn, 1) := by decide +kernel
theorem dX9_amount_0 : decode cX9_amount 0 = .ok (.iload_n 0, 1) := by decide +kernel
theorem dX9_amount_1 : decode cX9_amount 1 = .ok (.ifCond .ge 8, 3) := by decide +kernel
theorem dX9_amount_4 : decode cX9_amount 4 = .ok (.iload_n 0, 1) := by decide +kernel
theorem dX9_amount_5 : decode cX9_amount 5 = .ok (.ineg, 1) := by decide +kernel
theorem dX9_amount_6 : decode cX9_amount 6 = .ok (.goto 4, 3) := by decide +kernel
theorem dX9_amount_9 : decode cX9_amount 9 = .ok (.iload_n 0, 1) := by decide +kernel
theorem dX9_amount_10 : decode cX9_amount 10 = .ok (.ireturn, 1) := by decide +kernel
theorem dX9_feed_0 : decode cX9_feed 0 = .ok (.aload_n 0, 1) := by decide +kernel
theorem dX9_feed_1 : decode cX9_feed 1 = .ok (.iconst 0, 1) := by decide +kernel
theorem dX9_feed_2 : decode cX9_feed 2 = .ok (.putfield 76, 3) := by decide +kernel
theorem dX9_feed_5 : decode cX9_feed 5 = .ok (.aload_n 0, 1) := by decide +kernel
theorem dX9_feed_6 : decode cX9_feed 6 = .ok (.getfield 79, 3) := by decide +kernel
theorem dX9_feed_9 : decode cX9_feed 9 = .ok (.bipush 20, 2) := by decide +kernel
theorem dX9_feed_11 : decode cX9_feed 11 = .ok (.iadd, 1) := by decide +kernel
theorem dX9_feed_12 : decode cX9_feed 12 = .ok (.sipush 400, 3) := by decide +kernel
theorem dX9_feed_15 : decode cX9_feed 15 = .ok (.if_icmp .le 5, 3) := by decide +kernel
theorem dX9_feed_18 : decode cX9_feed 18 = .ok (.iconst (-1), 1) := by decide +kernel
theorem dX9_feed_19 : decode cX9_feed 19 = .ok (.ireturn, 1) := by decide +kernel
theorem dX9_feed_20 : decode cX9_feed 20 = .ok (.iconst 0, 1) := by decide +kernel
theorem dX9_feed_21 : decode cX9_feed 21 = .ok (.istore 6, 2) := by decide +kernel
theorem dX9_feed_23 : decode cX9_feed 23 = .ok (.iload 6, 2) := by decide +kernel
theorem dX9_feed_25 : decode cX9_feed 25 = .ok (.bipush 20, 2) := by decide +kernel
theorem dX9_feed_27 : decode cX9_feed 27 = .ok (.if_icmp .ge 93, 3) := by decide +kernel
theorem dX9_feed_30 : decode cX9_feed 30 = .ok (.iload 6, 2) := by decide +kernel
theorem dX9_feed_32 : decode cX9_feed 32 = .ok (.iconst 4, 1) := by decide +kernel
theorem dX9_feed_33 : decode cX9_feed 33 = .ok (.if_icmp .ge 7, 3) := by decide +kernel
theorem dX9_feed_36 : decode cX9_feed 36 = .ok (.iload_n 1, 1) := by decide +kernel
theorem dX9_feed_37 : decode cX9_feed 37 = .ok (.goto 39, 3) := by decide +kernel
theorem dX9_feed_40 : decode cX9_feed 40 = .ok (.iload 6, 2) := by decide +kernel
theorem dX9_feed_42 : decode cX9_feed 42 = .ok (.bipush 8, 2) := by decide +kernel
theorem dX9_feed_44 : decode cX9_feed 44 = .ok (.if_icmp .ge 7, 3) := by decide +kernel
theorem dX9_feed_47 : decode cX9_feed 47 = .ok (.iload_n 2, 1) := by decide +kernel
theorem dX9_feed_48 : decode cX9_feed 48 = .ok (.goto 28, 3) := by decide +kernel
theorem dX9_feed_51 : decode cX9_feed 51 = .ok (.iload 6, 2) := by decide +kernel
theorem dX9_feed_53 : decode cX9_feed 53 = .ok (.bipush 12, 2) := by decide +kernel
theorem dX9_feed_55 : decode cX9_feed 55 = .ok (.if_icmp .ge 7, 3) := by decide +kernel
theorem dX9_feed_58 : decode cX9_feed 58 = .ok (.iload_n 3, 1) := by decide +kernel
theorem dX9_feed_59 : decode cX9_feed 59 = .ok (.goto 17, 3) := by decide +kernel
theorem dX9_feed_62 : decode cX9_feed 62 = .ok (.iload 6, 2) := by decide +kernel
theorem dX9_feed_64 : decode cX9_feed 64 = .ok (.bipush 16, 2) := by decide +kernel
theorem dX9_feed_66 : decode cX9_feed 66 = .ok (.if_icmp .ge 8, 3) := by decide +kernel
theorem dX9_feed_69 : decode cX9_feed 69 = .ok (.iload 4, 2) := by decide +kernel
theorem dX9_feed_71 : decode cX9_feed 71 = .ok (.goto 5, 3) := by decide +kernel
theorem dX9_feed_74 : decode cX9_feed 74 = .ok (.iload 5, 2) := by decide +kernel
theorem dX9_feed_76 : decode cX9_feed 76 = .ok (.istore 7, 2) := by decide +kernel
theorem dX9_feed_78 : decode cX9_feed 78 = .ok (.aload_n 0, 1) := by decide +kernel
theorem dX9_feed_79 : decode cX9_feed 79 = .ok (.getfield 13, 3) := by decide +kernel
theorem dX9_feed_82 : decode cX9_feed 82 = .ok (.aload_n 0, 1) := by decide +kernel
theorem dX9_feed_83 : decode cX9_feed 83 = .ok (.getfield 79, 3) := by decide +kernel
theorem dX9_feed_86 : decode cX9_feed 86 = .ok (.iload 7, 2) := by decide +kernel
theorem dX9_feed_88 : decode cX9_feed 88 = .ok (.bipush 24, 2) := by decide +kernel
theorem dX9_feed_90 : decode cX9_feed 90 = .ok (.bipush 8, 2) := by decide +kernel
theorem dX9_feed_92 : decode cX9_feed 92 = .ok (.iload 6, 2) := by decide +kernel
theorem dX9_feed_94 : decode cX9_feed 94 = .ok (.iconst 4, 1) := by decide +kernel
theorem dX9_feed_95 : decode cX9_feed 95 = .ok (.irem, 1) := by decide +kernel
theorem dX9_feed_96 : decode cX9_feed 96 = .ok (.imul, 1) := by decide +kernel
theorem dX9_feed_97 : decode cX9_feed 97 = .ok (.isub, 1) := by decide +kernel
theorem dX9_feed_98 : decode cX9_feed 98 = .ok (.ishr, 1) := by decide +kernel
theorem dX9_feed_99 : decode cX9_feed 99 = .ok (.sipush 255, 3) := by decide +kernel
theorem dX9_feed_102 : decode cX9_feed 102 = .ok (.iand, 1) := by decide +kernel
theorem dX9_feed_103 : decode cX9_feed 103 = .ok (.iastore, 1) := by decide +kernel
theorem dX9_feed_104 : decode cX9_feed 104 = .ok (.aload_n 0, 1) := by decide +kernel
theorem dX9_feed_105 : decode cX9_feed 105 = .ok (.dup, 1) := by decide +kernel
theorem dX9_feed_106 : decode cX9_feed 106 = .ok (.getfield 79, 3) := by decide +kernel
theorem dX9_feed_109 : decode cX9_feed 109 = .ok (.iconst 1, 1) := by decide +kernel
theorem dX9_feed_110 : decode cX9_feed 110 = .ok (.iadd, 1) := by decide +kernel
theorem dX9_feed_111 : decode cX9_feed 111 = .ok (.putfield 79, 3) := by decide +kernel
theorem dX9_feed_114 : decode cX9_feed 114 = .ok (.iinc 6 1, 3) := by decide +kernel
theorem dX9_feed_117 : decode cX9_feed 117 = .ok (.goto (-94), 3) := by decide +kernel
theorem dX9_feed_120 : decode cX9_feed 120 = .ok (.aload_n 0, 1) := by decide +kernel
theorem dX9_feed_121 : decode cX9_feed 121 = .ok (.getfield 79, 3) := by decide +kernel
theorem dX9_feed_124 : decode cX9_feed 124 = .ok (.ireturn, 1) := by decide +kernel
theorem dX9_byteAt_0 : decode cX9_byteAt 0 = .ok (.iload_n 1, 1) := by decide +kernel
theorem dX9_byteAt_1 : decode cX9_byteAt 1 = .ok (.aload_n 0, 1) := by decide +kernel
theorem dX9_byteAt_2 : decode cX9_byteAt 2 = .ok (.getfield 82, 3) := by decide +kernel
theorem dX9_byteAt_5 : decode cX9_byteAt 5 = .ok (.if_icmp .lt 7, 3) := by decide +kernel
theorem dX9_byteAt_8 : decode cX9_byteAt 8 = .ok (.iconst (-1), 1) := by decide +kernel
theorem dX9_byteAt_9 : decode cX9_byteAt 9 = .ok (.goto 9, 3) := by decide +kernel
theorem dX9_byteAt_12 : decode cX9_byteAt 12 = .ok (.aload_n 0, 1) := by decide +kernel
theorem dX9_byteAt_13 : decode cX9_byteAt 13 = .ok (.getfield 13, 3) := by decide +kernel
theorem dX9_byteAt_16 : decode cX9_byteAt 16 = .ok (.iload_n 1, 1) := by decide +kernel
theorem dX9_byteAt_17 : decode cX9_byteAt 17 = .ok (.iaload, 1) := by decide +kernel
theorem dX9_byteAt_18 : decode cX9_byteAt 18 = .ok (.ireturn, 1) := by decide +kernel
theorem dX9_blanks_0 : decode cX9_blanks 0 = .ok (.aload_n 0, 1) := by decide +kernel
theorem dX9_blanks_1 : decode cX9_blanks 1 = .ok (.aload_n 0, 1) := by decide +kernel
theorem dX9_blanks_2 : decode cX9_blanks 2 = .ok (.getfield 85, 3) := by decide +kernel
theorem dX9_blanks_5 : decode cX9_blanks 5 = .ok (.invokevirtual 88, 3) := by decide +kernel
theorem dX9_blanks_8 : decode cX9_blanks 8 = .ok (.bipush 32, 2) := by decide +kernel
theorem dX9_blanks_10 : decode cX9_blanks 10 = .ok (.if_icmp .ne 16, 3) := by decide +kernel
theorem dX9_blanks_13 : decode cX9_blanks 13 = .ok (.aload_n 0, 1) := by decide +kernel
theorem dX9_blanks_14 : decode cX9_blanks 14 = .ok (.dup, 1) := by decide +kernel
theorem dX9_blanks_15 : decode cX9_blanks 15 = .ok (.getfield 85, 3) := by decide +kernel
theorem dX9_blanks_18 : decode cX9_blanks 18 = .ok (.iconst 1, 1) := by decide +kernel
theorem dX9_blanks_19 : decode cX9_blanks 19 = .ok (.iadd, 1) := by decide +kernel
theorem dX9_blanks_20 : decode cX9_blanks 20 = .ok (.putfield 85, 3) := by decide +kernel
theorem dX9_blanks_23 : decode cX9_blanks 23 = .ok (.goto (-23), 3) := by decide +kernel
theorem dX9_blanks_26 : decode cX9_blanks 26 = .ok (.return_, 1) := by decide +kernel
theorem dX9_wrongAt_0 : decode cX9_wrongAt 0 = .ok (.aload_n 0, 1) := by decide +kernel
theorem dX9_wrongAt_1 : decode cX9_wrongAt 1 = .ok (.getfield 92, 3) := by decide +kernel
theorem dX9_wrongAt_4 : decode cX9_wrongAt 4 = .ok (.ifCond .ne 13, 3) := by decide +kernel
theorem dX9_wrongAt_7 : decode cX9_wrongAt 7 = .ok (.aload_n 0, 1) := by decide +kernel
theorem dX9_wrongAt_8 : decode cX9_wrongAt 8 = .ok (.iload_n 1, 1) := by decide +kernel
theorem dX9_wrongAt_9 : decode cX9_wrongAt 9 = .ok (.putfield 92, 3) := by decide +kernel
theorem dX9_wrongAt_12 : decode cX9_wrongAt 12 = .ok (.aload_n 0, 1) := by decide +kernel
theorem dX9_wrongAt_13 : decode cX9_wrongAt 13 = .ok (.iload_n 2, 1) := by decide +kernel
theorem dX9_wrongAt_14 : decode cX9_wrongAt 14 = .ok (.putfield 95, 3) := by decide +kernel
theorem dX9_wrongAt_17 : decode cX9_wrongAt 17 = .ok (.return_, 1) := by decide +kernel
theorem dX9_tells_0 : decode cX9_tells 0 = .ok (.aload_n 0, 1) := by decide +kernel
theorem dX9_tells_1 : decode cX9_tells 1 = .ok (.getfield 92, 3) := by decide +kernel
theorem dX9_tells_4 : decode cX9_tells 4 = .ok (.ifCond .eq 4, 3) := by decide +kernel
theorem dX9_tells_7 : decode cX9_tells 7 = .ok (.return_, 1) := by decide +kernel
theorem dX9_tells_8 : decode cX9_tells 8 = .ok (.aload_n 0, 1) := by decide +kernel
theorem dX9_tells_9 : decode cX9_tells 9 = .ok (.getfield 17, 3) := by decide +kernel
theorem dX9_tells_12 : decode cX9_tells 12 = .ok (.aload_n 0, 1) := by decide +kernel
theorem dX9_tells_13 : decode cX9_tells 13 = .ok (.getfield 98, 3) := by decide +kernel
theorem dX9_tells_16 : decode cX9_tells 16 = .ok (.iload_n 1, 1) := by decide +kernel
theorem dX9_tells_17 : decode cX9_tells 17 = .ok (.iastore, 1) := by decide +kernel
theorem dX9_tells_18 : decode cX9_tells 18 = .ok (.aload_n 0, 1) := by decide +kernel
theorem dX9_tells_19 : decode cX9_tells 19 = .ok (.dup, 1) := by decide +kernel
theorem dX9_tells_20 : decode cX9_tells 20 = .ok (.getfield 98, 3) := by decide +kernel
theorem dX9_tells_23 : decode cX9_tells 23 = .ok (.iconst 1, 1) := by decide +kernel
theorem dX9_tells_24 : decode cX9_tells 24 = .ok (.iadd, 1) := by decide +kernel
theorem dX9_tells_25 : decode cX9_tells 25 = .ok (.putfield 98, 3) := by decide +kernel
theorem dX9_tells_28 : decode cX9_tells 28 = .ok (.return_, 1) := by decide +kernel
theorem dX9_isDigit_0 : decode cX9_isDigit 0 = .ok (.iload_n 0, 1) := by decide +kernel
theorem dX9_isDigit_1 : decode cX9_isDigit 1 = .ok (.bipush 48, 2) := by decide +kernel
theorem dX9_isDigit_3 : decode cX9_isDigit 3 = .ok (.if_icmp .lt 13, 3) := by decide +kernel
theorem dX9_isDigit_6 : decode cX9_isDigit 6 = .ok (.iload_n 0, 1) := by decide +kernel
theorem dX9_isDigit_7 : decode cX9_isDigit 7 = .ok (.bipush 57, 2) := by decide +kernel
theorem dX9_isDigit_9 : decode cX9_isDigit 9 = .ok (.if_icmp .gt 7, 3) := by decide +kernel
theorem dX9_isDigit_12 : decode cX9_isDigit 12 = .ok (.iconst 1, 1) := by decide +kernel
theorem dX9_isDigit_13 : decode cX9_isDigit 13 = .ok (.goto 4, 3) := by decide +kernel
theorem dX9_isDigit_16 : decode cX9_isDigit 16 = .ok (.iconst 0, 1) := by decide +kernel
theorem dX9_isDigit_17 : decode cX9_isDigit 17 = .ok (.ireturn, 1) := by decide +kernel
theorem dX9_number_0 : decode cX9_number 0 = .ok (.aload_n 0, 1) := by decide +kernel
theorem dX9_number_1 : decode cX9_number 1 = .ok (.getfield 92, 3) := by decide +kernel
theorem dX9_number_4 : decode cX9_number 4 = .ok (.ifCond .eq 5, 3) := by decide +kernel
theorem dX9_number_7 : decode cX9_number 7 = .ok (.iconst 0, 1) := by decide +kernel
theorem dX9_number_8 : decode cX9_number 8 = .ok (.ireturn, 1) := by decide +kernel
theorem dX9_number_9 : decode cX9_number 9 = .ok (.aload_n 0, 1) := by decide +kernel
theorem dX9_number_10 : decode cX9_number 10 = .ok (.invokevirtual 101, 3) := by decide +kernel
theorem dX9_number_13 : decode cX9_number 13 = .ok (.aload_n 0, 1) := by decide +kernel
theorem dX9_number_14 : decode cX9_number 14 = .ok (.getfield 85, 3) := by decide +kernel
theorem dX9_number_17 : decode cX9_number 17 = .ok (.istore 4, 2) := by decide +kernel
theorem dX9_number_19 : decode cX9_number 19 = .ok (.iconst 0, 1) := by decide +kernel
theorem dX9_number_20 : decode cX9_number 20 = .ok (.istore 5, 2) := by decide +kernel
theorem dX9_number_22 : decode cX9_number 22 = .ok (.aload_n 0, 1) := by decide +kernel
theorem dX9_number_23 : decode cX9_number 23 = .ok (.aload_n 0, 1) := by decide +kernel
theorem dX9_number_24 : decode cX9_number 24 = .ok (.getfield 85, 3) := by decide +kernel
theorem dX9_number_27 : decode cX9_number 27 = .ok (.invokevirtual 88, 3) := by decide +kernel
theorem dX9_number_30 : decode cX9_number 30 = .ok (.invokestatic 104, 3) := by decide +kernel
theorem dX9_number_33 : decode cX9_number 33 = .ok (.ifCond .ne 12, 3) := by decide +kernel
theorem dX9_number_36 : decode cX9_number 36 = .ok (.aload_n 0, 1) := by decide +kernel
theorem dX9_number_37 : decode cX9_number 37 = .ok (.iconst 1, 1) := by decide +kernel
theorem dX9_number_38 : decode cX9_number 38 = .ok (.aload_n 0, 1) := by decide +kernel
theorem dX9_number_39 : decode cX9_number 39 = .ok (.getfield 85, 3) := by decide +kernel
theorem dX9_number_42 : decode cX9_number 42 = .ok (.invokevirtual 108, 3) := by decide +kernel
theorem dX9_number_45 : decode cX9_number 45 = .ok (.aload_n 0, 1) := by decide +kernel
theorem dX9_number_46 : decode cX9_number 46 = .ok (.aload_n 0, 1) := by decide +kernel
theorem dX9_number_47 : decode cX9_number 47 = .ok (.getfield 85, 3) := by decide +kernel
theorem dX9_number_50 : decode cX9_number 50 = .ok (.invokevirtual 88, 3) := by decide +kernel
theorem dX9_number_53 : decode cX9_number 53 = .ok (.invokestatic 104, 3) := by decide +kernel
theorem dX9_number_56 : decode cX9_number 56 = .ok (.ifCond .eq 51, 3) := by decide +kernel
theorem dX9_number_59 : decode cX9_number 59 = .ok (.bipush 10, 2) := by decide +kernel
theorem dX9_number_61 : decode cX9_number 61 = .ok (.iload 5, 2) := by decide +kernel
theorem dX9_number_63 : decode cX9_number 63 = .ok (.imul, 1) := by decide +kernel
theorem dX9_number_64 : decode cX9_number 64 = .ok (.aload_n 0, 1) := by decide +kernel
theorem dX9_number_65 : decode cX9_number 65 = .ok (.aload_n 0, 1) := by decide +kernel
theorem dX9_number_66 : decode cX9_number 66 = .ok (.getfield 85, 3) := by decide +kernel
theorem dX9_number_69 : decode cX9_number 69 = .ok (.invokevirtual 88, 3) := by decide +kernel
theorem dX9_number_72 : decode cX9_number 72 = .ok (.iadd, 1) := by decide +kernel
theorem dX9_number_73 : decode cX9_number 73 = .ok (.bipush 48, 2) := by decide +kernel
theorem dX9_number_75 : decode cX9_number 75 = .ok (.isub, 1) := by decide +kernel
theorem dX9_number_76 : decode cX9_number 76 = .ok (.istore 5, 2) := by decide +kernel
theorem dX9_number_78 : decode cX9_number 78 = .ok (.iload 5, 2) := by decide +kernel
theorem dX9_number_80 : decode cX9_number 80 = .ok (.ldc 112, 2) := by decide +kernel
theorem dX9_number_82 : decode cX9_number 82 = .ok (.if_icmp .le 8, 3) := by decide +kernel
theorem dX9_number_85 : decode cX9_number 85 = .ok (.ldc 112, 2) := by decide +kernel
theorem dX9_number_87 : decode cX9_number 87 = .ok (.goto 5, 3) := by decide +kernel
theorem dX9_number_90 : decode cX9_number 90 = .ok (.iload 5, 2) := by decide +kernel
theorem dX9_number_92 : decode cX9_number 92 = .ok (.istore 5, 2) := by decide +kernel
theorem dX9_number_94 : decode cX9_number 94 = .ok (.aload_n 0, 1) := by decide +kernel
theorem dX9_number_95 : decode cX9_number 95 = .ok (.dup, 1) := by decide +kernel
theorem dX9_number_96 : decode cX9_number 96 = .ok (.getfield 85, 3) := by decide +kernel
theorem dX9_number_99 : decode cX9_number 99 = .ok (.iconst 1, 1) := by decide +kernel
theorem dX9_number_100 : decode cX9_number 100 = .ok (.iadd, 1) := by decide +kernel
theorem dX9_number_101 : decode cX9_number 101 = .ok (.putfield 85, 3) := by decide +kernel
theorem dX9_number_104 : decode cX9_number 104 = .ok (.goto (-59), 3) := by decide +kernel
theorem dX9_number_107 : decode cX9_number 107 = .ok (.iload 5, 2) := by decide +kernel
theorem dX9_number_109 : decode cX9_number 109 = .ok (.iload_n 1, 1) := by decide +kernel
theorem dX9_number_110 : decode cX9_number 110 = .ok (.iload_n 2, 1) := by decide +kernel
theorem dX9_number_111 : decode cX9_number 111 = .ok (.invokestatic 113, 3) := by decide +kernel
theorem dX9_number_114 : decode cX9_number 114 = .ok (.ifCond .eq 9, 3) := by decide +kernel
theorem dX9_number_117 : decode cX9_number 117 = .ok (.iload 5, 2) := by decide +kernel
theorem dX9_number_119 : decode cX9_number 119 = .ok (.iload_n 3, 1) := by decide +kernel
theorem dX9_number_120 : decode cX9_number 120 = .ok (.if_icmp .ne 10, 3) := by decide +kernel
theorem dX9_number_123 : decode cX9_number 123 = .ok (.aload_n 0, 1) := by decide +kernel
theorem dX9_number_124 : decode cX9_number 124 = .ok (.iconst 2, 1) := by decide +kernel
theorem dX9_number_125 : decode cX9_number 125 = .ok (.iload 4, 2) := by decide +kernel
theorem dX9_number_127 : decode cX9_number 127 = .ok (.invokevirtual 108, 3) := by decide +kernel
theorem dX9_number_130 : decode cX9_number 130 = .ok (.iload 5, 2) := by decide +kernel
theorem dX9_number_132 : decode cX9_number 132 = .ok (.ireturn, 1) := by decide +kernel
theorem dX9_wordHere_0 : decode cX9_wordHere 0 = .ok (.aload_n 0, 1) := by decide +kernel
theorem dX9_wordHere_1 : decode cX9_wordHere 1 = .ok (.invokevirtual 101, 3) := by decide +kernel
theorem dX9_wordHere_4 : decode cX9_wordHere 4 = .ok (.iconst 0, 1) := by decide +kernel
theorem dX9_wordHere_5 : decode cX9_wordHere 5 = .ok (.istore_n 1, 1) := by decide +kernel
theorem dX9_wordHere_6 : decode cX9_wordHere 6 = .ok (.iconst 0, 1) := by decide +kernel
theorem dX9_wordHere_7 : decode cX9_wordHere 7 = .ok (.istore_n 2, 1) := by decide +kernel
theorem dX9_wordHere_8 : decode cX9_wordHere 8 = .ok (.aload_n 0, 1) := by decide +kernel
theorem dX9_wordHere_9 : decode cX9_wordHere 9 = .ok (.aload_n 0, 1) := by decide +kernel
theorem dX9_wordHere_10 : decode cX9_wordHere 10 = .ok (.getfield 85, 3) := by decide +kernel
theorem dX9_wordHere_13 : decode cX9_wordHere 13 = .ok (.iload_n 2, 1) := by decide +kernel
theorem dX9_wordHere_14 : decode cX9_wordHere 14 = .ok (.iadd, 1) := by decide +kernel
theorem dX9_wordHere_15 : decode cX9_wordHere 15 = .ok (.invokevirtual 88, 3) := by decide +kernel
theorem dX9_wordHere_18 : decode cX9_wordHere 18 = .ok (.bipush 97, 2) := by decide +kernel
theorem dX9_wordHere_20 : decode cX9_wordHere 20 = .ok (.if_icmp .lt 55, 3) := by decide +kernel
theorem dX9_wordHere_23 : decode cX9_wordHere 23 = .ok (.aload_n 0, 1) := by decide +kernel
theorem dX9_wordHere_24 : decode cX9_wordHere 24 = .ok (.aload_n 0, 1) := by decide +kernel
theorem dX9_wordHere_25 : decode cX9_wordHere 25 = .ok (.getfield 85, 3) := by decide +kernel
theorem dX9_wordHere_28 : decode cX9_wordHere 28 = .ok (.iload_n 2, 1) := by decide +kernel
theorem dX9_wordHere_29 : decode cX9_wordHere 29 = .ok (.iadd, 1) := by decide +kernel
theorem dX9_wordHere_30 : decode cX9_wordHere 30 = .ok (.invokevirtual 88, 3) := by decide +kernel
theorem dX9_wordHere_33 : decode cX9_wordHere 33 = .ok (.bipush 122, 2) := by decide +kernel
theorem dX9_wordHere_35 : decode cX9_wordHere 35 = .ok (.if_icmp .gt 40, 3) := by decide +kernel
theorem dX9_wordHere_38 : decode cX9_wordHere 38 = .ok (.iload_n 2, 1) := by decide +kernel
theorem dX9_wordHere_39 : decode cX9_wordHere 39 = .ok (.bipush 6, 2) := by decide +kernel
theorem dX9_wordHere_41 : decode cX9_wordHere 41 = .ok (.if_icmp .ge 26, 3) := by decide +kernel
theorem dX9_wordHere_44 : decode cX9_wordHere 44 = .ok (.bipush 27, 2) := by decide +kernel
theorem dX9_wordHere_46 : decode cX9_wordHere 46 = .ok (.iload_n 1, 1) := by decide +kernel
theorem dX9_wordHere_47 : decode cX9_wordHere 47 = .ok (.imul, 1) := by decide +kernel
theorem dX9_wordHere_48 : decode cX9_wordHere 48 = .ok (.aload_n 0, 1) := by decide +kernel
theorem dX9_wordHere_49 : decode cX9_wordHere 49 = .ok (.aload_n 0, 1) := by decide +kernel
theorem dX9_wordHere_50 : decode cX9_wordHere 50 = .ok (.getfield 85, 3) := by decide +kernel
theorem dX9_wordHere_53 : decode cX9_wordHere 53 = .ok (.iload_n 2, 1) := by decide +kernel
theorem dX9_wordHere_54 : decode cX9_wordHere 54 = .ok (.iadd, 1) := by decide +kernel
theorem dX9_wordHere_55 : decode cX9_wordHere 55 = .ok (.invokevirtual 88, 3) := by decide +kernel
theorem dX9_wordHere_58 : decode cX9_wordHere 58 = .ok (.iadd, 1) := by decide +kernel
theorem dX9_wordHere_59 : decode cX9_wordHere 59 = .ok (.bipush 97, 2) := by decide +kernel
theorem dX9_wordHere_61 : decode cX9_wordHere 61 = .ok (.isub, 1) := by decide +kernel
theorem dX9_wordHere_62 : decode cX9_wordHere 62 = .ok (.iconst 1, 1) := by decide +kernel
theorem dX9_wordHere_63 : decode cX9_wordHere 63 = .ok (.iadd, 1) := by decide +kernel
theorem dX9_wordHere_64 : decode cX9_wordHere 64 = .ok (.goto 4, 3) := by decide +kernel
theorem dX9_wordHere_67 : decode cX9_wordHere 67 = .ok (.iload_n 1, 1) := by decide +kernel
theorem dX9_wordHere_68 : decode cX9_wordHere 68 = .ok (.istore_n 1, 1) := by decide +kernel
theorem dX9_wordHere_69 : decode cX9_wordHere 69 = .ok (.iinc 2 1, 3) := by decide +kernel
theorem dX9_wordHere_72 : decode cX9_wordHere 72 = .ok (.goto (-64), 3) := by decide +kernel
theorem dX9_wordHere_75 : decode cX9_wordHere 75 = .ok (.iload_n 2, 1) := by decide +kernel
theorem dX9_wordHere_76 : decode cX9_wordHere 76 = .ok (.bipush 6, 2) := by decide +kernel
theorem dX9_wordHere_78 : decode cX9_wordHere 78 = .ok (.if_icmp .le 7, 3) := by decide +kernel
theorem dX9_wordHere_81 : decode cX9_wordHere 81 = .ok (.iconst (-1), 1) := by decide +kernel
theorem dX9_wordHere_82 : decode cX9_wordHere 82 = .ok (.goto 4, 3) := by decide +kernel
theorem dX9_wordHere_85 : decode cX9_wordHere 85 = .ok (.iload_n 1, 1) := by decide +kernel
theorem dX9_wordHere_86 : decode cX9_wordHere 86 = .ok (.ireturn, 1) := by decide +kernel
theorem dX9_word_0 : decode cX9_word 0 = .ok (.bipush 27, 2) := by decide +kernel
theorem dX9_word_2 : decode cX9_word 2 = .ok (.iload_n 0, 1) := by decide +kernel
theorem dX9_word_3 : decode cX9_word 3 = .ok (.imul, 1) := by decide +kernel
theorem dX9_word_4 : decode cX9_word 4 = .ok (.iload_n 1, 1) := by decide +kernel
theorem dX9_word_5 : decode cX9_word 5 = .ok (.iadd, 1) := by decide +kernel
theorem dX9_word_6 : decode cX9_word 6 = .ok (.istore 6, 2) := by decide +kernel
theorem dX9_word_8 : decode cX9_word 8 = .ok (.iload_n 2, 1) := by decide +kernel
theorem dX9_word_9 : decode cX9_word 9 = .ok (.ifCond .ne 8, 3) := by decide +kernel
theorem dX9_word_12 : decode cX9_word 12 = .ok (.iload 6, 2) := by decide +kernel
theorem dX9_word_14 : decode cX9_word 14 = .ok (.goto 10, 3) := by decide +kernel
theorem dX9_word_17 : decode cX9_word 17 = .ok (.bipush 27, 2) := by decide +kernel
theorem dX9_word_19 : decode cX9_word 19 = .ok (.iload 6, 2) := by decide +kernel
theorem dX9_word_21 : decode cX9_word 21 = .ok (.imul, 1) := by decide +kernel
theorem dX9_word_22 : decode cX9_word 22 = .ok (.iload_n 2, 1) := by decide +kernel
theorem dX9_word_23 : decode cX9_word 23 = .ok (.iadd, 1) := by decide +kernel
theorem dX9_word_24 : decode cX9_word 24 = .ok (.istore 6, 2) := by decide +kernel
theorem dX9_word_26 : decode cX9_word 26 = .ok (.iload_n 3, 1) := by decide +kernel
theorem dX9_word_27 : decode cX9_word 27 = .ok (.ifCond .ne 8, 3) := by decide +kernel
theorem dX9_word_30 : decode cX9_word 30 = .ok (.iload 6, 2) := by decide +kernel
theorem dX9_word_32 : decode cX9_word 32 = .ok (.goto 10, 3) := by decide +kernel
theorem dX9_word_35 : decode cX9_word 35 = .ok (.bipush 27, 2) := by decide +kernel
theorem dX9_word_37 : decode cX9_word 37 = .ok (.iload 6, 2) := by decide +kernel
theorem dX9_word_39 : decode cX9_word 39 = .ok (.imul, 1) := by decide +kernel
theorem dX9_word_40 : decode cX9_word 40 = .ok (.iload_n 3, 1) := by decide +kernel
theorem dX9_word_41 : decode cX9_word 41 = .ok (.iadd, 1) := by decide +kernel
theorem dX9_word_42 : decode cX9_word 42 = .ok (.istore 6, 2) := by decide +kernel
theorem dX9_word_44 : decode cX9_word 44 = .ok (.iload 4, 2) := by decide +kernel
theorem dX9_word_46 : decode cX9_word 46 = .ok (.ifCond .ne 8, 3) := by decide +kernel
theorem dX9_word_49 : decode cX9_word 49 = .ok (.iload 6, 2) := by decide +kernel
theorem dX9_word_51 : decode cX9_word 51 = .ok (.goto 11, 3) := by decide +kernel
theorem dX9_word_54 : decode cX9_word 54 = .ok (.bipush 27, 2) := by decide +kernel
theorem dX9_word_56 : decode cX9_word 56 = .ok (.iload 6, 2) := by decide +kernel
theorem dX9_word_58 : decode cX9_word 58 = .ok (.imul, 1) := by decide +kernel
theorem dX9_word_59 : decode cX9_word 59 = .ok (.iload 4, 2) := by decide +kernel
theorem dX9_word_61 : decode cX9_word 61 = .ok (.iadd, 1) := by decide +kernel
theorem dX9_word_62 : decode cX9_word 62 = .ok (.istore 6, 2) := by decide +kernel
theorem dX9_word_64 : decode cX9_word 64 = .ok (.iload 5, 2) := by decide +kernel
theorem dX9_word_66 : decode cX9_word 66 = .ok (.ifCond .ne 8, 3) := by decide +kernel
theorem dX9_word_69 : decode cX9_word 69 = .ok (.iload 6, 2) := by decide +kernel
theorem dX9_word_71 : decode cX9_word 71 = .ok (.goto 11, 3) := by decide +kernel
theorem dX9_word_74 : decode cX9_word 74 = .ok (.bipush 27, 2) := by decide +kernel
theorem dX9_word_76 : decode cX9_word 76 = .ok (.iload 6, 2) := by decide +kernel
theorem dX9_word_78 : decode cX9_word 78 = .ok (.imul, 1) := by decide +kernel
theorem dX9_word_79 : decode cX9_word 79 = .ok (.iload 5, 2) := by decide +kernel
theorem dX9_word_81 : decode cX9_word 81 = .ok (.iadd, 1) := by decide +kernel
theorem dX9_word_82 : decode cX9_word 82 = .ok (.ireturn, 1) := by decide +kernel
theorem dX9_isWord_0 : decode cX9_isWord 0 = .ok (.aload_n 0, 1) := by decide +kernel
theorem dX9_isWord_1 : decode cX9_isWord 1 = .ok (.getfield 92, 3) := by decide +kernel
theorem dX9_isWord_4 : decode cX9_isWord 4 = .ok (.ifCond .ne 26, 3) := by decide +kernel
theorem dX9_isWord_7 : decode cX9_isWord 7 = .ok (.aload_n 0, 1) := by decide +kernel
theorem dX9_isWord_8 : decode cX9_isWord 8 = .ok (.invokevirtual 117, 3) := by decide +kernel
theorem dX9_isWord_11 : decode cX9_isWord 11 = .ok (.iload_n 1, 1) := by decide +kernel
theorem dX9_isWord_12 : decode cX9_isWord 12 = .ok (.iload_n 2, 1) := by decide +kernel
theorem dX9_isWord_13 : decode cX9_isWord 13 = .ok (.iload_n 3, 1) := by decide +kernel
theorem dX9_isWord_14 : decode cX9_isWord 14 = .ok (.iload 4, 2) := by decide +kernel
theorem dX9_isWord_16 : decode cX9_isWord 16 = .ok (.iload 5, 2) := by decide +kernel
theorem dX9_isWord_18 : decode cX9_isWord 18 = .ok (.iload 6, 2) := by decide +kernel
theorem dX9_isWord_20 : decode cX9_isWord 20 = .ok (.invokestatic 121, 3) := by decide +kernel
theorem dX9_isWord_23 : decode cX9_isWord 23 = .ok (.if_icmp .ne 7, 3) := by decide +kernel
theorem dX9_isWord_26 : decode cX9_isWord 26 = .ok (.iconst 1, 1) := by decide +kernel
theorem dX9_isWord_27 : decode cX9_isWord 27 = .ok (.goto 4, 3) := by decide +kernel
theorem dX9_isWord_30 : decode cX9_isWord 30 = .ok (.iconst 0, 1) := by decide +kernel
theorem dX9_isWord_31 : decode cX9_isWord 31 = .ok (.ireturn, 1) := by decide +kernel
theorem dX9_skipWord_0 : decode cX9_skipWord 0 = .ok (.aload_n 0, 1) := by decide +kernel
theorem dX9_skipWord_1 : decode cX9_skipWord 1 = .ok (.aload_n 0, 1) := by decide +kernel
theorem dX9_skipWord_2 : decode cX9_skipWord 2 = .ok (.getfield 85, 3) := by decide +kernel
theorem dX9_skipWord_5 : decode cX9_skipWord 5 = .ok (.invokevirtual 88, 3) := by decide +kernel
theorem dX9_skipWord_8 : decode cX9_skipWord 8 = .ok (.bipush 97, 2) := by decide +kernel
theorem dX9_skipWord_10 : decode cX9_skipWord 10 = .ok (.if_icmp .lt 29, 3) := by decide +kernel
theorem dX9_skipWord_13 : decode cX9_skipWord 13 = .ok (.aload_n 0, 1) := by decide +kernel
theorem dX9_skipWord_14 : decode cX9_skipWord 14 = .ok (.aload_n 0, 1) := by decide +kernel
theorem dX9_skipWord_15 : decode cX9_skipWord 15 = .ok (.getfield 85, 3) := by decide +kernel
theorem dX9_skipWord_18 : decode cX9_skipWord 18 = .ok (.invokevirtual 88, 3) := by decide +kernel
theorem dX9_skipWord_21 : decode cX9_skipWord 21 = .ok (.bipush 122, 2) := by decide +kernel
theorem dX9_skipWord_23 : decode cX9_skipWord 23 = .ok (.if_icmp .gt 16, 3) := by decide +kernel
theorem dX9_skipWord_26 : decode cX9_skipWord 26 = .ok (.aload_n 0, 1) := by decide +kernel
theorem dX9_skipWord_27 : decode cX9_skipWord 27 = .ok (.dup, 1) := by decide +kernel
theorem dX9_skipWord_28 : decode cX9_skipWord 28 = .ok (.getfield 85, 3) := by decide +kernel
theorem dX9_skipWord_31 : decode cX9_skipWord 31 = .ok (.iconst 1, 1) := by decide +kernel
theorem dX9_skipWord_32 : decode cX9_skipWord 32 = .ok (.iadd, 1) := by decide +kernel
theorem dX9_skipWord_33 : decode cX9_skipWord 33 = .ok (.putfield 85, 3) := by decide +kernel
theorem dX9_skipWord_36 : decode cX9_skipWord 36 = .ok (.goto (-36), 3) := by decide +kernel
theorem dX9_skipWord_39 : decode cX9_skipWord 39 = .ok (.return_, 1) := by decide +kernel
theorem dX9_sign_0 : decode cX9_sign 0 = .ok (.aload_n 0, 1) := by decide +kernel
theorem dX9_sign_1 : decode cX9_sign 1 = .ok (.getfield 92, 3) := by decide +kernel
theorem dX9_sign_4 : decode cX9_sign 4 = .ok (.ifCond .eq 4, 3) := by decide +kernel
theorem dX9_sign_7 : decode cX9_sign 7 = .ok (.return_, 1) := by decide +kernel
theorem dX9_sign_8 : decode cX9_sign 8 = .ok (.aload_n 0, 1) := by decide +kernel
theorem dX9_sign_9 : decode cX9_sign 9 = .ok (.invokevirtual 101, 3) := by decide +kernel
theorem dX9_sign_12 : decode cX9_sign 12 = .ok (.aload_n 0, 1) := by decide +kernel
theorem dX9_sign_13 : decode cX9_sign 13 = .ok (.aload_n 0, 1) := by decide +kernel
theorem dX9_sign_14 : decode cX9_sign 14 = .ok (.getfield 85, 3) := by decide +kernel
theorem dX9_sign_17 : decode cX9_sign 17 = .ok (.invokevirtual 88, 3) := by decide +kernel
theorem dX9_sign_20 : decode cX9_sign 20 = .ok (.iload_n 1, 1) := by decide +kernel
theorem dX9_sign_21 : decode cX9_sign 21 = .ok (.if_icmp .ne 16, 3) := by decide +kernel
theorem dX9_sign_24 : decode cX9_sign 24 = .ok (.aload_n 0, 1) := by decide +kernel
theorem dX9_sign_25 : decode cX9_sign 25 = .ok (.dup, 1) := by decide +kernel
theorem dX9_sign_26 : decode cX9_sign 26 = .ok (.getfield 85, 3) := by decide +kernel
theorem dX9_sign_29 : decode cX9_sign 29 = .ok (.iconst 1, 1) := by decide +kernel
theorem dX9_sign_30 : decode cX9_sign 30 = .ok (.iadd, 1) := by decide +kernel
theorem dX9_sign_31 : decode cX9_sign 31 = .ok (.putfield 85, 3) := by decide +kernel
theorem dX9_sign_34 : decode cX9_sign 34 = .ok (.goto 12, 3) := by decide +kernel
theorem dX9_sign_37 : decode cX9_sign 37 = .ok (.aload_n 0, 1) := by decide +kernel
theorem dX9_sign_38 : decode cX9_sign 38 = .ok (.iconst 1, 1) := by decide +kernel
theorem dX9_sign_39 : decode cX9_sign 39 = .ok (.aload_n 0, 1) := by decide +kernel
theorem dX9_sign_40 : decode cX9_sign 40 = .ok (.getfield 85, 3) := by decide +kernel
theorem dX9_sign_43 : decode cX9_sign 43 = .ok (.invokevirtual 108, 3) := by decide +kernel
theorem dX9_sign_46 : decode cX9_sign 46 = .ok (.return_, 1) := by decide +kernel
theorem dX9_opens_0 : decode cX9_opens 0 = .ok (.aload_n 0, 1) := by decide +kernel
theorem dX9_opens_1 : decode cX9_opens 1 = .ok (.getfield 125, 3) := by decide +kernel
theorem dX9_opens_4 : decode cX9_opens 4 = .ok (.bipush 6, 2) := by decide +kernel
theorem dX9_opens_6 : decode cX9_opens 6 = .ok (.if_icmp .ne 12, 3) := by decide +kernel
theorem dX9_opens_9 : decode cX9_opens 9 = .ok (.aload_n 0, 1) := by decide +kernel
theorem dX9_opens_10 : decode cX9_opens 10 = .ok (.iconst 3, 1) := by decide +kernel
theorem dX9_opens_11 : decode cX9_opens 11 = .ok (.aload_n 0, 1) := by decide +kernel
theorem dX9_opens_12 : decode cX9_opens 12 = .ok (.getfield 85, 3) := by decide +kernel
theorem dX9_opens_15 : decode cX9_opens 15 = .ok (.invokevirtual 108, 3) := by decide +kernel
theorem dX9_opens_18 : decode cX9_opens 18 = .ok (.aload_n 0, 1) := by decide +kernel
theorem dX9_opens_19 : decode cX9_opens 19 = .ok (.dup, 1) := by decide +kernel
theorem dX9_opens_20 : decode cX9_opens 20 = .ok (.getfield 125, 3) := by decide +kernel
theorem dX9_opens_23 : decode cX9_opens 23 = .ok (.iconst 1, 1) := by decide +kernel
theorem dX9_opens_24 : decode cX9_opens 24 = .ok (.iadd, 1) := by decide +kernel
theorem dX9_opens_25 : decode cX9_opens 25 = .ok (.putfield 125, 3) := by decide +kernel
theorem dX9_opens_28 : decode cX9_opens 28 = .ok (.aload_n 0, 1) := by decide +kernel
theorem dX9_opens_29 : decode cX9_opens 29 = .ok (.dup, 1) := by decide +kernel
theorem dX9_opens_30 : decode cX9_opens 30 = .ok (.getfield 85, 3) := by decide +kernel
theorem dX9_opens_33 : decode cX9_opens 33 = .ok (.iload_n 1, 1) := by decide +kernel
theorem dX9_opens_34 : decode cX9_opens 34 = .ok (.iadd, 1) := by decide +kernel
theorem dX9_opens_35 : decode cX9_opens 35 = .ok (.putfield 85, 3) := by decide +kernel
theorem dX9_opens_38 : decode cX9_opens 38 = .ok (.return_, 1) := by decide +kernel
theorem dX9_begins_0 : decode cX9_begins 0 = .ok (.aload_n 0, 1) := by decide +kernel
theorem dX9_begins_1 : decode cX9_begins 1 = .ok (.iload_n 1, 1) := by decide +kernel
theorem dX9_begins_2 : decode cX9_begins 2 = .ok (.putfield 82, 3) := by decide +kernel
theorem dX9_begins_5 : decode cX9_begins 5 = .ok (.aload_n 0, 1) := by decide +kernel
theorem dX9_begins_6 : decode cX9_begins 6 = .ok (.iconst 0, 1) := by decide +kernel
theorem dX9_begins_7 : decode cX9_begins 7 = .ok (.putfield 85, 3) := by decide +kernel
theorem dX9_begins_10 : decode cX9_begins 10 = .ok (.aload_n 0, 1) := by decide +kernel
theorem dX9_begins_11 : decode cX9_begins 11 = .ok (.iconst 0, 1) := by decide +kernel
theorem dX9_begins_12 : decode cX9_begins 12 = .ok (.putfield 125, 3) := by decide +kernel
theorem dX9_begins_15 : decode cX9_begins 15 = .ok (.aload_n 0, 1) := by decide +kernel
theorem dX9_begins_16 : decode cX9_begins 16 = .ok (.iconst 0, 1) := by decide +kernel
theorem dX9_begins_17 : decode cX9_begins 17 = .ok (.putfield 92, 3) := by decide +kernel
theorem dX9_begins_20 : decode cX9_begins 20 = .ok (.aload_n 0, 1) := by decide +kernel
theorem dX9_begins_21 : decode cX9_begins 21 = .ok (.iconst (-1), 1) := by decide +kernel
theorem dX9_begins_22 : decode cX9_begins 22 = .ok (.putfield 95, 3) := by decide +kernel
theorem dX9_begins_25 : decode cX9_begins 25 = .ok (.aload_n 0, 1) := by decide +kernel
theorem dX9_begins_26 : decode cX9_begins 26 = .ok (.iconst 0, 1) := by decide +kernel
theorem dX9_begins_27 : decode cX9_begins 27 = .ok (.putfield 98, 3) := by decide +kernel
theorem dX9_begins_30 : decode cX9_begins 30 = .ok (.aload_n 0, 1) := by decide +kernel
theorem dX9_begins_31 : decode cX9_begins 31 = .ok (.iconst 0, 1) := by decide +kernel
theorem dX9_begins_32 : decode cX9_begins 32 = .ok (.putfield 128, 3) := by decide +kernel
theorem dX9_begins_35 : decode cX9_begins 35 = .ok (.aload_n 0, 1) := by decide +kernel
theorem dX9_begins_36 : decode cX9_begins 36 = .ok (.iconst 0, 1) := by decide +kernel
theorem dX9_begins_37 : decode cX9_begins 37 = .ok (.putfield 131, 3) := by decide +kernel
theorem dX9_begins_40 : decode cX9_begins 40 = .ok (.aload_n 0, 1) := by decide +kernel
theorem dX9_begins_41 : decode cX9_begins 41 = .ok (.invokevirtual 101, 3) := by decide +kernel
theorem dX9_begins_44 : decode cX9_begins 44 = .ok (.return_, 1) := by decide +kernel
theorem dX9_needs_0 : decode cX9_needs 0 = .ok (.iload_n 1, 1) := by decide +kernel
theorem dX9_needs_1 : decode cX9_needs 1 = .ok (.iconst (-1), 1) := by decide +kernel
theorem dX9_needs_2 : decode cX9_needs 2 = .ok (.if_icmp .ne 15, 3) := by decide +kernel
theorem dX9_needs_5 : decode cX9_needs 5 = .ok (.aload_n 0, 1) := by decide +kernel
theorem dX9_needs_6 : decode cX9_needs 6 = .ok (.iconst 1, 1) := by decide +kernel
theorem dX9_needs_7 : decode cX9_needs 7 = .ok (.aload_n 0, 1) := by decide +kernel
theorem dX9_needs_8 : decode cX9_needs 8 = .ok (.getfield 85, 3) := by decide +kernel
theorem dX9_needs_11 : decode cX9_needs 11 = .ok (.invokevirtual 108, 3) := by decide +kernel
theorem dX9_needs_14 : decode cX9_needs 14 = .ok (.goto 20, 3) := by decide +kernel
theorem dX9_needs_17 : decode cX9_needs 17 = .ok (.aload_n 0, 1) := by decide +kernel
theorem dX9_needs_18 : decode cX9_needs 18 = .ok (.getfield 128, 3) := by decide +kernel
theorem dX9_needs_21 : decode cX9_needs 21 = .ok (.iload_n 2, 1) := by decide +kernel
theorem dX9_needs_22 : decode cX9_needs 22 = .ok (.if_icmp .ne 12, 3) := by decide +kernel
theorem dX9_needs_25 : decode cX9_needs 25 = .ok (.aload_n 0, 1) := by decide +kernel
theorem dX9_needs_26 : decode cX9_needs 26 = .ok (.iconst 3, 1) := by decide +kernel
theorem dX9_needs_27 : decode cX9_needs 27 = .ok (.aload_n 0, 1) := by decide +kernel
theorem dX9_needs_28 : decode cX9_needs 28 = .ok (.getfield 85, 3) := by decide +kernel
theorem dX9_needs_31 : decode cX9_needs 31 = .ok (.invokevirtual 108, 3) := by decide +kernel
theorem dX9_needs_34 : decode cX9_needs 34 = .ok (.return_, 1) := by decide +kernel
theorem dX9_sceneHere_0 : decode cX9_sceneHere 0 = .ok (.aload_n 0, 1) := by decide +kernel
theorem dX9_sceneHere_1 : decode cX9_sceneHere 1 = .ok (.bipush 20, 2) := by decide +kernel
theorem dX9_sceneHere_3 : decode cX9_sceneHere 3 = .ok (.bipush 8, 2) := by decide +kernel
theorem dX9_sceneHere_5 : decode cX9_sceneHere 5 = .ok (.bipush 9, 2) := by decide +kernel
theorem dX9_sceneHere_7 : decode cX9_sceneHere 7 = .ok (.bipush 14, 2) := by decide +kernel
theorem dX9_sceneHere_9 : decode cX9_sceneHere 9 = .ok (.bipush 7, 2) := by decide +kernel
theorem dX9_sceneHere_11 : decode cX9_sceneHere 11 = .ok (.iconst 0, 1) := by decide +kernel
theorem dX9_sceneHere_12 : decode cX9_sceneHere 12 = .ok (.invokevirtual 134, 3) := by decide +kernel
theorem dX9_sceneHere_15 : decode cX9_sceneHere 15 = .ok (.ifCond .eq 5, 3) := by decide +kernel
theorem dX9_sceneHere_18 : decode cX9_sceneHere 18 = .ok (.iconst 0, 1) := by decide +kernel
theorem dX9_sceneHere_19 : decode cX9_sceneHere 19 = .ok (.ireturn, 1) := by decide +kernel
theorem dX9_sceneHere_20 : decode cX9_sceneHere 20 = .ok (.aload_n 0, 1) := by decide +kernel
theorem dX9_sceneHere_21 : decode cX9_sceneHere 21 = .ok (.bipush 23, 2) := by decide +kernel
theorem dX9_sceneHere_23 : decode cX9_sceneHere 23 = .ok (.iconst 1, 1) := by decide +kernel
theorem dX9_sceneHere_24 : decode cX9_sceneHere 24 = .ok (.bipush 25, 2) := by decide +kernel
theorem dX9_sceneHere_26 : decode cX9_sceneHere 26 = .ok (.iconst 0, 1) := by decide +kernel
theorem dX9_sceneHere_27 : decode cX9_sceneHere 27 = .ok (.iconst 0, 1) := by decide +kernel
theorem dX9_sceneHere_28 : decode cX9_sceneHere 28 = .ok (.iconst 0, 1) := by decide +kernel
theorem dX9_sceneHere_29 : decode cX9_sceneHere 29 = .ok (.invokevirtual 134, 3) := by decide +kernel
theorem dX9_sceneHere_32 : decode cX9_sceneHere 32 = .ok (.ifCond .eq 5, 3) := by decide +kernel
theorem dX9_sceneHere_35 : decode cX9_sceneHere 35 = .ok (.iconst 1, 1) := by decide +kernel
theorem dX9_sceneHere_36 : decode cX9_sceneHere 36 = .ok (.ireturn, 1) := by decide +kernel
theorem dX9_sceneHere_37 : decode cX9_sceneHere 37 = .ok (.aload_n 0, 1) := by decide +kernel
theorem dX9_sceneHere_38 : decode cX9_sceneHere 38 = .ok (.bipush 20, 2) := by decide +kernel
theorem dX9_sceneHere_40 : decode cX9_sceneHere 40 = .ok (.bipush 8, 2) := by decide +kernel
theorem dX9_sceneHere_42 : decode cX9_sceneHere 42 = .ok (.bipush 18, 2) := by decide +kernel
theorem dX9_sceneHere_44 : decode cX9_sceneHere 44 = .ok (.bipush 15, 2) := by decide +kernel
theorem dX9_sceneHere_46 : decode cX9_sceneHere 46 = .ok (.bipush 23, 2) := by decide +kernel
theorem dX9_sceneHere_48 : decode cX9_sceneHere 48 = .ok (.iconst 0, 1) := by decide +kernel
theorem dX9_sceneHere_49 : decode cX9_sceneHere 49 = .ok (.invokevirtual 134, 3) := by decide +kernel
theorem dX9_sceneHere_52 : decode cX9_sceneHere 52 = .ok (.ifCond .eq 5, 3) := by decide +kernel
theorem dX9_sceneHere_55 : decode cX9_sceneHere 55 = .ok (.iconst 2, 1) := by decide +kernel
theorem dX9_sceneHere_56 : decode cX9_sceneHere 56 = .ok (.ireturn, 1) := by decide +kernel
theorem dX9_sceneHere_57 : decode cX9_sceneHere 57 = .ok (.aload_n 0, 1) := by decide +kernel
theorem dX9_sceneHere_58 : decode cX9_sceneHere 58 = .ok (.bipush 15, 2) := by decide +kernel
theorem dX9_sceneHere_60 : decode cX9_sceneHere 60 = .ok (.iconst 4, 1) := by decide +kernel
theorem dX9_sceneHere_61 : decode cX9_sceneHere 61 = .ok (.iconst 4, 1) := by decide +kernel
theorem dX9_sceneHere_62 : decode cX9_sceneHere 62 = .ok (.iconst 0, 1) := by decide +kernel
theorem dX9_sceneHere_63 : decode cX9_sceneHere 63 = .ok (.iconst 0, 1) := by decide +kernel
theorem dX9_sceneHere_64 : decode cX9_sceneHere 64 = .ok (.iconst 0, 1) := by decide +kernel
theorem dX9_sceneHere_65 : decode cX9_sceneHere 65 = .ok (.invokevirtual 134, 3) := by decide +kernel
theorem dX9_sceneHere_68 : decode cX9_sceneHere 68 = .ok (.ifCond .eq 5, 3) := by decide +kernel
theorem dX9_sceneHere_71 : decode cX9_sceneHere 71 = .ok (.iconst 3, 1) := by decide +kernel
theorem dX9_sceneHere_72 : decode cX9_sceneHere 72 = .ok (.ireturn, 1) := by decide +kernel
theorem dX9_sceneHere_73 : decode cX9_sceneHere 73 = .ok (.aload_n 0, 1) := by decide +kernel
theorem dX9_sceneHere_74 : decode cX9_sceneHere 74 = .ok (.bipush 20, 2) := by decide +kernel
theorem dX9_sceneHere_76 : decode cX9_sceneHere 76 = .ok (.bipush 21, 2) := by decide +kernel
theorem dX9_sceneHere_78 : decode cX9_sceneHere 78 = .ok (.bipush 18, 2) := by decide +kernel
theorem dX9_sceneHere_80 : decode cX9_sceneHere 80 = .ok (.bipush 14, 2) := by decide +kernel
theorem dX9_sceneHere_82 : decode cX9_sceneHere 82 = .ok (.iconst 0, 1) := by decide +kernel
theorem dX9_sceneHere_83 : decode cX9_sceneHere 83 = .ok (.iconst 0, 1) := by decide +kernel
theorem dX9_sceneHere_84 : decode cX9_sceneHere 84 = .ok (.invokevirtual 134, 3) := by decide +kernel
theorem dX9_sceneHere_87 : decode cX9_sceneHere 87 = .ok (.ifCond .eq 7, 3) := by decide +kernel
theorem dX9_sceneHere_90 : decode cX9_sceneHere 90 = .ok (.iconst 4, 1) := by decide +kernel
theorem dX9_sceneHere_91 : decode cX9_sceneHere 91 = .ok (.goto 4, 3) := by decide +kernel
theorem dX9_sceneHere_94 : decode cX9_sceneHere 94 = .ok (.iconst (-1), 1) := by decide +kernel
theorem dX9_sceneHere_95 : decode cX9_sceneHere 95 = .ok (.ireturn, 1) := by decide +kernel
theorem dX9_sceneClause_0 : decode cX9_sceneClause 0 = .ok (.aload_n 0, 1) := by decide +kernel
theorem dX9_sceneClause_1 : decode cX9_sceneClause 1 = .ok (.invokevirtual 138, 3) := by decide +kernel
theorem dX9_sceneClause_4 : decode cX9_sceneClause 4 = .ok (.istore_n 1, 1) := by decide +kernel
theorem dX9_sceneClause_5 : decode cX9_sceneClause 5 = .ok (.aload_n 0, 1) := by decide +kernel
theorem dX9_sceneClause_6 : decode cX9_sceneClause 6 = .ok (.iload_n 1, 1) := by decide +kernel
theorem dX9_sceneClause_7 : decode cX9_sceneClause 7 = .ok (.bipush 24, 2) := by decide +kernel
theorem dX9_sceneClause_9 : decode cX9_sceneClause 9 = .ok (.invokevirtual 141, 3) := by decide +kernel
theorem dX9_sceneClause_12 : decode cX9_sceneClause 12 = .ok (.aload_n 0, 1) := by decide +kernel
theorem dX9_sceneClause_13 : decode cX9_sceneClause 13 = .ok (.getfield 92, 3) := by decide +kernel
theorem dX9_sceneClause_16 : decode cX9_sceneClause 16 = .ok (.ifCond .ne 25, 3) := by decide +kernel
theorem dX9_sceneClause_19 : decode cX9_sceneClause 19 = .ok (.iload_n 1, 1) := by decide +kernel
theorem dX9_sceneClause_20 : decode cX9_sceneClause 20 = .ok (.ifCond .ne 21, 3) := by decide +kernel
theorem dX9_sceneClause_23 : decode cX9_sceneClause 23 = .ok (.aload_n 0, 1) := by decide +kernel
theorem dX9_sceneClause_24 : decode cX9_sceneClause 24 = .ok (.getfield 131, 3) := by decide +kernel
theorem dX9_sceneClause_27 : decode cX9_sceneClause 27 = .ok (.bipush 8, 2) := by decide +kernel
theorem dX9_sceneClause_29 : decode cX9_sceneClause 29 = .ok (.if_icmp .ne 12, 3) := by decide +kernel
theorem dX9_sceneClause_32 : decode cX9_sceneClause 32 = .ok (.aload_n 0, 1) := by decide +kernel
theorem dX9_sceneClause_33 : decode cX9_sceneClause 33 = .ok (.iconst 3, 1) := by decide +kernel
theorem dX9_sceneClause_34 : decode cX9_sceneClause 34 = .ok (.aload_n 0, 1) := by decide +kernel
theorem dX9_sceneClause_35 : decode cX9_sceneClause 35 = .ok (.getfield 85, 3) := by decide +kernel
theorem dX9_sceneClause_38 : decode cX9_sceneClause 38 = .ok (.invokevirtual 108, 3) := by decide +kernel
theorem dX9_sceneClause_41 : decode cX9_sceneClause 41 = .ok (.aload_n 0, 1) := by decide +kernel
theorem dX9_sceneClause_42 : decode cX9_sceneClause 42 = .ok (.getfield 92, 3) := by decide +kernel
theorem dX9_sceneClause_45 : decode cX9_sceneClause 45 = .ok (.ifCond .eq 4, 3) := by decide +kernel
theorem dX9_sceneClause_48 : decode cX9_sceneClause 48 = .ok (.return_, 1) := by decide +kernel
theorem dX9_sceneClause_49 : decode cX9_sceneClause 49 = .ok (.aload_n 0, 1) := by decide +kernel
theorem dX9_sceneClause_50 : decode cX9_sceneClause 50 = .ok (.invokevirtual 144, 3) := by decide +kernel
theorem dX9_sceneClause_53 : decode cX9_sceneClause 53 = .ok (.aload_n 0, 1) := by decide +kernel
theorem dX9_sceneClause_54 : decode cX9_sceneClause 54 = .ok (.getfield 22, 3) := by decide +kernel
theorem dX9_sceneClause_57 : decode cX9_sceneClause 57 = .ok (.aload_n 0, 1) := by decide +kernel
theorem dX9_sceneClause_58 : decode cX9_sceneClause 58 = .ok (.getfield 128, 3) := by decide +kernel
theorem dX9_sceneClause_61 : decode cX9_sceneClause 61 = .ok (.aaload, 1) := by decide +kernel
theorem dX9_sceneClause_62 : decode cX9_sceneClause 62 = .ok (.astore_n 2, 1) := by decide +kernel
theorem dX9_sceneClause_63 : decode cX9_sceneClause 63 = .ok (.aload_n 2, 1) := by decide +kernel
theorem dX9_sceneClause_64 : decode cX9_sceneClause 64 = .ok (.iconst 0, 1) := by decide +kernel
theorem dX9_sceneClause_65 : decode cX9_sceneClause 65 = .ok (.iload_n 1, 1) := by decide +kernel
theorem dX9_sceneClause_66 : decode cX9_sceneClause 66 = .ok (.iastore, 1) := by decide +kernel
theorem dX9_sceneClause_67 : decode cX9_sceneClause 67 = .ok (.iload_n 1, 1) := by decide +kernel
theorem dX9_sceneClause_68 : decode cX9_sceneClause 68 = .ok (.ifCond .ne 28, 3) := by decide +kernel
theorem dX9_sceneClause_71 : decode cX9_sceneClause 71 = .ok (.aload_n 2, 1) := by decide +kernel
theorem dX9_sceneClause_72 : decode cX9_sceneClause 72 = .ok (.iconst 1, 1) := by decide +kernel
theorem dX9_sceneClause_73 : decode cX9_sceneClause 73 = .ok (.aload_n 0, 1) := by decide +kernel
theorem dX9_sceneClause_74 : decode cX9_sceneClause 74 = .ok (.iconst 0, 1) := by decide +kernel
theorem dX9_sceneClause_75 : decode cX9_sceneClause 75 = .ok (.bipush 7, 2) := by decide +kernel
theorem dX9_sceneClause_77 : decode cX9_sceneClause 77 = .ok (.iconst (-1), 1) := by decide +kernel
theorem dX9_sceneClause_78 : decode cX9_sceneClause 78 = .ok (.invokevirtual 147, 3) := by decide +kernel
theorem dX9_sceneClause_81 : decode cX9_sceneClause 81 = .ok (.iastore, 1) := by decide +kernel
theorem dX9_sceneClause_82 : decode cX9_sceneClause 82 = .ok (.aload_n 2, 1) := by decide +kernel
theorem dX9_sceneClause_83 : decode cX9_sceneClause 83 = .ok (.iconst 2, 1) := by decide +kernel
theorem dX9_sceneClause_84 : decode cX9_sceneClause 84 = .ok (.aload_n 0, 1) := by decide +kernel
theorem dX9_sceneClause_85 : decode cX9_sceneClause 85 = .ok (.iconst 1, 1) := by decide +kernel
theorem dX9_sceneClause_86 : decode cX9_sceneClause 86 = .ok (.bipush 9, 2) := by decide +kernel
theorem dX9_sceneClause_88 : decode cX9_sceneClause 88 = .ok (.iconst (-1), 1) := by decide +kernel
theorem dX9_sceneClause_89 : decode cX9_sceneClause 89 = .ok (.invokevirtual 147, 3) := by decide +kernel
theorem dX9_sceneClause_92 : decode cX9_sceneClause 92 = .ok (.iastore, 1) := by decide +kernel
theorem dX9_sceneClause_93 : decode cX9_sceneClause 93 = .ok (.goto 100, 3) := by decide +kernel
theorem dX9_sceneClause_96 : decode cX9_sceneClause 96 = .ok (.aload_n 2, 1) := by decide +kernel
theorem dX9_sceneClause_97 : decode cX9_sceneClause 97 = .ok (.iconst 1, 1) := by decide +kernel
theorem dX9_sceneClause_98 : decode cX9_sceneClause 98 = .ok (.aload_n 0, 1) := by decide +kernel
theorem dX9_sceneClause_99 : decode cX9_sceneClause 99 = .ok (.iconst 0, 1) := by decide +kernel
theorem dX9_sceneClause_100 : decode cX9_sceneClause 100 = .ok (.aload_n 0, 1) := by decide +kernel
theorem dX9_sceneClause_101 : decode cX9_sceneClause 101 = .ok (.getfield 131, 3) := by decide +kernel
theorem dX9_sceneClause_104 : decode cX9_sceneClause 104 = .ok (.iconst 1, 1) := by decide +kernel
theorem dX9_sceneClause_105 : decode cX9_sceneClause 105 = .ok (.isub, 1) := by decide +kernel
theorem dX9_sceneClause_106 : decode cX9_sceneClause 106 = .ok (.iconst (-1), 1) := by decide +kernel
theorem dX9_sceneClause_107 : decode cX9_sceneClause 107 = .ok (.invokevirtual 147, 3) := by decide +kernel
theorem dX9_sceneClause_110 : decode cX9_sceneClause 110 = .ok (.iastore, 1) := by decide +kernel
theorem dX9_sceneClause_111 : decode cX9_sceneClause 111 = .ok (.iload_n 1, 1) := by decide +kernel
theorem dX9_sceneClause_112 : decode cX9_sceneClause 112 = .ok (.iconst 1, 1) := by decide +kernel
theorem dX9_sceneClause_113 : decode cX9_sceneClause 113 = .ok (.if_icmp .ne 8, 3) := by decide +kernel
theorem dX9_sceneClause_116 : decode cX9_sceneClause 116 = .ok (.aload_n 0, 1) := by decide +kernel
theorem dX9_sceneClause_117 : decode cX9_sceneClause 117 = .ok (.aload_n 2, 1) := by decide +kernel
theorem dX9_sceneClause_118 : decode cX9_sceneClause 118 = .ok (.invokevirtual 151, 3) := by decide +kernel
theorem dX9_sceneClause_121 : decode cX9_sceneClause 121 = .ok (.iload_n 1, 1) := by decide +kernel
theorem dX9_sceneClause_122 : decode cX9_sceneClause 122 = .ok (.iconst 2, 1) := by decide +kernel
theorem dX9_sceneClause_123 : decode cX9_sceneClause 123 = .ok (.if_icmp .ne 20, 3) := by decide +kernel
theorem dX9_sceneClause_126 : decode cX9_sceneClause 126 = .ok (.aload_n 2, 1) := by decide +kernel
theorem dX9_sceneClause_127 : decode cX9_sceneClause 127 = .ok (.iconst 2, 1) := by decide +kernel
theorem dX9_sceneClause_128 : decode cX9_sceneClause 128 = .ok (.aload_n 0, 1) := by decide +kernel
theorem dX9_sceneClause_129 : decode cX9_sceneClause 129 = .ok (.iconst 0, 1) := by decide +kernel
theorem dX9_sceneClause_130 : decode cX9_sceneClause 130 = .ok (.aload_n 0, 1) := by decide +kernel
theorem dX9_sceneClause_131 : decode cX9_sceneClause 131 = .ok (.getfield 131, 3) := by decide +kernel
theorem dX9_sceneClause_134 : decode cX9_sceneClause 134 = .ok (.iconst 1, 1) := by decide +kernel
theorem dX9_sceneClause_135 : decode cX9_sceneClause 135 = .ok (.isub, 1) := by decide +kernel
theorem dX9_sceneClause_136 : decode cX9_sceneClause 136 = .ok (.aload_n 2, 1) := by decide +kernel
theorem dX9_sceneClause_137 : decode cX9_sceneClause 137 = .ok (.iconst 1, 1) := by decide +kernel
theorem dX9_sceneClause_138 : decode cX9_sceneClause 138 = .ok (.iaload, 1) := by decide +kernel
theorem dX9_sceneClause_139 : decode cX9_sceneClause 139 = .ok (.invokevirtual 147, 3) := by decide +kernel
theorem dX9_sceneClause_142 : decode cX9_sceneClause 142 = .ok (.iastore, 1) := by decide +kernel
theorem dX9_sceneClause_143 : decode cX9_sceneClause 143 = .ok (.iload_n 1, 1) := by decide +kernel
theorem dX9_sceneClause_144 : decode cX9_sceneClause 144 = .ok (.iconst 2, 1) := by decide +kernel
theorem dX9_sceneClause_145 : decode cX9_sceneClause 145 = .ok (.if_icmp .ne 15, 3) := by decide +kernel
theorem dX9_sceneClause_148 : decode cX9_sceneClause 148 = .ok (.aload_n 2, 1) := by decide +kernel
theorem dX9_sceneClause_149 : decode cX9_sceneClause 149 = .ok (.iconst 3, 1) := by decide +kernel
theorem dX9_sceneClause_150 : decode cX9_sceneClause 150 = .ok (.aload_n 0, 1) := by decide +kernel
theorem dX9_sceneClause_151 : decode cX9_sceneClause 151 = .ok (.iconst 0, 1) := by decide +kernel
theorem dX9_sceneClause_152 : decode cX9_sceneClause 152 = .ok (.sipush 299, 3) := by decide +kernel
theorem dX9_sceneClause_155 : decode cX9_sceneClause 155 = .ok (.iconst (-1), 1) := by decide +kernel
theorem dX9_sceneClause_156 : decode cX9_sceneClause 156 = .ok (.invokevirtual 147, 3) := by decide +kernel
theorem dX9_sceneClause_159 : decode cX9_sceneClause 159 = .ok (.iastore, 1) := by decide +kernel
theorem dX9_sceneClause_160 : decode cX9_sceneClause 160 = .ok (.iload_n 1, 1) := by decide +kernel
theorem dX9_sceneClause_161 : decode cX9_sceneClause 161 = .ok (.iconst 4, 1) := by decide +kernel
theorem dX9_sceneClause_162 : decode cX9_sceneClause 162 = .ok (.if_icmp .ne 15, 3) := by decide +kernel
theorem dX9_sceneClause_165 : decode cX9_sceneClause 165 = .ok (.aload_n 2, 1) := by decide +kernel
theorem dX9_sceneClause_166 : decode cX9_sceneClause 166 = .ok (.iconst 2, 1) := by decide +kernel
theorem dX9_sceneClause_167 : decode cX9_sceneClause 167 = .ok (.aload_n 0, 1) := by decide +kernel
theorem dX9_sceneClause_168 : decode cX9_sceneClause 168 = .ok (.iconst 0, 1) := by decide +kernel
theorem dX9_sceneClause_169 : decode cX9_sceneClause 169 = .ok (.sipush 299, 3) := by decide +kernel
theorem dX9_sceneClause_172 : decode cX9_sceneClause 172 = .ok (.iconst (-1), 1) := by decide +kernel
theorem dX9_sceneClause_173 : decode cX9_sceneClause 173 = .ok (.invokevirtual 147, 3) := by decide +kernel
theorem dX9_sceneClause_176 : decode cX9_sceneClause 176 = .ok (.iastore, 1) := by decide +kernel
theorem dX9_sceneClause_177 : decode cX9_sceneClause 177 = .ok (.iload_n 1, 1) := by decide +kernel
theorem dX9_sceneClause_178 : decode cX9_sceneClause 178 = .ok (.iconst 4, 1) := by decide +kernel
theorem dX9_sceneClause_179 : decode cX9_sceneClause 179 = .ok (.if_icmp .ne 14, 3) := by decide +kernel
theorem dX9_sceneClause_182 : decode cX9_sceneClause 182 = .ok (.aload_n 2, 1) := by decide +kernel
theorem dX9_sceneClause_183 : decode cX9_sceneClause 183 = .ok (.iconst 3, 1) := by decide +kernel
theorem dX9_sceneClause_184 : decode cX9_sceneClause 184 = .ok (.aload_n 0, 1) := by decide +kernel
theorem dX9_sceneClause_185 : decode cX9_sceneClause 185 = .ok (.iconst 0, 1) := by decide +kernel
theorem dX9_sceneClause_186 : decode cX9_sceneClause 186 = .ok (.bipush 7, 2) := by decide +kernel
theorem dX9_sceneClause_188 : decode cX9_sceneClause 188 = .ok (.iconst (-1), 1) := by decide +kernel
theorem dX9_sceneClause_189 : decode cX9_sceneClause 189 = .ok (.invokevirtual 147, 3) := by decide +kernel
theorem dX9_sceneClause_192 : decode cX9_sceneClause 192 = .ok (.iastore, 1) := by decide +kernel
theorem dX9_sceneClause_193 : decode cX9_sceneClause 193 = .ok (.aload_n 0, 1) := by decide +kernel
theorem dX9_sceneClause_194 : decode cX9_sceneClause 194 = .ok (.bipush 59, 2) := by decide +kernel
theorem dX9_sceneClause_196 : decode cX9_sceneClause 196 = .ok (.invokevirtual 155, 3) := by decide +kernel
theorem dX9_sceneClause_199 : decode cX9_sceneClause 199 = .ok (.aload_n 0, 1) := by decide +kernel
theorem dX9_sceneClause_200 : decode cX9_sceneClause 200 = .ok (.dup, 1) := by decide +kernel
theorem dX9_sceneClause_201 : decode cX9_sceneClause 201 = .ok (.getfield 131, 3) := by decide +kernel
theorem dX9_sceneClause_204 : decode cX9_sceneClause 204 = .ok (.iload_n 1, 1) := by decide +kernel
theorem dX9_sceneClause_205 : decode cX9_sceneClause 205 = .ok (.ifCond .ne 7, 3) := by decide +kernel
theorem dX9_sceneClause_208 : decode cX9_sceneClause 208 = .ok (.iconst 1, 1) := by decide +kernel
theorem dX9_sceneClause_209 : decode cX9_sceneClause 209 = .ok (.goto 4, 3) := by decide +kernel
theorem dX9_sceneClause_212 : decode cX9_sceneClause 212 = .ok (.iconst 0, 1) := by decide +kernel
theorem dX9_sceneClause_213 : decode cX9_sceneClause 213 = .ok (.iadd, 1) := by decide +kernel
theorem dX9_sceneClause_214 : decode cX9_sceneClause 214 = .ok (.putfield 131, 3) := by decide +kernel
theorem dX9_sceneClause_217 : decode cX9_sceneClause 217 = .ok (.aload_n 0, 1) := by decide +kernel
theorem dX9_sceneClause_218 : decode cX9_sceneClause 218 = .ok (.dup, 1) := by decide +kernel
theorem dX9_sceneClause_219 : decode cX9_sceneClause 219 = .ok (.getfield 128, 3) := by decide +kernel
theorem dX9_sceneClause_222 : decode cX9_sceneClause 222 = .ok (.iconst 1, 1) := by decide +kernel
theorem dX9_sceneClause_223 : decode cX9_sceneClause 223 = .ok (.iadd, 1) := by decide +kernel
theorem dX9_sceneClause_224 : decode cX9_sceneClause 224 = .ok (.putfield 128, 3) := by decide +kernel
theorem dX9_sceneClause_227 : decode cX9_sceneClause 227 = .ok (.return_, 1) := by decide +kernel
theorem dX9_readsWay_0 : decode cX9_readsWay 0 = .ok (.aload_n 1, 1) := by decide +kernel
theorem dX9_readsWay_1 : decode cX9_readsWay 1 = .ok (.iconst 2, 1) := by decide +kernel
theorem dX9_readsWay_2 : decode cX9_readsWay 2 = .ok (.aload_n 0, 1) := by decide +kernel
theorem dX9_readsWay_3 : decode cX9_readsWay 3 = .ok (.iconst 0, 1) := by decide +kernel
theorem dX9_readsWay_4 : decode cX9_readsWay 4 = .ok (.sipush 299, 3) := by decide +kernel
theorem dX9_readsWay_7 : decode cX9_readsWay 7 = .ok (.iconst (-1), 1) := by decide +kernel
theorem dX9_readsWay_8 : decode cX9_readsWay 8 = .ok (.invokevirtual 147, 3) := by decide +kernel
theorem dX9_readsWay_11 : decode cX9_readsWay 11 = .ok (.iastore, 1) := by decide +kernel
theorem dX9_readsWay_12 : decode cX9_readsWay 12 = .ok (.aload_n 1, 1) := by decide +kernel
theorem dX9_readsWay_13 : decode cX9_readsWay 13 = .ok (.iconst 3, 1) := by decide +kernel
theorem dX9_readsWay_14 : decode cX9_readsWay 14 = .ok (.aload_n 0, 1) := by decide +kernel
theorem dX9_readsWay_15 : decode cX9_readsWay 15 = .ok (.iconst 0, 1) := by decide +kernel
theorem dX9_readsWay_16 : decode cX9_readsWay 16 = .ok (.bipush 39, 2) := by decide +kernel
theorem dX9_readsWay_18 : decode cX9_readsWay 18 = .ok (.iconst (-1), 1) := by decide +kernel
theorem dX9_readsWay_19 : decode cX9_readsWay 19 = .ok (.invokevirtual 147, 3) := by decide +kernel
theorem dX9_readsWay_22 : decode cX9_readsWay 22 = .ok (.iastore, 1) := by decide +kernel
theorem dX9_readsWay_23 : decode cX9_readsWay 23 = .ok (.aload_n 1, 1) := by decide +kernel
theorem dX9_readsWay_24 : decode cX9_readsWay 24 = .ok (.iconst 4, 1) := by decide +kernel
theorem dX9_readsWay_25 : decode cX9_readsWay 25 = .ok (.aload_n 0, 1) := by decide +kernel
theorem dX9_readsWay_26 : decode cX9_readsWay 26 = .ok (.iconst 0, 1) := by decide +kernel
theorem dX9_readsWay_27 : decode cX9_readsWay 27 = .ok (.bipush 29, 2) := by decide +kernel
theorem dX9_readsWay_29 : decode cX9_readsWay 29 = .ok (.iconst (-1), 1) := by decide +kernel
theorem dX9_readsWay_30 : decode cX9_readsWay 30 = .ok (.invokevirtual 147, 3) := by decide +kernel
theorem dX9_readsWay_33 : decode cX9_readsWay 33 = .ok (.iastore, 1) := by decide +kernel
theorem dX9_readsWay_34 : decode cX9_readsWay 34 = .ok (.aload_n 1, 1) := by decide +kernel
theorem dX9_readsWay_35 : decode cX9_readsWay 35 = .ok (.iconst 5, 1) := by decide +kernel
theorem dX9_readsWay_36 : decode cX9_readsWay 36 = .ok (.aload_n 0, 1) := by decide +kernel
theorem dX9_readsWay_37 : decode cX9_readsWay 37 = .ok (.aload_n 1, 1) := by decide +kernel
theorem dX9_readsWay_38 : decode cX9_readsWay 38 = .ok (.iconst 2, 1) := by decide +kernel
theorem dX9_readsWay_39 : decode cX9_readsWay 39 = .ok (.iaload, 1) := by decide +kernel
theorem dX9_readsWay_40 : decode cX9_readsWay 40 = .ok (.sipush 299, 3) := by decide +kernel
theorem dX9_readsWay_43 : decode cX9_readsWay 43 = .ok (.iconst (-1), 1) := by decide +kernel
theorem dX9_readsWay_44 : decode cX9_readsWay 44 = .ok (.invokevirtual 147, 3) := by decide +kernel
theorem dX9_readsWay_47 : decode cX9_readsWay 47 = .ok (.iastore, 1) := by decide +kernel
theorem dX9_readsWay_48 : decode cX9_readsWay 48 = .ok (.aload_n 1, 1) := by decide +kernel
theorem dX9_readsWay_49 : decode cX9_readsWay 49 = .ok (.bipush 6, 2) := by decide +kernel
theorem dX9_readsWay_51 : decode cX9_readsWay 51 = .ok (.aload_n 0, 1) := by decide +kernel
theorem dX9_readsWay_52 : decode cX9_readsWay 52 = .ok (.iconst 0, 1) := by decide +kernel
theorem dX9_readsWay_53 : decode cX9_readsWay 53 = .ok (.bipush 39, 2) := by decide +kernel
theorem dX9_readsWay_55 : decode cX9_readsWay 55 = .ok (.iconst (-1), 1) := by decide +kernel
theorem dX9_readsWay_56 : decode cX9_readsWay 56 = .ok (.invokevirtual 147, 3) := by decide +kernel
theorem dX9_readsWay_59 : decode cX9_readsWay 59 = .ok (.iastore, 1) := by decide +kernel
theorem dX9_readsWay_60 : decode cX9_readsWay 60 = .ok (.aload_n 1, 1) := by decide +kernel
theorem dX9_readsWay_61 : decode cX9_readsWay 61 = .ok (.bipush 7, 2) := by decide +kernel
theorem dX9_readsWay_63 : decode cX9_readsWay 63 = .ok (.aload_n 0, 1) := by decide +kernel
theorem dX9_readsWay_64 : decode cX9_readsWay 64 = .ok (.iconst 0, 1) := by decide +kernel
theorem dX9_readsWay_65 : decode cX9_readsWay 65 = .ok (.bipush 29, 2) := by decide +kernel
theorem dX9_readsWay_67 : decode cX9_readsWay 67 = .ok (.iconst (-1), 1) := by decide +kernel
theorem dX9_readsWay_68 : decode cX9_readsWay 68 = .ok (.invokevirtual 147, 3) := by decide +kernel
theorem dX9_readsWay_71 : decode cX9_readsWay 71 = .ok (.iastore, 1) := by decide +kernel
theorem dX9_readsWay_72 : decode cX9_readsWay 72 = .ok (.return_, 1) := by decide +kernel
theorem dX9_isRead_0 : decode cX9_isRead 0 = .ok (.aload_n 0, 1) := by decide +kernel
theorem dX9_isRead_1 : decode cX9_isRead 1 = .ok (.iconst 0, 1) := by decide +kernel
theorem dX9_isRead_2 : decode cX9_isRead 2 = .ok (.putfield 79, 3) := by decide +kernel
theorem dX9_isRead_5 : decode cX9_isRead 5 = .ok (.aload_n 0, 1) := by decide +kernel
theorem dX9_isRead_6 : decode cX9_isRead 6 = .ok (.iconst (-1), 1) := by decide +kernel
theorem dX9_isRead_7 : decode cX9_isRead 7 = .ok (.putfield 9, 3) := by decide +kernel
theorem dX9_isRead_10 : decode cX9_isRead 10 = .ok (.iload_n 2, 1) := by decide +kernel
theorem dX9_isRead_11 : decode cX9_isRead 11 = .ok (.ifCond .eq 5, 3) := by decide +kernel
theorem dX9_isRead_14 : decode cX9_isRead 14 = .ok (.iconst 0, 1) := by decide +kernel
theorem dX9_isRead_15 : decode cX9_isRead 15 = .ok (.ireturn, 1) := by decide +kernel
theorem dX9_isRead_16 : decode cX9_isRead 16 = .ok (.aload_n 0, 1) := by decide +kernel
theorem dX9_isRead_17 : decode cX9_isRead 17 = .ok (.iload_n 1, 1) := by decide +kernel
theorem dX9_isRead_18 : decode cX9_isRead 18 = .ok (.invokevirtual 159, 3) := by decide +kernel
theorem dX9_isRead_21 : decode cX9_isRead 21 = .ok (.iconst 1, 1) := by decide +kernel
theorem dX9_isRead_22 : decode cX9_isRead 22 = .ok (.ireturn, 1) := by decide +kernel
theorem dX9_scene_0 : decode cX9_scene 0 = .ok (.aload_n 0, 1) := by decide +kernel
theorem dX9_scene_1 : decode cX9_scene 1 = .ok (.iconst 0, 1) := by decide +kernel
theorem dX9_scene_2 : decode cX9_scene 2 = .ok (.putfield 76, 3) := by decide +kernel
theorem dX9_scene_5 : decode cX9_scene 5 = .ok (.aload_n 0, 1) := by decide +kernel
theorem dX9_scene_6 : decode cX9_scene 6 = .ok (.iload_n 1, 1) := by decide +kernel
theorem dX9_scene_7 : decode cX9_scene 7 = .ok (.iconst 0, 1) := by decide +kernel
theorem dX9_scene_8 : decode cX9_scene 8 = .ok (.aload_n 0, 1) := by decide +kernel
theorem dX9_scene_9 : decode cX9_scene 9 = .ok (.getfield 79, 3) := by decide +kernel
theorem dX9_scene_12 : decode cX9_scene 12 = .ok (.invokestatic 113, 3) := by decide +kernel
theorem dX9_scene_15 : decode cX9_scene 15 = .ok (.ifCond .ne 7, 3) := by decide +kernel
theorem dX9_scene_18 : decode cX9_scene 18 = .ok (.iconst 1, 1) := by decide +kernel
theorem dX9_scene_19 : decode cX9_scene 19 = .ok (.goto 4, 3) := by decide +kernel
theorem dX9_scene_22 : decode cX9_scene 22 = .ok (.iconst 0, 1) := by decide +kernel
theorem dX9_scene_23 : decode cX9_scene 23 = .ok (.iconst 1, 1) := by decide +kernel
theorem dX9_scene_24 : decode cX9_scene 24 = .ok (.invokevirtual 162, 3) := by decide +kernel
theorem dX9_scene_27 : decode cX9_scene 27 = .ok (.ifCond .eq 5, 3) := by decide +kernel
theorem dX9_scene_30 : decode cX9_scene 30 = .ok (.iconst 0, 1) := by decide +kernel
theorem dX9_scene_31 : decode cX9_scene 31 = .ok (.ireturn, 1) := by decide +kernel
theorem dX9_scene_32 : decode cX9_scene 32 = .ok (.aload_n 0, 1) := by decide +kernel
theorem dX9_scene_33 : decode cX9_scene 33 = .ok (.iload_n 1, 1) := by decide +kernel
theorem dX9_scene_34 : decode cX9_scene 34 = .ok (.aload_n 0, 1) := by decide +kernel
theorem dX9_scene_35 : decode cX9_scene 35 = .ok (.getfield 166, 3) := by decide +kernel
theorem dX9_scene_38 : decode cX9_scene 38 = .ok (.bipush 6, 2) := by decide +kernel
theorem dX9_scene_40 : decode cX9_scene 40 = .ok (.if_icmp .ne 7, 3) := by decide +kernel
theorem dX9_scene_43 : decode cX9_scene 43 = .ok (.iconst 1, 1) := by decide +kernel
theorem dX9_scene_44 : decode cX9_scene 44 = .ok (.goto 4, 3) := by decide +kernel
theorem dX9_scene_47 : decode cX9_scene 47 = .ok (.iconst 0, 1) := by decide +kernel
theorem dX9_scene_48 : decode cX9_scene 48 = .ok (.invokevirtual 169, 3) := by decide +kernel
theorem dX9_scene_51 : decode cX9_scene 51 = .ok (.ifCond .ne 5, 3) := by decide +kernel
theorem dX9_scene_54 : decode cX9_scene 54 = .ok (.iconst (-1), 1) := by decide +kernel
theorem dX9_scene_55 : decode cX9_scene 55 = .ok (.ireturn, 1) := by decide +kernel
theorem dX9_scene_56 : decode cX9_scene 56 = .ok (.aload_n 0, 1) := by decide +kernel
theorem dX9_scene_57 : decode cX9_scene 57 = .ok (.getfield 92, 3) := by decide +kernel
theorem dX9_scene_60 : decode cX9_scene 60 = .ok (.ifCond .ne 25, 3) := by decide +kernel
theorem dX9_scene_63 : decode cX9_scene 63 = .ok (.aload_n 0, 1) := by decide +kernel
theorem dX9_scene_64 : decode cX9_scene 64 = .ok (.getfield 85, 3) := by decide +kernel
theorem dX9_scene_67 : decode cX9_scene 67 = .ok (.aload_n 0, 1) := by decide +kernel
theorem dX9_scene_68 : decode cX9_scene 68 = .ok (.getfield 82, 3) := by decide +kernel
theorem dX9_scene_71 : decode cX9_scene 71 = .ok (.if_icmp .ge 14, 3) := by decide +kernel
theorem dX9_scene_74 : decode cX9_scene 74 = .ok (.aload_n 0, 1) := by decide +kernel
theorem dX9_scene_75 : decode cX9_scene 75 = .ok (.invokevirtual 173, 3) := by decide +kernel
theorem dX9_scene_78 : decode cX9_scene 78 = .ok (.aload_n 0, 1) := by decide +kernel
theorem dX9_scene_79 : decode cX9_scene 79 = .ok (.invokevirtual 101, 3) := by decide +kernel
theorem dX9_scene_82 : decode cX9_scene 82 = .ok (.goto (-26), 3) := by decide +kernel
theorem dX9_scene_85 : decode cX9_scene 85 = .ok (.aload_n 0, 1) := by decide +kernel
theorem dX9_scene_86 : decode cX9_scene 86 = .ok (.aload_n 0, 1) := by decide +kernel
theorem dX9_scene_87 : decode cX9_scene 87 = .ok (.getfield 95, 3) := by decide +kernel
theorem dX9_scene_90 : decode cX9_scene 90 = .ok (.putfield 9, 3) := by decide +kernel
theorem dX9_scene_93 : decode cX9_scene 93 = .ok (.aload_n 0, 1) := by decide +kernel
theorem dX9_scene_94 : decode cX9_scene 94 = .ok (.getfield 92, 3) := by decide +kernel
theorem dX9_scene_97 : decode cX9_scene 97 = .ok (.ifCond .eq 11, 3) := by decide +kernel
theorem dX9_scene_100 : decode cX9_scene 100 = .ok (.aload_n 0, 1) := by decide +kernel
theorem dX9_scene_101 : decode cX9_scene 101 = .ok (.getfield 92, 3) := by decide +kernel
theorem dX9_scene_104 : decode cX9_scene 104 = .ok (.bipush 10, 2) := by decide +kernel
theorem dX9_scene_106 : decode cX9_scene 106 = .ok (.isub, 1) := by decide +kernel
theorem dX9_scene_107 : decode cX9_scene 107 = .ok (.ireturn, 1) := by decide +kernel
theorem dX9_scene_108 : decode cX9_scene 108 = .ok (.aload_n 0, 1) := by decide +kernel
theorem dX9_scene_109 : decode cX9_scene 109 = .ok (.getfield 28, 3) := by decide +kernel
theorem dX9_scene_112 : decode cX9_scene 112 = .ok (.aload_n 0, 1) := by decide +kernel
theorem dX9_scene_113 : decode cX9_scene 113 = .ok (.getfield 166, 3) := by decide +kernel
theorem dX9_scene_116 : decode cX9_scene 116 = .ok (.aload_n 0, 1) := by decide +kernel
theorem dX9_scene_117 : decode cX9_scene 117 = .ok (.getfield 128, 3) := by decide +kernel
theorem dX9_scene_120 : decode cX9_scene 120 = .ok (.iastore, 1) := by decide +kernel
theorem dX9_scene_121 : decode cX9_scene 121 = .ok (.aload_n 0, 1) := by decide +kernel
theorem dX9_scene_122 : decode cX9_scene 122 = .ok (.getfield 31, 3) := by decide +kernel
theorem dX9_scene_125 : decode cX9_scene 125 = .ok (.aload_n 0, 1) := by decide +kernel
theorem dX9_scene_126 : decode cX9_scene 126 = .ok (.getfield 166, 3) := by decide +kernel
theorem dX9_scene_129 : decode cX9_scene 129 = .ok (.iconst 0, 1) := by decide +kernel
theorem dX9_scene_130 : decode cX9_scene 130 = .ok (.iastore, 1) := by decide +kernel
theorem dX9_scene_131 : decode cX9_scene 131 = .ok (.iconst 0, 1) := by decide +kernel
theorem dX9_scene_132 : decode cX9_scene 132 = .ok (.istore_n 2, 1) := by decide +kernel
theorem dX9_scene_133 : decode cX9_scene 133 = .ok (.iload_n 2, 1) := by decide +kernel
theorem dX9_scene_134 : decode cX9_scene 134 = .ok (.aload_n 0, 1) := by decide +kernel
theorem dX9_scene_135 : decode cX9_scene 135 = .ok (.getfield 128, 3) := by decide +kernel
theorem dX9_scene_138 : decode cX9_scene 138 = .ok (.if_icmp .ge 138, 3) := by decide +kernel
theorem dX9_scene_141 : decode cX9_scene 141 = .ok (.iconst 0, 1) := by decide +kernel
theorem dX9_scene_142 : decode cX9_scene 142 = .ok (.istore_n 3, 1) := by decide +kernel
theorem dX9_scene_143 : decode cX9_scene 143 = .ok (.iload_n 3, 1) := by decide +kernel
theorem dX9_scene_144 : decode cX9_scene 144 = .ok (.bipush 8, 2) := by decide +kernel
theorem dX9_scene_146 : decode cX9_scene 146 = .ok (.if_icmp .ge 33, 3) := by decide +kernel
theorem dX9_scene_149 : decode cX9_scene 149 = .ok (.aload_n 0, 1) := by decide +kernel
theorem dX9_scene_150 : decode cX9_scene 150 = .ok (.getfield 25, 3) := by decide +kernel
theorem dX9_scene_153 : decode cX9_scene 153 = .ok (.bipush 24, 2) := by decide +kernel
theorem dX9_scene_155 : decode cX9_scene 155 = .ok (.aload_n 0, 1) := by decide +kernel
theorem dX9_scene_156 : decode cX9_scene 156 = .ok (.getfield 166, 3) := by decide +kernel
theorem dX9_scene_159 : decode cX9_scene 159 = .ok (.imul, 1) := by decide +kernel
theorem dX9_scene_160 : decode cX9_scene 160 = .ok (.iload_n 2, 1) := by decide +kernel
theorem dX9_scene_161 : decode cX9_scene 161 = .ok (.iadd, 1) := by decide +kernel
theorem dX9_scene_162 : decode cX9_scene 162 = .ok (.aaload, 1) := by decide +kernel
theorem dX9_scene_163 : decode cX9_scene 163 = .ok (.iload_n 3, 1) := by decide +kernel
theorem dX9_scene_164 : decode cX9_scene 164 = .ok (.aload_n 0, 1) := by decide +kernel
theorem dX9_scene_165 : decode cX9_scene 165 = .ok (.getfield 22, 3) := by decide +kernel
theorem dX9_scene_168 : decode cX9_scene 168 = .ok (.iload_n 2, 1) := by decide +kernel
theorem dX9_scene_169 : decode cX9_scene 169 = .ok (.aaload, 1) := by decide +kernel
theorem dX9_scene_170 : decode cX9_scene 170 = .ok (.iload_n 3, 1) := by decide +kernel
theorem dX9_scene_171 : decode cX9_scene 171 = .ok (.iaload, 1) := by decide +kernel
theorem dX9_scene_172 : decode cX9_scene 172 = .ok (.iastore, 1) := by decide +kernel
theorem dX9_scene_173 : decode cX9_scene 173 = .ok (.iinc 3 1, 3) := by decide +kernel
theorem dX9_scene_176 : decode cX9_scene 176 = .ok (.goto (-33), 3) := by decide +kernel
theorem dX9_scene_179 : decode cX9_scene 179 = .ok (.aload_n 0, 1) := by decide +kernel
theorem dX9_scene_180 : decode cX9_scene 180 = .ok (.getfield 22, 3) := by decide +kernel
theorem dX9_scene_183 : decode cX9_scene 183 = .ok (.iload_n 2, 1) := by decide +kernel
theorem dX9_scene_184 : decode cX9_scene 184 = .ok (.aaload, 1) := by decide +kernel
theorem dX9_scene_185 : decode cX9_scene 185 = .ok (.iconst 0, 1) := by decide +kernel
theorem dX9_scene_186 : decode cX9_scene 186 = .ok (.iaload, 1) := by decide +kernel
theorem dX9_scene_187 : decode cX9_scene 187 = .ok (.ifCond .eq 6, 3) := by decide +kernel
theorem dX9_scene_190 : decode cX9_scene 190 = .ok (.goto 80, 3) := by decide +kernel
theorem dX9_scene_193 : decode cX9_scene 193 = .ok (.aload_n 0, 1) := by decide +kernel
theorem dX9_scene_194 : decode cX9_scene 194 = .ok (.getfield 34, 3) := by decide +kernel
theorem dX9_scene_197 : decode cX9_scene 197 = .ok (.bipush 8, 2) := by decide +kernel
theorem dX9_scene_199 : decode cX9_scene 199 = .ok (.aload_n 0, 1) := by decide +kernel
theorem dX9_scene_200 : decode cX9_scene 200 = .ok (.getfield 166, 3) := by decide +kernel
theorem dX9_scene_203 : decode cX9_scene 203 = .ok (.imul, 1) := by decide +kernel
theorem dX9_scene_204 : decode cX9_scene 204 = .ok (.aload_n 0, 1) := by decide +kernel
theorem dX9_scene_205 : decode cX9_scene 205 = .ok (.getfield 31, 3) := by decide +kernel
theorem dX9_scene_208 : decode cX9_scene 208 = .ok (.aload_n 0, 1) := by decide +kernel
theorem dX9_scene_209 : decode cX9_scene 209 = .ok (.getfield 166, 3) := by decide +kernel
theorem dX9_scene_212 : decode cX9_scene 212 = .ok (.iaload, 1) := by decide +kernel
theorem dX9_scene_213 : decode cX9_scene 213 = .ok (.iadd, 1) := by decide +kernel
theorem dX9_scene_214 : decode cX9_scene 214 = .ok (.aaload, 1) := by decide +kernel
theorem dX9_scene_215 : decode cX9_scene 215 = .ok (.iconst 0, 1) := by decide +kernel
theorem dX9_scene_216 : decode cX9_scene 216 = .ok (.aload_n 0, 1) := by decide +kernel
theorem dX9_scene_217 : decode cX9_scene 217 = .ok (.getfield 22, 3) := by decide +kernel
theorem dX9_scene_220 : decode cX9_scene 220 = .ok (.iload_n 2, 1) := by decide +kernel
theorem dX9_scene_221 : decode cX9_scene 221 = .ok (.aaload, 1) := by decide +kernel
theorem dX9_scene_222 : decode cX9_scene 222 = .ok (.iconst 1, 1) := by decide +kernel
theorem dX9_scene_223 : decode cX9_scene 223 = .ok (.iaload, 1) := by decide +kernel
theorem dX9_scene_224 : decode cX9_scene 224 = .ok (.iastore, 1) := by decide +kernel
theorem dX9_scene_225 : decode cX9_scene 225 = .ok (.aload_n 0, 1) := by decide +kernel
theorem dX9_scene_226 : decode cX9_scene 226 = .ok (.getfield 34, 3) := by decide +kernel
theorem dX9_scene_229 : decode cX9_scene 229 = .ok (.bipush 8, 2) := by decide +kernel
theorem dX9_scene_231 : decode cX9_scene 231 = .ok (.aload_n 0, 1) := by decide +kernel
theorem dX9_scene_232 : decode cX9_scene 232 = .ok (.getfield 166, 3) := by decide +kernel
theorem dX9_scene_235 : decode cX9_scene 235 = .ok (.imul, 1) := by decide +kernel
theorem dX9_scene_236 : decode cX9_scene 236 = .ok (.aload_n 0, 1) := by decide +kernel
theorem dX9_scene_237 : decode cX9_scene 237 = .ok (.getfield 31, 3) := by decide +kernel
theorem dX9_scene_240 : decode cX9_scene 240 = .ok (.aload_n 0, 1) := by decide +kernel
theorem dX9_scene_241 : decode cX9_scene 241 = .ok (.getfield 166, 3) := by decide +kernel
theorem dX9_scene_244 : decode cX9_scene 244 = .ok (.iaload, 1) := by decide +kernel
theorem dX9_scene_245 : decode cX9_scene 245 = .ok (.iadd, 1) := by decide +kernel
theorem dX9_scene_246 : decode cX9_scene 246 = .ok (.aaload, 1) := by decide +kernel
theorem dX9_scene_247 : decode cX9_scene 247 = .ok (.iconst 1, 1) := by decide +kernel
theorem dX9_scene_248 : decode cX9_scene 248 = .ok (.aload_n 0, 1) := by decide +kernel
theorem dX9_scene_249 : decode cX9_scene 249 = .ok (.getfield 22, 3) := by decide +kernel
theorem dX9_scene_252 : decode cX9_scene 252 = .ok (.iload_n 2, 1) := by decide +kernel
theorem dX9_scene_253 : decode cX9_scene 253 = .ok (.aaload, 1) := by decide +kernel
theorem dX9_scene_254 : decode cX9_scene 254 = .ok (.iconst 2, 1) := by decide +kernel
theorem dX9_scene_255 : decode cX9_scene 255 = .ok (.iaload, 1) := by decide +kernel
theorem dX9_scene_256 : decode cX9_scene 256 = .ok (.iastore, 1) := by decide +kernel
theorem dX9_scene_257 : decode cX9_scene 257 = .ok (.aload_n 0, 1) := by decide +kernel
theorem dX9_scene_258 : decode cX9_scene 258 = .ok (.getfield 31, 3) := by decide +kernel
theorem dX9_scene_261 : decode cX9_scene 261 = .ok (.aload_n 0, 1) := by decide +kernel
theorem dX9_scene_262 : decode cX9_scene 262 = .ok (.getfield 166, 3) := by decide +kernel
theorem dX9_scene_265 : decode cX9_scene 265 = .ok (.dup2, 1) := by decide +kernel
theorem dX9_scene_266 : decode cX9_scene 266 = .ok (.iaload, 1) := by decide +kernel
theorem dX9_scene_267 : decode cX9_scene 267 = .ok (.iconst 1, 1) := by decide +kernel
theorem dX9_scene_268 : decode cX9_scene 268 = .ok (.iadd, 1) := by decide +kernel
theorem dX9_scene_269 : decode cX9_scene 269 = .ok (.iastore, 1) := by decide +kernel
theorem dX9_scene_270 : decode cX9_scene 270 = .ok (.iinc 2 1, 3) := by decide +kernel
theorem dX9_scene_273 : decode cX9_scene 273 = .ok (.goto (-140), 3) := by decide +kernel
theorem dX9_scene_276 : decode cX9_scene 276 = .ok (.aload_n 0, 1) := by decide +kernel
theorem dX9_scene_277 : decode cX9_scene 277 = .ok (.dup, 1) := by decide +kernel
theorem dX9_scene_278 : decode cX9_scene 278 = .ok (.getfield 166, 3) := by decide +kernel
theorem dX9_scene_281 : decode cX9_scene 281 = .ok (.iconst 1, 1) := by decide +kernel
theorem dX9_scene_282 : decode cX9_scene 282 = .ok (.iadd, 1) := by decide +kernel
theorem dX9_scene_283 : decode cX9_scene 283 = .ok (.putfield 166, 3) := by decide +kernel
theorem dX9_scene_286 : decode cX9_scene 286 = .ok (.aload_n 0, 1) := by decide +kernel
theorem dX9_scene_287 : decode cX9_scene 287 = .ok (.getfield 166, 3) := by decide +kernel
theorem dX9_scene_290 : decode cX9_scene 290 = .ok (.iconst 1, 1) := by decide +kernel
theorem dX9_scene_291 : decode cX9_scene 291 = .ok (.isub, 1) := by decide +kernel
theorem dX9_scene_292 : decode cX9_scene 292 = .ok (.ireturn, 1) := by decide +kernel
theorem dX9_taskHere_0 : decode cX9_taskHere 0 = .ok (.aload_n 0, 1) := by decide +kernel
theorem dX9_taskHere_1 : decode cX9_taskHere 1 = .ok (.bipush 11, 2) := by decide +kernel
theorem dX9_taskHere_3 : decode cX9_taskHere 3 = .ok (.iconst 5, 1) := by decide +kernel
theorem dX9_taskHere_4 : decode cX9_taskHere 4 = .ok (.iconst 5, 1) := by decide +kernel
theorem dX9_taskHere_5 : decode cX9_taskHere 5 = .ok (.bipush 16, 2) := by decide +kernel
theorem dX9_taskHere_7 : decode cX9_taskHere 7 = .ok (.iconst 0, 1) := by decide +kernel
theorem dX9_taskHere_8 : decode cX9_taskHere 8 = .ok (.iconst 0, 1) := by decide +kernel
theorem dX9_taskHere_9 : decode cX9_taskHere 9 = .ok (.invokevirtual 134, 3) := by decide +kernel
theorem dX9_taskHere_12 : decode cX9_taskHere 12 = .ok (.ifCond .eq 5, 3) := by decide +kernel
theorem dX9_taskHere_15 : decode cX9_taskHere 15 = .ok (.iconst 0, 1) := by decide +kernel
theorem dX9_taskHere_16 : decode cX9_taskHere 16 = .ok (.ireturn, 1) := by decide +kernel
theorem dX9_taskHere_17 : decode cX9_taskHere 17 = .ok (.aload_n 0, 1) := by decide +kernel
theorem dX9_taskHere_18 : decode cX9_taskHere 18 = .ok (.iconst 4, 1) := by decide +kernel
theorem dX9_taskHere_19 : decode cX9_taskHere 19 = .ok (.bipush 18, 2) := by decide +kernel
theorem dX9_taskHere_21 : decode cX9_taskHere 21 = .ok (.bipush 15, 2) := by decide +kernel
theorem dX9_taskHere_23 : decode cX9_taskHere 23 = .ok (.bipush 16, 2) := by decide +kernel
theorem dX9_taskHere_25 : decode cX9_taskHere 25 = .ok (.iconst 0, 1) := by decide +kernel
theorem dX9_taskHere_26 : decode cX9_taskHere 26 = .ok (.iconst 0, 1) := by decide +kernel
theorem dX9_taskHere_27 : decode cX9_taskHere 27 = .ok (.invokevirtual 134, 3) := by decide +kernel
theorem dX9_taskHere_30 : decode cX9_taskHere 30 = .ok (.ifCond .eq 5, 3) := by decide +kernel
theorem dX9_taskHere_33 : decode cX9_taskHere 33 = .ok (.iconst 1, 1) := by decide +kernel
theorem dX9_taskHere_34 : decode cX9_taskHere 34 = .ok (.ireturn, 1) := by decide +kernel
theorem dX9_taskHere_35 : decode cX9_taskHere 35 = .ok (.aload_n 0, 1) := by decide +kernel
theorem dX9_taskHere_36 : decode cX9_taskHere 36 = .ok (.iconst 3, 1) := by decide +kernel
theorem dX9_taskHere_37 : decode cX9_taskHere 37 = .ok (.bipush 15, 2) := by decide +kernel
theorem dX9_taskHere_39 : decode cX9_taskHere 39 = .ok (.bipush 21, 2) := by decide +kernel
theorem dX9_taskHere_41 : decode cX9_taskHere 41 = .ok (.bipush 14, 2) := by decide +kernel
theorem dX9_taskHere_43 : decode cX9_taskHere 43 = .ok (.bipush 20, 2) := by decide +kernel
theorem dX9_taskHere_45 : decode cX9_taskHere 45 = .ok (.iconst 0, 1) := by decide +kernel
theorem dX9_taskHere_46 : decode cX9_taskHere 46 = .ok (.invokevirtual 134, 3) := by decide +kernel
theorem dX9_taskHere_49 : decode cX9_taskHere 49 = .ok (.ifCond .eq 5, 3) := by decide +kernel
theorem dX9_taskHere_52 : decode cX9_taskHere 52 = .ok (.iconst 2, 1) := by decide +kernel
theorem dX9_taskHere_53 : decode cX9_taskHere 53 = .ok (.ireturn, 1) := by decide +kernel
theorem dX9_taskHere_54 : decode cX9_taskHere 54 = .ok (.aload_n 0, 1) := by decide +kernel
theorem dX9_taskHere_55 : decode cX9_taskHere 55 = .ok (.bipush 18, 2) := by decide +kernel
theorem dX9_taskHere_57 : decode cX9_taskHere 57 = .ok (.bipush 15, 2) := by decide +kernel
theorem dX9_taskHere_59 : decode cX9_taskHere 59 = .ok (.bipush 15, 2) := by decide +kernel
theorem dX9_taskHere_61 : decode cX9_taskHere 61 = .ok (.bipush 13, 2) := by decide +kernel
theorem dX9_taskHere_63 : decode cX9_taskHere 63 = .ok (.iconst 0, 1) := by decide +kernel
theorem dX9_taskHere_64 : decode cX9_taskHere 64 = .ok (.iconst 0, 1) := by decide +kernel
theorem dX9_taskHere_65 : decode cX9_taskHere 65 = .ok (.invokevirtual 134, 3) := by decide +kernel
theorem dX9_taskHere_68 : decode cX9_taskHere 68 = .ok (.ifCond .eq 5, 3) := by decide +kernel
theorem dX9_taskHere_71 : decode cX9_taskHere 71 = .ok (.iconst 3, 1) := by decide +kernel
theorem dX9_taskHere_72 : decode cX9_taskHere 72 = .ok (.ireturn, 1) := by decide +kernel
theorem dX9_taskHere_73 : decode cX9_taskHere 73 = .ok (.aload_n 0, 1) := by decide +kernel
theorem dX9_taskHere_74 : decode cX9_taskHere 74 = .ok (.bipush 23, 2) := by decide +kernel
theorem dX9_taskHere_76 : decode cX9_taskHere 76 = .ok (.iconst 1, 1) := by decide +kernel
theorem dX9_taskHere_77 : decode cX9_taskHere 77 = .ok (.bipush 20, 2) := by decide +kernel
theorem dX9_taskHere_79 : decode cX9_taskHere 79 = .ok (.iconst 3, 1) := by decide +kernel
theorem dX9_taskHere_80 : decode cX9_taskHere 80 = .ok (.bipush 8, 2) := by decide +kernel
theorem dX9_taskHere_82 : decode cX9_taskHere 82 = .ok (.iconst 0, 1) := by decide +kernel
theorem dX9_taskHere_83 : decode cX9_taskHere 83 = .ok (.invokevirtual 134, 3) := by decide +kernel
theorem dX9_taskHere_86 : decode cX9_taskHere 86 = .ok (.ifCond .eq 7, 3) := by decide +kernel
theorem dX9_taskHere_89 : decode cX9_taskHere 89 = .ok (.iconst 4, 1) := by decide +kernel
theorem dX9_taskHere_90 : decode cX9_taskHere 90 = .ok (.goto 4, 3) := by decide +kernel
theorem dX9_taskHere_93 : decode cX9_taskHere 93 = .ok (.iconst (-1), 1) := by decide +kernel
theorem dX9_taskHere_94 : decode cX9_taskHere 94 = .ok (.ireturn, 1) := by decide +kernel
theorem dX9_taskClause_0 : decode cX9_taskClause 0 = .ok (.aload_n 0, 1) := by decide +kernel
theorem dX9_taskClause_1 : decode cX9_taskClause 1 = .ok (.invokevirtual 176, 3) := by decide +kernel
theorem dX9_taskClause_4 : decode cX9_taskClause 4 = .ok (.istore_n 1, 1) := by decide +kernel
theorem dX9_taskClause_5 : decode cX9_taskClause 5 = .ok (.aload_n 0, 1) := by decide +kernel
theorem dX9_taskClause_6 : decode cX9_taskClause 6 = .ok (.iload_n 1, 1) := by decide +kernel
theorem dX9_taskClause_7 : decode cX9_taskClause 7 = .ok (.bipush 16, 2) := by decide +kernel
theorem dX9_taskClause_9 : decode cX9_taskClause 9 = .ok (.invokevirtual 141, 3) := by decide +kernel
theorem dX9_taskClause_12 : decode cX9_taskClause 12 = .ok (.aload_n 0, 1) := by decide +kernel
theorem dX9_taskClause_13 : decode cX9_taskClause 13 = .ok (.getfield 92, 3) := by decide +kernel
theorem dX9_taskClause_16 : decode cX9_taskClause 16 = .ok (.ifCond .eq 4, 3) := by decide +kernel
theorem dX9_taskClause_19 : decode cX9_taskClause 19 = .ok (.return_, 1) := by decide +kernel
theorem dX9_taskClause_20 : decode cX9_taskClause 20 = .ok (.aload_n 0, 1) := by decide +kernel
theorem dX9_taskClause_21 : decode cX9_taskClause 21 = .ok (.invokevirtual 144, 3) := by decide +kernel
theorem dX9_taskClause_24 : decode cX9_taskClause 24 = .ok (.aload_n 0, 1) := by decide +kernel
theorem dX9_taskClause_25 : decode cX9_taskClause 25 = .ok (.iconst 0, 1) := by decide +kernel
theorem dX9_taskClause_26 : decode cX9_taskClause 26 = .ok (.iload_n 1, 1) := by decide +kernel
theorem dX9_taskClause_27 : decode cX9_taskClause 27 = .ok (.iconst 3, 1) := by decide +kernel
theorem dX9_taskClause_28 : decode cX9_taskClause 28 = .ok (.if_icmp .ge 8, 3) := by decide +kernel
theorem dX9_taskClause_31 : decode cX9_taskClause 31 = .ok (.bipush 7, 2) := by decide +kernel
theorem dX9_taskClause_33 : decode cX9_taskClause 33 = .ok (.goto 5, 3) := by decide +kernel
theorem dX9_taskClause_36 : decode cX9_taskClause 36 = .ok (.bipush 9, 2) := by decide +kernel
theorem dX9_taskClause_38 : decode cX9_taskClause 38 = .ok (.iconst (-1), 1) := by decide +kernel
theorem dX9_taskClause_39 : decode cX9_taskClause 39 = .ok (.invokevirtual 147, 3) := by decide +kernel
theorem dX9_taskClause_42 : decode cX9_taskClause 42 = .ok (.istore_n 2, 1) := by decide +kernel
theorem dX9_taskClause_43 : decode cX9_taskClause 43 = .ok (.aload_n 0, 1) := by decide +kernel
theorem dX9_taskClause_44 : decode cX9_taskClause 44 = .ok (.bipush 59, 2) := by decide +kernel
theorem dX9_taskClause_46 : decode cX9_taskClause 46 = .ok (.invokevirtual 155, 3) := by decide +kernel
theorem dX9_taskClause_49 : decode cX9_taskClause 49 = .ok (.aload_n 0, 1) := by decide +kernel
theorem dX9_taskClause_50 : decode cX9_taskClause 50 = .ok (.dup, 1) := by decide +kernel
theorem dX9_taskClause_51 : decode cX9_taskClause 51 = .ok (.getfield 128, 3) := by decide +kernel
theorem dX9_taskClause_54 : decode cX9_taskClause 54 = .ok (.iconst 1, 1) := by decide +kernel
theorem dX9_taskClause_55 : decode cX9_taskClause 55 = .ok (.iadd, 1) := by decide +kernel
theorem dX9_taskClause_56 : decode cX9_taskClause 56 = .ok (.putfield 128, 3) := by decide +kernel
theorem dX9_taskClause_59 : decode cX9_taskClause 59 = .ok (.aload_n 0, 1) := by decide +kernel
theorem dX9_taskClause_60 : decode cX9_taskClause 60 = .ok (.getfield 92, 3) := by decide +kernel
theorem dX9_taskClause_63 : decode cX9_taskClause 63 = .ok (.ifCond .ne 38, 3) := by decide +kernel
theorem dX9_taskClause_66 : decode cX9_taskClause 66 = .ok (.aload_n 0, 1) := by decide +kernel
theorem dX9_taskClause_67 : decode cX9_taskClause 67 = .ok (.getfield 37, 3) := by decide +kernel
theorem dX9_taskClause_70 : decode cX9_taskClause 70 = .ok (.aload_n 0, 1) := by decide +kernel
theorem dX9_taskClause_71 : decode cX9_taskClause 71 = .ok (.getfield 179, 3) := by decide +kernel
theorem dX9_taskClause_74 : decode cX9_taskClause 74 = .ok (.aaload, 1) := by decide +kernel
theorem dX9_taskClause_75 : decode cX9_taskClause 75 = .ok (.iload_n 1, 1) := by decide +kernel
theorem dX9_taskClause_76 : decode cX9_taskClause 76 = .ok (.iload_n 1, 1) := by decide +kernel
theorem dX9_taskClause_77 : decode cX9_taskClause 77 = .ok (.iconst 2, 1) := by decide +kernel
theorem dX9_taskClause_78 : decode cX9_taskClause 78 = .ok (.if_icmp .ge 21, 3) := by decide +kernel
theorem dX9_taskClause_81 : decode cX9_taskClause 81 = .ok (.aload_n 0, 1) := by decide +kernel
theorem dX9_taskClause_82 : decode cX9_taskClause 82 = .ok (.getfield 37, 3) := by decide +kernel
theorem dX9_taskClause_85 : decode cX9_taskClause 85 = .ok (.aload_n 0, 1) := by decide +kernel
theorem dX9_taskClause_86 : decode cX9_taskClause 86 = .ok (.getfield 179, 3) := by decide +kernel
theorem dX9_taskClause_89 : decode cX9_taskClause 89 = .ok (.aaload, 1) := by decide +kernel
theorem dX9_taskClause_90 : decode cX9_taskClause 90 = .ok (.iload_n 1, 1) := by decide +kernel
theorem dX9_taskClause_91 : decode cX9_taskClause 91 = .ok (.iaload, 1) := by decide +kernel
theorem dX9_taskClause_92 : decode cX9_taskClause 92 = .ok (.iconst 1, 1) := by decide +kernel
theorem dX9_taskClause_93 : decode cX9_taskClause 93 = .ok (.iload_n 2, 1) := by decide +kernel
theorem dX9_taskClause_94 : decode cX9_taskClause 94 = .ok (.ishl, 1) := by decide +kernel
theorem dX9_taskClause_95 : decode cX9_taskClause 95 = .ok (.ior, 1) := by decide +kernel
theorem dX9_taskClause_96 : decode cX9_taskClause 96 = .ok (.goto 4, 3) := by decide +kernel
theorem dX9_taskClause_99 : decode cX9_taskClause 99 = .ok (.iload_n 2, 1) := by decide +kernel
theorem dX9_taskClause_100 : decode cX9_taskClause 100 = .ok (.iastore, 1) := by decide +kernel
theorem dX9_taskClause_101 : decode cX9_taskClause 101 = .ok (.return_, 1) := by decide +kernel
theorem dX9_task_0 : decode cX9_task 0 = .ok (.aload_n 0, 1) := by decide +kernel
theorem dX9_task_1 : decode cX9_task 1 = .ok (.iconst 0, 1) := by decide +kernel
theorem dX9_task_2 : decode cX9_task 2 = .ok (.putfield 76, 3) := by decide +kernel
theorem dX9_task_5 : decode cX9_task 5 = .ok (.aload_n 0, 1) := by decide +kernel
theorem dX9_task_6 : decode cX9_task 6 = .ok (.iload_n 1, 1) := by decide +kernel
theorem dX9_task_7 : decode cX9_task 7 = .ok (.iconst 0, 1) := by decide +kernel
theorem dX9_task_8 : decode cX9_task 8 = .ok (.aload_n 0, 1) := by decide +kernel
theorem dX9_task_9 : decode cX9_task 9 = .ok (.getfield 79, 3) := by decide +kernel
theorem dX9_task_12 : decode cX9_task 12 = .ok (.sipush 200, 3) := by decide +kernel
theorem dX9_task_15 : decode cX9_task 15 = .ok (.invokestatic 182, 3) := by decide +kernel
theorem dX9_task_18 : decode cX9_task 18 = .ok (.invokestatic 113, 3) := by decide +kernel
theorem dX9_task_21 : decode cX9_task 21 = .ok (.ifCond .ne 7, 3) := by decide +kernel
theorem dX9_task_24 : decode cX9_task 24 = .ok (.iconst 1, 1) := by decide +kernel
theorem dX9_task_25 : decode cX9_task 25 = .ok (.goto 4, 3) := by decide +kernel
theorem dX9_task_28 : decode cX9_task 28 = .ok (.iconst 0, 1) := by decide +kernel
theorem dX9_task_29 : decode cX9_task 29 = .ok (.iconst 1, 1) := by decide +kernel
theorem dX9_task_30 : decode cX9_task 30 = .ok (.invokevirtual 162, 3) := by decide +kernel
theorem dX9_task_33 : decode cX9_task 33 = .ok (.ifCond .eq 5, 3) := by decide +kernel
theorem dX9_task_36 : decode cX9_task 36 = .ok (.iconst 0, 1) := by decide +kernel
theorem dX9_task_37 : decode cX9_task 37 = .ok (.ireturn, 1) := by decide +kernel
theorem dX9_task_38 : decode cX9_task 38 = .ok (.aload_n 0, 1) := by decide +kernel
theorem dX9_task_39 : decode cX9_task 39 = .ok (.iload_n 1, 1) := by decide +kernel
theorem dX9_task_40 : decode cX9_task 40 = .ok (.aload_n 0, 1) := by decide +kernel
theorem dX9_task_41 : decode cX9_task 41 = .ok (.getfield 179, 3) := by decide +kernel
theorem dX9_task_44 : decode cX9_task 44 = .ok (.bipush 6, 2) := by decide +kernel
theorem dX9_task_46 : decode cX9_task 46 = .ok (.if_icmp .ne 7, 3) := by decide +kernel
theorem dX9_task_49 : decode cX9_task 49 = .ok (.iconst 1, 1) := by decide +kernel
theorem dX9_task_50 : decode cX9_task 50 = .ok (.goto 4, 3) := by decide +kernel
theorem dX9_task_53 : decode cX9_task 53 = .ok (.iconst 0, 1) := by decide +kernel
theorem dX9_task_54 : decode cX9_task 54 = .ok (.invokevirtual 169, 3) := by decide +kernel
theorem dX9_task_57 : decode cX9_task 57 = .ok (.ifCond .ne 5, 3) := by decide +kernel
theorem dX9_task_60 : decode cX9_task 60 = .ok (.iconst (-1), 1) := by decide +kernel
theorem dX9_task_61 : decode cX9_task 61 = .ok (.ireturn, 1) := by decide +kernel
theorem dX9_task_62 : decode cX9_task 62 = .ok (.aload_n 0, 1) := by decide +kernel
theorem dX9_task_63 : decode cX9_task 63 = .ok (.getfield 37, 3) := by decide +kernel
theorem dX9_task_66 : decode cX9_task 66 = .ok (.aload_n 0, 1) := by decide +kernel
theorem dX9_task_67 : decode cX9_task 67 = .ok (.getfield 179, 3) := by decide +kernel
theorem dX9_task_70 : decode cX9_task 70 = .ok (.aaload, 1) := by decide +kernel
theorem dX9_task_71 : decode cX9_task 71 = .ok (.iconst 0, 1) := by decide +kernel
theorem dX9_task_72 : decode cX9_task 72 = .ok (.iconst 0, 1) := by decide +kernel
theorem dX9_task_73 : decode cX9_task 73 = .ok (.iastore, 1) := by decide +kernel
theorem dX9_task_74 : decode cX9_task 74 = .ok (.aload_n 0, 1) := by decide +kernel
theorem dX9_task_75 : decode cX9_task 75 = .ok (.getfield 37, 3) := by decide +kernel
theorem dX9_task_78 : decode cX9_task 78 = .ok (.aload_n 0, 1) := by decide +kernel
theorem dX9_task_79 : decode cX9_task 79 = .ok (.getfield 179, 3) := by decide +kernel
theorem dX9_task_82 : decode cX9_task 82 = .ok (.aaload, 1) := by decide +kernel
theorem dX9_task_83 : decode cX9_task 83 = .ok (.iconst 1, 1) := by decide +kernel
theorem dX9_task_84 : decode cX9_task 84 = .ok (.iconst 0, 1) := by decide +kernel
theorem dX9_task_85 : decode cX9_task 85 = .ok (.iastore, 1) := by decide +kernel
theorem dX9_task_86 : decode cX9_task 86 = .ok (.aload_n 0, 1) := by decide +kernel
theorem dX9_task_87 : decode cX9_task 87 = .ok (.getfield 37, 3) := by decide +kernel
theorem dX9_task_90 : decode cX9_task 90 = .ok (.aload_n 0, 1) := by decide +kernel
theorem dX9_task_91 : decode cX9_task 91 = .ok (.getfield 179, 3) := by decide +kernel
theorem dX9_task_94 : decode cX9_task 94 = .ok (.aaload, 1) := by decide +kernel
theorem dX9_task_95 : decode cX9_task 95 = .ok (.iconst 2, 1) := by decide +kernel
theorem dX9_task_96 : decode cX9_task 96 = .ok (.iconst (-1), 1) := by decide +kernel
theorem dX9_task_97 : decode cX9_task 97 = .ok (.iastore, 1) := by decide +kernel
theorem dX9_task_98 : decode cX9_task 98 = .ok (.aload_n 0, 1) := by decide +kernel
theorem dX9_task_99 : decode cX9_task 99 = .ok (.getfield 37, 3) := by decide +kernel
theorem dX9_task_102 : decode cX9_task 102 = .ok (.aload_n 0, 1) := by decide +kernel
theorem dX9_task_103 : decode cX9_task 103 = .ok (.getfield 179, 3) := by decide +kernel
theorem dX9_task_106 : decode cX9_task 106 = .ok (.aaload, 1) := by decide +kernel
theorem dX9_task_107 : decode cX9_task 107 = .ok (.iconst 3, 1) := by decide +kernel
theorem dX9_task_108 : decode cX9_task 108 = .ok (.iconst 4, 1) := by decide +kernel
theorem dX9_task_109 : decode cX9_task 109 = .ok (.iastore, 1) := by decide +kernel
theorem dX9_task_110 : decode cX9_task 110 = .ok (.aload_n 0, 1) := by decide +kernel
theorem dX9_task_111 : decode cX9_task 111 = .ok (.getfield 37, 3) := by decide +kernel
theorem dX9_task_114 : decode cX9_task 114 = .ok (.aload_n 0, 1) := by decide +kernel
theorem dX9_task_115 : decode cX9_task 115 = .ok (.getfield 179, 3) := by decide +kernel
theorem dX9_task_118 : decode cX9_task 118 = .ok (.aaload, 1) := by decide +kernel
theorem dX9_task_119 : decode cX9_task 119 = .ok (.iconst 4, 1) := by decide +kernel
theorem dX9_task_120 : decode cX9_task 120 = .ok (.iconst 0, 1) := by decide +kernel
theorem dX9_task_121 : decode cX9_task 121 = .ok (.iastore, 1) := by decide +kernel
theorem dX9_task_122 : decode cX9_task 122 = .ok (.aload_n 0, 1) := by decide +kernel
theorem dX9_task_123 : decode cX9_task 123 = .ok (.getfield 92, 3) := by decide +kernel
theorem dX9_task_126 : decode cX9_task 126 = .ok (.ifCond .ne 25, 3) := by decide +kernel
theorem dX9_task_129 : decode cX9_task 129 = .ok (.aload_n 0, 1) := by decide +kernel
theorem dX9_task_130 : decode cX9_task 130 = .ok (.getfield 85, 3) := by decide +kernel
theorem dX9_task_133 : decode cX9_task 133 = .ok (.aload_n 0, 1) := by decide +kernel
theorem dX9_task_134 : decode cX9_task 134 = .ok (.getfield 82, 3) := by decide +kernel
theorem dX9_task_137 : decode cX9_task 137 = .ok (.if_icmp .ge 14, 3) := by decide +kernel
theorem dX9_task_140 : decode cX9_task 140 = .ok (.aload_n 0, 1) := by decide +kernel
theorem dX9_task_141 : decode cX9_task 141 = .ok (.invokevirtual 186, 3) := by decide +kernel
theorem dX9_task_144 : decode cX9_task 144 = .ok (.aload_n 0, 1) := by decide +kernel
theorem dX9_task_145 : decode cX9_task 145 = .ok (.invokevirtual 101, 3) := by decide +kernel
theorem dX9_task_148 : decode cX9_task 148 = .ok (.goto (-26), 3) := by decide +kernel
theorem dX9_task_151 : decode cX9_task 151 = .ok (.aload_n 0, 1) := by decide +kernel
theorem dX9_task_152 : decode cX9_task 152 = .ok (.aload_n 0, 1) := by decide +kernel
theorem dX9_task_153 : decode cX9_task 153 = .ok (.getfield 95, 3) := by decide +kernel
theorem dX9_task_156 : decode cX9_task 156 = .ok (.putfield 9, 3) := by decide +kernel
theorem dX9_task_159 : decode cX9_task 159 = .ok (.aload_n 0, 1) := by decide +kernel
theorem dX9_task_160 : decode cX9_task 160 = .ok (.getfield 92, 3) := by decide +kernel
theorem dX9_task_163 : decode cX9_task 163 = .ok (.ifCond .eq 11, 3) := by decide +kernel
theorem dX9_task_166 : decode cX9_task 166 = .ok (.aload_n 0, 1) := by decide +kernel
theorem dX9_task_167 : decode cX9_task 167 = .ok (.getfield 92, 3) := by decide +kernel
theorem dX9_task_170 : decode cX9_task 170 = .ok (.bipush 10, 2) := by decide +kernel
theorem dX9_task_172 : decode cX9_task 172 = .ok (.isub, 1) := by decide +kernel
theorem dX9_task_173 : decode cX9_task 173 = .ok (.ireturn, 1) := by decide +kernel
theorem dX9_task_174 : decode cX9_task 174 = .ok (.aload_n 0, 1) := by decide +kernel
theorem dX9_task_175 : decode cX9_task 175 = .ok (.dup, 1) := by decide +kernel
theorem dX9_task_176 : decode cX9_task 176 = .ok (.getfield 179, 3) := by decide +kernel
theorem dX9_task_179 : decode cX9_task 179 = .ok (.iconst 1, 1) := by decide +kernel
theorem dX9_task_180 : decode cX9_task 180 = .ok (.iadd, 1) := by decide +kernel
theorem dX9_task_181 : decode cX9_task 181 = .ok (.putfield 179, 3) := by decide +kernel
theorem dX9_task_184 : decode cX9_task 184 = .ok (.aload_n 0, 1) := by decide +kernel
theorem dX9_task_185 : decode cX9_task 185 = .ok (.getfield 179, 3) := by decide +kernel
theorem dX9_task_188 : decode cX9_task 188 = .ok (.iconst 1, 1) := by decide +kernel
theorem dX9_task_189 : decode cX9_task 189 = .ok (.isub, 1) := by decide +kernel
theorem dX9_task_190 : decode cX9_task 190 = .ok (.ireturn, 1) := by decide +kernel
theorem dX9_nameHere_0 : decode cX9_nameHere 0 = .ok (.aload_n 0, 1) := by decide +kernel
theorem dX9_nameHere_1 : decode cX9_nameHere 1 = .ok (.bipush 12, 2) := by decide +kernel
theorem dX9_nameHere_3 : decode cX9_nameHere 3 = .ok (.bipush 9, 2) := by decide +kernel
theorem dX9_nameHere_5 : decode cX9_nameHere 5 = .ok (.bipush 11, 2) := by decide +kernel
theorem dX9_nameHere_7 : decode cX9_nameHere 7 = .ok (.iconst 5, 1) := by decide +kernel
theorem dX9_nameHere_8 : decode cX9_nameHere 8 = .ok (.iconst 0, 1) := by decide +kernel
theorem dX9_nameHere_9 : decode cX9_nameHere 9 = .ok (.iconst 0, 1) := by decide +kernel
theorem dX9_nameHere_10 : decode cX9_nameHere 10 = .ok (.invokevirtual 134, 3) := by decide +kernel
theorem dX9_nameHere_13 : decode cX9_nameHere 13 = .ok (.ifCond .eq 5, 3) := by decide +kernel
theorem dX9_nameHere_16 : decode cX9_nameHere 16 = .ok (.iconst 0, 1) := by decide +kernel
theorem dX9_nameHere_17 : decode cX9_nameHere 17 = .ok (.ireturn, 1) := by decide +kernel
theorem dX9_nameHere_18 : decode cX9_nameHere 18 = .ok (.aload_n 0, 1) := by decide +kernel
theorem dX9_nameHere_19 : decode cX9_nameHere 19 = .ok (.iconst 4, 1) := by decide +kernel
theorem dX9_nameHere_20 : decode cX9_nameHere 20 = .ok (.bipush 18, 2) := by decide +kernel
theorem dX9_nameHere_22 : decode cX9_nameHere 22 = .ok (.bipush 15, 2) := by decide +kernel
theorem dX9_nameHere_24 : decode cX9_nameHere 24 = .ok (.bipush 16, 2) := by decide +kernel
theorem dX9_nameHere_26 : decode cX9_nameHere 26 = .ok (.iconst 0, 1) := by decide +kernel
theorem dX9_nameHere_27 : decode cX9_nameHere 27 = .ok (.iconst 0, 1) := by decide +kernel
theorem dX9_nameHere_28 : decode cX9_nameHere 28 = .ok (.invokevirtual 134, 3) := by decide +kernel
theorem dX9_nameHere_31 : decode cX9_nameHere 31 = .ok (.ifCond .eq 5, 3) := by decide +kernel
theorem dX9_nameHere_34 : decode cX9_nameHere 34 = .ok (.iconst 1, 1) := by decide +kernel
theorem dX9_nameHere_35 : decode cX9_nameHere 35 = .ok (.ireturn, 1) := by decide +kernel
theorem dX9_nameHere_36 : decode cX9_nameHere 36 = .ok (.aload_n 0, 1) := by decide +kernel
theorem dX9_nameHere_37 : decode cX9_nameHere 37 = .ok (.bipush 14, 2) := by decide +kernel
theorem dX9_nameHere_39 : decode cX9_nameHere 39 = .ok (.iconst 5, 1) := by decide +kernel
theorem dX9_nameHere_40 : decode cX9_nameHere 40 = .ok (.iconst 1, 1) := by decide +kernel
theorem dX9_nameHere_41 : decode cX9_nameHere 41 = .ok (.bipush 18, 2) := by decide +kernel
theorem dX9_nameHere_43 : decode cX9_nameHere 43 = .ok (.iconst 0, 1) := by decide +kernel
theorem dX9_nameHere_44 : decode cX9_nameHere 44 = .ok (.iconst 0, 1) := by decide +kernel
theorem dX9_nameHere_45 : decode cX9_nameHere 45 = .ok (.invokevirtual 134, 3) := by decide +kernel
theorem dX9_nameHere_48 : decode cX9_nameHere 48 = .ok (.ifCond .eq 5, 3) := by decide +kernel
theorem dX9_nameHere_51 : decode cX9_nameHere 51 = .ok (.iconst 2, 1) := by decide +kernel
theorem dX9_nameHere_52 : decode cX9_nameHere 52 = .ok (.ireturn, 1) := by decide +kernel
theorem dX9_nameHere_53 : decode cX9_nameHere 53 = .ok (.aload_n 0, 1) := by decide +kernel
theorem dX9_nameHere_54 : decode cX9_nameHere 54 = .ok (.bipush 19, 2) := by decide +kernel
theorem dX9_nameHere_56 : decode cX9_nameHere 56 = .ok (.bipush 9, 2) := by decide +kernel
theorem dX9_nameHere_58 : decode cX9_nameHere 58 = .ok (.bipush 26, 2) := by decide +kernel
theorem dX9_nameHere_60 : decode cX9_nameHere 60 = .ok (.iconst 5, 1) := by decide +kernel
theorem dX9_nameHere_61 : decode cX9_nameHere 61 = .ok (.iconst 0, 1) := by decide +kernel
theorem dX9_nameHere_62 : decode cX9_nameHere 62 = .ok (.iconst 0, 1) := by decide +kernel
theorem dX9_nameHere_63 : decode cX9_nameHere 63 = .ok (.invokevirtual 134, 3) := by decide +kernel
theorem dX9_nameHere_66 : decode cX9_nameHere 66 = .ok (.ifCond .eq 5, 3) := by decide +kernel
theorem dX9_nameHere_69 : decode cX9_nameHere 69 = .ok (.iconst 3, 1) := by decide +kernel
theorem dX9_nameHere_70 : decode cX9_nameHere 70 = .ok (.ireturn, 1) := by decide +kernel
theorem dX9_nameHere_71 : decode cX9_nameHere 71 = .ok (.aload_n 0, 1) := by decide +kernel
theorem dX9_nameHere_72 : decode cX9_nameHere 72 = .ok (.bipush 16, 2) := by decide +kernel
theorem dX9_nameHere_74 : decode cX9_nameHere 74 = .ok (.iconst 1, 1) := by decide +kernel
theorem dX9_nameHere_75 : decode cX9_nameHere 75 = .ok (.iconst 3, 1) := by decide +kernel
theorem dX9_nameHere_76 : decode cX9_nameHere 76 = .ok (.iconst 5, 1) := by decide +kernel
theorem dX9_nameHere_77 : decode cX9_nameHere 77 = .ok (.iconst 0, 1) := by decide +kernel
theorem dX9_nameHere_78 : decode cX9_nameHere 78 = .ok (.iconst 0, 1) := by decide +kernel
theorem dX9_nameHere_79 : decode cX9_nameHere 79 = .ok (.invokevirtual 134, 3) := by decide +kernel
theorem dX9_nameHere_82 : decode cX9_nameHere 82 = .ok (.ifCond .eq 5, 3) := by decide +kernel
theorem dX9_nameHere_85 : decode cX9_nameHere 85 = .ok (.iconst 4, 1) := by decide +kernel
theorem dX9_nameHere_86 : decode cX9_nameHere 86 = .ok (.ireturn, 1) := by decide +kernel
theorem dX9_nameHere_87 : decode cX9_nameHere 87 = .ok (.aload_n 0, 1) := by decide +kernel
theorem dX9_nameHere_88 : decode cX9_nameHere 88 = .ok (.bipush 6, 2) := by decide +kernel
theorem dX9_nameHere_90 : decode cX9_nameHere 90 = .ok (.bipush 21, 2) := by decide +kernel
theorem dX9_nameHere_92 : decode cX9_nameHere 92 = .ok (.bipush 12, 2) := by decide +kernel
theorem dX9_nameHere_94 : decode cX9_nameHere 94 = .ok (.bipush 12, 2) := by decide +kernel
theorem dX9_nameHere_96 : decode cX9_nameHere 96 = .ok (.iconst 0, 1) := by decide +kernel
theorem dX9_nameHere_97 : decode cX9_nameHere 97 = .ok (.iconst 0, 1) := by decide +kernel
theorem dX9_nameHere_98 : decode cX9_nameHere 98 = .ok (.invokevirtual 134, 3) := by decide +kernel
theorem dX9_nameHere_101 : decode cX9_nameHere 101 = .ok (.ifCond .eq 5, 3) := by decide +kernel
theorem dX9_nameHere_104 : decode cX9_nameHere 104 = .ok (.iconst 5, 1) := by decide +kernel
theorem dX9_nameHere_105 : decode cX9_nameHere 105 = .ok (.ireturn, 1) := by decide +kernel
theorem dX9_nameHere_106 : decode cX9_nameHere 106 = .ok (.aload_n 0, 1) := by decide +kernel
theorem dX9_nameHere_107 : decode cX9_nameHere 107 = .ok (.bipush 15, 2) := by decide +kernel
theorem dX9_nameHere_109 : decode cX9_nameHere 109 = .ok (.iconst 4, 1) := by decide +kernel
theorem dX9_nameHere_110 : decode cX9_nameHere 110 = .ok (.iconst 4, 1) := by decide +kernel
theorem dX9_nameHere_111 : decode cX9_nameHere 111 = .ok (.iconst 0, 1) := by decide +kernel
theorem dX9_nameHere_112 : decode cX9_nameHere 112 = .ok (.iconst 0, 1) := by decide +kernel
theorem dX9_nameHere_113 : decode cX9_nameHere 113 = .ok (.iconst 0, 1) := by decide +kernel
theorem dX9_nameHere_114 : decode cX9_nameHere 114 = .ok (.invokevirtual 134, 3) := by decide +kernel
theorem dX9_nameHere_117 : decode cX9_nameHere 117 = .ok (.ifCond .eq 6, 3) := by decide +kernel
theorem dX9_nameHere_120 : decode cX9_nameHere 120 = .ok (.bipush 6, 2) := by decide +kernel
theorem dX9_nameHere_122 : decode cX9_nameHere 122 = .ok (.ireturn, 1) := by decide +kernel
theorem dX9_nameHere_123 : decode cX9_nameHere 123 = .ok (.aload_n 0, 1) := by decide +kernel
theorem dX9_nameHere_124 : decode cX9_nameHere 124 = .ok (.bipush 23, 2) := by decide +kernel
theorem dX9_nameHere_126 : decode cX9_nameHere 126 = .ok (.iconst 1, 1) := by decide +kernel
theorem dX9_nameHere_127 : decode cX9_nameHere 127 = .ok (.bipush 20, 2) := by decide +kernel
theorem dX9_nameHere_129 : decode cX9_nameHere 129 = .ok (.iconst 3, 1) := by decide +kernel
theorem dX9_nameHere_130 : decode cX9_nameHere 130 = .ok (.bipush 8, 2) := by decide +kernel
theorem dX9_nameHere_132 : decode cX9_nameHere 132 = .ok (.iconst 0, 1) := by decide +kernel
theorem dX9_nameHere_133 : decode cX9_nameHere 133 = .ok (.invokevirtual 134, 3) := by decide +kernel
theorem dX9_nameHere_136 : decode cX9_nameHere 136 = .ok (.ifCond .eq 6, 3) := by decide +kernel
theorem dX9_nameHere_139 : decode cX9_nameHere 139 = .ok (.bipush 7, 2) := by decide +kernel
theorem dX9_nameHere_141 : decode cX9_nameHere 141 = .ok (.ireturn, 1) := by decide +kernel
theorem dX9_nameHere_142 : decode cX9_nameHere 142 = .ok (.aload_n 0, 1) := by decide +kernel
theorem dX9_nameHere_143 : decode cX9_nameHere 143 = .ok (.iconst 3, 1) := by decide +kernel
theorem dX9_nameHere_144 : decode cX9_nameHere 144 = .ok (.bipush 8, 2) := by decide +kernel
theorem dX9_nameHere_146 : decode cX9_nameHere 146 = .ok (.iconst 1, 1) := by decide +kernel
theorem dX9_nameHere_147 : decode cX9_nameHere 147 = .ok (.bipush 14, 2) := by decide +kernel
theorem dX9_nameHere_149 : decode cX9_nameHere 149 = .ok (.bipush 7, 2) := by decide +kernel
theorem dX9_nameHere_151 : decode cX9_nameHere 151 = .ok (.iconst 5, 1) := by decide +kernel
theorem dX9_nameHere_152 : decode cX9_nameHere 152 = .ok (.invokevirtual 134, 3) := by decide +kernel
theorem dX9_nameHere_155 : decode cX9_nameHere 155 = .ok (.ifCond .eq 6, 3) := by decide +kernel
theorem dX9_nameHere_158 : decode cX9_nameHere 158 = .ok (.bipush 8, 2) := by decide +kernel
theorem dX9_nameHere_160 : decode cX9_nameHere 160 = .ok (.ireturn, 1) := by decide +kernel
theorem dX9_nameHere_161 : decode cX9_nameHere 161 = .ok (.aload_n 0, 1) := by decide +kernel
theorem dX9_nameHere_162 : decode cX9_nameHere 162 = .ok (.bipush 11, 2) := by decide +kernel
theorem dX9_nameHere_164 : decode cX9_nameHere 164 = .ok (.bipush 14, 2) := by decide +kernel
theorem dX9_nameHere_166 : decode cX9_nameHere 166 = .ok (.bipush 15, 2) := by decide +kernel
theorem dX9_nameHere_168 : decode cX9_nameHere 168 = .ok (.bipush 23, 2) := by decide +kernel
theorem dX9_nameHere_170 : decode cX9_nameHere 170 = .ok (.bipush 19, 2) := by decide +kernel
theorem dX9_nameHere_172 : decode cX9_nameHere 172 = .ok (.iconst 0, 1) := by decide +kernel
theorem dX9_nameHere_173 : decode cX9_nameHere 173 = .ok (.invokevirtual 134, 3) := by decide +kernel
theorem dX9_nameHere_176 : decode cX9_nameHere 176 = .ok (.ifCond .eq 6, 3) := by decide +kernel
theorem dX9_nameHere_179 : decode cX9_nameHere 179 = .ok (.bipush 9, 2) := by decide +kernel
theorem dX9_nameHere_181 : decode cX9_nameHere 181 = .ok (.ireturn, 1) := by decide +kernel
theorem dX9_nameHere_182 : decode cX9_nameHere 182 = .ok (.aload_n 0, 1) := by decide +kernel
theorem dX9_nameHere_183 : decode cX9_nameHere 183 = .ok (.bipush 20, 2) := by decide +kernel
theorem dX9_nameHere_185 : decode cX9_nameHere 185 = .ok (.iconst 5, 1) := by decide +kernel
theorem dX9_nameHere_186 : decode cX9_nameHere 186 = .ok (.bipush 14, 2) := by decide +kernel
theorem dX9_nameHere_188 : decode cX9_nameHere 188 = .ok (.bipush 20, 2) := by decide +kernel
theorem dX9_nameHere_190 : decode cX9_nameHere 190 = .ok (.bipush 8, 2) := by decide +kernel
theorem dX9_nameHere_192 : decode cX9_nameHere 192 = .ok (.iconst 0, 1) := by decide +kernel
theorem dX9_nameHere_193 : decode cX9_nameHere 193 = .ok (.invokevirtual 134, 3) := by decide +kernel
theorem dX9_nameHere_196 : decode cX9_nameHere 196 = .ok (.ifCond .eq 8, 3) := by decide +kernel
theorem dX9_nameHere_199 : decode cX9_nameHere 199 = .ok (.bipush 10, 2) := by decide +kernel
theorem dX9_nameHere_201 : decode cX9_nameHere 201 = .ok (.goto 4, 3) := by decide +kernel
theorem dX9_nameHere_204 : decode cX9_nameHere 204 = .ok (.iconst (-1), 1) := by decide +kernel
theorem dX9_nameHere_205 : decode cX9_nameHere 205 = .ok (.ireturn, 1) := by decide +kernel
theorem dX9_unit_0 : decode cX9_unit 0 = .ok (.aload_n 0, 1) := by decide +kernel
theorem dX9_unit_1 : decode cX9_unit 1 = .ok (.getfield 92, 3) := by decide +kernel
theorem dX9_unit_4 : decode cX9_unit 4 = .ok (.ifCond .eq 4, 3) := by decide +kernel
theorem dX9_unit_7 : decode cX9_unit 7 = .ok (.return_, 1) := by decide +kernel
theorem dX9_unit_8 : decode cX9_unit 8 = .ok (.aload_n 0, 1) := by decide +kernel
theorem dX9_unit_9 : decode cX9_unit 9 = .ok (.invokevirtual 101, 3) := by decide +kernel
theorem dX9_unit_12 : decode cX9_unit 12 = .ok (.aload_n 0, 1) := by decide +kernel
theorem dX9_unit_13 : decode cX9_unit 13 = .ok (.aload_n 0, 1) := by decide +kernel
theorem dX9_unit_14 : decode cX9_unit 14 = .ok (.getfield 85, 3) := by decide +kernel
theorem dX9_unit_17 : decode cX9_unit 17 = .ok (.invokevirtual 88, 3) := by decide +kernel
theorem dX9_unit_20 : decode cX9_unit 20 = .ok (.invokestatic 104, 3) := by decide +kernel
theorem dX9_unit_23 : decode cX9_unit 23 = .ok (.ifCond .eq 17, 3) := by decide +kernel
theorem dX9_unit_26 : decode cX9_unit 26 = .ok (.aload_n 0, 1) := by decide +kernel
theorem dX9_unit_27 : decode cX9_unit 27 = .ok (.aload_n 0, 1) := by decide +kernel
theorem dX9_unit_28 : decode cX9_unit 28 = .ok (.iconst 0, 1) := by decide +kernel
theorem dX9_unit_29 : decode cX9_unit 29 = .ok (.sipush 9999, 3) := by decide +kernel
theorem dX9_unit_32 : decode cX9_unit 32 = .ok (.iconst (-1), 1) := by decide +kernel
theorem dX9_unit_33 : decode cX9_unit 33 = .ok (.invokevirtual 147, 3) := by decide +kernel
theorem dX9_unit_36 : decode cX9_unit 36 = .ok (.invokevirtual 189, 3) := by decide +kernel
theorem dX9_unit_39 : decode cX9_unit 39 = .ok (.return_, 1) := by decide +kernel
theorem dX9_unit_40 : decode cX9_unit 40 = .ok (.aload_n 0, 1) := by decide +kernel
theorem dX9_unit_41 : decode cX9_unit 41 = .ok (.invokevirtual 192, 3) := by decide +kernel
theorem dX9_unit_44 : decode cX9_unit 44 = .ok (.istore_n 1, 1) := by decide +kernel
theorem dX9_unit_45 : decode cX9_unit 45 = .ok (.iload_n 1, 1) := by decide +kernel
theorem dX9_unit_46 : decode cX9_unit 46 = .ok (.iconst (-1), 1) := by decide +kernel
theorem dX9_unit_47 : decode cX9_unit 47 = .ok (.if_icmp .eq 17, 3) := by decide +kernel
theorem dX9_unit_50 : decode cX9_unit 50 = .ok (.aload_n 0, 1) := by decide +kernel
theorem dX9_unit_51 : decode cX9_unit 51 = .ok (.invokevirtual 144, 3) := by decide +kernel
theorem dX9_unit_54 : decode cX9_unit 54 = .ok (.aload_n 0, 1) := by decide +kernel
theorem dX9_unit_55 : decode cX9_unit 55 = .ok (.sipush 10000, 3) := by decide +kernel
theorem dX9_unit_58 : decode cX9_unit 58 = .ok (.iload_n 1, 1) := by decide +kernel
theorem dX9_unit_59 : decode cX9_unit 59 = .ok (.iadd, 1) := by decide +kernel
theorem dX9_unit_60 : decode cX9_unit 60 = .ok (.invokevirtual 189, 3) := by decide +kernel
theorem dX9_unit_63 : decode cX9_unit 63 = .ok (.return_, 1) := by decide +kernel
theorem dX9_unit_64 : decode cX9_unit 64 = .ok (.aload_n 0, 1) := by decide +kernel
theorem dX9_unit_65 : decode cX9_unit 65 = .ok (.bipush 12, 2) := by decide +kernel
theorem dX9_unit_67 : decode cX9_unit 67 = .ok (.iconst 5, 1) := by decide +kernel
theorem dX9_unit_68 : decode cX9_unit 68 = .ok (.iconst 1, 1) := by decide +kernel
theorem dX9_unit_69 : decode cX9_unit 69 = .ok (.bipush 19, 2) := by decide +kernel
theorem dX9_unit_71 : decode cX9_unit 71 = .ok (.bipush 20, 2) := by decide +kernel
theorem dX9_unit_73 : decode cX9_unit 73 = .ok (.iconst 0, 1) := by decide +kernel
theorem dX9_unit_74 : decode cX9_unit 74 = .ok (.invokevirtual 134, 3) := by decide +kernel
theorem dX9_unit_77 : decode cX9_unit 77 = .ok (.ifCond .eq 9, 3) := by decide +kernel
theorem dX9_unit_80 : decode cX9_unit 80 = .ok (.sipush 10024, 3) := by decide +kernel
theorem dX9_unit_83 : decode cX9_unit 83 = .ok (.goto 27, 3) := by decide +kernel
theorem dX9_unit_86 : decode cX9_unit 86 = .ok (.aload_n 0, 1) := by decide +kernel
theorem dX9_unit_87 : decode cX9_unit 87 = .ok (.bipush 13, 2) := by decide +kernel
theorem dX9_unit_89 : decode cX9_unit 89 = .ok (.bipush 15, 2) := by decide +kernel
theorem dX9_unit_91 : decode cX9_unit 91 = .ok (.bipush 19, 2) := by decide +kernel
theorem dX9_unit_93 : decode cX9_unit 93 = .ok (.bipush 20, 2) := by decide +kernel
theorem dX9_unit_95 : decode cX9_unit 95 = .ok (.iconst 0, 1) := by decide +kernel
theorem dX9_unit_96 : decode cX9_unit 96 = .ok (.iconst 0, 1) := by decide +kernel
theorem dX9_unit_97 : decode cX9_unit 97 = .ok (.invokevirtual 134, 3) := by decide +kernel
theorem dX9_unit_100 : decode cX9_unit 100 = .ok (.ifCond .eq 9, 3) := by decide +kernel
theorem dX9_unit_103 : decode cX9_unit 103 = .ok (.sipush 10025, 3) := by decide +kernel
theorem dX9_unit_106 : decode cX9_unit 106 = .ok (.goto 4, 3) := by decide +kernel
theorem dX9_unit_109 : decode cX9_unit 109 = .ok (.iconst 0, 1) := by decide +kernel
theorem dX9_unit_110 : decode cX9_unit 110 = .ok (.istore_n 2, 1) := by decide +kernel
theorem dX9_unit_111 : decode cX9_unit 111 = .ok (.iload_n 2, 1) := by decide +kernel
theorem dX9_unit_112 : decode cX9_unit 112 = .ok (.ifCond .eq 7, 3) := by decide +kernel
theorem dX9_unit_115 : decode cX9_unit 115 = .ok (.aload_n 0, 1) := by decide +kernel
theorem dX9_unit_116 : decode cX9_unit 116 = .ok (.invokevirtual 144, 3) := by decide +kernel
theorem dX9_unit_119 : decode cX9_unit 119 = .ok (.aload_n 0, 1) := by decide +kernel
theorem dX9_unit_120 : decode cX9_unit 120 = .ok (.invokevirtual 101, 3) := by decide +kernel
theorem dX9_unit_123 : decode cX9_unit 123 = .ok (.aload_n 0, 1) := by decide +kernel
theorem dX9_unit_124 : decode cX9_unit 124 = .ok (.aload_n 0, 1) := by decide +kernel
theorem dX9_unit_125 : decode cX9_unit 125 = .ok (.getfield 85, 3) := by decide +kernel
theorem dX9_unit_128 : decode cX9_unit 128 = .ok (.invokevirtual 88, 3) := by decide +kernel
theorem dX9_unit_131 : decode cX9_unit 131 = .ok (.bipush 40, 2) := by decide +kernel
theorem dX9_unit_133 : decode cX9_unit 133 = .ok (.if_icmp .eq 13, 3) := by decide +kernel
theorem dX9_unit_136 : decode cX9_unit 136 = .ok (.aload_n 0, 1) := by decide +kernel
theorem dX9_unit_137 : decode cX9_unit 137 = .ok (.iconst 1, 1) := by decide +kernel
theorem dX9_unit_138 : decode cX9_unit 138 = .ok (.aload_n 0, 1) := by decide +kernel
theorem dX9_unit_139 : decode cX9_unit 139 = .ok (.getfield 85, 3) := by decide +kernel
theorem dX9_unit_142 : decode cX9_unit 142 = .ok (.invokevirtual 108, 3) := by decide +kernel
theorem dX9_unit_145 : decode cX9_unit 145 = .ok (.return_, 1) := by decide +kernel
theorem dX9_unit_146 : decode cX9_unit 146 = .ok (.aload_n 0, 1) := by decide +kernel
theorem dX9_unit_147 : decode cX9_unit 147 = .ok (.iconst 1, 1) := by decide +kernel
theorem dX9_unit_148 : decode cX9_unit 148 = .ok (.invokevirtual 195, 3) := by decide +kernel
theorem dX9_unit_151 : decode cX9_unit 151 = .ok (.aload_n 0, 1) := by decide +kernel
theorem dX9_unit_152 : decode cX9_unit 152 = .ok (.invokevirtual 198, 3) := by decide +kernel
theorem dX9_unit_155 : decode cX9_unit 155 = .ok (.iload_n 2, 1) := by decide +kernel
theorem dX9_unit_156 : decode cX9_unit 156 = .ok (.ifCond .eq 13, 3) := by decide +kernel
theorem dX9_unit_159 : decode cX9_unit 159 = .ok (.aload_n 0, 1) := by decide +kernel
theorem dX9_unit_160 : decode cX9_unit 160 = .ok (.bipush 44, 2) := by decide +kernel
theorem dX9_unit_162 : decode cX9_unit 162 = .ok (.invokevirtual 155, 3) := by decide +kernel
theorem dX9_unit_165 : decode cX9_unit 165 = .ok (.aload_n 0, 1) := by decide +kernel
theorem dX9_unit_166 : decode cX9_unit 166 = .ok (.invokevirtual 198, 3) := by decide +kernel
theorem dX9_unit_169 : decode cX9_unit 169 = .ok (.aload_n 0, 1) := by decide +kernel
theorem dX9_unit_170 : decode cX9_unit 170 = .ok (.bipush 41, 2) := by decide +kernel
theorem dX9_unit_172 : decode cX9_unit 172 = .ok (.invokevirtual 155, 3) := by decide +kernel
theorem dX9_unit_175 : decode cX9_unit 175 = .ok (.aload_n 0, 1) := by decide +kernel
theorem dX9_unit_176 : decode cX9_unit 176 = .ok (.dup, 1) := by decide +kernel
theorem dX9_unit_177 : decode cX9_unit 177 = .ok (.getfield 125, 3) := by decide +kernel
theorem dX9_unit_180 : decode cX9_unit 180 = .ok (.iconst 1, 1) := by decide +kernel
theorem dX9_unit_181 : decode cX9_unit 181 = .ok (.isub, 1) := by decide +kernel
theorem dX9_unit_182 : decode cX9_unit 182 = .ok (.putfield 125, 3) := by decide +kernel
theorem dX9_unit_185 : decode cX9_unit 185 = .ok (.iload_n 2, 1) := by decide +kernel
theorem dX9_unit_186 : decode cX9_unit 186 = .ok (.ifCond .eq 8, 3) := by decide +kernel
theorem dX9_unit_189 : decode cX9_unit 189 = .ok (.aload_n 0, 1) := by decide +kernel
theorem dX9_unit_190 : decode cX9_unit 190 = .ok (.iload_n 2, 1) := by decide +kernel
theorem dX9_unit_191 : decode cX9_unit 191 = .ok (.invokevirtual 189, 3) := by decide +kernel
theorem dX9_unit_194 : decode cX9_unit 194 = .ok (.return_, 1) := by decide +kernel
theorem dX9_product_0 : decode cX9_product 0 = .ok (.aload_n 0, 1) := by decide +kernel
theorem dX9_product_1 : decode cX9_product 1 = .ok (.invokevirtual 201, 3) := by decide +kernel
theorem dX9_product_4 : decode cX9_product 4 = .ok (.aload_n 0, 1) := by decide +kernel
theorem dX9_product_5 : decode cX9_product 5 = .ok (.invokevirtual 101, 3) := by decide +kernel
theorem dX9_product_8 : decode cX9_product 8 = .ok (.aload_n 0, 1) := by decide +kernel
theorem dX9_product_9 : decode cX9_product 9 = .ok (.getfield 92, 3) := by decide +kernel
theorem dX9_product_12 : decode cX9_product 12 = .ok (.ifCond .ne 78, 3) := by decide +kernel
theorem dX9_product_15 : decode cX9_product 15 = .ok (.aload_n 0, 1) := by decide +kernel
theorem dX9_product_16 : decode cX9_product 16 = .ok (.aload_n 0, 1) := by decide +kernel
theorem dX9_product_17 : decode cX9_product 17 = .ok (.getfield 85, 3) := by decide +kernel
theorem dX9_product_20 : decode cX9_product 20 = .ok (.invokevirtual 88, 3) := by decide +kernel
theorem dX9_product_23 : decode cX9_product 23 = .ok (.bipush 42, 2) := by decide +kernel
theorem dX9_product_25 : decode cX9_product 25 = .ok (.if_icmp .eq 16, 3) := by decide +kernel
theorem dX9_product_28 : decode cX9_product 28 = .ok (.aload_n 0, 1) := by decide +kernel
theorem dX9_product_29 : decode cX9_product 29 = .ok (.aload_n 0, 1) := by decide +kernel
theorem dX9_product_30 : decode cX9_product 30 = .ok (.getfield 85, 3) := by decide +kernel
theorem dX9_product_33 : decode cX9_product 33 = .ok (.invokevirtual 88, 3) := by decide +kernel
theorem dX9_product_36 : decode cX9_product 36 = .ok (.bipush 47, 2) := by decide +kernel
theorem dX9_product_38 : decode cX9_product 38 = .ok (.if_icmp .ne 52, 3) := by decide +kernel
theorem dX9_product_41 : decode cX9_product 41 = .ok (.aload_n 0, 1) := by decide +kernel
theorem dX9_product_42 : decode cX9_product 42 = .ok (.aload_n 0, 1) := by decide +kernel
theorem dX9_product_43 : decode cX9_product 43 = .ok (.getfield 85, 3) := by decide +kernel
theorem dX9_product_46 : decode cX9_product 46 = .ok (.invokevirtual 88, 3) := by decide +kernel
theorem dX9_product_49 : decode cX9_product 49 = .ok (.istore_n 1, 1) := by decide +kernel
theorem dX9_product_50 : decode cX9_product 50 = .ok (.aload_n 0, 1) := by decide +kernel
theorem dX9_product_51 : decode cX9_product 51 = .ok (.dup, 1) := by decide +kernel
theorem dX9_product_52 : decode cX9_product 52 = .ok (.getfield 85, 3) := by decide +kernel
theorem dX9_product_55 : decode cX9_product 55 = .ok (.iconst 1, 1) := by decide +kernel
theorem dX9_product_56 : decode cX9_product 56 = .ok (.iadd, 1) := by decide +kernel
theorem dX9_product_57 : decode cX9_product 57 = .ok (.putfield 85, 3) := by decide +kernel
theorem dX9_product_60 : decode cX9_product 60 = .ok (.aload_n 0, 1) := by decide +kernel
theorem dX9_product_61 : decode cX9_product 61 = .ok (.invokevirtual 201, 3) := by decide +kernel
theorem dX9_product_64 : decode cX9_product 64 = .ok (.aload_n 0, 1) := by decide +kernel
theorem dX9_product_65 : decode cX9_product 65 = .ok (.iload_n 1, 1) := by decide +kernel
theorem dX9_product_66 : decode cX9_product 66 = .ok (.bipush 42, 2) := by decide +kernel
theorem dX9_product_68 : decode cX9_product 68 = .ok (.if_icmp .ne 9, 3) := by decide +kernel
theorem dX9_product_71 : decode cX9_product 71 = .ok (.sipush 10022, 3) := by decide +kernel
theorem dX9_product_74 : decode cX9_product 74 = .ok (.goto 6, 3) := by decide +kernel
theorem dX9_product_77 : decode cX9_product 77 = .ok (.sipush 10023, 3) := by decide +kernel
theorem dX9_product_80 : decode cX9_product 80 = .ok (.invokevirtual 189, 3) := by decide +kernel
theorem dX9_product_83 : decode cX9_product 83 = .ok (.aload_n 0, 1) := by decide +kernel
theorem dX9_product_84 : decode cX9_product 84 = .ok (.invokevirtual 101, 3) := by decide +kernel
theorem dX9_product_87 : decode cX9_product 87 = .ok (.goto (-79), 3) := by decide +kernel
theorem dX9_product_90 : decode cX9_product 90 = .ok (.return_, 1) := by decide +kernel
theorem dX9_sum_0 : decode cX9_sum 0 = .ok (.aload_n 0, 1) := by decide +kernel
theorem dX9_sum_1 : decode cX9_sum 1 = .ok (.invokevirtual 204, 3) := by decide +kernel
theorem dX9_sum_4 : decode cX9_sum 4 = .ok (.aload_n 0, 1) := by decide +kernel
theorem dX9_sum_5 : decode cX9_sum 5 = .ok (.invokevirtual 101, 3) := by decide +kernel
theorem dX9_sum_8 : decode cX9_sum 8 = .ok (.aload_n 0, 1) := by decide +kernel
theorem dX9_sum_9 : decode cX9_sum 9 = .ok (.getfield 92, 3) := by decide +kernel
theorem dX9_sum_12 : decode cX9_sum 12 = .ok (.ifCond .ne 78, 3) := by decide +kernel
theorem dX9_sum_15 : decode cX9_sum 15 = .ok (.aload_n 0, 1) := by decide +kernel
theorem dX9_sum_16 : decode cX9_sum 16 = .ok (.aload_n 0, 1) := by decide +kernel
theorem dX9_sum_17 : decode cX9_sum 17 = .ok (.getfield 85, 3) := by decide +kernel
theorem dX9_sum_20 : decode cX9_sum 20 = .ok (.invokevirtual 88, 3) := by decide +kernel
theorem dX9_sum_23 : decode cX9_sum 23 = .ok (.bipush 43, 2) := by decide +kernel
theorem dX9_sum_25 : decode cX9_sum 25 = .ok (.if_icmp .eq 16, 3) := by decide +kernel
theorem dX9_sum_28 : decode cX9_sum 28 = .ok (.aload_n 0, 1) := by decide +kernel
theorem dX9_sum_29 : decode cX9_sum 29 = .ok (.aload_n 0, 1) := by decide +kernel
theorem dX9_sum_30 : decode cX9_sum 30 = .ok (.getfield 85, 3) := by decide +kernel
theorem dX9_sum_33 : decode cX9_sum 33 = .ok (.invokevirtual 88, 3) := by decide +kernel
theorem dX9_sum_36 : decode cX9_sum 36 = .ok (.bipush 45, 2) := by decide +kernel
theorem dX9_sum_38 : decode cX9_sum 38 = .ok (.if_icmp .ne 52, 3) := by decide +kernel
theorem dX9_sum_41 : decode cX9_sum 41 = .ok (.aload_n 0, 1) := by decide +kernel
theorem dX9_sum_42 : decode cX9_sum 42 = .ok (.aload_n 0, 1) := by decide +kernel
theorem dX9_sum_43 : decode cX9_sum 43 = .ok (.getfield 85, 3) := by decide +kernel
theorem dX9_sum_46 : decode cX9_sum 46 = .ok (.invokevirtual 88, 3) := by decide +kernel
theorem dX9_sum_49 : decode cX9_sum 49 = .ok (.istore_n 1, 1) := by decide +kernel
theorem dX9_sum_50 : decode cX9_sum 50 = .ok (.aload_n 0, 1) := by decide +kernel
theorem dX9_sum_51 : decode cX9_sum 51 = .ok (.dup, 1) := by decide +kernel
theorem dX9_sum_52 : decode cX9_sum 52 = .ok (.getfield 85, 3) := by decide +kernel
theorem dX9_sum_55 : decode cX9_sum 55 = .ok (.iconst 1, 1) := by decide +kernel
theorem dX9_sum_56 : decode cX9_sum 56 = .ok (.iadd, 1) := by decide +kernel
theorem dX9_sum_57 : decode cX9_sum 57 = .ok (.putfield 85, 3) := by decide +kernel
theorem dX9_sum_60 : decode cX9_sum 60 = .ok (.aload_n 0, 1) := by decide +kernel
theorem dX9_sum_61 : decode cX9_sum 61 = .ok (.invokevirtual 204, 3) := by decide +kernel
theorem dX9_sum_64 : decode cX9_sum 64 = .ok (.aload_n 0, 1) := by decide +kernel
theorem dX9_sum_65 : decode cX9_sum 65 = .ok (.iload_n 1, 1) := by decide +kernel
theorem dX9_sum_66 : decode cX9_sum 66 = .ok (.bipush 43, 2) := by decide +kernel
theorem dX9_sum_68 : decode cX9_sum 68 = .ok (.if_icmp .ne 9, 3) := by decide +kernel
theorem dX9_sum_71 : decode cX9_sum 71 = .ok (.sipush 10020, 3) := by decide +kernel
theorem dX9_sum_74 : decode cX9_sum 74 = .ok (.goto 6, 3) := by decide +kernel
theorem dX9_sum_77 : decode cX9_sum 77 = .ok (.sipush 10021, 3) := by decide +kernel
theorem dX9_sum_80 : decode cX9_sum 80 = .ok (.invokevirtual 189, 3) := by decide +kernel
theorem dX9_sum_83 : decode cX9_sum 83 = .ok (.aload_n 0, 1) := by decide +kernel
theorem dX9_sum_84 : decode cX9_sum 84 = .ok (.invokevirtual 101, 3) := by decide +kernel
theorem dX9_sum_87 : decode cX9_sum 87 = .ok (.goto (-79), 3) := by decide +kernel
theorem dX9_sum_90 : decode cX9_sum 90 = .ok (.return_, 1) := by decide +kernel
theorem dX9_test_0 : decode cX9_test 0 = .ok (.aload_n 0, 1) := by decide +kernel
theorem dX9_test_1 : decode cX9_test 1 = .ok (.getfield 92, 3) := by decide +kernel
theorem dX9_test_4 : decode cX9_test 4 = .ok (.ifCond .eq 4, 3) := by decide +kernel
theorem dX9_test_7 : decode cX9_test 7 = .ok (.return_, 1) := by decide +kernel
theorem dX9_test_8 : decode cX9_test 8 = .ok (.aload_n 0, 1) := by decide +kernel
theorem dX9_test_9 : decode cX9_test 9 = .ok (.bipush 14, 2) := by decide +kernel
theorem dX9_test_11 : decode cX9_test 11 = .ok (.bipush 15, 2) := by decide +kernel
theorem dX9_test_13 : decode cX9_test 13 = .ok (.bipush 20, 2) := by decide +kernel
theorem dX9_test_15 : decode cX9_test 15 = .ok (.iconst 0, 1) := by decide +kernel
theorem dX9_test_16 : decode cX9_test 16 = .ok (.iconst 0, 1) := by decide +kernel
theorem dX9_test_17 : decode cX9_test 17 = .ok (.iconst 0, 1) := by decide +kernel
theorem dX9_test_18 : decode cX9_test 18 = .ok (.invokevirtual 134, 3) := by decide +kernel
theorem dX9_test_21 : decode cX9_test 21 = .ok (.ifCond .eq 30, 3) := by decide +kernel
theorem dX9_test_24 : decode cX9_test 24 = .ok (.aload_n 0, 1) := by decide +kernel
theorem dX9_test_25 : decode cX9_test 25 = .ok (.iconst 3, 1) := by decide +kernel
theorem dX9_test_26 : decode cX9_test 26 = .ok (.invokevirtual 195, 3) := by decide +kernel
theorem dX9_test_29 : decode cX9_test 29 = .ok (.aload_n 0, 1) := by decide +kernel
theorem dX9_test_30 : decode cX9_test 30 = .ok (.invokevirtual 207, 3) := by decide +kernel
theorem dX9_test_33 : decode cX9_test 33 = .ok (.aload_n 0, 1) := by decide +kernel
theorem dX9_test_34 : decode cX9_test 34 = .ok (.dup, 1) := by decide +kernel
theorem dX9_test_35 : decode cX9_test 35 = .ok (.getfield 125, 3) := by decide +kernel
theorem dX9_test_38 : decode cX9_test 38 = .ok (.iconst 1, 1) := by decide +kernel
theorem dX9_test_39 : decode cX9_test 39 = .ok (.isub, 1) := by decide +kernel
theorem dX9_test_40 : decode cX9_test 40 = .ok (.putfield 125, 3) := by decide +kernel
theorem dX9_test_43 : decode cX9_test 43 = .ok (.aload_n 0, 1) := by decide +kernel
theorem dX9_test_44 : decode cX9_test 44 = .ok (.sipush 10033, 3) := by decide +kernel
theorem dX9_test_47 : decode cX9_test 47 = .ok (.invokevirtual 189, 3) := by decide +kernel
theorem dX9_test_50 : decode cX9_test 50 = .ok (.return_, 1) := by decide +kernel
theorem dX9_test_51 : decode cX9_test 51 = .ok (.aload_n 0, 1) := by decide +kernel
theorem dX9_test_52 : decode cX9_test 52 = .ok (.aload_n 0, 1) := by decide +kernel
theorem dX9_test_53 : decode cX9_test 53 = .ok (.getfield 85, 3) := by decide +kernel
theorem dX9_test_56 : decode cX9_test 56 = .ok (.invokevirtual 88, 3) := by decide +kernel
theorem dX9_test_59 : decode cX9_test 59 = .ok (.bipush 91, 2) := by decide +kernel
theorem dX9_test_61 : decode cX9_test 61 = .ok (.if_icmp .ne 29, 3) := by decide +kernel
theorem dX9_test_64 : decode cX9_test 64 = .ok (.aload_n 0, 1) := by decide +kernel
theorem dX9_test_65 : decode cX9_test 65 = .ok (.iconst 1, 1) := by decide +kernel
theorem dX9_test_66 : decode cX9_test 66 = .ok (.invokevirtual 195, 3) := by decide +kernel
theorem dX9_test_69 : decode cX9_test 69 = .ok (.aload_n 0, 1) := by decide +kernel
theorem dX9_test_70 : decode cX9_test 70 = .ok (.invokevirtual 210, 3) := by decide +kernel
theorem dX9_test_73 : decode cX9_test 73 = .ok (.aload_n 0, 1) := by decide +kernel
theorem dX9_test_74 : decode cX9_test 74 = .ok (.bipush 93, 2) := by decide +kernel
theorem dX9_test_76 : decode cX9_test 76 = .ok (.invokevirtual 155, 3) := by decide +kernel
theorem dX9_test_79 : decode cX9_test 79 = .ok (.aload_n 0, 1) := by decide +kernel
theorem dX9_test_80 : decode cX9_test 80 = .ok (.dup, 1) := by decide +kernel
theorem dX9_test_81 : decode cX9_test 81 = .ok (.getfield 125, 3) := by decide +kernel
theorem dX9_test_84 : decode cX9_test 84 = .ok (.iconst 1, 1) := by decide +kernel
theorem dX9_test_85 : decode cX9_test 85 = .ok (.isub, 1) := by decide +kernel
theorem dX9_test_86 : decode cX9_test 86 = .ok (.putfield 125, 3) := by decide +kernel
theorem dX9_test_89 : decode cX9_test 89 = .ok (.return_, 1) := by decide +kernel
theorem dX9_test_90 : decode cX9_test 90 = .ok (.aload_n 0, 1) := by decide +kernel
theorem dX9_test_91 : decode cX9_test 91 = .ok (.invokevirtual 198, 3) := by decide +kernel
theorem dX9_test_94 : decode cX9_test 94 = .ok (.aload_n 0, 1) := by decide +kernel
theorem dX9_test_95 : decode cX9_test 95 = .ok (.getfield 92, 3) := by decide +kernel
theorem dX9_test_98 : decode cX9_test 98 = .ok (.ifCond .eq 4, 3) := by decide +kernel
theorem dX9_test_101 : decode cX9_test 101 = .ok (.return_, 1) := by decide +kernel
theorem dX9_test_102 : decode cX9_test 102 = .ok (.aload_n 0, 1) := by decide +kernel
theorem dX9_test_103 : decode cX9_test 103 = .ok (.invokevirtual 101, 3) := by decide +kernel
theorem dX9_test_106 : decode cX9_test 106 = .ok (.aload_n 0, 1) := by decide +kernel
theorem dX9_test_107 : decode cX9_test 107 = .ok (.aload_n 0, 1) := by decide +kernel
theorem dX9_test_108 : decode cX9_test 108 = .ok (.getfield 85, 3) := by decide +kernel
theorem dX9_test_111 : decode cX9_test 111 = .ok (.invokevirtual 88, 3) := by decide +kernel
theorem dX9_test_114 : decode cX9_test 114 = .ok (.istore_n 1, 1) := by decide +kernel
theorem dX9_test_115 : decode cX9_test 115 = .ok (.iload_n 1, 1) := by decide +kernel
theorem dX9_test_116 : decode cX9_test 116 = .ok (.bipush 60, 2) := by decide +kernel
theorem dX9_test_118 : decode cX9_test 118 = .ok (.if_icmp .eq 24, 3) := by decide +kernel
theorem dX9_test_121 : decode cX9_test 121 = .ok (.iload_n 1, 1) := by decide +kernel
theorem dX9_test_122 : decode cX9_test 122 = .ok (.bipush 62, 2) := by decide +kernel
theorem dX9_test_124 : decode cX9_test 124 = .ok (.if_icmp .eq 18, 3) := by decide +kernel
theorem dX9_test_127 : decode cX9_test 127 = .ok (.iload_n 1, 1) := by decide +kernel
theorem dX9_test_128 : decode cX9_test 128 = .ok (.bipush 61, 2) := by decide +kernel
theorem dX9_test_130 : decode cX9_test 130 = .ok (.if_icmp .eq 12, 3) := by decide +kernel
theorem dX9_test_133 : decode cX9_test 133 = .ok (.aload_n 0, 1) := by decide +kernel
theorem dX9_test_134 : decode cX9_test 134 = .ok (.iconst 1, 1) := by decide +kernel
theorem dX9_test_135 : decode cX9_test 135 = .ok (.aload_n 0, 1) := by decide +kernel
theorem dX9_test_136 : decode cX9_test 136 = .ok (.getfield 85, 3) := by decide +kernel
theorem dX9_test_139 : decode cX9_test 139 = .ok (.invokevirtual 108, 3) := by decide +kernel
theorem dX9_test_142 : decode cX9_test 142 = .ok (.aload_n 0, 1) := by decide +kernel
theorem dX9_test_143 : decode cX9_test 143 = .ok (.dup, 1) := by decide +kernel
theorem dX9_test_144 : decode cX9_test 144 = .ok (.getfield 85, 3) := by decide +kernel
theorem dX9_test_147 : decode cX9_test 147 = .ok (.iconst 1, 1) := by decide +kernel
theorem dX9_test_148 : decode cX9_test 148 = .ok (.iadd, 1) := by decide +kernel
theorem dX9_test_149 : decode cX9_test 149 = .ok (.putfield 85, 3) := by decide +kernel
theorem dX9_test_152 : decode cX9_test 152 = .ok (.aload_n 0, 1) := by decide +kernel
theorem dX9_test_153 : decode cX9_test 153 = .ok (.invokevirtual 198, 3) := by decide +kernel
theorem dX9_test_156 : decode cX9_test 156 = .ok (.aload_n 0, 1) := by decide +kernel
theorem dX9_test_157 : decode cX9_test 157 = .ok (.iload_n 1, 1) := by decide +kernel
theorem dX9_test_158 : decode cX9_test 158 = .ok (.bipush 60, 2) := by decide +kernel
theorem dX9_test_160 : decode cX9_test 160 = .ok (.if_icmp .ne 9, 3) := by decide +kernel
theorem dX9_test_163 : decode cX9_test 163 = .ok (.sipush 10030, 3) := by decide +kernel
theorem dX9_test_166 : decode cX9_test 166 = .ok (.goto 18, 3) := by decide +kernel
theorem dX9_test_169 : decode cX9_test 169 = .ok (.iload_n 1, 1) := by decide +kernel
theorem dX9_test_170 : decode cX9_test 170 = .ok (.bipush 62, 2) := by decide +kernel
theorem dX9_test_172 : decode cX9_test 172 = .ok (.if_icmp .ne 9, 3) := by decide +kernel
theorem dX9_test_175 : decode cX9_test 175 = .ok (.sipush 10031, 3) := by decide +kernel
theorem dX9_test_178 : decode cX9_test 178 = .ok (.goto 6, 3) := by decide +kernel
theorem dX9_test_181 : decode cX9_test 181 = .ok (.sipush 10032, 3) := by decide +kernel
theorem dX9_test_184 : decode cX9_test 184 = .ok (.invokevirtual 189, 3) := by decide +kernel
theorem dX9_test_187 : decode cX9_test 187 = .ok (.return_, 1) := by decide +kernel
theorem dX9_ands_0 : decode cX9_ands 0 = .ok (.aload_n 0, 1) := by decide +kernel
theorem dX9_ands_1 : decode cX9_ands 1 = .ok (.invokevirtual 207, 3) := by decide +kernel
theorem dX9_ands_4 : decode cX9_ands 4 = .ok (.aload_n 0, 1) := by decide +kernel
theorem dX9_ands_5 : decode cX9_ands 5 = .ok (.iconst 1, 1) := by decide +kernel
theorem dX9_ands_6 : decode cX9_ands 6 = .ok (.bipush 14, 2) := by decide +kernel
theorem dX9_ands_8 : decode cX9_ands 8 = .ok (.iconst 4, 1) := by decide +kernel
theorem dX9_ands_9 : decode cX9_ands 9 = .ok (.iconst 0, 1) := by decide +kernel
theorem dX9_ands_10 : decode cX9_ands 10 = .ok (.iconst 0, 1) := by decide +kernel
theorem dX9_ands_11 : decode cX9_ands 11 = .ok (.iconst 0, 1) := by decide +kernel
theorem dX9_ands_12 : decode cX9_ands 12 = .ok (.invokevirtual 134, 3) := by decide +kernel
theorem dX9_ands_15 : decode cX9_ands 15 = .ok (.ifCond .eq 21, 3) := by decide +kernel
theorem dX9_ands_18 : decode cX9_ands 18 = .ok (.aload_n 0, 1) := by decide +kernel
theorem dX9_ands_19 : decode cX9_ands 19 = .ok (.invokevirtual 144, 3) := by decide +kernel
theorem dX9_ands_22 : decode cX9_ands 22 = .ok (.aload_n 0, 1) := by decide +kernel
theorem dX9_ands_23 : decode cX9_ands 23 = .ok (.invokevirtual 207, 3) := by decide +kernel
theorem dX9_ands_26 : decode cX9_ands 26 = .ok (.aload_n 0, 1) := by decide +kernel
theorem dX9_ands_27 : decode cX9_ands 27 = .ok (.sipush 10034, 3) := by decide +kernel
theorem dX9_ands_30 : decode cX9_ands 30 = .ok (.invokevirtual 189, 3) := by decide +kernel
theorem dX9_ands_33 : decode cX9_ands 33 = .ok (.goto (-29), 3) := by decide +kernel
theorem dX9_ands_36 : decode cX9_ands 36 = .ok (.return_, 1) := by decide +kernel
theorem dX9_ors_0 : decode cX9_ors 0 = .ok (.aload_n 0, 1) := by decide +kernel
theorem dX9_ors_1 : decode cX9_ors 1 = .ok (.invokevirtual 213, 3) := by decide +kernel
theorem dX9_ors_4 : decode cX9_ors 4 = .ok (.aload_n 0, 1) := by decide +kernel
theorem dX9_ors_5 : decode cX9_ors 5 = .ok (.bipush 15, 2) := by decide +kernel
theorem dX9_ors_7 : decode cX9_ors 7 = .ok (.bipush 18, 2) := by decide +kernel
theorem dX9_ors_9 : decode cX9_ors 9 = .ok (.iconst 0, 1) := by decide +kernel
theorem dX9_ors_10 : decode cX9_ors 10 = .ok (.iconst 0, 1) := by decide +kernel
theorem dX9_ors_11 : decode cX9_ors 11 = .ok (.iconst 0, 1) := by decide +kernel
theorem dX9_ors_12 : decode cX9_ors 12 = .ok (.iconst 0, 1) := by decide +kernel
theorem dX9_ors_13 : decode cX9_ors 13 = .ok (.invokevirtual 134, 3) := by decide +kernel
theorem dX9_ors_16 : decode cX9_ors 16 = .ok (.ifCond .eq 21, 3) := by decide +kernel
theorem dX9_ors_19 : decode cX9_ors 19 = .ok (.aload_n 0, 1) := by decide +kernel
theorem dX9_ors_20 : decode cX9_ors 20 = .ok (.invokevirtual 144, 3) := by decide +kernel
theorem dX9_ors_23 : decode cX9_ors 23 = .ok (.aload_n 0, 1) := by decide +kernel
theorem dX9_ors_24 : decode cX9_ors 24 = .ok (.invokevirtual 213, 3) := by decide +kernel
theorem dX9_ors_27 : decode cX9_ors 27 = .ok (.aload_n 0, 1) := by decide +kernel
theorem dX9_ors_28 : decode cX9_ors 28 = .ok (.sipush 10035, 3) := by decide +kernel
theorem dX9_ors_31 : decode cX9_ors 31 = .ok (.invokevirtual 189, 3) := by decide +kernel
theorem dX9_ors_34 : decode cX9_ors 34 = .ok (.goto (-30), 3) := by decide +kernel
theorem dX9_ors_37 : decode cX9_ors 37 = .ok (.return_, 1) := by decide +kernel
theorem dX9_lawHere_0 : decode cX9_lawHere 0 = .ok (.aload_n 0, 1) := by decide +kernel
theorem dX9_lawHere_1 : decode cX9_lawHere 1 = .ok (.bipush 7, 2) := by decide +kernel
theorem dX9_lawHere_3 : decode cX9_lawHere 3 = .ok (.iconst 5, 1) := by decide +kernel
theorem dX9_lawHere_4 : decode cX9_lawHere 4 = .ok (.bipush 20, 2) := by decide +kernel
theorem dX9_lawHere_6 : decode cX9_lawHere 6 = .ok (.bipush 19, 2) := by decide +kernel
theorem dX9_lawHere_8 : decode cX9_lawHere 8 = .ok (.iconst 0, 1) := by decide +kernel
theorem dX9_lawHere_9 : decode cX9_lawHere 9 = .ok (.iconst 0, 1) := by decide +kernel
theorem dX9_lawHere_10 : decode cX9_lawHere 10 = .ok (.invokevirtual 134, 3) := by decide +kernel
theorem dX9_lawHere_13 : decode cX9_lawHere 13 = .ok (.ifCond .eq 5, 3) := by decide +kernel
theorem dX9_lawHere_16 : decode cX9_lawHere 16 = .ok (.iconst 0, 1) := by decide +kernel
theorem dX9_lawHere_17 : decode cX9_lawHere 17 = .ok (.ireturn, 1) := by decide +kernel
theorem dX9_lawHere_18 : decode cX9_lawHere 18 = .ok (.aload_n 0, 1) := by decide +kernel
theorem dX9_lawHere_19 : decode cX9_lawHere 19 = .ok (.bipush 12, 2) := by decide +kernel
theorem dX9_lawHere_21 : decode cX9_lawHere 21 = .ok (.bipush 9, 2) := by decide +kernel
theorem dX9_lawHere_23 : decode cX9_lawHere 23 = .ok (.bipush 14, 2) := by decide +kernel
theorem dX9_lawHere_25 : decode cX9_lawHere 25 = .ok (.iconst 5, 1) := by decide +kernel
theorem dX9_lawHere_26 : decode cX9_lawHere 26 = .ok (.iconst 0, 1) := by decide +kernel
theorem dX9_lawHere_27 : decode cX9_lawHere 27 = .ok (.iconst 0, 1) := by decide +kernel
theorem dX9_lawHere_28 : decode cX9_lawHere 28 = .ok (.invokevirtual 134, 3) := by decide +kernel
theorem dX9_lawHere_31 : decode cX9_lawHere 31 = .ok (.ifCond .eq 5, 3) := by decide +kernel
theorem dX9_lawHere_34 : decode cX9_lawHere 34 = .ok (.iconst 1, 1) := by decide +kernel
theorem dX9_lawHere_35 : decode cX9_lawHere 35 = .ok (.ireturn, 1) := by decide +kernel
theorem dX9_lawHere_36 : decode cX9_lawHere 36 = .ok (.aload_n 0, 1) := by decide +kernel
theorem dX9_lawHere_37 : decode cX9_lawHere 37 = .ok (.bipush 11, 2) := by decide +kernel
theorem dX9_lawHere_39 : decode cX9_lawHere 39 = .ok (.iconst 5, 1) := by decide +kernel
theorem dX9_lawHere_40 : decode cX9_lawHere 40 = .ok (.iconst 5, 1) := by decide +kernel
theorem dX9_lawHere_41 : decode cX9_lawHere 41 = .ok (.bipush 16, 2) := by decide +kernel
theorem dX9_lawHere_43 : decode cX9_lawHere 43 = .ok (.bipush 19, 2) := by decide +kernel
theorem dX9_lawHere_45 : decode cX9_lawHere 45 = .ok (.iconst 0, 1) := by decide +kernel
theorem dX9_lawHere_46 : decode cX9_lawHere 46 = .ok (.invokevirtual 134, 3) := by decide +kernel
theorem dX9_lawHere_49 : decode cX9_lawHere 49 = .ok (.ifCond .eq 5, 3) := by decide +kernel
theorem dX9_lawHere_52 : decode cX9_lawHere 52 = .ok (.iconst 2, 1) := by decide +kernel
theorem dX9_lawHere_53 : decode cX9_lawHere 53 = .ok (.ireturn, 1) := by decide +kernel
theorem dX9_lawHere_54 : decode cX9_lawHere 54 = .ok (.aload_n 0, 1) := by decide +kernel
theorem dX9_lawHere_55 : decode cX9_lawHere 55 = .ok (.bipush 19, 2) := by decide +kernel
theorem dX9_lawHere_57 : decode cX9_lawHere 57 = .ok (.bipush 21, 2) := by decide +kernel
theorem dX9_lawHere_59 : decode cX9_lawHere 59 = .ok (.bipush 18, 2) := by decide +kernel
theorem dX9_lawHere_61 : decode cX9_lawHere 61 = .ok (.iconst 5, 1) := by decide +kernel
theorem dX9_lawHere_62 : decode cX9_lawHere 62 = .ok (.iconst 0, 1) := by decide +kernel
theorem dX9_lawHere_63 : decode cX9_lawHere 63 = .ok (.iconst 0, 1) := by decide +kernel
theorem dX9_lawHere_64 : decode cX9_lawHere 64 = .ok (.invokevirtual 134, 3) := by decide +kernel
theorem dX9_lawHere_67 : decode cX9_lawHere 67 = .ok (.ifCond .eq 7, 3) := by decide +kernel
theorem dX9_lawHere_70 : decode cX9_lawHere 70 = .ok (.iconst 3, 1) := by decide +kernel
theorem dX9_lawHere_71 : decode cX9_lawHere 71 = .ok (.goto 4, 3) := by decide +kernel
theorem dX9_lawHere_74 : decode cX9_lawHere 74 = .ok (.iconst (-1), 1) := by decide +kernel
theorem dX9_lawHere_75 : decode cX9_lawHere 75 = .ok (.ireturn, 1) := by decide +kernel
theorem dX9_lawClauseHere_0 : decode cX9_lawClauseHere 0 = .ok (.aload_n 0, 1) := by decide +kernel
theorem dX9_lawClauseHere_1 : decode cX9_lawClauseHere 1 = .ok (.invokevirtual 216, 3) := by decide +kernel
theorem dX9_lawClauseHere_4 : decode cX9_lawClauseHere 4 = .ok (.istore_n 1, 1) := by decide +kernel
theorem dX9_lawClauseHere_5 : decode cX9_lawClauseHere 5 = .ok (.aload_n 0, 1) := by decide +kernel
theorem dX9_lawClauseHere_6 : decode cX9_lawClauseHere 6 = .ok (.iload_n 1, 1) := by decide +kernel
theorem dX9_lawClauseHere_7 : decode cX9_lawClauseHere 7 = .ok (.bipush 16, 2) := by decide +kernel
theorem dX9_lawClauseHere_9 : decode cX9_lawClauseHere 9 = .ok (.invokevirtual 141, 3) := by decide +kernel
theorem dX9_lawClauseHere_12 : decode cX9_lawClauseHere 12 = .ok (.aload_n 0, 1) := by decide +kernel
theorem dX9_lawClauseHere_13 : decode cX9_lawClauseHere 13 = .ok (.getfield 92, 3) := by decide +kernel
theorem dX9_lawClauseHere_16 : decode cX9_lawClauseHere 16 = .ok (.ifCond .eq 4, 3) := by decide +kernel
theorem dX9_lawClauseHere_19 : decode cX9_lawClauseHere 19 = .ok (.return_, 1) := by decide +kernel
theorem dX9_lawClauseHere_20 : decode cX9_lawClauseHere 20 = .ok (.aload_n 0, 1) := by decide +kernel
theorem dX9_lawClauseHere_21 : decode cX9_lawClauseHere 21 = .ok (.invokevirtual 144, 3) := by decide +kernel
theorem dX9_lawClauseHere_24 : decode cX9_lawClauseHere 24 = .ok (.aload_n 0, 1) := by decide +kernel
theorem dX9_lawClauseHere_25 : decode cX9_lawClauseHere 25 = .ok (.getfield 22, 3) := by decide +kernel
theorem dX9_lawClauseHere_28 : decode cX9_lawClauseHere 28 = .ok (.aload_n 0, 1) := by decide +kernel
theorem dX9_lawClauseHere_29 : decode cX9_lawClauseHere 29 = .ok (.getfield 128, 3) := by decide +kernel
theorem dX9_lawClauseHere_32 : decode cX9_lawClauseHere 32 = .ok (.aaload, 1) := by decide +kernel
theorem dX9_lawClauseHere_33 : decode cX9_lawClauseHere 33 = .ok (.astore_n 2, 1) := by decide +kernel
theorem dX9_lawClauseHere_34 : decode cX9_lawClauseHere 34 = .ok (.aload_n 2, 1) := by decide +kernel
theorem dX9_lawClauseHere_35 : decode cX9_lawClauseHere 35 = .ok (.iconst 0, 1) := by decide +kernel
theorem dX9_lawClauseHere_36 : decode cX9_lawClauseHere 36 = .ok (.iload_n 1, 1) := by decide +kernel
theorem dX9_lawClauseHere_37 : decode cX9_lawClauseHere 37 = .ok (.iastore, 1) := by decide +kernel
theorem dX9_lawClauseHere_38 : decode cX9_lawClauseHere 38 = .ok (.aload_n 2, 1) := by decide +kernel
theorem dX9_lawClauseHere_39 : decode cX9_lawClauseHere 39 = .ok (.iconst 1, 1) := by decide +kernel
theorem dX9_lawClauseHere_40 : decode cX9_lawClauseHere 40 = .ok (.aload_n 0, 1) := by decide +kernel
theorem dX9_lawClauseHere_41 : decode cX9_lawClauseHere 41 = .ok (.getfield 98, 3) := by decide +kernel
theorem dX9_lawClauseHere_44 : decode cX9_lawClauseHere 44 = .ok (.iastore, 1) := by decide +kernel
theorem dX9_lawClauseHere_45 : decode cX9_lawClauseHere 45 = .ok (.aload_n 0, 1) := by decide +kernel
theorem dX9_lawClauseHere_46 : decode cX9_lawClauseHere 46 = .ok (.invokevirtual 198, 3) := by decide +kernel
theorem dX9_lawClauseHere_49 : decode cX9_lawClauseHere 49 = .ok (.aload_n 2, 1) := by decide +kernel
theorem dX9_lawClauseHere_50 : decode cX9_lawClauseHere 50 = .ok (.iconst 2, 1) := by decide +kernel
theorem dX9_lawClauseHere_51 : decode cX9_lawClauseHere 51 = .ok (.aload_n 0, 1) := by decide +kernel
theorem dX9_lawClauseHere_52 : decode cX9_lawClauseHere 52 = .ok (.getfield 98, 3) := by decide +kernel
theorem dX9_lawClauseHere_55 : decode cX9_lawClauseHere 55 = .ok (.iastore, 1) := by decide +kernel
theorem dX9_lawClauseHere_56 : decode cX9_lawClauseHere 56 = .ok (.aload_n 2, 1) := by decide +kernel
theorem dX9_lawClauseHere_57 : decode cX9_lawClauseHere 57 = .ok (.iconst 3, 1) := by decide +kernel
theorem dX9_lawClauseHere_58 : decode cX9_lawClauseHere 58 = .ok (.iconst (-1), 1) := by decide +kernel
theorem dX9_lawClauseHere_59 : decode cX9_lawClauseHere 59 = .ok (.iastore, 1) := by decide +kernel
theorem dX9_lawClauseHere_60 : decode cX9_lawClauseHere 60 = .ok (.aload_n 0, 1) := by decide +kernel
theorem dX9_lawClauseHere_61 : decode cX9_lawClauseHere 61 = .ok (.bipush 9, 2) := by decide +kernel
theorem dX9_lawClauseHere_63 : decode cX9_lawClauseHere 63 = .ok (.bipush 6, 2) := by decide +kernel
theorem dX9_lawClauseHere_65 : decode cX9_lawClauseHere 65 = .ok (.iconst 0, 1) := by decide +kernel
theorem dX9_lawClauseHere_66 : decode cX9_lawClauseHere 66 = .ok (.iconst 0, 1) := by decide +kernel
theorem dX9_lawClauseHere_67 : decode cX9_lawClauseHere 67 = .ok (.iconst 0, 1) := by decide +kernel
theorem dX9_lawClauseHere_68 : decode cX9_lawClauseHere 68 = .ok (.iconst 0, 1) := by decide +kernel
theorem dX9_lawClauseHere_69 : decode cX9_lawClauseHere 69 = .ok (.invokevirtual 134, 3) := by decide +kernel
theorem dX9_lawClauseHere_72 : decode cX9_lawClauseHere 72 = .ok (.ifCond .eq 18, 3) := by decide +kernel
theorem dX9_lawClauseHere_75 : decode cX9_lawClauseHere 75 = .ok (.aload_n 0, 1) := by decide +kernel
theorem dX9_lawClauseHere_76 : decode cX9_lawClauseHere 76 = .ok (.invokevirtual 144, 3) := by decide +kernel
theorem dX9_lawClauseHere_79 : decode cX9_lawClauseHere 79 = .ok (.aload_n 0, 1) := by decide +kernel
theorem dX9_lawClauseHere_80 : decode cX9_lawClauseHere 80 = .ok (.invokevirtual 210, 3) := by decide +kernel
theorem dX9_lawClauseHere_83 : decode cX9_lawClauseHere 83 = .ok (.aload_n 2, 1) := by decide +kernel
theorem dX9_lawClauseHere_84 : decode cX9_lawClauseHere 84 = .ok (.iconst 3, 1) := by decide +kernel
theorem dX9_lawClauseHere_85 : decode cX9_lawClauseHere 85 = .ok (.aload_n 0, 1) := by decide +kernel
theorem dX9_lawClauseHere_86 : decode cX9_lawClauseHere 86 = .ok (.getfield 98, 3) := by decide +kernel
theorem dX9_lawClauseHere_89 : decode cX9_lawClauseHere 89 = .ok (.iastore, 1) := by decide +kernel
theorem dX9_lawClauseHere_90 : decode cX9_lawClauseHere 90 = .ok (.aload_n 0, 1) := by decide +kernel
theorem dX9_lawClauseHere_91 : decode cX9_lawClauseHere 91 = .ok (.bipush 59, 2) := by decide +kernel
theorem dX9_lawClauseHere_93 : decode cX9_lawClauseHere 93 = .ok (.invokevirtual 155, 3) := by decide +kernel
theorem dX9_lawClauseHere_96 : decode cX9_lawClauseHere 96 = .ok (.aload_n 0, 1) := by decide +kernel
theorem dX9_lawClauseHere_97 : decode cX9_lawClauseHere 97 = .ok (.dup, 1) := by decide +kernel
theorem dX9_lawClauseHere_98 : decode cX9_lawClauseHere 98 = .ok (.getfield 128, 3) := by decide +kernel
theorem dX9_lawClauseHere_101 : decode cX9_lawClauseHere 101 = .ok (.iconst 1, 1) := by decide +kernel
theorem dX9_lawClauseHere_102 : decode cX9_lawClauseHere 102 = .ok (.iadd, 1) := by decide +kernel
theorem dX9_lawClauseHere_103 : decode cX9_lawClauseHere 103 = .ok (.putfield 128, 3) := by decide +kernel
theorem dX9_lawClauseHere_106 : decode cX9_lawClauseHere 106 = .ok (.return_, 1) := by decide +kernel
theorem dX9_law_0 : decode cX9_law 0 = .ok (.aload_n 0, 1) := by decide +kernel
theorem dX9_law_1 : decode cX9_law 1 = .ok (.iconst 0, 1) := by decide +kernel
theorem dX9_law_2 : decode cX9_law 2 = .ok (.putfield 76, 3) := by decide +kernel
theorem dX9_law_5 : decode cX9_law 5 = .ok (.aload_n 0, 1) := by decide +kernel
theorem dX9_law_6 : decode cX9_law 6 = .ok (.iload_n 1, 1) := by decide +kernel
theorem dX9_law_7 : decode cX9_law 7 = .ok (.iconst 0, 1) := by decide +kernel
theorem dX9_law_8 : decode cX9_law 8 = .ok (.aload_n 0, 1) := by decide +kernel
theorem dX9_law_9 : decode cX9_law 9 = .ok (.getfield 79, 3) := by decide +kernel
theorem dX9_law_12 : decode cX9_law 12 = .ok (.invokestatic 113, 3) := by decide +kernel
theorem dX9_law_15 : decode cX9_law 15 = .ok (.ifCond .ne 7, 3) := by decide +kernel
theorem dX9_law_18 : decode cX9_law 18 = .ok (.iconst 1, 1) := by decide +kernel
theorem dX9_law_19 : decode cX9_law 19 = .ok (.goto 4, 3) := by decide +kernel
theorem dX9_law_22 : decode cX9_law 22 = .ok (.iconst 0, 1) := by decide +kernel
theorem dX9_law_23 : decode cX9_law 23 = .ok (.iconst 1, 1) := by decide +kernel
theorem dX9_law_24 : decode cX9_law 24 = .ok (.invokevirtual 162, 3) := by decide +kernel
theorem dX9_law_27 : decode cX9_law 27 = .ok (.ifCond .eq 5, 3) := by decide +kernel
theorem dX9_law_30 : decode cX9_law 30 = .ok (.iconst 0, 1) := by decide +kernel
theorem dX9_law_31 : decode cX9_law 31 = .ok (.ireturn, 1) := by decide +kernel
theorem dX9_law_32 : decode cX9_law 32 = .ok (.aload_n 0, 1) := by decide +kernel
theorem dX9_law_33 : decode cX9_law 33 = .ok (.iload_n 1, 1) := by decide +kernel
theorem dX9_law_34 : decode cX9_law 34 = .ok (.aload_n 0, 1) := by decide +kernel
theorem dX9_law_35 : decode cX9_law 35 = .ok (.getfield 219, 3) := by decide +kernel
theorem dX9_law_38 : decode cX9_law 38 = .ok (.iconst 4, 1) := by decide +kernel
theorem dX9_law_39 : decode cX9_law 39 = .ok (.if_icmp .ne 7, 3) := by decide +kernel
theorem dX9_law_42 : decode cX9_law 42 = .ok (.iconst 1, 1) := by decide +kernel
theorem dX9_law_43 : decode cX9_law 43 = .ok (.goto 4, 3) := by decide +kernel
theorem dX9_law_46 : decode cX9_law 46 = .ok (.iconst 0, 1) := by decide +kernel
theorem dX9_law_47 : decode cX9_law 47 = .ok (.invokevirtual 169, 3) := by decide +kernel
theorem dX9_law_50 : decode cX9_law 50 = .ok (.ifCond .ne 5, 3) := by decide +kernel
theorem dX9_law_53 : decode cX9_law 53 = .ok (.iconst (-1), 1) := by decide +kernel
theorem dX9_law_54 : decode cX9_law 54 = .ok (.ireturn, 1) := by decide +kernel
theorem dX9_law_55 : decode cX9_law 55 = .ok (.aload_n 0, 1) := by decide +kernel
theorem dX9_law_56 : decode cX9_law 56 = .ok (.getfield 92, 3) := by decide +kernel
theorem dX9_law_59 : decode cX9_law 59 = .ok (.ifCond .ne 25, 3) := by decide +kernel
theorem dX9_law_62 : decode cX9_law 62 = .ok (.aload_n 0, 1) := by decide +kernel
theorem dX9_law_63 : decode cX9_law 63 = .ok (.getfield 85, 3) := by decide +kernel
theorem dX9_law_66 : decode cX9_law 66 = .ok (.aload_n 0, 1) := by decide +kernel
theorem dX9_law_67 : decode cX9_law 67 = .ok (.getfield 82, 3) := by decide +kernel
theorem dX9_law_70 : decode cX9_law 70 = .ok (.if_icmp .ge 14, 3) := by decide +kernel
theorem dX9_law_73 : decode cX9_law 73 = .ok (.aload_n 0, 1) := by decide +kernel
theorem dX9_law_74 : decode cX9_law 74 = .ok (.invokevirtual 222, 3) := by decide +kernel
theorem dX9_law_77 : decode cX9_law 77 = .ok (.aload_n 0, 1) := by decide +kernel
theorem dX9_law_78 : decode cX9_law 78 = .ok (.invokevirtual 101, 3) := by decide +kernel
theorem dX9_law_81 : decode cX9_law 81 = .ok (.goto (-26), 3) := by decide +kernel
theorem dX9_law_84 : decode cX9_law 84 = .ok (.aload_n 0, 1) := by decide +kernel
theorem dX9_law_85 : decode cX9_law 85 = .ok (.aload_n 0, 1) := by decide +kernel
theorem dX9_law_86 : decode cX9_law 86 = .ok (.getfield 95, 3) := by decide +kernel
theorem dX9_law_89 : decode cX9_law 89 = .ok (.putfield 9, 3) := by decide +kernel
theorem dX9_law_92 : decode cX9_law 92 = .ok (.aload_n 0, 1) := by decide +kernel
theorem dX9_law_93 : decode cX9_law 93 = .ok (.getfield 92, 3) := by decide +kernel
theorem dX9_law_96 : decode cX9_law 96 = .ok (.ifCond .eq 11, 3) := by decide +kernel
theorem dX9_law_99 : decode cX9_law 99 = .ok (.aload_n 0, 1) := by decide +kernel
theorem dX9_law_100 : decode cX9_law 100 = .ok (.getfield 92, 3) := by decide +kernel
theorem dX9_law_103 : decode cX9_law 103 = .ok (.bipush 10, 2) := by decide +kernel
theorem dX9_law_105 : decode cX9_law 105 = .ok (.isub, 1) := by decide +kernel
theorem dX9_law_106 : decode cX9_law 106 = .ok (.ireturn, 1) := by decide +kernel
theorem dX9_law_107 : decode cX9_law 107 = .ok (.iconst 0, 1) := by decide +kernel
theorem dX9_law_108 : decode cX9_law 108 = .ok (.istore_n 2, 1) := by decide +kernel
theorem dX9_law_109 : decode cX9_law 109 = .ok (.iload_n 2, 1) := by decide +kernel
theorem dX9_law_110 : decode cX9_law 110 = .ok (.aload_n 0, 1) := by decide +kernel
theorem dX9_law_111 : decode cX9_law 111 = .ok (.getfield 98, 3) := by decide +kernel
theorem dX9_law_114 : decode cX9_law 114 = .ok (.if_icmp .ge 26, 3) := by decide +kernel
theorem dX9_law_117 : decode cX9_law 117 = .ok (.aload_n 0, 1) := by decide +kernel
theorem dX9_law_118 : decode cX9_law 118 = .ok (.getfield 40, 3) := by decide +kernel
theorem dX9_law_121 : decode cX9_law 121 = .ok (.aload_n 0, 1) := by decide +kernel
theorem dX9_law_122 : decode cX9_law 122 = .ok (.getfield 219, 3) := by decide +kernel
theorem dX9_law_125 : decode cX9_law 125 = .ok (.aaload, 1) := by decide +kernel
theorem dX9_law_126 : decode cX9_law 126 = .ok (.iload_n 2, 1) := by decide +kernel
theorem dX9_law_127 : decode cX9_law 127 = .ok (.aload_n 0, 1) := by decide +kernel
theorem dX9_law_128 : decode cX9_law 128 = .ok (.getfield 17, 3) := by decide +kernel
theorem dX9_law_131 : decode cX9_law 131 = .ok (.iload_n 2, 1) := by decide +kernel
theorem dX9_law_132 : decode cX9_law 132 = .ok (.iaload, 1) := by decide +kernel
theorem dX9_law_133 : decode cX9_law 133 = .ok (.iastore, 1) := by decide +kernel
theorem dX9_law_134 : decode cX9_law 134 = .ok (.iinc 2 1, 3) := by decide +kernel
theorem dX9_law_137 : decode cX9_law 137 = .ok (.goto (-28), 3) := by decide +kernel
theorem dX9_law_140 : decode cX9_law 140 = .ok (.iconst 0, 1) := by decide +kernel
theorem dX9_law_141 : decode cX9_law 141 = .ok (.istore_n 2, 1) := by decide +kernel
theorem dX9_law_142 : decode cX9_law 142 = .ok (.iload_n 2, 1) := by decide +kernel
theorem dX9_law_143 : decode cX9_law 143 = .ok (.aload_n 0, 1) := by decide +kernel
theorem dX9_law_144 : decode cX9_law 144 = .ok (.getfield 128, 3) := by decide +kernel
theorem dX9_law_147 : decode cX9_law 147 = .ok (.if_icmp .ge 46, 3) := by decide +kernel
theorem dX9_law_150 : decode cX9_law 150 = .ok (.iconst 0, 1) := by decide +kernel
theorem dX9_law_151 : decode cX9_law 151 = .ok (.istore_n 3, 1) := by decide +kernel
theorem dX9_law_152 : decode cX9_law 152 = .ok (.iload_n 3, 1) := by decide +kernel
theorem dX9_law_153 : decode cX9_law 153 = .ok (.iconst 4, 1) := by decide +kernel
theorem dX9_law_154 : decode cX9_law 154 = .ok (.if_icmp .ge 33, 3) := by decide +kernel
theorem dX9_law_157 : decode cX9_law 157 = .ok (.aload_n 0, 1) := by decide +kernel
theorem dX9_law_158 : decode cX9_law 158 = .ok (.getfield 43, 3) := by decide +kernel
theorem dX9_law_161 : decode cX9_law 161 = .ok (.bipush 16, 2) := by decide +kernel
theorem dX9_law_163 : decode cX9_law 163 = .ok (.aload_n 0, 1) := by decide +kernel
theorem dX9_law_164 : decode cX9_law 164 = .ok (.getfield 219, 3) := by decide +kernel
theorem dX9_law_167 : decode cX9_law 167 = .ok (.imul, 1) := by decide +kernel
theorem dX9_law_168 : decode cX9_law 168 = .ok (.iload_n 2, 1) := by decide +kernel
theorem dX9_law_169 : decode cX9_law 169 = .ok (.iadd, 1) := by decide +kernel
theorem dX9_law_170 : decode cX9_law 170 = .ok (.aaload, 1) := by decide +kernel
theorem dX9_law_171 : decode cX9_law 171 = .ok (.iload_n 3, 1) := by decide +kernel
theorem dX9_law_172 : decode cX9_law 172 = .ok (.aload_n 0, 1) := by decide +kernel
theorem dX9_law_173 : decode cX9_law 173 = .ok (.getfield 22, 3) := by decide +kernel
theorem dX9_law_176 : decode cX9_law 176 = .ok (.iload_n 2, 1) := by decide +kernel
theorem dX9_law_177 : decode cX9_law 177 = .ok (.aaload, 1) := by decide +kernel
theorem dX9_law_178 : decode cX9_law 178 = .ok (.iload_n 3, 1) := by decide +kernel
theorem dX9_law_179 : decode cX9_law 179 = .ok (.iaload, 1) := by decide +kernel
theorem dX9_law_180 : decode cX9_law 180 = .ok (.iastore, 1) := by decide +kernel
theorem dX9_law_181 : decode cX9_law 181 = .ok (.iinc 3 1, 3) := by decide +kernel
theorem dX9_law_184 : decode cX9_law 184 = .ok (.goto (-32), 3) := by decide +kernel
theorem dX9_law_187 : decode cX9_law 187 = .ok (.iinc 2 1, 3) := by decide +kernel
theorem dX9_law_190 : decode cX9_law 190 = .ok (.goto (-48), 3) := by decide +kernel
theorem dX9_law_193 : decode cX9_law 193 = .ok (.aload_n 0, 1) := by decide +kernel
theorem dX9_law_194 : decode cX9_law 194 = .ok (.getfield 46, 3) := by decide +kernel
theorem dX9_law_197 : decode cX9_law 197 = .ok (.aload_n 0, 1) := by decide +kernel
theorem dX9_law_198 : decode cX9_law 198 = .ok (.getfield 219, 3) := by decide +kernel
theorem dX9_law_201 : decode cX9_law 201 = .ok (.aload_n 0, 1) := by decide +kernel
theorem dX9_law_202 : decode cX9_law 202 = .ok (.getfield 128, 3) := by decide +kernel
theorem dX9_law_205 : decode cX9_law 205 = .ok (.iastore, 1) := by decide +kernel
theorem dX9_law_206 : decode cX9_law 206 = .ok (.aload_n 0, 1) := by decide +kernel
theorem dX9_law_207 : decode cX9_law 207 = .ok (.getfield 49, 3) := by decide +kernel
theorem dX9_law_210 : decode cX9_law 210 = .ok (.aload_n 0, 1) := by decide +kernel
theorem dX9_law_211 : decode cX9_law 211 = .ok (.getfield 219, 3) := by decide +kernel
theorem dX9_law_214 : decode cX9_law 214 = .ok (.iconst 1, 1) := by decide +kernel
theorem dX9_law_215 : decode cX9_law 215 = .ok (.iastore, 1) := by decide +kernel
theorem dX9_law_216 : decode cX9_law 216 = .ok (.aload_n 0, 1) := by decide +kernel
theorem dX9_law_217 : decode cX9_law 217 = .ok (.dup, 1) := by decide +kernel
theorem dX9_law_218 : decode cX9_law 218 = .ok (.getfield 219, 3) := by decide +kernel
theorem dX9_law_221 : decode cX9_law 221 = .ok (.iconst 1, 1) := by decide +kernel
theorem dX9_law_222 : decode cX9_law 222 = .ok (.iadd, 1) := by decide +kernel
theorem dX9_law_223 : decode cX9_law 223 = .ok (.putfield 219, 3) := by decide +kernel
theorem dX9_law_226 : decode cX9_law 226 = .ok (.aload_n 0, 1) := by decide +kernel
theorem dX9_law_227 : decode cX9_law 227 = .ok (.getfield 219, 3) := by decide +kernel
theorem dX9_law_230 : decode cX9_law 230 = .ok (.iconst 1, 1) := by decide +kernel
theorem dX9_law_231 : decode cX9_law 231 = .ok (.isub, 1) := by decide +kernel
theorem dX9_law_232 : decode cX9_law 232 = .ok (.ireturn, 1) := by decide +kernel
theorem dX9_fault_0 : decode cX9_fault 0 = .ok (.aload_n 0, 1) := by decide +kernel
theorem dX9_fault_1 : decode cX9_fault 1 = .ok (.iconst 0, 1) := by decide +kernel
theorem dX9_fault_2 : decode cX9_fault 2 = .ok (.putfield 76, 3) := by decide +kernel
theorem dX9_fault_5 : decode cX9_fault 5 = .ok (.aload_n 0, 1) := by decide +kernel
theorem dX9_fault_6 : decode cX9_fault 6 = .ok (.getfield 9, 3) := by decide +kernel
theorem dX9_fault_9 : decode cX9_fault 9 = .ok (.ireturn, 1) := by decide +kernel
theorem dX9_worked_0 : decode cX9_worked 0 = .ok (.iload_n 0, 1) := by decide +kernel
theorem dX9_worked_1 : decode cX9_worked 1 = .ok (.tableswitch 158 10020 10034 #[75, 79, 83, 87, 99, 110, 158, 158, 158, 158, 121, 132, 143, 158, 154], 75) := by decide +kernel
theorem dX9_worked_76 : decode cX9_worked 76 = .ok (.iload_n 1, 1) := by decide +kernel
theorem dX9_worked_77 : decode cX9_worked 77 = .ok (.iload_n 2, 1) := by decide +kernel
theorem dX9_worked_78 : decode cX9_worked 78 = .ok (.iadd, 1) := by decide +kernel
theorem dX9_worked_79 : decode cX9_worked 79 = .ok (.ireturn, 1) := by decide +kernel
theorem dX9_worked_80 : decode cX9_worked 80 = .ok (.iload_n 1, 1) := by decide +kernel
theorem dX9_worked_81 : decode cX9_worked 81 = .ok (.iload_n 2, 1) := by decide +kernel
theorem dX9_worked_82 : decode cX9_worked 82 = .ok (.isub, 1) := by decide +kernel
theorem dX9_worked_83 : decode cX9_worked 83 = .ok (.ireturn, 1) := by decide +kernel
theorem dX9_worked_84 : decode cX9_worked 84 = .ok (.iload_n 1, 1) := by decide +kernel
theorem dX9_worked_85 : decode cX9_worked 85 = .ok (.iload_n 2, 1) := by decide +kernel
theorem dX9_worked_86 : decode cX9_worked 86 = .ok (.imul, 1) := by decide +kernel
theorem dX9_worked_87 : decode cX9_worked 87 = .ok (.ireturn, 1) := by decide +kernel
theorem dX9_worked_88 : decode cX9_worked 88 = .ok (.iload_n 2, 1) := by decide +kernel
theorem dX9_worked_89 : decode cX9_worked 89 = .ok (.ifCond .ne 7, 3) := by decide +kernel
theorem dX9_worked_92 : decode cX9_worked 92 = .ok (.iconst 0, 1) := by decide +kernel
theorem dX9_worked_93 : decode cX9_worked 93 = .ok (.goto 6, 3) := by decide +kernel
theorem dX9_worked_96 : decode cX9_worked 96 = .ok (.iload_n 1, 1) := by decide +kernel
theorem dX9_worked_97 : decode cX9_worked 97 = .ok (.iload_n 2, 1) := by decide +kernel
theorem dX9_worked_98 : decode cX9_worked 98 = .ok (.idiv, 1) := by decide +kernel
theorem dX9_worked_99 : decode cX9_worked 99 = .ok (.ireturn, 1) := by decide +kernel
theorem dX9_worked_100 : decode cX9_worked 100 = .ok (.iload_n 1, 1) := by decide +kernel
theorem dX9_worked_101 : decode cX9_worked 101 = .ok (.iload_n 2, 1) := by decide +kernel
theorem dX9_worked_102 : decode cX9_worked 102 = .ok (.if_icmp .ge 7, 3) := by decide +kernel
theorem dX9_worked_105 : decode cX9_worked 105 = .ok (.iload_n 1, 1) := by decide +kernel
theorem dX9_worked_106 : decode cX9_worked 106 = .ok (.goto 4, 3) := by decide +kernel
theorem dX9_worked_109 : decode cX9_worked 109 = .ok (.iload_n 2, 1) := by decide +kernel
theorem dX9_worked_110 : decode cX9_worked 110 = .ok (.ireturn, 1) := by decide +kernel
theorem dX9_worked_111 : decode cX9_worked 111 = .ok (.iload_n 1, 1) := by decide +kernel
theorem dX9_worked_112 : decode cX9_worked 112 = .ok (.iload_n 2, 1) := by decide +kernel
theorem dX9_worked_113 : decode cX9_worked 113 = .ok (.if_icmp .le 7, 3) := by decide +kernel
theorem dX9_worked_116 : decode cX9_worked 116 = .ok (.iload_n 1, 1) := by decide +kernel
theorem dX9_worked_117 : decode cX9_worked 117 = .ok (.goto 4, 3) := by decide +kernel
theorem dX9_worked_120 : decode cX9_worked 120 = .ok (.iload_n 2, 1) := by decide +kernel
theorem dX9_worked_121 : decode cX9_worked 121 = .ok (.ireturn, 1) := by decide +kernel
theorem dX9_worked_122 : decode cX9_worked 122 = .ok (.iload_n 1, 1) := by decide +kernel
theorem dX9_worked_123 : decode cX9_worked 123 = .ok (.iload_n 2, 1) := by decide +kernel
theorem dX9_worked_124 : decode cX9_worked 124 = .ok (.if_icmp .ge 7, 3) := by decide +kernel
theorem dX9_worked_127 : decode cX9_worked 127 = .ok (.iconst 1, 1) := by decide +kernel
theorem dX9_worked_128 : decode cX9_worked 128 = .ok (.goto 4, 3) := by decide +kernel
theorem dX9_worked_131 : decode cX9_worked 131 = .ok (.iconst 0, 1) := by decide +kernel
theorem dX9_worked_132 : decode cX9_worked 132 = .ok (.ireturn, 1) := by decide +kernel
theorem dX9_worked_133 : decode cX9_worked 133 = .ok (.iload_n 1, 1) := by decide +kernel
theorem dX9_worked_134 : decode cX9_worked 134 = .ok (.iload_n 2, 1) := by decide +kernel
theorem dX9_worked_135 : decode cX9_worked 135 = .ok (.if_icmp .le 7, 3) := by decide +kernel
theorem dX9_worked_138 : decode cX9_worked 138 = .ok (.iconst 1, 1) := by decide +kernel
theorem dX9_worked_139 : decode cX9_worked 139 = .ok (.goto 4, 3) := by decide +kernel
theorem dX9_worked_142 : decode cX9_worked 142 = .ok (.iconst 0, 1) := by decide +kernel
theorem dX9_worked_143 : decode cX9_worked 143 = .ok (.ireturn, 1) := by decide +kernel
theorem dX9_worked_144 : decode cX9_worked 144 = .ok (.iload_n 1, 1) := by decide +kernel
theorem dX9_worked_145 : decode cX9_worked 145 = .ok (.iload_n 2, 1) := by decide +kernel
theorem dX9_worked_146 : decode cX9_worked 146 = .ok (.if_icmp .ne 7, 3) := by decide +kernel
theorem dX9_worked_149 : decode cX9_worked 149 = .ok (.iconst 1, 1) := by decide +kernel
theorem dX9_worked_150 : decode cX9_worked 150 = .ok (.goto 4, 3) := by decide +kernel
theorem dX9_worked_153 : decode cX9_worked 153 = .ok (.iconst 0, 1) := by decide +kernel
theorem dX9_worked_154 : decode cX9_worked 154 = .ok (.ireturn, 1) := by decide +kernel
theorem dX9_worked_155 : decode cX9_worked 155 = .ok (.iload_n 1, 1) := by decide +kernel
theorem dX9_worked_156 : decode cX9_worked 156 = .ok (.iload_n 2, 1) := by decide +kernel
theorem dX9_worked_157 : decode cX9_worked 157 = .ok (.iand, 1) := by decide +kernel
theorem dX9_worked_158 : decode cX9_worked 158 = .ok (.ireturn, 1) := by decide +kernel
theorem dX9_worked_159 : decode cX9_worked 159 = .ok (.iload_n 1, 1) := by decide +kernel
theorem dX9_worked_160 : decode cX9_worked 160 = .ok (.iload_n 2, 1) := by decide +kernel
theorem dX9_worked_161 : decode cX9_worked 161 = .ok (.ior, 1) := by decide +kernel
theorem dX9_worked_162 : decode cX9_worked 162 = .ok (.ireturn, 1) := by decide +kernel
theorem dX9_work_0 : decode cX9_work 0 = .ok (.iconst 0, 1) := by decide +kernel
theorem dX9_work_1 : decode cX9_work 1 = .ok (.istore 4, 2) := by decide +kernel
theorem dX9_work_3 : decode cX9_work 3 = .ok (.iload_n 2, 1) := by decide +kernel
theorem dX9_work_4 : decode cX9_work 4 = .ok (.istore 5, 2) := by decide +kernel
theorem dX9_work_6 : decode cX9_work 6 = .ok (.iload 5, 2) := by decide +kernel
theorem dX9_work_8 : decode cX9_work 8 = .ok (.iload_n 3, 1) := by decide +kernel
theorem dX9_work_9 : decode cX9_work 9 = .ok (.if_icmp .ge 129, 3) := by decide +kernel
theorem dX9_work_12 : decode cX9_work 12 = .ok (.aload_n 0, 1) := by decide +kernel
theorem dX9_work_13 : decode cX9_work 13 = .ok (.getfield 40, 3) := by decide +kernel
theorem dX9_work_16 : decode cX9_work 16 = .ok (.iload_n 1, 1) := by decide +kernel
theorem dX9_work_17 : decode cX9_work 17 = .ok (.aaload, 1) := by decide +kernel
theorem dX9_work_18 : decode cX9_work 18 = .ok (.iload 5, 2) := by decide +kernel
theorem dX9_work_20 : decode cX9_work 20 = .ok (.iaload, 1) := by decide +kernel
theorem dX9_work_21 : decode cX9_work 21 = .ok (.istore 6, 2) := by decide +kernel
theorem dX9_work_23 : decode cX9_work 23 = .ok (.iload 6, 2) := by decide +kernel
theorem dX9_work_25 : decode cX9_work 25 = .ok (.sipush 10020, 3) := by decide +kernel
theorem dX9_work_28 : decode cX9_work 28 = .ok (.if_icmp .ge 40, 3) := by decide +kernel
theorem dX9_work_31 : decode cX9_work 31 = .ok (.aload_n 0, 1) := by decide +kernel
theorem dX9_work_32 : decode cX9_work 32 = .ok (.getfield 52, 3) := by decide +kernel
theorem dX9_work_35 : decode cX9_work 35 = .ok (.iload 4, 2) := by decide +kernel
theorem dX9_work_37 : decode cX9_work 37 = .ok (.iload 6, 2) := by decide +kernel
theorem dX9_work_39 : decode cX9_work 39 = .ok (.sipush 10000, 3) := by decide +kernel
theorem dX9_work_42 : decode cX9_work 42 = .ok (.if_icmp .ge 8, 3) := by decide +kernel
theorem dX9_work_45 : decode cX9_work 45 = .ok (.iload 6, 2) := by decide +kernel
theorem dX9_work_47 : decode cX9_work 47 = .ok (.goto 14, 3) := by decide +kernel
theorem dX9_work_50 : decode cX9_work 50 = .ok (.aload_n 0, 1) := by decide +kernel
theorem dX9_work_51 : decode cX9_work 51 = .ok (.getfield 55, 3) := by decide +kernel
theorem dX9_work_54 : decode cX9_work 54 = .ok (.iload 6, 2) := by decide +kernel
theorem dX9_work_56 : decode cX9_work 56 = .ok (.sipush 10000, 3) := by decide +kernel
theorem dX9_work_59 : decode cX9_work 59 = .ok (.isub, 1) := by decide +kernel
theorem dX9_work_60 : decode cX9_work 60 = .ok (.iaload, 1) := by decide +kernel
theorem dX9_work_61 : decode cX9_work 61 = .ok (.iastore, 1) := by decide +kernel
theorem dX9_work_62 : decode cX9_work 62 = .ok (.iinc 4 1, 3) := by decide +kernel
theorem dX9_work_65 : decode cX9_work 65 = .ok (.goto 67, 3) := by decide +kernel
theorem dX9_work_68 : decode cX9_work 68 = .ok (.iload 6, 2) := by decide +kernel
theorem dX9_work_70 : decode cX9_work 70 = .ok (.sipush 10033, 3) := by decide +kernel
theorem dX9_work_73 : decode cX9_work 73 = .ok (.if_icmp .ne 26, 3) := by decide +kernel
theorem dX9_work_76 : decode cX9_work 76 = .ok (.aload_n 0, 1) := by decide +kernel
theorem dX9_work_77 : decode cX9_work 77 = .ok (.getfield 52, 3) := by decide +kernel
theorem dX9_work_80 : decode cX9_work 80 = .ok (.iload 4, 2) := by decide +kernel
theorem dX9_work_82 : decode cX9_work 82 = .ok (.iconst 1, 1) := by decide +kernel
theorem dX9_work_83 : decode cX9_work 83 = .ok (.isub, 1) := by decide +kernel
theorem dX9_work_84 : decode cX9_work 84 = .ok (.iconst 1, 1) := by decide +kernel
theorem dX9_work_85 : decode cX9_work 85 = .ok (.aload_n 0, 1) := by decide +kernel
theorem dX9_work_86 : decode cX9_work 86 = .ok (.getfield 52, 3) := by decide +kernel
theorem dX9_work_89 : decode cX9_work 89 = .ok (.iload 4, 2) := by decide +kernel
theorem dX9_work_91 : decode cX9_work 91 = .ok (.iconst 1, 1) := by decide +kernel
theorem dX9_work_92 : decode cX9_work 92 = .ok (.isub, 1) := by decide +kernel
theorem dX9_work_93 : decode cX9_work 93 = .ok (.iaload, 1) := by decide +kernel
theorem dX9_work_94 : decode cX9_work 94 = .ok (.isub, 1) := by decide +kernel
theorem dX9_work_95 : decode cX9_work 95 = .ok (.iastore, 1) := by decide +kernel
theorem dX9_work_96 : decode cX9_work 96 = .ok (.goto 36, 3) := by decide +kernel
theorem dX9_work_99 : decode cX9_work 99 = .ok (.iinc 4 (-1), 3) := by decide +kernel
theorem dX9_work_102 : decode cX9_work 102 = .ok (.aload_n 0, 1) := by decide +kernel
theorem dX9_work_103 : decode cX9_work 103 = .ok (.getfield 52, 3) := by decide +kernel
theorem dX9_work_106 : decode cX9_work 106 = .ok (.iload 4, 2) := by decide +kernel
theorem dX9_work_108 : decode cX9_work 108 = .ok (.iconst 1, 1) := by decide +kernel
theorem dX9_work_109 : decode cX9_work 109 = .ok (.isub, 1) := by decide +kernel
theorem dX9_work_110 : decode cX9_work 110 = .ok (.iload 6, 2) := by decide +kernel
theorem dX9_work_112 : decode cX9_work 112 = .ok (.aload_n 0, 1) := by decide +kernel
theorem dX9_work_113 : decode cX9_work 113 = .ok (.getfield 52, 3) := by decide +kernel
theorem dX9_work_116 : decode cX9_work 116 = .ok (.iload 4, 2) := by decide +kernel
theorem dX9_work_118 : decode cX9_work 118 = .ok (.iconst 1, 1) := by decide +kernel
theorem dX9_work_119 : decode cX9_work 119 = .ok (.isub, 1) := by decide +kernel
theorem dX9_work_120 : decode cX9_work 120 = .ok (.iaload, 1) := by decide +kernel
theorem dX9_work_121 : decode cX9_work 121 = .ok (.aload_n 0, 1) := by decide +kernel
theorem dX9_work_122 : decode cX9_work 122 = .ok (.getfield 52, 3) := by decide +kernel
theorem dX9_work_125 : decode cX9_work 125 = .ok (.iload 4, 2) := by decide +kernel
theorem dX9_work_127 : decode cX9_work 127 = .ok (.iaload, 1) := by decide +kernel
theorem dX9_work_128 : decode cX9_work 128 = .ok (.invokestatic 225, 3) := by decide +kernel
theorem dX9_work_131 : decode cX9_work 131 = .ok (.iastore, 1) := by decide +kernel
theorem dX9_work_132 : decode cX9_work 132 = .ok (.iinc 5 1, 3) := by decide +kernel
theorem dX9_work_135 : decode cX9_work 135 = .ok (.goto (-129), 3) := by decide +kernel
theorem dX9_work_138 : decode cX9_work 138 = .ok (.aload_n 0, 1) := by decide +kernel
theorem dX9_work_139 : decode cX9_work 139 = .ok (.getfield 52, 3) := by decide +kernel
theorem dX9_work_142 : decode cX9_work 142 = .ok (.iconst 0, 1) := by decide +kernel
theorem dX9_work_143 : decode cX9_work 143 = .ok (.iaload, 1) := by decide +kernel
theorem dX9_work_144 : decode cX9_work 144 = .ok (.ireturn, 1) := by decide +kernel
theorem dX9_holds_0 : decode cX9_holds 0 = .ok (.aload_n 2, 1) := by decide +kernel
theorem dX9_holds_1 : decode cX9_holds 1 = .ok (.iconst 3, 1) := by decide +kernel
theorem dX9_holds_2 : decode cX9_holds 2 = .ok (.iaload, 1) := by decide +kernel
theorem dX9_holds_3 : decode cX9_holds 3 = .ok (.iconst (-1), 1) := by decide +kernel
theorem dX9_holds_4 : decode cX9_holds 4 = .ok (.if_icmp .eq 18, 3) := by decide +kernel
theorem dX9_holds_7 : decode cX9_holds 7 = .ok (.aload_n 0, 1) := by decide +kernel
theorem dX9_holds_8 : decode cX9_holds 8 = .ok (.iload_n 1, 1) := by decide +kernel
theorem dX9_holds_9 : decode cX9_holds 9 = .ok (.aload_n 2, 1) := by decide +kernel
theorem dX9_holds_10 : decode cX9_holds 10 = .ok (.iconst 2, 1) := by decide +kernel
theorem dX9_holds_11 : decode cX9_holds 11 = .ok (.iaload, 1) := by decide +kernel
theorem dX9_holds_12 : decode cX9_holds 12 = .ok (.aload_n 2, 1) := by decide +kernel
theorem dX9_holds_13 : decode cX9_holds 13 = .ok (.iconst 3, 1) := by decide +kernel
theorem dX9_holds_14 : decode cX9_holds 14 = .ok (.iaload, 1) := by decide +kernel
theorem dX9_holds_15 : decode cX9_holds 15 = .ok (.invokevirtual 228, 3) := by decide +kernel
theorem dX9_holds_18 : decode cX9_holds 18 = .ok (.iconst 1, 1) := by decide +kernel
theorem dX9_holds_19 : decode cX9_holds 19 = .ok (.if_icmp .ne 7, 3) := by decide +kernel
theorem dX9_holds_22 : decode cX9_holds 22 = .ok (.iconst 1, 1) := by decide +kernel
theorem dX9_holds_23 : decode cX9_holds 23 = .ok (.goto 4, 3) := by decide +kernel
theorem dX9_holds_26 : decode cX9_holds 26 = .ok (.iconst 0, 1) := by decide +kernel
theorem dX9_holds_27 : decode cX9_holds 27 = .ok (.ireturn, 1) := by decide +kernel
theorem dX9_lastOf_0 : decode cX9_lastOf 0 = .ok (.iload 5, 2) := by decide +kernel
theorem dX9_lastOf_2 : decode cX9_lastOf 2 = .ok (.istore 6, 2) := by decide +kernel
theorem dX9_lastOf_4 : decode cX9_lastOf 4 = .ok (.iconst 0, 1) := by decide +kernel
theorem dX9_lastOf_5 : decode cX9_lastOf 5 = .ok (.istore 7, 2) := by decide +kernel
theorem dX9_lastOf_7 : decode cX9_lastOf 7 = .ok (.iload 7, 2) := by decide +kernel
theorem dX9_lastOf_9 : decode cX9_lastOf 9 = .ok (.aload_n 0, 1) := by decide +kernel
theorem dX9_lastOf_10 : decode cX9_lastOf 10 = .ok (.getfield 46, 3) := by decide +kernel
theorem dX9_lastOf_13 : decode cX9_lastOf 13 = .ok (.iload_n 1, 1) := by decide +kernel
theorem dX9_lastOf_14 : decode cX9_lastOf 14 = .ok (.iaload, 1) := by decide +kernel
theorem dX9_lastOf_15 : decode cX9_lastOf 15 = .ok (.if_icmp .ge 62, 3) := by decide +kernel
theorem dX9_lastOf_18 : decode cX9_lastOf 18 = .ok (.aload_n 0, 1) := by decide +kernel
theorem dX9_lastOf_19 : decode cX9_lastOf 19 = .ok (.getfield 43, 3) := by decide +kernel
theorem dX9_lastOf_22 : decode cX9_lastOf 22 = .ok (.bipush 16, 2) := by decide +kernel
theorem dX9_lastOf_24 : decode cX9_lastOf 24 = .ok (.iload_n 1, 1) := by decide +kernel
theorem dX9_lastOf_25 : decode cX9_lastOf 25 = .ok (.imul, 1) := by decide +kernel
theorem dX9_lastOf_26 : decode cX9_lastOf 26 = .ok (.iload 7, 2) := by decide +kernel
theorem dX9_lastOf_28 : decode cX9_lastOf 28 = .ok (.iadd, 1) := by decide +kernel
theorem dX9_lastOf_29 : decode cX9_lastOf 29 = .ok (.aaload, 1) := by decide +kernel
theorem dX9_lastOf_30 : decode cX9_lastOf 30 = .ok (.astore 8, 2) := by decide +kernel
theorem dX9_lastOf_32 : decode cX9_lastOf 32 = .ok (.aload 8, 2) := by decide +kernel
theorem dX9_lastOf_34 : decode cX9_lastOf 34 = .ok (.iconst 0, 1) := by decide +kernel
theorem dX9_lastOf_35 : decode cX9_lastOf 35 = .ok (.iaload, 1) := by decide +kernel
theorem dX9_lastOf_36 : decode cX9_lastOf 36 = .ok (.iload_n 2, 1) := by decide +kernel
theorem dX9_lastOf_37 : decode cX9_lastOf 37 = .ok (.if_icmp .ne 34, 3) := by decide +kernel
theorem dX9_lastOf_40 : decode cX9_lastOf 40 = .ok (.aload_n 0, 1) := by decide +kernel
theorem dX9_lastOf_41 : decode cX9_lastOf 41 = .ok (.iload_n 1, 1) := by decide +kernel
theorem dX9_lastOf_42 : decode cX9_lastOf 42 = .ok (.aload 8, 2) := by decide +kernel
theorem dX9_lastOf_44 : decode cX9_lastOf 44 = .ok (.invokevirtual 231, 3) := by decide +kernel
theorem dX9_lastOf_47 : decode cX9_lastOf 47 = .ok (.ifCond .eq 24, 3) := by decide +kernel
theorem dX9_lastOf_50 : decode cX9_lastOf 50 = .ok (.aload_n 0, 1) := by decide +kernel
theorem dX9_lastOf_51 : decode cX9_lastOf 51 = .ok (.iload_n 1, 1) := by decide +kernel
theorem dX9_lastOf_52 : decode cX9_lastOf 52 = .ok (.aload 8, 2) := by decide +kernel
theorem dX9_lastOf_54 : decode cX9_lastOf 54 = .ok (.iconst 1, 1) := by decide +kernel
theorem dX9_lastOf_55 : decode cX9_lastOf 55 = .ok (.iaload, 1) := by decide +kernel
theorem dX9_lastOf_56 : decode cX9_lastOf 56 = .ok (.aload 8, 2) := by decide +kernel
theorem dX9_lastOf_58 : decode cX9_lastOf 58 = .ok (.iconst 2, 1) := by decide +kernel
theorem dX9_lastOf_59 : decode cX9_lastOf 59 = .ok (.iaload, 1) := by decide +kernel
theorem dX9_lastOf_60 : decode cX9_lastOf 60 = .ok (.invokevirtual 228, 3) := by decide +kernel
theorem dX9_lastOf_63 : decode cX9_lastOf 63 = .ok (.iload_n 3, 1) := by decide +kernel
theorem dX9_lastOf_64 : decode cX9_lastOf 64 = .ok (.iload 4, 2) := by decide +kernel
theorem dX9_lastOf_66 : decode cX9_lastOf 66 = .ok (.invokestatic 235, 3) := by decide +kernel
theorem dX9_lastOf_69 : decode cX9_lastOf 69 = .ok (.istore 6, 2) := by decide +kernel
theorem dX9_lastOf_71 : decode cX9_lastOf 71 = .ok (.iinc 7 1, 3) := by decide +kernel
theorem dX9_lastOf_74 : decode cX9_lastOf 74 = .ok (.goto (-67), 3) := by decide +kernel
theorem dX9_lastOf_77 : decode cX9_lastOf 77 = .ok (.iload 6, 2) := by decide +kernel
theorem dX9_lastOf_79 : decode cX9_lastOf 79 = .ok (.ireturn, 1) := by decide +kernel
theorem dX9_getsNow_0 : decode cX9_getsNow 0 = .ok (.iconst 0, 1) := by decide +kernel
theorem dX9_getsNow_1 : decode cX9_getsNow 1 = .ok (.istore_n 2, 1) := by decide +kernel
theorem dX9_getsNow_2 : decode cX9_getsNow 2 = .ok (.iconst 0, 1) := by decide +kernel
theorem dX9_getsNow_3 : decode cX9_getsNow 3 = .ok (.istore_n 3, 1) := by decide +kernel
theorem dX9_getsNow_4 : decode cX9_getsNow 4 = .ok (.iload_n 3, 1) := by decide +kernel
theorem dX9_getsNow_5 : decode cX9_getsNow 5 = .ok (.aload_n 0, 1) := by decide +kernel
theorem dX9_getsNow_6 : decode cX9_getsNow 6 = .ok (.getfield 46, 3) := by decide +kernel
theorem dX9_getsNow_9 : decode cX9_getsNow 9 = .ok (.iload_n 1, 1) := by decide +kernel
theorem dX9_getsNow_10 : decode cX9_getsNow 10 = .ok (.iaload, 1) := by decide +kernel
theorem dX9_getsNow_11 : decode cX9_getsNow 11 = .ok (.if_icmp .ge 55, 3) := by decide +kernel
theorem dX9_getsNow_14 : decode cX9_getsNow 14 = .ok (.aload_n 0, 1) := by decide +kernel
theorem dX9_getsNow_15 : decode cX9_getsNow 15 = .ok (.getfield 43, 3) := by decide +kernel
theorem dX9_getsNow_18 : decode cX9_getsNow 18 = .ok (.bipush 16, 2) := by decide +kernel
theorem dX9_getsNow_20 : decode cX9_getsNow 20 = .ok (.iload_n 1, 1) := by decide +kernel
theorem dX9_getsNow_21 : decode cX9_getsNow 21 = .ok (.imul, 1) := by decide +kernel
theorem dX9_getsNow_22 : decode cX9_getsNow 22 = .ok (.iload_n 3, 1) := by decide +kernel
theorem dX9_getsNow_23 : decode cX9_getsNow 23 = .ok (.iadd, 1) := by decide +kernel
theorem dX9_getsNow_24 : decode cX9_getsNow 24 = .ok (.aaload, 1) := by decide +kernel
theorem dX9_getsNow_25 : decode cX9_getsNow 25 = .ok (.astore 4, 2) := by decide +kernel
theorem dX9_getsNow_27 : decode cX9_getsNow 27 = .ok (.aload 4, 2) := by decide +kernel
theorem dX9_getsNow_29 : decode cX9_getsNow 29 = .ok (.iconst 0, 1) := by decide +kernel
theorem dX9_getsNow_30 : decode cX9_getsNow 30 = .ok (.iaload, 1) := by decide +kernel
theorem dX9_getsNow_31 : decode cX9_getsNow 31 = .ok (.ifCond .ne 29, 3) := by decide +kernel
theorem dX9_getsNow_34 : decode cX9_getsNow 34 = .ok (.aload_n 0, 1) := by decide +kernel
theorem dX9_getsNow_35 : decode cX9_getsNow 35 = .ok (.iload_n 1, 1) := by decide +kernel
theorem dX9_getsNow_36 : decode cX9_getsNow 36 = .ok (.aload 4, 2) := by decide +kernel
theorem dX9_getsNow_38 : decode cX9_getsNow 38 = .ok (.invokevirtual 231, 3) := by decide +kernel
theorem dX9_getsNow_41 : decode cX9_getsNow 41 = .ok (.ifCond .eq 19, 3) := by decide +kernel
theorem dX9_getsNow_44 : decode cX9_getsNow 44 = .ok (.iload_n 2, 1) := by decide +kernel
theorem dX9_getsNow_45 : decode cX9_getsNow 45 = .ok (.aload_n 0, 1) := by decide +kernel
theorem dX9_getsNow_46 : decode cX9_getsNow 46 = .ok (.iload_n 1, 1) := by decide +kernel
theorem dX9_getsNow_47 : decode cX9_getsNow 47 = .ok (.aload 4, 2) := by decide +kernel
theorem dX9_getsNow_49 : decode cX9_getsNow 49 = .ok (.iconst 1, 1) := by decide +kernel
theorem dX9_getsNow_50 : decode cX9_getsNow 50 = .ok (.iaload, 1) := by decide +kernel
theorem dX9_getsNow_51 : decode cX9_getsNow 51 = .ok (.aload 4, 2) := by decide +kernel
theorem dX9_getsNow_53 : decode cX9_getsNow 53 = .ok (.iconst 2, 1) := by decide +kernel
theorem dX9_getsNow_54 : decode cX9_getsNow 54 = .ok (.iaload, 1) := by decide +kernel
theorem dX9_getsNow_55 : decode cX9_getsNow 55 = .ok (.invokevirtual 228, 3) := by decide +kernel
theorem dX9_getsNow_58 : decode cX9_getsNow 58 = .ok (.iadd, 1) := by decide +kernel
theorem dX9_getsNow_59 : decode cX9_getsNow 59 = .ok (.istore_n 2, 1) := by decide +kernel
theorem dX9_getsNow_60 : decode cX9_getsNow 60 = .ok (.iinc 3 1, 3) := by decide +kernel
theorem dX9_getsNow_63 : decode cX9_getsNow 63 = .ok (.goto (-59), 3) := by decide +kernel
theorem dX9_getsNow_66 : decode cX9_getsNow 66 = .ok (.iload_n 2, 1) := by decide +kernel
theorem dX9_getsNow_67 : decode cX9_getsNow 67 = .ok (.iconst 0, 1) := by decide +kernel
theorem dX9_getsNow_68 : decode cX9_getsNow 68 = .ok (.sipush 1000, 3) := by decide +kernel
theorem dX9_getsNow_71 : decode cX9_getsNow 71 = .ok (.invokestatic 235, 3) := by decide +kernel
theorem dX9_getsNow_74 : decode cX9_getsNow 74 = .ok (.ireturn, 1) := by decide +kernel
theorem dX9_isScene_0 : decode cX9_isScene 0 = .ok (.iload_n 1, 1) := by decide +kernel
theorem dX9_isScene_1 : decode cX9_isScene 1 = .ok (.iconst 0, 1) := by decide +kernel
theorem dX9_isScene_2 : decode cX9_isScene 2 = .ok (.aload_n 0, 1) := by decide +kernel
theorem dX9_isScene_3 : decode cX9_isScene 3 = .ok (.getfield 166, 3) := by decide +kernel
theorem dX9_isScene_6 : decode cX9_isScene 6 = .ok (.iconst 1, 1) := by decide +kernel
theorem dX9_isScene_7 : decode cX9_isScene 7 = .ok (.isub, 1) := by decide +kernel
theorem dX9_isScene_8 : decode cX9_isScene 8 = .ok (.invokestatic 113, 3) := by decide +kernel
theorem dX9_isScene_11 : decode cX9_isScene 11 = .ok (.ireturn, 1) := by decide +kernel
theorem dX9_isTask_0 : decode cX9_isTask 0 = .ok (.iload_n 1, 1) := by decide +kernel
theorem dX9_isTask_1 : decode cX9_isTask 1 = .ok (.iconst 0, 1) := by decide +kernel
theorem dX9_isTask_2 : decode cX9_isTask 2 = .ok (.aload_n 0, 1) := by decide +kernel
theorem dX9_isTask_3 : decode cX9_isTask 3 = .ok (.getfield 179, 3) := by decide +kernel
theorem dX9_isTask_6 : decode cX9_isTask 6 = .ok (.iconst 1, 1) := by decide +kernel
theorem dX9_isTask_7 : decode cX9_isTask 7 = .ok (.isub, 1) := by decide +kernel
theorem dX9_isTask_8 : decode cX9_isTask 8 = .ok (.invokestatic 113, 3) := by decide +kernel
theorem dX9_isTask_11 : decode cX9_isTask 11 = .ok (.ireturn, 1) := by decide +kernel
theorem dX9_isLaw_0 : decode cX9_isLaw 0 = .ok (.iload_n 1, 1) := by decide +kernel
theorem dX9_isLaw_1 : decode cX9_isLaw 1 = .ok (.iconst 0, 1) := by decide +kernel
theorem dX9_isLaw_2 : decode cX9_isLaw 2 = .ok (.aload_n 0, 1) := by decide +kernel
theorem dX9_isLaw_3 : decode cX9_isLaw 3 = .ok (.getfield 219, 3) := by decide +kernel
theorem dX9_isLaw_6 : decode cX9_isLaw 6 = .ok (.iconst 1, 1) := by decide +kernel
theorem dX9_isLaw_7 : decode cX9_isLaw 7 = .ok (.isub, 1) := by decide +kernel
theorem dX9_isLaw_8 : decode cX9_isLaw 8 = .ok (.invokestatic 113, 3) := by decide +kernel
theorem dX9_isLaw_11 : decode cX9_isLaw 11 = .ok (.ireturn, 1) := by decide +kernel
theorem dX9_wayOf_0 : decode cX9_wayOf 0 = .ok (.iconst (-1), 1) := by decide +kernel
theorem dX9_wayOf_1 : decode cX9_wayOf 1 = .ok (.istore 4, 2) := by decide +kernel
theorem dX9_wayOf_3 : decode cX9_wayOf 3 = .ok (.bipush 24, 2) := by decide +kernel
theorem dX9_wayOf_5 : decode cX9_wayOf 5 = .ok (.iload_n 1, 1) := by decide +kernel
theorem dX9_wayOf_6 : decode cX9_wayOf 6 = .ok (.imul, 1) := by decide +kernel
theorem dX9_wayOf_7 : decode cX9_wayOf 7 = .ok (.istore 5, 2) := by decide +kernel
theorem dX9_wayOf_9 : decode cX9_wayOf 9 = .ok (.iload 5, 2) := by decide +kernel
theorem dX9_wayOf_11 : decode cX9_wayOf 11 = .ok (.bipush 24, 2) := by decide +kernel
theorem dX9_wayOf_13 : decode cX9_wayOf 13 = .ok (.iload_n 1, 1) := by decide +kernel
theorem dX9_wayOf_14 : decode cX9_wayOf 14 = .ok (.imul, 1) := by decide +kernel
theorem dX9_wayOf_15 : decode cX9_wayOf 15 = .ok (.aload_n 0, 1) := by decide +kernel
theorem dX9_wayOf_16 : decode cX9_wayOf 16 = .ok (.getfield 28, 3) := by decide +kernel
theorem dX9_wayOf_19 : decode cX9_wayOf 19 = .ok (.iload_n 1, 1) := by decide +kernel
theorem dX9_wayOf_20 : decode cX9_wayOf 20 = .ok (.iaload, 1) := by decide +kernel
theorem dX9_wayOf_21 : decode cX9_wayOf 21 = .ok (.iadd, 1) := by decide +kernel
theorem dX9_wayOf_22 : decode cX9_wayOf 22 = .ok (.if_icmp .ge 69, 3) := by decide +kernel
theorem dX9_wayOf_25 : decode cX9_wayOf 25 = .ok (.aload_n 0, 1) := by decide +kernel
theorem dX9_wayOf_26 : decode cX9_wayOf 26 = .ok (.getfield 25, 3) := by decide +kernel
theorem dX9_wayOf_29 : decode cX9_wayOf 29 = .ok (.iload 5, 2) := by decide +kernel
theorem dX9_wayOf_31 : decode cX9_wayOf 31 = .ok (.aaload, 1) := by decide +kernel
theorem dX9_wayOf_32 : decode cX9_wayOf 32 = .ok (.iconst 0, 1) := by decide +kernel
theorem dX9_wayOf_33 : decode cX9_wayOf 33 = .ok (.iaload, 1) := by decide +kernel
theorem dX9_wayOf_34 : decode cX9_wayOf 34 = .ok (.iconst 1, 1) := by decide +kernel
theorem dX9_wayOf_35 : decode cX9_wayOf 35 = .ok (.if_icmp .ne 46, 3) := by decide +kernel
theorem dX9_wayOf_38 : decode cX9_wayOf 38 = .ok (.aload_n 0, 1) := by decide +kernel
theorem dX9_wayOf_39 : decode cX9_wayOf 39 = .ok (.getfield 25, 3) := by decide +kernel
theorem dX9_wayOf_42 : decode cX9_wayOf 42 = .ok (.iload 5, 2) := by decide +kernel
theorem dX9_wayOf_44 : decode cX9_wayOf 44 = .ok (.aaload, 1) := by decide +kernel
theorem dX9_wayOf_45 : decode cX9_wayOf 45 = .ok (.iconst 1, 1) := by decide +kernel
theorem dX9_wayOf_46 : decode cX9_wayOf 46 = .ok (.iaload, 1) := by decide +kernel
theorem dX9_wayOf_47 : decode cX9_wayOf 47 = .ok (.iload_n 2, 1) := by decide +kernel
theorem dX9_wayOf_48 : decode cX9_wayOf 48 = .ok (.if_icmp .ne 33, 3) := by decide +kernel
theorem dX9_wayOf_51 : decode cX9_wayOf 51 = .ok (.iload_n 3, 1) := by decide +kernel
theorem dX9_wayOf_52 : decode cX9_wayOf 52 = .ok (.aload_n 0, 1) := by decide +kernel
theorem dX9_wayOf_53 : decode cX9_wayOf 53 = .ok (.getfield 25, 3) := by decide +kernel
theorem dX9_wayOf_56 : decode cX9_wayOf 56 = .ok (.iload 5, 2) := by decide +kernel
theorem dX9_wayOf_58 : decode cX9_wayOf 58 = .ok (.aaload, 1) := by decide +kernel
theorem dX9_wayOf_59 : decode cX9_wayOf 59 = .ok (.iconst 2, 1) := by decide +kernel
theorem dX9_wayOf_60 : decode cX9_wayOf 60 = .ok (.iaload, 1) := by decide +kernel
theorem dX9_wayOf_61 : decode cX9_wayOf 61 = .ok (.aload_n 0, 1) := by decide +kernel
theorem dX9_wayOf_62 : decode cX9_wayOf 62 = .ok (.getfield 25, 3) := by decide +kernel
theorem dX9_wayOf_65 : decode cX9_wayOf 65 = .ok (.iload 5, 2) := by decide +kernel
theorem dX9_wayOf_67 : decode cX9_wayOf 67 = .ok (.aaload, 1) := by decide +kernel
theorem dX9_wayOf_68 : decode cX9_wayOf 68 = .ok (.iconst 5, 1) := by decide +kernel
theorem dX9_wayOf_69 : decode cX9_wayOf 69 = .ok (.iaload, 1) := by decide +kernel
theorem dX9_wayOf_70 : decode cX9_wayOf 70 = .ok (.invokestatic 113, 3) := by decide +kernel
theorem dX9_wayOf_73 : decode cX9_wayOf 73 = .ok (.ifCond .eq 8, 3) := by decide +kernel
theorem dX9_wayOf_76 : decode cX9_wayOf 76 = .ok (.iload 5, 2) := by decide +kernel
theorem dX9_wayOf_78 : decode cX9_wayOf 78 = .ok (.goto 5, 3) := by decide +kernel
theorem dX9_wayOf_81 : decode cX9_wayOf 81 = .ok (.iload 4, 2) := by decide +kernel
theorem dX9_wayOf_83 : decode cX9_wayOf 83 = .ok (.istore 4, 2) := by decide +kernel
theorem dX9_wayOf_85 : decode cX9_wayOf 85 = .ok (.iinc 5 1, 3) := by decide +kernel
theorem dX9_wayOf_88 : decode cX9_wayOf 88 = .ok (.goto (-79), 3) := by decide +kernel
theorem dX9_wayOf_91 : decode cX9_wayOf 91 = .ok (.iload 4, 2) := by decide +kernel
theorem dX9_wayOf_93 : decode cX9_wayOf 93 = .ok (.ireturn, 1) := by decide +kernel
theorem dX9_placeOf_0 : decode cX9_placeOf 0 = .ok (.aload_n 0, 1) := by decide +kernel
theorem dX9_placeOf_1 : decode cX9_placeOf 1 = .ok (.iload_n 1, 1) := by decide +kernel
theorem dX9_placeOf_2 : decode cX9_placeOf 2 = .ok (.iload_n 2, 1) := by decide +kernel
theorem dX9_placeOf_3 : decode cX9_placeOf 3 = .ok (.iload_n 3, 1) := by decide +kernel
theorem dX9_placeOf_4 : decode cX9_placeOf 4 = .ok (.invokevirtual 238, 3) := by decide +kernel
theorem dX9_placeOf_7 : decode cX9_placeOf 7 = .ok (.istore 5, 2) := by decide +kernel
theorem dX9_placeOf_9 : decode cX9_placeOf 9 = .ok (.iload 5, 2) := by decide +kernel
theorem dX9_placeOf_11 : decode cX9_placeOf 11 = .ok (.iconst (-1), 1) := by decide +kernel
theorem dX9_placeOf_12 : decode cX9_placeOf 12 = .ok (.if_icmp .ne 5, 3) := by decide +kernel
theorem dX9_placeOf_15 : decode cX9_placeOf 15 = .ok (.iconst (-1), 1) := by decide +kernel
theorem dX9_placeOf_16 : decode cX9_placeOf 16 = .ok (.ireturn, 1) := by decide +kernel
theorem dX9_placeOf_17 : decode cX9_placeOf 17 = .ok (.aload_n 0, 1) := by decide +kernel
theorem dX9_placeOf_18 : decode cX9_placeOf 18 = .ok (.getfield 25, 3) := by decide +kernel
theorem dX9_placeOf_21 : decode cX9_placeOf 21 = .ok (.iload 5, 2) := by decide +kernel
theorem dX9_placeOf_23 : decode cX9_placeOf 23 = .ok (.aaload, 1) := by decide +kernel
theorem dX9_placeOf_24 : decode cX9_placeOf 24 = .ok (.astore 6, 2) := by decide +kernel
theorem dX9_placeOf_26 : decode cX9_placeOf 26 = .ok (.aload 6, 2) := by decide +kernel
theorem dX9_placeOf_28 : decode cX9_placeOf 28 = .ok (.iconst 2, 1) := by decide +kernel
theorem dX9_placeOf_29 : decode cX9_placeOf 29 = .ok (.iaload, 1) := by decide +kernel
theorem dX9_placeOf_30 : decode cX9_placeOf 30 = .ok (.aload 6, 2) := by decide +kernel
theorem dX9_placeOf_32 : decode cX9_placeOf 32 = .ok (.iconst 5, 1) := by decide +kernel
theorem dX9_placeOf_33 : decode cX9_placeOf 33 = .ok (.iaload, 1) := by decide +kernel
theorem dX9_placeOf_34 : decode cX9_placeOf 34 = .ok (.if_icmp .ne 13, 3) := by decide +kernel
theorem dX9_placeOf_37 : decode cX9_placeOf 37 = .ok (.aload 6, 2) := by decide +kernel
theorem dX9_placeOf_39 : decode cX9_placeOf 39 = .ok (.iconst 3, 1) := by decide +kernel
theorem dX9_placeOf_40 : decode cX9_placeOf 40 = .ok (.iload 4, 2) := by decide +kernel
theorem dX9_placeOf_42 : decode cX9_placeOf 42 = .ok (.iadd, 1) := by decide +kernel
theorem dX9_placeOf_43 : decode cX9_placeOf 43 = .ok (.iaload, 1) := by decide +kernel
theorem dX9_placeOf_44 : decode cX9_placeOf 44 = .ok (.goto 44, 3) := by decide +kernel
theorem dX9_placeOf_47 : decode cX9_placeOf 47 = .ok (.aload 6, 2) := by decide +kernel
theorem dX9_placeOf_49 : decode cX9_placeOf 49 = .ok (.iconst 3, 1) := by decide +kernel
theorem dX9_placeOf_50 : decode cX9_placeOf 50 = .ok (.iload 4, 2) := by decide +kernel
theorem dX9_placeOf_52 : decode cX9_placeOf 52 = .ok (.iadd, 1) := by decide +kernel
theorem dX9_placeOf_53 : decode cX9_placeOf 53 = .ok (.iaload, 1) := by decide +kernel
theorem dX9_placeOf_54 : decode cX9_placeOf 54 = .ok (.aload 6, 2) := by decide +kernel
theorem dX9_placeOf_56 : decode cX9_placeOf 56 = .ok (.bipush 6, 2) := by decide +kernel
theorem dX9_placeOf_58 : decode cX9_placeOf 58 = .ok (.iload 4, 2) := by decide +kernel
theorem dX9_placeOf_60 : decode cX9_placeOf 60 = .ok (.iadd, 1) := by decide +kernel
theorem dX9_placeOf_61 : decode cX9_placeOf 61 = .ok (.iaload, 1) := by decide +kernel
theorem dX9_placeOf_62 : decode cX9_placeOf 62 = .ok (.aload 6, 2) := by decide +kernel
theorem dX9_placeOf_64 : decode cX9_placeOf 64 = .ok (.iconst 3, 1) := by decide +kernel
theorem dX9_placeOf_65 : decode cX9_placeOf 65 = .ok (.iload 4, 2) := by decide +kernel
theorem dX9_placeOf_67 : decode cX9_placeOf 67 = .ok (.iadd, 1) := by decide +kernel
theorem dX9_placeOf_68 : decode cX9_placeOf 68 = .ok (.iaload, 1) := by decide +kernel
theorem dX9_placeOf_69 : decode cX9_placeOf 69 = .ok (.isub, 1) := by decide +kernel
theorem dX9_placeOf_70 : decode cX9_placeOf 70 = .ok (.iload_n 3, 1) := by decide +kernel
theorem dX9_placeOf_71 : decode cX9_placeOf 71 = .ok (.aload 6, 2) := by decide +kernel
theorem dX9_placeOf_73 : decode cX9_placeOf 73 = .ok (.iconst 2, 1) := by decide +kernel
theorem dX9_placeOf_74 : decode cX9_placeOf 74 = .ok (.iaload, 1) := by decide +kernel
theorem dX9_placeOf_75 : decode cX9_placeOf 75 = .ok (.isub, 1) := by decide +kernel
theorem dX9_placeOf_76 : decode cX9_placeOf 76 = .ok (.imul, 1) := by decide +kernel
theorem dX9_placeOf_77 : decode cX9_placeOf 77 = .ok (.aload 6, 2) := by decide +kernel
theorem dX9_placeOf_79 : decode cX9_placeOf 79 = .ok (.iconst 5, 1) := by decide +kernel
theorem dX9_placeOf_80 : decode cX9_placeOf 80 = .ok (.iaload, 1) := by decide +kernel
theorem dX9_placeOf_81 : decode cX9_placeOf 81 = .ok (.aload 6, 2) := by decide +kernel
theorem dX9_placeOf_83 : decode cX9_placeOf 83 = .ok (.iconst 2, 1) := by decide +kernel
theorem dX9_placeOf_84 : decode cX9_placeOf 84 = .ok (.iaload, 1) := by decide +kernel
theorem dX9_placeOf_85 : decode cX9_placeOf 85 = .ok (.isub, 1) := by decide +kernel
theorem dX9_placeOf_86 : decode cX9_placeOf 86 = .ok (.idiv, 1) := by decide +kernel
theorem dX9_placeOf_87 : decode cX9_placeOf 87 = .ok (.iadd, 1) := by decide +kernel
theorem dX9_placeOf_88 : decode cX9_placeOf 88 = .ok (.ireturn, 1) := by decide +kernel
theorem dX9_isThere_0 : decode cX9_isThere 0 = .ok (.aload_n 0, 1) := by decide +kernel
theorem dX9_isThere_1 : decode cX9_isThere 1 = .ok (.iload_n 1, 1) := by decide +kernel
theorem dX9_isThere_2 : decode cX9_isThere 2 = .ok (.iload_n 2, 1) := by decide +kernel
theorem dX9_isThere_3 : decode cX9_isThere 3 = .ok (.iload_n 3, 1) := by decide +kernel
theorem dX9_isThere_4 : decode cX9_isThere 4 = .ok (.invokevirtual 238, 3) := by decide +kernel
theorem dX9_isThere_7 : decode cX9_isThere 7 = .ok (.iconst (-1), 1) := by decide +kernel
theorem dX9_isThere_8 : decode cX9_isThere 8 = .ok (.if_icmp .eq 7, 3) := by decide +kernel
theorem dX9_isThere_11 : decode cX9_isThere 11 = .ok (.iconst 1, 1) := by decide +kernel
theorem dX9_isThere_12 : decode cX9_isThere 12 = .ok (.goto 4, 3) := by decide +kernel
theorem dX9_isThere_15 : decode cX9_isThere 15 = .ok (.iconst 0, 1) := by decide +kernel
theorem dX9_isThere_16 : decode cX9_isThere 16 = .ok (.ireturn, 1) := by decide +kernel
theorem dX9_paceOf_0 : decode cX9_paceOf 0 = .ok (.iload_n 3, 1) := by decide +kernel
theorem dX9_paceOf_1 : decode cX9_paceOf 1 = .ok (.ifCond .eq 25, 3) := by decide +kernel
theorem dX9_paceOf_4 : decode cX9_paceOf 4 = .ok (.aload_n 0, 1) := by decide +kernel
theorem dX9_paceOf_5 : decode cX9_paceOf 5 = .ok (.iload_n 1, 1) := by decide +kernel
theorem dX9_paceOf_6 : decode cX9_paceOf 6 = .ok (.iload_n 2, 1) := by decide +kernel
theorem dX9_paceOf_7 : decode cX9_paceOf 7 = .ok (.iload_n 3, 1) := by decide +kernel
theorem dX9_paceOf_8 : decode cX9_paceOf 8 = .ok (.invokevirtual 241, 3) := by decide +kernel
theorem dX9_paceOf_11 : decode cX9_paceOf 11 = .ok (.ifCond .eq 15, 3) := by decide +kernel
theorem dX9_paceOf_14 : decode cX9_paceOf 14 = .ok (.aload_n 0, 1) := by decide +kernel
theorem dX9_paceOf_15 : decode cX9_paceOf 15 = .ok (.iload_n 1, 1) := by decide +kernel
theorem dX9_paceOf_16 : decode cX9_paceOf 16 = .ok (.iload_n 2, 1) := by decide +kernel
theorem dX9_paceOf_17 : decode cX9_paceOf 17 = .ok (.iload_n 3, 1) := by decide +kernel
theorem dX9_paceOf_18 : decode cX9_paceOf 18 = .ok (.iconst 1, 1) := by decide +kernel
theorem dX9_paceOf_19 : decode cX9_paceOf 19 = .ok (.isub, 1) := by decide +kernel
theorem dX9_paceOf_20 : decode cX9_paceOf 20 = .ok (.invokevirtual 241, 3) := by decide +kernel
theorem dX9_paceOf_23 : decode cX9_paceOf 23 = .ok (.ifCond .ne 5, 3) := by decide +kernel
theorem dX9_paceOf_26 : decode cX9_paceOf 26 = .ok (.iconst 0, 1) := by decide +kernel
theorem dX9_paceOf_27 : decode cX9_paceOf 27 = .ok (.ireturn, 1) := by decide +kernel
theorem dX9_paceOf_28 : decode cX9_paceOf 28 = .ok (.aload_n 0, 1) := by decide +kernel
theorem dX9_paceOf_29 : decode cX9_paceOf 29 = .ok (.iload_n 1, 1) := by decide +kernel
theorem dX9_paceOf_30 : decode cX9_paceOf 30 = .ok (.iload_n 2, 1) := by decide +kernel
theorem dX9_paceOf_31 : decode cX9_paceOf 31 = .ok (.iload_n 3, 1) := by decide +kernel
theorem dX9_paceOf_32 : decode cX9_paceOf 32 = .ok (.iconst 0, 1) := by decide +kernel
theorem dX9_paceOf_33 : decode cX9_paceOf 33 = .ok (.invokevirtual 244, 3) := by decide +kernel
theorem dX9_paceOf_36 : decode cX9_paceOf 36 = .ok (.aload_n 0, 1) := by decide +kernel
theorem dX9_paceOf_37 : decode cX9_paceOf 37 = .ok (.iload_n 1, 1) := by decide +kernel
theorem dX9_paceOf_38 : decode cX9_paceOf 38 = .ok (.iload_n 2, 1) := by decide +kernel
theorem dX9_paceOf_39 : decode cX9_paceOf 39 = .ok (.iload_n 3, 1) := by decide +kernel
theorem dX9_paceOf_40 : decode cX9_paceOf 40 = .ok (.iconst 1, 1) := by decide +kernel
theorem dX9_paceOf_41 : decode cX9_paceOf 41 = .ok (.isub, 1) := by decide +kernel
theorem dX9_paceOf_42 : decode cX9_paceOf 42 = .ok (.iconst 0, 1) := by decide +kernel
theorem dX9_paceOf_43 : decode cX9_paceOf 43 = .ok (.invokevirtual 244, 3) := by decide +kernel
theorem dX9_paceOf_46 : decode cX9_paceOf 46 = .ok (.isub, 1) := by decide +kernel
theorem dX9_paceOf_47 : decode cX9_paceOf 47 = .ok (.invokestatic 248, 3) := by decide +kernel
theorem dX9_paceOf_50 : decode cX9_paceOf 50 = .ok (.aload_n 0, 1) := by decide +kernel
theorem dX9_paceOf_51 : decode cX9_paceOf 51 = .ok (.iload_n 1, 1) := by decide +kernel
theorem dX9_paceOf_52 : decode cX9_paceOf 52 = .ok (.iload_n 2, 1) := by decide +kernel
theorem dX9_paceOf_53 : decode cX9_paceOf 53 = .ok (.iload_n 3, 1) := by decide +kernel
theorem dX9_paceOf_54 : decode cX9_paceOf 54 = .ok (.iconst 1, 1) := by decide +kernel
theorem dX9_paceOf_55 : decode cX9_paceOf 55 = .ok (.invokevirtual 244, 3) := by decide +kernel
theorem dX9_paceOf_58 : decode cX9_paceOf 58 = .ok (.aload_n 0, 1) := by decide +kernel
theorem dX9_paceOf_59 : decode cX9_paceOf 59 = .ok (.iload_n 1, 1) := by decide +kernel
theorem dX9_paceOf_60 : decode cX9_paceOf 60 = .ok (.iload_n 2, 1) := by decide +kernel
theorem dX9_paceOf_61 : decode cX9_paceOf 61 = .ok (.iload_n 3, 1) := by decide +kernel
theorem dX9_paceOf_62 : decode cX9_paceOf 62 = .ok (.iconst 1, 1) := by decide +kernel
theorem dX9_paceOf_63 : decode cX9_paceOf 63 = .ok (.isub, 1) := by decide +kernel
theorem dX9_paceOf_64 : decode cX9_paceOf 64 = .ok (.iconst 1, 1) := by decide +kernel
theorem dX9_paceOf_65 : decode cX9_paceOf 65 = .ok (.invokevirtual 244, 3) := by decide +kernel
theorem dX9_paceOf_68 : decode cX9_paceOf 68 = .ok (.isub, 1) := by decide +kernel
theorem dX9_paceOf_69 : decode cX9_paceOf 69 = .ok (.invokestatic 248, 3) := by decide +kernel
theorem dX9_paceOf_72 : decode cX9_paceOf 72 = .ok (.invokestatic 251, 3) := by decide +kernel
theorem dX9_paceOf_75 : decode cX9_paceOf 75 = .ok (.ireturn, 1) := by decide +kernel
theorem dX9_colourOf_0 : decode cX9_colourOf 0 = .ok (.iconst (-1), 1) := by decide +kernel
theorem dX9_colourOf_1 : decode cX9_colourOf 1 = .ok (.istore 4, 2) := by decide +kernel
theorem dX9_colourOf_3 : decode cX9_colourOf 3 = .ok (.bipush 24, 2) := by decide +kernel
theorem dX9_colourOf_5 : decode cX9_colourOf 5 = .ok (.iload_n 1, 1) := by decide +kernel
theorem dX9_colourOf_6 : decode cX9_colourOf 6 = .ok (.imul, 1) := by decide +kernel
theorem dX9_colourOf_7 : decode cX9_colourOf 7 = .ok (.istore 5, 2) := by decide +kernel
theorem dX9_colourOf_9 : decode cX9_colourOf 9 = .ok (.iload 5, 2) := by decide +kernel
theorem dX9_colourOf_11 : decode cX9_colourOf 11 = .ok (.bipush 24, 2) := by decide +kernel
theorem dX9_colourOf_13 : decode cX9_colourOf 13 = .ok (.iload_n 1, 1) := by decide +kernel
theorem dX9_colourOf_14 : decode cX9_colourOf 14 = .ok (.imul, 1) := by decide +kernel
theorem dX9_colourOf_15 : decode cX9_colourOf 15 = .ok (.aload_n 0, 1) := by decide +kernel
theorem dX9_colourOf_16 : decode cX9_colourOf 16 = .ok (.getfield 28, 3) := by decide +kernel
theorem dX9_colourOf_19 : decode cX9_colourOf 19 = .ok (.iload_n 1, 1) := by decide +kernel
theorem dX9_colourOf_20 : decode cX9_colourOf 20 = .ok (.iaload, 1) := by decide +kernel
theorem dX9_colourOf_21 : decode cX9_colourOf 21 = .ok (.iadd, 1) := by decide +kernel
theorem dX9_colourOf_22 : decode cX9_colourOf 22 = .ok (.if_icmp .ge 79, 3) := by decide +kernel
theorem dX9_colourOf_25 : decode cX9_colourOf 25 = .ok (.aload_n 0, 1) := by decide +kernel
theorem dX9_colourOf_26 : decode cX9_colourOf 26 = .ok (.getfield 25, 3) := by decide +kernel
theorem dX9_colourOf_29 : decode cX9_colourOf 29 = .ok (.iload 5, 2) := by decide +kernel
theorem dX9_colourOf_31 : decode cX9_colourOf 31 = .ok (.aaload, 1) := by decide +kernel
theorem dX9_colourOf_32 : decode cX9_colourOf 32 = .ok (.iconst 0, 1) := by decide +kernel
theorem dX9_colourOf_33 : decode cX9_colourOf 33 = .ok (.iaload, 1) := by decide +kernel
theorem dX9_colourOf_34 : decode cX9_colourOf 34 = .ok (.iconst 4, 1) := by decide +kernel
theorem dX9_colourOf_35 : decode cX9_colourOf 35 = .ok (.if_icmp .ne 60, 3) := by decide +kernel
theorem dX9_colourOf_38 : decode cX9_colourOf 38 = .ok (.aload_n 0, 1) := by decide +kernel
theorem dX9_colourOf_39 : decode cX9_colourOf 39 = .ok (.getfield 25, 3) := by decide +kernel
theorem dX9_colourOf_42 : decode cX9_colourOf 42 = .ok (.iload 5, 2) := by decide +kernel
theorem dX9_colourOf_44 : decode cX9_colourOf 44 = .ok (.aaload, 1) := by decide +kernel
theorem dX9_colourOf_45 : decode cX9_colourOf 45 = .ok (.iconst 1, 1) := by decide +kernel
theorem dX9_colourOf_46 : decode cX9_colourOf 46 = .ok (.iaload, 1) := by decide +kernel
theorem dX9_colourOf_47 : decode cX9_colourOf 47 = .ok (.iload_n 2, 1) := by decide +kernel
theorem dX9_colourOf_48 : decode cX9_colourOf 48 = .ok (.if_icmp .ne 47, 3) := by decide +kernel
theorem dX9_colourOf_51 : decode cX9_colourOf 51 = .ok (.aload_n 0, 1) := by decide +kernel
theorem dX9_colourOf_52 : decode cX9_colourOf 52 = .ok (.getfield 25, 3) := by decide +kernel
theorem dX9_colourOf_55 : decode cX9_colourOf 55 = .ok (.iload 5, 2) := by decide +kernel
theorem dX9_colourOf_57 : decode cX9_colourOf 57 = .ok (.aaload, 1) := by decide +kernel
theorem dX9_colourOf_58 : decode cX9_colourOf 58 = .ok (.iconst 2, 1) := by decide +kernel
theorem dX9_colourOf_59 : decode cX9_colourOf 59 = .ok (.iaload, 1) := by decide +kernel
theorem dX9_colourOf_60 : decode cX9_colourOf 60 = .ok (.iload_n 3, 1) := by decide +kernel
theorem dX9_colourOf_61 : decode cX9_colourOf 61 = .ok (.if_icmp .gt 34, 3) := by decide +kernel
theorem dX9_colourOf_64 : decode cX9_colourOf 64 = .ok (.iload 4, 2) := by decide +kernel
theorem dX9_colourOf_66 : decode cX9_colourOf 66 = .ok (.iconst (-1), 1) := by decide +kernel
theorem dX9_colourOf_67 : decode cX9_colourOf 67 = .ok (.if_icmp .eq 24, 3) := by decide +kernel
theorem dX9_colourOf_70 : decode cX9_colourOf 70 = .ok (.aload_n 0, 1) := by decide +kernel
theorem dX9_colourOf_71 : decode cX9_colourOf 71 = .ok (.getfield 25, 3) := by decide +kernel
theorem dX9_colourOf_74 : decode cX9_colourOf 74 = .ok (.iload 5, 2) := by decide +kernel
theorem dX9_colourOf_76 : decode cX9_colourOf 76 = .ok (.aaload, 1) := by decide +kernel
theorem dX9_colourOf_77 : decode cX9_colourOf 77 = .ok (.iconst 2, 1) := by decide +kernel
theorem dX9_colourOf_78 : decode cX9_colourOf 78 = .ok (.iaload, 1) := by decide +kernel
theorem dX9_colourOf_79 : decode cX9_colourOf 79 = .ok (.aload_n 0, 1) := by decide +kernel
theorem dX9_colourOf_80 : decode cX9_colourOf 80 = .ok (.getfield 25, 3) := by decide +kernel
theorem dX9_colourOf_83 : decode cX9_colourOf 83 = .ok (.iload 4, 2) := by decide +kernel
theorem dX9_colourOf_85 : decode cX9_colourOf 85 = .ok (.aaload, 1) := by decide +kernel
theorem dX9_colourOf_86 : decode cX9_colourOf 86 = .ok (.iconst 2, 1) := by decide +kernel
theorem dX9_colourOf_87 : decode cX9_colourOf 87 = .ok (.iaload, 1) := by decide +kernel
theorem dX9_colourOf_88 : decode cX9_colourOf 88 = .ok (.if_icmp .lt 7, 3) := by decide +kernel
theorem dX9_colourOf_91 : decode cX9_colourOf 91 = .ok (.iload 5, 2) := by decide +kernel
theorem dX9_colourOf_93 : decode cX9_colourOf 93 = .ok (.istore 4, 2) := by decide +kernel
theorem dX9_colourOf_95 : decode cX9_colourOf 95 = .ok (.iinc 5 1, 3) := by decide +kernel
theorem dX9_colourOf_98 : decode cX9_colourOf 98 = .ok (.goto (-89), 3) := by decide +kernel
theorem dX9_colourOf_101 : decode cX9_colourOf 101 = .ok (.iload 4, 2) := by decide +kernel
theorem dX9_colourOf_103 : decode cX9_colourOf 103 = .ok (.iconst (-1), 1) := by decide +kernel
theorem dX9_colourOf_104 : decode cX9_colourOf 104 = .ok (.if_icmp .ne 19, 3) := by decide +kernel
theorem dX9_colourOf_107 : decode cX9_colourOf 107 = .ok (.aload_n 0, 1) := by decide +kernel
theorem dX9_colourOf_108 : decode cX9_colourOf 108 = .ok (.getfield 34, 3) := by decide +kernel
theorem dX9_colourOf_111 : decode cX9_colourOf 111 = .ok (.bipush 8, 2) := by decide +kernel
theorem dX9_colourOf_113 : decode cX9_colourOf 113 = .ok (.iload_n 1, 1) := by decide +kernel
theorem dX9_colourOf_114 : decode cX9_colourOf 114 = .ok (.imul, 1) := by decide +kernel
theorem dX9_colourOf_115 : decode cX9_colourOf 115 = .ok (.iload_n 2, 1) := by decide +kernel
theorem dX9_colourOf_116 : decode cX9_colourOf 116 = .ok (.iadd, 1) := by decide +kernel
theorem dX9_colourOf_117 : decode cX9_colourOf 117 = .ok (.aaload, 1) := by decide +kernel
theorem dX9_colourOf_118 : decode cX9_colourOf 118 = .ok (.iconst 0, 1) := by decide +kernel
theorem dX9_colourOf_119 : decode cX9_colourOf 119 = .ok (.iaload, 1) := by decide +kernel
theorem dX9_colourOf_120 : decode cX9_colourOf 120 = .ok (.goto 12, 3) := by decide +kernel
theorem dX9_colourOf_123 : decode cX9_colourOf 123 = .ok (.aload_n 0, 1) := by decide +kernel
theorem dX9_colourOf_124 : decode cX9_colourOf 124 = .ok (.getfield 25, 3) := by decide +kernel
theorem dX9_colourOf_127 : decode cX9_colourOf 127 = .ok (.iload 4, 2) := by decide +kernel
theorem dX9_colourOf_129 : decode cX9_colourOf 129 = .ok (.aaload, 1) := by decide +kernel
theorem dX9_colourOf_130 : decode cX9_colourOf 130 = .ok (.iconst 3, 1) := by decide +kernel
theorem dX9_colourOf_131 : decode cX9_colourOf 131 = .ok (.iaload, 1) := by decide +kernel
theorem dX9_colourOf_132 : decode cX9_colourOf 132 = .ok (.ireturn, 1) := by decide +kernel
theorem dX9_isChanged_0 : decode cX9_isChanged 0 = .ok (.bipush 24, 2) := by decide +kernel
theorem dX9_isChanged_2 : decode cX9_isChanged 2 = .ok (.iload_n 1, 1) := by decide +kernel
theorem dX9_isChanged_3 : decode cX9_isChanged 3 = .ok (.imul, 1) := by decide +kernel
theorem dX9_isChanged_4 : decode cX9_isChanged 4 = .ok (.istore 4, 2) := by decide +kernel
theorem dX9_isChanged_6 : decode cX9_isChanged 6 = .ok (.iload 4, 2) := by decide +kernel
theorem dX9_isChanged_8 : decode cX9_isChanged 8 = .ok (.bipush 24, 2) := by decide +kernel
theorem dX9_isChanged_10 : decode cX9_isChanged 10 = .ok (.iload_n 1, 1) := by decide +kernel
theorem dX9_isChanged_11 : decode cX9_isChanged 11 = .ok (.imul, 1) := by decide +kernel
theorem dX9_isChanged_12 : decode cX9_isChanged 12 = .ok (.aload_n 0, 1) := by decide +kernel
theorem dX9_isChanged_13 : decode cX9_isChanged 13 = .ok (.getfield 28, 3) := by decide +kernel
theorem dX9_isChanged_16 : decode cX9_isChanged 16 = .ok (.iload_n 1, 1) := by decide +kernel
theorem dX9_isChanged_17 : decode cX9_isChanged 17 = .ok (.iaload, 1) := by decide +kernel
theorem dX9_isChanged_18 : decode cX9_isChanged 18 = .ok (.iadd, 1) := by decide +kernel
theorem dX9_isChanged_19 : decode cX9_isChanged 19 = .ok (.if_icmp .ge 57, 3) := by decide +kernel
theorem dX9_isChanged_22 : decode cX9_isChanged 22 = .ok (.aload_n 0, 1) := by decide +kernel
theorem dX9_isChanged_23 : decode cX9_isChanged 23 = .ok (.getfield 25, 3) := by decide +kernel
theorem dX9_isChanged_26 : decode cX9_isChanged 26 = .ok (.iload 4, 2) := by decide +kernel
theorem dX9_isChanged_28 : decode cX9_isChanged 28 = .ok (.aaload, 1) := by decide +kernel
theorem dX9_isChanged_29 : decode cX9_isChanged 29 = .ok (.iconst 0, 1) := by decide +kernel
theorem dX9_isChanged_30 : decode cX9_isChanged 30 = .ok (.iaload, 1) := by decide +kernel
theorem dX9_isChanged_31 : decode cX9_isChanged 31 = .ok (.iconst 4, 1) := by decide +kernel
theorem dX9_isChanged_32 : decode cX9_isChanged 32 = .ok (.if_icmp .ne 38, 3) := by decide +kernel
theorem dX9_isChanged_35 : decode cX9_isChanged 35 = .ok (.aload_n 0, 1) := by decide +kernel
theorem dX9_isChanged_36 : decode cX9_isChanged 36 = .ok (.getfield 25, 3) := by decide +kernel
theorem dX9_isChanged_39 : decode cX9_isChanged 39 = .ok (.iload 4, 2) := by decide +kernel
theorem dX9_isChanged_41 : decode cX9_isChanged 41 = .ok (.aaload, 1) := by decide +kernel
theorem dX9_isChanged_42 : decode cX9_isChanged 42 = .ok (.iconst 1, 1) := by decide +kernel
theorem dX9_isChanged_43 : decode cX9_isChanged 43 = .ok (.iaload, 1) := by decide +kernel
theorem dX9_isChanged_44 : decode cX9_isChanged 44 = .ok (.iload_n 2, 1) := by decide +kernel
theorem dX9_isChanged_45 : decode cX9_isChanged 45 = .ok (.if_icmp .ne 25, 3) := by decide +kernel
theorem dX9_isChanged_48 : decode cX9_isChanged 48 = .ok (.aload_n 0, 1) := by decide +kernel
theorem dX9_isChanged_49 : decode cX9_isChanged 49 = .ok (.getfield 25, 3) := by decide +kernel
theorem dX9_isChanged_52 : decode cX9_isChanged 52 = .ok (.iload 4, 2) := by decide +kernel
theorem dX9_isChanged_54 : decode cX9_isChanged 54 = .ok (.aaload, 1) := by decide +kernel
theorem dX9_isChanged_55 : decode cX9_isChanged 55 = .ok (.iconst 2, 1) := by decide +kernel
theorem dX9_isChanged_56 : decode cX9_isChanged 56 = .ok (.iaload, 1) := by decide +kernel
theorem dX9_isChanged_57 : decode cX9_isChanged 57 = .ok (.iload_n 3, 1) := by decide +kernel
theorem dX9_isChanged_58 : decode cX9_isChanged 58 = .ok (.bipush 9, 2) := by decide +kernel
theorem dX9_isChanged_60 : decode cX9_isChanged 60 = .ok (.isub, 1) := by decide +kernel
theorem dX9_isChanged_61 : decode cX9_isChanged 61 = .ok (.iload_n 3, 1) := by decide +kernel
theorem dX9_isChanged_62 : decode cX9_isChanged 62 = .ok (.invokestatic 113, 3) := by decide +kernel
theorem dX9_isChanged_65 : decode cX9_isChanged 65 = .ok (.ifCond .eq 5, 3) := by decide +kernel
theorem dX9_isChanged_68 : decode cX9_isChanged 68 = .ok (.iconst 1, 1) := by decide +kernel
theorem dX9_isChanged_69 : decode cX9_isChanged 69 = .ok (.ireturn, 1) := by decide +kernel
theorem dX9_isChanged_70 : decode cX9_isChanged 70 = .ok (.iinc 4 1, 3) := by decide +kernel
theorem dX9_isChanged_73 : decode cX9_isChanged 73 = .ok (.goto (-67), 3) := by decide +kernel
theorem dX9_isChanged_76 : decode cX9_isChanged 76 = .ok (.iconst 0, 1) := by decide +kernel
theorem dX9_isChanged_77 : decode cX9_isChanged 77 = .ok (.ireturn, 1) := by decide +kernel
theorem dX9_countOf_0 : decode cX9_countOf 0 = .ok (.iconst 0, 1) := by decide +kernel
theorem dX9_countOf_1 : decode cX9_countOf 1 = .ok (.istore_n 3, 1) := by decide +kernel
theorem dX9_countOf_2 : decode cX9_countOf 2 = .ok (.bipush 24, 2) := by decide +kernel
theorem dX9_countOf_4 : decode cX9_countOf 4 = .ok (.iload_n 1, 1) := by decide +kernel
theorem dX9_countOf_5 : decode cX9_countOf 5 = .ok (.imul, 1) := by decide +kernel
theorem dX9_countOf_6 : decode cX9_countOf 6 = .ok (.istore 4, 2) := by decide +kernel
theorem dX9_countOf_8 : decode cX9_countOf 8 = .ok (.iload 4, 2) := by decide +kernel
theorem dX9_countOf_10 : decode cX9_countOf 10 = .ok (.bipush 24, 2) := by decide +kernel
theorem dX9_countOf_12 : decode cX9_countOf 12 = .ok (.iload_n 1, 1) := by decide +kernel
theorem dX9_countOf_13 : decode cX9_countOf 13 = .ok (.imul, 1) := by decide +kernel
theorem dX9_countOf_14 : decode cX9_countOf 14 = .ok (.aload_n 0, 1) := by decide +kernel
theorem dX9_countOf_15 : decode cX9_countOf 15 = .ok (.getfield 28, 3) := by decide +kernel
theorem dX9_countOf_18 : decode cX9_countOf 18 = .ok (.iload_n 1, 1) := by decide +kernel
theorem dX9_countOf_19 : decode cX9_countOf 19 = .ok (.iaload, 1) := by decide +kernel
theorem dX9_countOf_20 : decode cX9_countOf 20 = .ok (.iadd, 1) := by decide +kernel
theorem dX9_countOf_21 : decode cX9_countOf 21 = .ok (.if_icmp .ge 30, 3) := by decide +kernel
theorem dX9_countOf_24 : decode cX9_countOf 24 = .ok (.iload_n 3, 1) := by decide +kernel
theorem dX9_countOf_25 : decode cX9_countOf 25 = .ok (.aload_n 0, 1) := by decide +kernel
theorem dX9_countOf_26 : decode cX9_countOf 26 = .ok (.getfield 25, 3) := by decide +kernel
theorem dX9_countOf_29 : decode cX9_countOf 29 = .ok (.iload 4, 2) := by decide +kernel
theorem dX9_countOf_31 : decode cX9_countOf 31 = .ok (.aaload, 1) := by decide +kernel
theorem dX9_countOf_32 : decode cX9_countOf 32 = .ok (.iconst 0, 1) := by decide +kernel
theorem dX9_countOf_33 : decode cX9_countOf 33 = .ok (.iaload, 1) := by decide +kernel
theorem dX9_countOf_34 : decode cX9_countOf 34 = .ok (.iload_n 2, 1) := by decide +kernel
theorem dX9_countOf_35 : decode cX9_countOf 35 = .ok (.if_icmp .ne 7, 3) := by decide +kernel
theorem dX9_countOf_38 : decode cX9_countOf 38 = .ok (.iconst 1, 1) := by decide +kernel
theorem dX9_countOf_39 : decode cX9_countOf 39 = .ok (.goto 4, 3) := by decide +kernel
theorem dX9_countOf_42 : decode cX9_countOf 42 = .ok (.iconst 0, 1) := by decide +kernel
theorem dX9_countOf_43 : decode cX9_countOf 43 = .ok (.iadd, 1) := by decide +kernel
theorem dX9_countOf_44 : decode cX9_countOf 44 = .ok (.istore_n 3, 1) := by decide +kernel
theorem dX9_countOf_45 : decode cX9_countOf 45 = .ok (.iinc 4 1, 3) := by decide +kernel
theorem dX9_countOf_48 : decode cX9_countOf 48 = .ok (.goto (-40), 3) := by decide +kernel
theorem dX9_countOf_51 : decode cX9_countOf 51 = .ok (.iload_n 3, 1) := by decide +kernel
theorem dX9_countOf_52 : decode cX9_countOf 52 = .ok (.ireturn, 1) := by decide +kernel
theorem dX9_endOf_0 : decode cX9_endOf 0 = .ok (.iconst 0, 1) := by decide +kernel
theorem dX9_endOf_1 : decode cX9_endOf 1 = .ok (.istore_n 2, 1) := by decide +kernel
theorem dX9_endOf_2 : decode cX9_endOf 2 = .ok (.bipush 24, 2) := by decide +kernel
theorem dX9_endOf_4 : decode cX9_endOf 4 = .ok (.iload_n 1, 1) := by decide +kernel
theorem dX9_endOf_5 : decode cX9_endOf 5 = .ok (.imul, 1) := by decide +kernel
theorem dX9_endOf_6 : decode cX9_endOf 6 = .ok (.istore_n 3, 1) := by decide +kernel
theorem dX9_endOf_7 : decode cX9_endOf 7 = .ok (.iload_n 3, 1) := by decide +kernel
theorem dX9_endOf_8 : decode cX9_endOf 8 = .ok (.bipush 24, 2) := by decide +kernel
theorem dX9_endOf_10 : decode cX9_endOf 10 = .ok (.iload_n 1, 1) := by decide +kernel
theorem dX9_endOf_11 : decode cX9_endOf 11 = .ok (.imul, 1) := by decide +kernel
theorem dX9_endOf_12 : decode cX9_endOf 12 = .ok (.aload_n 0, 1) := by decide +kernel
theorem dX9_endOf_13 : decode cX9_endOf 13 = .ok (.getfield 28, 3) := by decide +kernel
theorem dX9_endOf_16 : decode cX9_endOf 16 = .ok (.iload_n 1, 1) := by decide +kernel
theorem dX9_endOf_17 : decode cX9_endOf 17 = .ok (.iaload, 1) := by decide +kernel
theorem dX9_endOf_18 : decode cX9_endOf 18 = .ok (.iadd, 1) := by decide +kernel
theorem dX9_endOf_19 : decode cX9_endOf 19 = .ok (.if_icmp .ge 38, 3) := by decide +kernel
theorem dX9_endOf_22 : decode cX9_endOf 22 = .ok (.aload_n 0, 1) := by decide +kernel
theorem dX9_endOf_23 : decode cX9_endOf 23 = .ok (.getfield 25, 3) := by decide +kernel
theorem dX9_endOf_26 : decode cX9_endOf 26 = .ok (.iload_n 3, 1) := by decide +kernel
theorem dX9_endOf_27 : decode cX9_endOf 27 = .ok (.aaload, 1) := by decide +kernel
theorem dX9_endOf_28 : decode cX9_endOf 28 = .ok (.iconst 0, 1) := by decide +kernel
theorem dX9_endOf_29 : decode cX9_endOf 29 = .ok (.iaload, 1) := by decide +kernel
theorem dX9_endOf_30 : decode cX9_endOf 30 = .ok (.iconst 1, 1) := by decide +kernel
theorem dX9_endOf_31 : decode cX9_endOf 31 = .ok (.if_icmp .ne 18, 3) := by decide +kernel
theorem dX9_endOf_34 : decode cX9_endOf 34 = .ok (.iload_n 2, 1) := by decide +kernel
theorem dX9_endOf_35 : decode cX9_endOf 35 = .ok (.aload_n 0, 1) := by decide +kernel
theorem dX9_endOf_36 : decode cX9_endOf 36 = .ok (.getfield 25, 3) := by decide +kernel
theorem dX9_endOf_39 : decode cX9_endOf 39 = .ok (.iload_n 3, 1) := by decide +kernel
theorem dX9_endOf_40 : decode cX9_endOf 40 = .ok (.aaload, 1) := by decide +kernel
theorem dX9_endOf_41 : decode cX9_endOf 41 = .ok (.iconst 5, 1) := by decide +kernel
theorem dX9_endOf_42 : decode cX9_endOf 42 = .ok (.iaload, 1) := by decide +kernel
theorem dX9_endOf_43 : decode cX9_endOf 43 = .ok (.invokestatic 251, 3) := by decide +kernel
theorem dX9_endOf_46 : decode cX9_endOf 46 = .ok (.goto 4, 3) := by decide +kernel
theorem dX9_endOf_49 : decode cX9_endOf 49 = .ok (.iload_n 2, 1) := by decide +kernel
theorem dX9_endOf_50 : decode cX9_endOf 50 = .ok (.istore_n 2, 1) := by decide +kernel
theorem dX9_endOf_51 : decode cX9_endOf 51 = .ok (.iinc 3 1, 3) := by decide +kernel
theorem dX9_endOf_54 : decode cX9_endOf 54 = .ok (.goto (-47), 3) := by decide +kernel
theorem dX9_endOf_57 : decode cX9_endOf 57 = .ok (.iload_n 2, 1) := by decide +kernel
theorem dX9_endOf_58 : decode cX9_endOf 58 = .ok (.ireturn, 1) := by decide +kernel
theorem dX9_oddOf_0 : decode cX9_oddOf 0 = .ok (.iconst (-1), 1) := by decide +kernel
theorem dX9_oddOf_1 : decode cX9_oddOf 1 = .ok (.istore_n 2, 1) := by decide +kernel
theorem dX9_oddOf_2 : decode cX9_oddOf 2 = .ok (.bipush 24, 2) := by decide +kernel
theorem dX9_oddOf_4 : decode cX9_oddOf 4 = .ok (.iload_n 1, 1) := by decide +kernel
theorem dX9_oddOf_5 : decode cX9_oddOf 5 = .ok (.imul, 1) := by decide +kernel
theorem dX9_oddOf_6 : decode cX9_oddOf 6 = .ok (.istore_n 3, 1) := by decide +kernel
theorem dX9_oddOf_7 : decode cX9_oddOf 7 = .ok (.iload_n 3, 1) := by decide +kernel
theorem dX9_oddOf_8 : decode cX9_oddOf 8 = .ok (.bipush 24, 2) := by decide +kernel
theorem dX9_oddOf_10 : decode cX9_oddOf 10 = .ok (.iload_n 1, 1) := by decide +kernel
theorem dX9_oddOf_11 : decode cX9_oddOf 11 = .ok (.imul, 1) := by decide +kernel
theorem dX9_oddOf_12 : decode cX9_oddOf 12 = .ok (.aload_n 0, 1) := by decide +kernel
theorem dX9_oddOf_13 : decode cX9_oddOf 13 = .ok (.getfield 28, 3) := by decide +kernel
theorem dX9_oddOf_16 : decode cX9_oddOf 16 = .ok (.iload_n 1, 1) := by decide +kernel
theorem dX9_oddOf_17 : decode cX9_oddOf 17 = .ok (.iaload, 1) := by decide +kernel
theorem dX9_oddOf_18 : decode cX9_oddOf 18 = .ok (.iadd, 1) := by decide +kernel
theorem dX9_oddOf_19 : decode cX9_oddOf 19 = .ok (.if_icmp .ge 34, 3) := by decide +kernel
theorem dX9_oddOf_22 : decode cX9_oddOf 22 = .ok (.aload_n 0, 1) := by decide +kernel
theorem dX9_oddOf_23 : decode cX9_oddOf 23 = .ok (.getfield 25, 3) := by decide +kernel
theorem dX9_oddOf_26 : decode cX9_oddOf 26 = .ok (.iload_n 3, 1) := by decide +kernel
theorem dX9_oddOf_27 : decode cX9_oddOf 27 = .ok (.aaload, 1) := by decide +kernel
theorem dX9_oddOf_28 : decode cX9_oddOf 28 = .ok (.iconst 0, 1) := by decide +kernel
theorem dX9_oddOf_29 : decode cX9_oddOf 29 = .ok (.iaload, 1) := by decide +kernel
theorem dX9_oddOf_30 : decode cX9_oddOf 30 = .ok (.iconst 3, 1) := by decide +kernel
theorem dX9_oddOf_31 : decode cX9_oddOf 31 = .ok (.if_icmp .ne 14, 3) := by decide +kernel
theorem dX9_oddOf_34 : decode cX9_oddOf 34 = .ok (.aload_n 0, 1) := by decide +kernel
theorem dX9_oddOf_35 : decode cX9_oddOf 35 = .ok (.getfield 25, 3) := by decide +kernel
theorem dX9_oddOf_38 : decode cX9_oddOf 38 = .ok (.iload_n 3, 1) := by decide +kernel
theorem dX9_oddOf_39 : decode cX9_oddOf 39 = .ok (.aaload, 1) := by decide +kernel
theorem dX9_oddOf_40 : decode cX9_oddOf 40 = .ok (.iconst 1, 1) := by decide +kernel
theorem dX9_oddOf_41 : decode cX9_oddOf 41 = .ok (.iaload, 1) := by decide +kernel
theorem dX9_oddOf_42 : decode cX9_oddOf 42 = .ok (.goto 4, 3) := by decide +kernel
theorem dX9_oddOf_45 : decode cX9_oddOf 45 = .ok (.iload_n 2, 1) := by decide +kernel
theorem dX9_oddOf_46 : decode cX9_oddOf 46 = .ok (.istore_n 2, 1) := by decide +kernel
theorem dX9_oddOf_47 : decode cX9_oddOf 47 = .ok (.iinc 3 1, 3) := by decide +kernel
theorem dX9_oddOf_50 : decode cX9_oddOf 50 = .ok (.goto (-43), 3) := by decide +kernel
theorem dX9_oddOf_53 : decode cX9_oddOf 53 = .ok (.iload_n 2, 1) := by decide +kernel
theorem dX9_oddOf_54 : decode cX9_oddOf 54 = .ok (.ireturn, 1) := by decide +kernel
theorem dX9_turnsOf_0 : decode cX9_turnsOf 0 = .ok (.bipush 24, 2) := by decide +kernel
theorem dX9_turnsOf_2 : decode cX9_turnsOf 2 = .ok (.iload_n 1, 1) := by decide +kernel
theorem dX9_turnsOf_3 : decode cX9_turnsOf 3 = .ok (.imul, 1) := by decide +kernel
theorem dX9_turnsOf_4 : decode cX9_turnsOf 4 = .ok (.istore_n 2, 1) := by decide +kernel
theorem dX9_turnsOf_5 : decode cX9_turnsOf 5 = .ok (.iload_n 2, 1) := by decide +kernel
theorem dX9_turnsOf_6 : decode cX9_turnsOf 6 = .ok (.bipush 24, 2) := by decide +kernel
theorem dX9_turnsOf_8 : decode cX9_turnsOf 8 = .ok (.iload_n 1, 1) := by decide +kernel
theorem dX9_turnsOf_9 : decode cX9_turnsOf 9 = .ok (.imul, 1) := by decide +kernel
theorem dX9_turnsOf_10 : decode cX9_turnsOf 10 = .ok (.aload_n 0, 1) := by decide +kernel
theorem dX9_turnsOf_11 : decode cX9_turnsOf 11 = .ok (.getfield 28, 3) := by decide +kernel
theorem dX9_turnsOf_14 : decode cX9_turnsOf 14 = .ok (.iload_n 1, 1) := by decide +kernel
theorem dX9_turnsOf_15 : decode cX9_turnsOf 15 = .ok (.iaload, 1) := by decide +kernel
theorem dX9_turnsOf_16 : decode cX9_turnsOf 16 = .ok (.iadd, 1) := by decide +kernel
theorem dX9_turnsOf_17 : decode cX9_turnsOf 17 = .ok (.if_icmp .ge 30, 3) := by decide +kernel
theorem dX9_turnsOf_20 : decode cX9_turnsOf 20 = .ok (.aload_n 0, 1) := by decide +kernel
theorem dX9_turnsOf_21 : decode cX9_turnsOf 21 = .ok (.getfield 25, 3) := by decide +kernel
theorem dX9_turnsOf_24 : decode cX9_turnsOf 24 = .ok (.iload_n 2, 1) := by decide +kernel
theorem dX9_turnsOf_25 : decode cX9_turnsOf 25 = .ok (.aaload, 1) := by decide +kernel
theorem dX9_turnsOf_26 : decode cX9_turnsOf 26 = .ok (.iconst 0, 1) := by decide +kernel
theorem dX9_turnsOf_27 : decode cX9_turnsOf 27 = .ok (.iaload, 1) := by decide +kernel
theorem dX9_turnsOf_28 : decode cX9_turnsOf 28 = .ok (.iconst 4, 1) := by decide +kernel
theorem dX9_turnsOf_29 : decode cX9_turnsOf 29 = .ok (.if_icmp .ne 12, 3) := by decide +kernel
theorem dX9_turnsOf_32 : decode cX9_turnsOf 32 = .ok (.aload_n 0, 1) := by decide +kernel
theorem dX9_turnsOf_33 : decode cX9_turnsOf 33 = .ok (.getfield 25, 3) := by decide +kernel
theorem dX9_turnsOf_36 : decode cX9_turnsOf 36 = .ok (.iload_n 2, 1) := by decide +kernel
theorem dX9_turnsOf_37 : decode cX9_turnsOf 37 = .ok (.aaload, 1) := by decide +kernel
theorem dX9_turnsOf_38 : decode cX9_turnsOf 38 = .ok (.iconst 1, 1) := by decide +kernel
theorem dX9_turnsOf_39 : decode cX9_turnsOf 39 = .ok (.iaload, 1) := by decide +kernel
theorem dX9_turnsOf_40 : decode cX9_turnsOf 40 = .ok (.ireturn, 1) := by decide +kernel
theorem dX9_turnsOf_41 : decode cX9_turnsOf 41 = .ok (.iinc 2 1, 3) := by decide +kernel
theorem dX9_turnsOf_44 : decode cX9_turnsOf 44 = .ok (.goto (-39), 3) := by decide +kernel
theorem dX9_turnsOf_47 : decode cX9_turnsOf 47 = .ok (.iconst (-1), 1) := by decide +kernel
theorem dX9_turnsOf_48 : decode cX9_turnsOf 48 = .ok (.ireturn, 1) := by decide +kernel
theorem dX9_told_0 : decode cX9_told 0 = .ok (.aload_n 0, 1) := by decide +kernel
theorem dX9_told_1 : decode cX9_told 1 = .ok (.iconst 0, 1) := by decide +kernel
theorem dX9_told_2 : decode cX9_told 2 = .ok (.putfield 76, 3) := by decide +kernel
theorem dX9_told_5 : decode cX9_told 5 = .ok (.aload_n 0, 1) := by decide +kernel
theorem dX9_told_6 : decode cX9_told 6 = .ok (.aload_n 0, 1) := by decide +kernel
theorem dX9_told_7 : decode cX9_told 7 = .ok (.iload_n 1, 1) := by decide +kernel
theorem dX9_told_8 : decode cX9_told 8 = .ok (.invokevirtual 254, 3) := by decide +kernel
theorem dX9_told_11 : decode cX9_told 11 = .ok (.ifCond .ne 7, 3) := by decide +kernel
theorem dX9_told_14 : decode cX9_told 14 = .ok (.iconst 1, 1) := by decide +kernel
theorem dX9_told_15 : decode cX9_told 15 = .ok (.goto 4, 3) := by decide +kernel
theorem dX9_told_18 : decode cX9_told 18 = .ok (.iconst 0, 1) := by decide +kernel
theorem dX9_told_19 : decode cX9_told 19 = .ok (.iconst 1, 1) := by decide +kernel
theorem dX9_told_20 : decode cX9_told 20 = .ok (.invokevirtual 162, 3) := by decide +kernel
theorem dX9_told_23 : decode cX9_told 23 = .ok (.ifCond .ne 25, 3) := by decide +kernel
theorem dX9_told_26 : decode cX9_told 26 = .ok (.aload_n 0, 1) := by decide +kernel
theorem dX9_told_27 : decode cX9_told 27 = .ok (.iload_n 2, 1) := by decide +kernel
theorem dX9_told_28 : decode cX9_told 28 = .ok (.iconst 0, 1) := by decide +kernel
theorem dX9_told_29 : decode cX9_told 29 = .ok (.iconst 5, 1) := by decide +kernel
theorem dX9_told_30 : decode cX9_told 30 = .ok (.invokestatic 113, 3) := by decide +kernel
theorem dX9_told_33 : decode cX9_told 33 = .ok (.ifCond .ne 7, 3) := by decide +kernel
theorem dX9_told_36 : decode cX9_told 36 = .ok (.iconst 1, 1) := by decide +kernel
theorem dX9_told_37 : decode cX9_told 37 = .ok (.goto 4, 3) := by decide +kernel
theorem dX9_told_40 : decode cX9_told 40 = .ok (.iconst 0, 1) := by decide +kernel
theorem dX9_told_41 : decode cX9_told 41 = .ok (.iconst 2, 1) := by decide +kernel
theorem dX9_told_42 : decode cX9_told 42 = .ok (.invokevirtual 162, 3) := by decide +kernel
theorem dX9_told_45 : decode cX9_told 45 = .ok (.ifCond .eq 5, 3) := by decide +kernel
theorem dX9_told_48 : decode cX9_told 48 = .ok (.iconst 0, 1) := by decide +kernel
theorem dX9_told_49 : decode cX9_told 49 = .ok (.ireturn, 1) := by decide +kernel
theorem dX9_told_50 : decode cX9_told 50 = .ok (.iload_n 2, 1) := by decide +kernel
theorem dX9_told_51 : decode cX9_told 51 = .ok (.ifCond .ne 12, 3) := by decide +kernel
theorem dX9_told_54 : decode cX9_told 54 = .ok (.aload_n 0, 1) := by decide +kernel
theorem dX9_told_55 : decode cX9_told 55 = .ok (.getfield 31, 3) := by decide +kernel
theorem dX9_told_58 : decode cX9_told 58 = .ok (.iload_n 1, 1) := by decide +kernel
theorem dX9_told_59 : decode cX9_told 59 = .ok (.iaload, 1) := by decide +kernel
theorem dX9_told_60 : decode cX9_told 60 = .ok (.goto 48, 3) := by decide +kernel
theorem dX9_told_63 : decode cX9_told 63 = .ok (.iload_n 2, 1) := by decide +kernel
theorem dX9_told_64 : decode cX9_told 64 = .ok (.iconst 3, 1) := by decide +kernel
theorem dX9_told_65 : decode cX9_told 65 = .ok (.if_icmp .ge 12, 3) := by decide +kernel
theorem dX9_told_68 : decode cX9_told 68 = .ok (.aload_n 0, 1) := by decide +kernel
theorem dX9_told_69 : decode cX9_told 69 = .ok (.iload_n 1, 1) := by decide +kernel
theorem dX9_told_70 : decode cX9_told 70 = .ok (.iload_n 2, 1) := by decide +kernel
theorem dX9_told_71 : decode cX9_told 71 = .ok (.invokevirtual 257, 3) := by decide +kernel
theorem dX9_told_74 : decode cX9_told 74 = .ok (.goto 34, 3) := by decide +kernel
theorem dX9_told_77 : decode cX9_told 77 = .ok (.iload_n 2, 1) := by decide +kernel
theorem dX9_told_78 : decode cX9_told 78 = .ok (.iconst 3, 1) := by decide +kernel
theorem dX9_told_79 : decode cX9_told 79 = .ok (.if_icmp .ne 11, 3) := by decide +kernel
theorem dX9_told_82 : decode cX9_told 82 = .ok (.aload_n 0, 1) := by decide +kernel
theorem dX9_told_83 : decode cX9_told 83 = .ok (.iload_n 1, 1) := by decide +kernel
theorem dX9_told_84 : decode cX9_told 84 = .ok (.invokevirtual 260, 3) := by decide +kernel
theorem dX9_told_87 : decode cX9_told 87 = .ok (.goto 21, 3) := by decide +kernel
theorem dX9_told_90 : decode cX9_told 90 = .ok (.iload_n 2, 1) := by decide +kernel
theorem dX9_told_91 : decode cX9_told 91 = .ok (.iconst 4, 1) := by decide +kernel
theorem dX9_told_92 : decode cX9_told 92 = .ok (.if_icmp .ne 11, 3) := by decide +kernel
theorem dX9_told_95 : decode cX9_told 95 = .ok (.aload_n 0, 1) := by decide +kernel
theorem dX9_told_96 : decode cX9_told 96 = .ok (.iload_n 1, 1) := by decide +kernel
theorem dX9_told_97 : decode cX9_told 97 = .ok (.invokevirtual 263, 3) := by decide +kernel
theorem dX9_told_100 : decode cX9_told 100 = .ok (.goto 8, 3) := by decide +kernel
theorem dX9_told_103 : decode cX9_told 103 = .ok (.aload_n 0, 1) := by decide +kernel
theorem dX9_told_104 : decode cX9_told 104 = .ok (.iload_n 1, 1) := by decide +kernel
theorem dX9_told_105 : decode cX9_told 105 = .ok (.invokevirtual 266, 3) := by decide +kernel
theorem dX9_told_108 : decode cX9_told 108 = .ok (.ireturn, 1) := by decide +kernel
theorem dX9_thing_0 : decode cX9_thing 0 = .ok (.aload_n 0, 1) := by decide +kernel
theorem dX9_thing_1 : decode cX9_thing 1 = .ok (.iconst 0, 1) := by decide +kernel
theorem dX9_thing_2 : decode cX9_thing 2 = .ok (.putfield 76, 3) := by decide +kernel
theorem dX9_thing_5 : decode cX9_thing 5 = .ok (.aload_n 0, 1) := by decide +kernel
theorem dX9_thing_6 : decode cX9_thing 6 = .ok (.aload_n 0, 1) := by decide +kernel
theorem dX9_thing_7 : decode cX9_thing 7 = .ok (.iload_n 1, 1) := by decide +kernel
theorem dX9_thing_8 : decode cX9_thing 8 = .ok (.invokevirtual 254, 3) := by decide +kernel
theorem dX9_thing_11 : decode cX9_thing 11 = .ok (.ifCond .ne 7, 3) := by decide +kernel
theorem dX9_thing_14 : decode cX9_thing 14 = .ok (.iconst 1, 1) := by decide +kernel
theorem dX9_thing_15 : decode cX9_thing 15 = .ok (.goto 4, 3) := by decide +kernel
theorem dX9_thing_18 : decode cX9_thing 18 = .ok (.iconst 0, 1) := by decide +kernel
theorem dX9_thing_19 : decode cX9_thing 19 = .ok (.iconst 1, 1) := by decide +kernel
theorem dX9_thing_20 : decode cX9_thing 20 = .ok (.invokevirtual 162, 3) := by decide +kernel
theorem dX9_thing_23 : decode cX9_thing 23 = .ok (.ifCond .ne 53, 3) := by decide +kernel
theorem dX9_thing_26 : decode cX9_thing 26 = .ok (.aload_n 0, 1) := by decide +kernel
theorem dX9_thing_27 : decode cX9_thing 27 = .ok (.iload_n 2, 1) := by decide +kernel
theorem dX9_thing_28 : decode cX9_thing 28 = .ok (.iconst 0, 1) := by decide +kernel
theorem dX9_thing_29 : decode cX9_thing 29 = .ok (.aload_n 0, 1) := by decide +kernel
theorem dX9_thing_30 : decode cX9_thing 30 = .ok (.getfield 31, 3) := by decide +kernel
theorem dX9_thing_33 : decode cX9_thing 33 = .ok (.iload_n 1, 1) := by decide +kernel
theorem dX9_thing_34 : decode cX9_thing 34 = .ok (.iaload, 1) := by decide +kernel
theorem dX9_thing_35 : decode cX9_thing 35 = .ok (.iconst 1, 1) := by decide +kernel
theorem dX9_thing_36 : decode cX9_thing 36 = .ok (.isub, 1) := by decide +kernel
theorem dX9_thing_37 : decode cX9_thing 37 = .ok (.invokestatic 113, 3) := by decide +kernel
theorem dX9_thing_40 : decode cX9_thing 40 = .ok (.ifCond .eq 24, 3) := by decide +kernel
theorem dX9_thing_43 : decode cX9_thing 43 = .ok (.iload_n 3, 1) := by decide +kernel
theorem dX9_thing_44 : decode cX9_thing 44 = .ok (.iconst 0, 1) := by decide +kernel
theorem dX9_thing_45 : decode cX9_thing 45 = .ok (.sipush 299, 3) := by decide +kernel
theorem dX9_thing_48 : decode cX9_thing 48 = .ok (.invokestatic 113, 3) := by decide +kernel
theorem dX9_thing_51 : decode cX9_thing 51 = .ok (.ifCond .eq 13, 3) := by decide +kernel
theorem dX9_thing_54 : decode cX9_thing 54 = .ok (.iload 4, 2) := by decide +kernel
theorem dX9_thing_56 : decode cX9_thing 56 = .ok (.iconst 0, 1) := by decide +kernel
theorem dX9_thing_57 : decode cX9_thing 57 = .ok (.iconst 5, 1) := by decide +kernel
theorem dX9_thing_58 : decode cX9_thing 58 = .ok (.invokestatic 113, 3) := by decide +kernel
theorem dX9_thing_61 : decode cX9_thing 61 = .ok (.ifCond .ne 7, 3) := by decide +kernel
theorem dX9_thing_64 : decode cX9_thing 64 = .ok (.iconst 1, 1) := by decide +kernel
theorem dX9_thing_65 : decode cX9_thing 65 = .ok (.goto 4, 3) := by decide +kernel
theorem dX9_thing_68 : decode cX9_thing 68 = .ok (.iconst 0, 1) := by decide +kernel
theorem dX9_thing_69 : decode cX9_thing 69 = .ok (.iconst 2, 1) := by decide +kernel
theorem dX9_thing_70 : decode cX9_thing 70 = .ok (.invokevirtual 162, 3) := by decide +kernel
theorem dX9_thing_73 : decode cX9_thing 73 = .ok (.ifCond .eq 5, 3) := by decide +kernel
theorem dX9_thing_76 : decode cX9_thing 76 = .ok (.iconst 0, 1) := by decide +kernel
theorem dX9_thing_77 : decode cX9_thing 77 = .ok (.ireturn, 1) := by decide +kernel
theorem dX9_thing_78 : decode cX9_thing 78 = .ok (.iload 4, 2) := by decide +kernel
theorem dX9_thing_80 : decode cX9_thing 80 = .ok (.tableswitch 76 0 4 #[36, 36, 46, 54, 62], 36) := by decide +kernel
theorem dX9_thing_116 : decode cX9_thing 116 = .ok (.aload_n 0, 1) := by decide +kernel
theorem dX9_thing_117 : decode cX9_thing 117 = .ok (.iload_n 1, 1) := by decide +kernel
theorem dX9_thing_118 : decode cX9_thing 118 = .ok (.iload_n 2, 1) := by decide +kernel
theorem dX9_thing_119 : decode cX9_thing 119 = .ok (.iload_n 3, 1) := by decide +kernel
theorem dX9_thing_120 : decode cX9_thing 120 = .ok (.iload 4, 2) := by decide +kernel
theorem dX9_thing_122 : decode cX9_thing 122 = .ok (.invokevirtual 244, 3) := by decide +kernel
theorem dX9_thing_125 : decode cX9_thing 125 = .ok (.ireturn, 1) := by decide +kernel
theorem dX9_thing_126 : decode cX9_thing 126 = .ok (.aload_n 0, 1) := by decide +kernel
theorem dX9_thing_127 : decode cX9_thing 127 = .ok (.iload_n 1, 1) := by decide +kernel
theorem dX9_thing_128 : decode cX9_thing 128 = .ok (.iload_n 2, 1) := by decide +kernel
theorem dX9_thing_129 : decode cX9_thing 129 = .ok (.iload_n 3, 1) := by decide +kernel
theorem dX9_thing_130 : decode cX9_thing 130 = .ok (.invokevirtual 269, 3) := by decide +kernel
theorem dX9_thing_133 : decode cX9_thing 133 = .ok (.ireturn, 1) := by decide +kernel
theorem dX9_thing_134 : decode cX9_thing 134 = .ok (.aload_n 0, 1) := by decide +kernel
theorem dX9_thing_135 : decode cX9_thing 135 = .ok (.iload_n 1, 1) := by decide +kernel
theorem dX9_thing_136 : decode cX9_thing 136 = .ok (.iload_n 2, 1) := by decide +kernel
theorem dX9_thing_137 : decode cX9_thing 137 = .ok (.iload_n 3, 1) := by decide +kernel
theorem dX9_thing_138 : decode cX9_thing 138 = .ok (.invokevirtual 272, 3) := by decide +kernel
theorem dX9_thing_141 : decode cX9_thing 141 = .ok (.ireturn, 1) := by decide +kernel
theorem dX9_thing_142 : decode cX9_thing 142 = .ok (.aload_n 0, 1) := by decide +kernel
theorem dX9_thing_143 : decode cX9_thing 143 = .ok (.getfield 34, 3) := by decide +kernel
theorem dX9_thing_146 : decode cX9_thing 146 = .ok (.bipush 8, 2) := by decide +kernel
theorem dX9_thing_148 : decode cX9_thing 148 = .ok (.iload_n 1, 1) := by decide +kernel
theorem dX9_thing_149 : decode cX9_thing 149 = .ok (.imul, 1) := by decide +kernel
theorem dX9_thing_150 : decode cX9_thing 150 = .ok (.iload_n 2, 1) := by decide +kernel
theorem dX9_thing_151 : decode cX9_thing 151 = .ok (.iadd, 1) := by decide +kernel
theorem dX9_thing_152 : decode cX9_thing 152 = .ok (.aaload, 1) := by decide +kernel
theorem dX9_thing_153 : decode cX9_thing 153 = .ok (.iconst 1, 1) := by decide +kernel
theorem dX9_thing_154 : decode cX9_thing 154 = .ok (.iaload, 1) := by decide +kernel
theorem dX9_thing_155 : decode cX9_thing 155 = .ok (.ireturn, 1) := by decide +kernel
theorem dX9_thing_156 : decode cX9_thing 156 = .ok (.aload_n 0, 1) := by decide +kernel
theorem dX9_thing_157 : decode cX9_thing 157 = .ok (.iload_n 1, 1) := by decide +kernel
theorem dX9_thing_158 : decode cX9_thing 158 = .ok (.iload_n 2, 1) := by decide +kernel
theorem dX9_thing_159 : decode cX9_thing 159 = .ok (.iload_n 3, 1) := by decide +kernel
theorem dX9_thing_160 : decode cX9_thing 160 = .ok (.invokevirtual 275, 3) := by decide +kernel
theorem dX9_thing_163 : decode cX9_thing 163 = .ok (.ifCond .eq 7, 3) := by decide +kernel
theorem dX9_thing_166 : decode cX9_thing 166 = .ok (.iconst 1, 1) := by decide +kernel
theorem dX9_thing_167 : decode cX9_thing 167 = .ok (.goto 4, 3) := by decide +kernel
theorem dX9_thing_170 : decode cX9_thing 170 = .ok (.iconst 0, 1) := by decide +kernel
theorem dX9_thing_171 : decode cX9_thing 171 = .ok (.ireturn, 1) := by decide +kernel
theorem dX9_kept_0 : decode cX9_kept 0 = .ok (.aload_n 0, 1) := by decide +kernel
theorem dX9_kept_1 : decode cX9_kept 1 = .ok (.iconst 0, 1) := by decide +kernel
theorem dX9_kept_2 : decode cX9_kept 2 = .ok (.putfield 76, 3) := by decide +kernel
theorem dX9_kept_5 : decode cX9_kept 5 = .ok (.aload_n 0, 1) := by decide +kernel
theorem dX9_kept_6 : decode cX9_kept 6 = .ok (.aload_n 0, 1) := by decide +kernel
theorem dX9_kept_7 : decode cX9_kept 7 = .ok (.iload_n 1, 1) := by decide +kernel
theorem dX9_kept_8 : decode cX9_kept 8 = .ok (.invokevirtual 278, 3) := by decide +kernel
theorem dX9_kept_11 : decode cX9_kept 11 = .ok (.ifCond .ne 7, 3) := by decide +kernel
theorem dX9_kept_14 : decode cX9_kept 14 = .ok (.iconst 1, 1) := by decide +kernel
theorem dX9_kept_15 : decode cX9_kept 15 = .ok (.goto 4, 3) := by decide +kernel
theorem dX9_kept_18 : decode cX9_kept 18 = .ok (.iconst 0, 1) := by decide +kernel
theorem dX9_kept_19 : decode cX9_kept 19 = .ok (.iconst 1, 1) := by decide +kernel
theorem dX9_kept_20 : decode cX9_kept 20 = .ok (.invokevirtual 162, 3) := by decide +kernel
theorem dX9_kept_23 : decode cX9_kept 23 = .ok (.ifCond .ne 25, 3) := by decide +kernel
theorem dX9_kept_26 : decode cX9_kept 26 = .ok (.aload_n 0, 1) := by decide +kernel
theorem dX9_kept_27 : decode cX9_kept 27 = .ok (.iload_n 2, 1) := by decide +kernel
theorem dX9_kept_28 : decode cX9_kept 28 = .ok (.iconst 0, 1) := by decide +kernel
theorem dX9_kept_29 : decode cX9_kept 29 = .ok (.iconst 4, 1) := by decide +kernel
theorem dX9_kept_30 : decode cX9_kept 30 = .ok (.invokestatic 113, 3) := by decide +kernel
theorem dX9_kept_33 : decode cX9_kept 33 = .ok (.ifCond .ne 7, 3) := by decide +kernel
theorem dX9_kept_36 : decode cX9_kept 36 = .ok (.iconst 1, 1) := by decide +kernel
theorem dX9_kept_37 : decode cX9_kept 37 = .ok (.goto 4, 3) := by decide +kernel
theorem dX9_kept_40 : decode cX9_kept 40 = .ok (.iconst 0, 1) := by decide +kernel
theorem dX9_kept_41 : decode cX9_kept 41 = .ok (.iconst 2, 1) := by decide +kernel
theorem dX9_kept_42 : decode cX9_kept 42 = .ok (.invokevirtual 162, 3) := by decide +kernel
theorem dX9_kept_45 : decode cX9_kept 45 = .ok (.ifCond .eq 5, 3) := by decide +kernel
theorem dX9_kept_48 : decode cX9_kept 48 = .ok (.iconst 0, 1) := by decide +kernel
theorem dX9_kept_49 : decode cX9_kept 49 = .ok (.ireturn, 1) := by decide +kernel
theorem dX9_kept_50 : decode cX9_kept 50 = .ok (.aload_n 0, 1) := by decide +kernel
theorem dX9_kept_51 : decode cX9_kept 51 = .ok (.getfield 37, 3) := by decide +kernel
theorem dX9_kept_54 : decode cX9_kept 54 = .ok (.iload_n 1, 1) := by decide +kernel
theorem dX9_kept_55 : decode cX9_kept 55 = .ok (.aaload, 1) := by decide +kernel
theorem dX9_kept_56 : decode cX9_kept 56 = .ok (.iload_n 2, 1) := by decide +kernel
theorem dX9_kept_57 : decode cX9_kept 57 = .ok (.iaload, 1) := by decide +kernel
theorem dX9_kept_58 : decode cX9_kept 58 = .ok (.ireturn, 1) := by decide +kernel
theorem dX9_isCounted_0 : decode cX9_isCounted 0 = .ok (.aload_n 3, 1) := by decide +kernel
theorem dX9_isCounted_1 : decode cX9_isCounted 1 = .ok (.iconst 0, 1) := by decide +kernel
theorem dX9_isCounted_2 : decode cX9_isCounted 2 = .ok (.iaload, 1) := by decide +kernel
theorem dX9_isCounted_3 : decode cX9_isCounted 3 = .ok (.iconst 2, 1) := by decide +kernel
theorem dX9_isCounted_4 : decode cX9_isCounted 4 = .ok (.if_icmp .ne 41, 3) := by decide +kernel
theorem dX9_isCounted_7 : decode cX9_isCounted 7 = .ok (.aload_n 0, 1) := by decide +kernel
theorem dX9_isCounted_8 : decode cX9_isCounted 8 = .ok (.getfield 37, 3) := by decide +kernel
theorem dX9_isCounted_11 : decode cX9_isCounted 11 = .ok (.iload_n 2, 1) := by decide +kernel
theorem dX9_isCounted_12 : decode cX9_isCounted 12 = .ok (.aaload, 1) := by decide +kernel
theorem dX9_isCounted_13 : decode cX9_isCounted 13 = .ok (.iconst 2, 1) := by decide +kernel
theorem dX9_isCounted_14 : decode cX9_isCounted 14 = .ok (.iaload, 1) := by decide +kernel
theorem dX9_isCounted_15 : decode cX9_isCounted 15 = .ok (.iconst (-1), 1) := by decide +kernel
theorem dX9_isCounted_16 : decode cX9_isCounted 16 = .ok (.if_icmp .eq 29, 3) := by decide +kernel
theorem dX9_isCounted_19 : decode cX9_isCounted 19 = .ok (.aload_n 0, 1) := by decide +kernel
theorem dX9_isCounted_20 : decode cX9_isCounted 20 = .ok (.iload_n 1, 1) := by decide +kernel
theorem dX9_isCounted_21 : decode cX9_isCounted 21 = .ok (.aload_n 3, 1) := by decide +kernel
theorem dX9_isCounted_22 : decode cX9_isCounted 22 = .ok (.iconst 1, 1) := by decide +kernel
theorem dX9_isCounted_23 : decode cX9_isCounted 23 = .ok (.iaload, 1) := by decide +kernel
theorem dX9_isCounted_24 : decode cX9_isCounted 24 = .ok (.aload_n 3, 1) := by decide +kernel
theorem dX9_isCounted_25 : decode cX9_isCounted 25 = .ok (.iconst 3, 1) := by decide +kernel
theorem dX9_isCounted_26 : decode cX9_isCounted 26 = .ok (.iaload, 1) := by decide +kernel
theorem dX9_isCounted_27 : decode cX9_isCounted 27 = .ok (.invokevirtual 269, 3) := by decide +kernel
theorem dX9_isCounted_30 : decode cX9_isCounted 30 = .ok (.aload_n 0, 1) := by decide +kernel
theorem dX9_isCounted_31 : decode cX9_isCounted 31 = .ok (.getfield 37, 3) := by decide +kernel
theorem dX9_isCounted_34 : decode cX9_isCounted 34 = .ok (.iload_n 2, 1) := by decide +kernel
theorem dX9_isCounted_35 : decode cX9_isCounted 35 = .ok (.aaload, 1) := by decide +kernel
theorem dX9_isCounted_36 : decode cX9_isCounted 36 = .ok (.iconst 2, 1) := by decide +kernel
theorem dX9_isCounted_37 : decode cX9_isCounted 37 = .ok (.iaload, 1) := by decide +kernel
theorem dX9_isCounted_38 : decode cX9_isCounted 38 = .ok (.if_icmp .ne 7, 3) := by decide +kernel
theorem dX9_isCounted_41 : decode cX9_isCounted 41 = .ok (.iconst 1, 1) := by decide +kernel
theorem dX9_isCounted_42 : decode cX9_isCounted 42 = .ok (.goto 4, 3) := by decide +kernel
theorem dX9_isCounted_45 : decode cX9_isCounted 45 = .ok (.iconst 0, 1) := by decide +kernel
theorem dX9_isCounted_46 : decode cX9_isCounted 46 = .ok (.ireturn, 1) := by decide +kernel
theorem dX9_throwsBy_0 : decode cX9_throwsBy 0 = .ok (.iconst 0, 1) := by decide +kernel
theorem dX9_throwsBy_1 : decode cX9_throwsBy 1 = .ok (.istore_n 3, 1) := by decide +kernel
theorem dX9_throwsBy_2 : decode cX9_throwsBy 2 = .ok (.bipush 24, 2) := by decide +kernel
theorem dX9_throwsBy_4 : decode cX9_throwsBy 4 = .ok (.iload_n 1, 1) := by decide +kernel
theorem dX9_throwsBy_5 : decode cX9_throwsBy 5 = .ok (.imul, 1) := by decide +kernel
theorem dX9_throwsBy_6 : decode cX9_throwsBy 6 = .ok (.istore 4, 2) := by decide +kernel
theorem dX9_throwsBy_8 : decode cX9_throwsBy 8 = .ok (.iload 4, 2) := by decide +kernel
theorem dX9_throwsBy_10 : decode cX9_throwsBy 10 = .ok (.bipush 24, 2) := by decide +kernel
theorem dX9_throwsBy_12 : decode cX9_throwsBy 12 = .ok (.iload_n 1, 1) := by decide +kernel
theorem dX9_throwsBy_13 : decode cX9_throwsBy 13 = .ok (.imul, 1) := by decide +kernel
theorem dX9_throwsBy_14 : decode cX9_throwsBy 14 = .ok (.aload_n 0, 1) := by decide +kernel
theorem dX9_throwsBy_15 : decode cX9_throwsBy 15 = .ok (.getfield 28, 3) := by decide +kernel
theorem dX9_throwsBy_18 : decode cX9_throwsBy 18 = .ok (.iload_n 1, 1) := by decide +kernel
theorem dX9_throwsBy_19 : decode cX9_throwsBy 19 = .ok (.iaload, 1) := by decide +kernel
theorem dX9_throwsBy_20 : decode cX9_throwsBy 20 = .ok (.iadd, 1) := by decide +kernel
theorem dX9_throwsBy_21 : decode cX9_throwsBy 21 = .ok (.if_icmp .ge 33, 3) := by decide +kernel
theorem dX9_throwsBy_24 : decode cX9_throwsBy 24 = .ok (.iload_n 3, 1) := by decide +kernel
theorem dX9_throwsBy_25 : decode cX9_throwsBy 25 = .ok (.aload_n 0, 1) := by decide +kernel
theorem dX9_throwsBy_26 : decode cX9_throwsBy 26 = .ok (.iload_n 1, 1) := by decide +kernel
theorem dX9_throwsBy_27 : decode cX9_throwsBy 27 = .ok (.iload_n 2, 1) := by decide +kernel
theorem dX9_throwsBy_28 : decode cX9_throwsBy 28 = .ok (.aload_n 0, 1) := by decide +kernel
theorem dX9_throwsBy_29 : decode cX9_throwsBy 29 = .ok (.getfield 25, 3) := by decide +kernel
theorem dX9_throwsBy_32 : decode cX9_throwsBy 32 = .ok (.iload 4, 2) := by decide +kernel
theorem dX9_throwsBy_34 : decode cX9_throwsBy 34 = .ok (.aaload, 1) := by decide +kernel
theorem dX9_throwsBy_35 : decode cX9_throwsBy 35 = .ok (.invokevirtual 281, 3) := by decide +kernel
theorem dX9_throwsBy_38 : decode cX9_throwsBy 38 = .ok (.ifCond .eq 7, 3) := by decide +kernel
theorem dX9_throwsBy_41 : decode cX9_throwsBy 41 = .ok (.iconst 1, 1) := by decide +kernel
theorem dX9_throwsBy_42 : decode cX9_throwsBy 42 = .ok (.goto 4, 3) := by decide +kernel
theorem dX9_throwsBy_45 : decode cX9_throwsBy 45 = .ok (.iconst 0, 1) := by decide +kernel
theorem dX9_throwsBy_46 : decode cX9_throwsBy 46 = .ok (.iadd, 1) := by decide +kernel
theorem dX9_throwsBy_47 : decode cX9_throwsBy 47 = .ok (.istore_n 3, 1) := by decide +kernel
theorem dX9_throwsBy_48 : decode cX9_throwsBy 48 = .ok (.iinc 4 1, 3) := by decide +kernel
theorem dX9_throwsBy_51 : decode cX9_throwsBy 51 = .ok (.goto (-43), 3) := by decide +kernel
theorem dX9_throwsBy_54 : decode cX9_throwsBy 54 = .ok (.iload_n 3, 1) := by decide +kernel
theorem dX9_throwsBy_55 : decode cX9_throwsBy 55 = .ok (.ireturn, 1) := by decide +kernel
theorem dX9_throwsOf_0 : decode cX9_throwsOf 0 = .ok (.aload_n 0, 1) := by decide +kernel
theorem dX9_throwsOf_1 : decode cX9_throwsOf 1 = .ok (.iconst 0, 1) := by decide +kernel
theorem dX9_throwsOf_2 : decode cX9_throwsOf 2 = .ok (.putfield 76, 3) := by decide +kernel
theorem dX9_throwsOf_5 : decode cX9_throwsOf 5 = .ok (.aload_n 0, 1) := by decide +kernel
theorem dX9_throwsOf_6 : decode cX9_throwsOf 6 = .ok (.aload_n 0, 1) := by decide +kernel
theorem dX9_throwsOf_7 : decode cX9_throwsOf 7 = .ok (.iload_n 1, 1) := by decide +kernel
theorem dX9_throwsOf_8 : decode cX9_throwsOf 8 = .ok (.invokevirtual 254, 3) := by decide +kernel
theorem dX9_throwsOf_11 : decode cX9_throwsOf 11 = .ok (.ifCond .ne 7, 3) := by decide +kernel
theorem dX9_throwsOf_14 : decode cX9_throwsOf 14 = .ok (.iconst 1, 1) := by decide +kernel
theorem dX9_throwsOf_15 : decode cX9_throwsOf 15 = .ok (.goto 4, 3) := by decide +kernel
theorem dX9_throwsOf_18 : decode cX9_throwsOf 18 = .ok (.iconst 0, 1) := by decide +kernel
theorem dX9_throwsOf_19 : decode cX9_throwsOf 19 = .ok (.iconst 1, 1) := by decide +kernel
theorem dX9_throwsOf_20 : decode cX9_throwsOf 20 = .ok (.invokevirtual 162, 3) := by decide +kernel
theorem dX9_throwsOf_23 : decode cX9_throwsOf 23 = .ok (.ifCond .ne 24, 3) := by decide +kernel
theorem dX9_throwsOf_26 : decode cX9_throwsOf 26 = .ok (.aload_n 0, 1) := by decide +kernel
theorem dX9_throwsOf_27 : decode cX9_throwsOf 27 = .ok (.aload_n 0, 1) := by decide +kernel
theorem dX9_throwsOf_28 : decode cX9_throwsOf 28 = .ok (.iload_n 2, 1) := by decide +kernel
theorem dX9_throwsOf_29 : decode cX9_throwsOf 29 = .ok (.invokevirtual 278, 3) := by decide +kernel
theorem dX9_throwsOf_32 : decode cX9_throwsOf 32 = .ok (.ifCond .ne 7, 3) := by decide +kernel
theorem dX9_throwsOf_35 : decode cX9_throwsOf 35 = .ok (.iconst 1, 1) := by decide +kernel
theorem dX9_throwsOf_36 : decode cX9_throwsOf 36 = .ok (.goto 4, 3) := by decide +kernel
theorem dX9_throwsOf_39 : decode cX9_throwsOf 39 = .ok (.iconst 0, 1) := by decide +kernel
theorem dX9_throwsOf_40 : decode cX9_throwsOf 40 = .ok (.iconst 2, 1) := by decide +kernel
theorem dX9_throwsOf_41 : decode cX9_throwsOf 41 = .ok (.invokevirtual 162, 3) := by decide +kernel
theorem dX9_throwsOf_44 : decode cX9_throwsOf 44 = .ok (.ifCond .eq 5, 3) := by decide +kernel
theorem dX9_throwsOf_47 : decode cX9_throwsOf 47 = .ok (.iconst 0, 1) := by decide +kernel
theorem dX9_throwsOf_48 : decode cX9_throwsOf 48 = .ok (.ireturn, 1) := by decide +kernel
theorem dX9_throwsOf_49 : decode cX9_throwsOf 49 = .ok (.aload_n 0, 1) := by decide +kernel
theorem dX9_throwsOf_50 : decode cX9_throwsOf 50 = .ok (.iload_n 1, 1) := by decide +kernel
theorem dX9_throwsOf_51 : decode cX9_throwsOf 51 = .ok (.iload_n 2, 1) := by decide +kernel
theorem dX9_throwsOf_52 : decode cX9_throwsOf 52 = .ok (.invokevirtual 285, 3) := by decide +kernel
theorem dX9_throwsOf_55 : decode cX9_throwsOf 55 = .ok (.ireturn, 1) := by decide +kernel
theorem dX9_comes_0 : decode cX9_comes 0 = .ok (.aload_n 0, 1) := by decide +kernel
theorem dX9_comes_1 : decode cX9_comes 1 = .ok (.getfield 61, 3) := by decide +kernel
theorem dX9_comes_4 : decode cX9_comes 4 = .ok (.iload_n 1, 1) := by decide +kernel
theorem dX9_comes_5 : decode cX9_comes 5 = .ok (.aaload, 1) := by decide +kernel
theorem dX9_comes_6 : decode cX9_comes 6 = .ok (.iconst 0, 1) := by decide +kernel
theorem dX9_comes_7 : decode cX9_comes 7 = .ok (.iload_n 2, 1) := by decide +kernel
theorem dX9_comes_8 : decode cX9_comes 8 = .ok (.iastore, 1) := by decide +kernel
theorem dX9_comes_9 : decode cX9_comes 9 = .ok (.aload_n 0, 1) := by decide +kernel
theorem dX9_comes_10 : decode cX9_comes 10 = .ok (.getfield 61, 3) := by decide +kernel
theorem dX9_comes_13 : decode cX9_comes 13 = .ok (.iload_n 1, 1) := by decide +kernel
theorem dX9_comes_14 : decode cX9_comes 14 = .ok (.aaload, 1) := by decide +kernel
theorem dX9_comes_15 : decode cX9_comes 15 = .ok (.iconst 1, 1) := by decide +kernel
theorem dX9_comes_16 : decode cX9_comes 16 = .ok (.iload_n 3, 1) := by decide +kernel
theorem dX9_comes_17 : decode cX9_comes 17 = .ok (.iastore, 1) := by decide +kernel
theorem dX9_comes_18 : decode cX9_comes 18 = .ok (.aload_n 0, 1) := by decide +kernel
theorem dX9_comes_19 : decode cX9_comes 19 = .ok (.getfield 61, 3) := by decide +kernel
theorem dX9_comes_22 : decode cX9_comes 22 = .ok (.iload_n 1, 1) := by decide +kernel
theorem dX9_comes_23 : decode cX9_comes 23 = .ok (.aaload, 1) := by decide +kernel
theorem dX9_comes_24 : decode cX9_comes 24 = .ok (.iconst 2, 1) := by decide +kernel
theorem dX9_comes_25 : decode cX9_comes 25 = .ok (.iload 4, 2) := by decide +kernel
theorem dX9_comes_27 : decode cX9_comes 27 = .ok (.ifCond .eq 7, 3) := by decide +kernel
theorem dX9_comes_30 : decode cX9_comes 30 = .ok (.iconst 1, 1) := by decide +kernel
theorem dX9_comes_31 : decode cX9_comes 31 = .ok (.goto 4, 3) := by decide +kernel
theorem dX9_comes_34 : decode cX9_comes 34 = .ok (.iconst 0, 1) := by decide +kernel
theorem dX9_comes_35 : decode cX9_comes 35 = .ok (.iastore, 1) := by decide +kernel
theorem dX9_comes_36 : decode cX9_comes 36 = .ok (.iconst 3, 1) := by decide +kernel
theorem dX9_comes_37 : decode cX9_comes 37 = .ok (.istore 5, 2) := by decide +kernel
theorem dX9_comes_39 : decode cX9_comes 39 = .ok (.iload 5, 2) := by decide +kernel
theorem dX9_comes_41 : decode cX9_comes 41 = .ok (.bipush 8, 2) := by decide +kernel
theorem dX9_comes_43 : decode cX9_comes 43 = .ok (.if_icmp .ge 19, 3) := by decide +kernel
theorem dX9_comes_46 : decode cX9_comes 46 = .ok (.aload_n 0, 1) := by decide +kernel
theorem dX9_comes_47 : decode cX9_comes 47 = .ok (.getfield 61, 3) := by decide +kernel
theorem dX9_comes_50 : decode cX9_comes 50 = .ok (.iload_n 1, 1) := by decide +kernel
theorem dX9_comes_51 : decode cX9_comes 51 = .ok (.aaload, 1) := by decide +kernel
theorem dX9_comes_52 : decode cX9_comes 52 = .ok (.iload 5, 2) := by decide +kernel
theorem dX9_comes_54 : decode cX9_comes 54 = .ok (.iconst (-1), 1) := by decide +kernel
theorem dX9_comes_55 : decode cX9_comes 55 = .ok (.iastore, 1) := by decide +kernel
theorem dX9_comes_56 : decode cX9_comes 56 = .ok (.iinc 5 1, 3) := by decide +kernel
theorem dX9_comes_59 : decode cX9_comes 59 = .ok (.goto (-20), 3) := by decide +kernel
theorem dX9_comes_62 : decode cX9_comes 62 = .ok (.return_, 1) := by decide +kernel
theorem dX9_looker_0 : decode cX9_looker 0 = .ok (.aload_n 0, 1) := by decide +kernel
theorem dX9_looker_1 : decode cX9_looker 1 = .ok (.iconst 0, 1) := by decide +kernel
theorem dX9_looker_2 : decode cX9_looker 2 = .ok (.putfield 76, 3) := by decide +kernel
theorem dX9_looker_5 : decode cX9_looker 5 = .ok (.aload_n 0, 1) := by decide +kernel
theorem dX9_looker_6 : decode cX9_looker 6 = .ok (.aload_n 0, 1) := by decide +kernel
theorem dX9_looker_7 : decode cX9_looker 7 = .ok (.iload_n 1, 1) := by decide +kernel
theorem dX9_looker_8 : decode cX9_looker 8 = .ok (.invokevirtual 254, 3) := by decide +kernel
theorem dX9_looker_11 : decode cX9_looker 11 = .ok (.ifCond .ne 7, 3) := by decide +kernel
theorem dX9_looker_14 : decode cX9_looker 14 = .ok (.iconst 1, 1) := by decide +kernel
theorem dX9_looker_15 : decode cX9_looker 15 = .ok (.goto 4, 3) := by decide +kernel
theorem dX9_looker_18 : decode cX9_looker 18 = .ok (.iconst 0, 1) := by decide +kernel
theorem dX9_looker_19 : decode cX9_looker 19 = .ok (.iconst 1, 1) := by decide +kernel
theorem dX9_looker_20 : decode cX9_looker 20 = .ok (.invokevirtual 162, 3) := by decide +kernel
theorem dX9_looker_23 : decode cX9_looker 23 = .ok (.ifCond .ne 24, 3) := by decide +kernel
theorem dX9_looker_26 : decode cX9_looker 26 = .ok (.aload_n 0, 1) := by decide +kernel
theorem dX9_looker_27 : decode cX9_looker 27 = .ok (.aload_n 0, 1) := by decide +kernel
theorem dX9_looker_28 : decode cX9_looker 28 = .ok (.iload_n 2, 1) := by decide +kernel
theorem dX9_looker_29 : decode cX9_looker 29 = .ok (.invokevirtual 278, 3) := by decide +kernel
theorem dX9_looker_32 : decode cX9_looker 32 = .ok (.ifCond .ne 7, 3) := by decide +kernel
theorem dX9_looker_35 : decode cX9_looker 35 = .ok (.iconst 1, 1) := by decide +kernel
theorem dX9_looker_36 : decode cX9_looker 36 = .ok (.goto 4, 3) := by decide +kernel
theorem dX9_looker_39 : decode cX9_looker 39 = .ok (.iconst 0, 1) := by decide +kernel
theorem dX9_looker_40 : decode cX9_looker 40 = .ok (.iconst 2, 1) := by decide +kernel
theorem dX9_looker_41 : decode cX9_looker 41 = .ok (.invokevirtual 162, 3) := by decide +kernel
theorem dX9_looker_44 : decode cX9_looker 44 = .ok (.ifCond .eq 5, 3) := by decide +kernel
theorem dX9_looker_47 : decode cX9_looker 47 = .ok (.iconst 0, 1) := by decide +kernel
theorem dX9_looker_48 : decode cX9_looker 48 = .ok (.ireturn, 1) := by decide +kernel
theorem dX9_looker_49 : decode cX9_looker 49 = .ok (.aload_n 0, 1) := by decide +kernel
theorem dX9_looker_50 : decode cX9_looker 50 = .ok (.getfield 288, 3) := by decide +kernel
theorem dX9_looker_53 : decode cX9_looker 53 = .ok (.bipush 14, 2) := by decide +kernel
theorem dX9_looker_55 : decode cX9_looker 55 = .ok (.if_icmp .ne 5, 3) := by decide +kernel
theorem dX9_looker_58 : decode cX9_looker 58 = .ok (.iconst (-1), 1) := by decide +kernel
theorem dX9_looker_59 : decode cX9_looker 59 = .ok (.ireturn, 1) := by decide +kernel
theorem dX9_looker_60 : decode cX9_looker 60 = .ok (.aload_n 0, 1) := by decide +kernel
theorem dX9_looker_61 : decode cX9_looker 61 = .ok (.aload_n 0, 1) := by decide +kernel
theorem dX9_looker_62 : decode cX9_looker 62 = .ok (.getfield 288, 3) := by decide +kernel
theorem dX9_looker_65 : decode cX9_looker 65 = .ok (.iload_n 1, 1) := by decide +kernel
theorem dX9_looker_66 : decode cX9_looker 66 = .ok (.iload_n 2, 1) := by decide +kernel
theorem dX9_looker_67 : decode cX9_looker 67 = .ok (.iload_n 3, 1) := by decide +kernel
theorem dX9_looker_68 : decode cX9_looker 68 = .ok (.invokevirtual 291, 3) := by decide +kernel
theorem dX9_looker_71 : decode cX9_looker 71 = .ok (.aload_n 0, 1) := by decide +kernel
theorem dX9_looker_72 : decode cX9_looker 72 = .ok (.dup, 1) := by decide +kernel
theorem dX9_looker_73 : decode cX9_looker 73 = .ok (.getfield 288, 3) := by decide +kernel
theorem dX9_looker_76 : decode cX9_looker 76 = .ok (.iconst 1, 1) := by decide +kernel
theorem dX9_looker_77 : decode cX9_looker 77 = .ok (.iadd, 1) := by decide +kernel
theorem dX9_looker_78 : decode cX9_looker 78 = .ok (.putfield 288, 3) := by decide +kernel
theorem dX9_looker_81 : decode cX9_looker 81 = .ok (.aload_n 0, 1) := by decide +kernel
theorem dX9_looker_82 : decode cX9_looker 82 = .ok (.getfield 288, 3) := by decide +kernel
theorem dX9_looker_85 : decode cX9_looker 85 = .ok (.iconst 1, 1) := by decide +kernel
theorem dX9_looker_86 : decode cX9_looker 86 = .ok (.isub, 1) := by decide +kernel
theorem dX9_looker_87 : decode cX9_looker 87 = .ok (.ireturn, 1) := by decide +kernel
theorem dX9_isLooker_0 : decode cX9_isLooker 0 = .ok (.iload_n 1, 1) := by decide +kernel
theorem dX9_isLooker_1 : decode cX9_isLooker 1 = .ok (.iconst 0, 1) := by decide +kernel
theorem dX9_isLooker_2 : decode cX9_isLooker 2 = .ok (.aload_n 0, 1) := by decide +kernel
theorem dX9_isLooker_3 : decode cX9_isLooker 3 = .ok (.getfield 288, 3) := by decide +kernel
theorem dX9_isLooker_6 : decode cX9_isLooker 6 = .ok (.iconst 1, 1) := by decide +kernel
theorem dX9_isLooker_7 : decode cX9_isLooker 7 = .ok (.isub, 1) := by decide +kernel
theorem dX9_isLooker_8 : decode cX9_isLooker 8 = .ok (.invokestatic 113, 3) := by decide +kernel
theorem dX9_isLooker_11 : decode cX9_isLooker 11 = .ok (.ireturn, 1) := by decide +kernel
theorem dX9_eyes_0 : decode cX9_eyes 0 = .ok (.aload_n 0, 1) := by decide +kernel
theorem dX9_eyes_1 : decode cX9_eyes 1 = .ok (.iconst 0, 1) := by decide +kernel
theorem dX9_eyes_2 : decode cX9_eyes 2 = .ok (.putfield 76, 3) := by decide +kernel
theorem dX9_eyes_5 : decode cX9_eyes 5 = .ok (.aload_n 0, 1) := by decide +kernel
theorem dX9_eyes_6 : decode cX9_eyes 6 = .ok (.aload_n 0, 1) := by decide +kernel
theorem dX9_eyes_7 : decode cX9_eyes 7 = .ok (.iload_n 1, 1) := by decide +kernel
theorem dX9_eyes_8 : decode cX9_eyes 8 = .ok (.invokevirtual 295, 3) := by decide +kernel
theorem dX9_eyes_11 : decode cX9_eyes 11 = .ok (.ifCond .eq 35, 3) := by decide +kernel
theorem dX9_eyes_14 : decode cX9_eyes 14 = .ok (.iload_n 2, 1) := by decide +kernel
theorem dX9_eyes_15 : decode cX9_eyes 15 = .ok (.iconst 0, 1) := by decide +kernel
theorem dX9_eyes_16 : decode cX9_eyes 16 = .ok (.sipush 299, 3) := by decide +kernel
theorem dX9_eyes_19 : decode cX9_eyes 19 = .ok (.invokestatic 113, 3) := by decide +kernel
theorem dX9_eyes_22 : decode cX9_eyes 22 = .ok (.ifCond .eq 24, 3) := by decide +kernel
theorem dX9_eyes_25 : decode cX9_eyes 25 = .ok (.iload_n 3, 1) := by decide +kernel
theorem dX9_eyes_26 : decode cX9_eyes 26 = .ok (.iconst 0, 1) := by decide +kernel
theorem dX9_eyes_27 : decode cX9_eyes 27 = .ok (.bipush 39, 2) := by decide +kernel
theorem dX9_eyes_29 : decode cX9_eyes 29 = .ok (.invokestatic 113, 3) := by decide +kernel
theorem dX9_eyes_32 : decode cX9_eyes 32 = .ok (.ifCond .eq 14, 3) := by decide +kernel
theorem dX9_eyes_35 : decode cX9_eyes 35 = .ok (.iload 4, 2) := by decide +kernel
theorem dX9_eyes_37 : decode cX9_eyes 37 = .ok (.iconst 0, 1) := by decide +kernel
theorem dX9_eyes_38 : decode cX9_eyes 38 = .ok (.bipush 29, 2) := by decide +kernel
theorem dX9_eyes_40 : decode cX9_eyes 40 = .ok (.invokestatic 113, 3) := by decide +kernel
theorem dX9_eyes_43 : decode cX9_eyes 43 = .ok (.ifCond .ne 7, 3) := by decide +kernel
theorem dX9_eyes_46 : decode cX9_eyes 46 = .ok (.iconst 1, 1) := by decide +kernel
theorem dX9_eyes_47 : decode cX9_eyes 47 = .ok (.goto 4, 3) := by decide +kernel
theorem dX9_eyes_50 : decode cX9_eyes 50 = .ok (.iconst 0, 1) := by decide +kernel
theorem dX9_eyes_51 : decode cX9_eyes 51 = .ok (.iconst 1, 1) := by decide +kernel
theorem dX9_eyes_52 : decode cX9_eyes 52 = .ok (.invokevirtual 162, 3) := by decide +kernel
theorem dX9_eyes_55 : decode cX9_eyes 55 = .ok (.ifCond .eq 5, 3) := by decide +kernel
theorem dX9_eyes_58 : decode cX9_eyes 58 = .ok (.iconst 0, 1) := by decide +kernel
theorem dX9_eyes_59 : decode cX9_eyes 59 = .ok (.ireturn, 1) := by decide +kernel
theorem dX9_eyes_60 : decode cX9_eyes 60 = .ok (.aload_n 0, 1) := by decide +kernel
theorem dX9_eyes_61 : decode cX9_eyes 61 = .ok (.getfield 298, 3) := by decide +kernel
theorem dX9_eyes_64 : decode cX9_eyes 64 = .ok (.bipush 60, 2) := by decide +kernel
theorem dX9_eyes_66 : decode cX9_eyes 66 = .ok (.if_icmp .ne 5, 3) := by decide +kernel
theorem dX9_eyes_69 : decode cX9_eyes 69 = .ok (.iconst (-1), 1) := by decide +kernel
theorem dX9_eyes_70 : decode cX9_eyes 70 = .ok (.ireturn, 1) := by decide +kernel
theorem dX9_eyes_71 : decode cX9_eyes 71 = .ok (.aload_n 0, 1) := by decide +kernel
theorem dX9_eyes_72 : decode cX9_eyes 72 = .ok (.getfield 64, 3) := by decide +kernel
theorem dX9_eyes_75 : decode cX9_eyes 75 = .ok (.aload_n 0, 1) := by decide +kernel
theorem dX9_eyes_76 : decode cX9_eyes 76 = .ok (.getfield 298, 3) := by decide +kernel
theorem dX9_eyes_79 : decode cX9_eyes 79 = .ok (.aaload, 1) := by decide +kernel
theorem dX9_eyes_80 : decode cX9_eyes 80 = .ok (.iconst 0, 1) := by decide +kernel
theorem dX9_eyes_81 : decode cX9_eyes 81 = .ok (.iload_n 1, 1) := by decide +kernel
theorem dX9_eyes_82 : decode cX9_eyes 82 = .ok (.iastore, 1) := by decide +kernel
theorem dX9_eyes_83 : decode cX9_eyes 83 = .ok (.aload_n 0, 1) := by decide +kernel
theorem dX9_eyes_84 : decode cX9_eyes 84 = .ok (.getfield 64, 3) := by decide +kernel
theorem dX9_eyes_87 : decode cX9_eyes 87 = .ok (.aload_n 0, 1) := by decide +kernel
theorem dX9_eyes_88 : decode cX9_eyes 88 = .ok (.getfield 298, 3) := by decide +kernel
theorem dX9_eyes_91 : decode cX9_eyes 91 = .ok (.aaload, 1) := by decide +kernel
theorem dX9_eyes_92 : decode cX9_eyes 92 = .ok (.iconst 1, 1) := by decide +kernel
theorem dX9_eyes_93 : decode cX9_eyes 93 = .ok (.iload_n 2, 1) := by decide +kernel
theorem dX9_eyes_94 : decode cX9_eyes 94 = .ok (.iastore, 1) := by decide +kernel
theorem dX9_eyes_95 : decode cX9_eyes 95 = .ok (.aload_n 0, 1) := by decide +kernel
theorem dX9_eyes_96 : decode cX9_eyes 96 = .ok (.getfield 64, 3) := by decide +kernel
theorem dX9_eyes_99 : decode cX9_eyes 99 = .ok (.aload_n 0, 1) := by decide +kernel
theorem dX9_eyes_100 : decode cX9_eyes 100 = .ok (.getfield 298, 3) := by decide +kernel
theorem dX9_eyes_103 : decode cX9_eyes 103 = .ok (.aaload, 1) := by decide +kernel
theorem dX9_eyes_104 : decode cX9_eyes 104 = .ok (.iconst 2, 1) := by decide +kernel
theorem dX9_eyes_105 : decode cX9_eyes 105 = .ok (.iload_n 3, 1) := by decide +kernel
theorem dX9_eyes_106 : decode cX9_eyes 106 = .ok (.iastore, 1) := by decide +kernel
theorem dX9_eyes_107 : decode cX9_eyes 107 = .ok (.aload_n 0, 1) := by decide +kernel
theorem dX9_eyes_108 : decode cX9_eyes 108 = .ok (.getfield 64, 3) := by decide +kernel
theorem dX9_eyes_111 : decode cX9_eyes 111 = .ok (.aload_n 0, 1) := by decide +kernel
theorem dX9_eyes_112 : decode cX9_eyes 112 = .ok (.getfield 298, 3) := by decide +kernel
theorem dX9_eyes_115 : decode cX9_eyes 115 = .ok (.aaload, 1) := by decide +kernel
theorem dX9_eyes_116 : decode cX9_eyes 116 = .ok (.iconst 3, 1) := by decide +kernel
theorem dX9_eyes_117 : decode cX9_eyes 117 = .ok (.iload 4, 2) := by decide +kernel
theorem dX9_eyes_119 : decode cX9_eyes 119 = .ok (.iastore, 1) := by decide +kernel
theorem dX9_eyes_120 : decode cX9_eyes 120 = .ok (.aload_n 0, 1) := by decide +kernel
theorem dX9_eyes_121 : decode cX9_eyes 121 = .ok (.dup, 1) := by decide +kernel
theorem dX9_eyes_122 : decode cX9_eyes 122 = .ok (.getfield 298, 3) := by decide +kernel
theorem dX9_eyes_125 : decode cX9_eyes 125 = .ok (.iconst 1, 1) := by decide +kernel
theorem dX9_eyes_126 : decode cX9_eyes 126 = .ok (.iadd, 1) := by decide +kernel
theorem dX9_eyes_127 : decode cX9_eyes 127 = .ok (.putfield 298, 3) := by decide +kernel
theorem dX9_eyes_130 : decode cX9_eyes 130 = .ok (.aload_n 0, 1) := by decide +kernel
theorem dX9_eyes_131 : decode cX9_eyes 131 = .ok (.getfield 298, 3) := by decide +kernel
theorem dX9_eyes_134 : decode cX9_eyes 134 = .ok (.ireturn, 1) := by decide +kernel
theorem dX9_blink_0 : decode cX9_blink 0 = .ok (.aload_n 0, 1) := by decide +kernel
theorem dX9_blink_1 : decode cX9_blink 1 = .ok (.iconst 0, 1) := by decide +kernel
theorem dX9_blink_2 : decode cX9_blink 2 = .ok (.putfield 76, 3) := by decide +kernel
theorem dX9_blink_5 : decode cX9_blink 5 = .ok (.aload_n 0, 1) := by decide +kernel
theorem dX9_blink_6 : decode cX9_blink 6 = .ok (.aload_n 0, 1) := by decide +kernel
theorem dX9_blink_7 : decode cX9_blink 7 = .ok (.iload_n 1, 1) := by decide +kernel
theorem dX9_blink_8 : decode cX9_blink 8 = .ok (.invokevirtual 295, 3) := by decide +kernel
theorem dX9_blink_11 : decode cX9_blink 11 = .ok (.ifCond .eq 25, 3) := by decide +kernel
theorem dX9_blink_14 : decode cX9_blink 14 = .ok (.iload_n 2, 1) := by decide +kernel
theorem dX9_blink_15 : decode cX9_blink 15 = .ok (.iconst 0, 1) := by decide +kernel
theorem dX9_blink_16 : decode cX9_blink 16 = .ok (.sipush 299, 3) := by decide +kernel
theorem dX9_blink_19 : decode cX9_blink 19 = .ok (.invokestatic 113, 3) := by decide +kernel
theorem dX9_blink_22 : decode cX9_blink 22 = .ok (.ifCond .eq 14, 3) := by decide +kernel
theorem dX9_blink_25 : decode cX9_blink 25 = .ok (.iload_n 3, 1) := by decide +kernel
theorem dX9_blink_26 : decode cX9_blink 26 = .ok (.iload_n 2, 1) := by decide +kernel
theorem dX9_blink_27 : decode cX9_blink 27 = .ok (.sipush 299, 3) := by decide +kernel
theorem dX9_blink_30 : decode cX9_blink 30 = .ok (.invokestatic 113, 3) := by decide +kernel
theorem dX9_blink_33 : decode cX9_blink 33 = .ok (.ifCond .ne 7, 3) := by decide +kernel
theorem dX9_blink_36 : decode cX9_blink 36 = .ok (.iconst 1, 1) := by decide +kernel
theorem dX9_blink_37 : decode cX9_blink 37 = .ok (.goto 4, 3) := by decide +kernel
theorem dX9_blink_40 : decode cX9_blink 40 = .ok (.iconst 0, 1) := by decide +kernel
theorem dX9_blink_41 : decode cX9_blink 41 = .ok (.iconst 1, 1) := by decide +kernel
theorem dX9_blink_42 : decode cX9_blink 42 = .ok (.invokevirtual 162, 3) := by decide +kernel
theorem dX9_blink_45 : decode cX9_blink 45 = .ok (.ifCond .eq 5, 3) := by decide +kernel
theorem dX9_blink_48 : decode cX9_blink 48 = .ok (.iconst 0, 1) := by decide +kernel
theorem dX9_blink_49 : decode cX9_blink 49 = .ok (.ireturn, 1) := by decide +kernel
theorem dX9_blink_50 : decode cX9_blink 50 = .ok (.aload_n 0, 1) := by decide +kernel
theorem dX9_blink_51 : decode cX9_blink 51 = .ok (.getfield 301, 3) := by decide +kernel
theorem dX9_blink_54 : decode cX9_blink 54 = .ok (.bipush 40, 2) := by decide +kernel
theorem dX9_blink_56 : decode cX9_blink 56 = .ok (.if_icmp .ne 5, 3) := by decide +kernel
theorem dX9_blink_59 : decode cX9_blink 59 = .ok (.iconst (-1), 1) := by decide +kernel
theorem dX9_blink_60 : decode cX9_blink 60 = .ok (.ireturn, 1) := by decide +kernel
theorem dX9_blink_61 : decode cX9_blink 61 = .ok (.aload_n 0, 1) := by decide +kernel
theorem dX9_blink_62 : decode cX9_blink 62 = .ok (.getfield 67, 3) := by decide +kernel
theorem dX9_blink_65 : decode cX9_blink 65 = .ok (.aload_n 0, 1) := by decide +kernel
theorem dX9_blink_66 : decode cX9_blink 66 = .ok (.getfield 301, 3) := by decide +kernel
theorem dX9_blink_69 : decode cX9_blink 69 = .ok (.aaload, 1) := by decide +kernel
theorem dX9_blink_70 : decode cX9_blink 70 = .ok (.iconst 0, 1) := by decide +kernel
theorem dX9_blink_71 : decode cX9_blink 71 = .ok (.iload_n 1, 1) := by decide +kernel
theorem dX9_blink_72 : decode cX9_blink 72 = .ok (.iastore, 1) := by decide +kernel
theorem dX9_blink_73 : decode cX9_blink 73 = .ok (.aload_n 0, 1) := by decide +kernel
theorem dX9_blink_74 : decode cX9_blink 74 = .ok (.getfield 67, 3) := by decide +kernel
theorem dX9_blink_77 : decode cX9_blink 77 = .ok (.aload_n 0, 1) := by decide +kernel
theorem dX9_blink_78 : decode cX9_blink 78 = .ok (.getfield 301, 3) := by decide +kernel
theorem dX9_blink_81 : decode cX9_blink 81 = .ok (.aaload, 1) := by decide +kernel
theorem dX9_blink_82 : decode cX9_blink 82 = .ok (.iconst 1, 1) := by decide +kernel
theorem dX9_blink_83 : decode cX9_blink 83 = .ok (.iload_n 2, 1) := by decide +kernel
theorem dX9_blink_84 : decode cX9_blink 84 = .ok (.iastore, 1) := by decide +kernel
theorem dX9_blink_85 : decode cX9_blink 85 = .ok (.aload_n 0, 1) := by decide +kernel
theorem dX9_blink_86 : decode cX9_blink 86 = .ok (.getfield 67, 3) := by decide +kernel
theorem dX9_blink_89 : decode cX9_blink 89 = .ok (.aload_n 0, 1) := by decide +kernel
theorem dX9_blink_90 : decode cX9_blink 90 = .ok (.getfield 301, 3) := by decide +kernel
theorem dX9_blink_93 : decode cX9_blink 93 = .ok (.aaload, 1) := by decide +kernel
theorem dX9_blink_94 : decode cX9_blink 94 = .ok (.iconst 2, 1) := by decide +kernel
theorem dX9_blink_95 : decode cX9_blink 95 = .ok (.iload_n 3, 1) := by decide +kernel
theorem dX9_blink_96 : decode cX9_blink 96 = .ok (.iastore, 1) := by decide +kernel
theorem dX9_blink_97 : decode cX9_blink 97 = .ok (.aload_n 0, 1) := by decide +kernel
theorem dX9_blink_98 : decode cX9_blink 98 = .ok (.dup, 1) := by decide +kernel
theorem dX9_blink_99 : decode cX9_blink 99 = .ok (.getfield 301, 3) := by decide +kernel
theorem dX9_blink_102 : decode cX9_blink 102 = .ok (.iconst 1, 1) := by decide +kernel
theorem dX9_blink_103 : decode cX9_blink 103 = .ok (.iadd, 1) := by decide +kernel
theorem dX9_blink_104 : decode cX9_blink 104 = .ok (.putfield 301, 3) := by decide +kernel
theorem dX9_blink_107 : decode cX9_blink 107 = .ok (.aload_n 0, 1) := by decide +kernel
theorem dX9_blink_108 : decode cX9_blink 108 = .ok (.getfield 301, 3) := by decide +kernel
theorem dX9_blink_111 : decode cX9_blink 111 = .ok (.ireturn, 1) := by decide +kernel
theorem dX9_isShut_0 : decode cX9_isShut 0 = .ok (.iconst 0, 1) := by decide +kernel
theorem dX9_isShut_1 : decode cX9_isShut 1 = .ok (.istore_n 3, 1) := by decide +kernel
theorem dX9_isShut_2 : decode cX9_isShut 2 = .ok (.iload_n 3, 1) := by decide +kernel
theorem dX9_isShut_3 : decode cX9_isShut 3 = .ok (.aload_n 0, 1) := by decide +kernel
theorem dX9_isShut_4 : decode cX9_isShut 4 = .ok (.getfield 301, 3) := by decide +kernel
theorem dX9_isShut_7 : decode cX9_isShut 7 = .ok (.if_icmp .ge 46, 3) := by decide +kernel
theorem dX9_isShut_10 : decode cX9_isShut 10 = .ok (.aload_n 0, 1) := by decide +kernel
theorem dX9_isShut_11 : decode cX9_isShut 11 = .ok (.getfield 67, 3) := by decide +kernel
theorem dX9_isShut_14 : decode cX9_isShut 14 = .ok (.iload_n 3, 1) := by decide +kernel
theorem dX9_isShut_15 : decode cX9_isShut 15 = .ok (.aaload, 1) := by decide +kernel
theorem dX9_isShut_16 : decode cX9_isShut 16 = .ok (.iconst 0, 1) := by decide +kernel
theorem dX9_isShut_17 : decode cX9_isShut 17 = .ok (.iaload, 1) := by decide +kernel
theorem dX9_isShut_18 : decode cX9_isShut 18 = .ok (.iload_n 1, 1) := by decide +kernel
theorem dX9_isShut_19 : decode cX9_isShut 19 = .ok (.if_icmp .ne 28, 3) := by decide +kernel
theorem dX9_isShut_22 : decode cX9_isShut 22 = .ok (.iload_n 2, 1) := by decide +kernel
theorem dX9_isShut_23 : decode cX9_isShut 23 = .ok (.aload_n 0, 1) := by decide +kernel
theorem dX9_isShut_24 : decode cX9_isShut 24 = .ok (.getfield 67, 3) := by decide +kernel
theorem dX9_isShut_27 : decode cX9_isShut 27 = .ok (.iload_n 3, 1) := by decide +kernel
theorem dX9_isShut_28 : decode cX9_isShut 28 = .ok (.aaload, 1) := by decide +kernel
theorem dX9_isShut_29 : decode cX9_isShut 29 = .ok (.iconst 1, 1) := by decide +kernel
theorem dX9_isShut_30 : decode cX9_isShut 30 = .ok (.iaload, 1) := by decide +kernel
theorem dX9_isShut_31 : decode cX9_isShut 31 = .ok (.aload_n 0, 1) := by decide +kernel
theorem dX9_isShut_32 : decode cX9_isShut 32 = .ok (.getfield 67, 3) := by decide +kernel
theorem dX9_isShut_35 : decode cX9_isShut 35 = .ok (.iload_n 3, 1) := by decide +kernel
theorem dX9_isShut_36 : decode cX9_isShut 36 = .ok (.aaload, 1) := by decide +kernel
theorem dX9_isShut_37 : decode cX9_isShut 37 = .ok (.iconst 2, 1) := by decide +kernel
theorem dX9_isShut_38 : decode cX9_isShut 38 = .ok (.iaload, 1) := by decide +kernel
theorem dX9_isShut_39 : decode cX9_isShut 39 = .ok (.invokestatic 113, 3) := by decide +kernel
theorem dX9_isShut_42 : decode cX9_isShut 42 = .ok (.ifCond .eq 5, 3) := by decide +kernel
theorem dX9_isShut_45 : decode cX9_isShut 45 = .ok (.iconst 1, 1) := by decide +kernel
theorem dX9_isShut_46 : decode cX9_isShut 46 = .ok (.ireturn, 1) := by decide +kernel
theorem dX9_isShut_47 : decode cX9_isShut 47 = .ok (.iinc 3 1, 3) := by decide +kernel
theorem dX9_isShut_50 : decode cX9_isShut 50 = .ok (.goto (-48), 3) := by decide +kernel
theorem dX9_isShut_53 : decode cX9_isShut 53 = .ok (.iconst 0, 1) := by decide +kernel
theorem dX9_isShut_54 : decode cX9_isShut 54 = .ok (.ireturn, 1) := by decide +kernel
theorem dX9_looks_0 : decode cX9_looks 0 = .ok (.iconst (-1), 1) := by decide +kernel
theorem dX9_looks_1 : decode cX9_looks 1 = .ok (.istore_n 3, 1) := by decide +kernel
theorem dX9_looks_2 : decode cX9_looks 2 = .ok (.aload_n 0, 1) := by decide +kernel
theorem dX9_looks_3 : decode cX9_looks 3 = .ok (.getfield 61, 3) := by decide +kernel
theorem dX9_looks_6 : decode cX9_looks 6 = .ok (.iload_n 1, 1) := by decide +kernel
theorem dX9_looks_7 : decode cX9_looks 7 = .ok (.aaload, 1) := by decide +kernel
theorem dX9_looks_8 : decode cX9_looks 8 = .ok (.iconst 0, 1) := by decide +kernel
theorem dX9_looks_9 : decode cX9_looks 9 = .ok (.iaload, 1) := by decide +kernel
theorem dX9_looks_10 : decode cX9_looks 10 = .ok (.istore 4, 2) := by decide +kernel
theorem dX9_looks_12 : decode cX9_looks 12 = .ok (.iconst (-1), 1) := by decide +kernel
theorem dX9_looks_13 : decode cX9_looks 13 = .ok (.istore 5, 2) := by decide +kernel
theorem dX9_looks_15 : decode cX9_looks 15 = .ok (.iconst 0, 1) := by decide +kernel
theorem dX9_looks_16 : decode cX9_looks 16 = .ok (.istore 6, 2) := by decide +kernel
theorem dX9_looks_18 : decode cX9_looks 18 = .ok (.iload 6, 2) := by decide +kernel
theorem dX9_looks_20 : decode cX9_looks 20 = .ok (.aload_n 0, 1) := by decide +kernel
theorem dX9_looks_21 : decode cX9_looks 21 = .ok (.getfield 298, 3) := by decide +kernel
theorem dX9_looks_24 : decode cX9_looks 24 = .ok (.if_icmp .ge 63, 3) := by decide +kernel
theorem dX9_looks_27 : decode cX9_looks 27 = .ok (.aload_n 0, 1) := by decide +kernel
theorem dX9_looks_28 : decode cX9_looks 28 = .ok (.getfield 64, 3) := by decide +kernel
theorem dX9_looks_31 : decode cX9_looks 31 = .ok (.iload 6, 2) := by decide +kernel
theorem dX9_looks_33 : decode cX9_looks 33 = .ok (.aaload, 1) := by decide +kernel
theorem dX9_looks_34 : decode cX9_looks 34 = .ok (.iconst 0, 1) := by decide +kernel
theorem dX9_looks_35 : decode cX9_looks 35 = .ok (.iaload, 1) := by decide +kernel
theorem dX9_looks_36 : decode cX9_looks 36 = .ok (.iload_n 1, 1) := by decide +kernel
theorem dX9_looks_37 : decode cX9_looks 37 = .ok (.if_icmp .ne 44, 3) := by decide +kernel
theorem dX9_looks_40 : decode cX9_looks 40 = .ok (.aload_n 0, 1) := by decide +kernel
theorem dX9_looks_41 : decode cX9_looks 41 = .ok (.getfield 64, 3) := by decide +kernel
theorem dX9_looks_44 : decode cX9_looks 44 = .ok (.iload 6, 2) := by decide +kernel
theorem dX9_looks_46 : decode cX9_looks 46 = .ok (.aaload, 1) := by decide +kernel
theorem dX9_looks_47 : decode cX9_looks 47 = .ok (.iconst 1, 1) := by decide +kernel
theorem dX9_looks_48 : decode cX9_looks 48 = .ok (.iaload, 1) := by decide +kernel
theorem dX9_looks_49 : decode cX9_looks 49 = .ok (.iload_n 2, 1) := by decide +kernel
theorem dX9_looks_50 : decode cX9_looks 50 = .ok (.if_icmp .gt 31, 3) := by decide +kernel
theorem dX9_looks_53 : decode cX9_looks 53 = .ok (.iload_n 3, 1) := by decide +kernel
theorem dX9_looks_54 : decode cX9_looks 54 = .ok (.iconst (-1), 1) := by decide +kernel
theorem dX9_looks_55 : decode cX9_looks 55 = .ok (.if_icmp .eq 23, 3) := by decide +kernel
theorem dX9_looks_58 : decode cX9_looks 58 = .ok (.aload_n 0, 1) := by decide +kernel
theorem dX9_looks_59 : decode cX9_looks 59 = .ok (.getfield 64, 3) := by decide +kernel
theorem dX9_looks_62 : decode cX9_looks 62 = .ok (.iload 6, 2) := by decide +kernel
theorem dX9_looks_64 : decode cX9_looks 64 = .ok (.aaload, 1) := by decide +kernel
theorem dX9_looks_65 : decode cX9_looks 65 = .ok (.iconst 1, 1) := by decide +kernel
theorem dX9_looks_66 : decode cX9_looks 66 = .ok (.iaload, 1) := by decide +kernel
theorem dX9_looks_67 : decode cX9_looks 67 = .ok (.aload_n 0, 1) := by decide +kernel
theorem dX9_looks_68 : decode cX9_looks 68 = .ok (.getfield 64, 3) := by decide +kernel
theorem dX9_looks_71 : decode cX9_looks 71 = .ok (.iload_n 3, 1) := by decide +kernel
theorem dX9_looks_72 : decode cX9_looks 72 = .ok (.aaload, 1) := by decide +kernel
theorem dX9_looks_73 : decode cX9_looks 73 = .ok (.iconst 1, 1) := by decide +kernel
theorem dX9_looks_74 : decode cX9_looks 74 = .ok (.iaload, 1) := by decide +kernel
theorem dX9_looks_75 : decode cX9_looks 75 = .ok (.if_icmp .lt 6, 3) := by decide +kernel
theorem dX9_looks_78 : decode cX9_looks 78 = .ok (.iload 6, 2) := by decide +kernel
theorem dX9_looks_80 : decode cX9_looks 80 = .ok (.istore_n 3, 1) := by decide +kernel
theorem dX9_looks_81 : decode cX9_looks 81 = .ok (.iinc 6 1, 3) := by decide +kernel
theorem dX9_looks_84 : decode cX9_looks 84 = .ok (.goto (-66), 3) := by decide +kernel
theorem dX9_looks_87 : decode cX9_looks 87 = .ok (.iload_n 3, 1) := by decide +kernel
theorem dX9_looks_88 : decode cX9_looks 88 = .ok (.iconst (-1), 1) := by decide +kernel
theorem dX9_looks_89 : decode cX9_looks 89 = .ok (.if_icmp .eq 24, 3) := by decide +kernel
theorem dX9_looks_92 : decode cX9_looks 92 = .ok (.bipush 100, 2) := by decide +kernel
theorem dX9_looks_94 : decode cX9_looks 94 = .ok (.aload_n 0, 1) := by decide +kernel
theorem dX9_looks_95 : decode cX9_looks 95 = .ok (.getfield 64, 3) := by decide +kernel
theorem dX9_looks_98 : decode cX9_looks 98 = .ok (.iload_n 3, 1) := by decide +kernel
theorem dX9_looks_99 : decode cX9_looks 99 = .ok (.aaload, 1) := by decide +kernel
theorem dX9_looks_100 : decode cX9_looks 100 = .ok (.iconst 2, 1) := by decide +kernel
theorem dX9_looks_101 : decode cX9_looks 101 = .ok (.iaload, 1) := by decide +kernel
theorem dX9_looks_102 : decode cX9_looks 102 = .ok (.imul, 1) := by decide +kernel
theorem dX9_looks_103 : decode cX9_looks 103 = .ok (.aload_n 0, 1) := by decide +kernel
theorem dX9_looks_104 : decode cX9_looks 104 = .ok (.getfield 64, 3) := by decide +kernel
theorem dX9_looks_107 : decode cX9_looks 107 = .ok (.iload_n 3, 1) := by decide +kernel
theorem dX9_looks_108 : decode cX9_looks 108 = .ok (.aaload, 1) := by decide +kernel
theorem dX9_looks_109 : decode cX9_looks 109 = .ok (.iconst 3, 1) := by decide +kernel
theorem dX9_looks_110 : decode cX9_looks 110 = .ok (.iaload, 1) := by decide +kernel
theorem dX9_looks_111 : decode cX9_looks 111 = .ok (.iadd, 1) := by decide +kernel
theorem dX9_looks_112 : decode cX9_looks 112 = .ok (.ireturn, 1) := by decide +kernel
theorem dX9_looks_113 : decode cX9_looks 113 = .ok (.bipush 24, 2) := by decide +kernel
theorem dX9_looks_115 : decode cX9_looks 115 = .ok (.iload 4, 2) := by decide +kernel
theorem dX9_looks_117 : decode cX9_looks 117 = .ok (.imul, 1) := by decide +kernel
theorem dX9_looks_118 : decode cX9_looks 118 = .ok (.istore 6, 2) := by decide +kernel
theorem dX9_looks_120 : decode cX9_looks 120 = .ok (.iload 6, 2) := by decide +kernel
theorem dX9_looks_122 : decode cX9_looks 122 = .ok (.bipush 24, 2) := by decide +kernel
theorem dX9_looks_124 : decode cX9_looks 124 = .ok (.iload 4, 2) := by decide +kernel
theorem dX9_looks_126 : decode cX9_looks 126 = .ok (.imul, 1) := by decide +kernel
theorem dX9_looks_127 : decode cX9_looks 127 = .ok (.aload_n 0, 1) := by decide +kernel
theorem dX9_looks_128 : decode cX9_looks 128 = .ok (.getfield 28, 3) := by decide +kernel
theorem dX9_looks_131 : decode cX9_looks 131 = .ok (.iload 4, 2) := by decide +kernel
theorem dX9_looks_133 : decode cX9_looks 133 = .ok (.iaload, 1) := by decide +kernel
theorem dX9_looks_134 : decode cX9_looks 134 = .ok (.iadd, 1) := by decide +kernel
theorem dX9_looks_135 : decode cX9_looks 135 = .ok (.if_icmp .ge 77, 3) := by decide +kernel
theorem dX9_looks_138 : decode cX9_looks 138 = .ok (.aload_n 0, 1) := by decide +kernel
theorem dX9_looks_139 : decode cX9_looks 139 = .ok (.iload 4, 2) := by decide +kernel
theorem dX9_looks_141 : decode cX9_looks 141 = .ok (.aload_n 0, 1) := by decide +kernel
theorem dX9_looks_142 : decode cX9_looks 142 = .ok (.getfield 61, 3) := by decide +kernel
theorem dX9_looks_145 : decode cX9_looks 145 = .ok (.iload_n 1, 1) := by decide +kernel
theorem dX9_looks_146 : decode cX9_looks 146 = .ok (.aaload, 1) := by decide +kernel
theorem dX9_looks_147 : decode cX9_looks 147 = .ok (.iconst 1, 1) := by decide +kernel
theorem dX9_looks_148 : decode cX9_looks 148 = .ok (.iaload, 1) := by decide +kernel
theorem dX9_looks_149 : decode cX9_looks 149 = .ok (.aload_n 0, 1) := by decide +kernel
theorem dX9_looks_150 : decode cX9_looks 150 = .ok (.getfield 25, 3) := by decide +kernel
theorem dX9_looks_153 : decode cX9_looks 153 = .ok (.iload 6, 2) := by decide +kernel
theorem dX9_looks_155 : decode cX9_looks 155 = .ok (.aaload, 1) := by decide +kernel
theorem dX9_looks_156 : decode cX9_looks 156 = .ok (.invokevirtual 281, 3) := by decide +kernel
theorem dX9_looks_159 : decode cX9_looks 159 = .ok (.ifCond .eq 47, 3) := by decide +kernel
theorem dX9_looks_162 : decode cX9_looks 162 = .ok (.aload_n 0, 1) := by decide +kernel
theorem dX9_looks_163 : decode cX9_looks 163 = .ok (.getfield 25, 3) := by decide +kernel
theorem dX9_looks_166 : decode cX9_looks 166 = .ok (.iload 6, 2) := by decide +kernel
theorem dX9_looks_168 : decode cX9_looks 168 = .ok (.aaload, 1) := by decide +kernel
theorem dX9_looks_169 : decode cX9_looks 169 = .ok (.iconst 3, 1) := by decide +kernel
theorem dX9_looks_170 : decode cX9_looks 170 = .ok (.iaload, 1) := by decide +kernel
theorem dX9_looks_171 : decode cX9_looks 171 = .ok (.iload_n 2, 1) := by decide +kernel
theorem dX9_looks_172 : decode cX9_looks 172 = .ok (.if_icmp .gt 34, 3) := by decide +kernel
theorem dX9_looks_175 : decode cX9_looks 175 = .ok (.iload 5, 2) := by decide +kernel
theorem dX9_looks_177 : decode cX9_looks 177 = .ok (.iconst (-1), 1) := by decide +kernel
theorem dX9_looks_178 : decode cX9_looks 178 = .ok (.if_icmp .eq 24, 3) := by decide +kernel
theorem dX9_looks_181 : decode cX9_looks 181 = .ok (.aload_n 0, 1) := by decide +kernel
theorem dX9_looks_182 : decode cX9_looks 182 = .ok (.getfield 25, 3) := by decide +kernel
theorem dX9_looks_185 : decode cX9_looks 185 = .ok (.iload 6, 2) := by decide +kernel
theorem dX9_looks_187 : decode cX9_looks 187 = .ok (.aaload, 1) := by decide +kernel
theorem dX9_looks_188 : decode cX9_looks 188 = .ok (.iconst 3, 1) := by decide +kernel
theorem dX9_looks_189 : decode cX9_looks 189 = .ok (.iaload, 1) := by decide +kernel
theorem dX9_looks_190 : decode cX9_looks 190 = .ok (.aload_n 0, 1) := by decide +kernel
theorem dX9_looks_191 : decode cX9_looks 191 = .ok (.getfield 25, 3) := by decide +kernel
theorem dX9_looks_194 : decode cX9_looks 194 = .ok (.iload 5, 2) := by decide +kernel
theorem dX9_looks_196 : decode cX9_looks 196 = .ok (.aaload, 1) := by decide +kernel
theorem dX9_looks_197 : decode cX9_looks 197 = .ok (.iconst 3, 1) := by decide +kernel
theorem dX9_looks_198 : decode cX9_looks 198 = .ok (.iaload, 1) := by decide +kernel
theorem dX9_looks_199 : decode cX9_looks 199 = .ok (.if_icmp .lt 7, 3) := by decide +kernel
theorem dX9_looks_202 : decode cX9_looks 202 = .ok (.iload 6, 2) := by decide +kernel
theorem dX9_looks_204 : decode cX9_looks 204 = .ok (.istore 5, 2) := by decide +kernel
theorem dX9_looks_206 : decode cX9_looks 206 = .ok (.iinc 6 1, 3) := by decide +kernel
theorem dX9_looks_209 : decode cX9_looks 209 = .ok (.goto (-89), 3) := by decide +kernel
theorem dX9_looks_212 : decode cX9_looks 212 = .ok (.iload 5, 2) := by decide +kernel
theorem dX9_looks_214 : decode cX9_looks 214 = .ok (.iconst (-1), 1) := by decide +kernel
theorem dX9_looks_215 : decode cX9_looks 215 = .ok (.if_icmp .eq 22, 3) := by decide +kernel
theorem dX9_looks_218 : decode cX9_looks 218 = .ok (.aload_n 0, 1) := by decide +kernel
theorem dX9_looks_219 : decode cX9_looks 219 = .ok (.iload 4, 2) := by decide +kernel
theorem dX9_looks_221 : decode cX9_looks 221 = .ok (.aload_n 0, 1) := by decide +kernel
theorem dX9_looks_222 : decode cX9_looks 222 = .ok (.getfield 25, 3) := by decide +kernel
theorem dX9_looks_225 : decode cX9_looks 225 = .ok (.iload 5, 2) := by decide +kernel
theorem dX9_looks_227 : decode cX9_looks 227 = .ok (.aaload, 1) := by decide +kernel
theorem dX9_looks_228 : decode cX9_looks 228 = .ok (.iconst 2, 1) := by decide +kernel
theorem dX9_looks_229 : decode cX9_looks 229 = .ok (.iaload, 1) := by decide +kernel
theorem dX9_looks_230 : decode cX9_looks 230 = .ok (.iload_n 2, 1) := by decide +kernel
theorem dX9_looks_231 : decode cX9_looks 231 = .ok (.invokevirtual 241, 3) := by decide +kernel
theorem dX9_looks_234 : decode cX9_looks 234 = .ok (.ifCond .ne 7, 3) := by decide +kernel
theorem dX9_looks_237 : decode cX9_looks 237 = .ok (.sipush 2015, 3) := by decide +kernel
theorem dX9_looks_240 : decode cX9_looks 240 = .ok (.ireturn, 1) := by decide +kernel
theorem dX9_looks_241 : decode cX9_looks 241 = .ok (.bipush 100, 2) := by decide +kernel
theorem dX9_looks_243 : decode cX9_looks 243 = .ok (.aload_n 0, 1) := by decide +kernel
theorem dX9_looks_244 : decode cX9_looks 244 = .ok (.iload 4, 2) := by decide +kernel
theorem dX9_looks_246 : decode cX9_looks 246 = .ok (.aload_n 0, 1) := by decide +kernel
theorem dX9_looks_247 : decode cX9_looks 247 = .ok (.getfield 25, 3) := by decide +kernel
theorem dX9_looks_250 : decode cX9_looks 250 = .ok (.iload 5, 2) := by decide +kernel
theorem dX9_looks_252 : decode cX9_looks 252 = .ok (.aaload, 1) := by decide +kernel
theorem dX9_looks_253 : decode cX9_looks 253 = .ok (.iconst 2, 1) := by decide +kernel
theorem dX9_looks_254 : decode cX9_looks 254 = .ok (.iaload, 1) := by decide +kernel
theorem dX9_looks_255 : decode cX9_looks 255 = .ok (.iload_n 2, 1) := by decide +kernel
theorem dX9_looks_256 : decode cX9_looks 256 = .ok (.iconst 0, 1) := by decide +kernel
theorem dX9_looks_257 : decode cX9_looks 257 = .ok (.invokevirtual 244, 3) := by decide +kernel
theorem dX9_looks_260 : decode cX9_looks 260 = .ok (.imul, 1) := by decide +kernel
theorem dX9_looks_261 : decode cX9_looks 261 = .ok (.aload_n 0, 1) := by decide +kernel
theorem dX9_looks_262 : decode cX9_looks 262 = .ok (.iload 4, 2) := by decide +kernel
theorem dX9_looks_264 : decode cX9_looks 264 = .ok (.aload_n 0, 1) := by decide +kernel
theorem dX9_looks_265 : decode cX9_looks 265 = .ok (.getfield 25, 3) := by decide +kernel
theorem dX9_looks_268 : decode cX9_looks 268 = .ok (.iload 5, 2) := by decide +kernel
theorem dX9_looks_270 : decode cX9_looks 270 = .ok (.aaload, 1) := by decide +kernel
theorem dX9_looks_271 : decode cX9_looks 271 = .ok (.iconst 2, 1) := by decide +kernel
theorem dX9_looks_272 : decode cX9_looks 272 = .ok (.iaload, 1) := by decide +kernel
theorem dX9_looks_273 : decode cX9_looks 273 = .ok (.iload_n 2, 1) := by decide +kernel
theorem dX9_looks_274 : decode cX9_looks 274 = .ok (.iconst 1, 1) := by decide +kernel
theorem dX9_looks_275 : decode cX9_looks 275 = .ok (.invokevirtual 244, 3) := by decide +kernel
theorem dX9_looks_278 : decode cX9_looks 278 = .ok (.iadd, 1) := by decide +kernel
theorem dX9_looks_279 : decode cX9_looks 279 = .ok (.ireturn, 1) := by decide +kernel
theorem dX9_eyeOf_0 : decode cX9_eyeOf 0 = .ok (.aload_n 0, 1) := by decide +kernel
theorem dX9_eyeOf_1 : decode cX9_eyeOf 1 = .ok (.iload_n 1, 1) := by decide +kernel
theorem dX9_eyeOf_2 : decode cX9_eyeOf 2 = .ok (.iload_n 2, 1) := by decide +kernel
theorem dX9_eyeOf_3 : decode cX9_eyeOf 3 = .ok (.invokevirtual 304, 3) := by decide +kernel
theorem dX9_eyeOf_6 : decode cX9_eyeOf 6 = .ok (.ifCond .eq 7, 3) := by decide +kernel
theorem dX9_eyeOf_9 : decode cX9_eyeOf 9 = .ok (.iconst (-1), 1) := by decide +kernel
theorem dX9_eyeOf_10 : decode cX9_eyeOf 10 = .ok (.goto 9, 3) := by decide +kernel
theorem dX9_eyeOf_13 : decode cX9_eyeOf 13 = .ok (.aload_n 0, 1) := by decide +kernel
theorem dX9_eyeOf_14 : decode cX9_eyeOf 14 = .ok (.iload_n 1, 1) := by decide +kernel
theorem dX9_eyeOf_15 : decode cX9_eyeOf 15 = .ok (.iload_n 2, 1) := by decide +kernel
theorem dX9_eyeOf_16 : decode cX9_eyeOf 16 = .ok (.invokevirtual 308, 3) := by decide +kernel
theorem dX9_eyeOf_19 : decode cX9_eyeOf 19 = .ok (.ireturn, 1) := by decide +kernel
theorem dX9_eye_0 : decode cX9_eye 0 = .ok (.aload_n 0, 1) := by decide +kernel
theorem dX9_eye_1 : decode cX9_eye 1 = .ok (.iconst 0, 1) := by decide +kernel
theorem dX9_eye_2 : decode cX9_eye 2 = .ok (.putfield 76, 3) := by decide +kernel
theorem dX9_eye_5 : decode cX9_eye 5 = .ok (.aload_n 0, 1) := by decide +kernel
theorem dX9_eye_6 : decode cX9_eye 6 = .ok (.aload_n 0, 1) := by decide +kernel
theorem dX9_eye_7 : decode cX9_eye 7 = .ok (.iload_n 1, 1) := by decide +kernel
theorem dX9_eye_8 : decode cX9_eye 8 = .ok (.invokevirtual 295, 3) := by decide +kernel
theorem dX9_eye_11 : decode cX9_eye 11 = .ok (.ifCond .eq 14, 3) := by decide +kernel
theorem dX9_eye_14 : decode cX9_eye 14 = .ok (.iload_n 2, 1) := by decide +kernel
theorem dX9_eye_15 : decode cX9_eye 15 = .ok (.iconst 0, 1) := by decide +kernel
theorem dX9_eye_16 : decode cX9_eye 16 = .ok (.sipush 299, 3) := by decide +kernel
theorem dX9_eye_19 : decode cX9_eye 19 = .ok (.invokestatic 113, 3) := by decide +kernel
theorem dX9_eye_22 : decode cX9_eye 22 = .ok (.ifCond .ne 7, 3) := by decide +kernel
theorem dX9_eye_25 : decode cX9_eye 25 = .ok (.iconst 1, 1) := by decide +kernel
theorem dX9_eye_26 : decode cX9_eye 26 = .ok (.goto 4, 3) := by decide +kernel
theorem dX9_eye_29 : decode cX9_eye 29 = .ok (.iconst 0, 1) := by decide +kernel
theorem dX9_eye_30 : decode cX9_eye 30 = .ok (.iconst 1, 1) := by decide +kernel
theorem dX9_eye_31 : decode cX9_eye 31 = .ok (.invokevirtual 162, 3) := by decide +kernel
theorem dX9_eye_34 : decode cX9_eye 34 = .ok (.ifCond .eq 5, 3) := by decide +kernel
theorem dX9_eye_37 : decode cX9_eye 37 = .ok (.iconst 0, 1) := by decide +kernel
theorem dX9_eye_38 : decode cX9_eye 38 = .ok (.ireturn, 1) := by decide +kernel
theorem dX9_eye_39 : decode cX9_eye 39 = .ok (.aload_n 0, 1) := by decide +kernel
theorem dX9_eye_40 : decode cX9_eye 40 = .ok (.iload_n 1, 1) := by decide +kernel
theorem dX9_eye_41 : decode cX9_eye 41 = .ok (.iload_n 2, 1) := by decide +kernel
theorem dX9_eye_42 : decode cX9_eye 42 = .ok (.invokevirtual 311, 3) := by decide +kernel
theorem dX9_eye_45 : decode cX9_eye 45 = .ok (.ireturn, 1) := by decide +kernel
theorem dX9_nearOf_0 : decode cX9_nearOf 0 = .ok (.aload_n 0, 1) := by decide +kernel
theorem dX9_nearOf_1 : decode cX9_nearOf 1 = .ok (.getfield 61, 3) := by decide +kernel
theorem dX9_nearOf_4 : decode cX9_nearOf 4 = .ok (.iload_n 1, 1) := by decide +kernel
theorem dX9_nearOf_5 : decode cX9_nearOf 5 = .ok (.aaload, 1) := by decide +kernel
theorem dX9_nearOf_6 : decode cX9_nearOf 6 = .ok (.iconst 0, 1) := by decide +kernel
theorem dX9_nearOf_7 : decode cX9_nearOf 7 = .ok (.iaload, 1) := by decide +kernel
theorem dX9_nearOf_8 : decode cX9_nearOf 8 = .ok (.istore 4, 2) := by decide +kernel
theorem dX9_nearOf_10 : decode cX9_nearOf 10 = .ok (.aload_n 0, 1) := by decide +kernel
theorem dX9_nearOf_11 : decode cX9_nearOf 11 = .ok (.iload_n 1, 1) := by decide +kernel
theorem dX9_nearOf_12 : decode cX9_nearOf 12 = .ok (.iload_n 3, 1) := by decide +kernel
theorem dX9_nearOf_13 : decode cX9_nearOf 13 = .ok (.invokevirtual 311, 3) := by decide +kernel
theorem dX9_nearOf_16 : decode cX9_nearOf 16 = .ok (.istore 5, 2) := by decide +kernel
theorem dX9_nearOf_18 : decode cX9_nearOf 18 = .ok (.iload 5, 2) := by decide +kernel
theorem dX9_nearOf_20 : decode cX9_nearOf 20 = .ok (.iconst (-1), 1) := by decide +kernel
theorem dX9_nearOf_21 : decode cX9_nearOf 21 = .ok (.if_icmp .eq 14, 3) := by decide +kernel
theorem dX9_nearOf_24 : decode cX9_nearOf 24 = .ok (.aload_n 0, 1) := by decide +kernel
theorem dX9_nearOf_25 : decode cX9_nearOf 25 = .ok (.iload 4, 2) := by decide +kernel
theorem dX9_nearOf_27 : decode cX9_nearOf 27 = .ok (.iload_n 2, 1) := by decide +kernel
theorem dX9_nearOf_28 : decode cX9_nearOf 28 = .ok (.iload_n 3, 1) := by decide +kernel
theorem dX9_nearOf_29 : decode cX9_nearOf 29 = .ok (.invokevirtual 241, 3) := by decide +kernel
theorem dX9_nearOf_32 : decode cX9_nearOf 32 = .ok (.ifCond .ne 6, 3) := by decide +kernel
theorem dX9_nearOf_35 : decode cX9_nearOf 35 = .ok (.bipush 99, 2) := by decide +kernel
theorem dX9_nearOf_37 : decode cX9_nearOf 37 = .ok (.ireturn, 1) := by decide +kernel
theorem dX9_nearOf_38 : decode cX9_nearOf 38 = .ok (.aload_n 0, 1) := by decide +kernel
theorem dX9_nearOf_39 : decode cX9_nearOf 39 = .ok (.iload 4, 2) := by decide +kernel
theorem dX9_nearOf_41 : decode cX9_nearOf 41 = .ok (.iload_n 2, 1) := by decide +kernel
theorem dX9_nearOf_42 : decode cX9_nearOf 42 = .ok (.iload_n 3, 1) := by decide +kernel
theorem dX9_nearOf_43 : decode cX9_nearOf 43 = .ok (.iconst 0, 1) := by decide +kernel
theorem dX9_nearOf_44 : decode cX9_nearOf 44 = .ok (.invokevirtual 244, 3) := by decide +kernel
theorem dX9_nearOf_47 : decode cX9_nearOf 47 = .ok (.iload 5, 2) := by decide +kernel
theorem dX9_nearOf_49 : decode cX9_nearOf 49 = .ok (.bipush 100, 2) := by decide +kernel
theorem dX9_nearOf_51 : decode cX9_nearOf 51 = .ok (.idiv, 1) := by decide +kernel
theorem dX9_nearOf_52 : decode cX9_nearOf 52 = .ok (.isub, 1) := by decide +kernel
theorem dX9_nearOf_53 : decode cX9_nearOf 53 = .ok (.invokestatic 248, 3) := by decide +kernel
theorem dX9_nearOf_56 : decode cX9_nearOf 56 = .ok (.istore 6, 2) := by decide +kernel
theorem dX9_nearOf_58 : decode cX9_nearOf 58 = .ok (.aload_n 0, 1) := by decide +kernel
theorem dX9_nearOf_59 : decode cX9_nearOf 59 = .ok (.iload 4, 2) := by decide +kernel
theorem dX9_nearOf_61 : decode cX9_nearOf 61 = .ok (.iload_n 2, 1) := by decide +kernel
theorem dX9_nearOf_62 : decode cX9_nearOf 62 = .ok (.iload_n 3, 1) := by decide +kernel
theorem dX9_nearOf_63 : decode cX9_nearOf 63 = .ok (.iconst 1, 1) := by decide +kernel
theorem dX9_nearOf_64 : decode cX9_nearOf 64 = .ok (.invokevirtual 244, 3) := by decide +kernel
theorem dX9_nearOf_67 : decode cX9_nearOf 67 = .ok (.iload 5, 2) := by decide +kernel
theorem dX9_nearOf_69 : decode cX9_nearOf 69 = .ok (.bipush 100, 2) := by decide +kernel
theorem dX9_nearOf_71 : decode cX9_nearOf 71 = .ok (.irem, 1) := by decide +kernel
theorem dX9_nearOf_72 : decode cX9_nearOf 72 = .ok (.isub, 1) := by decide +kernel
theorem dX9_nearOf_73 : decode cX9_nearOf 73 = .ok (.invokestatic 248, 3) := by decide +kernel
theorem dX9_nearOf_76 : decode cX9_nearOf 76 = .ok (.istore 7, 2) := by decide +kernel
theorem dX9_nearOf_78 : decode cX9_nearOf 78 = .ok (.iconst 0, 1) := by decide +kernel
theorem dX9_nearOf_79 : decode cX9_nearOf 79 = .ok (.iload 6, 2) := by decide +kernel
theorem dX9_nearOf_81 : decode cX9_nearOf 81 = .ok (.aload_n 0, 1) := by decide +kernel
theorem dX9_nearOf_82 : decode cX9_nearOf 82 = .ok (.getfield 314, 3) := by decide +kernel
theorem dX9_nearOf_85 : decode cX9_nearOf 85 = .ok (.isub, 1) := by decide +kernel
theorem dX9_nearOf_86 : decode cX9_nearOf 86 = .ok (.invokestatic 251, 3) := by decide +kernel
theorem dX9_nearOf_89 : decode cX9_nearOf 89 = .ok (.iload 7, 2) := by decide +kernel
theorem dX9_nearOf_91 : decode cX9_nearOf 91 = .ok (.invokestatic 251, 3) := by decide +kernel
theorem dX9_nearOf_94 : decode cX9_nearOf 94 = .ok (.ireturn, 1) := by decide +kernel
theorem dX9_fullOf_0 : decode cX9_fullOf 0 = .ok (.aload_n 0, 1) := by decide +kernel
theorem dX9_fullOf_1 : decode cX9_fullOf 1 = .ok (.getfield 61, 3) := by decide +kernel
theorem dX9_fullOf_4 : decode cX9_fullOf 4 = .ok (.iload_n 1, 1) := by decide +kernel
theorem dX9_fullOf_5 : decode cX9_fullOf 5 = .ok (.aaload, 1) := by decide +kernel
theorem dX9_fullOf_6 : decode cX9_fullOf 6 = .ok (.iconst 0, 1) := by decide +kernel
theorem dX9_fullOf_7 : decode cX9_fullOf 7 = .ok (.iaload, 1) := by decide +kernel
theorem dX9_fullOf_8 : decode cX9_fullOf 8 = .ok (.istore_n 3, 1) := by decide +kernel
theorem dX9_fullOf_9 : decode cX9_fullOf 9 = .ok (.iconst 0, 1) := by decide +kernel
theorem dX9_fullOf_10 : decode cX9_fullOf 10 = .ok (.istore 4, 2) := by decide +kernel
theorem dX9_fullOf_12 : decode cX9_fullOf 12 = .ok (.iconst 0, 1) := by decide +kernel
theorem dX9_fullOf_13 : decode cX9_fullOf 13 = .ok (.istore 5, 2) := by decide +kernel
theorem dX9_fullOf_15 : decode cX9_fullOf 15 = .ok (.iload 5, 2) := by decide +kernel
theorem dX9_fullOf_17 : decode cX9_fullOf 17 = .ok (.aload_n 0, 1) := by decide +kernel
theorem dX9_fullOf_18 : decode cX9_fullOf 18 = .ok (.getfield 31, 3) := by decide +kernel
theorem dX9_fullOf_21 : decode cX9_fullOf 21 = .ok (.iload_n 3, 1) := by decide +kernel
theorem dX9_fullOf_22 : decode cX9_fullOf 22 = .ok (.iaload, 1) := by decide +kernel
theorem dX9_fullOf_23 : decode cX9_fullOf 23 = .ok (.if_icmp .ge 60, 3) := by decide +kernel
theorem dX9_fullOf_26 : decode cX9_fullOf 26 = .ok (.iload 4, 2) := by decide +kernel
theorem dX9_fullOf_28 : decode cX9_fullOf 28 = .ok (.aload_n 0, 1) := by decide +kernel
theorem dX9_fullOf_29 : decode cX9_fullOf 29 = .ok (.iload_n 3, 1) := by decide +kernel
theorem dX9_fullOf_30 : decode cX9_fullOf 30 = .ok (.iload 5, 2) := by decide +kernel
theorem dX9_fullOf_32 : decode cX9_fullOf 32 = .ok (.iload_n 2, 1) := by decide +kernel
theorem dX9_fullOf_33 : decode cX9_fullOf 33 = .ok (.invokevirtual 241, 3) := by decide +kernel
theorem dX9_fullOf_36 : decode cX9_fullOf 36 = .ok (.ifCond .eq 37, 3) := by decide +kernel
theorem dX9_fullOf_39 : decode cX9_fullOf 39 = .ok (.aload_n 0, 1) := by decide +kernel
theorem dX9_fullOf_40 : decode cX9_fullOf 40 = .ok (.getfield 37, 3) := by decide +kernel
theorem dX9_fullOf_43 : decode cX9_fullOf 43 = .ok (.aload_n 0, 1) := by decide +kernel
theorem dX9_fullOf_44 : decode cX9_fullOf 44 = .ok (.getfield 61, 3) := by decide +kernel
theorem dX9_fullOf_47 : decode cX9_fullOf 47 = .ok (.iload_n 1, 1) := by decide +kernel
theorem dX9_fullOf_48 : decode cX9_fullOf 48 = .ok (.aaload, 1) := by decide +kernel
theorem dX9_fullOf_49 : decode cX9_fullOf 49 = .ok (.iconst 1, 1) := by decide +kernel
theorem dX9_fullOf_50 : decode cX9_fullOf 50 = .ok (.iaload, 1) := by decide +kernel
theorem dX9_fullOf_51 : decode cX9_fullOf 51 = .ok (.aaload, 1) := by decide +kernel
theorem dX9_fullOf_52 : decode cX9_fullOf 52 = .ok (.iconst 0, 1) := by decide +kernel
theorem dX9_fullOf_53 : decode cX9_fullOf 53 = .ok (.iaload, 1) := by decide +kernel
theorem dX9_fullOf_54 : decode cX9_fullOf 54 = .ok (.aload_n 0, 1) := by decide +kernel
theorem dX9_fullOf_55 : decode cX9_fullOf 55 = .ok (.iload_n 3, 1) := by decide +kernel
theorem dX9_fullOf_56 : decode cX9_fullOf 56 = .ok (.iload 5, 2) := by decide +kernel
theorem dX9_fullOf_58 : decode cX9_fullOf 58 = .ok (.iload_n 2, 1) := by decide +kernel
theorem dX9_fullOf_59 : decode cX9_fullOf 59 = .ok (.invokevirtual 269, 3) := by decide +kernel
theorem dX9_fullOf_62 : decode cX9_fullOf 62 = .ok (.ishr, 1) := by decide +kernel
theorem dX9_fullOf_63 : decode cX9_fullOf 63 = .ok (.iconst 1, 1) := by decide +kernel
theorem dX9_fullOf_64 : decode cX9_fullOf 64 = .ok (.iand, 1) := by decide +kernel
theorem dX9_fullOf_65 : decode cX9_fullOf 65 = .ok (.iconst 1, 1) := by decide +kernel
theorem dX9_fullOf_66 : decode cX9_fullOf 66 = .ok (.if_icmp .ne 7, 3) := by decide +kernel
theorem dX9_fullOf_69 : decode cX9_fullOf 69 = .ok (.iconst 1, 1) := by decide +kernel
theorem dX9_fullOf_70 : decode cX9_fullOf 70 = .ok (.goto 4, 3) := by decide +kernel
theorem dX9_fullOf_73 : decode cX9_fullOf 73 = .ok (.iconst 0, 1) := by decide +kernel
theorem dX9_fullOf_74 : decode cX9_fullOf 74 = .ok (.iadd, 1) := by decide +kernel
theorem dX9_fullOf_75 : decode cX9_fullOf 75 = .ok (.istore 4, 2) := by decide +kernel
theorem dX9_fullOf_77 : decode cX9_fullOf 77 = .ok (.iinc 5 1, 3) := by decide +kernel
theorem dX9_fullOf_80 : decode cX9_fullOf 80 = .ok (.goto (-65), 3) := by decide +kernel
theorem dX9_fullOf_83 : decode cX9_fullOf 83 = .ok (.iconst 0, 1) := by decide +kernel
theorem dX9_fullOf_84 : decode cX9_fullOf 84 = .ok (.iload 4, 2) := by decide +kernel
theorem dX9_fullOf_86 : decode cX9_fullOf 86 = .ok (.aload_n 0, 1) := by decide +kernel
theorem dX9_fullOf_87 : decode cX9_fullOf 87 = .ok (.getfield 37, 3) := by decide +kernel
theorem dX9_fullOf_90 : decode cX9_fullOf 90 = .ok (.aload_n 0, 1) := by decide +kernel
theorem dX9_fullOf_91 : decode cX9_fullOf 91 = .ok (.getfield 61, 3) := by decide +kernel
theorem dX9_fullOf_94 : decode cX9_fullOf 94 = .ok (.iload_n 1, 1) := by decide +kernel
theorem dX9_fullOf_95 : decode cX9_fullOf 95 = .ok (.aaload, 1) := by decide +kernel
theorem dX9_fullOf_96 : decode cX9_fullOf 96 = .ok (.iconst 1, 1) := by decide +kernel
theorem dX9_fullOf_97 : decode cX9_fullOf 97 = .ok (.iaload, 1) := by decide +kernel
theorem dX9_fullOf_98 : decode cX9_fullOf 98 = .ok (.aaload, 1) := by decide +kernel
theorem dX9_fullOf_99 : decode cX9_fullOf 99 = .ok (.iconst 3, 1) := by decide +kernel
theorem dX9_fullOf_100 : decode cX9_fullOf 100 = .ok (.iaload, 1) := by decide +kernel
theorem dX9_fullOf_101 : decode cX9_fullOf 101 = .ok (.isub, 1) := by decide +kernel
theorem dX9_fullOf_102 : decode cX9_fullOf 102 = .ok (.invokestatic 251, 3) := by decide +kernel
theorem dX9_fullOf_105 : decode cX9_fullOf 105 = .ok (.ireturn, 1) := by decide +kernel
theorem dX9_tellsNames_0 : decode cX9_tellsNames 0 = .ok (.aload_n 0, 1) := by decide +kernel
theorem dX9_tellsNames_1 : decode cX9_tellsNames 1 = .ok (.getfield 61, 3) := by decide +kernel
theorem dX9_tellsNames_4 : decode cX9_tellsNames 4 = .ok (.iload_n 1, 1) := by decide +kernel
theorem dX9_tellsNames_5 : decode cX9_tellsNames 5 = .ok (.aaload, 1) := by decide +kernel
theorem dX9_tellsNames_6 : decode cX9_tellsNames 6 = .ok (.iconst 0, 1) := by decide +kernel
theorem dX9_tellsNames_7 : decode cX9_tellsNames 7 = .ok (.iaload, 1) := by decide +kernel
theorem dX9_tellsNames_8 : decode cX9_tellsNames 8 = .ok (.istore 4, 2) := by decide +kernel
theorem dX9_tellsNames_10 : decode cX9_tellsNames 10 = .ok (.aload_n 0, 1) := by decide +kernel
theorem dX9_tellsNames_11 : decode cX9_tellsNames 11 = .ok (.getfield 37, 3) := by decide +kernel
theorem dX9_tellsNames_14 : decode cX9_tellsNames 14 = .ok (.aload_n 0, 1) := by decide +kernel
theorem dX9_tellsNames_15 : decode cX9_tellsNames 15 = .ok (.getfield 61, 3) := by decide +kernel
theorem dX9_tellsNames_18 : decode cX9_tellsNames 18 = .ok (.iload_n 1, 1) := by decide +kernel
theorem dX9_tellsNames_19 : decode cX9_tellsNames 19 = .ok (.aaload, 1) := by decide +kernel
theorem dX9_tellsNames_20 : decode cX9_tellsNames 20 = .ok (.iconst 1, 1) := by decide +kernel
theorem dX9_tellsNames_21 : decode cX9_tellsNames 21 = .ok (.iaload, 1) := by decide +kernel
theorem dX9_tellsNames_22 : decode cX9_tellsNames 22 = .ok (.aaload, 1) := by decide +kernel
theorem dX9_tellsNames_23 : decode cX9_tellsNames 23 = .ok (.astore 5, 2) := by decide +kernel
theorem dX9_tellsNames_25 : decode cX9_tellsNames 25 = .ok (.aload_n 0, 1) := by decide +kernel
theorem dX9_tellsNames_26 : decode cX9_tellsNames 26 = .ok (.iload 4, 2) := by decide +kernel
theorem dX9_tellsNames_28 : decode cX9_tellsNames 28 = .ok (.iload_n 2, 1) := by decide +kernel
theorem dX9_tellsNames_29 : decode cX9_tellsNames 29 = .ok (.iload_n 3, 1) := by decide +kernel
theorem dX9_tellsNames_30 : decode cX9_tellsNames 30 = .ok (.invokevirtual 269, 3) := by decide +kernel
theorem dX9_tellsNames_33 : decode cX9_tellsNames 33 = .ok (.istore 6, 2) := by decide +kernel
theorem dX9_tellsNames_35 : decode cX9_tellsNames 35 = .ok (.aload_n 0, 1) := by decide +kernel
theorem dX9_tellsNames_36 : decode cX9_tellsNames 36 = .ok (.getfield 55, 3) := by decide +kernel
theorem dX9_tellsNames_39 : decode cX9_tellsNames 39 = .ok (.iconst 0, 1) := by decide +kernel
theorem dX9_tellsNames_40 : decode cX9_tellsNames 40 = .ok (.aload 5, 2) := by decide +kernel
theorem dX9_tellsNames_42 : decode cX9_tellsNames 42 = .ok (.iconst 0, 1) := by decide +kernel
theorem dX9_tellsNames_43 : decode cX9_tellsNames 43 = .ok (.iaload, 1) := by decide +kernel
theorem dX9_tellsNames_44 : decode cX9_tellsNames 44 = .ok (.iload 6, 2) := by decide +kernel
theorem dX9_tellsNames_46 : decode cX9_tellsNames 46 = .ok (.ishr, 1) := by decide +kernel
theorem dX9_tellsNames_47 : decode cX9_tellsNames 47 = .ok (.iconst 1, 1) := by decide +kernel
theorem dX9_tellsNames_48 : decode cX9_tellsNames 48 = .ok (.iand, 1) := by decide +kernel
theorem dX9_tellsNames_49 : decode cX9_tellsNames 49 = .ok (.iastore, 1) := by decide +kernel
theorem dX9_tellsNames_50 : decode cX9_tellsNames 50 = .ok (.aload_n 0, 1) := by decide +kernel
theorem dX9_tellsNames_51 : decode cX9_tellsNames 51 = .ok (.getfield 55, 3) := by decide +kernel
theorem dX9_tellsNames_54 : decode cX9_tellsNames 54 = .ok (.iconst 1, 1) := by decide +kernel
theorem dX9_tellsNames_55 : decode cX9_tellsNames 55 = .ok (.aload 5, 2) := by decide +kernel
theorem dX9_tellsNames_57 : decode cX9_tellsNames 57 = .ok (.iconst 1, 1) := by decide +kernel
theorem dX9_tellsNames_58 : decode cX9_tellsNames 58 = .ok (.iaload, 1) := by decide +kernel
theorem dX9_tellsNames_59 : decode cX9_tellsNames 59 = .ok (.iload 6, 2) := by decide +kernel
theorem dX9_tellsNames_61 : decode cX9_tellsNames 61 = .ok (.ishr, 1) := by decide +kernel
theorem dX9_tellsNames_62 : decode cX9_tellsNames 62 = .ok (.iconst 1, 1) := by decide +kernel
theorem dX9_tellsNames_63 : decode cX9_tellsNames 63 = .ok (.iand, 1) := by decide +kernel
theorem dX9_tellsNames_64 : decode cX9_tellsNames 64 = .ok (.iastore, 1) := by decide +kernel
theorem dX9_tellsNames_65 : decode cX9_tellsNames 65 = .ok (.aload_n 0, 1) := by decide +kernel
theorem dX9_tellsNames_66 : decode cX9_tellsNames 66 = .ok (.getfield 55, 3) := by decide +kernel
theorem dX9_tellsNames_69 : decode cX9_tellsNames 69 = .ok (.iconst 2, 1) := by decide +kernel
theorem dX9_tellsNames_70 : decode cX9_tellsNames 70 = .ok (.aload_n 0, 1) := by decide +kernel
theorem dX9_tellsNames_71 : decode cX9_tellsNames 71 = .ok (.iload_n 1, 1) := by decide +kernel
theorem dX9_tellsNames_72 : decode cX9_tellsNames 72 = .ok (.iload_n 2, 1) := by decide +kernel
theorem dX9_tellsNames_73 : decode cX9_tellsNames 73 = .ok (.iload_n 3, 1) := by decide +kernel
theorem dX9_tellsNames_74 : decode cX9_tellsNames 74 = .ok (.invokevirtual 317, 3) := by decide +kernel
theorem dX9_tellsNames_77 : decode cX9_tellsNames 77 = .ok (.iastore, 1) := by decide +kernel
theorem dX9_tellsNames_78 : decode cX9_tellsNames 78 = .ok (.aload_n 0, 1) := by decide +kernel
theorem dX9_tellsNames_79 : decode cX9_tellsNames 79 = .ok (.getfield 55, 3) := by decide +kernel
theorem dX9_tellsNames_82 : decode cX9_tellsNames 82 = .ok (.iconst 3, 1) := by decide +kernel
theorem dX9_tellsNames_83 : decode cX9_tellsNames 83 = .ok (.aload_n 0, 1) := by decide +kernel
theorem dX9_tellsNames_84 : decode cX9_tellsNames 84 = .ok (.getfield 320, 3) := by decide +kernel
theorem dX9_tellsNames_87 : decode cX9_tellsNames 87 = .ok (.ifCond .le 10, 3) := by decide +kernel
theorem dX9_tellsNames_90 : decode cX9_tellsNames 90 = .ok (.aload_n 0, 1) := by decide +kernel
theorem dX9_tellsNames_91 : decode cX9_tellsNames 91 = .ok (.getfield 320, 3) := by decide +kernel
theorem dX9_tellsNames_94 : decode cX9_tellsNames 94 = .ok (.goto 17, 3) := by decide +kernel
theorem dX9_tellsNames_97 : decode cX9_tellsNames 97 = .ok (.aload_n 0, 1) := by decide +kernel
theorem dX9_tellsNames_98 : decode cX9_tellsNames 98 = .ok (.getfield 34, 3) := by decide +kernel
theorem dX9_tellsNames_101 : decode cX9_tellsNames 101 = .ok (.bipush 8, 2) := by decide +kernel
theorem dX9_tellsNames_103 : decode cX9_tellsNames 103 = .ok (.iload 4, 2) := by decide +kernel
theorem dX9_tellsNames_105 : decode cX9_tellsNames 105 = .ok (.imul, 1) := by decide +kernel
theorem dX9_tellsNames_106 : decode cX9_tellsNames 106 = .ok (.iload_n 2, 1) := by decide +kernel
theorem dX9_tellsNames_107 : decode cX9_tellsNames 107 = .ok (.iadd, 1) := by decide +kernel
theorem dX9_tellsNames_108 : decode cX9_tellsNames 108 = .ok (.aaload, 1) := by decide +kernel
theorem dX9_tellsNames_109 : decode cX9_tellsNames 109 = .ok (.iconst 1, 1) := by decide +kernel
theorem dX9_tellsNames_110 : decode cX9_tellsNames 110 = .ok (.iaload, 1) := by decide +kernel
theorem dX9_tellsNames_111 : decode cX9_tellsNames 111 = .ok (.iastore, 1) := by decide +kernel
theorem dX9_tellsNames_112 : decode cX9_tellsNames 112 = .ok (.aload_n 0, 1) := by decide +kernel
theorem dX9_tellsNames_113 : decode cX9_tellsNames 113 = .ok (.getfield 55, 3) := by decide +kernel
theorem dX9_tellsNames_116 : decode cX9_tellsNames 116 = .ok (.iconst 4, 1) := by decide +kernel
theorem dX9_tellsNames_117 : decode cX9_tellsNames 117 = .ok (.aload_n 0, 1) := by decide +kernel
theorem dX9_tellsNames_118 : decode cX9_tellsNames 118 = .ok (.iload 4, 2) := by decide +kernel
theorem dX9_tellsNames_120 : decode cX9_tellsNames 120 = .ok (.iload_n 2, 1) := by decide +kernel
theorem dX9_tellsNames_121 : decode cX9_tellsNames 121 = .ok (.iload_n 3, 1) := by decide +kernel
theorem dX9_tellsNames_122 : decode cX9_tellsNames 122 = .ok (.invokevirtual 272, 3) := by decide +kernel
theorem dX9_tellsNames_125 : decode cX9_tellsNames 125 = .ok (.aload_n 0, 1) := by decide +kernel
theorem dX9_tellsNames_126 : decode cX9_tellsNames 126 = .ok (.getfield 73, 3) := by decide +kernel
theorem dX9_tellsNames_129 : decode cX9_tellsNames 129 = .ok (.idiv, 1) := by decide +kernel
theorem dX9_tellsNames_130 : decode cX9_tellsNames 130 = .ok (.iastore, 1) := by decide +kernel
theorem dX9_tellsNames_131 : decode cX9_tellsNames 131 = .ok (.aload_n 0, 1) := by decide +kernel
theorem dX9_tellsNames_132 : decode cX9_tellsNames 132 = .ok (.getfield 55, 3) := by decide +kernel
theorem dX9_tellsNames_135 : decode cX9_tellsNames 135 = .ok (.iconst 5, 1) := by decide +kernel
theorem dX9_tellsNames_136 : decode cX9_tellsNames 136 = .ok (.aload_n 0, 1) := by decide +kernel
theorem dX9_tellsNames_137 : decode cX9_tellsNames 137 = .ok (.iload_n 1, 1) := by decide +kernel
theorem dX9_tellsNames_138 : decode cX9_tellsNames 138 = .ok (.iload_n 3, 1) := by decide +kernel
theorem dX9_tellsNames_139 : decode cX9_tellsNames 139 = .ok (.invokevirtual 323, 3) := by decide +kernel
theorem dX9_tellsNames_142 : decode cX9_tellsNames 142 = .ok (.iastore, 1) := by decide +kernel
theorem dX9_tellsNames_143 : decode cX9_tellsNames 143 = .ok (.aload_n 0, 1) := by decide +kernel
theorem dX9_tellsNames_144 : decode cX9_tellsNames 144 = .ok (.getfield 55, 3) := by decide +kernel
theorem dX9_tellsNames_147 : decode cX9_tellsNames 147 = .ok (.bipush 6, 2) := by decide +kernel
theorem dX9_tellsNames_149 : decode cX9_tellsNames 149 = .ok (.aload_n 0, 1) := by decide +kernel
theorem dX9_tellsNames_150 : decode cX9_tellsNames 150 = .ok (.iload 4, 2) := by decide +kernel
theorem dX9_tellsNames_152 : decode cX9_tellsNames 152 = .ok (.invokevirtual 263, 3) := by decide +kernel
theorem dX9_tellsNames_155 : decode cX9_tellsNames 155 = .ok (.iload_n 2, 1) := by decide +kernel
theorem dX9_tellsNames_156 : decode cX9_tellsNames 156 = .ok (.if_icmp .ne 7, 3) := by decide +kernel
theorem dX9_tellsNames_159 : decode cX9_tellsNames 159 = .ok (.iconst 1, 1) := by decide +kernel
theorem dX9_tellsNames_160 : decode cX9_tellsNames 160 = .ok (.goto 4, 3) := by decide +kernel
theorem dX9_tellsNames_163 : decode cX9_tellsNames 163 = .ok (.iconst 0, 1) := by decide +kernel
theorem dX9_tellsNames_164 : decode cX9_tellsNames 164 = .ok (.iastore, 1) := by decide +kernel
theorem dX9_tellsNames_165 : decode cX9_tellsNames 165 = .ok (.aload_n 0, 1) := by decide +kernel
theorem dX9_tellsNames_166 : decode cX9_tellsNames 166 = .ok (.getfield 55, 3) := by decide +kernel
theorem dX9_tellsNames_169 : decode cX9_tellsNames 169 = .ok (.bipush 7, 2) := by decide +kernel
theorem dX9_tellsNames_171 : decode cX9_tellsNames 171 = .ok (.aload 5, 2) := by decide +kernel
theorem dX9_tellsNames_173 : decode cX9_tellsNames 173 = .ok (.iconst 4, 1) := by decide +kernel
theorem dX9_tellsNames_174 : decode cX9_tellsNames 174 = .ok (.iaload, 1) := by decide +kernel
theorem dX9_tellsNames_175 : decode cX9_tellsNames 175 = .ok (.iastore, 1) := by decide +kernel
theorem dX9_tellsNames_176 : decode cX9_tellsNames 176 = .ok (.aload_n 0, 1) := by decide +kernel
theorem dX9_tellsNames_177 : decode cX9_tellsNames 177 = .ok (.getfield 55, 3) := by decide +kernel
theorem dX9_tellsNames_180 : decode cX9_tellsNames 180 = .ok (.bipush 8, 2) := by decide +kernel
theorem dX9_tellsNames_182 : decode cX9_tellsNames 182 = .ok (.aload_n 0, 1) := by decide +kernel
theorem dX9_tellsNames_183 : decode cX9_tellsNames 183 = .ok (.iload 4, 2) := by decide +kernel
theorem dX9_tellsNames_185 : decode cX9_tellsNames 185 = .ok (.iload_n 2, 1) := by decide +kernel
theorem dX9_tellsNames_186 : decode cX9_tellsNames 186 = .ok (.iload_n 3, 1) := by decide +kernel
theorem dX9_tellsNames_187 : decode cX9_tellsNames 187 = .ok (.invokevirtual 275, 3) := by decide +kernel
theorem dX9_tellsNames_190 : decode cX9_tellsNames 190 = .ok (.ifCond .eq 7, 3) := by decide +kernel
theorem dX9_tellsNames_193 : decode cX9_tellsNames 193 = .ok (.iconst 1, 1) := by decide +kernel
theorem dX9_tellsNames_194 : decode cX9_tellsNames 194 = .ok (.goto 4, 3) := by decide +kernel
theorem dX9_tellsNames_197 : decode cX9_tellsNames 197 = .ok (.iconst 0, 1) := by decide +kernel
theorem dX9_tellsNames_198 : decode cX9_tellsNames 198 = .ok (.iastore, 1) := by decide +kernel
theorem dX9_tellsNames_199 : decode cX9_tellsNames 199 = .ok (.aload_n 0, 1) := by decide +kernel
theorem dX9_tellsNames_200 : decode cX9_tellsNames 200 = .ok (.getfield 55, 3) := by decide +kernel
theorem dX9_tellsNames_203 : decode cX9_tellsNames 203 = .ok (.bipush 9, 2) := by decide +kernel
theorem dX9_tellsNames_205 : decode cX9_tellsNames 205 = .ok (.aload_n 0, 1) := by decide +kernel
theorem dX9_tellsNames_206 : decode cX9_tellsNames 206 = .ok (.getfield 61, 3) := by decide +kernel
theorem dX9_tellsNames_209 : decode cX9_tellsNames 209 = .ok (.iload_n 1, 1) := by decide +kernel
theorem dX9_tellsNames_210 : decode cX9_tellsNames 210 = .ok (.aaload, 1) := by decide +kernel
theorem dX9_tellsNames_211 : decode cX9_tellsNames 211 = .ok (.iconst 2, 1) := by decide +kernel
theorem dX9_tellsNames_212 : decode cX9_tellsNames 212 = .ok (.iaload, 1) := by decide +kernel
theorem dX9_tellsNames_213 : decode cX9_tellsNames 213 = .ok (.iastore, 1) := by decide +kernel
theorem dX9_tellsNames_214 : decode cX9_tellsNames 214 = .ok (.aload_n 0, 1) := by decide +kernel
theorem dX9_tellsNames_215 : decode cX9_tellsNames 215 = .ok (.getfield 55, 3) := by decide +kernel
theorem dX9_tellsNames_218 : decode cX9_tellsNames 218 = .ok (.bipush 10, 2) := by decide +kernel
theorem dX9_tellsNames_220 : decode cX9_tellsNames 220 = .ok (.iload_n 3, 1) := by decide +kernel
theorem dX9_tellsNames_221 : decode cX9_tellsNames 221 = .ok (.iastore, 1) := by decide +kernel
theorem dX9_tellsNames_222 : decode cX9_tellsNames 222 = .ok (.return_, 1) := by decide +kernel
theorem dX9_isThing_0 : decode cX9_isThing 0 = .ok (.iload_n 2, 1) := by decide +kernel
theorem dX9_isThing_1 : decode cX9_isThing 1 = .ok (.iconst 0, 1) := by decide +kernel
theorem dX9_isThing_2 : decode cX9_isThing 2 = .ok (.aload_n 0, 1) := by decide +kernel
theorem dX9_isThing_3 : decode cX9_isThing 3 = .ok (.getfield 31, 3) := by decide +kernel
theorem dX9_isThing_6 : decode cX9_isThing 6 = .ok (.aload_n 0, 1) := by decide +kernel
theorem dX9_isThing_7 : decode cX9_isThing 7 = .ok (.getfield 61, 3) := by decide +kernel
theorem dX9_isThing_10 : decode cX9_isThing 10 = .ok (.iload_n 1, 1) := by decide +kernel
theorem dX9_isThing_11 : decode cX9_isThing 11 = .ok (.aaload, 1) := by decide +kernel
theorem dX9_isThing_12 : decode cX9_isThing 12 = .ok (.iconst 0, 1) := by decide +kernel
theorem dX9_isThing_13 : decode cX9_isThing 13 = .ok (.iaload, 1) := by decide +kernel
theorem dX9_isThing_14 : decode cX9_isThing 14 = .ok (.iaload, 1) := by decide +kernel
theorem dX9_isThing_15 : decode cX9_isThing 15 = .ok (.iconst 1, 1) := by decide +kernel
theorem dX9_isThing_16 : decode cX9_isThing 16 = .ok (.isub, 1) := by decide +kernel
theorem dX9_isThing_17 : decode cX9_isThing 17 = .ok (.invokestatic 113, 3) := by decide +kernel
theorem dX9_isThing_20 : decode cX9_isThing 20 = .ok (.ireturn, 1) := by decide +kernel
theorem dX9_name_0 : decode cX9_name 0 = .ok (.aload_n 0, 1) := by decide +kernel
theorem dX9_name_1 : decode cX9_name 1 = .ok (.iconst 0, 1) := by decide +kernel
theorem dX9_name_2 : decode cX9_name 2 = .ok (.putfield 76, 3) := by decide +kernel
theorem dX9_name_5 : decode cX9_name 5 = .ok (.aload_n 0, 1) := by decide +kernel
theorem dX9_name_6 : decode cX9_name 6 = .ok (.aload_n 0, 1) := by decide +kernel
theorem dX9_name_7 : decode cX9_name 7 = .ok (.iload_n 1, 1) := by decide +kernel
theorem dX9_name_8 : decode cX9_name 8 = .ok (.invokevirtual 295, 3) := by decide +kernel
theorem dX9_name_11 : decode cX9_name 11 = .ok (.ifCond .ne 7, 3) := by decide +kernel
theorem dX9_name_14 : decode cX9_name 14 = .ok (.iconst 1, 1) := by decide +kernel
theorem dX9_name_15 : decode cX9_name 15 = .ok (.goto 4, 3) := by decide +kernel
theorem dX9_name_18 : decode cX9_name 18 = .ok (.iconst 0, 1) := by decide +kernel
theorem dX9_name_19 : decode cX9_name 19 = .ok (.iconst 1, 1) := by decide +kernel
theorem dX9_name_20 : decode cX9_name 20 = .ok (.invokevirtual 162, 3) := by decide +kernel
theorem dX9_name_23 : decode cX9_name 23 = .ok (.ifCond .ne 47, 3) := by decide +kernel
theorem dX9_name_26 : decode cX9_name 26 = .ok (.aload_n 0, 1) := by decide +kernel
theorem dX9_name_27 : decode cX9_name 27 = .ok (.aload_n 0, 1) := by decide +kernel
theorem dX9_name_28 : decode cX9_name 28 = .ok (.iload_n 1, 1) := by decide +kernel
theorem dX9_name_29 : decode cX9_name 29 = .ok (.iload_n 2, 1) := by decide +kernel
theorem dX9_name_30 : decode cX9_name 30 = .ok (.invokevirtual 326, 3) := by decide +kernel
theorem dX9_name_33 : decode cX9_name 33 = .ok (.ifCond .eq 25, 3) := by decide +kernel
theorem dX9_name_36 : decode cX9_name 36 = .ok (.iload_n 3, 1) := by decide +kernel
theorem dX9_name_37 : decode cX9_name 37 = .ok (.iconst 0, 1) := by decide +kernel
theorem dX9_name_38 : decode cX9_name 38 = .ok (.sipush 299, 3) := by decide +kernel
theorem dX9_name_41 : decode cX9_name 41 = .ok (.invokestatic 113, 3) := by decide +kernel
theorem dX9_name_44 : decode cX9_name 44 = .ok (.ifCond .eq 14, 3) := by decide +kernel
theorem dX9_name_47 : decode cX9_name 47 = .ok (.iload 4, 2) := by decide +kernel
theorem dX9_name_49 : decode cX9_name 49 = .ok (.iconst 0, 1) := by decide +kernel
theorem dX9_name_50 : decode cX9_name 50 = .ok (.bipush 10, 2) := by decide +kernel
theorem dX9_name_52 : decode cX9_name 52 = .ok (.invokestatic 113, 3) := by decide +kernel
theorem dX9_name_55 : decode cX9_name 55 = .ok (.ifCond .ne 7, 3) := by decide +kernel
theorem dX9_name_58 : decode cX9_name 58 = .ok (.iconst 1, 1) := by decide +kernel
theorem dX9_name_59 : decode cX9_name 59 = .ok (.goto 4, 3) := by decide +kernel
theorem dX9_name_62 : decode cX9_name 62 = .ok (.iconst 0, 1) := by decide +kernel
theorem dX9_name_63 : decode cX9_name 63 = .ok (.iconst 1, 1) := by decide +kernel
theorem dX9_name_64 : decode cX9_name 64 = .ok (.invokevirtual 162, 3) := by decide +kernel
theorem dX9_name_67 : decode cX9_name 67 = .ok (.ifCond .eq 5, 3) := by decide +kernel
theorem dX9_name_70 : decode cX9_name 70 = .ok (.iconst 0, 1) := by decide +kernel
theorem dX9_name_71 : decode cX9_name 71 = .ok (.ireturn, 1) := by decide +kernel
theorem dX9_name_72 : decode cX9_name 72 = .ok (.aload_n 0, 1) := by decide +kernel
theorem dX9_name_73 : decode cX9_name 73 = .ok (.iload_n 1, 1) := by decide +kernel
theorem dX9_name_74 : decode cX9_name 74 = .ok (.iload_n 2, 1) := by decide +kernel
theorem dX9_name_75 : decode cX9_name 75 = .ok (.iload_n 3, 1) := by decide +kernel
theorem dX9_name_76 : decode cX9_name 76 = .ok (.invokevirtual 329, 3) := by decide +kernel
theorem dX9_name_79 : decode cX9_name 79 = .ok (.aload_n 0, 1) := by decide +kernel
theorem dX9_name_80 : decode cX9_name 80 = .ok (.getfield 55, 3) := by decide +kernel
theorem dX9_name_83 : decode cX9_name 83 = .ok (.iload 4, 2) := by decide +kernel
theorem dX9_name_85 : decode cX9_name 85 = .ok (.iaload, 1) := by decide +kernel
theorem dX9_name_86 : decode cX9_name 86 = .ok (.ireturn, 1) := by decide +kernel
theorem dX9_on_0 : decode cX9_on 0 = .ok (.aload_n 0, 1) := by decide +kernel
theorem dX9_on_1 : decode cX9_on 1 = .ok (.iconst 0, 1) := by decide +kernel
theorem dX9_on_2 : decode cX9_on 2 = .ok (.putfield 76, 3) := by decide +kernel
theorem dX9_on_5 : decode cX9_on 5 = .ok (.aload_n 0, 1) := by decide +kernel
theorem dX9_on_6 : decode cX9_on 6 = .ok (.aload_n 0, 1) := by decide +kernel
theorem dX9_on_7 : decode cX9_on 7 = .ok (.iload_n 1, 1) := by decide +kernel
theorem dX9_on_8 : decode cX9_on 8 = .ok (.invokevirtual 295, 3) := by decide +kernel
theorem dX9_on_11 : decode cX9_on 11 = .ok (.ifCond .eq 13, 3) := by decide +kernel
theorem dX9_on_14 : decode cX9_on 14 = .ok (.iload_n 2, 1) := by decide +kernel
theorem dX9_on_15 : decode cX9_on 15 = .ok (.iconst 0, 1) := by decide +kernel
theorem dX9_on_16 : decode cX9_on 16 = .ok (.bipush 40, 2) := by decide +kernel
theorem dX9_on_18 : decode cX9_on 18 = .ok (.invokestatic 113, 3) := by decide +kernel
theorem dX9_on_21 : decode cX9_on 21 = .ok (.ifCond .ne 7, 3) := by decide +kernel
theorem dX9_on_24 : decode cX9_on 24 = .ok (.iconst 1, 1) := by decide +kernel
theorem dX9_on_25 : decode cX9_on 25 = .ok (.goto 4, 3) := by decide +kernel
theorem dX9_on_28 : decode cX9_on 28 = .ok (.iconst 0, 1) := by decide +kernel
theorem dX9_on_29 : decode cX9_on 29 = .ok (.iconst 1, 1) := by decide +kernel
theorem dX9_on_30 : decode cX9_on 30 = .ok (.invokevirtual 162, 3) := by decide +kernel
theorem dX9_on_33 : decode cX9_on 33 = .ok (.ifCond .eq 5, 3) := by decide +kernel
theorem dX9_on_36 : decode cX9_on 36 = .ok (.iconst 0, 1) := by decide +kernel
theorem dX9_on_37 : decode cX9_on 37 = .ok (.ireturn, 1) := by decide +kernel
theorem dX9_on_38 : decode cX9_on 38 = .ok (.aload_n 0, 1) := by decide +kernel
theorem dX9_on_39 : decode cX9_on 39 = .ok (.aload_n 0, 1) := by decide +kernel
theorem dX9_on_40 : decode cX9_on 40 = .ok (.getfield 61, 3) := by decide +kernel
theorem dX9_on_43 : decode cX9_on 43 = .ok (.iload_n 1, 1) := by decide +kernel
theorem dX9_on_44 : decode cX9_on 44 = .ok (.aaload, 1) := by decide +kernel
theorem dX9_on_45 : decode cX9_on 45 = .ok (.iconst 0, 1) := by decide +kernel
theorem dX9_on_46 : decode cX9_on 46 = .ok (.iaload, 1) := by decide +kernel
theorem dX9_on_47 : decode cX9_on 47 = .ok (.invokevirtual 263, 3) := by decide +kernel
theorem dX9_on_50 : decode cX9_on 50 = .ok (.istore_n 3, 1) := by decide +kernel
theorem dX9_on_51 : decode cX9_on 51 = .ok (.iconst 0, 1) := by decide +kernel
theorem dX9_on_52 : decode cX9_on 52 = .ok (.istore 4, 2) := by decide +kernel
theorem dX9_on_54 : decode cX9_on 54 = .ok (.iconst 0, 1) := by decide +kernel
theorem dX9_on_55 : decode cX9_on 55 = .ok (.istore 5, 2) := by decide +kernel
theorem dX9_on_57 : decode cX9_on 57 = .ok (.iload_n 3, 1) := by decide +kernel
theorem dX9_on_58 : decode cX9_on 58 = .ok (.iconst (-1), 1) := by decide +kernel
theorem dX9_on_59 : decode cX9_on 59 = .ok (.if_icmp .eq 48, 3) := by decide +kernel
theorem dX9_on_62 : decode cX9_on 62 = .ok (.iload 5, 2) := by decide +kernel
theorem dX9_on_64 : decode cX9_on 64 = .ok (.aload_n 0, 1) := by decide +kernel
theorem dX9_on_65 : decode cX9_on 65 = .ok (.aload_n 0, 1) := by decide +kernel
theorem dX9_on_66 : decode cX9_on 66 = .ok (.getfield 61, 3) := by decide +kernel
theorem dX9_on_69 : decode cX9_on 69 = .ok (.iload_n 1, 1) := by decide +kernel
theorem dX9_on_70 : decode cX9_on 70 = .ok (.aaload, 1) := by decide +kernel
theorem dX9_on_71 : decode cX9_on 71 = .ok (.iconst 0, 1) := by decide +kernel
theorem dX9_on_72 : decode cX9_on 72 = .ok (.iaload, 1) := by decide +kernel
theorem dX9_on_73 : decode cX9_on 73 = .ok (.invokevirtual 260, 3) := by decide +kernel
theorem dX9_on_76 : decode cX9_on 76 = .ok (.if_icmp .gt 31, 3) := by decide +kernel
theorem dX9_on_79 : decode cX9_on 79 = .ok (.iload 4, 2) := by decide +kernel
theorem dX9_on_81 : decode cX9_on 81 = .ok (.aload_n 0, 1) := by decide +kernel
theorem dX9_on_82 : decode cX9_on 82 = .ok (.iload_n 1, 1) := by decide +kernel
theorem dX9_on_83 : decode cX9_on 83 = .ok (.iload_n 3, 1) := by decide +kernel
theorem dX9_on_84 : decode cX9_on 84 = .ok (.iload 5, 2) := by decide +kernel
theorem dX9_on_86 : decode cX9_on 86 = .ok (.invokevirtual 317, 3) := by decide +kernel
theorem dX9_on_89 : decode cX9_on 89 = .ok (.iload_n 2, 1) := by decide +kernel
theorem dX9_on_90 : decode cX9_on 90 = .ok (.if_icmp .gt 7, 3) := by decide +kernel
theorem dX9_on_93 : decode cX9_on 93 = .ok (.iconst 1, 1) := by decide +kernel
theorem dX9_on_94 : decode cX9_on 94 = .ok (.goto 4, 3) := by decide +kernel
theorem dX9_on_97 : decode cX9_on 97 = .ok (.iconst 0, 1) := by decide +kernel
theorem dX9_on_98 : decode cX9_on 98 = .ok (.iadd, 1) := by decide +kernel
theorem dX9_on_99 : decode cX9_on 99 = .ok (.istore 4, 2) := by decide +kernel
theorem dX9_on_101 : decode cX9_on 101 = .ok (.iinc 5 1, 3) := by decide +kernel
theorem dX9_on_104 : decode cX9_on 104 = .ok (.goto (-47), 3) := by decide +kernel
theorem dX9_on_107 : decode cX9_on 107 = .ok (.iload 4, 2) := by decide +kernel
theorem dX9_on_109 : decode cX9_on 109 = .ok (.ireturn, 1) := by decide +kernel
theorem dX9_getsIn_0 : decode cX9_getsIn 0 = .ok (.aload_n 0, 1) := by decide +kernel
theorem dX9_getsIn_1 : decode cX9_getsIn 1 = .ok (.iload_n 2, 1) := by decide +kernel
theorem dX9_getsIn_2 : decode cX9_getsIn 2 = .ok (.iload_n 3, 1) := by decide +kernel
theorem dX9_getsIn_3 : decode cX9_getsIn 3 = .ok (.iload 4, 2) := by decide +kernel
theorem dX9_getsIn_5 : decode cX9_getsIn 5 = .ok (.invokevirtual 329, 3) := by decide +kernel
theorem dX9_getsIn_8 : decode cX9_getsIn 8 = .ok (.aload_n 0, 1) := by decide +kernel
theorem dX9_getsIn_9 : decode cX9_getsIn 9 = .ok (.iload_n 2, 1) := by decide +kernel
theorem dX9_getsIn_10 : decode cX9_getsIn 10 = .ok (.iload 4, 2) := by decide +kernel
theorem dX9_getsIn_12 : decode cX9_getsIn 12 = .ok (.invokevirtual 304, 3) := by decide +kernel
theorem dX9_getsIn_15 : decode cX9_getsIn 15 = .ok (.ifCond .ne 21, 3) := by decide +kernel
theorem dX9_getsIn_18 : decode cX9_getsIn 18 = .ok (.aload_n 0, 1) := by decide +kernel
theorem dX9_getsIn_19 : decode cX9_getsIn 19 = .ok (.aload_n 0, 1) := by decide +kernel
theorem dX9_getsIn_20 : decode cX9_getsIn 20 = .ok (.getfield 61, 3) := by decide +kernel
theorem dX9_getsIn_23 : decode cX9_getsIn 23 = .ok (.iload_n 2, 1) := by decide +kernel
theorem dX9_getsIn_24 : decode cX9_getsIn 24 = .ok (.aaload, 1) := by decide +kernel
theorem dX9_getsIn_25 : decode cX9_getsIn 25 = .ok (.iconst 0, 1) := by decide +kernel
theorem dX9_getsIn_26 : decode cX9_getsIn 26 = .ok (.iaload, 1) := by decide +kernel
theorem dX9_getsIn_27 : decode cX9_getsIn 27 = .ok (.iload_n 3, 1) := by decide +kernel
theorem dX9_getsIn_28 : decode cX9_getsIn 28 = .ok (.iload 4, 2) := by decide +kernel
theorem dX9_getsIn_30 : decode cX9_getsIn 30 = .ok (.invokevirtual 241, 3) := by decide +kernel
theorem dX9_getsIn_33 : decode cX9_getsIn 33 = .ok (.ifCond .ne 7, 3) := by decide +kernel
theorem dX9_getsIn_36 : decode cX9_getsIn 36 = .ok (.iconst 0, 1) := by decide +kernel
theorem dX9_getsIn_37 : decode cX9_getsIn 37 = .ok (.goto 8, 3) := by decide +kernel
theorem dX9_getsIn_40 : decode cX9_getsIn 40 = .ok (.aload_n 0, 1) := by decide +kernel
theorem dX9_getsIn_41 : decode cX9_getsIn 41 = .ok (.iload_n 1, 1) := by decide +kernel
theorem dX9_getsIn_42 : decode cX9_getsIn 42 = .ok (.invokevirtual 333, 3) := by decide +kernel
theorem dX9_getsIn_45 : decode cX9_getsIn 45 = .ok (.ireturn, 1) := by decide +kernel
theorem dX9_lineNow_0 : decode cX9_lineNow 0 = .ok (.aload_n 0, 1) := by decide +kernel
theorem dX9_lineNow_1 : decode cX9_lineNow 1 = .ok (.iload_n 1, 1) := by decide +kernel
theorem dX9_lineNow_2 : decode cX9_lineNow 2 = .ok (.iconst 1, 1) := by decide +kernel
theorem dX9_lineNow_3 : decode cX9_lineNow 3 = .ok (.iconst 1, 1) := by decide +kernel
theorem dX9_lineNow_4 : decode cX9_lineNow 4 = .ok (.ldc 112, 2) := by decide +kernel
theorem dX9_lineNow_6 : decode cX9_lineNow 6 = .ok (.bipush 100, 2) := by decide +kernel
theorem dX9_lineNow_8 : decode cX9_lineNow 8 = .ok (.invokevirtual 336, 3) := by decide +kernel
theorem dX9_lineNow_11 : decode cX9_lineNow 11 = .ok (.ireturn, 1) := by decide +kernel
theorem dX9_goes_0 : decode cX9_goes 0 = .ok (.aload_n 0, 1) := by decide +kernel
theorem dX9_goes_1 : decode cX9_goes 1 = .ok (.aload_n 0, 1) := by decide +kernel
theorem dX9_goes_2 : decode cX9_goes 2 = .ok (.getfield 61, 3) := by decide +kernel
theorem dX9_goes_5 : decode cX9_goes 5 = .ok (.iload_n 2, 1) := by decide +kernel
theorem dX9_goes_6 : decode cX9_goes 6 = .ok (.aaload, 1) := by decide +kernel
theorem dX9_goes_7 : decode cX9_goes 7 = .ok (.iconst 0, 1) := by decide +kernel
theorem dX9_goes_8 : decode cX9_goes 8 = .ok (.iaload, 1) := by decide +kernel
theorem dX9_goes_9 : decode cX9_goes 9 = .ok (.invokevirtual 260, 3) := by decide +kernel
theorem dX9_goes_12 : decode cX9_goes 12 = .ok (.istore 7, 2) := by decide +kernel
theorem dX9_goes_14 : decode cX9_goes 14 = .ok (.iload 5, 2) := by decide +kernel
theorem dX9_goes_16 : decode cX9_goes 16 = .ok (.istore 8, 2) := by decide +kernel
theorem dX9_goes_18 : decode cX9_goes 18 = .ok (.aload_n 0, 1) := by decide +kernel
theorem dX9_goes_19 : decode cX9_goes 19 = .ok (.iconst (-1), 1) := by decide +kernel
theorem dX9_goes_20 : decode cX9_goes 20 = .ok (.putfield 340, 3) := by decide +kernel
theorem dX9_goes_23 : decode cX9_goes 23 = .ok (.aload_n 0, 1) := by decide +kernel
theorem dX9_goes_24 : decode cX9_goes 24 = .ok (.iconst 0, 1) := by decide +kernel
theorem dX9_goes_25 : decode cX9_goes 25 = .ok (.putfield 343, 3) := by decide +kernel
theorem dX9_goes_28 : decode cX9_goes 28 = .ok (.iconst 0, 1) := by decide +kernel
theorem dX9_goes_29 : decode cX9_goes 29 = .ok (.istore 9, 2) := by decide +kernel
theorem dX9_goes_31 : decode cX9_goes 31 = .ok (.iload 9, 2) := by decide +kernel
theorem dX9_goes_33 : decode cX9_goes 33 = .ok (.iload 7, 2) := by decide +kernel
theorem dX9_goes_35 : decode cX9_goes 35 = .ok (.if_icmp .gt 139, 3) := by decide +kernel
theorem dX9_goes_38 : decode cX9_goes 38 = .ok (.aload_n 0, 1) := by decide +kernel
theorem dX9_goes_39 : decode cX9_goes 39 = .ok (.iload_n 1, 1) := by decide +kernel
theorem dX9_goes_40 : decode cX9_goes 40 = .ok (.iload_n 2, 1) := by decide +kernel
theorem dX9_goes_41 : decode cX9_goes 41 = .ok (.iload_n 3, 1) := by decide +kernel
theorem dX9_goes_42 : decode cX9_goes 42 = .ok (.iload 9, 2) := by decide +kernel
theorem dX9_goes_44 : decode cX9_goes 44 = .ok (.invokevirtual 346, 3) := by decide +kernel
theorem dX9_goes_47 : decode cX9_goes 47 = .ok (.istore 10, 2) := by decide +kernel
theorem dX9_goes_49 : decode cX9_goes 49 = .ok (.iload 4, 2) := by decide +kernel
theorem dX9_goes_51 : decode cX9_goes 51 = .ok (.ifCond .le 62, 3) := by decide +kernel
theorem dX9_goes_54 : decode cX9_goes 54 = .ok (.aload_n 0, 1) := by decide +kernel
theorem dX9_goes_55 : decode cX9_goes 55 = .ok (.iload_n 2, 1) := by decide +kernel
theorem dX9_goes_56 : decode cX9_goes 56 = .ok (.iload 9, 2) := by decide +kernel
theorem dX9_goes_58 : decode cX9_goes 58 = .ok (.invokevirtual 304, 3) := by decide +kernel
theorem dX9_goes_61 : decode cX9_goes 61 = .ok (.ifCond .ne 52, 3) := by decide +kernel
theorem dX9_goes_64 : decode cX9_goes 64 = .ok (.aload_n 0, 1) := by decide +kernel
theorem dX9_goes_65 : decode cX9_goes 65 = .ok (.aload_n 0, 1) := by decide +kernel
theorem dX9_goes_66 : decode cX9_goes 66 = .ok (.getfield 61, 3) := by decide +kernel
theorem dX9_goes_69 : decode cX9_goes 69 = .ok (.iload_n 2, 1) := by decide +kernel
theorem dX9_goes_70 : decode cX9_goes 70 = .ok (.aaload, 1) := by decide +kernel
theorem dX9_goes_71 : decode cX9_goes 71 = .ok (.iconst 0, 1) := by decide +kernel
theorem dX9_goes_72 : decode cX9_goes 72 = .ok (.iaload, 1) := by decide +kernel
theorem dX9_goes_73 : decode cX9_goes 73 = .ok (.iload_n 3, 1) := by decide +kernel
theorem dX9_goes_74 : decode cX9_goes 74 = .ok (.iload 9, 2) := by decide +kernel
theorem dX9_goes_76 : decode cX9_goes 76 = .ok (.invokevirtual 241, 3) := by decide +kernel
theorem dX9_goes_79 : decode cX9_goes 79 = .ok (.ifCond .eq 34, 3) := by decide +kernel
theorem dX9_goes_82 : decode cX9_goes 82 = .ok (.iload 8, 2) := by decide +kernel
theorem dX9_goes_84 : decode cX9_goes 84 = .ok (.ldc_w 349, 3) := by decide +kernel
theorem dX9_goes_87 : decode cX9_goes 87 = .ok (.imul, 1) := by decide +kernel
theorem dX9_goes_88 : decode cX9_goes 88 = .ok (.sipush 12345, 3) := by decide +kernel
theorem dX9_goes_91 : decode cX9_goes 91 = .ok (.iadd, 1) := by decide +kernel
theorem dX9_goes_92 : decode cX9_goes 92 = .ok (.istore 8, 2) := by decide +kernel
theorem dX9_goes_94 : decode cX9_goes 94 = .ok (.iload 10, 2) := by decide +kernel
theorem dX9_goes_96 : decode cX9_goes 96 = .ok (.iload 8, 2) := by decide +kernel
theorem dX9_goes_98 : decode cX9_goes 98 = .ok (.bipush 16, 2) := by decide +kernel
theorem dX9_goes_100 : decode cX9_goes 100 = .ok (.ishr, 1) := by decide +kernel
theorem dX9_goes_101 : decode cX9_goes 101 = .ok (.sipush 32767, 3) := by decide +kernel
theorem dX9_goes_104 : decode cX9_goes 104 = .ok (.iand, 1) := by decide +kernel
theorem dX9_goes_105 : decode cX9_goes 105 = .ok (.iload 4, 2) := by decide +kernel
theorem dX9_goes_107 : decode cX9_goes 107 = .ok (.iconst 1, 1) := by decide +kernel
theorem dX9_goes_108 : decode cX9_goes 108 = .ok (.iadd, 1) := by decide +kernel
theorem dX9_goes_109 : decode cX9_goes 109 = .ok (.irem, 1) := by decide +kernel
theorem dX9_goes_110 : decode cX9_goes 110 = .ok (.iadd, 1) := by decide +kernel
theorem dX9_goes_111 : decode cX9_goes 111 = .ok (.istore 10, 2) := by decide +kernel
theorem dX9_goes_113 : decode cX9_goes 113 = .ok (.iload 6, 2) := by decide +kernel
theorem dX9_goes_115 : decode cX9_goes 115 = .ok (.ifCond .eq 16, 3) := by decide +kernel
theorem dX9_goes_118 : decode cX9_goes 118 = .ok (.aload_n 0, 1) := by decide +kernel
theorem dX9_goes_119 : decode cX9_goes 119 = .ok (.getfield 55, 3) := by decide +kernel
theorem dX9_goes_122 : decode cX9_goes 122 = .ok (.bipush 8, 2) := by decide +kernel
theorem dX9_goes_124 : decode cX9_goes 124 = .ok (.iaload, 1) := by decide +kernel
theorem dX9_goes_125 : decode cX9_goes 125 = .ok (.ifCond .ne 6, 3) := by decide +kernel
theorem dX9_goes_128 : decode cX9_goes 128 = .ok (.goto 40, 3) := by decide +kernel
theorem dX9_goes_131 : decode cX9_goes 131 = .ok (.aload_n 0, 1) := by decide +kernel
theorem dX9_goes_132 : decode cX9_goes 132 = .ok (.dup, 1) := by decide +kernel
theorem dX9_goes_133 : decode cX9_goes 133 = .ok (.getfield 343, 3) := by decide +kernel
theorem dX9_goes_136 : decode cX9_goes 136 = .ok (.iload 10, 2) := by decide +kernel
theorem dX9_goes_138 : decode cX9_goes 138 = .ok (.iadd, 1) := by decide +kernel
theorem dX9_goes_139 : decode cX9_goes 139 = .ok (.putfield 343, 3) := by decide +kernel
theorem dX9_goes_142 : decode cX9_goes 142 = .ok (.aload_n 0, 1) := by decide +kernel
theorem dX9_goes_143 : decode cX9_goes 143 = .ok (.getfield 340, 3) := by decide +kernel
theorem dX9_goes_146 : decode cX9_goes 146 = .ok (.iconst (-1), 1) := by decide +kernel
theorem dX9_goes_147 : decode cX9_goes 147 = .ok (.if_icmp .ne 21, 3) := by decide +kernel
theorem dX9_goes_150 : decode cX9_goes 150 = .ok (.aload_n 0, 1) := by decide +kernel
theorem dX9_goes_151 : decode cX9_goes 151 = .ok (.getfield 343, 3) := by decide +kernel
theorem dX9_goes_154 : decode cX9_goes 154 = .ok (.aload_n 0, 1) := by decide +kernel
theorem dX9_goes_155 : decode cX9_goes 155 = .ok (.iload_n 1, 1) := by decide +kernel
theorem dX9_goes_156 : decode cX9_goes 156 = .ok (.invokevirtual 350, 3) := by decide +kernel
theorem dX9_goes_159 : decode cX9_goes 159 = .ok (.if_icmp .lt 9, 3) := by decide +kernel
theorem dX9_goes_162 : decode cX9_goes 162 = .ok (.aload_n 0, 1) := by decide +kernel
theorem dX9_goes_163 : decode cX9_goes 163 = .ok (.iload 9, 2) := by decide +kernel
theorem dX9_goes_165 : decode cX9_goes 165 = .ok (.putfield 340, 3) := by decide +kernel
theorem dX9_goes_168 : decode cX9_goes 168 = .ok (.iinc 9 1, 3) := by decide +kernel
theorem dX9_goes_171 : decode cX9_goes 171 = .ok (.goto (-140), 3) := by decide +kernel
theorem dX9_goes_174 : decode cX9_goes 174 = .ok (.return_, 1) := by decide +kernel
theorem dX9_seenOf_0 : decode cX9_seenOf 0 = .ok (.aload_n 0, 1) := by decide +kernel
theorem dX9_seenOf_1 : decode cX9_seenOf 1 = .ok (.iload_n 1, 1) := by decide +kernel
theorem dX9_seenOf_2 : decode cX9_seenOf 2 = .ok (.iload_n 2, 1) := by decide +kernel
theorem dX9_seenOf_3 : decode cX9_seenOf 3 = .ok (.iload_n 3, 1) := by decide +kernel
theorem dX9_seenOf_4 : decode cX9_seenOf 4 = .ok (.iconst 0, 1) := by decide +kernel
theorem dX9_seenOf_5 : decode cX9_seenOf 5 = .ok (.iconst 0, 1) := by decide +kernel
theorem dX9_seenOf_6 : decode cX9_seenOf 6 = .ok (.iconst 0, 1) := by decide +kernel
theorem dX9_seenOf_7 : decode cX9_seenOf 7 = .ok (.invokevirtual 353, 3) := by decide +kernel
theorem dX9_seenOf_10 : decode cX9_seenOf 10 = .ok (.aload_n 0, 1) := by decide +kernel
theorem dX9_seenOf_11 : decode cX9_seenOf 11 = .ok (.getfield 340, 3) := by decide +kernel
theorem dX9_seenOf_14 : decode cX9_seenOf 14 = .ok (.ireturn, 1) := by decide +kernel
theorem dX9_gets_0 : decode cX9_gets 0 = .ok (.aload_n 0, 1) := by decide +kernel
theorem dX9_gets_1 : decode cX9_gets 1 = .ok (.iconst 0, 1) := by decide +kernel
theorem dX9_gets_2 : decode cX9_gets 2 = .ok (.putfield 76, 3) := by decide +kernel
theorem dX9_gets_5 : decode cX9_gets 5 = .ok (.aload_n 0, 1) := by decide +kernel
theorem dX9_gets_6 : decode cX9_gets 6 = .ok (.aload_n 0, 1) := by decide +kernel
theorem dX9_gets_7 : decode cX9_gets 7 = .ok (.iload_n 1, 1) := by decide +kernel
theorem dX9_gets_8 : decode cX9_gets 8 = .ok (.invokevirtual 357, 3) := by decide +kernel
theorem dX9_gets_11 : decode cX9_gets 11 = .ok (.ifCond .ne 7, 3) := by decide +kernel
theorem dX9_gets_14 : decode cX9_gets 14 = .ok (.iconst 1, 1) := by decide +kernel
theorem dX9_gets_15 : decode cX9_gets 15 = .ok (.goto 4, 3) := by decide +kernel
theorem dX9_gets_18 : decode cX9_gets 18 = .ok (.iconst 0, 1) := by decide +kernel
theorem dX9_gets_19 : decode cX9_gets 19 = .ok (.iconst 1, 1) := by decide +kernel
theorem dX9_gets_20 : decode cX9_gets 20 = .ok (.invokevirtual 162, 3) := by decide +kernel
theorem dX9_gets_23 : decode cX9_gets 23 = .ok (.ifCond .ne 68, 3) := by decide +kernel
theorem dX9_gets_26 : decode cX9_gets 26 = .ok (.aload_n 0, 1) := by decide +kernel
theorem dX9_gets_27 : decode cX9_gets 27 = .ok (.aload_n 0, 1) := by decide +kernel
theorem dX9_gets_28 : decode cX9_gets 28 = .ok (.iload_n 2, 1) := by decide +kernel
theorem dX9_gets_29 : decode cX9_gets 29 = .ok (.invokevirtual 295, 3) := by decide +kernel
theorem dX9_gets_32 : decode cX9_gets 32 = .ok (.ifCond .ne 7, 3) := by decide +kernel
theorem dX9_gets_35 : decode cX9_gets 35 = .ok (.iconst 1, 1) := by decide +kernel
theorem dX9_gets_36 : decode cX9_gets 36 = .ok (.goto 4, 3) := by decide +kernel
theorem dX9_gets_39 : decode cX9_gets 39 = .ok (.iconst 0, 1) := by decide +kernel
theorem dX9_gets_40 : decode cX9_gets 40 = .ok (.iconst 2, 1) := by decide +kernel
theorem dX9_gets_41 : decode cX9_gets 41 = .ok (.invokevirtual 162, 3) := by decide +kernel
theorem dX9_gets_44 : decode cX9_gets 44 = .ok (.ifCond .ne 47, 3) := by decide +kernel
theorem dX9_gets_47 : decode cX9_gets 47 = .ok (.aload_n 0, 1) := by decide +kernel
theorem dX9_gets_48 : decode cX9_gets 48 = .ok (.aload_n 0, 1) := by decide +kernel
theorem dX9_gets_49 : decode cX9_gets 49 = .ok (.iload_n 2, 1) := by decide +kernel
theorem dX9_gets_50 : decode cX9_gets 50 = .ok (.iload_n 3, 1) := by decide +kernel
theorem dX9_gets_51 : decode cX9_gets 51 = .ok (.invokevirtual 326, 3) := by decide +kernel
theorem dX9_gets_54 : decode cX9_gets 54 = .ok (.ifCond .eq 25, 3) := by decide +kernel
theorem dX9_gets_57 : decode cX9_gets 57 = .ok (.iload 4, 2) := by decide +kernel
theorem dX9_gets_59 : decode cX9_gets 59 = .ok (.iconst 0, 1) := by decide +kernel
theorem dX9_gets_60 : decode cX9_gets 60 = .ok (.sipush 299, 3) := by decide +kernel
theorem dX9_gets_63 : decode cX9_gets 63 = .ok (.invokestatic 113, 3) := by decide +kernel
theorem dX9_gets_66 : decode cX9_gets 66 = .ok (.ifCond .eq 13, 3) := by decide +kernel
theorem dX9_gets_69 : decode cX9_gets 69 = .ok (.iload 5, 2) := by decide +kernel
theorem dX9_gets_71 : decode cX9_gets 71 = .ok (.iconst 0, 1) := by decide +kernel
theorem dX9_gets_72 : decode cX9_gets 72 = .ok (.iconst 2, 1) := by decide +kernel
theorem dX9_gets_73 : decode cX9_gets 73 = .ok (.invokestatic 113, 3) := by decide +kernel
theorem dX9_gets_76 : decode cX9_gets 76 = .ok (.ifCond .ne 7, 3) := by decide +kernel
theorem dX9_gets_79 : decode cX9_gets 79 = .ok (.iconst 1, 1) := by decide +kernel
theorem dX9_gets_80 : decode cX9_gets 80 = .ok (.goto 4, 3) := by decide +kernel
theorem dX9_gets_83 : decode cX9_gets 83 = .ok (.iconst 0, 1) := by decide +kernel
theorem dX9_gets_84 : decode cX9_gets 84 = .ok (.iconst 2, 1) := by decide +kernel
theorem dX9_gets_85 : decode cX9_gets 85 = .ok (.invokevirtual 162, 3) := by decide +kernel
theorem dX9_gets_88 : decode cX9_gets 88 = .ok (.ifCond .eq 5, 3) := by decide +kernel
theorem dX9_gets_91 : decode cX9_gets 91 = .ok (.iconst 0, 1) := by decide +kernel
theorem dX9_gets_92 : decode cX9_gets 92 = .ok (.ireturn, 1) := by decide +kernel
theorem dX9_gets_93 : decode cX9_gets 93 = .ok (.iload 5, 2) := by decide +kernel
theorem dX9_gets_95 : decode cX9_gets 95 = .ok (.ifCond .ne 13, 3) := by decide +kernel
theorem dX9_gets_98 : decode cX9_gets 98 = .ok (.aload_n 0, 1) := by decide +kernel
theorem dX9_gets_99 : decode cX9_gets 99 = .ok (.iload_n 1, 1) := by decide +kernel
theorem dX9_gets_100 : decode cX9_gets 100 = .ok (.iload_n 2, 1) := by decide +kernel
theorem dX9_gets_101 : decode cX9_gets 101 = .ok (.iload_n 3, 1) := by decide +kernel
theorem dX9_gets_102 : decode cX9_gets 102 = .ok (.iload 4, 2) := by decide +kernel
theorem dX9_gets_104 : decode cX9_gets 104 = .ok (.invokevirtual 346, 3) := by decide +kernel
theorem dX9_gets_107 : decode cX9_gets 107 = .ok (.ireturn, 1) := by decide +kernel
theorem dX9_gets_108 : decode cX9_gets 108 = .ok (.iload 5, 2) := by decide +kernel
theorem dX9_gets_110 : decode cX9_gets 110 = .ok (.iconst 1, 1) := by decide +kernel
theorem dX9_gets_111 : decode cX9_gets 111 = .ok (.if_icmp .ne 39, 3) := by decide +kernel
theorem dX9_gets_114 : decode cX9_gets 114 = .ok (.iconst 0, 1) := by decide +kernel
theorem dX9_gets_115 : decode cX9_gets 115 = .ok (.istore 6, 2) := by decide +kernel
theorem dX9_gets_117 : decode cX9_gets 117 = .ok (.iconst 0, 1) := by decide +kernel
theorem dX9_gets_118 : decode cX9_gets 118 = .ok (.istore 7, 2) := by decide +kernel
theorem dX9_gets_120 : decode cX9_gets 120 = .ok (.iload 7, 2) := by decide +kernel
theorem dX9_gets_122 : decode cX9_gets 122 = .ok (.iload 4, 2) := by decide +kernel
theorem dX9_gets_124 : decode cX9_gets 124 = .ok (.if_icmp .gt 23, 3) := by decide +kernel
theorem dX9_gets_127 : decode cX9_gets 127 = .ok (.iload 6, 2) := by decide +kernel
theorem dX9_gets_129 : decode cX9_gets 129 = .ok (.aload_n 0, 1) := by decide +kernel
theorem dX9_gets_130 : decode cX9_gets 130 = .ok (.iload_n 1, 1) := by decide +kernel
theorem dX9_gets_131 : decode cX9_gets 131 = .ok (.iload_n 2, 1) := by decide +kernel
theorem dX9_gets_132 : decode cX9_gets 132 = .ok (.iload_n 3, 1) := by decide +kernel
theorem dX9_gets_133 : decode cX9_gets 133 = .ok (.iload 7, 2) := by decide +kernel
theorem dX9_gets_135 : decode cX9_gets 135 = .ok (.invokevirtual 346, 3) := by decide +kernel
theorem dX9_gets_138 : decode cX9_gets 138 = .ok (.iadd, 1) := by decide +kernel
theorem dX9_gets_139 : decode cX9_gets 139 = .ok (.istore 6, 2) := by decide +kernel
theorem dX9_gets_141 : decode cX9_gets 141 = .ok (.iinc 7 1, 3) := by decide +kernel
theorem dX9_gets_144 : decode cX9_gets 144 = .ok (.goto (-24), 3) := by decide +kernel
theorem dX9_gets_147 : decode cX9_gets 147 = .ok (.iload 6, 2) := by decide +kernel
theorem dX9_gets_149 : decode cX9_gets 149 = .ok (.ireturn, 1) := by decide +kernel
theorem dX9_gets_150 : decode cX9_gets 150 = .ok (.aload_n 0, 1) := by decide +kernel
theorem dX9_gets_151 : decode cX9_gets 151 = .ok (.iload_n 2, 1) := by decide +kernel
theorem dX9_gets_152 : decode cX9_gets 152 = .ok (.iload_n 3, 1) := by decide +kernel
theorem dX9_gets_153 : decode cX9_gets 153 = .ok (.iload 4, 2) := by decide +kernel
theorem dX9_gets_155 : decode cX9_gets 155 = .ok (.invokevirtual 329, 3) := by decide +kernel
theorem dX9_gets_158 : decode cX9_gets 158 = .ok (.aload_n 0, 1) := by decide +kernel
theorem dX9_gets_159 : decode cX9_gets 159 = .ok (.iload_n 1, 1) := by decide +kernel
theorem dX9_gets_160 : decode cX9_gets 160 = .ok (.invokevirtual 350, 3) := by decide +kernel
theorem dX9_gets_163 : decode cX9_gets 163 = .ok (.ireturn, 1) := by decide +kernel
theorem dX9_seen_0 : decode cX9_seen 0 = .ok (.aload_n 0, 1) := by decide +kernel
theorem dX9_seen_1 : decode cX9_seen 1 = .ok (.iconst 0, 1) := by decide +kernel
theorem dX9_seen_2 : decode cX9_seen 2 = .ok (.putfield 76, 3) := by decide +kernel
theorem dX9_seen_5 : decode cX9_seen 5 = .ok (.aload_n 0, 1) := by decide +kernel
theorem dX9_seen_6 : decode cX9_seen 6 = .ok (.aload_n 0, 1) := by decide +kernel
theorem dX9_seen_7 : decode cX9_seen 7 = .ok (.iload_n 1, 1) := by decide +kernel
theorem dX9_seen_8 : decode cX9_seen 8 = .ok (.invokevirtual 357, 3) := by decide +kernel
theorem dX9_seen_11 : decode cX9_seen 11 = .ok (.ifCond .ne 7, 3) := by decide +kernel
theorem dX9_seen_14 : decode cX9_seen 14 = .ok (.iconst 1, 1) := by decide +kernel
theorem dX9_seen_15 : decode cX9_seen 15 = .ok (.goto 4, 3) := by decide +kernel
theorem dX9_seen_18 : decode cX9_seen 18 = .ok (.iconst 0, 1) := by decide +kernel
theorem dX9_seen_19 : decode cX9_seen 19 = .ok (.iconst 1, 1) := by decide +kernel
theorem dX9_seen_20 : decode cX9_seen 20 = .ok (.invokevirtual 162, 3) := by decide +kernel
theorem dX9_seen_23 : decode cX9_seen 23 = .ok (.ifCond .ne 46, 3) := by decide +kernel
theorem dX9_seen_26 : decode cX9_seen 26 = .ok (.aload_n 0, 1) := by decide +kernel
theorem dX9_seen_27 : decode cX9_seen 27 = .ok (.aload_n 0, 1) := by decide +kernel
theorem dX9_seen_28 : decode cX9_seen 28 = .ok (.iload_n 2, 1) := by decide +kernel
theorem dX9_seen_29 : decode cX9_seen 29 = .ok (.invokevirtual 295, 3) := by decide +kernel
theorem dX9_seen_32 : decode cX9_seen 32 = .ok (.ifCond .ne 7, 3) := by decide +kernel
theorem dX9_seen_35 : decode cX9_seen 35 = .ok (.iconst 1, 1) := by decide +kernel
theorem dX9_seen_36 : decode cX9_seen 36 = .ok (.goto 4, 3) := by decide +kernel
theorem dX9_seen_39 : decode cX9_seen 39 = .ok (.iconst 0, 1) := by decide +kernel
theorem dX9_seen_40 : decode cX9_seen 40 = .ok (.iconst 2, 1) := by decide +kernel
theorem dX9_seen_41 : decode cX9_seen 41 = .ok (.invokevirtual 162, 3) := by decide +kernel
theorem dX9_seen_44 : decode cX9_seen 44 = .ok (.ifCond .ne 25, 3) := by decide +kernel
theorem dX9_seen_47 : decode cX9_seen 47 = .ok (.aload_n 0, 1) := by decide +kernel
theorem dX9_seen_48 : decode cX9_seen 48 = .ok (.aload_n 0, 1) := by decide +kernel
theorem dX9_seen_49 : decode cX9_seen 49 = .ok (.iload_n 2, 1) := by decide +kernel
theorem dX9_seen_50 : decode cX9_seen 50 = .ok (.iload_n 3, 1) := by decide +kernel
theorem dX9_seen_51 : decode cX9_seen 51 = .ok (.invokevirtual 326, 3) := by decide +kernel
theorem dX9_seen_54 : decode cX9_seen 54 = .ok (.ifCond .ne 7, 3) := by decide +kernel
theorem dX9_seen_57 : decode cX9_seen 57 = .ok (.iconst 1, 1) := by decide +kernel
theorem dX9_seen_58 : decode cX9_seen 58 = .ok (.goto 4, 3) := by decide +kernel
theorem dX9_seen_61 : decode cX9_seen 61 = .ok (.iconst 0, 1) := by decide +kernel
theorem dX9_seen_62 : decode cX9_seen 62 = .ok (.iconst 2, 1) := by decide +kernel
theorem dX9_seen_63 : decode cX9_seen 63 = .ok (.invokevirtual 162, 3) := by decide +kernel
theorem dX9_seen_66 : decode cX9_seen 66 = .ok (.ifCond .eq 5, 3) := by decide +kernel
theorem dX9_seen_69 : decode cX9_seen 69 = .ok (.iconst 0, 1) := by decide +kernel
theorem dX9_seen_70 : decode cX9_seen 70 = .ok (.ireturn, 1) := by decide +kernel
theorem dX9_seen_71 : decode cX9_seen 71 = .ok (.aload_n 0, 1) := by decide +kernel
theorem dX9_seen_72 : decode cX9_seen 72 = .ok (.iload_n 1, 1) := by decide +kernel
theorem dX9_seen_73 : decode cX9_seen 73 = .ok (.iload_n 2, 1) := by decide +kernel
theorem dX9_seen_74 : decode cX9_seen 74 = .ok (.iload_n 3, 1) := by decide +kernel
theorem dX9_seen_75 : decode cX9_seen 75 = .ok (.invokevirtual 360, 3) := by decide +kernel
theorem dX9_seen_78 : decode cX9_seen 78 = .ok (.ireturn, 1) := by decide +kernel
theorem dX9_isForgotten_0 : decode cX9_isForgotten 0 = .ok (.aload_n 0, 1) := by decide +kernel
theorem dX9_isForgotten_1 : decode cX9_isForgotten 1 = .ok (.aload_n 0, 1) := by decide +kernel
theorem dX9_isForgotten_2 : decode cX9_isForgotten 2 = .ok (.getfield 61, 3) := by decide +kernel
theorem dX9_isForgotten_5 : decode cX9_isForgotten 5 = .ok (.iload_n 2, 1) := by decide +kernel
theorem dX9_isForgotten_6 : decode cX9_isForgotten 6 = .ok (.aaload, 1) := by decide +kernel
theorem dX9_isForgotten_7 : decode cX9_isForgotten 7 = .ok (.iconst 0, 1) := by decide +kernel
theorem dX9_isForgotten_8 : decode cX9_isForgotten 8 = .ok (.iaload, 1) := by decide +kernel
theorem dX9_isForgotten_9 : decode cX9_isForgotten 9 = .ok (.invokevirtual 260, 3) := by decide +kernel
theorem dX9_isForgotten_12 : decode cX9_isForgotten 12 = .ok (.istore_n 3, 1) := by decide +kernel
theorem dX9_isForgotten_13 : decode cX9_isForgotten 13 = .ok (.aload_n 0, 1) := by decide +kernel
theorem dX9_isForgotten_14 : decode cX9_isForgotten 14 = .ok (.iload_n 2, 1) := by decide +kernel
theorem dX9_isForgotten_15 : decode cX9_isForgotten 15 = .ok (.aload_n 0, 1) := by decide +kernel
theorem dX9_isForgotten_16 : decode cX9_isForgotten 16 = .ok (.aload_n 0, 1) := by decide +kernel
theorem dX9_isForgotten_17 : decode cX9_isForgotten 17 = .ok (.getfield 61, 3) := by decide +kernel
theorem dX9_isForgotten_20 : decode cX9_isForgotten 20 = .ok (.iload_n 2, 1) := by decide +kernel
theorem dX9_isForgotten_21 : decode cX9_isForgotten 21 = .ok (.aaload, 1) := by decide +kernel
theorem dX9_isForgotten_22 : decode cX9_isForgotten 22 = .ok (.iconst 0, 1) := by decide +kernel
theorem dX9_isForgotten_23 : decode cX9_isForgotten 23 = .ok (.iaload, 1) := by decide +kernel
theorem dX9_isForgotten_24 : decode cX9_isForgotten 24 = .ok (.invokevirtual 263, 3) := by decide +kernel
theorem dX9_isForgotten_27 : decode cX9_isForgotten 27 = .ok (.iload_n 3, 1) := by decide +kernel
theorem dX9_isForgotten_28 : decode cX9_isForgotten 28 = .ok (.invokevirtual 329, 3) := by decide +kernel
theorem dX9_isForgotten_31 : decode cX9_isForgotten 31 = .ok (.iload_n 3, 1) := by decide +kernel
theorem dX9_isForgotten_32 : decode cX9_isForgotten 32 = .ok (.aload_n 0, 1) := by decide +kernel
theorem dX9_isForgotten_33 : decode cX9_isForgotten 33 = .ok (.getfield 340, 3) := by decide +kernel
theorem dX9_isForgotten_36 : decode cX9_isForgotten 36 = .ok (.isub, 1) := by decide +kernel
theorem dX9_isForgotten_37 : decode cX9_isForgotten 37 = .ok (.aload_n 0, 1) := by decide +kernel
theorem dX9_isForgotten_38 : decode cX9_isForgotten 38 = .ok (.iload_n 1, 1) := by decide +kernel
theorem dX9_isForgotten_39 : decode cX9_isForgotten 39 = .ok (.iconst 2, 1) := by decide +kernel
theorem dX9_isForgotten_40 : decode cX9_isForgotten 40 = .ok (.iconst 0, 1) := by decide +kernel
theorem dX9_isForgotten_41 : decode cX9_isForgotten 41 = .ok (.sipush 999, 3) := by decide +kernel
theorem dX9_isForgotten_44 : decode cX9_isForgotten 44 = .ok (.sipush 999, 3) := by decide +kernel
theorem dX9_isForgotten_47 : decode cX9_isForgotten 47 = .ok (.invokevirtual 336, 3) := by decide +kernel
theorem dX9_isForgotten_50 : decode cX9_isForgotten 50 = .ok (.if_icmp .le 7, 3) := by decide +kernel
theorem dX9_isForgotten_53 : decode cX9_isForgotten 53 = .ok (.iconst 1, 1) := by decide +kernel
theorem dX9_isForgotten_54 : decode cX9_isForgotten 54 = .ok (.goto 4, 3) := by decide +kernel
theorem dX9_isForgotten_57 : decode cX9_isForgotten 57 = .ok (.iconst 0, 1) := by decide +kernel
theorem dX9_isForgotten_58 : decode cX9_isForgotten 58 = .ok (.ireturn, 1) := by decide +kernel
theorem dX9_isUnsure_0 : decode cX9_isUnsure 0 = .ok (.aload_n 0, 1) := by decide +kernel
theorem dX9_isUnsure_1 : decode cX9_isUnsure 1 = .ok (.iload_n 2, 1) := by decide +kernel
theorem dX9_isUnsure_2 : decode cX9_isUnsure 2 = .ok (.aload_n 0, 1) := by decide +kernel
theorem dX9_isUnsure_3 : decode cX9_isUnsure 3 = .ok (.aload_n 0, 1) := by decide +kernel
theorem dX9_isUnsure_4 : decode cX9_isUnsure 4 = .ok (.getfield 61, 3) := by decide +kernel
theorem dX9_isUnsure_7 : decode cX9_isUnsure 7 = .ok (.iload_n 2, 1) := by decide +kernel
theorem dX9_isUnsure_8 : decode cX9_isUnsure 8 = .ok (.aaload, 1) := by decide +kernel
theorem dX9_isUnsure_9 : decode cX9_isUnsure 9 = .ok (.iconst 0, 1) := by decide +kernel
theorem dX9_isUnsure_10 : decode cX9_isUnsure 10 = .ok (.iaload, 1) := by decide +kernel
theorem dX9_isUnsure_11 : decode cX9_isUnsure 11 = .ok (.invokevirtual 263, 3) := by decide +kernel
theorem dX9_isUnsure_14 : decode cX9_isUnsure 14 = .ok (.aload_n 0, 1) := by decide +kernel
theorem dX9_isUnsure_15 : decode cX9_isUnsure 15 = .ok (.aload_n 0, 1) := by decide +kernel
theorem dX9_isUnsure_16 : decode cX9_isUnsure 16 = .ok (.getfield 61, 3) := by decide +kernel
theorem dX9_isUnsure_19 : decode cX9_isUnsure 19 = .ok (.iload_n 2, 1) := by decide +kernel
theorem dX9_isUnsure_20 : decode cX9_isUnsure 20 = .ok (.aaload, 1) := by decide +kernel
theorem dX9_isUnsure_21 : decode cX9_isUnsure 21 = .ok (.iconst 0, 1) := by decide +kernel
theorem dX9_isUnsure_22 : decode cX9_isUnsure 22 = .ok (.iaload, 1) := by decide +kernel
theorem dX9_isUnsure_23 : decode cX9_isUnsure 23 = .ok (.invokevirtual 260, 3) := by decide +kernel
theorem dX9_isUnsure_26 : decode cX9_isUnsure 26 = .ok (.invokevirtual 329, 3) := by decide +kernel
theorem dX9_isUnsure_29 : decode cX9_isUnsure 29 = .ok (.aload_n 0, 1) := by decide +kernel
theorem dX9_isUnsure_30 : decode cX9_isUnsure 30 = .ok (.getfield 343, 3) := by decide +kernel
theorem dX9_isUnsure_33 : decode cX9_isUnsure 33 = .ok (.aload_n 0, 1) := by decide +kernel
theorem dX9_isUnsure_34 : decode cX9_isUnsure 34 = .ok (.iload_n 1, 1) := by decide +kernel
theorem dX9_isUnsure_35 : decode cX9_isUnsure 35 = .ok (.iconst 3, 1) := by decide +kernel
theorem dX9_isUnsure_36 : decode cX9_isUnsure 36 = .ok (.iconst 0, 1) := by decide +kernel
theorem dX9_isUnsure_37 : decode cX9_isUnsure 37 = .ok (.ldc 112, 2) := by decide +kernel
theorem dX9_isUnsure_39 : decode cX9_isUnsure 39 = .ok (.iconst 0, 1) := by decide +kernel
theorem dX9_isUnsure_40 : decode cX9_isUnsure 40 = .ok (.invokevirtual 336, 3) := by decide +kernel
theorem dX9_isUnsure_43 : decode cX9_isUnsure 43 = .ok (.if_icmp .ge 7, 3) := by decide +kernel
theorem dX9_isUnsure_46 : decode cX9_isUnsure 46 = .ok (.iconst 1, 1) := by decide +kernel
theorem dX9_isUnsure_47 : decode cX9_isUnsure 47 = .ok (.goto 4, 3) := by decide +kernel
theorem dX9_isUnsure_50 : decode cX9_isUnsure 50 = .ok (.iconst 0, 1) := by decide +kernel
theorem dX9_isUnsure_51 : decode cX9_isUnsure 51 = .ok (.ireturn, 1) := by decide +kernel
theorem dX9_saysBy_0 : decode cX9_saysBy 0 = .ok (.aload_n 0, 1) := by decide +kernel
theorem dX9_saysBy_1 : decode cX9_saysBy 1 = .ok (.aload_n 0, 1) := by decide +kernel
theorem dX9_saysBy_2 : decode cX9_saysBy 2 = .ok (.getfield 61, 3) := by decide +kernel
theorem dX9_saysBy_5 : decode cX9_saysBy 5 = .ok (.iload_n 2, 1) := by decide +kernel
theorem dX9_saysBy_6 : decode cX9_saysBy 6 = .ok (.aaload, 1) := by decide +kernel
theorem dX9_saysBy_7 : decode cX9_saysBy 7 = .ok (.iconst 0, 1) := by decide +kernel
theorem dX9_saysBy_8 : decode cX9_saysBy 8 = .ok (.iaload, 1) := by decide +kernel
theorem dX9_saysBy_9 : decode cX9_saysBy 9 = .ok (.invokevirtual 263, 3) := by decide +kernel
theorem dX9_saysBy_12 : decode cX9_saysBy 12 = .ok (.istore 4, 2) := by decide +kernel
theorem dX9_saysBy_14 : decode cX9_saysBy 14 = .ok (.iload 4, 2) := by decide +kernel
theorem dX9_saysBy_16 : decode cX9_saysBy 16 = .ok (.iconst (-1), 1) := by decide +kernel
theorem dX9_saysBy_17 : decode cX9_saysBy 17 = .ok (.if_icmp .eq 15, 3) := by decide +kernel
theorem dX9_saysBy_20 : decode cX9_saysBy 20 = .ok (.aload_n 0, 1) := by decide +kernel
theorem dX9_saysBy_21 : decode cX9_saysBy 21 = .ok (.iload_n 1, 1) := by decide +kernel
theorem dX9_saysBy_22 : decode cX9_saysBy 22 = .ok (.iload_n 2, 1) := by decide +kernel
theorem dX9_saysBy_23 : decode cX9_saysBy 23 = .ok (.iload 4, 2) := by decide +kernel
theorem dX9_saysBy_25 : decode cX9_saysBy 25 = .ok (.invokevirtual 360, 3) := by decide +kernel
theorem dX9_saysBy_28 : decode cX9_saysBy 28 = .ok (.iconst (-1), 1) := by decide +kernel
theorem dX9_saysBy_29 : decode cX9_saysBy 29 = .ok (.if_icmp .ne 5, 3) := by decide +kernel
theorem dX9_saysBy_32 : decode cX9_saysBy 32 = .ok (.iconst 0, 1) := by decide +kernel
theorem dX9_saysBy_33 : decode cX9_saysBy 33 = .ok (.ireturn, 1) := by decide +kernel
theorem dX9_saysBy_34 : decode cX9_saysBy 34 = .ok (.iload_n 3, 1) := by decide +kernel
theorem dX9_saysBy_35 : decode cX9_saysBy 35 = .ok (.iconst 2, 1) := by decide +kernel
theorem dX9_saysBy_36 : decode cX9_saysBy 36 = .ok (.if_icmp .eq 26, 3) := by decide +kernel
theorem dX9_saysBy_39 : decode cX9_saysBy 39 = .ok (.aload_n 0, 1) := by decide +kernel
theorem dX9_saysBy_40 : decode cX9_saysBy 40 = .ok (.iload_n 1, 1) := by decide +kernel
theorem dX9_saysBy_41 : decode cX9_saysBy 41 = .ok (.iload_n 2, 1) := by decide +kernel
theorem dX9_saysBy_42 : decode cX9_saysBy 42 = .ok (.invokevirtual 363, 3) := by decide +kernel
theorem dX9_saysBy_45 : decode cX9_saysBy 45 = .ok (.ifCond .ne 21, 3) := by decide +kernel
theorem dX9_saysBy_48 : decode cX9_saysBy 48 = .ok (.iload_n 3, 1) := by decide +kernel
theorem dX9_saysBy_49 : decode cX9_saysBy 49 = .ok (.iconst 1, 1) := by decide +kernel
theorem dX9_saysBy_50 : decode cX9_saysBy 50 = .ok (.if_icmp .eq 12, 3) := by decide +kernel
theorem dX9_saysBy_53 : decode cX9_saysBy 53 = .ok (.aload_n 0, 1) := by decide +kernel
theorem dX9_saysBy_54 : decode cX9_saysBy 54 = .ok (.iload_n 1, 1) := by decide +kernel
theorem dX9_saysBy_55 : decode cX9_saysBy 55 = .ok (.iload_n 2, 1) := by decide +kernel
theorem dX9_saysBy_56 : decode cX9_saysBy 56 = .ok (.invokevirtual 366, 3) := by decide +kernel
theorem dX9_saysBy_59 : decode cX9_saysBy 59 = .ok (.ifCond .ne 7, 3) := by decide +kernel
theorem dX9_saysBy_62 : decode cX9_saysBy 62 = .ok (.iconst 1, 1) := by decide +kernel
theorem dX9_saysBy_63 : decode cX9_saysBy 63 = .ok (.goto 4, 3) := by decide +kernel
theorem dX9_saysBy_66 : decode cX9_saysBy 66 = .ok (.iconst 0, 1) := by decide +kernel
theorem dX9_saysBy_67 : decode cX9_saysBy 67 = .ok (.ireturn, 1) := by decide +kernel
theorem dX9_says_0 : decode cX9_says 0 = .ok (.aload_n 0, 1) := by decide +kernel
theorem dX9_says_1 : decode cX9_says 1 = .ok (.iconst 0, 1) := by decide +kernel
theorem dX9_says_2 : decode cX9_says 2 = .ok (.putfield 76, 3) := by decide +kernel
theorem dX9_says_5 : decode cX9_says 5 = .ok (.aload_n 0, 1) := by decide +kernel
theorem dX9_says_6 : decode cX9_says 6 = .ok (.aload_n 0, 1) := by decide +kernel
theorem dX9_says_7 : decode cX9_says 7 = .ok (.iload_n 1, 1) := by decide +kernel
theorem dX9_says_8 : decode cX9_says 8 = .ok (.invokevirtual 357, 3) := by decide +kernel
theorem dX9_says_11 : decode cX9_says 11 = .ok (.ifCond .ne 7, 3) := by decide +kernel
theorem dX9_says_14 : decode cX9_says 14 = .ok (.iconst 1, 1) := by decide +kernel
theorem dX9_says_15 : decode cX9_says 15 = .ok (.goto 4, 3) := by decide +kernel
theorem dX9_says_18 : decode cX9_says 18 = .ok (.iconst 0, 1) := by decide +kernel
theorem dX9_says_19 : decode cX9_says 19 = .ok (.iconst 1, 1) := by decide +kernel
theorem dX9_says_20 : decode cX9_says 20 = .ok (.invokevirtual 162, 3) := by decide +kernel
theorem dX9_says_23 : decode cX9_says 23 = .ok (.ifCond .ne 33, 3) := by decide +kernel
theorem dX9_says_26 : decode cX9_says 26 = .ok (.aload_n 0, 1) := by decide +kernel
theorem dX9_says_27 : decode cX9_says 27 = .ok (.aload_n 0, 1) := by decide +kernel
theorem dX9_says_28 : decode cX9_says 28 = .ok (.iload_n 2, 1) := by decide +kernel
theorem dX9_says_29 : decode cX9_says 29 = .ok (.invokevirtual 295, 3) := by decide +kernel
theorem dX9_says_32 : decode cX9_says 32 = .ok (.ifCond .eq 12, 3) := by decide +kernel
theorem dX9_says_35 : decode cX9_says 35 = .ok (.iload_n 3, 1) := by decide +kernel
theorem dX9_says_36 : decode cX9_says 36 = .ok (.iconst 0, 1) := by decide +kernel
theorem dX9_says_37 : decode cX9_says 37 = .ok (.iconst 2, 1) := by decide +kernel
theorem dX9_says_38 : decode cX9_says 38 = .ok (.invokestatic 113, 3) := by decide +kernel
theorem dX9_says_41 : decode cX9_says 41 = .ok (.ifCond .ne 7, 3) := by decide +kernel
theorem dX9_says_44 : decode cX9_says 44 = .ok (.iconst 1, 1) := by decide +kernel
theorem dX9_says_45 : decode cX9_says 45 = .ok (.goto 4, 3) := by decide +kernel
theorem dX9_says_48 : decode cX9_says 48 = .ok (.iconst 0, 1) := by decide +kernel
theorem dX9_says_49 : decode cX9_says 49 = .ok (.iconst 2, 1) := by decide +kernel
theorem dX9_says_50 : decode cX9_says 50 = .ok (.invokevirtual 162, 3) := by decide +kernel
theorem dX9_says_53 : decode cX9_says 53 = .ok (.ifCond .eq 5, 3) := by decide +kernel
theorem dX9_says_56 : decode cX9_says 56 = .ok (.iconst 0, 1) := by decide +kernel
theorem dX9_says_57 : decode cX9_says 57 = .ok (.ireturn, 1) := by decide +kernel
theorem dX9_says_58 : decode cX9_says 58 = .ok (.aload_n 0, 1) := by decide +kernel
theorem dX9_says_59 : decode cX9_says 59 = .ok (.iload_n 1, 1) := by decide +kernel
theorem dX9_says_60 : decode cX9_says 60 = .ok (.iload_n 2, 1) := by decide +kernel
theorem dX9_says_61 : decode cX9_says 61 = .ok (.iload_n 3, 1) := by decide +kernel
theorem dX9_says_62 : decode cX9_says 62 = .ok (.invokevirtual 369, 3) := by decide +kernel
theorem dX9_says_65 : decode cX9_says 65 = .ok (.ireturn, 1) := by decide +kernel
theorem dX9_isDropped_0 : decode cX9_isDropped 0 = .ok (.aload_n 0, 1) := by decide +kernel
theorem dX9_isDropped_1 : decode cX9_isDropped 1 = .ok (.getfield 61, 3) := by decide +kernel
theorem dX9_isDropped_4 : decode cX9_isDropped 4 = .ok (.iload_n 1, 1) := by decide +kernel
theorem dX9_isDropped_5 : decode cX9_isDropped 5 = .ok (.aaload, 1) := by decide +kernel
theorem dX9_isDropped_6 : decode cX9_isDropped 6 = .ok (.iconst 0, 1) := by decide +kernel
theorem dX9_isDropped_7 : decode cX9_isDropped 7 = .ok (.iaload, 1) := by decide +kernel
theorem dX9_isDropped_8 : decode cX9_isDropped 8 = .ok (.istore_n 3, 1) := by decide +kernel
theorem dX9_isDropped_9 : decode cX9_isDropped 9 = .ok (.iconst 0, 1) := by decide +kernel
theorem dX9_isDropped_10 : decode cX9_isDropped 10 = .ok (.istore 4, 2) := by decide +kernel
theorem dX9_isDropped_12 : decode cX9_isDropped 12 = .ok (.iload 4, 2) := by decide +kernel
theorem dX9_isDropped_14 : decode cX9_isDropped 14 = .ok (.aload_n 0, 1) := by decide +kernel
theorem dX9_isDropped_15 : decode cX9_isDropped 15 = .ok (.iload_n 3, 1) := by decide +kernel
theorem dX9_isDropped_16 : decode cX9_isDropped 16 = .ok (.invokevirtual 260, 3) := by decide +kernel
theorem dX9_isDropped_19 : decode cX9_isDropped 19 = .ok (.if_icmp .gt 52, 3) := by decide +kernel
theorem dX9_isDropped_22 : decode cX9_isDropped 22 = .ok (.aload_n 0, 1) := by decide +kernel
theorem dX9_isDropped_23 : decode cX9_isDropped 23 = .ok (.iload_n 3, 1) := by decide +kernel
theorem dX9_isDropped_24 : decode cX9_isDropped 24 = .ok (.iload_n 2, 1) := by decide +kernel
theorem dX9_isDropped_25 : decode cX9_isDropped 25 = .ok (.iload 4, 2) := by decide +kernel
theorem dX9_isDropped_27 : decode cX9_isDropped 27 = .ok (.invokevirtual 241, 3) := by decide +kernel
theorem dX9_isDropped_30 : decode cX9_isDropped 30 = .ok (.ifCond .eq 35, 3) := by decide +kernel
theorem dX9_isDropped_33 : decode cX9_isDropped 33 = .ok (.aload_n 0, 1) := by decide +kernel
theorem dX9_isDropped_34 : decode cX9_isDropped 34 = .ok (.getfield 37, 3) := by decide +kernel
theorem dX9_isDropped_37 : decode cX9_isDropped 37 = .ok (.aload_n 0, 1) := by decide +kernel
theorem dX9_isDropped_38 : decode cX9_isDropped 38 = .ok (.getfield 61, 3) := by decide +kernel
theorem dX9_isDropped_41 : decode cX9_isDropped 41 = .ok (.iload_n 1, 1) := by decide +kernel
theorem dX9_isDropped_42 : decode cX9_isDropped 42 = .ok (.aaload, 1) := by decide +kernel
theorem dX9_isDropped_43 : decode cX9_isDropped 43 = .ok (.iconst 1, 1) := by decide +kernel
theorem dX9_isDropped_44 : decode cX9_isDropped 44 = .ok (.iaload, 1) := by decide +kernel
theorem dX9_isDropped_45 : decode cX9_isDropped 45 = .ok (.aaload, 1) := by decide +kernel
theorem dX9_isDropped_46 : decode cX9_isDropped 46 = .ok (.iconst 1, 1) := by decide +kernel
theorem dX9_isDropped_47 : decode cX9_isDropped 47 = .ok (.iaload, 1) := by decide +kernel
theorem dX9_isDropped_48 : decode cX9_isDropped 48 = .ok (.aload_n 0, 1) := by decide +kernel
theorem dX9_isDropped_49 : decode cX9_isDropped 49 = .ok (.iload_n 3, 1) := by decide +kernel
theorem dX9_isDropped_50 : decode cX9_isDropped 50 = .ok (.iload_n 2, 1) := by decide +kernel
theorem dX9_isDropped_51 : decode cX9_isDropped 51 = .ok (.iload 4, 2) := by decide +kernel
theorem dX9_isDropped_53 : decode cX9_isDropped 53 = .ok (.invokevirtual 269, 3) := by decide +kernel
theorem dX9_isDropped_56 : decode cX9_isDropped 56 = .ok (.ishr, 1) := by decide +kernel
theorem dX9_isDropped_57 : decode cX9_isDropped 57 = .ok (.iconst 1, 1) := by decide +kernel
theorem dX9_isDropped_58 : decode cX9_isDropped 58 = .ok (.iand, 1) := by decide +kernel
theorem dX9_isDropped_59 : decode cX9_isDropped 59 = .ok (.iconst 1, 1) := by decide +kernel
theorem dX9_isDropped_60 : decode cX9_isDropped 60 = .ok (.if_icmp .ne 5, 3) := by decide +kernel
theorem dX9_isDropped_63 : decode cX9_isDropped 63 = .ok (.iconst 1, 1) := by decide +kernel
theorem dX9_isDropped_64 : decode cX9_isDropped 64 = .ok (.ireturn, 1) := by decide +kernel
theorem dX9_isDropped_65 : decode cX9_isDropped 65 = .ok (.iinc 4 1, 3) := by decide +kernel
theorem dX9_isDropped_68 : decode cX9_isDropped 68 = .ok (.goto (-56), 3) := by decide +kernel
theorem dX9_isDropped_71 : decode cX9_isDropped 71 = .ok (.iconst 0, 1) := by decide +kernel
theorem dX9_isDropped_72 : decode cX9_isDropped 72 = .ok (.ireturn, 1) := by decide +kernel
theorem dX9_nearest_0 : decode cX9_nearest 0 = .ok (.bipush 99, 2) := by decide +kernel
theorem dX9_nearest_2 : decode cX9_nearest 2 = .ok (.istore_n 3, 1) := by decide +kernel
theorem dX9_nearest_3 : decode cX9_nearest 3 = .ok (.iconst 0, 1) := by decide +kernel
theorem dX9_nearest_4 : decode cX9_nearest 4 = .ok (.istore 4, 2) := by decide +kernel
theorem dX9_nearest_6 : decode cX9_nearest 6 = .ok (.iload 4, 2) := by decide +kernel
theorem dX9_nearest_8 : decode cX9_nearest 8 = .ok (.aload_n 0, 1) := by decide +kernel
theorem dX9_nearest_9 : decode cX9_nearest 9 = .ok (.aload_n 0, 1) := by decide +kernel
theorem dX9_nearest_10 : decode cX9_nearest 10 = .ok (.getfield 61, 3) := by decide +kernel
theorem dX9_nearest_13 : decode cX9_nearest 13 = .ok (.iload_n 1, 1) := by decide +kernel
theorem dX9_nearest_14 : decode cX9_nearest 14 = .ok (.aaload, 1) := by decide +kernel
theorem dX9_nearest_15 : decode cX9_nearest 15 = .ok (.iconst 0, 1) := by decide +kernel
theorem dX9_nearest_16 : decode cX9_nearest 16 = .ok (.iaload, 1) := by decide +kernel
theorem dX9_nearest_17 : decode cX9_nearest 17 = .ok (.invokevirtual 260, 3) := by decide +kernel
theorem dX9_nearest_20 : decode cX9_nearest 20 = .ok (.if_icmp .gt 22, 3) := by decide +kernel
theorem dX9_nearest_23 : decode cX9_nearest 23 = .ok (.iload_n 3, 1) := by decide +kernel
theorem dX9_nearest_24 : decode cX9_nearest 24 = .ok (.aload_n 0, 1) := by decide +kernel
theorem dX9_nearest_25 : decode cX9_nearest 25 = .ok (.iload_n 1, 1) := by decide +kernel
theorem dX9_nearest_26 : decode cX9_nearest 26 = .ok (.iload_n 2, 1) := by decide +kernel
theorem dX9_nearest_27 : decode cX9_nearest 27 = .ok (.iload 4, 2) := by decide +kernel
theorem dX9_nearest_29 : decode cX9_nearest 29 = .ok (.invokevirtual 317, 3) := by decide +kernel
theorem dX9_nearest_32 : decode cX9_nearest 32 = .ok (.invokestatic 182, 3) := by decide +kernel
theorem dX9_nearest_35 : decode cX9_nearest 35 = .ok (.istore_n 3, 1) := by decide +kernel
theorem dX9_nearest_36 : decode cX9_nearest 36 = .ok (.iinc 4 1, 3) := by decide +kernel
theorem dX9_nearest_39 : decode cX9_nearest 39 = .ok (.goto (-33), 3) := by decide +kernel
theorem dX9_nearest_42 : decode cX9_nearest 42 = .ok (.iload_n 3, 1) := by decide +kernel
theorem dX9_nearest_43 : decode cX9_nearest 43 = .ok (.ireturn, 1) := by decide +kernel
theorem dX9_miss_0 : decode cX9_miss 0 = .ok (.aload_n 0, 1) := by decide +kernel
theorem dX9_miss_1 : decode cX9_miss 1 = .ok (.iconst 0, 1) := by decide +kernel
theorem dX9_miss_2 : decode cX9_miss 2 = .ok (.putfield 76, 3) := by decide +kernel
theorem dX9_miss_5 : decode cX9_miss 5 = .ok (.aload_n 0, 1) := by decide +kernel
theorem dX9_miss_6 : decode cX9_miss 6 = .ok (.aload_n 0, 1) := by decide +kernel
theorem dX9_miss_7 : decode cX9_miss 7 = .ok (.iload_n 1, 1) := by decide +kernel
theorem dX9_miss_8 : decode cX9_miss 8 = .ok (.invokevirtual 357, 3) := by decide +kernel
theorem dX9_miss_11 : decode cX9_miss 11 = .ok (.ifCond .ne 7, 3) := by decide +kernel
theorem dX9_miss_14 : decode cX9_miss 14 = .ok (.iconst 1, 1) := by decide +kernel
theorem dX9_miss_15 : decode cX9_miss 15 = .ok (.goto 4, 3) := by decide +kernel
theorem dX9_miss_18 : decode cX9_miss 18 = .ok (.iconst 0, 1) := by decide +kernel
theorem dX9_miss_19 : decode cX9_miss 19 = .ok (.iconst 1, 1) := by decide +kernel
theorem dX9_miss_20 : decode cX9_miss 20 = .ok (.invokevirtual 162, 3) := by decide +kernel
theorem dX9_miss_23 : decode cX9_miss 23 = .ok (.ifCond .ne 34, 3) := by decide +kernel
theorem dX9_miss_26 : decode cX9_miss 26 = .ok (.aload_n 0, 1) := by decide +kernel
theorem dX9_miss_27 : decode cX9_miss 27 = .ok (.aload_n 0, 1) := by decide +kernel
theorem dX9_miss_28 : decode cX9_miss 28 = .ok (.iload_n 2, 1) := by decide +kernel
theorem dX9_miss_29 : decode cX9_miss 29 = .ok (.invokevirtual 295, 3) := by decide +kernel
theorem dX9_miss_32 : decode cX9_miss 32 = .ok (.ifCond .eq 13, 3) := by decide +kernel
theorem dX9_miss_35 : decode cX9_miss 35 = .ok (.iload_n 3, 1) := by decide +kernel
theorem dX9_miss_36 : decode cX9_miss 36 = .ok (.iconst 1, 1) := by decide +kernel
theorem dX9_miss_37 : decode cX9_miss 37 = .ok (.bipush 99, 2) := by decide +kernel
theorem dX9_miss_39 : decode cX9_miss 39 = .ok (.invokestatic 113, 3) := by decide +kernel
theorem dX9_miss_42 : decode cX9_miss 42 = .ok (.ifCond .ne 7, 3) := by decide +kernel
theorem dX9_miss_45 : decode cX9_miss 45 = .ok (.iconst 1, 1) := by decide +kernel
theorem dX9_miss_46 : decode cX9_miss 46 = .ok (.goto 4, 3) := by decide +kernel
theorem dX9_miss_49 : decode cX9_miss 49 = .ok (.iconst 0, 1) := by decide +kernel
theorem dX9_miss_50 : decode cX9_miss 50 = .ok (.iconst 2, 1) := by decide +kernel
theorem dX9_miss_51 : decode cX9_miss 51 = .ok (.invokevirtual 162, 3) := by decide +kernel
theorem dX9_miss_54 : decode cX9_miss 54 = .ok (.ifCond .eq 5, 3) := by decide +kernel
theorem dX9_miss_57 : decode cX9_miss 57 = .ok (.iconst 0, 1) := by decide +kernel
theorem dX9_miss_58 : decode cX9_miss 58 = .ok (.ireturn, 1) := by decide +kernel
theorem dX9_miss_59 : decode cX9_miss 59 = .ok (.aload_n 0, 1) := by decide +kernel
theorem dX9_miss_60 : decode cX9_miss 60 = .ok (.aload_n 0, 1) := by decide +kernel
theorem dX9_miss_61 : decode cX9_miss 61 = .ok (.getfield 61, 3) := by decide +kernel
theorem dX9_miss_64 : decode cX9_miss 64 = .ok (.iload_n 2, 1) := by decide +kernel
theorem dX9_miss_65 : decode cX9_miss 65 = .ok (.aaload, 1) := by decide +kernel
theorem dX9_miss_66 : decode cX9_miss 66 = .ok (.iconst 0, 1) := by decide +kernel
theorem dX9_miss_67 : decode cX9_miss 67 = .ok (.iaload, 1) := by decide +kernel
theorem dX9_miss_68 : decode cX9_miss 68 = .ok (.invokevirtual 263, 3) := by decide +kernel
theorem dX9_miss_71 : decode cX9_miss 71 = .ok (.istore 4, 2) := by decide +kernel
theorem dX9_miss_73 : decode cX9_miss 73 = .ok (.aload_n 0, 1) := by decide +kernel
theorem dX9_miss_74 : decode cX9_miss 74 = .ok (.iload_n 1, 1) := by decide +kernel
theorem dX9_miss_75 : decode cX9_miss 75 = .ok (.iload_n 2, 1) := by decide +kernel
theorem dX9_miss_76 : decode cX9_miss 76 = .ok (.iconst 0, 1) := by decide +kernel
theorem dX9_miss_77 : decode cX9_miss 77 = .ok (.invokevirtual 369, 3) := by decide +kernel
theorem dX9_miss_80 : decode cX9_miss 80 = .ok (.ifCond .eq 22, 3) := by decide +kernel
theorem dX9_miss_83 : decode cX9_miss 83 = .ok (.aload_n 0, 1) := by decide +kernel
theorem dX9_miss_84 : decode cX9_miss 84 = .ok (.getfield 61, 3) := by decide +kernel
theorem dX9_miss_87 : decode cX9_miss 87 = .ok (.iload_n 2, 1) := by decide +kernel
theorem dX9_miss_88 : decode cX9_miss 88 = .ok (.aaload, 1) := by decide +kernel
theorem dX9_miss_89 : decode cX9_miss 89 = .ok (.iconst 2, 1) := by decide +kernel
theorem dX9_miss_90 : decode cX9_miss 90 = .ok (.iaload, 1) := by decide +kernel
theorem dX9_miss_91 : decode cX9_miss 91 = .ok (.iconst 1, 1) := by decide +kernel
theorem dX9_miss_92 : decode cX9_miss 92 = .ok (.if_icmp .ne 8, 3) := by decide +kernel
theorem dX9_miss_95 : decode cX9_miss 95 = .ok (.bipush 7, 2) := by decide +kernel
theorem dX9_miss_97 : decode cX9_miss 97 = .ok (.goto 4, 3) := by decide +kernel
theorem dX9_miss_100 : decode cX9_miss 100 = .ok (.iconst (-1), 1) := by decide +kernel
theorem dX9_miss_101 : decode cX9_miss 101 = .ok (.ireturn, 1) := by decide +kernel
theorem dX9_miss_102 : decode cX9_miss 102 = .ok (.iload 4, 2) := by decide +kernel
theorem dX9_miss_104 : decode cX9_miss 104 = .ok (.iconst (-1), 1) := by decide +kernel
theorem dX9_miss_105 : decode cX9_miss 105 = .ok (.if_icmp .ne 5, 3) := by decide +kernel
theorem dX9_miss_108 : decode cX9_miss 108 = .ok (.iconst 0, 1) := by decide +kernel
theorem dX9_miss_109 : decode cX9_miss 109 = .ok (.ireturn, 1) := by decide +kernel
theorem dX9_miss_110 : decode cX9_miss 110 = .ok (.aload_n 0, 1) := by decide +kernel
theorem dX9_miss_111 : decode cX9_miss 111 = .ok (.iload_n 1, 1) := by decide +kernel
theorem dX9_miss_112 : decode cX9_miss 112 = .ok (.iload_n 2, 1) := by decide +kernel
theorem dX9_miss_113 : decode cX9_miss 113 = .ok (.iload 4, 2) := by decide +kernel
theorem dX9_miss_115 : decode cX9_miss 115 = .ok (.invokevirtual 360, 3) := by decide +kernel
theorem dX9_miss_118 : decode cX9_miss 118 = .ok (.iconst (-1), 1) := by decide +kernel
theorem dX9_miss_119 : decode cX9_miss 119 = .ok (.if_icmp .eq 18, 3) := by decide +kernel
theorem dX9_miss_122 : decode cX9_miss 122 = .ok (.aload_n 0, 1) := by decide +kernel
theorem dX9_miss_123 : decode cX9_miss 123 = .ok (.iload_n 1, 1) := by decide +kernel
theorem dX9_miss_124 : decode cX9_miss 124 = .ok (.iload_n 2, 1) := by decide +kernel
theorem dX9_miss_125 : decode cX9_miss 125 = .ok (.invokevirtual 366, 3) := by decide +kernel
theorem dX9_miss_128 : decode cX9_miss 128 = .ok (.ifCond .eq 7, 3) := by decide +kernel
theorem dX9_miss_131 : decode cX9_miss 131 = .ok (.iconst 3, 1) := by decide +kernel
theorem dX9_miss_132 : decode cX9_miss 132 = .ok (.goto 4, 3) := by decide +kernel
theorem dX9_miss_135 : decode cX9_miss 135 = .ok (.iconst 4, 1) := by decide +kernel
theorem dX9_miss_136 : decode cX9_miss 136 = .ok (.ireturn, 1) := by decide +kernel
theorem dX9_miss_137 : decode cX9_miss 137 = .ok (.aload_n 0, 1) := by decide +kernel
theorem dX9_miss_138 : decode cX9_miss 138 = .ok (.iload_n 2, 1) := by decide +kernel
theorem dX9_miss_139 : decode cX9_miss 139 = .ok (.iload 4, 2) := by decide +kernel
theorem dX9_miss_141 : decode cX9_miss 141 = .ok (.invokevirtual 372, 3) := by decide +kernel
theorem dX9_miss_144 : decode cX9_miss 144 = .ok (.ifCond .eq 5, 3) := by decide +kernel
theorem dX9_miss_147 : decode cX9_miss 147 = .ok (.iconst 5, 1) := by decide +kernel
theorem dX9_miss_148 : decode cX9_miss 148 = .ok (.ireturn, 1) := by decide +kernel
theorem dX9_miss_149 : decode cX9_miss 149 = .ok (.aload_n 0, 1) := by decide +kernel
theorem dX9_miss_150 : decode cX9_miss 150 = .ok (.iload_n 2, 1) := by decide +kernel
theorem dX9_miss_151 : decode cX9_miss 151 = .ok (.iload 4, 2) := by decide +kernel
theorem dX9_miss_153 : decode cX9_miss 153 = .ok (.invokevirtual 375, 3) := by decide +kernel
theorem dX9_miss_156 : decode cX9_miss 156 = .ok (.iload_n 3, 1) := by decide +kernel
theorem dX9_miss_157 : decode cX9_miss 157 = .ok (.if_icmp .lt 6, 3) := by decide +kernel
theorem dX9_miss_160 : decode cX9_miss 160 = .ok (.bipush 6, 2) := by decide +kernel
theorem dX9_miss_162 : decode cX9_miss 162 = .ok (.ireturn, 1) := by decide +kernel
theorem dX9_miss_163 : decode cX9_miss 163 = .ok (.aload_n 0, 1) := by decide +kernel
theorem dX9_miss_164 : decode cX9_miss 164 = .ok (.iload_n 2, 1) := by decide +kernel
theorem dX9_miss_165 : decode cX9_miss 165 = .ok (.iload 4, 2) := by decide +kernel
theorem dX9_miss_167 : decode cX9_miss 167 = .ok (.invokevirtual 375, 3) := by decide +kernel
theorem dX9_miss_170 : decode cX9_miss 170 = .ok (.iconst 2, 1) := by decide +kernel
theorem dX9_miss_171 : decode cX9_miss 171 = .ok (.if_icmp .le 7, 3) := by decide +kernel
theorem dX9_miss_174 : decode cX9_miss 174 = .ok (.iconst 1, 1) := by decide +kernel
theorem dX9_miss_175 : decode cX9_miss 175 = .ok (.goto 4, 3) := by decide +kernel
theorem dX9_miss_178 : decode cX9_miss 178 = .ok (.iconst 2, 1) := by decide +kernel
theorem dX9_miss_179 : decode cX9_miss 179 = .ok (.ireturn, 1) := by decide +kernel
theorem dX9_drawn_0 : decode cX9_drawn 0 = .ok (.aload_n 0, 1) := by decide +kernel
theorem dX9_drawn_1 : decode cX9_drawn 1 = .ok (.iconst 0, 1) := by decide +kernel
theorem dX9_drawn_2 : decode cX9_drawn 2 = .ok (.putfield 76, 3) := by decide +kernel
theorem dX9_drawn_5 : decode cX9_drawn 5 = .ok (.aload_n 0, 1) := by decide +kernel
theorem dX9_drawn_6 : decode cX9_drawn 6 = .ok (.aload_n 0, 1) := by decide +kernel
theorem dX9_drawn_7 : decode cX9_drawn 7 = .ok (.iload_n 1, 1) := by decide +kernel
theorem dX9_drawn_8 : decode cX9_drawn 8 = .ok (.invokevirtual 357, 3) := by decide +kernel
theorem dX9_drawn_11 : decode cX9_drawn 11 = .ok (.ifCond .ne 7, 3) := by decide +kernel
theorem dX9_drawn_14 : decode cX9_drawn 14 = .ok (.iconst 1, 1) := by decide +kernel
theorem dX9_drawn_15 : decode cX9_drawn 15 = .ok (.goto 4, 3) := by decide +kernel
theorem dX9_drawn_18 : decode cX9_drawn 18 = .ok (.iconst 0, 1) := by decide +kernel
theorem dX9_drawn_19 : decode cX9_drawn 19 = .ok (.iconst 1, 1) := by decide +kernel
theorem dX9_drawn_20 : decode cX9_drawn 20 = .ok (.invokevirtual 162, 3) := by decide +kernel
theorem dX9_drawn_23 : decode cX9_drawn 23 = .ok (.ifCond .ne 34, 3) := by decide +kernel
theorem dX9_drawn_26 : decode cX9_drawn 26 = .ok (.aload_n 0, 1) := by decide +kernel
theorem dX9_drawn_27 : decode cX9_drawn 27 = .ok (.aload_n 0, 1) := by decide +kernel
theorem dX9_drawn_28 : decode cX9_drawn 28 = .ok (.iload_n 2, 1) := by decide +kernel
theorem dX9_drawn_29 : decode cX9_drawn 29 = .ok (.invokevirtual 295, 3) := by decide +kernel
theorem dX9_drawn_32 : decode cX9_drawn 32 = .ok (.ifCond .eq 13, 3) := by decide +kernel
theorem dX9_drawn_35 : decode cX9_drawn 35 = .ok (.iload_n 3, 1) := by decide +kernel
theorem dX9_drawn_36 : decode cX9_drawn 36 = .ok (.iconst 0, 1) := by decide +kernel
theorem dX9_drawn_37 : decode cX9_drawn 37 = .ok (.bipush 50, 2) := by decide +kernel
theorem dX9_drawn_39 : decode cX9_drawn 39 = .ok (.invokestatic 113, 3) := by decide +kernel
theorem dX9_drawn_42 : decode cX9_drawn 42 = .ok (.ifCond .ne 7, 3) := by decide +kernel
theorem dX9_drawn_45 : decode cX9_drawn 45 = .ok (.iconst 1, 1) := by decide +kernel
theorem dX9_drawn_46 : decode cX9_drawn 46 = .ok (.goto 4, 3) := by decide +kernel
theorem dX9_drawn_49 : decode cX9_drawn 49 = .ok (.iconst 0, 1) := by decide +kernel
theorem dX9_drawn_50 : decode cX9_drawn 50 = .ok (.iconst 2, 1) := by decide +kernel
theorem dX9_drawn_51 : decode cX9_drawn 51 = .ok (.invokevirtual 162, 3) := by decide +kernel
theorem dX9_drawn_54 : decode cX9_drawn 54 = .ok (.ifCond .eq 5, 3) := by decide +kernel
theorem dX9_drawn_57 : decode cX9_drawn 57 = .ok (.iconst 0, 1) := by decide +kernel
theorem dX9_drawn_58 : decode cX9_drawn 58 = .ok (.ireturn, 1) := by decide +kernel
theorem dX9_drawn_59 : decode cX9_drawn 59 = .ok (.aload_n 0, 1) := by decide +kernel
theorem dX9_drawn_60 : decode cX9_drawn 60 = .ok (.aload_n 0, 1) := by decide +kernel
theorem dX9_drawn_61 : decode cX9_drawn 61 = .ok (.getfield 61, 3) := by decide +kernel
theorem dX9_drawn_64 : decode cX9_drawn 64 = .ok (.iload_n 2, 1) := by decide +kernel
theorem dX9_drawn_65 : decode cX9_drawn 65 = .ok (.aaload, 1) := by decide +kernel
theorem dX9_drawn_66 : decode cX9_drawn 66 = .ok (.iconst 0, 1) := by decide +kernel
theorem dX9_drawn_67 : decode cX9_drawn 67 = .ok (.iaload, 1) := by decide +kernel
theorem dX9_drawn_68 : decode cX9_drawn 68 = .ok (.invokevirtual 263, 3) := by decide +kernel
theorem dX9_drawn_71 : decode cX9_drawn 71 = .ok (.istore 5, 2) := by decide +kernel
theorem dX9_drawn_73 : decode cX9_drawn 73 = .ok (.iload 5, 2) := by decide +kernel
theorem dX9_drawn_75 : decode cX9_drawn 75 = .ok (.iconst (-1), 1) := by decide +kernel
theorem dX9_drawn_76 : decode cX9_drawn 76 = .ok (.if_icmp .ne 5, 3) := by decide +kernel
theorem dX9_drawn_79 : decode cX9_drawn 79 = .ok (.iconst (-1), 1) := by decide +kernel
theorem dX9_drawn_80 : decode cX9_drawn 80 = .ok (.ireturn, 1) := by decide +kernel
theorem dX9_drawn_81 : decode cX9_drawn 81 = .ok (.aload_n 0, 1) := by decide +kernel
theorem dX9_drawn_82 : decode cX9_drawn 82 = .ok (.iload_n 1, 1) := by decide +kernel
theorem dX9_drawn_83 : decode cX9_drawn 83 = .ok (.iload_n 2, 1) := by decide +kernel
theorem dX9_drawn_84 : decode cX9_drawn 84 = .ok (.iload 5, 2) := by decide +kernel
theorem dX9_drawn_86 : decode cX9_drawn 86 = .ok (.iload_n 3, 1) := by decide +kernel
theorem dX9_drawn_87 : decode cX9_drawn 87 = .ok (.iload 4, 2) := by decide +kernel
theorem dX9_drawn_89 : decode cX9_drawn 89 = .ok (.iconst 0, 1) := by decide +kernel
theorem dX9_drawn_90 : decode cX9_drawn 90 = .ok (.invokevirtual 353, 3) := by decide +kernel
theorem dX9_drawn_93 : decode cX9_drawn 93 = .ok (.aload_n 0, 1) := by decide +kernel
theorem dX9_drawn_94 : decode cX9_drawn 94 = .ok (.getfield 340, 3) := by decide +kernel
theorem dX9_drawn_97 : decode cX9_drawn 97 = .ok (.ireturn, 1) := by decide +kernel
theorem dX9_changeOf_0 : decode cX9_changeOf 0 = .ok (.aload_n 0, 1) := by decide +kernel
theorem dX9_changeOf_1 : decode cX9_changeOf 1 = .ok (.aload_n 0, 1) := by decide +kernel
theorem dX9_changeOf_2 : decode cX9_changeOf 2 = .ok (.getfield 61, 3) := by decide +kernel
theorem dX9_changeOf_5 : decode cX9_changeOf 5 = .ok (.iload_n 2, 1) := by decide +kernel
theorem dX9_changeOf_6 : decode cX9_changeOf 6 = .ok (.aaload, 1) := by decide +kernel
theorem dX9_changeOf_7 : decode cX9_changeOf 7 = .ok (.iconst 0, 1) := by decide +kernel
theorem dX9_changeOf_8 : decode cX9_changeOf 8 = .ok (.iaload, 1) := by decide +kernel
theorem dX9_changeOf_9 : decode cX9_changeOf 9 = .ok (.invokevirtual 266, 3) := by decide +kernel
theorem dX9_changeOf_12 : decode cX9_changeOf 12 = .ok (.istore_n 3, 1) := by decide +kernel
theorem dX9_changeOf_13 : decode cX9_changeOf 13 = .ok (.iload_n 3, 1) := by decide +kernel
theorem dX9_changeOf_14 : decode cX9_changeOf 14 = .ok (.iconst (-1), 1) := by decide +kernel
theorem dX9_changeOf_15 : decode cX9_changeOf 15 = .ok (.if_icmp .ne 5, 3) := by decide +kernel
theorem dX9_changeOf_18 : decode cX9_changeOf 18 = .ok (.iconst (-1), 1) := by decide +kernel
theorem dX9_changeOf_19 : decode cX9_changeOf 19 = .ok (.ireturn, 1) := by decide +kernel
theorem dX9_changeOf_20 : decode cX9_changeOf 20 = .ok (.aload_n 0, 1) := by decide +kernel
theorem dX9_changeOf_21 : decode cX9_changeOf 21 = .ok (.iload_n 1, 1) := by decide +kernel
theorem dX9_changeOf_22 : decode cX9_changeOf 22 = .ok (.iload_n 2, 1) := by decide +kernel
theorem dX9_changeOf_23 : decode cX9_changeOf 23 = .ok (.iload_n 3, 1) := by decide +kernel
theorem dX9_changeOf_24 : decode cX9_changeOf 24 = .ok (.iconst 0, 1) := by decide +kernel
theorem dX9_changeOf_25 : decode cX9_changeOf 25 = .ok (.iconst 0, 1) := by decide +kernel
theorem dX9_changeOf_26 : decode cX9_changeOf 26 = .ok (.iconst 1, 1) := by decide +kernel
theorem dX9_changeOf_27 : decode cX9_changeOf 27 = .ok (.invokevirtual 353, 3) := by decide +kernel
theorem dX9_changeOf_30 : decode cX9_changeOf 30 = .ok (.aload_n 0, 1) := by decide +kernel
theorem dX9_changeOf_31 : decode cX9_changeOf 31 = .ok (.getfield 340, 3) := by decide +kernel
theorem dX9_changeOf_34 : decode cX9_changeOf 34 = .ok (.ireturn, 1) := by decide +kernel
theorem dX9_change_0 : decode cX9_change 0 = .ok (.aload_n 0, 1) := by decide +kernel
theorem dX9_change_1 : decode cX9_change 1 = .ok (.iconst 0, 1) := by decide +kernel
theorem dX9_change_2 : decode cX9_change 2 = .ok (.putfield 76, 3) := by decide +kernel
theorem dX9_change_5 : decode cX9_change 5 = .ok (.aload_n 0, 1) := by decide +kernel
theorem dX9_change_6 : decode cX9_change 6 = .ok (.aload_n 0, 1) := by decide +kernel
theorem dX9_change_7 : decode cX9_change 7 = .ok (.iload_n 1, 1) := by decide +kernel
theorem dX9_change_8 : decode cX9_change 8 = .ok (.invokevirtual 357, 3) := by decide +kernel
theorem dX9_change_11 : decode cX9_change 11 = .ok (.ifCond .ne 7, 3) := by decide +kernel
theorem dX9_change_14 : decode cX9_change 14 = .ok (.iconst 1, 1) := by decide +kernel
theorem dX9_change_15 : decode cX9_change 15 = .ok (.goto 4, 3) := by decide +kernel
theorem dX9_change_18 : decode cX9_change 18 = .ok (.iconst 0, 1) := by decide +kernel
theorem dX9_change_19 : decode cX9_change 19 = .ok (.iconst 1, 1) := by decide +kernel
theorem dX9_change_20 : decode cX9_change 20 = .ok (.invokevirtual 162, 3) := by decide +kernel
theorem dX9_change_23 : decode cX9_change 23 = .ok (.ifCond .ne 24, 3) := by decide +kernel
theorem dX9_change_26 : decode cX9_change 26 = .ok (.aload_n 0, 1) := by decide +kernel
theorem dX9_change_27 : decode cX9_change 27 = .ok (.aload_n 0, 1) := by decide +kernel
theorem dX9_change_28 : decode cX9_change 28 = .ok (.iload_n 2, 1) := by decide +kernel
theorem dX9_change_29 : decode cX9_change 29 = .ok (.invokevirtual 295, 3) := by decide +kernel
theorem dX9_change_32 : decode cX9_change 32 = .ok (.ifCond .ne 7, 3) := by decide +kernel
theorem dX9_change_35 : decode cX9_change 35 = .ok (.iconst 1, 1) := by decide +kernel
theorem dX9_change_36 : decode cX9_change 36 = .ok (.goto 4, 3) := by decide +kernel
theorem dX9_change_39 : decode cX9_change 39 = .ok (.iconst 0, 1) := by decide +kernel
theorem dX9_change_40 : decode cX9_change 40 = .ok (.iconst 2, 1) := by decide +kernel
theorem dX9_change_41 : decode cX9_change 41 = .ok (.invokevirtual 162, 3) := by decide +kernel
theorem dX9_change_44 : decode cX9_change 44 = .ok (.ifCond .eq 5, 3) := by decide +kernel
theorem dX9_change_47 : decode cX9_change 47 = .ok (.iconst 0, 1) := by decide +kernel
theorem dX9_change_48 : decode cX9_change 48 = .ok (.ireturn, 1) := by decide +kernel
theorem dX9_change_49 : decode cX9_change 49 = .ok (.aload_n 0, 1) := by decide +kernel
theorem dX9_change_50 : decode cX9_change 50 = .ok (.iload_n 1, 1) := by decide +kernel
theorem dX9_change_51 : decode cX9_change 51 = .ok (.iload_n 2, 1) := by decide +kernel
theorem dX9_change_52 : decode cX9_change 52 = .ok (.invokevirtual 378, 3) := by decide +kernel
theorem dX9_change_55 : decode cX9_change 55 = .ok (.ireturn, 1) := by decide +kernel
theorem dX9_yet_0 : decode cX9_yet 0 = .ok (.aload_n 0, 1) := by decide +kernel
theorem dX9_yet_1 : decode cX9_yet 1 = .ok (.iconst 0, 1) := by decide +kernel
theorem dX9_yet_2 : decode cX9_yet 2 = .ok (.putfield 76, 3) := by decide +kernel
theorem dX9_yet_5 : decode cX9_yet 5 = .ok (.aload_n 0, 1) := by decide +kernel
theorem dX9_yet_6 : decode cX9_yet 6 = .ok (.aload_n 0, 1) := by decide +kernel
theorem dX9_yet_7 : decode cX9_yet 7 = .ok (.iload_n 1, 1) := by decide +kernel
theorem dX9_yet_8 : decode cX9_yet 8 = .ok (.invokevirtual 357, 3) := by decide +kernel
theorem dX9_yet_11 : decode cX9_yet 11 = .ok (.ifCond .ne 7, 3) := by decide +kernel
theorem dX9_yet_14 : decode cX9_yet 14 = .ok (.iconst 1, 1) := by decide +kernel
theorem dX9_yet_15 : decode cX9_yet 15 = .ok (.goto 4, 3) := by decide +kernel
theorem dX9_yet_18 : decode cX9_yet 18 = .ok (.iconst 0, 1) := by decide +kernel
theorem dX9_yet_19 : decode cX9_yet 19 = .ok (.iconst 1, 1) := by decide +kernel
theorem dX9_yet_20 : decode cX9_yet 20 = .ok (.invokevirtual 162, 3) := by decide +kernel
theorem dX9_yet_23 : decode cX9_yet 23 = .ok (.ifCond .eq 5, 3) := by decide +kernel
theorem dX9_yet_26 : decode cX9_yet 26 = .ok (.iconst 0, 1) := by decide +kernel
theorem dX9_yet_27 : decode cX9_yet 27 = .ok (.ireturn, 1) := by decide +kernel
theorem dX9_yet_28 : decode cX9_yet 28 = .ok (.iconst 0, 1) := by decide +kernel
theorem dX9_yet_29 : decode cX9_yet 29 = .ok (.istore_n 2, 1) := by decide +kernel
theorem dX9_yet_30 : decode cX9_yet 30 = .ok (.iconst 0, 1) := by decide +kernel
theorem dX9_yet_31 : decode cX9_yet 31 = .ok (.istore_n 3, 1) := by decide +kernel
theorem dX9_yet_32 : decode cX9_yet 32 = .ok (.iload_n 3, 1) := by decide +kernel
theorem dX9_yet_33 : decode cX9_yet 33 = .ok (.aload_n 0, 1) := by decide +kernel
theorem dX9_yet_34 : decode cX9_yet 34 = .ok (.getfield 288, 3) := by decide +kernel
theorem dX9_yet_37 : decode cX9_yet 37 = .ok (.if_icmp .ge 58, 3) := by decide +kernel
theorem dX9_yet_40 : decode cX9_yet 40 = .ok (.aload_n 0, 1) := by decide +kernel
theorem dX9_yet_41 : decode cX9_yet 41 = .ok (.aload_n 0, 1) := by decide +kernel
theorem dX9_yet_42 : decode cX9_yet 42 = .ok (.getfield 61, 3) := by decide +kernel
theorem dX9_yet_45 : decode cX9_yet 45 = .ok (.iload_n 3, 1) := by decide +kernel
theorem dX9_yet_46 : decode cX9_yet 46 = .ok (.aaload, 1) := by decide +kernel
theorem dX9_yet_47 : decode cX9_yet 47 = .ok (.iconst 0, 1) := by decide +kernel
theorem dX9_yet_48 : decode cX9_yet 48 = .ok (.iaload, 1) := by decide +kernel
theorem dX9_yet_49 : decode cX9_yet 49 = .ok (.invokevirtual 263, 3) := by decide +kernel
theorem dX9_yet_52 : decode cX9_yet 52 = .ok (.istore 4, 2) := by decide +kernel
theorem dX9_yet_54 : decode cX9_yet 54 = .ok (.iload 4, 2) := by decide +kernel
theorem dX9_yet_56 : decode cX9_yet 56 = .ok (.iconst (-1), 1) := by decide +kernel
theorem dX9_yet_57 : decode cX9_yet 57 = .ok (.if_icmp .eq 32, 3) := by decide +kernel
theorem dX9_yet_60 : decode cX9_yet 60 = .ok (.aload_n 0, 1) := by decide +kernel
theorem dX9_yet_61 : decode cX9_yet 61 = .ok (.iload_n 3, 1) := by decide +kernel
theorem dX9_yet_62 : decode cX9_yet 62 = .ok (.iload 4, 2) := by decide +kernel
theorem dX9_yet_64 : decode cX9_yet 64 = .ok (.invokevirtual 375, 3) := by decide +kernel
theorem dX9_yet_67 : decode cX9_yet 67 = .ok (.iconst 2, 1) := by decide +kernel
theorem dX9_yet_68 : decode cX9_yet 68 = .ok (.if_icmp .gt 21, 3) := by decide +kernel
theorem dX9_yet_71 : decode cX9_yet 71 = .ok (.aload_n 0, 1) := by decide +kernel
theorem dX9_yet_72 : decode cX9_yet 72 = .ok (.iload_n 1, 1) := by decide +kernel
theorem dX9_yet_73 : decode cX9_yet 73 = .ok (.iload_n 3, 1) := by decide +kernel
theorem dX9_yet_74 : decode cX9_yet 74 = .ok (.iload 4, 2) := by decide +kernel
theorem dX9_yet_76 : decode cX9_yet 76 = .ok (.invokevirtual 360, 3) := by decide +kernel
theorem dX9_yet_79 : decode cX9_yet 79 = .ok (.iconst (-1), 1) := by decide +kernel
theorem dX9_yet_80 : decode cX9_yet 80 = .ok (.if_icmp .ne 9, 3) := by decide +kernel
theorem dX9_yet_83 : decode cX9_yet 83 = .ok (.iload_n 2, 1) := by decide +kernel
theorem dX9_yet_84 : decode cX9_yet 84 = .ok (.iconst 1, 1) := by decide +kernel
theorem dX9_yet_85 : decode cX9_yet 85 = .ok (.iload_n 3, 1) := by decide +kernel
theorem dX9_yet_86 : decode cX9_yet 86 = .ok (.ishl, 1) := by decide +kernel
theorem dX9_yet_87 : decode cX9_yet 87 = .ok (.ior, 1) := by decide +kernel
theorem dX9_yet_88 : decode cX9_yet 88 = .ok (.istore_n 2, 1) := by decide +kernel
theorem dX9_yet_89 : decode cX9_yet 89 = .ok (.iinc 3 1, 3) := by decide +kernel
theorem dX9_yet_92 : decode cX9_yet 92 = .ok (.goto (-60), 3) := by decide +kernel
theorem dX9_yet_95 : decode cX9_yet 95 = .ok (.iload_n 2, 1) := by decide +kernel
theorem dX9_yet_96 : decode cX9_yet 96 = .ok (.ireturn, 1) := by decide +kernel
theorem dX9_least_0 : decode cX9_least 0 = .ok (.aload_n 0, 1) := by decide +kernel
theorem dX9_least_1 : decode cX9_least 1 = .ok (.iconst 0, 1) := by decide +kernel
theorem dX9_least_2 : decode cX9_least 2 = .ok (.putfield 76, 3) := by decide +kernel
theorem dX9_least_5 : decode cX9_least 5 = .ok (.aload_n 0, 1) := by decide +kernel
theorem dX9_least_6 : decode cX9_least 6 = .ok (.aload_n 0, 1) := by decide +kernel
theorem dX9_least_7 : decode cX9_least 7 = .ok (.iload_n 1, 1) := by decide +kernel
theorem dX9_least_8 : decode cX9_least 8 = .ok (.invokevirtual 357, 3) := by decide +kernel
theorem dX9_least_11 : decode cX9_least 11 = .ok (.ifCond .ne 7, 3) := by decide +kernel
theorem dX9_least_14 : decode cX9_least 14 = .ok (.iconst 1, 1) := by decide +kernel
theorem dX9_least_15 : decode cX9_least 15 = .ok (.goto 4, 3) := by decide +kernel
theorem dX9_least_18 : decode cX9_least 18 = .ok (.iconst 0, 1) := by decide +kernel
theorem dX9_least_19 : decode cX9_least 19 = .ok (.iconst 1, 1) := by decide +kernel
theorem dX9_least_20 : decode cX9_least 20 = .ok (.invokevirtual 162, 3) := by decide +kernel
theorem dX9_least_23 : decode cX9_least 23 = .ok (.ifCond .ne 33, 3) := by decide +kernel
theorem dX9_least_26 : decode cX9_least 26 = .ok (.aload_n 0, 1) := by decide +kernel
theorem dX9_least_27 : decode cX9_least 27 = .ok (.aload_n 0, 1) := by decide +kernel
theorem dX9_least_28 : decode cX9_least 28 = .ok (.iload_n 2, 1) := by decide +kernel
theorem dX9_least_29 : decode cX9_least 29 = .ok (.invokevirtual 295, 3) := by decide +kernel
theorem dX9_least_32 : decode cX9_least 32 = .ok (.ifCond .eq 12, 3) := by decide +kernel
theorem dX9_least_35 : decode cX9_least 35 = .ok (.iload_n 3, 1) := by decide +kernel
theorem dX9_least_36 : decode cX9_least 36 = .ok (.iconst 0, 1) := by decide +kernel
theorem dX9_least_37 : decode cX9_least 37 = .ok (.iconst 2, 1) := by decide +kernel
theorem dX9_least_38 : decode cX9_least 38 = .ok (.invokestatic 113, 3) := by decide +kernel
theorem dX9_least_41 : decode cX9_least 41 = .ok (.ifCond .ne 7, 3) := by decide +kernel
theorem dX9_least_44 : decode cX9_least 44 = .ok (.iconst 1, 1) := by decide +kernel
theorem dX9_least_45 : decode cX9_least 45 = .ok (.goto 4, 3) := by decide +kernel
theorem dX9_least_48 : decode cX9_least 48 = .ok (.iconst 0, 1) := by decide +kernel
theorem dX9_least_49 : decode cX9_least 49 = .ok (.iconst 2, 1) := by decide +kernel
theorem dX9_least_50 : decode cX9_least 50 = .ok (.invokevirtual 162, 3) := by decide +kernel
theorem dX9_least_53 : decode cX9_least 53 = .ok (.ifCond .eq 5, 3) := by decide +kernel
theorem dX9_least_56 : decode cX9_least 56 = .ok (.iconst 0, 1) := by decide +kernel
theorem dX9_least_57 : decode cX9_least 57 = .ok (.ireturn, 1) := by decide +kernel
theorem dX9_least_58 : decode cX9_least 58 = .ok (.aload_n 0, 1) := by decide +kernel
theorem dX9_least_59 : decode cX9_least 59 = .ok (.aload_n 0, 1) := by decide +kernel
theorem dX9_least_60 : decode cX9_least 60 = .ok (.getfield 61, 3) := by decide +kernel
theorem dX9_least_63 : decode cX9_least 63 = .ok (.iload_n 2, 1) := by decide +kernel
theorem dX9_least_64 : decode cX9_least 64 = .ok (.aaload, 1) := by decide +kernel
theorem dX9_least_65 : decode cX9_least 65 = .ok (.iconst 0, 1) := by decide +kernel
theorem dX9_least_66 : decode cX9_least 66 = .ok (.iaload, 1) := by decide +kernel
theorem dX9_least_67 : decode cX9_least 67 = .ok (.invokevirtual 263, 3) := by decide +kernel
theorem dX9_least_70 : decode cX9_least 70 = .ok (.istore 4, 2) := by decide +kernel
theorem dX9_least_72 : decode cX9_least 72 = .ok (.iconst (-1), 1) := by decide +kernel
theorem dX9_least_73 : decode cX9_least 73 = .ok (.istore 5, 2) := by decide +kernel
theorem dX9_least_75 : decode cX9_least 75 = .ok (.iload_n 3, 1) := by decide +kernel
theorem dX9_least_76 : decode cX9_least 76 = .ok (.iconst 1, 1) := by decide +kernel
theorem dX9_least_77 : decode cX9_least 77 = .ok (.if_icmp .ne 7, 3) := by decide +kernel
theorem dX9_least_80 : decode cX9_least 80 = .ok (.iconst 0, 1) := by decide +kernel
theorem dX9_least_81 : decode cX9_least 81 = .ok (.goto 4, 3) := by decide +kernel
theorem dX9_least_84 : decode cX9_least 84 = .ok (.iconst 1, 1) := by decide +kernel
theorem dX9_least_85 : decode cX9_least 85 = .ok (.istore 6, 2) := by decide +kernel
theorem dX9_least_87 : decode cX9_least 87 = .ok (.iload 4, 2) := by decide +kernel
theorem dX9_least_89 : decode cX9_least 89 = .ok (.iconst (-1), 1) := by decide +kernel
theorem dX9_least_90 : decode cX9_least 90 = .ok (.if_icmp .eq 96, 3) := by decide +kernel
theorem dX9_least_93 : decode cX9_least 93 = .ok (.iload 5, 2) := by decide +kernel
theorem dX9_least_95 : decode cX9_least 95 = .ok (.iconst (-1), 1) := by decide +kernel
theorem dX9_least_96 : decode cX9_least 96 = .ok (.if_icmp .ne 90, 3) := by decide +kernel
theorem dX9_least_99 : decode cX9_least 99 = .ok (.iload 6, 2) := by decide +kernel
theorem dX9_least_101 : decode cX9_least 101 = .ok (.iload_n 3, 1) := by decide +kernel
theorem dX9_least_102 : decode cX9_least 102 = .ok (.iconst 1, 1) := by decide +kernel
theorem dX9_least_103 : decode cX9_least 103 = .ok (.if_icmp .ne 8, 3) := by decide +kernel
theorem dX9_least_106 : decode cX9_least 106 = .ok (.bipush 20, 2) := by decide +kernel
theorem dX9_least_108 : decode cX9_least 108 = .ok (.goto 5, 3) := by decide +kernel
theorem dX9_least_111 : decode cX9_least 111 = .ok (.bipush 9, 2) := by decide +kernel
theorem dX9_least_113 : decode cX9_least 113 = .ok (.if_icmp .gt 73, 3) := by decide +kernel
theorem dX9_least_116 : decode cX9_least 116 = .ok (.aload_n 0, 1) := by decide +kernel
theorem dX9_least_117 : decode cX9_least 117 = .ok (.iload_n 3, 1) := by decide +kernel
theorem dX9_least_118 : decode cX9_least 118 = .ok (.ifCond .ne 8, 3) := by decide +kernel
theorem dX9_least_121 : decode cX9_least 121 = .ok (.iload 6, 2) := by decide +kernel
theorem dX9_least_123 : decode cX9_least 123 = .ok (.goto 4, 3) := by decide +kernel
theorem dX9_least_126 : decode cX9_least 126 = .ok (.iconst 0, 1) := by decide +kernel
theorem dX9_least_127 : decode cX9_least 127 = .ok (.putfield 320, 3) := by decide +kernel
theorem dX9_least_130 : decode cX9_least 130 = .ok (.aload_n 0, 1) := by decide +kernel
theorem dX9_least_131 : decode cX9_least 131 = .ok (.iload_n 3, 1) := by decide +kernel
theorem dX9_least_132 : decode cX9_least 132 = .ok (.iconst 1, 1) := by decide +kernel
theorem dX9_least_133 : decode cX9_least 133 = .ok (.if_icmp .ne 8, 3) := by decide +kernel
theorem dX9_least_136 : decode cX9_least 136 = .ok (.iload 6, 2) := by decide +kernel
theorem dX9_least_138 : decode cX9_least 138 = .ok (.goto 4, 3) := by decide +kernel
theorem dX9_least_141 : decode cX9_least 141 = .ok (.iconst 0, 1) := by decide +kernel
theorem dX9_least_142 : decode cX9_least 142 = .ok (.putfield 314, 3) := by decide +kernel
theorem dX9_least_145 : decode cX9_least 145 = .ok (.aload_n 0, 1) := by decide +kernel
theorem dX9_least_146 : decode cX9_least 146 = .ok (.iload_n 3, 1) := by decide +kernel
theorem dX9_least_147 : decode cX9_least 147 = .ok (.iconst 2, 1) := by decide +kernel
theorem dX9_least_148 : decode cX9_least 148 = .ok (.if_icmp .ne 8, 3) := by decide +kernel
theorem dX9_least_151 : decode cX9_least 151 = .ok (.iload 6, 2) := by decide +kernel
theorem dX9_least_153 : decode cX9_least 153 = .ok (.goto 4, 3) := by decide +kernel
theorem dX9_least_156 : decode cX9_least 156 = .ok (.iconst 1, 1) := by decide +kernel
theorem dX9_least_157 : decode cX9_least 157 = .ok (.putfield 73, 3) := by decide +kernel
theorem dX9_least_160 : decode cX9_least 160 = .ok (.aload_n 0, 1) := by decide +kernel
theorem dX9_least_161 : decode cX9_least 161 = .ok (.iload_n 1, 1) := by decide +kernel
theorem dX9_least_162 : decode cX9_least 162 = .ok (.iload_n 2, 1) := by decide +kernel
theorem dX9_least_163 : decode cX9_least 163 = .ok (.iload 4, 2) := by decide +kernel
theorem dX9_least_165 : decode cX9_least 165 = .ok (.invokevirtual 360, 3) := by decide +kernel
theorem dX9_least_168 : decode cX9_least 168 = .ok (.iconst (-1), 1) := by decide +kernel
theorem dX9_least_169 : decode cX9_least 169 = .ok (.if_icmp .eq 8, 3) := by decide +kernel
theorem dX9_least_172 : decode cX9_least 172 = .ok (.iload 6, 2) := by decide +kernel
theorem dX9_least_174 : decode cX9_least 174 = .ok (.goto 4, 3) := by decide +kernel
theorem dX9_least_177 : decode cX9_least 177 = .ok (.iconst (-1), 1) := by decide +kernel
theorem dX9_least_178 : decode cX9_least 178 = .ok (.istore 5, 2) := by decide +kernel
theorem dX9_least_180 : decode cX9_least 180 = .ok (.iinc 6 1, 3) := by decide +kernel
theorem dX9_least_183 : decode cX9_least 183 = .ok (.goto (-96), 3) := by decide +kernel
theorem dX9_least_186 : decode cX9_least 186 = .ok (.aload_n 0, 1) := by decide +kernel
theorem dX9_least_187 : decode cX9_least 187 = .ok (.iconst 0, 1) := by decide +kernel
theorem dX9_least_188 : decode cX9_least 188 = .ok (.putfield 320, 3) := by decide +kernel
theorem dX9_least_191 : decode cX9_least 191 = .ok (.aload_n 0, 1) := by decide +kernel
theorem dX9_least_192 : decode cX9_least 192 = .ok (.iconst 0, 1) := by decide +kernel
theorem dX9_least_193 : decode cX9_least 193 = .ok (.putfield 314, 3) := by decide +kernel
theorem dX9_least_196 : decode cX9_least 196 = .ok (.aload_n 0, 1) := by decide +kernel
theorem dX9_least_197 : decode cX9_least 197 = .ok (.iconst 1, 1) := by decide +kernel
theorem dX9_least_198 : decode cX9_least 198 = .ok (.putfield 73, 3) := by decide +kernel
theorem dX9_least_201 : decode cX9_least 201 = .ok (.iload 5, 2) := by decide +kernel
theorem dX9_least_203 : decode cX9_least 203 = .ok (.ireturn, 1) := by decide +kernel
theorem dX9_answer_0 : decode cX9_answer 0 = .ok (.aload_n 0, 1) := by decide +kernel
theorem dX9_answer_1 : decode cX9_answer 1 = .ok (.iconst 0, 1) := by decide +kernel
theorem dX9_answer_2 : decode cX9_answer 2 = .ok (.putfield 76, 3) := by decide +kernel
theorem dX9_answer_5 : decode cX9_answer 5 = .ok (.aload_n 0, 1) := by decide +kernel
theorem dX9_answer_6 : decode cX9_answer 6 = .ok (.aload_n 0, 1) := by decide +kernel
theorem dX9_answer_7 : decode cX9_answer 7 = .ok (.iload_n 1, 1) := by decide +kernel
theorem dX9_answer_8 : decode cX9_answer 8 = .ok (.invokevirtual 295, 3) := by decide +kernel
theorem dX9_answer_11 : decode cX9_answer 11 = .ok (.ifCond .eq 12, 3) := by decide +kernel
theorem dX9_answer_14 : decode cX9_answer 14 = .ok (.iload_n 2, 1) := by decide +kernel
theorem dX9_answer_15 : decode cX9_answer 15 = .ok (.iconst 0, 1) := by decide +kernel
theorem dX9_answer_16 : decode cX9_answer 16 = .ok (.iconst 2, 1) := by decide +kernel
theorem dX9_answer_17 : decode cX9_answer 17 = .ok (.invokestatic 113, 3) := by decide +kernel
theorem dX9_answer_20 : decode cX9_answer 20 = .ok (.ifCond .ne 7, 3) := by decide +kernel
theorem dX9_answer_23 : decode cX9_answer 23 = .ok (.iconst 1, 1) := by decide +kernel
theorem dX9_answer_24 : decode cX9_answer 24 = .ok (.goto 4, 3) := by decide +kernel
theorem dX9_answer_27 : decode cX9_answer 27 = .ok (.iconst 0, 1) := by decide +kernel
theorem dX9_answer_28 : decode cX9_answer 28 = .ok (.iconst 1, 1) := by decide +kernel
theorem dX9_answer_29 : decode cX9_answer 29 = .ok (.invokevirtual 162, 3) := by decide +kernel
theorem dX9_answer_32 : decode cX9_answer 32 = .ok (.ifCond .eq 5, 3) := by decide +kernel
theorem dX9_answer_35 : decode cX9_answer 35 = .ok (.iconst 0, 1) := by decide +kernel
theorem dX9_answer_36 : decode cX9_answer 36 = .ok (.ireturn, 1) := by decide +kernel
theorem dX9_answer_37 : decode cX9_answer 37 = .ok (.aload_n 0, 1) := by decide +kernel
theorem dX9_answer_38 : decode cX9_answer 38 = .ok (.getfield 61, 3) := by decide +kernel
theorem dX9_answer_41 : decode cX9_answer 41 = .ok (.iload_n 1, 1) := by decide +kernel
theorem dX9_answer_42 : decode cX9_answer 42 = .ok (.aaload, 1) := by decide +kernel
theorem dX9_answer_43 : decode cX9_answer 43 = .ok (.iconst 3, 1) := by decide +kernel
theorem dX9_answer_44 : decode cX9_answer 44 = .ok (.iload_n 2, 1) := by decide +kernel
theorem dX9_answer_45 : decode cX9_answer 45 = .ok (.iadd, 1) := by decide +kernel
theorem dX9_answer_46 : decode cX9_answer 46 = .ok (.iaload, 1) := by decide +kernel
theorem dX9_answer_47 : decode cX9_answer 47 = .ok (.istore 4, 2) := by decide +kernel
theorem dX9_answer_49 : decode cX9_answer 49 = .ok (.aload_n 0, 1) := by decide +kernel
theorem dX9_answer_50 : decode cX9_answer 50 = .ok (.getfield 61, 3) := by decide +kernel
theorem dX9_answer_53 : decode cX9_answer 53 = .ok (.iload_n 1, 1) := by decide +kernel
theorem dX9_answer_54 : decode cX9_answer 54 = .ok (.aaload, 1) := by decide +kernel
theorem dX9_answer_55 : decode cX9_answer 55 = .ok (.iconst 3, 1) := by decide +kernel
theorem dX9_answer_56 : decode cX9_answer 56 = .ok (.iload_n 2, 1) := by decide +kernel
theorem dX9_answer_57 : decode cX9_answer 57 = .ok (.iadd, 1) := by decide +kernel
theorem dX9_answer_58 : decode cX9_answer 58 = .ok (.iload_n 3, 1) := by decide +kernel
theorem dX9_answer_59 : decode cX9_answer 59 = .ok (.ifCond .eq 7, 3) := by decide +kernel
theorem dX9_answer_62 : decode cX9_answer 62 = .ok (.iconst 1, 1) := by decide +kernel
theorem dX9_answer_63 : decode cX9_answer 63 = .ok (.goto 4, 3) := by decide +kernel
theorem dX9_answer_66 : decode cX9_answer 66 = .ok (.iconst 0, 1) := by decide +kernel
theorem dX9_answer_67 : decode cX9_answer 67 = .ok (.iastore, 1) := by decide +kernel
theorem dX9_answer_68 : decode cX9_answer 68 = .ok (.iload 4, 2) := by decide +kernel
theorem dX9_answer_70 : decode cX9_answer 70 = .ok (.ireturn, 1) := by decide +kernel
theorem dX9_counted_0 : decode cX9_counted 0 = .ok (.aload_n 0, 1) := by decide +kernel
theorem dX9_counted_1 : decode cX9_counted 1 = .ok (.iconst 0, 1) := by decide +kernel
theorem dX9_counted_2 : decode cX9_counted 2 = .ok (.putfield 76, 3) := by decide +kernel
theorem dX9_counted_5 : decode cX9_counted 5 = .ok (.aload_n 0, 1) := by decide +kernel
theorem dX9_counted_6 : decode cX9_counted 6 = .ok (.aload_n 0, 1) := by decide +kernel
theorem dX9_counted_7 : decode cX9_counted 7 = .ok (.iload_n 1, 1) := by decide +kernel
theorem dX9_counted_8 : decode cX9_counted 8 = .ok (.invokevirtual 295, 3) := by decide +kernel
theorem dX9_counted_11 : decode cX9_counted 11 = .ok (.ifCond .eq 14, 3) := by decide +kernel
theorem dX9_counted_14 : decode cX9_counted 14 = .ok (.iload_n 2, 1) := by decide +kernel
theorem dX9_counted_15 : decode cX9_counted 15 = .ok (.iconst 0, 1) := by decide +kernel
theorem dX9_counted_16 : decode cX9_counted 16 = .ok (.sipush 999, 3) := by decide +kernel
theorem dX9_counted_19 : decode cX9_counted 19 = .ok (.invokestatic 113, 3) := by decide +kernel
theorem dX9_counted_22 : decode cX9_counted 22 = .ok (.ifCond .ne 7, 3) := by decide +kernel
theorem dX9_counted_25 : decode cX9_counted 25 = .ok (.iconst 1, 1) := by decide +kernel
theorem dX9_counted_26 : decode cX9_counted 26 = .ok (.goto 4, 3) := by decide +kernel
theorem dX9_counted_29 : decode cX9_counted 29 = .ok (.iconst 0, 1) := by decide +kernel
theorem dX9_counted_30 : decode cX9_counted 30 = .ok (.iconst 1, 1) := by decide +kernel
theorem dX9_counted_31 : decode cX9_counted 31 = .ok (.invokevirtual 162, 3) := by decide +kernel
theorem dX9_counted_34 : decode cX9_counted 34 = .ok (.ifCond .eq 5, 3) := by decide +kernel
theorem dX9_counted_37 : decode cX9_counted 37 = .ok (.iconst 0, 1) := by decide +kernel
theorem dX9_counted_38 : decode cX9_counted 38 = .ok (.ireturn, 1) := by decide +kernel
theorem dX9_counted_39 : decode cX9_counted 39 = .ok (.aload_n 0, 1) := by decide +kernel
theorem dX9_counted_40 : decode cX9_counted 40 = .ok (.getfield 61, 3) := by decide +kernel
theorem dX9_counted_43 : decode cX9_counted 43 = .ok (.iload_n 1, 1) := by decide +kernel
theorem dX9_counted_44 : decode cX9_counted 44 = .ok (.aaload, 1) := by decide +kernel
theorem dX9_counted_45 : decode cX9_counted 45 = .ok (.bipush 6, 2) := by decide +kernel
theorem dX9_counted_47 : decode cX9_counted 47 = .ok (.iaload, 1) := by decide +kernel
theorem dX9_counted_48 : decode cX9_counted 48 = .ok (.istore_n 3, 1) := by decide +kernel
theorem dX9_counted_49 : decode cX9_counted 49 = .ok (.aload_n 0, 1) := by decide +kernel
theorem dX9_counted_50 : decode cX9_counted 50 = .ok (.getfield 61, 3) := by decide +kernel
theorem dX9_counted_53 : decode cX9_counted 53 = .ok (.iload_n 1, 1) := by decide +kernel
theorem dX9_counted_54 : decode cX9_counted 54 = .ok (.aaload, 1) := by decide +kernel
theorem dX9_counted_55 : decode cX9_counted 55 = .ok (.bipush 6, 2) := by decide +kernel
theorem dX9_counted_57 : decode cX9_counted 57 = .ok (.iload_n 2, 1) := by decide +kernel
theorem dX9_counted_58 : decode cX9_counted 58 = .ok (.iastore, 1) := by decide +kernel
theorem dX9_counted_59 : decode cX9_counted 59 = .ok (.iload_n 3, 1) := by decide +kernel
theorem dX9_counted_60 : decode cX9_counted 60 = .ok (.ireturn, 1) := by decide +kernel
theorem dX9_sure_0 : decode cX9_sure 0 = .ok (.aload_n 0, 1) := by decide +kernel
theorem dX9_sure_1 : decode cX9_sure 1 = .ok (.iconst 0, 1) := by decide +kernel
theorem dX9_sure_2 : decode cX9_sure 2 = .ok (.putfield 76, 3) := by decide +kernel
theorem dX9_sure_5 : decode cX9_sure 5 = .ok (.aload_n 0, 1) := by decide +kernel
theorem dX9_sure_6 : decode cX9_sure 6 = .ok (.aload_n 0, 1) := by decide +kernel
theorem dX9_sure_7 : decode cX9_sure 7 = .ok (.iload_n 1, 1) := by decide +kernel
theorem dX9_sure_8 : decode cX9_sure 8 = .ok (.invokevirtual 295, 3) := by decide +kernel
theorem dX9_sure_11 : decode cX9_sure 11 = .ok (.ifCond .eq 13, 3) := by decide +kernel
theorem dX9_sure_14 : decode cX9_sure 14 = .ok (.iload_n 2, 1) := by decide +kernel
theorem dX9_sure_15 : decode cX9_sure 15 = .ok (.iconst 0, 1) := by decide +kernel
theorem dX9_sure_16 : decode cX9_sure 16 = .ok (.bipush 100, 2) := by decide +kernel
theorem dX9_sure_18 : decode cX9_sure 18 = .ok (.invokestatic 113, 3) := by decide +kernel
theorem dX9_sure_21 : decode cX9_sure 21 = .ok (.ifCond .ne 7, 3) := by decide +kernel
theorem dX9_sure_24 : decode cX9_sure 24 = .ok (.iconst 1, 1) := by decide +kernel
theorem dX9_sure_25 : decode cX9_sure 25 = .ok (.goto 4, 3) := by decide +kernel
theorem dX9_sure_28 : decode cX9_sure 28 = .ok (.iconst 0, 1) := by decide +kernel
theorem dX9_sure_29 : decode cX9_sure 29 = .ok (.iconst 1, 1) := by decide +kernel
theorem dX9_sure_30 : decode cX9_sure 30 = .ok (.invokevirtual 162, 3) := by decide +kernel
theorem dX9_sure_33 : decode cX9_sure 33 = .ok (.ifCond .eq 5, 3) := by decide +kernel
theorem dX9_sure_36 : decode cX9_sure 36 = .ok (.iconst 0, 1) := by decide +kernel
theorem dX9_sure_37 : decode cX9_sure 37 = .ok (.ireturn, 1) := by decide +kernel
theorem dX9_sure_38 : decode cX9_sure 38 = .ok (.aload_n 0, 1) := by decide +kernel
theorem dX9_sure_39 : decode cX9_sure 39 = .ok (.getfield 61, 3) := by decide +kernel
theorem dX9_sure_42 : decode cX9_sure 42 = .ok (.iload_n 1, 1) := by decide +kernel
theorem dX9_sure_43 : decode cX9_sure 43 = .ok (.aaload, 1) := by decide +kernel
theorem dX9_sure_44 : decode cX9_sure 44 = .ok (.bipush 7, 2) := by decide +kernel
theorem dX9_sure_46 : decode cX9_sure 46 = .ok (.iaload, 1) := by decide +kernel
theorem dX9_sure_47 : decode cX9_sure 47 = .ok (.istore_n 3, 1) := by decide +kernel
theorem dX9_sure_48 : decode cX9_sure 48 = .ok (.aload_n 0, 1) := by decide +kernel
theorem dX9_sure_49 : decode cX9_sure 49 = .ok (.getfield 61, 3) := by decide +kernel
theorem dX9_sure_52 : decode cX9_sure 52 = .ok (.iload_n 1, 1) := by decide +kernel
theorem dX9_sure_53 : decode cX9_sure 53 = .ok (.aaload, 1) := by decide +kernel
theorem dX9_sure_54 : decode cX9_sure 54 = .ok (.bipush 7, 2) := by decide +kernel
theorem dX9_sure_56 : decode cX9_sure 56 = .ok (.iload_n 2, 1) := by decide +kernel
theorem dX9_sure_57 : decode cX9_sure 57 = .ok (.iastore, 1) := by decide +kernel
theorem dX9_sure_58 : decode cX9_sure 58 = .ok (.iload_n 3, 1) := by decide +kernel
theorem dX9_sure_59 : decode cX9_sure 59 = .ok (.ireturn, 1) := by decide +kernel
theorem dX9_isOf_0 : decode cX9_isOf 0 = .ok (.aload_n 0, 1) := by decide +kernel
theorem dX9_isOf_1 : decode cX9_isOf 1 = .ok (.getfield 61, 3) := by decide +kernel
theorem dX9_isOf_4 : decode cX9_isOf 4 = .ok (.iload_n 1, 1) := by decide +kernel
theorem dX9_isOf_5 : decode cX9_isOf 5 = .ok (.aaload, 1) := by decide +kernel
theorem dX9_isOf_6 : decode cX9_isOf 6 = .ok (.iconst 0, 1) := by decide +kernel
theorem dX9_isOf_7 : decode cX9_isOf 7 = .ok (.iaload, 1) := by decide +kernel
theorem dX9_isOf_8 : decode cX9_isOf 8 = .ok (.iload_n 2, 1) := by decide +kernel
theorem dX9_isOf_9 : decode cX9_isOf 9 = .ok (.if_icmp .ne 19, 3) := by decide +kernel
theorem dX9_isOf_12 : decode cX9_isOf 12 = .ok (.aload_n 0, 1) := by decide +kernel
theorem dX9_isOf_13 : decode cX9_isOf 13 = .ok (.getfield 61, 3) := by decide +kernel
theorem dX9_isOf_16 : decode cX9_isOf 16 = .ok (.iload_n 1, 1) := by decide +kernel
theorem dX9_isOf_17 : decode cX9_isOf 17 = .ok (.aaload, 1) := by decide +kernel
theorem dX9_isOf_18 : decode cX9_isOf 18 = .ok (.iconst 1, 1) := by decide +kernel
theorem dX9_isOf_19 : decode cX9_isOf 19 = .ok (.iaload, 1) := by decide +kernel
theorem dX9_isOf_20 : decode cX9_isOf 20 = .ok (.iload_n 3, 1) := by decide +kernel
theorem dX9_isOf_21 : decode cX9_isOf 21 = .ok (.if_icmp .ne 7, 3) := by decide +kernel
theorem dX9_isOf_24 : decode cX9_isOf 24 = .ok (.iconst 1, 1) := by decide +kernel
theorem dX9_isOf_25 : decode cX9_isOf 25 = .ok (.goto 4, 3) := by decide +kernel
theorem dX9_isOf_28 : decode cX9_isOf 28 = .ok (.iconst 0, 1) := by decide +kernel
theorem dX9_isOf_29 : decode cX9_isOf 29 = .ok (.ireturn, 1) := by decide +kernel
theorem dX9_isInGroup_0 : decode cX9_isInGroup 0 = .ok (.aload_n 0, 1) := by decide +kernel
theorem dX9_isInGroup_1 : decode cX9_isInGroup 1 = .ok (.iload_n 1, 1) := by decide +kernel
theorem dX9_isInGroup_2 : decode cX9_isInGroup 2 = .ok (.iload_n 2, 1) := by decide +kernel
theorem dX9_isInGroup_3 : decode cX9_isInGroup 3 = .ok (.iload_n 3, 1) := by decide +kernel
theorem dX9_isInGroup_4 : decode cX9_isInGroup 4 = .ok (.invokevirtual 381, 3) := by decide +kernel
theorem dX9_isInGroup_7 : decode cX9_isInGroup 7 = .ok (.ifCond .eq 33, 3) := by decide +kernel
theorem dX9_isInGroup_10 : decode cX9_isInGroup 10 = .ok (.aload_n 0, 1) := by decide +kernel
theorem dX9_isInGroup_11 : decode cX9_isInGroup 11 = .ok (.getfield 61, 3) := by decide +kernel
theorem dX9_isInGroup_14 : decode cX9_isInGroup 14 = .ok (.iload_n 1, 1) := by decide +kernel
theorem dX9_isInGroup_15 : decode cX9_isInGroup 15 = .ok (.aaload, 1) := by decide +kernel
theorem dX9_isInGroup_16 : decode cX9_isInGroup 16 = .ok (.iconst 2, 1) := by decide +kernel
theorem dX9_isInGroup_17 : decode cX9_isInGroup 17 = .ok (.iaload, 1) := by decide +kernel
theorem dX9_isInGroup_18 : decode cX9_isInGroup 18 = .ok (.ifCond .ne 22, 3) := by decide +kernel
theorem dX9_isInGroup_21 : decode cX9_isInGroup 21 = .ok (.aload_n 0, 1) := by decide +kernel
theorem dX9_isInGroup_22 : decode cX9_isInGroup 22 = .ok (.getfield 61, 3) := by decide +kernel
theorem dX9_isInGroup_25 : decode cX9_isInGroup 25 = .ok (.iload_n 1, 1) := by decide +kernel
theorem dX9_isInGroup_26 : decode cX9_isInGroup 26 = .ok (.aaload, 1) := by decide +kernel
theorem dX9_isInGroup_27 : decode cX9_isInGroup 27 = .ok (.iconst 3, 1) := by decide +kernel
theorem dX9_isInGroup_28 : decode cX9_isInGroup 28 = .ok (.iload 4, 2) := by decide +kernel
theorem dX9_isInGroup_30 : decode cX9_isInGroup 30 = .ok (.iadd, 1) := by decide +kernel
theorem dX9_isInGroup_31 : decode cX9_isInGroup 31 = .ok (.iaload, 1) := by decide +kernel
theorem dX9_isInGroup_32 : decode cX9_isInGroup 32 = .ok (.iconst (-1), 1) := by decide +kernel
theorem dX9_isInGroup_33 : decode cX9_isInGroup 33 = .ok (.if_icmp .eq 7, 3) := by decide +kernel
theorem dX9_isInGroup_36 : decode cX9_isInGroup 36 = .ok (.iconst 1, 1) := by decide +kernel
theorem dX9_isInGroup_37 : decode cX9_isInGroup 37 = .ok (.goto 4, 3) := by decide +kernel
theorem dX9_isInGroup_40 : decode cX9_isInGroup 40 = .ok (.iconst 0, 1) := by decide +kernel
theorem dX9_isInGroup_41 : decode cX9_isInGroup 41 = .ok (.ireturn, 1) := by decide +kernel
theorem dX9_asked_0 : decode cX9_asked 0 = .ok (.iconst 0, 1) := by decide +kernel
theorem dX9_asked_1 : decode cX9_asked 1 = .ok (.istore 4, 2) := by decide +kernel
theorem dX9_asked_3 : decode cX9_asked 3 = .ok (.iconst 0, 1) := by decide +kernel
theorem dX9_asked_4 : decode cX9_asked 4 = .ok (.istore 5, 2) := by decide +kernel
theorem dX9_asked_6 : decode cX9_asked 6 = .ok (.iload 5, 2) := by decide +kernel
theorem dX9_asked_8 : decode cX9_asked 8 = .ok (.aload_n 0, 1) := by decide +kernel
theorem dX9_asked_9 : decode cX9_asked 9 = .ok (.getfield 288, 3) := by decide +kernel
theorem dX9_asked_12 : decode cX9_asked 12 = .ok (.if_icmp .ge 31, 3) := by decide +kernel
theorem dX9_asked_15 : decode cX9_asked 15 = .ok (.iload 4, 2) := by decide +kernel
theorem dX9_asked_17 : decode cX9_asked 17 = .ok (.aload_n 0, 1) := by decide +kernel
theorem dX9_asked_18 : decode cX9_asked 18 = .ok (.iload 5, 2) := by decide +kernel
theorem dX9_asked_20 : decode cX9_asked 20 = .ok (.iload_n 1, 1) := by decide +kernel
theorem dX9_asked_21 : decode cX9_asked 21 = .ok (.iload_n 2, 1) := by decide +kernel
theorem dX9_asked_22 : decode cX9_asked 22 = .ok (.iload_n 3, 1) := by decide +kernel
theorem dX9_asked_23 : decode cX9_asked 23 = .ok (.invokevirtual 384, 3) := by decide +kernel
theorem dX9_asked_26 : decode cX9_asked 26 = .ok (.ifCond .eq 7, 3) := by decide +kernel
theorem dX9_asked_29 : decode cX9_asked 29 = .ok (.iconst 1, 1) := by decide +kernel
theorem dX9_asked_30 : decode cX9_asked 30 = .ok (.goto 4, 3) := by decide +kernel
theorem dX9_asked_33 : decode cX9_asked 33 = .ok (.iconst 0, 1) := by decide +kernel
theorem dX9_asked_34 : decode cX9_asked 34 = .ok (.iadd, 1) := by decide +kernel
theorem dX9_asked_35 : decode cX9_asked 35 = .ok (.istore 4, 2) := by decide +kernel
theorem dX9_asked_37 : decode cX9_asked 37 = .ok (.iinc 5 1, 3) := by decide +kernel
theorem dX9_asked_40 : decode cX9_asked 40 = .ok (.goto (-34), 3) := by decide +kernel
theorem dX9_asked_43 : decode cX9_asked 43 = .ok (.iload 4, 2) := by decide +kernel
theorem dX9_asked_45 : decode cX9_asked 45 = .ok (.ireturn, 1) := by decide +kernel
theorem dX9_yes_0 : decode cX9_yes 0 = .ok (.iconst 0, 1) := by decide +kernel
theorem dX9_yes_1 : decode cX9_yes 1 = .ok (.istore 4, 2) := by decide +kernel
theorem dX9_yes_3 : decode cX9_yes 3 = .ok (.iconst 0, 1) := by decide +kernel
theorem dX9_yes_4 : decode cX9_yes 4 = .ok (.istore 5, 2) := by decide +kernel
theorem dX9_yes_6 : decode cX9_yes 6 = .ok (.iload 5, 2) := by decide +kernel
theorem dX9_yes_8 : decode cX9_yes 8 = .ok (.aload_n 0, 1) := by decide +kernel
theorem dX9_yes_9 : decode cX9_yes 9 = .ok (.getfield 288, 3) := by decide +kernel
theorem dX9_yes_12 : decode cX9_yes 12 = .ok (.if_icmp .ge 41, 3) := by decide +kernel
theorem dX9_yes_15 : decode cX9_yes 15 = .ok (.iload 4, 2) := by decide +kernel
theorem dX9_yes_17 : decode cX9_yes 17 = .ok (.aload_n 0, 1) := by decide +kernel
theorem dX9_yes_18 : decode cX9_yes 18 = .ok (.iload 5, 2) := by decide +kernel
theorem dX9_yes_20 : decode cX9_yes 20 = .ok (.iload_n 1, 1) := by decide +kernel
theorem dX9_yes_21 : decode cX9_yes 21 = .ok (.iload_n 2, 1) := by decide +kernel
theorem dX9_yes_22 : decode cX9_yes 22 = .ok (.iload_n 3, 1) := by decide +kernel
theorem dX9_yes_23 : decode cX9_yes 23 = .ok (.invokevirtual 384, 3) := by decide +kernel
theorem dX9_yes_26 : decode cX9_yes 26 = .ok (.ifCond .eq 17, 3) := by decide +kernel
theorem dX9_yes_29 : decode cX9_yes 29 = .ok (.aload_n 0, 1) := by decide +kernel
theorem dX9_yes_30 : decode cX9_yes 30 = .ok (.getfield 61, 3) := by decide +kernel
theorem dX9_yes_33 : decode cX9_yes 33 = .ok (.iload 5, 2) := by decide +kernel
theorem dX9_yes_35 : decode cX9_yes 35 = .ok (.aaload, 1) := by decide +kernel
theorem dX9_yes_36 : decode cX9_yes 36 = .ok (.iconst 3, 1) := by decide +kernel
theorem dX9_yes_37 : decode cX9_yes 37 = .ok (.iload_n 3, 1) := by decide +kernel
theorem dX9_yes_38 : decode cX9_yes 38 = .ok (.iadd, 1) := by decide +kernel
theorem dX9_yes_39 : decode cX9_yes 39 = .ok (.iaload, 1) := by decide +kernel
theorem dX9_yes_40 : decode cX9_yes 40 = .ok (.goto 4, 3) := by decide +kernel
theorem dX9_yes_43 : decode cX9_yes 43 = .ok (.iconst 0, 1) := by decide +kernel
theorem dX9_yes_44 : decode cX9_yes 44 = .ok (.iadd, 1) := by decide +kernel
theorem dX9_yes_45 : decode cX9_yes 45 = .ok (.istore 4, 2) := by decide +kernel
theorem dX9_yes_47 : decode cX9_yes 47 = .ok (.iinc 5 1, 3) := by decide +kernel
theorem dX9_yes_50 : decode cX9_yes 50 = .ok (.goto (-44), 3) := by decide +kernel
theorem dX9_yes_53 : decode cX9_yes 53 = .ok (.iload 4, 2) := by decide +kernel
theorem dX9_yes_55 : decode cX9_yes 55 = .ok (.ireturn, 1) := by decide +kernel
theorem dX9_root_0 : decode cX9_root 0 = .ok (.iconst 0, 1) := by decide +kernel
theorem dX9_root_1 : decode cX9_root 1 = .ok (.istore_n 1, 1) := by decide +kernel
theorem dX9_root_2 : decode cX9_root 2 = .ok (.iload_n 1, 1) := by decide +kernel
theorem dX9_root_3 : decode cX9_root 3 = .ok (.iconst 1, 1) := by decide +kernel
theorem dX9_root_4 : decode cX9_root 4 = .ok (.iadd, 1) := by decide +kernel
theorem dX9_root_5 : decode cX9_root 5 = .ok (.iload_n 1, 1) := by decide +kernel
theorem dX9_root_6 : decode cX9_root 6 = .ok (.iconst 1, 1) := by decide +kernel
theorem dX9_root_7 : decode cX9_root 7 = .ok (.iadd, 1) := by decide +kernel
theorem dX9_root_8 : decode cX9_root 8 = .ok (.imul, 1) := by decide +kernel
theorem dX9_root_9 : decode cX9_root 9 = .ok (.iload_n 0, 1) := by decide +kernel
theorem dX9_root_10 : decode cX9_root 10 = .ok (.if_icmp .gt 9, 3) := by decide +kernel
theorem dX9_root_13 : decode cX9_root 13 = .ok (.iinc 1 1, 3) := by decide +kernel
theorem dX9_root_16 : decode cX9_root 16 = .ok (.goto (-14), 3) := by decide +kernel
theorem dX9_root_19 : decode cX9_root 19 = .ok (.iload_n 1, 1) := by decide +kernel
theorem dX9_root_20 : decode cX9_root 20 = .ok (.ireturn, 1) := by decide +kernel
theorem dX9_share_0 : decode cX9_share 0 = .ok (.aload_n 0, 1) := by decide +kernel
theorem dX9_share_1 : decode cX9_share 1 = .ok (.iconst 0, 1) := by decide +kernel
theorem dX9_share_2 : decode cX9_share 2 = .ok (.putfield 76, 3) := by decide +kernel
theorem dX9_share_5 : decode cX9_share 5 = .ok (.aload_n 0, 1) := by decide +kernel
theorem dX9_share_6 : decode cX9_share 6 = .ok (.aload_n 0, 1) := by decide +kernel
theorem dX9_share_7 : decode cX9_share 7 = .ok (.iload_n 1, 1) := by decide +kernel
theorem dX9_share_8 : decode cX9_share 8 = .ok (.invokevirtual 254, 3) := by decide +kernel
theorem dX9_share_11 : decode cX9_share 11 = .ok (.ifCond .ne 7, 3) := by decide +kernel
theorem dX9_share_14 : decode cX9_share 14 = .ok (.iconst 1, 1) := by decide +kernel
theorem dX9_share_15 : decode cX9_share 15 = .ok (.goto 4, 3) := by decide +kernel
theorem dX9_share_18 : decode cX9_share 18 = .ok (.iconst 0, 1) := by decide +kernel
theorem dX9_share_19 : decode cX9_share 19 = .ok (.iconst 1, 1) := by decide +kernel
theorem dX9_share_20 : decode cX9_share 20 = .ok (.invokevirtual 162, 3) := by decide +kernel
theorem dX9_share_23 : decode cX9_share 23 = .ok (.ifCond .ne 56, 3) := by decide +kernel
theorem dX9_share_26 : decode cX9_share 26 = .ok (.aload_n 0, 1) := by decide +kernel
theorem dX9_share_27 : decode cX9_share 27 = .ok (.aload_n 0, 1) := by decide +kernel
theorem dX9_share_28 : decode cX9_share 28 = .ok (.iload_n 2, 1) := by decide +kernel
theorem dX9_share_29 : decode cX9_share 29 = .ok (.invokevirtual 278, 3) := by decide +kernel
theorem dX9_share_32 : decode cX9_share 32 = .ok (.ifCond .ne 7, 3) := by decide +kernel
theorem dX9_share_35 : decode cX9_share 35 = .ok (.iconst 1, 1) := by decide +kernel
theorem dX9_share_36 : decode cX9_share 36 = .ok (.goto 4, 3) := by decide +kernel
theorem dX9_share_39 : decode cX9_share 39 = .ok (.iconst 0, 1) := by decide +kernel
theorem dX9_share_40 : decode cX9_share 40 = .ok (.iconst 2, 1) := by decide +kernel
theorem dX9_share_41 : decode cX9_share 41 = .ok (.invokevirtual 162, 3) := by decide +kernel
theorem dX9_share_44 : decode cX9_share 44 = .ok (.ifCond .ne 35, 3) := by decide +kernel
theorem dX9_share_47 : decode cX9_share 47 = .ok (.aload_n 0, 1) := by decide +kernel
theorem dX9_share_48 : decode cX9_share 48 = .ok (.iload_n 3, 1) := by decide +kernel
theorem dX9_share_49 : decode cX9_share 49 = .ok (.iconst 0, 1) := by decide +kernel
theorem dX9_share_50 : decode cX9_share 50 = .ok (.iconst 2, 1) := by decide +kernel
theorem dX9_share_51 : decode cX9_share 51 = .ok (.invokestatic 113, 3) := by decide +kernel
theorem dX9_share_54 : decode cX9_share 54 = .ok (.ifCond .eq 13, 3) := by decide +kernel
theorem dX9_share_57 : decode cX9_share 57 = .ok (.iload 4, 2) := by decide +kernel
theorem dX9_share_59 : decode cX9_share 59 = .ok (.iconst 0, 1) := by decide +kernel
theorem dX9_share_60 : decode cX9_share 60 = .ok (.iconst 3, 1) := by decide +kernel
theorem dX9_share_61 : decode cX9_share 61 = .ok (.invokestatic 113, 3) := by decide +kernel
theorem dX9_share_64 : decode cX9_share 64 = .ok (.ifCond .ne 7, 3) := by decide +kernel
theorem dX9_share_67 : decode cX9_share 67 = .ok (.iconst 1, 1) := by decide +kernel
theorem dX9_share_68 : decode cX9_share 68 = .ok (.goto 4, 3) := by decide +kernel
theorem dX9_share_71 : decode cX9_share 71 = .ok (.iconst 0, 1) := by decide +kernel
theorem dX9_share_72 : decode cX9_share 72 = .ok (.iconst 3, 1) := by decide +kernel
theorem dX9_share_73 : decode cX9_share 73 = .ok (.invokevirtual 162, 3) := by decide +kernel
theorem dX9_share_76 : decode cX9_share 76 = .ok (.ifCond .eq 5, 3) := by decide +kernel
theorem dX9_share_79 : decode cX9_share 79 = .ok (.iconst 0, 1) := by decide +kernel
theorem dX9_share_80 : decode cX9_share 80 = .ok (.ireturn, 1) := by decide +kernel
theorem dX9_share_81 : decode cX9_share 81 = .ok (.aload_n 0, 1) := by decide +kernel
theorem dX9_share_82 : decode cX9_share 82 = .ok (.iload_n 1, 1) := by decide +kernel
theorem dX9_share_83 : decode cX9_share 83 = .ok (.iload_n 2, 1) := by decide +kernel
theorem dX9_share_84 : decode cX9_share 84 = .ok (.iload_n 3, 1) := by decide +kernel
theorem dX9_share_85 : decode cX9_share 85 = .ok (.invokevirtual 388, 3) := by decide +kernel
theorem dX9_share_88 : decode cX9_share 88 = .ok (.istore 5, 2) := by decide +kernel
theorem dX9_share_90 : decode cX9_share 90 = .ok (.aload_n 0, 1) := by decide +kernel
theorem dX9_share_91 : decode cX9_share 91 = .ok (.iload_n 1, 1) := by decide +kernel
theorem dX9_share_92 : decode cX9_share 92 = .ok (.iload_n 2, 1) := by decide +kernel
theorem dX9_share_93 : decode cX9_share 93 = .ok (.iload_n 3, 1) := by decide +kernel
theorem dX9_share_94 : decode cX9_share 94 = .ok (.invokevirtual 391, 3) := by decide +kernel
theorem dX9_share_97 : decode cX9_share 97 = .ok (.istore 6, 2) := by decide +kernel
theorem dX9_share_99 : decode cX9_share 99 = .ok (.iconst 1, 1) := by decide +kernel
theorem dX9_share_100 : decode cX9_share 100 = .ok (.iload 6, 2) := by decide +kernel
theorem dX9_share_102 : decode cX9_share 102 = .ok (.invokestatic 394, 3) := by decide +kernel
theorem dX9_share_105 : decode cX9_share 105 = .ok (.iadd, 1) := by decide +kernel
theorem dX9_share_106 : decode cX9_share 106 = .ok (.istore 7, 2) := by decide +kernel
theorem dX9_share_108 : decode cX9_share 108 = .ok (.iload 4, 2) := by decide +kernel
theorem dX9_share_110 : decode cX9_share 110 = .ok (.ifCond .ne 8, 3) := by decide +kernel
theorem dX9_share_113 : decode cX9_share 113 = .ok (.iload 5, 2) := by decide +kernel
theorem dX9_share_115 : decode cX9_share 115 = .ok (.goto 42, 3) := by decide +kernel
theorem dX9_share_118 : decode cX9_share 118 = .ok (.iload 4, 2) := by decide +kernel
theorem dX9_share_120 : decode cX9_share 120 = .ok (.iconst 1, 1) := by decide +kernel
theorem dX9_share_121 : decode cX9_share 121 = .ok (.if_icmp .ne 8, 3) := by decide +kernel
theorem dX9_share_124 : decode cX9_share 124 = .ok (.iload 6, 2) := by decide +kernel
theorem dX9_share_126 : decode cX9_share 126 = .ok (.goto 31, 3) := by decide +kernel
theorem dX9_share_129 : decode cX9_share 129 = .ok (.iload 4, 2) := by decide +kernel
theorem dX9_share_131 : decode cX9_share 131 = .ok (.iconst 2, 1) := by decide +kernel
theorem dX9_share_132 : decode cX9_share 132 = .ok (.if_icmp .ne 15, 3) := by decide +kernel
theorem dX9_share_135 : decode cX9_share 135 = .ok (.iconst 0, 1) := by decide +kernel
theorem dX9_share_136 : decode cX9_share 136 = .ok (.iload 6, 2) := by decide +kernel
theorem dX9_share_138 : decode cX9_share 138 = .ok (.iload 7, 2) := by decide +kernel
theorem dX9_share_140 : decode cX9_share 140 = .ok (.isub, 1) := by decide +kernel
theorem dX9_share_141 : decode cX9_share 141 = .ok (.invokestatic 251, 3) := by decide +kernel
theorem dX9_share_144 : decode cX9_share 144 = .ok (.goto 13, 3) := by decide +kernel
theorem dX9_share_147 : decode cX9_share 147 = .ok (.iload 5, 2) := by decide +kernel
theorem dX9_share_149 : decode cX9_share 149 = .ok (.iload 6, 2) := by decide +kernel
theorem dX9_share_151 : decode cX9_share 151 = .ok (.iload 7, 2) := by decide +kernel
theorem dX9_share_153 : decode cX9_share 153 = .ok (.iadd, 1) := by decide +kernel
theorem dX9_share_154 : decode cX9_share 154 = .ok (.invokestatic 182, 3) := by decide +kernel
theorem dX9_share_157 : decode cX9_share 157 = .ok (.ireturn, 1) := by decide +kernel
theorem dX9_guessed_0 : decode cX9_guessed 0 = .ok (.aload_n 0, 1) := by decide +kernel
theorem dX9_guessed_1 : decode cX9_guessed 1 = .ok (.iconst 0, 1) := by decide +kernel
theorem dX9_guessed_2 : decode cX9_guessed 2 = .ok (.putfield 76, 3) := by decide +kernel
theorem dX9_guessed_5 : decode cX9_guessed 5 = .ok (.aload_n 0, 1) := by decide +kernel
theorem dX9_guessed_6 : decode cX9_guessed 6 = .ok (.aload_n 0, 1) := by decide +kernel
theorem dX9_guessed_7 : decode cX9_guessed 7 = .ok (.iload_n 1, 1) := by decide +kernel
theorem dX9_guessed_8 : decode cX9_guessed 8 = .ok (.invokevirtual 254, 3) := by decide +kernel
theorem dX9_guessed_11 : decode cX9_guessed 11 = .ok (.ifCond .eq 11, 3) := by decide +kernel
theorem dX9_guessed_14 : decode cX9_guessed 14 = .ok (.aload_n 0, 1) := by decide +kernel
theorem dX9_guessed_15 : decode cX9_guessed 15 = .ok (.iload_n 2, 1) := by decide +kernel
theorem dX9_guessed_16 : decode cX9_guessed 16 = .ok (.invokevirtual 254, 3) := by decide +kernel
theorem dX9_guessed_19 : decode cX9_guessed 19 = .ok (.ifCond .ne 7, 3) := by decide +kernel
theorem dX9_guessed_22 : decode cX9_guessed 22 = .ok (.iconst 1, 1) := by decide +kernel
theorem dX9_guessed_23 : decode cX9_guessed 23 = .ok (.goto 4, 3) := by decide +kernel
theorem dX9_guessed_26 : decode cX9_guessed 26 = .ok (.iconst 0, 1) := by decide +kernel
theorem dX9_guessed_27 : decode cX9_guessed 27 = .ok (.iconst 1, 1) := by decide +kernel
theorem dX9_guessed_28 : decode cX9_guessed 28 = .ok (.invokevirtual 162, 3) := by decide +kernel
theorem dX9_guessed_31 : decode cX9_guessed 31 = .ok (.ifCond .ne 47, 3) := by decide +kernel
theorem dX9_guessed_34 : decode cX9_guessed 34 = .ok (.aload_n 0, 1) := by decide +kernel
theorem dX9_guessed_35 : decode cX9_guessed 35 = .ok (.aload_n 0, 1) := by decide +kernel
theorem dX9_guessed_36 : decode cX9_guessed 36 = .ok (.iload_n 3, 1) := by decide +kernel
theorem dX9_guessed_37 : decode cX9_guessed 37 = .ok (.invokevirtual 278, 3) := by decide +kernel
theorem dX9_guessed_40 : decode cX9_guessed 40 = .ok (.ifCond .ne 7, 3) := by decide +kernel
theorem dX9_guessed_43 : decode cX9_guessed 43 = .ok (.iconst 1, 1) := by decide +kernel
theorem dX9_guessed_44 : decode cX9_guessed 44 = .ok (.goto 4, 3) := by decide +kernel
theorem dX9_guessed_47 : decode cX9_guessed 47 = .ok (.iconst 0, 1) := by decide +kernel
theorem dX9_guessed_48 : decode cX9_guessed 48 = .ok (.iconst 2, 1) := by decide +kernel
theorem dX9_guessed_49 : decode cX9_guessed 49 = .ok (.invokevirtual 162, 3) := by decide +kernel
theorem dX9_guessed_52 : decode cX9_guessed 52 = .ok (.ifCond .ne 26, 3) := by decide +kernel
theorem dX9_guessed_55 : decode cX9_guessed 55 = .ok (.aload_n 0, 1) := by decide +kernel
theorem dX9_guessed_56 : decode cX9_guessed 56 = .ok (.iload 4, 2) := by decide +kernel
theorem dX9_guessed_58 : decode cX9_guessed 58 = .ok (.iconst 0, 1) := by decide +kernel
theorem dX9_guessed_59 : decode cX9_guessed 59 = .ok (.iconst 2, 1) := by decide +kernel
theorem dX9_guessed_60 : decode cX9_guessed 60 = .ok (.invokestatic 113, 3) := by decide +kernel
theorem dX9_guessed_63 : decode cX9_guessed 63 = .ok (.ifCond .ne 7, 3) := by decide +kernel
theorem dX9_guessed_66 : decode cX9_guessed 66 = .ok (.iconst 1, 1) := by decide +kernel
theorem dX9_guessed_67 : decode cX9_guessed 67 = .ok (.goto 4, 3) := by decide +kernel
theorem dX9_guessed_70 : decode cX9_guessed 70 = .ok (.iconst 0, 1) := by decide +kernel
theorem dX9_guessed_71 : decode cX9_guessed 71 = .ok (.iconst 3, 1) := by decide +kernel
theorem dX9_guessed_72 : decode cX9_guessed 72 = .ok (.invokevirtual 162, 3) := by decide +kernel
theorem dX9_guessed_75 : decode cX9_guessed 75 = .ok (.ifCond .eq 5, 3) := by decide +kernel
theorem dX9_guessed_78 : decode cX9_guessed 78 = .ok (.iconst 0, 1) := by decide +kernel
theorem dX9_guessed_79 : decode cX9_guessed 79 = .ok (.ireturn, 1) := by decide +kernel
theorem dX9_guessed_80 : decode cX9_guessed 80 = .ok (.aload_n 0, 1) := by decide +kernel
theorem dX9_guessed_81 : decode cX9_guessed 81 = .ok (.iload_n 1, 1) := by decide +kernel
theorem dX9_guessed_82 : decode cX9_guessed 82 = .ok (.iload_n 3, 1) := by decide +kernel
theorem dX9_guessed_83 : decode cX9_guessed 83 = .ok (.iload 4, 2) := by decide +kernel
theorem dX9_guessed_85 : decode cX9_guessed 85 = .ok (.invokevirtual 388, 3) := by decide +kernel
theorem dX9_guessed_88 : decode cX9_guessed 88 = .ok (.istore 5, 2) := by decide +kernel
theorem dX9_guessed_90 : decode cX9_guessed 90 = .ok (.aload_n 0, 1) := by decide +kernel
theorem dX9_guessed_91 : decode cX9_guessed 91 = .ok (.iload_n 1, 1) := by decide +kernel
theorem dX9_guessed_92 : decode cX9_guessed 92 = .ok (.iload_n 3, 1) := by decide +kernel
theorem dX9_guessed_93 : decode cX9_guessed 93 = .ok (.iload 4, 2) := by decide +kernel
theorem dX9_guessed_95 : decode cX9_guessed 95 = .ok (.invokevirtual 391, 3) := by decide +kernel
theorem dX9_guessed_98 : decode cX9_guessed 98 = .ok (.istore 6, 2) := by decide +kernel
theorem dX9_guessed_100 : decode cX9_guessed 100 = .ok (.aload_n 0, 1) := by decide +kernel
theorem dX9_guessed_101 : decode cX9_guessed 101 = .ok (.iload_n 2, 1) := by decide +kernel
theorem dX9_guessed_102 : decode cX9_guessed 102 = .ok (.iload_n 3, 1) := by decide +kernel
theorem dX9_guessed_103 : decode cX9_guessed 103 = .ok (.iload 4, 2) := by decide +kernel
theorem dX9_guessed_105 : decode cX9_guessed 105 = .ok (.invokevirtual 388, 3) := by decide +kernel
theorem dX9_guessed_108 : decode cX9_guessed 108 = .ok (.istore 7, 2) := by decide +kernel
theorem dX9_guessed_110 : decode cX9_guessed 110 = .ok (.aload_n 0, 1) := by decide +kernel
theorem dX9_guessed_111 : decode cX9_guessed 111 = .ok (.iload_n 2, 1) := by decide +kernel
theorem dX9_guessed_112 : decode cX9_guessed 112 = .ok (.iload_n 3, 1) := by decide +kernel
theorem dX9_guessed_113 : decode cX9_guessed 113 = .ok (.iload 4, 2) := by decide +kernel
theorem dX9_guessed_115 : decode cX9_guessed 115 = .ok (.invokevirtual 391, 3) := by decide +kernel
theorem dX9_guessed_118 : decode cX9_guessed 118 = .ok (.istore 8, 2) := by decide +kernel
theorem dX9_guessed_120 : decode cX9_guessed 120 = .ok (.iload 5, 2) := by decide +kernel
theorem dX9_guessed_122 : decode cX9_guessed 122 = .ok (.iload 7, 2) := by decide +kernel
theorem dX9_guessed_124 : decode cX9_guessed 124 = .ok (.iload 8, 2) := by decide +kernel
theorem dX9_guessed_126 : decode cX9_guessed 126 = .ok (.isub, 1) := by decide +kernel
theorem dX9_guessed_127 : decode cX9_guessed 127 = .ok (.imul, 1) := by decide +kernel
theorem dX9_guessed_128 : decode cX9_guessed 128 = .ok (.istore 9, 2) := by decide +kernel
theorem dX9_guessed_130 : decode cX9_guessed 130 = .ok (.iload 9, 2) := by decide +kernel
theorem dX9_guessed_132 : decode cX9_guessed 132 = .ok (.ifCond .ne 7, 3) := by decide +kernel
theorem dX9_guessed_135 : decode cX9_guessed 135 = .ok (.iconst (-1), 1) := by decide +kernel
theorem dX9_guessed_136 : decode cX9_guessed 136 = .ok (.goto 25, 3) := by decide +kernel
theorem dX9_guessed_139 : decode cX9_guessed 139 = .ok (.iconst 0, 1) := by decide +kernel
theorem dX9_guessed_140 : decode cX9_guessed 140 = .ok (.sipush 1000, 3) := by decide +kernel
theorem dX9_guessed_143 : decode cX9_guessed 143 = .ok (.iload 6, 2) := by decide +kernel
theorem dX9_guessed_145 : decode cX9_guessed 145 = .ok (.iload 7, 2) := by decide +kernel
theorem dX9_guessed_147 : decode cX9_guessed 147 = .ok (.imul, 1) := by decide +kernel
theorem dX9_guessed_148 : decode cX9_guessed 148 = .ok (.iload 8, 2) := by decide +kernel
theorem dX9_guessed_150 : decode cX9_guessed 150 = .ok (.iload 5, 2) := by decide +kernel
theorem dX9_guessed_152 : decode cX9_guessed 152 = .ok (.imul, 1) := by decide +kernel
theorem dX9_guessed_153 : decode cX9_guessed 153 = .ok (.isub, 1) := by decide +kernel
theorem dX9_guessed_154 : decode cX9_guessed 154 = .ok (.imul, 1) := by decide +kernel
theorem dX9_guessed_155 : decode cX9_guessed 155 = .ok (.iload 9, 2) := by decide +kernel
theorem dX9_guessed_157 : decode cX9_guessed 157 = .ok (.idiv, 1) := by decide +kernel
theorem dX9_guessed_158 : decode cX9_guessed 158 = .ok (.invokestatic 251, 3) := by decide +kernel
theorem dX9_guessed_161 : decode cX9_guessed 161 = .ok (.ireturn, 1) := by decide +kernel
theorem dX9_choose_0 : decode cX9_choose 0 = .ok (.iload_n 1, 1) := by decide +kernel
theorem dX9_choose_1 : decode cX9_choose 1 = .ok (.ifCond .lt 8, 3) := by decide +kernel
theorem dX9_choose_4 : decode cX9_choose 4 = .ok (.iload_n 1, 1) := by decide +kernel
theorem dX9_choose_5 : decode cX9_choose 5 = .ok (.iload_n 0, 1) := by decide +kernel
theorem dX9_choose_6 : decode cX9_choose 6 = .ok (.if_icmp .le 5, 3) := by decide +kernel
theorem dX9_choose_9 : decode cX9_choose 9 = .ok (.iconst 0, 1) := by decide +kernel
theorem dX9_choose_10 : decode cX9_choose 10 = .ok (.ireturn, 1) := by decide +kernel
theorem dX9_choose_11 : decode cX9_choose 11 = .ok (.lconst 1, 1) := by decide +kernel
theorem dX9_choose_12 : decode cX9_choose 12 = .ok (.lstore_n 2, 1) := by decide +kernel
theorem dX9_choose_13 : decode cX9_choose 13 = .ok (.iconst 0, 1) := by decide +kernel
theorem dX9_choose_14 : decode cX9_choose 14 = .ok (.istore 4, 2) := by decide +kernel
theorem dX9_choose_16 : decode cX9_choose 16 = .ok (.iload 4, 2) := by decide +kernel
theorem dX9_choose_18 : decode cX9_choose 18 = .ok (.iload_n 1, 1) := by decide +kernel
theorem dX9_choose_19 : decode cX9_choose 19 = .ok (.if_icmp .ge 23, 3) := by decide +kernel
theorem dX9_choose_22 : decode cX9_choose 22 = .ok (.lload_n 2, 1) := by decide +kernel
theorem dX9_choose_23 : decode cX9_choose 23 = .ok (.iload_n 0, 1) := by decide +kernel
theorem dX9_choose_24 : decode cX9_choose 24 = .ok (.iload 4, 2) := by decide +kernel
theorem dX9_choose_26 : decode cX9_choose 26 = .ok (.isub, 1) := by decide +kernel
theorem dX9_choose_27 : decode cX9_choose 27 = .ok (.i2l, 1) := by decide +kernel
theorem dX9_choose_28 : decode cX9_choose 28 = .ok (.lmul, 1) := by decide +kernel
theorem dX9_choose_29 : decode cX9_choose 29 = .ok (.iload 4, 2) := by decide +kernel
theorem dX9_choose_31 : decode cX9_choose 31 = .ok (.iconst 1, 1) := by decide +kernel
theorem dX9_choose_32 : decode cX9_choose 32 = .ok (.iadd, 1) := by decide +kernel
theorem dX9_choose_33 : decode cX9_choose 33 = .ok (.i2l, 1) := by decide +kernel
theorem dX9_choose_34 : decode cX9_choose 34 = .ok (.ldiv, 1) := by decide +kernel
theorem dX9_choose_35 : decode cX9_choose 35 = .ok (.lstore_n 2, 1) := by decide +kernel
theorem dX9_choose_36 : decode cX9_choose 36 = .ok (.iinc 4 1, 3) := by decide +kernel
theorem dX9_choose_39 : decode cX9_choose 39 = .ok (.goto (-23), 3) := by decide +kernel
theorem dX9_choose_42 : decode cX9_choose 42 = .ok (.lload_n 2, 1) := by decide +kernel
theorem dX9_choose_43 : decode cX9_choose 43 = .ok (.l2i, 1) := by decide +kernel
theorem dX9_choose_44 : decode cX9_choose 44 = .ok (.ireturn, 1) := by decide +kernel
theorem dX9_apart_0 : decode cX9_apart 0 = .ok (.aload_n 0, 1) := by decide +kernel
theorem dX9_apart_1 : decode cX9_apart 1 = .ok (.iconst 0, 1) := by decide +kernel
theorem dX9_apart_2 : decode cX9_apart 2 = .ok (.putfield 76, 3) := by decide +kernel
theorem dX9_apart_5 : decode cX9_apart 5 = .ok (.aload_n 0, 1) := by decide +kernel
theorem dX9_apart_6 : decode cX9_apart 6 = .ok (.aload_n 0, 1) := by decide +kernel
theorem dX9_apart_7 : decode cX9_apart 7 = .ok (.iload_n 1, 1) := by decide +kernel
theorem dX9_apart_8 : decode cX9_apart 8 = .ok (.invokevirtual 254, 3) := by decide +kernel
theorem dX9_apart_11 : decode cX9_apart 11 = .ok (.ifCond .eq 11, 3) := by decide +kernel
theorem dX9_apart_14 : decode cX9_apart 14 = .ok (.aload_n 0, 1) := by decide +kernel
theorem dX9_apart_15 : decode cX9_apart 15 = .ok (.iload_n 3, 1) := by decide +kernel
theorem dX9_apart_16 : decode cX9_apart 16 = .ok (.invokevirtual 254, 3) := by decide +kernel
theorem dX9_apart_19 : decode cX9_apart 19 = .ok (.ifCond .ne 7, 3) := by decide +kernel
theorem dX9_apart_22 : decode cX9_apart 22 = .ok (.iconst 1, 1) := by decide +kernel
theorem dX9_apart_23 : decode cX9_apart 23 = .ok (.goto 4, 3) := by decide +kernel
theorem dX9_apart_26 : decode cX9_apart 26 = .ok (.iconst 0, 1) := by decide +kernel
theorem dX9_apart_27 : decode cX9_apart 27 = .ok (.iconst 1, 1) := by decide +kernel
theorem dX9_apart_28 : decode cX9_apart 28 = .ok (.invokevirtual 162, 3) := by decide +kernel
theorem dX9_apart_31 : decode cX9_apart 31 = .ok (.ifCond .ne 66, 3) := by decide +kernel
theorem dX9_apart_34 : decode cX9_apart 34 = .ok (.aload_n 0, 1) := by decide +kernel
theorem dX9_apart_35 : decode cX9_apart 35 = .ok (.aload_n 0, 1) := by decide +kernel
theorem dX9_apart_36 : decode cX9_apart 36 = .ok (.iload_n 2, 1) := by decide +kernel
theorem dX9_apart_37 : decode cX9_apart 37 = .ok (.invokevirtual 278, 3) := by decide +kernel
theorem dX9_apart_40 : decode cX9_apart 40 = .ok (.ifCond .eq 12, 3) := by decide +kernel
theorem dX9_apart_43 : decode cX9_apart 43 = .ok (.aload_n 0, 1) := by decide +kernel
theorem dX9_apart_44 : decode cX9_apart 44 = .ok (.iload 4, 2) := by decide +kernel
theorem dX9_apart_46 : decode cX9_apart 46 = .ok (.invokevirtual 278, 3) := by decide +kernel
theorem dX9_apart_49 : decode cX9_apart 49 = .ok (.ifCond .ne 7, 3) := by decide +kernel
theorem dX9_apart_52 : decode cX9_apart 52 = .ok (.iconst 1, 1) := by decide +kernel
theorem dX9_apart_53 : decode cX9_apart 53 = .ok (.goto 4, 3) := by decide +kernel
theorem dX9_apart_56 : decode cX9_apart 56 = .ok (.iconst 0, 1) := by decide +kernel
theorem dX9_apart_57 : decode cX9_apart 57 = .ok (.iconst 2, 1) := by decide +kernel
theorem dX9_apart_58 : decode cX9_apart 58 = .ok (.invokevirtual 162, 3) := by decide +kernel
theorem dX9_apart_61 : decode cX9_apart 61 = .ok (.ifCond .ne 36, 3) := by decide +kernel
theorem dX9_apart_64 : decode cX9_apart 64 = .ok (.aload_n 0, 1) := by decide +kernel
theorem dX9_apart_65 : decode cX9_apart 65 = .ok (.iload 5, 2) := by decide +kernel
theorem dX9_apart_67 : decode cX9_apart 67 = .ok (.iconst 0, 1) := by decide +kernel
theorem dX9_apart_68 : decode cX9_apart 68 = .ok (.iconst 2, 1) := by decide +kernel
theorem dX9_apart_69 : decode cX9_apart 69 = .ok (.invokestatic 113, 3) := by decide +kernel
theorem dX9_apart_72 : decode cX9_apart 72 = .ok (.ifCond .eq 13, 3) := by decide +kernel
theorem dX9_apart_75 : decode cX9_apart 75 = .ok (.iload 6, 2) := by decide +kernel
theorem dX9_apart_77 : decode cX9_apart 77 = .ok (.iconst 0, 1) := by decide +kernel
theorem dX9_apart_78 : decode cX9_apart 78 = .ok (.iconst 2, 1) := by decide +kernel
theorem dX9_apart_79 : decode cX9_apart 79 = .ok (.invokestatic 113, 3) := by decide +kernel
theorem dX9_apart_82 : decode cX9_apart 82 = .ok (.ifCond .ne 7, 3) := by decide +kernel
theorem dX9_apart_85 : decode cX9_apart 85 = .ok (.iconst 1, 1) := by decide +kernel
theorem dX9_apart_86 : decode cX9_apart 86 = .ok (.goto 4, 3) := by decide +kernel
theorem dX9_apart_89 : decode cX9_apart 89 = .ok (.iconst 0, 1) := by decide +kernel
theorem dX9_apart_90 : decode cX9_apart 90 = .ok (.iconst 3, 1) := by decide +kernel
theorem dX9_apart_91 : decode cX9_apart 91 = .ok (.invokevirtual 162, 3) := by decide +kernel
theorem dX9_apart_94 : decode cX9_apart 94 = .ok (.ifCond .eq 5, 3) := by decide +kernel
theorem dX9_apart_97 : decode cX9_apart 97 = .ok (.iconst 0, 1) := by decide +kernel
theorem dX9_apart_98 : decode cX9_apart 98 = .ok (.ireturn, 1) := by decide +kernel
theorem dX9_apart_99 : decode cX9_apart 99 = .ok (.aload_n 0, 1) := by decide +kernel
theorem dX9_apart_100 : decode cX9_apart 100 = .ok (.iload_n 1, 1) := by decide +kernel
theorem dX9_apart_101 : decode cX9_apart 101 = .ok (.iload_n 2, 1) := by decide +kernel
theorem dX9_apart_102 : decode cX9_apart 102 = .ok (.iload 5, 2) := by decide +kernel
theorem dX9_apart_104 : decode cX9_apart 104 = .ok (.invokevirtual 388, 3) := by decide +kernel
theorem dX9_apart_107 : decode cX9_apart 107 = .ok (.istore 7, 2) := by decide +kernel
theorem dX9_apart_109 : decode cX9_apart 109 = .ok (.aload_n 0, 1) := by decide +kernel
theorem dX9_apart_110 : decode cX9_apart 110 = .ok (.iload_n 1, 1) := by decide +kernel
theorem dX9_apart_111 : decode cX9_apart 111 = .ok (.iload_n 2, 1) := by decide +kernel
theorem dX9_apart_112 : decode cX9_apart 112 = .ok (.iload 5, 2) := by decide +kernel
theorem dX9_apart_114 : decode cX9_apart 114 = .ok (.invokevirtual 391, 3) := by decide +kernel
theorem dX9_apart_117 : decode cX9_apart 117 = .ok (.istore 8, 2) := by decide +kernel
theorem dX9_apart_119 : decode cX9_apart 119 = .ok (.aload_n 0, 1) := by decide +kernel
theorem dX9_apart_120 : decode cX9_apart 120 = .ok (.iload_n 3, 1) := by decide +kernel
theorem dX9_apart_121 : decode cX9_apart 121 = .ok (.iload 4, 2) := by decide +kernel
theorem dX9_apart_123 : decode cX9_apart 123 = .ok (.iload 5, 2) := by decide +kernel
theorem dX9_apart_125 : decode cX9_apart 125 = .ok (.invokevirtual 388, 3) := by decide +kernel
theorem dX9_apart_128 : decode cX9_apart 128 = .ok (.istore 9, 2) := by decide +kernel
theorem dX9_apart_130 : decode cX9_apart 130 = .ok (.aload_n 0, 1) := by decide +kernel
theorem dX9_apart_131 : decode cX9_apart 131 = .ok (.iload_n 3, 1) := by decide +kernel
theorem dX9_apart_132 : decode cX9_apart 132 = .ok (.iload 4, 2) := by decide +kernel
theorem dX9_apart_134 : decode cX9_apart 134 = .ok (.iload 5, 2) := by decide +kernel
theorem dX9_apart_136 : decode cX9_apart 136 = .ok (.invokevirtual 391, 3) := by decide +kernel
theorem dX9_apart_139 : decode cX9_apart 139 = .ok (.istore 10, 2) := by decide +kernel
theorem dX9_apart_141 : decode cX9_apart 141 = .ok (.iconst 0, 1) := by decide +kernel
theorem dX9_apart_142 : decode cX9_apart 142 = .ok (.istore 11, 2) := by decide +kernel
theorem dX9_apart_144 : decode cX9_apart 144 = .ok (.iload 6, 2) := by decide +kernel
theorem dX9_apart_146 : decode cX9_apart 146 = .ok (.ifCond .ne 15, 3) := by decide +kernel
theorem dX9_apart_149 : decode cX9_apart 149 = .ok (.iload 8, 2) := by decide +kernel
theorem dX9_apart_151 : decode cX9_apart 151 = .ok (.iload 9, 2) := by decide +kernel
theorem dX9_apart_153 : decode cX9_apart 153 = .ok (.imul, 1) := by decide +kernel
theorem dX9_apart_154 : decode cX9_apart 154 = .ok (.iload 10, 2) := by decide +kernel
theorem dX9_apart_156 : decode cX9_apart 156 = .ok (.iload 7, 2) := by decide +kernel
theorem dX9_apart_158 : decode cX9_apart 158 = .ok (.imul, 1) := by decide +kernel
theorem dX9_apart_159 : decode cX9_apart 159 = .ok (.isub, 1) := by decide +kernel
theorem dX9_apart_160 : decode cX9_apart 160 = .ok (.ireturn, 1) := by decide +kernel
theorem dX9_apart_161 : decode cX9_apart 161 = .ok (.iload 6, 2) := by decide +kernel
theorem dX9_apart_163 : decode cX9_apart 163 = .ok (.iconst 2, 1) := by decide +kernel
theorem dX9_apart_164 : decode cX9_apart 164 = .ok (.if_icmp .ne 14, 3) := by decide +kernel
theorem dX9_apart_167 : decode cX9_apart 167 = .ok (.iload 7, 2) := by decide +kernel
theorem dX9_apart_169 : decode cX9_apart 169 = .ok (.iload 9, 2) := by decide +kernel
theorem dX9_apart_171 : decode cX9_apart 171 = .ok (.iadd, 1) := by decide +kernel
theorem dX9_apart_172 : decode cX9_apart 172 = .ok (.iload 7, 2) := by decide +kernel
theorem dX9_apart_174 : decode cX9_apart 174 = .ok (.invokestatic 397, 3) := by decide +kernel
theorem dX9_apart_177 : decode cX9_apart 177 = .ok (.ireturn, 1) := by decide +kernel
theorem dX9_apart_178 : decode cX9_apart 178 = .ok (.iload 8, 2) := by decide +kernel
theorem dX9_apart_180 : decode cX9_apart 180 = .ok (.istore 12, 2) := by decide +kernel
theorem dX9_apart_182 : decode cX9_apart 182 = .ok (.iload 12, 2) := by decide +kernel
theorem dX9_apart_184 : decode cX9_apart 184 = .ok (.iload 7, 2) := by decide +kernel
theorem dX9_apart_186 : decode cX9_apart 186 = .ok (.if_icmp .gt 44, 3) := by decide +kernel
theorem dX9_apart_189 : decode cX9_apart 189 = .ok (.iload 11, 2) := by decide +kernel
theorem dX9_apart_191 : decode cX9_apart 191 = .ok (.iload 8, 2) := by decide +kernel
theorem dX9_apart_193 : decode cX9_apart 193 = .ok (.iload 10, 2) := by decide +kernel
theorem dX9_apart_195 : decode cX9_apart 195 = .ok (.iadd, 1) := by decide +kernel
theorem dX9_apart_196 : decode cX9_apart 196 = .ok (.iload 12, 2) := by decide +kernel
theorem dX9_apart_198 : decode cX9_apart 198 = .ok (.invokestatic 397, 3) := by decide +kernel
theorem dX9_apart_201 : decode cX9_apart 201 = .ok (.iload 7, 2) := by decide +kernel
theorem dX9_apart_203 : decode cX9_apart 203 = .ok (.iload 9, 2) := by decide +kernel
theorem dX9_apart_205 : decode cX9_apart 205 = .ok (.iadd, 1) := by decide +kernel
theorem dX9_apart_206 : decode cX9_apart 206 = .ok (.iload 8, 2) := by decide +kernel
theorem dX9_apart_208 : decode cX9_apart 208 = .ok (.isub, 1) := by decide +kernel
theorem dX9_apart_209 : decode cX9_apart 209 = .ok (.iload 10, 2) := by decide +kernel
theorem dX9_apart_211 : decode cX9_apart 211 = .ok (.isub, 1) := by decide +kernel
theorem dX9_apart_212 : decode cX9_apart 212 = .ok (.iload 7, 2) := by decide +kernel
theorem dX9_apart_214 : decode cX9_apart 214 = .ok (.iload 12, 2) := by decide +kernel
theorem dX9_apart_216 : decode cX9_apart 216 = .ok (.isub, 1) := by decide +kernel
theorem dX9_apart_217 : decode cX9_apart 217 = .ok (.invokestatic 397, 3) := by decide +kernel
theorem dX9_apart_220 : decode cX9_apart 220 = .ok (.imul, 1) := by decide +kernel
theorem dX9_apart_221 : decode cX9_apart 221 = .ok (.iadd, 1) := by decide +kernel
theorem dX9_apart_222 : decode cX9_apart 222 = .ok (.istore 11, 2) := by decide +kernel
theorem dX9_apart_224 : decode cX9_apart 224 = .ok (.iinc 12 1, 3) := by decide +kernel
theorem dX9_apart_227 : decode cX9_apart 227 = .ok (.goto (-45), 3) := by decide +kernel
theorem dX9_apart_230 : decode cX9_apart 230 = .ok (.iload 11, 2) := by decide +kernel
theorem dX9_apart_232 : decode cX9_apart 232 = .ok (.ireturn, 1) := by decide +kernel
theorem dX9_gone_0 : decode cX9_gone 0 = .ok (.aload_n 0, 1) := by decide +kernel
theorem dX9_gone_1 : decode cX9_gone 1 = .ok (.iconst 0, 1) := by decide +kernel
theorem dX9_gone_2 : decode cX9_gone 2 = .ok (.putfield 76, 3) := by decide +kernel
theorem dX9_gone_5 : decode cX9_gone 5 = .ok (.aload_n 0, 1) := by decide +kernel
theorem dX9_gone_6 : decode cX9_gone 6 = .ok (.aload_n 0, 1) := by decide +kernel
theorem dX9_gone_7 : decode cX9_gone 7 = .ok (.iload_n 1, 1) := by decide +kernel
theorem dX9_gone_8 : decode cX9_gone 8 = .ok (.invokevirtual 254, 3) := by decide +kernel
theorem dX9_gone_11 : decode cX9_gone 11 = .ok (.ifCond .ne 7, 3) := by decide +kernel
theorem dX9_gone_14 : decode cX9_gone 14 = .ok (.iconst 1, 1) := by decide +kernel
theorem dX9_gone_15 : decode cX9_gone 15 = .ok (.goto 4, 3) := by decide +kernel
theorem dX9_gone_18 : decode cX9_gone 18 = .ok (.iconst 0, 1) := by decide +kernel
theorem dX9_gone_19 : decode cX9_gone 19 = .ok (.iconst 1, 1) := by decide +kernel
theorem dX9_gone_20 : decode cX9_gone 20 = .ok (.invokevirtual 162, 3) := by decide +kernel
theorem dX9_gone_23 : decode cX9_gone 23 = .ok (.ifCond .ne 46, 3) := by decide +kernel
theorem dX9_gone_26 : decode cX9_gone 26 = .ok (.aload_n 0, 1) := by decide +kernel
theorem dX9_gone_27 : decode cX9_gone 27 = .ok (.aload_n 0, 1) := by decide +kernel
theorem dX9_gone_28 : decode cX9_gone 28 = .ok (.iload_n 2, 1) := by decide +kernel
theorem dX9_gone_29 : decode cX9_gone 29 = .ok (.invokevirtual 278, 3) := by decide +kernel
theorem dX9_gone_32 : decode cX9_gone 32 = .ok (.ifCond .ne 7, 3) := by decide +kernel
theorem dX9_gone_35 : decode cX9_gone 35 = .ok (.iconst 1, 1) := by decide +kernel
theorem dX9_gone_36 : decode cX9_gone 36 = .ok (.goto 4, 3) := by decide +kernel
theorem dX9_gone_39 : decode cX9_gone 39 = .ok (.iconst 0, 1) := by decide +kernel
theorem dX9_gone_40 : decode cX9_gone 40 = .ok (.iconst 2, 1) := by decide +kernel
theorem dX9_gone_41 : decode cX9_gone 41 = .ok (.invokevirtual 162, 3) := by decide +kernel
theorem dX9_gone_44 : decode cX9_gone 44 = .ok (.ifCond .ne 25, 3) := by decide +kernel
theorem dX9_gone_47 : decode cX9_gone 47 = .ok (.aload_n 0, 1) := by decide +kernel
theorem dX9_gone_48 : decode cX9_gone 48 = .ok (.iload_n 3, 1) := by decide +kernel
theorem dX9_gone_49 : decode cX9_gone 49 = .ok (.iconst 0, 1) := by decide +kernel
theorem dX9_gone_50 : decode cX9_gone 50 = .ok (.iconst 2, 1) := by decide +kernel
theorem dX9_gone_51 : decode cX9_gone 51 = .ok (.invokestatic 113, 3) := by decide +kernel
theorem dX9_gone_54 : decode cX9_gone 54 = .ok (.ifCond .ne 7, 3) := by decide +kernel
theorem dX9_gone_57 : decode cX9_gone 57 = .ok (.iconst 1, 1) := by decide +kernel
theorem dX9_gone_58 : decode cX9_gone 58 = .ok (.goto 4, 3) := by decide +kernel
theorem dX9_gone_61 : decode cX9_gone 61 = .ok (.iconst 0, 1) := by decide +kernel
theorem dX9_gone_62 : decode cX9_gone 62 = .ok (.iconst 3, 1) := by decide +kernel
theorem dX9_gone_63 : decode cX9_gone 63 = .ok (.invokevirtual 162, 3) := by decide +kernel
theorem dX9_gone_66 : decode cX9_gone 66 = .ok (.ifCond .eq 5, 3) := by decide +kernel
theorem dX9_gone_69 : decode cX9_gone 69 = .ok (.iconst 0, 1) := by decide +kernel
theorem dX9_gone_70 : decode cX9_gone 70 = .ok (.ireturn, 1) := by decide +kernel
theorem dX9_gone_71 : decode cX9_gone 71 = .ok (.iconst 0, 1) := by decide +kernel
theorem dX9_gone_72 : decode cX9_gone 72 = .ok (.istore 4, 2) := by decide +kernel
theorem dX9_gone_74 : decode cX9_gone 74 = .ok (.iconst 0, 1) := by decide +kernel
theorem dX9_gone_75 : decode cX9_gone 75 = .ok (.istore 5, 2) := by decide +kernel
theorem dX9_gone_77 : decode cX9_gone 77 = .ok (.iload 5, 2) := by decide +kernel
theorem dX9_gone_79 : decode cX9_gone 79 = .ok (.aload_n 0, 1) := by decide +kernel
theorem dX9_gone_80 : decode cX9_gone 80 = .ok (.getfield 288, 3) := by decide +kernel
theorem dX9_gone_83 : decode cX9_gone 83 = .ok (.if_icmp .ge 118, 3) := by decide +kernel
theorem dX9_gone_86 : decode cX9_gone 86 = .ok (.aload_n 0, 1) := by decide +kernel
theorem dX9_gone_87 : decode cX9_gone 87 = .ok (.getfield 61, 3) := by decide +kernel
theorem dX9_gone_90 : decode cX9_gone 90 = .ok (.iload 5, 2) := by decide +kernel
theorem dX9_gone_92 : decode cX9_gone 92 = .ok (.aaload, 1) := by decide +kernel
theorem dX9_gone_93 : decode cX9_gone 93 = .ok (.astore 6, 2) := by decide +kernel
theorem dX9_gone_95 : decode cX9_gone 95 = .ok (.aload_n 0, 1) := by decide +kernel
theorem dX9_gone_96 : decode cX9_gone 96 = .ok (.iload 5, 2) := by decide +kernel
theorem dX9_gone_98 : decode cX9_gone 98 = .ok (.iload_n 1, 1) := by decide +kernel
theorem dX9_gone_99 : decode cX9_gone 99 = .ok (.iload_n 2, 1) := by decide +kernel
theorem dX9_gone_100 : decode cX9_gone 100 = .ok (.invokevirtual 381, 3) := by decide +kernel
theorem dX9_gone_103 : decode cX9_gone 103 = .ok (.ifCond .eq 92, 3) := by decide +kernel
theorem dX9_gone_106 : decode cX9_gone 106 = .ok (.aload 6, 2) := by decide +kernel
theorem dX9_gone_108 : decode cX9_gone 108 = .ok (.iconst 2, 1) := by decide +kernel
theorem dX9_gone_109 : decode cX9_gone 109 = .ok (.iaload, 1) := by decide +kernel
theorem dX9_gone_110 : decode cX9_gone 110 = .ok (.iconst 1, 1) := by decide +kernel
theorem dX9_gone_111 : decode cX9_gone 111 = .ok (.if_icmp .eq 84, 3) := by decide +kernel
theorem dX9_gone_114 : decode cX9_gone 114 = .ok (.aload 6, 2) := by decide +kernel
theorem dX9_gone_116 : decode cX9_gone 116 = .ok (.iconst 3, 1) := by decide +kernel
theorem dX9_gone_117 : decode cX9_gone 117 = .ok (.iaload, 1) := by decide +kernel
theorem dX9_gone_118 : decode cX9_gone 118 = .ok (.iconst (-1), 1) := by decide +kernel
theorem dX9_gone_119 : decode cX9_gone 119 = .ok (.if_icmp .eq 76, 3) := by decide +kernel
theorem dX9_gone_122 : decode cX9_gone 122 = .ok (.aload 6, 2) := by decide +kernel
theorem dX9_gone_124 : decode cX9_gone 124 = .ok (.iconst 4, 1) := by decide +kernel
theorem dX9_gone_125 : decode cX9_gone 125 = .ok (.iaload, 1) := by decide +kernel
theorem dX9_gone_126 : decode cX9_gone 126 = .ok (.iconst (-1), 1) := by decide +kernel
theorem dX9_gone_127 : decode cX9_gone 127 = .ok (.if_icmp .eq 68, 3) := by decide +kernel
theorem dX9_gone_130 : decode cX9_gone 130 = .ok (.aload 6, 2) := by decide +kernel
theorem dX9_gone_132 : decode cX9_gone 132 = .ok (.iconst 5, 1) := by decide +kernel
theorem dX9_gone_133 : decode cX9_gone 133 = .ok (.iaload, 1) := by decide +kernel
theorem dX9_gone_134 : decode cX9_gone 134 = .ok (.iconst (-1), 1) := by decide +kernel
theorem dX9_gone_135 : decode cX9_gone 135 = .ok (.if_icmp .ne 6, 3) := by decide +kernel
theorem dX9_gone_138 : decode cX9_gone 138 = .ok (.goto 57, 3) := by decide +kernel
theorem dX9_gone_141 : decode cX9_gone 141 = .ok (.iload 4, 2) := by decide +kernel
theorem dX9_gone_143 : decode cX9_gone 143 = .ok (.iload_n 3, 1) := by decide +kernel
theorem dX9_gone_144 : decode cX9_gone 144 = .ok (.iconst 2, 1) := by decide +kernel
theorem dX9_gone_145 : decode cX9_gone 145 = .ok (.if_icmp .eq 42, 3) := by decide +kernel
theorem dX9_gone_148 : decode cX9_gone 148 = .ok (.iload_n 3, 1) := by decide +kernel
theorem dX9_gone_149 : decode cX9_gone 149 = .ok (.ifCond .ne 21, 3) := by decide +kernel
theorem dX9_gone_152 : decode cX9_gone 152 = .ok (.aload 6, 2) := by decide +kernel
theorem dX9_gone_154 : decode cX9_gone 154 = .ok (.iconst 3, 1) := by decide +kernel
theorem dX9_gone_155 : decode cX9_gone 155 = .ok (.iaload, 1) := by decide +kernel
theorem dX9_gone_156 : decode cX9_gone 156 = .ok (.ifCond .ne 35, 3) := by decide +kernel
theorem dX9_gone_159 : decode cX9_gone 159 = .ok (.aload 6, 2) := by decide +kernel
theorem dX9_gone_161 : decode cX9_gone 161 = .ok (.iconst 5, 1) := by decide +kernel
theorem dX9_gone_162 : decode cX9_gone 162 = .ok (.iaload, 1) := by decide +kernel
theorem dX9_gone_163 : decode cX9_gone 163 = .ok (.iconst 1, 1) := by decide +kernel
theorem dX9_gone_164 : decode cX9_gone 164 = .ok (.if_icmp .ne 27, 3) := by decide +kernel
theorem dX9_gone_167 : decode cX9_gone 167 = .ok (.goto 20, 3) := by decide +kernel
theorem dX9_gone_170 : decode cX9_gone 170 = .ok (.aload 6, 2) := by decide +kernel
theorem dX9_gone_172 : decode cX9_gone 172 = .ok (.iconst 3, 1) := by decide +kernel
theorem dX9_gone_173 : decode cX9_gone 173 = .ok (.iaload, 1) := by decide +kernel
theorem dX9_gone_174 : decode cX9_gone 174 = .ok (.aload 6, 2) := by decide +kernel
theorem dX9_gone_176 : decode cX9_gone 176 = .ok (.iconst 4, 1) := by decide +kernel
theorem dX9_gone_177 : decode cX9_gone 177 = .ok (.iaload, 1) := by decide +kernel
theorem dX9_gone_178 : decode cX9_gone 178 = .ok (.iadd, 1) := by decide +kernel
theorem dX9_gone_179 : decode cX9_gone 179 = .ok (.aload 6, 2) := by decide +kernel
theorem dX9_gone_181 : decode cX9_gone 181 = .ok (.iconst 5, 1) := by decide +kernel
theorem dX9_gone_182 : decode cX9_gone 182 = .ok (.iaload, 1) := by decide +kernel
theorem dX9_gone_183 : decode cX9_gone 183 = .ok (.iadd, 1) := by decide +kernel
theorem dX9_gone_184 : decode cX9_gone 184 = .ok (.ifCond .ne 7, 3) := by decide +kernel
theorem dX9_gone_187 : decode cX9_gone 187 = .ok (.iconst 1, 1) := by decide +kernel
theorem dX9_gone_188 : decode cX9_gone 188 = .ok (.goto 4, 3) := by decide +kernel
theorem dX9_gone_191 : decode cX9_gone 191 = .ok (.iconst 0, 1) := by decide +kernel
theorem dX9_gone_192 : decode cX9_gone 192 = .ok (.iadd, 1) := by decide +kernel
theorem dX9_gone_193 : decode cX9_gone 193 = .ok (.istore 4, 2) := by decide +kernel
theorem dX9_gone_195 : decode cX9_gone 195 = .ok (.iinc 5 1, 3) := by decide +kernel
theorem dX9_gone_198 : decode cX9_gone 198 = .ok (.goto (-121), 3) := by decide +kernel
theorem dX9_gone_201 : decode cX9_gone 201 = .ok (.iload 4, 2) := by decide +kernel
theorem dX9_gone_203 : decode cX9_gone 203 = .ok (.ireturn, 1) := by decide +kernel
theorem dX9_lostOf_0 : decode cX9_lostOf 0 = .ok (.aload_n 0, 1) := by decide +kernel
theorem dX9_lostOf_1 : decode cX9_lostOf 1 = .ok (.getfield 61, 3) := by decide +kernel
theorem dX9_lostOf_4 : decode cX9_lostOf 4 = .ok (.iload_n 1, 1) := by decide +kernel
theorem dX9_lostOf_5 : decode cX9_lostOf 5 = .ok (.aaload, 1) := by decide +kernel
theorem dX9_lostOf_6 : decode cX9_lostOf 6 = .ok (.astore_n 2, 1) := by decide +kernel
theorem dX9_lostOf_7 : decode cX9_lostOf 7 = .ok (.aload_n 2, 1) := by decide +kernel
theorem dX9_lostOf_8 : decode cX9_lostOf 8 = .ok (.bipush 6, 2) := by decide +kernel
theorem dX9_lostOf_10 : decode cX9_lostOf 10 = .ok (.iaload, 1) := by decide +kernel
theorem dX9_lostOf_11 : decode cX9_lostOf 11 = .ok (.iconst (-1), 1) := by decide +kernel
theorem dX9_lostOf_12 : decode cX9_lostOf 12 = .ok (.if_icmp .eq 17, 3) := by decide +kernel
theorem dX9_lostOf_15 : decode cX9_lostOf 15 = .ok (.aload_n 0, 1) := by decide +kernel
theorem dX9_lostOf_16 : decode cX9_lostOf 16 = .ok (.getfield 37, 3) := by decide +kernel
theorem dX9_lostOf_19 : decode cX9_lostOf 19 = .ok (.aload_n 2, 1) := by decide +kernel
theorem dX9_lostOf_20 : decode cX9_lostOf 20 = .ok (.iconst 1, 1) := by decide +kernel
theorem dX9_lostOf_21 : decode cX9_lostOf 21 = .ok (.iaload, 1) := by decide +kernel
theorem dX9_lostOf_22 : decode cX9_lostOf 22 = .ok (.aaload, 1) := by decide +kernel
theorem dX9_lostOf_23 : decode cX9_lostOf 23 = .ok (.iconst 2, 1) := by decide +kernel
theorem dX9_lostOf_24 : decode cX9_lostOf 24 = .ok (.iaload, 1) := by decide +kernel
theorem dX9_lostOf_25 : decode cX9_lostOf 25 = .ok (.iconst (-1), 1) := by decide +kernel
theorem dX9_lostOf_26 : decode cX9_lostOf 26 = .ok (.if_icmp .ne 7, 3) := by decide +kernel
theorem dX9_lostOf_29 : decode cX9_lostOf 29 = .ok (.iconst (-1), 1) := by decide +kernel
theorem dX9_lostOf_30 : decode cX9_lostOf 30 = .ok (.goto 21, 3) := by decide +kernel
theorem dX9_lostOf_33 : decode cX9_lostOf 33 = .ok (.aload_n 0, 1) := by decide +kernel
theorem dX9_lostOf_34 : decode cX9_lostOf 34 = .ok (.aload_n 2, 1) := by decide +kernel
theorem dX9_lostOf_35 : decode cX9_lostOf 35 = .ok (.iconst 0, 1) := by decide +kernel
theorem dX9_lostOf_36 : decode cX9_lostOf 36 = .ok (.iaload, 1) := by decide +kernel
theorem dX9_lostOf_37 : decode cX9_lostOf 37 = .ok (.aload_n 2, 1) := by decide +kernel
theorem dX9_lostOf_38 : decode cX9_lostOf 38 = .ok (.iconst 1, 1) := by decide +kernel
theorem dX9_lostOf_39 : decode cX9_lostOf 39 = .ok (.iaload, 1) := by decide +kernel
theorem dX9_lostOf_40 : decode cX9_lostOf 40 = .ok (.invokevirtual 285, 3) := by decide +kernel
theorem dX9_lostOf_43 : decode cX9_lostOf 43 = .ok (.aload_n 2, 1) := by decide +kernel
theorem dX9_lostOf_44 : decode cX9_lostOf 44 = .ok (.bipush 6, 2) := by decide +kernel
theorem dX9_lostOf_46 : decode cX9_lostOf 46 = .ok (.iaload, 1) := by decide +kernel
theorem dX9_lostOf_47 : decode cX9_lostOf 47 = .ok (.isub, 1) := by decide +kernel
theorem dX9_lostOf_48 : decode cX9_lostOf 48 = .ok (.invokestatic 248, 3) := by decide +kernel
theorem dX9_lostOf_51 : decode cX9_lostOf 51 = .ok (.ireturn, 1) := by decide +kernel
theorem dX9_lost_0 : decode cX9_lost 0 = .ok (.aload_n 0, 1) := by decide +kernel
theorem dX9_lost_1 : decode cX9_lost 1 = .ok (.iconst 0, 1) := by decide +kernel
theorem dX9_lost_2 : decode cX9_lost 2 = .ok (.putfield 76, 3) := by decide +kernel
theorem dX9_lost_5 : decode cX9_lost 5 = .ok (.aload_n 0, 1) := by decide +kernel
theorem dX9_lost_6 : decode cX9_lost 6 = .ok (.aload_n 0, 1) := by decide +kernel
theorem dX9_lost_7 : decode cX9_lost 7 = .ok (.iload_n 1, 1) := by decide +kernel
theorem dX9_lost_8 : decode cX9_lost 8 = .ok (.invokevirtual 295, 3) := by decide +kernel
theorem dX9_lost_11 : decode cX9_lost 11 = .ok (.ifCond .ne 7, 3) := by decide +kernel
theorem dX9_lost_14 : decode cX9_lost 14 = .ok (.iconst 1, 1) := by decide +kernel
theorem dX9_lost_15 : decode cX9_lost 15 = .ok (.goto 4, 3) := by decide +kernel
theorem dX9_lost_18 : decode cX9_lost 18 = .ok (.iconst 0, 1) := by decide +kernel
theorem dX9_lost_19 : decode cX9_lost 19 = .ok (.iconst 1, 1) := by decide +kernel
theorem dX9_lost_20 : decode cX9_lost 20 = .ok (.invokevirtual 162, 3) := by decide +kernel
theorem dX9_lost_23 : decode cX9_lost 23 = .ok (.ifCond .eq 5, 3) := by decide +kernel
theorem dX9_lost_26 : decode cX9_lost 26 = .ok (.iconst 0, 1) := by decide +kernel
theorem dX9_lost_27 : decode cX9_lost 27 = .ok (.ireturn, 1) := by decide +kernel
theorem dX9_lost_28 : decode cX9_lost 28 = .ok (.aload_n 0, 1) := by decide +kernel
theorem dX9_lost_29 : decode cX9_lost 29 = .ok (.iload_n 1, 1) := by decide +kernel
theorem dX9_lost_30 : decode cX9_lost 30 = .ok (.invokevirtual 400, 3) := by decide +kernel
theorem dX9_lost_33 : decode cX9_lost 33 = .ok (.ireturn, 1) := by decide +kernel
theorem dX9_lostBy_0 : decode cX9_lostBy 0 = .ok (.iconst 0, 1) := by decide +kernel
theorem dX9_lostBy_1 : decode cX9_lostBy 1 = .ok (.istore 4, 2) := by decide +kernel
theorem dX9_lostBy_3 : decode cX9_lostBy 3 = .ok (.iconst 0, 1) := by decide +kernel
theorem dX9_lostBy_4 : decode cX9_lostBy 4 = .ok (.istore 5, 2) := by decide +kernel
theorem dX9_lostBy_6 : decode cX9_lostBy 6 = .ok (.iload 5, 2) := by decide +kernel
theorem dX9_lostBy_8 : decode cX9_lostBy 8 = .ok (.aload_n 0, 1) := by decide +kernel
theorem dX9_lostBy_9 : decode cX9_lostBy 9 = .ok (.getfield 288, 3) := by decide +kernel
theorem dX9_lostBy_12 : decode cX9_lostBy 12 = .ok (.if_icmp .ge 49, 3) := by decide +kernel
theorem dX9_lostBy_15 : decode cX9_lostBy 15 = .ok (.aload_n 0, 1) := by decide +kernel
theorem dX9_lostBy_16 : decode cX9_lostBy 16 = .ok (.iload 5, 2) := by decide +kernel
theorem dX9_lostBy_18 : decode cX9_lostBy 18 = .ok (.iload_n 1, 1) := by decide +kernel
theorem dX9_lostBy_19 : decode cX9_lostBy 19 = .ok (.iload_n 2, 1) := by decide +kernel
theorem dX9_lostBy_20 : decode cX9_lostBy 20 = .ok (.invokevirtual 381, 3) := by decide +kernel
theorem dX9_lostBy_23 : decode cX9_lostBy 23 = .ok (.ifCond .eq 32, 3) := by decide +kernel
theorem dX9_lostBy_26 : decode cX9_lostBy 26 = .ok (.aload_n 0, 1) := by decide +kernel
theorem dX9_lostBy_27 : decode cX9_lostBy 27 = .ok (.iload 5, 2) := by decide +kernel
theorem dX9_lostBy_29 : decode cX9_lostBy 29 = .ok (.invokevirtual 400, 3) := by decide +kernel
theorem dX9_lostBy_32 : decode cX9_lostBy 32 = .ok (.iconst (-1), 1) := by decide +kernel
theorem dX9_lostBy_33 : decode cX9_lostBy 33 = .ok (.if_icmp .eq 22, 3) := by decide +kernel
theorem dX9_lostBy_36 : decode cX9_lostBy 36 = .ok (.iload 4, 2) := by decide +kernel
theorem dX9_lostBy_38 : decode cX9_lostBy 38 = .ok (.iload_n 3, 1) := by decide +kernel
theorem dX9_lostBy_39 : decode cX9_lostBy 39 = .ok (.ifCond .eq 7, 3) := by decide +kernel
theorem dX9_lostBy_42 : decode cX9_lostBy 42 = .ok (.iconst 1, 1) := by decide +kernel
theorem dX9_lostBy_43 : decode cX9_lostBy 43 = .ok (.goto 9, 3) := by decide +kernel
theorem dX9_lostBy_46 : decode cX9_lostBy 46 = .ok (.aload_n 0, 1) := by decide +kernel
theorem dX9_lostBy_47 : decode cX9_lostBy 47 = .ok (.iload 5, 2) := by decide +kernel
theorem dX9_lostBy_49 : decode cX9_lostBy 49 = .ok (.invokevirtual 400, 3) := by decide +kernel
theorem dX9_lostBy_52 : decode cX9_lostBy 52 = .ok (.iadd, 1) := by decide +kernel
theorem dX9_lostBy_53 : decode cX9_lostBy 53 = .ok (.istore 4, 2) := by decide +kernel
theorem dX9_lostBy_55 : decode cX9_lostBy 55 = .ok (.iinc 5 1, 3) := by decide +kernel
theorem dX9_lostBy_58 : decode cX9_lostBy 58 = .ok (.goto (-52), 3) := by decide +kernel
theorem dX9_lostBy_61 : decode cX9_lostBy 61 = .ok (.iload 4, 2) := by decide +kernel
theorem dX9_lostBy_63 : decode cX9_lostBy 63 = .ok (.ireturn, 1) := by decide +kernel
theorem dX9_cost_0 : decode cX9_cost 0 = .ok (.aload_n 0, 1) := by decide +kernel
theorem dX9_cost_1 : decode cX9_cost 1 = .ok (.iconst 0, 1) := by decide +kernel
theorem dX9_cost_2 : decode cX9_cost 2 = .ok (.putfield 76, 3) := by decide +kernel
theorem dX9_cost_5 : decode cX9_cost 5 = .ok (.aload_n 0, 1) := by decide +kernel
theorem dX9_cost_6 : decode cX9_cost 6 = .ok (.aload_n 0, 1) := by decide +kernel
theorem dX9_cost_7 : decode cX9_cost 7 = .ok (.iload_n 1, 1) := by decide +kernel
theorem dX9_cost_8 : decode cX9_cost 8 = .ok (.invokevirtual 254, 3) := by decide +kernel
theorem dX9_cost_11 : decode cX9_cost 11 = .ok (.ifCond .ne 7, 3) := by decide +kernel
theorem dX9_cost_14 : decode cX9_cost 14 = .ok (.iconst 1, 1) := by decide +kernel
theorem dX9_cost_15 : decode cX9_cost 15 = .ok (.goto 4, 3) := by decide +kernel
theorem dX9_cost_18 : decode cX9_cost 18 = .ok (.iconst 0, 1) := by decide +kernel
theorem dX9_cost_19 : decode cX9_cost 19 = .ok (.iconst 1, 1) := by decide +kernel
theorem dX9_cost_20 : decode cX9_cost 20 = .ok (.invokevirtual 162, 3) := by decide +kernel
theorem dX9_cost_23 : decode cX9_cost 23 = .ok (.ifCond .ne 32, 3) := by decide +kernel
theorem dX9_cost_26 : decode cX9_cost 26 = .ok (.aload_n 0, 1) := by decide +kernel
theorem dX9_cost_27 : decode cX9_cost 27 = .ok (.aload_n 0, 1) := by decide +kernel
theorem dX9_cost_28 : decode cX9_cost 28 = .ok (.iload_n 2, 1) := by decide +kernel
theorem dX9_cost_29 : decode cX9_cost 29 = .ok (.invokevirtual 278, 3) := by decide +kernel
theorem dX9_cost_32 : decode cX9_cost 32 = .ok (.ifCond .eq 11, 3) := by decide +kernel
theorem dX9_cost_35 : decode cX9_cost 35 = .ok (.aload_n 0, 1) := by decide +kernel
theorem dX9_cost_36 : decode cX9_cost 36 = .ok (.iload_n 3, 1) := by decide +kernel
theorem dX9_cost_37 : decode cX9_cost 37 = .ok (.invokevirtual 278, 3) := by decide +kernel
theorem dX9_cost_40 : decode cX9_cost 40 = .ok (.ifCond .ne 7, 3) := by decide +kernel
theorem dX9_cost_43 : decode cX9_cost 43 = .ok (.iconst 1, 1) := by decide +kernel
theorem dX9_cost_44 : decode cX9_cost 44 = .ok (.goto 4, 3) := by decide +kernel
theorem dX9_cost_47 : decode cX9_cost 47 = .ok (.iconst 0, 1) := by decide +kernel
theorem dX9_cost_48 : decode cX9_cost 48 = .ok (.iconst 2, 1) := by decide +kernel
theorem dX9_cost_49 : decode cX9_cost 49 = .ok (.invokevirtual 162, 3) := by decide +kernel
theorem dX9_cost_52 : decode cX9_cost 52 = .ok (.ifCond .eq 5, 3) := by decide +kernel
theorem dX9_cost_55 : decode cX9_cost 55 = .ok (.iconst 0, 1) := by decide +kernel
theorem dX9_cost_56 : decode cX9_cost 56 = .ok (.ireturn, 1) := by decide +kernel
theorem dX9_cost_57 : decode cX9_cost 57 = .ok (.aload_n 0, 1) := by decide +kernel
theorem dX9_cost_58 : decode cX9_cost 58 = .ok (.iload_n 1, 1) := by decide +kernel
theorem dX9_cost_59 : decode cX9_cost 59 = .ok (.iload_n 2, 1) := by decide +kernel
theorem dX9_cost_60 : decode cX9_cost 60 = .ok (.iconst 0, 1) := by decide +kernel
theorem dX9_cost_61 : decode cX9_cost 61 = .ok (.invokevirtual 403, 3) := by decide +kernel
theorem dX9_cost_64 : decode cX9_cost 64 = .ok (.aload_n 0, 1) := by decide +kernel
theorem dX9_cost_65 : decode cX9_cost 65 = .ok (.iload_n 1, 1) := by decide +kernel
theorem dX9_cost_66 : decode cX9_cost 66 = .ok (.iload_n 3, 1) := by decide +kernel
theorem dX9_cost_67 : decode cX9_cost 67 = .ok (.iconst 1, 1) := by decide +kernel
theorem dX9_cost_68 : decode cX9_cost 68 = .ok (.invokevirtual 403, 3) := by decide +kernel
theorem dX9_cost_71 : decode cX9_cost 71 = .ok (.imul, 1) := by decide +kernel
theorem dX9_cost_72 : decode cX9_cost 72 = .ok (.aload_n 0, 1) := by decide +kernel
theorem dX9_cost_73 : decode cX9_cost 73 = .ok (.iload_n 1, 1) := by decide +kernel
theorem dX9_cost_74 : decode cX9_cost 74 = .ok (.iload_n 3, 1) := by decide +kernel
theorem dX9_cost_75 : decode cX9_cost 75 = .ok (.iconst 0, 1) := by decide +kernel
theorem dX9_cost_76 : decode cX9_cost 76 = .ok (.invokevirtual 403, 3) := by decide +kernel
theorem dX9_cost_79 : decode cX9_cost 79 = .ok (.aload_n 0, 1) := by decide +kernel
theorem dX9_cost_80 : decode cX9_cost 80 = .ok (.iload_n 1, 1) := by decide +kernel
theorem dX9_cost_81 : decode cX9_cost 81 = .ok (.iload_n 2, 1) := by decide +kernel
theorem dX9_cost_82 : decode cX9_cost 82 = .ok (.iconst 1, 1) := by decide +kernel
theorem dX9_cost_83 : decode cX9_cost 83 = .ok (.invokevirtual 403, 3) := by decide +kernel
theorem dX9_cost_86 : decode cX9_cost 86 = .ok (.imul, 1) := by decide +kernel
theorem dX9_cost_87 : decode cX9_cost 87 = .ok (.isub, 1) := by decide +kernel
theorem dX9_cost_88 : decode cX9_cost 88 = .ok (.ireturn, 1) := by decide +kernel
theorem dX9_off_0 : decode cX9_off 0 = .ok (.aload_n 0, 1) := by decide +kernel
theorem dX9_off_1 : decode cX9_off 1 = .ok (.iconst 0, 1) := by decide +kernel
theorem dX9_off_2 : decode cX9_off 2 = .ok (.putfield 76, 3) := by decide +kernel
theorem dX9_off_5 : decode cX9_off 5 = .ok (.aload_n 0, 1) := by decide +kernel
theorem dX9_off_6 : decode cX9_off 6 = .ok (.aload_n 0, 1) := by decide +kernel
theorem dX9_off_7 : decode cX9_off 7 = .ok (.iload_n 1, 1) := by decide +kernel
theorem dX9_off_8 : decode cX9_off 8 = .ok (.invokevirtual 254, 3) := by decide +kernel
theorem dX9_off_11 : decode cX9_off 11 = .ok (.ifCond .ne 7, 3) := by decide +kernel
theorem dX9_off_14 : decode cX9_off 14 = .ok (.iconst 1, 1) := by decide +kernel
theorem dX9_off_15 : decode cX9_off 15 = .ok (.goto 4, 3) := by decide +kernel
theorem dX9_off_18 : decode cX9_off 18 = .ok (.iconst 0, 1) := by decide +kernel
theorem dX9_off_19 : decode cX9_off 19 = .ok (.iconst 1, 1) := by decide +kernel
theorem dX9_off_20 : decode cX9_off 20 = .ok (.invokevirtual 162, 3) := by decide +kernel
theorem dX9_off_23 : decode cX9_off 23 = .ok (.ifCond .ne 46, 3) := by decide +kernel
theorem dX9_off_26 : decode cX9_off 26 = .ok (.aload_n 0, 1) := by decide +kernel
theorem dX9_off_27 : decode cX9_off 27 = .ok (.aload_n 0, 1) := by decide +kernel
theorem dX9_off_28 : decode cX9_off 28 = .ok (.iload_n 2, 1) := by decide +kernel
theorem dX9_off_29 : decode cX9_off 29 = .ok (.invokevirtual 278, 3) := by decide +kernel
theorem dX9_off_32 : decode cX9_off 32 = .ok (.ifCond .ne 7, 3) := by decide +kernel
theorem dX9_off_35 : decode cX9_off 35 = .ok (.iconst 1, 1) := by decide +kernel
theorem dX9_off_36 : decode cX9_off 36 = .ok (.goto 4, 3) := by decide +kernel
theorem dX9_off_39 : decode cX9_off 39 = .ok (.iconst 0, 1) := by decide +kernel
theorem dX9_off_40 : decode cX9_off 40 = .ok (.iconst 2, 1) := by decide +kernel
theorem dX9_off_41 : decode cX9_off 41 = .ok (.invokevirtual 162, 3) := by decide +kernel
theorem dX9_off_44 : decode cX9_off 44 = .ok (.ifCond .ne 25, 3) := by decide +kernel
theorem dX9_off_47 : decode cX9_off 47 = .ok (.aload_n 0, 1) := by decide +kernel
theorem dX9_off_48 : decode cX9_off 48 = .ok (.iload_n 3, 1) := by decide +kernel
theorem dX9_off_49 : decode cX9_off 49 = .ok (.iconst 0, 1) := by decide +kernel
theorem dX9_off_50 : decode cX9_off 50 = .ok (.iconst 1, 1) := by decide +kernel
theorem dX9_off_51 : decode cX9_off 51 = .ok (.invokestatic 113, 3) := by decide +kernel
theorem dX9_off_54 : decode cX9_off 54 = .ok (.ifCond .ne 7, 3) := by decide +kernel
theorem dX9_off_57 : decode cX9_off 57 = .ok (.iconst 1, 1) := by decide +kernel
theorem dX9_off_58 : decode cX9_off 58 = .ok (.goto 4, 3) := by decide +kernel
theorem dX9_off_61 : decode cX9_off 61 = .ok (.iconst 0, 1) := by decide +kernel
theorem dX9_off_62 : decode cX9_off 62 = .ok (.iconst 3, 1) := by decide +kernel
theorem dX9_off_63 : decode cX9_off 63 = .ok (.invokevirtual 162, 3) := by decide +kernel
theorem dX9_off_66 : decode cX9_off 66 = .ok (.ifCond .eq 5, 3) := by decide +kernel
theorem dX9_off_69 : decode cX9_off 69 = .ok (.iconst 0, 1) := by decide +kernel
theorem dX9_off_70 : decode cX9_off 70 = .ok (.ireturn, 1) := by decide +kernel
theorem dX9_off_71 : decode cX9_off 71 = .ok (.iconst 0, 1) := by decide +kernel
theorem dX9_off_72 : decode cX9_off 72 = .ok (.istore 4, 2) := by decide +kernel
theorem dX9_off_74 : decode cX9_off 74 = .ok (.iconst 0, 1) := by decide +kernel
theorem dX9_off_75 : decode cX9_off 75 = .ok (.istore 5, 2) := by decide +kernel
theorem dX9_off_77 : decode cX9_off 77 = .ok (.iconst 0, 1) := by decide +kernel
theorem dX9_off_78 : decode cX9_off 78 = .ok (.istore 6, 2) := by decide +kernel
theorem dX9_off_80 : decode cX9_off 80 = .ok (.iload 6, 2) := by decide +kernel
theorem dX9_off_82 : decode cX9_off 82 = .ok (.aload_n 0, 1) := by decide +kernel
theorem dX9_off_83 : decode cX9_off 83 = .ok (.getfield 288, 3) := by decide +kernel
theorem dX9_off_86 : decode cX9_off 86 = .ok (.if_icmp .ge 103, 3) := by decide +kernel
theorem dX9_off_89 : decode cX9_off 89 = .ok (.aload_n 0, 1) := by decide +kernel
theorem dX9_off_90 : decode cX9_off 90 = .ok (.iload 6, 2) := by decide +kernel
theorem dX9_off_92 : decode cX9_off 92 = .ok (.iload_n 1, 1) := by decide +kernel
theorem dX9_off_93 : decode cX9_off 93 = .ok (.iload_n 2, 1) := by decide +kernel
theorem dX9_off_94 : decode cX9_off 94 = .ok (.iconst 0, 1) := by decide +kernel
theorem dX9_off_95 : decode cX9_off 95 = .ok (.invokevirtual 384, 3) := by decide +kernel
theorem dX9_off_98 : decode cX9_off 98 = .ok (.ifCond .eq 85, 3) := by decide +kernel
theorem dX9_off_101 : decode cX9_off 101 = .ok (.aload_n 0, 1) := by decide +kernel
theorem dX9_off_102 : decode cX9_off 102 = .ok (.getfield 61, 3) := by decide +kernel
theorem dX9_off_105 : decode cX9_off 105 = .ok (.iload 6, 2) := by decide +kernel
theorem dX9_off_107 : decode cX9_off 107 = .ok (.aaload, 1) := by decide +kernel
theorem dX9_off_108 : decode cX9_off 108 = .ok (.bipush 7, 2) := by decide +kernel
theorem dX9_off_110 : decode cX9_off 110 = .ok (.iaload, 1) := by decide +kernel
theorem dX9_off_111 : decode cX9_off 111 = .ok (.iconst (-1), 1) := by decide +kernel
theorem dX9_off_112 : decode cX9_off 112 = .ok (.if_icmp .ne 6, 3) := by decide +kernel
theorem dX9_off_115 : decode cX9_off 115 = .ok (.goto 68, 3) := by decide +kernel
theorem dX9_off_118 : decode cX9_off 118 = .ok (.iload 4, 2) := by decide +kernel
theorem dX9_off_120 : decode cX9_off 120 = .ok (.aload_n 0, 1) := by decide +kernel
theorem dX9_off_121 : decode cX9_off 121 = .ok (.getfield 61, 3) := by decide +kernel
theorem dX9_off_124 : decode cX9_off 124 = .ok (.iload 6, 2) := by decide +kernel
theorem dX9_off_126 : decode cX9_off 126 = .ok (.aaload, 1) := by decide +kernel
theorem dX9_off_127 : decode cX9_off 127 = .ok (.bipush 7, 2) := by decide +kernel
theorem dX9_off_129 : decode cX9_off 129 = .ok (.iaload, 1) := by decide +kernel
theorem dX9_off_130 : decode cX9_off 130 = .ok (.bipush 100, 2) := by decide +kernel
theorem dX9_off_132 : decode cX9_off 132 = .ok (.aload_n 0, 1) := by decide +kernel
theorem dX9_off_133 : decode cX9_off 133 = .ok (.getfield 61, 3) := by decide +kernel
theorem dX9_off_136 : decode cX9_off 136 = .ok (.iload 6, 2) := by decide +kernel
theorem dX9_off_138 : decode cX9_off 138 = .ok (.aaload, 1) := by decide +kernel
theorem dX9_off_139 : decode cX9_off 139 = .ok (.iconst 3, 1) := by decide +kernel
theorem dX9_off_140 : decode cX9_off 140 = .ok (.iaload, 1) := by decide +kernel
theorem dX9_off_141 : decode cX9_off 141 = .ok (.imul, 1) := by decide +kernel
theorem dX9_off_142 : decode cX9_off 142 = .ok (.isub, 1) := by decide +kernel
theorem dX9_off_143 : decode cX9_off 143 = .ok (.iadd, 1) := by decide +kernel
theorem dX9_off_144 : decode cX9_off 144 = .ok (.istore 4, 2) := by decide +kernel
theorem dX9_off_146 : decode cX9_off 146 = .ok (.iload 5, 2) := by decide +kernel
theorem dX9_off_148 : decode cX9_off 148 = .ok (.aload_n 0, 1) := by decide +kernel
theorem dX9_off_149 : decode cX9_off 149 = .ok (.getfield 61, 3) := by decide +kernel
theorem dX9_off_152 : decode cX9_off 152 = .ok (.iload 6, 2) := by decide +kernel
theorem dX9_off_154 : decode cX9_off 154 = .ok (.aaload, 1) := by decide +kernel
theorem dX9_off_155 : decode cX9_off 155 = .ok (.bipush 7, 2) := by decide +kernel
theorem dX9_off_157 : decode cX9_off 157 = .ok (.iaload, 1) := by decide +kernel
theorem dX9_off_158 : decode cX9_off 158 = .ok (.bipush 50, 2) := by decide +kernel
theorem dX9_off_160 : decode cX9_off 160 = .ok (.if_icmp .lt 19, 3) := by decide +kernel
theorem dX9_off_163 : decode cX9_off 163 = .ok (.aload_n 0, 1) := by decide +kernel
theorem dX9_off_164 : decode cX9_off 164 = .ok (.getfield 61, 3) := by decide +kernel
theorem dX9_off_167 : decode cX9_off 167 = .ok (.iload 6, 2) := by decide +kernel
theorem dX9_off_169 : decode cX9_off 169 = .ok (.aaload, 1) := by decide +kernel
theorem dX9_off_170 : decode cX9_off 170 = .ok (.iconst 3, 1) := by decide +kernel
theorem dX9_off_171 : decode cX9_off 171 = .ok (.iaload, 1) := by decide +kernel
theorem dX9_off_172 : decode cX9_off 172 = .ok (.ifCond .ne 7, 3) := by decide +kernel
theorem dX9_off_175 : decode cX9_off 175 = .ok (.iconst 1, 1) := by decide +kernel
theorem dX9_off_176 : decode cX9_off 176 = .ok (.goto 4, 3) := by decide +kernel
theorem dX9_off_179 : decode cX9_off 179 = .ok (.iconst 0, 1) := by decide +kernel
theorem dX9_off_180 : decode cX9_off 180 = .ok (.iadd, 1) := by decide +kernel
theorem dX9_off_181 : decode cX9_off 181 = .ok (.istore 5, 2) := by decide +kernel
theorem dX9_off_183 : decode cX9_off 183 = .ok (.iinc 6 1, 3) := by decide +kernel
theorem dX9_off_186 : decode cX9_off 186 = .ok (.goto (-106), 3) := by decide +kernel
theorem dX9_off_189 : decode cX9_off 189 = .ok (.iload_n 3, 1) := by decide +kernel
theorem dX9_off_190 : decode cX9_off 190 = .ok (.ifCond .ne 8, 3) := by decide +kernel
theorem dX9_off_193 : decode cX9_off 193 = .ok (.iload 4, 2) := by decide +kernel
theorem dX9_off_195 : decode cX9_off 195 = .ok (.goto 5, 3) := by decide +kernel
theorem dX9_off_198 : decode cX9_off 198 = .ok (.iload 5, 2) := by decide +kernel
theorem dX9_off_200 : decode cX9_off 200 = .ok (.ireturn, 1) := by decide +kernel
theorem dX9_weigh_0 : decode cX9_weigh 0 = .ok (.aload_n 0, 1) := by decide +kernel
theorem dX9_weigh_1 : decode cX9_weigh 1 = .ok (.iconst 0, 1) := by decide +kernel
theorem dX9_weigh_2 : decode cX9_weigh 2 = .ok (.putfield 76, 3) := by decide +kernel
theorem dX9_weigh_5 : decode cX9_weigh 5 = .ok (.aload_n 0, 1) := by decide +kernel
theorem dX9_weigh_6 : decode cX9_weigh 6 = .ok (.aload_n 0, 1) := by decide +kernel
theorem dX9_weigh_7 : decode cX9_weigh 7 = .ok (.iload_n 1, 1) := by decide +kernel
theorem dX9_weigh_8 : decode cX9_weigh 8 = .ok (.invokevirtual 357, 3) := by decide +kernel
theorem dX9_weigh_11 : decode cX9_weigh 11 = .ok (.ifCond .ne 7, 3) := by decide +kernel
theorem dX9_weigh_14 : decode cX9_weigh 14 = .ok (.iconst 1, 1) := by decide +kernel
theorem dX9_weigh_15 : decode cX9_weigh 15 = .ok (.goto 4, 3) := by decide +kernel
theorem dX9_weigh_18 : decode cX9_weigh 18 = .ok (.iconst 0, 1) := by decide +kernel
theorem dX9_weigh_19 : decode cX9_weigh 19 = .ok (.iconst 1, 1) := by decide +kernel
theorem dX9_weigh_20 : decode cX9_weigh 20 = .ok (.invokevirtual 162, 3) := by decide +kernel
theorem dX9_weigh_23 : decode cX9_weigh 23 = .ok (.ifCond .ne 26, 3) := by decide +kernel
theorem dX9_weigh_26 : decode cX9_weigh 26 = .ok (.aload_n 0, 1) := by decide +kernel
theorem dX9_weigh_27 : decode cX9_weigh 27 = .ok (.iload_n 2, 1) := by decide +kernel
theorem dX9_weigh_28 : decode cX9_weigh 28 = .ok (.iconst 1, 1) := by decide +kernel
theorem dX9_weigh_29 : decode cX9_weigh 29 = .ok (.bipush 9, 2) := by decide +kernel
theorem dX9_weigh_31 : decode cX9_weigh 31 = .ok (.invokestatic 113, 3) := by decide +kernel
theorem dX9_weigh_34 : decode cX9_weigh 34 = .ok (.ifCond .ne 7, 3) := by decide +kernel
theorem dX9_weigh_37 : decode cX9_weigh 37 = .ok (.iconst 1, 1) := by decide +kernel
theorem dX9_weigh_38 : decode cX9_weigh 38 = .ok (.goto 4, 3) := by decide +kernel
theorem dX9_weigh_41 : decode cX9_weigh 41 = .ok (.iconst 0, 1) := by decide +kernel
theorem dX9_weigh_42 : decode cX9_weigh 42 = .ok (.iconst 2, 1) := by decide +kernel
theorem dX9_weigh_43 : decode cX9_weigh 43 = .ok (.invokevirtual 162, 3) := by decide +kernel
theorem dX9_weigh_46 : decode cX9_weigh 46 = .ok (.ifCond .eq 5, 3) := by decide +kernel
theorem dX9_weigh_49 : decode cX9_weigh 49 = .ok (.iconst 0, 1) := by decide +kernel
theorem dX9_weigh_50 : decode cX9_weigh 50 = .ok (.ireturn, 1) := by decide +kernel
theorem dX9_weigh_51 : decode cX9_weigh 51 = .ok (.aload_n 0, 1) := by decide +kernel
theorem dX9_weigh_52 : decode cX9_weigh 52 = .ok (.getfield 49, 3) := by decide +kernel
theorem dX9_weigh_55 : decode cX9_weigh 55 = .ok (.iload_n 1, 1) := by decide +kernel
theorem dX9_weigh_56 : decode cX9_weigh 56 = .ok (.iaload, 1) := by decide +kernel
theorem dX9_weigh_57 : decode cX9_weigh 57 = .ok (.istore_n 3, 1) := by decide +kernel
theorem dX9_weigh_58 : decode cX9_weigh 58 = .ok (.aload_n 0, 1) := by decide +kernel
theorem dX9_weigh_59 : decode cX9_weigh 59 = .ok (.getfield 49, 3) := by decide +kernel
theorem dX9_weigh_62 : decode cX9_weigh 62 = .ok (.iload_n 1, 1) := by decide +kernel
theorem dX9_weigh_63 : decode cX9_weigh 63 = .ok (.iload_n 2, 1) := by decide +kernel
theorem dX9_weigh_64 : decode cX9_weigh 64 = .ok (.iastore, 1) := by decide +kernel
theorem dX9_weigh_65 : decode cX9_weigh 65 = .ok (.iload_n 3, 1) := by decide +kernel
theorem dX9_weigh_66 : decode cX9_weigh 66 = .ok (.ireturn, 1) := by decide +kernel
theorem dX9_wrong_0 : decode cX9_wrong 0 = .ok (.aload_n 0, 1) := by decide +kernel
theorem dX9_wrong_1 : decode cX9_wrong 1 = .ok (.iconst 0, 1) := by decide +kernel
theorem dX9_wrong_2 : decode cX9_wrong 2 = .ok (.putfield 76, 3) := by decide +kernel
theorem dX9_wrong_5 : decode cX9_wrong 5 = .ok (.aload_n 0, 1) := by decide +kernel
theorem dX9_wrong_6 : decode cX9_wrong 6 = .ok (.iload_n 1, 1) := by decide +kernel
theorem dX9_wrong_7 : decode cX9_wrong 7 = .ok (.iconst 1, 1) := by decide +kernel
theorem dX9_wrong_8 : decode cX9_wrong 8 = .ok (.bipush 8, 2) := by decide +kernel
theorem dX9_wrong_10 : decode cX9_wrong 10 = .ok (.invokestatic 113, 3) := by decide +kernel
theorem dX9_wrong_13 : decode cX9_wrong 13 = .ok (.ifCond .ne 7, 3) := by decide +kernel
theorem dX9_wrong_16 : decode cX9_wrong 16 = .ok (.iconst 1, 1) := by decide +kernel
theorem dX9_wrong_17 : decode cX9_wrong 17 = .ok (.goto 4, 3) := by decide +kernel
theorem dX9_wrong_20 : decode cX9_wrong 20 = .ok (.iconst 0, 1) := by decide +kernel
theorem dX9_wrong_21 : decode cX9_wrong 21 = .ok (.iconst 1, 1) := by decide +kernel
theorem dX9_wrong_22 : decode cX9_wrong 22 = .ok (.invokevirtual 162, 3) := by decide +kernel
theorem dX9_wrong_25 : decode cX9_wrong 25 = .ok (.ifCond .eq 5, 3) := by decide +kernel
theorem dX9_wrong_28 : decode cX9_wrong 28 = .ok (.iconst 0, 1) := by decide +kernel
theorem dX9_wrong_29 : decode cX9_wrong 29 = .ok (.ireturn, 1) := by decide +kernel
theorem dX9_wrong_30 : decode cX9_wrong 30 = .ok (.aload_n 0, 1) := by decide +kernel
theorem dX9_wrong_31 : decode cX9_wrong 31 = .ok (.getfield 58, 3) := by decide +kernel
theorem dX9_wrong_34 : decode cX9_wrong 34 = .ok (.istore_n 2, 1) := by decide +kernel
theorem dX9_wrong_35 : decode cX9_wrong 35 = .ok (.aload_n 0, 1) := by decide +kernel
theorem dX9_wrong_36 : decode cX9_wrong 36 = .ok (.iload_n 1, 1) := by decide +kernel
theorem dX9_wrong_37 : decode cX9_wrong 37 = .ok (.putfield 58, 3) := by decide +kernel
theorem dX9_wrong_40 : decode cX9_wrong 40 = .ok (.iload_n 2, 1) := by decide +kernel
theorem dX9_wrong_41 : decode cX9_wrong 41 = .ok (.ireturn, 1) := by decide +kernel
theorem dX9_isAsked_0 : decode cX9_isAsked 0 = .ok (.aload_n 0, 1) := by decide +kernel
theorem dX9_isAsked_1 : decode cX9_isAsked 1 = .ok (.getfield 61, 3) := by decide +kernel
theorem dX9_isAsked_4 : decode cX9_isAsked 4 = .ok (.iload_n 1, 1) := by decide +kernel
theorem dX9_isAsked_5 : decode cX9_isAsked 5 = .ok (.aaload, 1) := by decide +kernel
theorem dX9_isAsked_6 : decode cX9_isAsked 6 = .ok (.iconst 2, 1) := by decide +kernel
theorem dX9_isAsked_7 : decode cX9_isAsked 7 = .ok (.iaload, 1) := by decide +kernel
theorem dX9_isAsked_8 : decode cX9_isAsked 8 = .ok (.ifCond .ne 35, 3) := by decide +kernel
theorem dX9_isAsked_11 : decode cX9_isAsked 11 = .ok (.aload_n 0, 1) := by decide +kernel
theorem dX9_isAsked_12 : decode cX9_isAsked 12 = .ok (.getfield 61, 3) := by decide +kernel
theorem dX9_isAsked_15 : decode cX9_isAsked 15 = .ok (.iload_n 1, 1) := by decide +kernel
theorem dX9_isAsked_16 : decode cX9_isAsked 16 = .ok (.aaload, 1) := by decide +kernel
theorem dX9_isAsked_17 : decode cX9_isAsked 17 = .ok (.iconst 3, 1) := by decide +kernel
theorem dX9_isAsked_18 : decode cX9_isAsked 18 = .ok (.iaload, 1) := by decide +kernel
theorem dX9_isAsked_19 : decode cX9_isAsked 19 = .ok (.iconst (-1), 1) := by decide +kernel
theorem dX9_isAsked_20 : decode cX9_isAsked 20 = .ok (.if_icmp .eq 23, 3) := by decide +kernel
theorem dX9_isAsked_23 : decode cX9_isAsked 23 = .ok (.aload_n 0, 1) := by decide +kernel
theorem dX9_isAsked_24 : decode cX9_isAsked 24 = .ok (.aload_n 0, 1) := by decide +kernel
theorem dX9_isAsked_25 : decode cX9_isAsked 25 = .ok (.getfield 61, 3) := by decide +kernel
theorem dX9_isAsked_28 : decode cX9_isAsked 28 = .ok (.iload_n 1, 1) := by decide +kernel
theorem dX9_isAsked_29 : decode cX9_isAsked 29 = .ok (.aaload, 1) := by decide +kernel
theorem dX9_isAsked_30 : decode cX9_isAsked 30 = .ok (.iconst 0, 1) := by decide +kernel
theorem dX9_isAsked_31 : decode cX9_isAsked 31 = .ok (.iaload, 1) := by decide +kernel
theorem dX9_isAsked_32 : decode cX9_isAsked 32 = .ok (.invokevirtual 263, 3) := by decide +kernel
theorem dX9_isAsked_35 : decode cX9_isAsked 35 = .ok (.iconst (-1), 1) := by decide +kernel
theorem dX9_isAsked_36 : decode cX9_isAsked 36 = .ok (.if_icmp .eq 7, 3) := by decide +kernel
theorem dX9_isAsked_39 : decode cX9_isAsked 39 = .ok (.iconst 1, 1) := by decide +kernel
theorem dX9_isAsked_40 : decode cX9_isAsked 40 = .ok (.goto 4, 3) := by decide +kernel
theorem dX9_isAsked_43 : decode cX9_isAsked 43 = .ok (.iconst 0, 1) := by decide +kernel
theorem dX9_isAsked_44 : decode cX9_isAsked 44 = .ok (.ireturn, 1) := by decide +kernel
theorem dX9_isAlike_0 : decode cX9_isAlike 0 = .ok (.aload_n 0, 1) := by decide +kernel
theorem dX9_isAlike_1 : decode cX9_isAlike 1 = .ok (.iload_n 1, 1) := by decide +kernel
theorem dX9_isAlike_2 : decode cX9_isAlike 2 = .ok (.iload_n 2, 1) := by decide +kernel
theorem dX9_isAlike_3 : decode cX9_isAlike 3 = .ok (.iconst 0, 1) := by decide +kernel
theorem dX9_isAlike_4 : decode cX9_isAlike 4 = .ok (.invokevirtual 369, 3) := by decide +kernel
theorem dX9_isAlike_7 : decode cX9_isAlike 7 = .ok (.aload_n 0, 1) := by decide +kernel
theorem dX9_isAlike_8 : decode cX9_isAlike 8 = .ok (.getfield 61, 3) := by decide +kernel
theorem dX9_isAlike_11 : decode cX9_isAlike 11 = .ok (.iload_n 2, 1) := by decide +kernel
theorem dX9_isAlike_12 : decode cX9_isAlike 12 = .ok (.aaload, 1) := by decide +kernel
theorem dX9_isAlike_13 : decode cX9_isAlike 13 = .ok (.iconst 3, 1) := by decide +kernel
theorem dX9_isAlike_14 : decode cX9_isAlike 14 = .ok (.iaload, 1) := by decide +kernel
theorem dX9_isAlike_15 : decode cX9_isAlike 15 = .ok (.iconst 1, 1) := by decide +kernel
theorem dX9_isAlike_16 : decode cX9_isAlike 16 = .ok (.if_icmp .ne 7, 3) := by decide +kernel
theorem dX9_isAlike_19 : decode cX9_isAlike 19 = .ok (.iconst 1, 1) := by decide +kernel
theorem dX9_isAlike_20 : decode cX9_isAlike 20 = .ok (.goto 4, 3) := by decide +kernel
theorem dX9_isAlike_23 : decode cX9_isAlike 23 = .ok (.iconst 0, 1) := by decide +kernel
theorem dX9_isAlike_24 : decode cX9_isAlike 24 = .ok (.if_icmp .ne 7, 3) := by decide +kernel
theorem dX9_isAlike_27 : decode cX9_isAlike 27 = .ok (.iconst 1, 1) := by decide +kernel
theorem dX9_isAlike_28 : decode cX9_isAlike 28 = .ok (.goto 4, 3) := by decide +kernel
theorem dX9_isAlike_31 : decode cX9_isAlike 31 = .ok (.iconst 0, 1) := by decide +kernel
theorem dX9_isAlike_32 : decode cX9_isAlike 32 = .ok (.ireturn, 1) := by decide +kernel
theorem dX9_oddsOf_0 : decode cX9_oddsOf 0 = .ok (.aload_n 0, 1) := by decide +kernel
theorem dX9_oddsOf_1 : decode cX9_oddsOf 1 = .ok (.getfield 49, 3) := by decide +kernel
theorem dX9_oddsOf_4 : decode cX9_oddsOf 4 = .ok (.iload_n 1, 1) := by decide +kernel
theorem dX9_oddsOf_5 : decode cX9_oddsOf 5 = .ok (.iaload, 1) := by decide +kernel
theorem dX9_oddsOf_6 : decode cX9_oddsOf 6 = .ok (.i2l, 1) := by decide +kernel
theorem dX9_oddsOf_7 : decode cX9_oddsOf 7 = .ok (.lstore_n 2, 1) := by decide +kernel
theorem dX9_oddsOf_8 : decode cX9_oddsOf 8 = .ok (.iconst 0, 1) := by decide +kernel
theorem dX9_oddsOf_9 : decode cX9_oddsOf 9 = .ok (.istore 4, 2) := by decide +kernel
theorem dX9_oddsOf_11 : decode cX9_oddsOf 11 = .ok (.iload 4, 2) := by decide +kernel
theorem dX9_oddsOf_13 : decode cX9_oddsOf 13 = .ok (.aload_n 0, 1) := by decide +kernel
theorem dX9_oddsOf_14 : decode cX9_oddsOf 14 = .ok (.getfield 288, 3) := by decide +kernel
theorem dX9_oddsOf_17 : decode cX9_oddsOf 17 = .ok (.if_icmp .ge 47, 3) := by decide +kernel
theorem dX9_oddsOf_20 : decode cX9_oddsOf 20 = .ok (.aload_n 0, 1) := by decide +kernel
theorem dX9_oddsOf_21 : decode cX9_oddsOf 21 = .ok (.iload 4, 2) := by decide +kernel
theorem dX9_oddsOf_23 : decode cX9_oddsOf 23 = .ok (.invokevirtual 407, 3) := by decide +kernel
theorem dX9_oddsOf_26 : decode cX9_oddsOf 26 = .ok (.ifCond .eq 32, 3) := by decide +kernel
theorem dX9_oddsOf_29 : decode cX9_oddsOf 29 = .ok (.lload_n 2, 1) := by decide +kernel
theorem dX9_oddsOf_30 : decode cX9_oddsOf 30 = .ok (.aload_n 0, 1) := by decide +kernel
theorem dX9_oddsOf_31 : decode cX9_oddsOf 31 = .ok (.iload_n 1, 1) := by decide +kernel
theorem dX9_oddsOf_32 : decode cX9_oddsOf 32 = .ok (.iload 4, 2) := by decide +kernel
theorem dX9_oddsOf_34 : decode cX9_oddsOf 34 = .ok (.invokevirtual 410, 3) := by decide +kernel
theorem dX9_oddsOf_37 : decode cX9_oddsOf 37 = .ok (.ifCond .eq 14, 3) := by decide +kernel
theorem dX9_oddsOf_40 : decode cX9_oddsOf 40 = .ok (.bipush 16, 2) := by decide +kernel
theorem dX9_oddsOf_42 : decode cX9_oddsOf 42 = .ok (.aload_n 0, 1) := by decide +kernel
theorem dX9_oddsOf_43 : decode cX9_oddsOf 43 = .ok (.getfield 58, 3) := by decide +kernel
theorem dX9_oddsOf_46 : decode cX9_oddsOf 46 = .ok (.isub, 1) := by decide +kernel
theorem dX9_oddsOf_47 : decode cX9_oddsOf 47 = .ok (.i2l, 1) := by decide +kernel
theorem dX9_oddsOf_48 : decode cX9_oddsOf 48 = .ok (.goto 8, 3) := by decide +kernel
theorem dX9_oddsOf_51 : decode cX9_oddsOf 51 = .ok (.aload_n 0, 1) := by decide +kernel
theorem dX9_oddsOf_52 : decode cX9_oddsOf 52 = .ok (.getfield 58, 3) := by decide +kernel
theorem dX9_oddsOf_55 : decode cX9_oddsOf 55 = .ok (.i2l, 1) := by decide +kernel
theorem dX9_oddsOf_56 : decode cX9_oddsOf 56 = .ok (.lmul, 1) := by decide +kernel
theorem dX9_oddsOf_57 : decode cX9_oddsOf 57 = .ok (.lstore_n 2, 1) := by decide +kernel
theorem dX9_oddsOf_58 : decode cX9_oddsOf 58 = .ok (.iinc 4 1, 3) := by decide +kernel
theorem dX9_oddsOf_61 : decode cX9_oddsOf 61 = .ok (.goto (-50), 3) := by decide +kernel
theorem dX9_oddsOf_64 : decode cX9_oddsOf 64 = .ok (.lload_n 2, 1) := by decide +kernel
theorem dX9_oddsOf_65 : decode cX9_oddsOf 65 = .ok (.lreturn, 1) := by decide +kernel
theorem dX9_odds_0 : decode cX9_odds 0 = .ok (.aload_n 0, 1) := by decide +kernel
theorem dX9_odds_1 : decode cX9_odds 1 = .ok (.iconst 0, 1) := by decide +kernel
theorem dX9_odds_2 : decode cX9_odds 2 = .ok (.putfield 76, 3) := by decide +kernel
theorem dX9_odds_5 : decode cX9_odds 5 = .ok (.aload_n 0, 1) := by decide +kernel
theorem dX9_odds_6 : decode cX9_odds 6 = .ok (.aload_n 0, 1) := by decide +kernel
theorem dX9_odds_7 : decode cX9_odds 7 = .ok (.iload_n 1, 1) := by decide +kernel
theorem dX9_odds_8 : decode cX9_odds 8 = .ok (.invokevirtual 357, 3) := by decide +kernel
theorem dX9_odds_11 : decode cX9_odds 11 = .ok (.ifCond .ne 7, 3) := by decide +kernel
theorem dX9_odds_14 : decode cX9_odds 14 = .ok (.iconst 1, 1) := by decide +kernel
theorem dX9_odds_15 : decode cX9_odds 15 = .ok (.goto 4, 3) := by decide +kernel
theorem dX9_odds_18 : decode cX9_odds 18 = .ok (.iconst 0, 1) := by decide +kernel
theorem dX9_odds_19 : decode cX9_odds 19 = .ok (.iconst 1, 1) := by decide +kernel
theorem dX9_odds_20 : decode cX9_odds 20 = .ok (.invokevirtual 162, 3) := by decide +kernel
theorem dX9_odds_23 : decode cX9_odds 23 = .ok (.ifCond .eq 5, 3) := by decide +kernel
theorem dX9_odds_26 : decode cX9_odds 26 = .ok (.lconst 0, 1) := by decide +kernel
theorem dX9_odds_27 : decode cX9_odds 27 = .ok (.lreturn, 1) := by decide +kernel
theorem dX9_odds_28 : decode cX9_odds 28 = .ok (.aload_n 0, 1) := by decide +kernel
theorem dX9_odds_29 : decode cX9_odds 29 = .ok (.iload_n 1, 1) := by decide +kernel
theorem dX9_odds_30 : decode cX9_odds 30 = .ok (.invokevirtual 413, 3) := by decide +kernel
theorem dX9_odds_33 : decode cX9_odds 33 = .ok (.lreturn, 1) := by decide +kernel
theorem dX9_best_0 : decode cX9_best 0 = .ok (.aload_n 0, 1) := by decide +kernel
theorem dX9_best_1 : decode cX9_best 1 = .ok (.iconst 0, 1) := by decide +kernel
theorem dX9_best_2 : decode cX9_best 2 = .ok (.putfield 76, 3) := by decide +kernel
theorem dX9_best_5 : decode cX9_best 5 = .ok (.iconst (-1), 1) := by decide +kernel
theorem dX9_best_6 : decode cX9_best 6 = .ok (.istore_n 1, 1) := by decide +kernel
theorem dX9_best_7 : decode cX9_best 7 = .ok (.lconst 0, 1) := by decide +kernel
theorem dX9_best_8 : decode cX9_best 8 = .ok (.lstore_n 2, 1) := by decide +kernel
theorem dX9_best_9 : decode cX9_best 9 = .ok (.iconst 0, 1) := by decide +kernel
theorem dX9_best_10 : decode cX9_best 10 = .ok (.istore 4, 2) := by decide +kernel
theorem dX9_best_12 : decode cX9_best 12 = .ok (.iload 4, 2) := by decide +kernel
theorem dX9_best_14 : decode cX9_best 14 = .ok (.aload_n 0, 1) := by decide +kernel
theorem dX9_best_15 : decode cX9_best 15 = .ok (.getfield 219, 3) := by decide +kernel
theorem dX9_best_18 : decode cX9_best 18 = .ok (.if_icmp .ge 45, 3) := by decide +kernel
theorem dX9_best_21 : decode cX9_best 21 = .ok (.aload_n 0, 1) := by decide +kernel
theorem dX9_best_22 : decode cX9_best 22 = .ok (.iload 4, 2) := by decide +kernel
theorem dX9_best_24 : decode cX9_best 24 = .ok (.invokevirtual 413, 3) := by decide +kernel
theorem dX9_best_27 : decode cX9_best 27 = .ok (.lstore 5, 2) := by decide +kernel
theorem dX9_best_29 : decode cX9_best 29 = .ok (.lload 5, 2) := by decide +kernel
theorem dX9_best_31 : decode cX9_best 31 = .ok (.lload_n 2, 1) := by decide +kernel
theorem dX9_best_32 : decode cX9_best 32 = .ok (.lcmp, 1) := by decide +kernel
theorem dX9_best_33 : decode cX9_best 33 = .ok (.ifCond .le 8, 3) := by decide +kernel
theorem dX9_best_36 : decode cX9_best 36 = .ok (.iload 4, 2) := by decide +kernel
theorem dX9_best_38 : decode cX9_best 38 = .ok (.goto 4, 3) := by decide +kernel
theorem dX9_best_41 : decode cX9_best 41 = .ok (.iload_n 1, 1) := by decide +kernel
theorem dX9_best_42 : decode cX9_best 42 = .ok (.istore_n 1, 1) := by decide +kernel
theorem dX9_best_43 : decode cX9_best 43 = .ok (.lload 5, 2) := by decide +kernel
theorem dX9_best_45 : decode cX9_best 45 = .ok (.lload_n 2, 1) := by decide +kernel
theorem dX9_best_46 : decode cX9_best 46 = .ok (.lcmp, 1) := by decide +kernel
theorem dX9_best_47 : decode cX9_best 47 = .ok (.ifCond .le 8, 3) := by decide +kernel
theorem dX9_best_50 : decode cX9_best 50 = .ok (.lload 5, 2) := by decide +kernel
theorem dX9_best_52 : decode cX9_best 52 = .ok (.goto 4, 3) := by decide +kernel
theorem dX9_best_55 : decode cX9_best 55 = .ok (.lload_n 2, 1) := by decide +kernel
theorem dX9_best_56 : decode cX9_best 56 = .ok (.lstore_n 2, 1) := by decide +kernel
theorem dX9_best_57 : decode cX9_best 57 = .ok (.iinc 4 1, 3) := by decide +kernel
theorem dX9_best_60 : decode cX9_best 60 = .ok (.goto (-48), 3) := by decide +kernel
theorem dX9_best_63 : decode cX9_best 63 = .ok (.iload_n 1, 1) := by decide +kernel
theorem dX9_best_64 : decode cX9_best 64 = .ok (.ireturn, 1) := by decide +kernel
theorem dX9_fitting_0 : decode cX9_fitting 0 = .ok (.iconst 0, 1) := by decide +kernel
theorem dX9_fitting_1 : decode cX9_fitting 1 = .ok (.istore_n 2, 1) := by decide +kernel
theorem dX9_fitting_2 : decode cX9_fitting 2 = .ok (.iconst 0, 1) := by decide +kernel
theorem dX9_fitting_3 : decode cX9_fitting 3 = .ok (.istore_n 3, 1) := by decide +kernel
theorem dX9_fitting_4 : decode cX9_fitting 4 = .ok (.iload_n 3, 1) := by decide +kernel
theorem dX9_fitting_5 : decode cX9_fitting 5 = .ok (.aload_n 0, 1) := by decide +kernel
theorem dX9_fitting_6 : decode cX9_fitting 6 = .ok (.getfield 219, 3) := by decide +kernel
theorem dX9_fitting_9 : decode cX9_fitting 9 = .ok (.if_icmp .ge 75, 3) := by decide +kernel
theorem dX9_fitting_12 : decode cX9_fitting 12 = .ok (.iconst 0, 1) := by decide +kernel
theorem dX9_fitting_13 : decode cX9_fitting 13 = .ok (.istore 4, 2) := by decide +kernel
theorem dX9_fitting_15 : decode cX9_fitting 15 = .ok (.iconst 0, 1) := by decide +kernel
theorem dX9_fitting_16 : decode cX9_fitting 16 = .ok (.istore 5, 2) := by decide +kernel
theorem dX9_fitting_18 : decode cX9_fitting 18 = .ok (.iload 5, 2) := by decide +kernel
theorem dX9_fitting_20 : decode cX9_fitting 20 = .ok (.aload_n 0, 1) := by decide +kernel
theorem dX9_fitting_21 : decode cX9_fitting 21 = .ok (.getfield 288, 3) := by decide +kernel
theorem dX9_fitting_24 : decode cX9_fitting 24 = .ok (.if_icmp .ge 38, 3) := by decide +kernel
theorem dX9_fitting_27 : decode cX9_fitting 27 = .ok (.iload 4, 2) := by decide +kernel
theorem dX9_fitting_29 : decode cX9_fitting 29 = .ok (.aload_n 0, 1) := by decide +kernel
theorem dX9_fitting_30 : decode cX9_fitting 30 = .ok (.iload 5, 2) := by decide +kernel
theorem dX9_fitting_32 : decode cX9_fitting 32 = .ok (.invokevirtual 407, 3) := by decide +kernel
theorem dX9_fitting_35 : decode cX9_fitting 35 = .ok (.ifCond .eq 17, 3) := by decide +kernel
theorem dX9_fitting_38 : decode cX9_fitting 38 = .ok (.aload_n 0, 1) := by decide +kernel
theorem dX9_fitting_39 : decode cX9_fitting 39 = .ok (.iload_n 3, 1) := by decide +kernel
theorem dX9_fitting_40 : decode cX9_fitting 40 = .ok (.iload 5, 2) := by decide +kernel
theorem dX9_fitting_42 : decode cX9_fitting 42 = .ok (.invokevirtual 410, 3) := by decide +kernel
theorem dX9_fitting_45 : decode cX9_fitting 45 = .ok (.ifCond .ne 7, 3) := by decide +kernel
theorem dX9_fitting_48 : decode cX9_fitting 48 = .ok (.iconst 1, 1) := by decide +kernel
theorem dX9_fitting_49 : decode cX9_fitting 49 = .ok (.goto 4, 3) := by decide +kernel
theorem dX9_fitting_52 : decode cX9_fitting 52 = .ok (.iconst 0, 1) := by decide +kernel
theorem dX9_fitting_53 : decode cX9_fitting 53 = .ok (.iadd, 1) := by decide +kernel
theorem dX9_fitting_54 : decode cX9_fitting 54 = .ok (.istore 4, 2) := by decide +kernel
theorem dX9_fitting_56 : decode cX9_fitting 56 = .ok (.iinc 5 1, 3) := by decide +kernel
theorem dX9_fitting_59 : decode cX9_fitting 59 = .ok (.goto (-41), 3) := by decide +kernel
theorem dX9_fitting_62 : decode cX9_fitting 62 = .ok (.iload_n 2, 1) := by decide +kernel
theorem dX9_fitting_63 : decode cX9_fitting 63 = .ok (.iload 4, 2) := by decide +kernel
theorem dX9_fitting_65 : decode cX9_fitting 65 = .ok (.iload_n 1, 1) := by decide +kernel
theorem dX9_fitting_66 : decode cX9_fitting 66 = .ok (.if_icmp .gt 9, 3) := by decide +kernel
theorem dX9_fitting_69 : decode cX9_fitting 69 = .ok (.iconst 1, 1) := by decide +kernel
theorem dX9_fitting_70 : decode cX9_fitting 70 = .ok (.iload_n 3, 1) := by decide +kernel
theorem dX9_fitting_71 : decode cX9_fitting 71 = .ok (.ishl, 1) := by decide +kernel
theorem dX9_fitting_72 : decode cX9_fitting 72 = .ok (.goto 4, 3) := by decide +kernel
theorem dX9_fitting_75 : decode cX9_fitting 75 = .ok (.iconst 0, 1) := by decide +kernel
theorem dX9_fitting_76 : decode cX9_fitting 76 = .ok (.ior, 1) := by decide +kernel
theorem dX9_fitting_77 : decode cX9_fitting 77 = .ok (.istore_n 2, 1) := by decide +kernel
theorem dX9_fitting_78 : decode cX9_fitting 78 = .ok (.iinc 3 1, 3) := by decide +kernel
theorem dX9_fitting_81 : decode cX9_fitting 81 = .ok (.goto (-77), 3) := by decide +kernel
theorem dX9_fitting_84 : decode cX9_fitting 84 = .ok (.iload_n 2, 1) := by decide +kernel
theorem dX9_fitting_85 : decode cX9_fitting 85 = .ok (.ireturn, 1) := by decide +kernel
theorem dX9_fits_0 : decode cX9_fits 0 = .ok (.aload_n 0, 1) := by decide +kernel
theorem dX9_fits_1 : decode cX9_fits 1 = .ok (.iconst 0, 1) := by decide +kernel
theorem dX9_fits_2 : decode cX9_fits 2 = .ok (.putfield 76, 3) := by decide +kernel
theorem dX9_fits_5 : decode cX9_fits 5 = .ok (.aload_n 0, 1) := by decide +kernel
theorem dX9_fits_6 : decode cX9_fits 6 = .ok (.iload_n 1, 1) := by decide +kernel
theorem dX9_fits_7 : decode cX9_fits 7 = .ok (.iconst 0, 1) := by decide +kernel
theorem dX9_fits_8 : decode cX9_fits 8 = .ok (.bipush 14, 2) := by decide +kernel
theorem dX9_fits_10 : decode cX9_fits 10 = .ok (.invokestatic 113, 3) := by decide +kernel
theorem dX9_fits_13 : decode cX9_fits 13 = .ok (.ifCond .ne 7, 3) := by decide +kernel
theorem dX9_fits_16 : decode cX9_fits 16 = .ok (.iconst 1, 1) := by decide +kernel
theorem dX9_fits_17 : decode cX9_fits 17 = .ok (.goto 4, 3) := by decide +kernel
theorem dX9_fits_20 : decode cX9_fits 20 = .ok (.iconst 0, 1) := by decide +kernel
theorem dX9_fits_21 : decode cX9_fits 21 = .ok (.iconst 1, 1) := by decide +kernel
theorem dX9_fits_22 : decode cX9_fits 22 = .ok (.invokevirtual 162, 3) := by decide +kernel
theorem dX9_fits_25 : decode cX9_fits 25 = .ok (.ifCond .eq 5, 3) := by decide +kernel
theorem dX9_fits_28 : decode cX9_fits 28 = .ok (.iconst 0, 1) := by decide +kernel
theorem dX9_fits_29 : decode cX9_fits 29 = .ok (.ireturn, 1) := by decide +kernel
theorem dX9_fits_30 : decode cX9_fits 30 = .ok (.aload_n 0, 1) := by decide +kernel
theorem dX9_fits_31 : decode cX9_fits 31 = .ok (.iload_n 1, 1) := by decide +kernel
theorem dX9_fits_32 : decode cX9_fits 32 = .ok (.invokevirtual 417, 3) := by decide +kernel
theorem dX9_fits_35 : decode cX9_fits 35 = .ok (.ireturn, 1) := by decide +kernel
theorem dX9_next_0 : decode cX9_next 0 = .ok (.aload_n 0, 1) := by decide +kernel
theorem dX9_next_1 : decode cX9_next 1 = .ok (.iconst 0, 1) := by decide +kernel
theorem dX9_next_2 : decode cX9_next 2 = .ok (.putfield 76, 3) := by decide +kernel
theorem dX9_next_5 : decode cX9_next 5 = .ok (.iconst 4, 1) := by decide +kernel
theorem dX9_next_6 : decode cX9_next 6 = .ok (.newarray .long, 2) := by decide +kernel
theorem dX9_next_8 : decode cX9_next 8 = .ok (.astore_n 1, 1) := by decide +kernel
theorem dX9_next_9 : decode cX9_next 9 = .ok (.iconst 0, 1) := by decide +kernel
theorem dX9_next_10 : decode cX9_next 10 = .ok (.istore_n 2, 1) := by decide +kernel
theorem dX9_next_11 : decode cX9_next 11 = .ok (.iload_n 2, 1) := by decide +kernel
theorem dX9_next_12 : decode cX9_next 12 = .ok (.aload_n 0, 1) := by decide +kernel
theorem dX9_next_13 : decode cX9_next 13 = .ok (.getfield 219, 3) := by decide +kernel
theorem dX9_next_16 : decode cX9_next 16 = .ok (.if_icmp .ge 17, 3) := by decide +kernel
theorem dX9_next_19 : decode cX9_next 19 = .ok (.aload_n 1, 1) := by decide +kernel
theorem dX9_next_20 : decode cX9_next 20 = .ok (.iload_n 2, 1) := by decide +kernel
theorem dX9_next_21 : decode cX9_next 21 = .ok (.aload_n 0, 1) := by decide +kernel
theorem dX9_next_22 : decode cX9_next 22 = .ok (.iload_n 2, 1) := by decide +kernel
theorem dX9_next_23 : decode cX9_next 23 = .ok (.invokevirtual 413, 3) := by decide +kernel
theorem dX9_next_26 : decode cX9_next 26 = .ok (.lastore, 1) := by decide +kernel
theorem dX9_next_27 : decode cX9_next 27 = .ok (.iinc 2 1, 3) := by decide +kernel
theorem dX9_next_30 : decode cX9_next 30 = .ok (.goto (-19), 3) := by decide +kernel
theorem dX9_next_33 : decode cX9_next 33 = .ok (.iconst (-1), 1) := by decide +kernel
theorem dX9_next_34 : decode cX9_next 34 = .ok (.istore_n 2, 1) := by decide +kernel
theorem dX9_next_35 : decode cX9_next 35 = .ok (.lconst 0, 1) := by decide +kernel
theorem dX9_next_36 : decode cX9_next 36 = .ok (.lstore_n 3, 1) := by decide +kernel
theorem dX9_next_37 : decode cX9_next 37 = .ok (.iconst 0, 1) := by decide +kernel
theorem dX9_next_38 : decode cX9_next 38 = .ok (.istore 5, 2) := by decide +kernel
theorem dX9_next_40 : decode cX9_next 40 = .ok (.iload 5, 2) := by decide +kernel
theorem dX9_next_42 : decode cX9_next 42 = .ok (.aload_n 0, 1) := by decide +kernel
theorem dX9_next_43 : decode cX9_next 43 = .ok (.getfield 166, 3) := by decide +kernel
theorem dX9_next_46 : decode cX9_next 46 = .ok (.aload_n 0, 1) := by decide +kernel
theorem dX9_next_47 : decode cX9_next 47 = .ok (.getfield 179, 3) := by decide +kernel
theorem dX9_next_50 : decode cX9_next 50 = .ok (.imul, 1) := by decide +kernel
theorem dX9_next_51 : decode cX9_next 51 = .ok (.if_icmp .ge 159, 3) := by decide +kernel
theorem dX9_next_54 : decode cX9_next 54 = .ok (.aload_n 0, 1) := by decide +kernel
theorem dX9_next_55 : decode cX9_next 55 = .ok (.getfield 219, 3) := by decide +kernel
theorem dX9_next_58 : decode cX9_next 58 = .ok (.ifCond .le 152, 3) := by decide +kernel
theorem dX9_next_61 : decode cX9_next 61 = .ok (.iload 5, 2) := by decide +kernel
theorem dX9_next_63 : decode cX9_next 63 = .ok (.aload_n 0, 1) := by decide +kernel
theorem dX9_next_64 : decode cX9_next 64 = .ok (.getfield 179, 3) := by decide +kernel
theorem dX9_next_67 : decode cX9_next 67 = .ok (.idiv, 1) := by decide +kernel
theorem dX9_next_68 : decode cX9_next 68 = .ok (.istore 6, 2) := by decide +kernel
theorem dX9_next_70 : decode cX9_next 70 = .ok (.iload 5, 2) := by decide +kernel
theorem dX9_next_72 : decode cX9_next 72 = .ok (.aload_n 0, 1) := by decide +kernel
theorem dX9_next_73 : decode cX9_next 73 = .ok (.getfield 179, 3) := by decide +kernel
theorem dX9_next_76 : decode cX9_next 76 = .ok (.irem, 1) := by decide +kernel
theorem dX9_next_77 : decode cX9_next 77 = .ok (.istore 7, 2) := by decide +kernel
theorem dX9_next_79 : decode cX9_next 79 = .ok (.aload_n 0, 1) := by decide +kernel
theorem dX9_next_80 : decode cX9_next 80 = .ok (.iload 6, 2) := by decide +kernel
theorem dX9_next_82 : decode cX9_next 82 = .ok (.invokevirtual 263, 3) := by decide +kernel
theorem dX9_next_85 : decode cX9_next 85 = .ok (.iconst (-1), 1) := by decide +kernel
theorem dX9_next_86 : decode cX9_next 86 = .ok (.if_icmp .ne 6, 3) := by decide +kernel
theorem dX9_next_89 : decode cX9_next 89 = .ok (.goto 115, 3) := by decide +kernel
theorem dX9_next_92 : decode cX9_next 92 = .ok (.aload_n 0, 1) := by decide +kernel
theorem dX9_next_93 : decode cX9_next 93 = .ok (.bipush 14, 2) := by decide +kernel
theorem dX9_next_95 : decode cX9_next 95 = .ok (.iload 6, 2) := by decide +kernel
theorem dX9_next_97 : decode cX9_next 97 = .ok (.iload 7, 2) := by decide +kernel
theorem dX9_next_99 : decode cX9_next 99 = .ok (.iconst 0, 1) := by decide +kernel
theorem dX9_next_100 : decode cX9_next 100 = .ok (.invokevirtual 291, 3) := by decide +kernel
theorem dX9_next_103 : decode cX9_next 103 = .ok (.lconst 0, 1) := by decide +kernel
theorem dX9_next_104 : decode cX9_next 104 = .ok (.lstore 8, 2) := by decide +kernel
theorem dX9_next_106 : decode cX9_next 106 = .ok (.lconst 0, 1) := by decide +kernel
theorem dX9_next_107 : decode cX9_next 107 = .ok (.lstore 10, 2) := by decide +kernel
theorem dX9_next_109 : decode cX9_next 109 = .ok (.iconst 0, 1) := by decide +kernel
theorem dX9_next_110 : decode cX9_next 110 = .ok (.istore 12, 2) := by decide +kernel
theorem dX9_next_112 : decode cX9_next 112 = .ok (.iload 12, 2) := by decide +kernel
theorem dX9_next_114 : decode cX9_next 114 = .ok (.aload_n 0, 1) := by decide +kernel
theorem dX9_next_115 : decode cX9_next 115 = .ok (.getfield 219, 3) := by decide +kernel
theorem dX9_next_118 : decode cX9_next 118 = .ok (.if_icmp .ge 42, 3) := by decide +kernel
theorem dX9_next_121 : decode cX9_next 121 = .ok (.aload_n 0, 1) := by decide +kernel
theorem dX9_next_122 : decode cX9_next 122 = .ok (.iload 12, 2) := by decide +kernel
theorem dX9_next_124 : decode cX9_next 124 = .ok (.bipush 14, 2) := by decide +kernel
theorem dX9_next_126 : decode cX9_next 126 = .ok (.iconst 0, 1) := by decide +kernel
theorem dX9_next_127 : decode cX9_next 127 = .ok (.invokevirtual 369, 3) := by decide +kernel
theorem dX9_next_130 : decode cX9_next 130 = .ok (.ifCond .eq 15, 3) := by decide +kernel
theorem dX9_next_133 : decode cX9_next 133 = .ok (.lload 8, 2) := by decide +kernel
theorem dX9_next_135 : decode cX9_next 135 = .ok (.aload_n 1, 1) := by decide +kernel
theorem dX9_next_136 : decode cX9_next 136 = .ok (.iload 12, 2) := by decide +kernel
theorem dX9_next_138 : decode cX9_next 138 = .ok (.laload, 1) := by decide +kernel
theorem dX9_next_139 : decode cX9_next 139 = .ok (.ladd, 1) := by decide +kernel
theorem dX9_next_140 : decode cX9_next 140 = .ok (.lstore 8, 2) := by decide +kernel
theorem dX9_next_142 : decode cX9_next 142 = .ok (.goto 12, 3) := by decide +kernel
theorem dX9_next_145 : decode cX9_next 145 = .ok (.lload 10, 2) := by decide +kernel
theorem dX9_next_147 : decode cX9_next 147 = .ok (.aload_n 1, 1) := by decide +kernel
theorem dX9_next_148 : decode cX9_next 148 = .ok (.iload 12, 2) := by decide +kernel
theorem dX9_next_150 : decode cX9_next 150 = .ok (.laload, 1) := by decide +kernel
theorem dX9_next_151 : decode cX9_next 151 = .ok (.ladd, 1) := by decide +kernel
theorem dX9_next_152 : decode cX9_next 152 = .ok (.lstore 10, 2) := by decide +kernel
theorem dX9_next_154 : decode cX9_next 154 = .ok (.iinc 12 1, 3) := by decide +kernel
theorem dX9_next_157 : decode cX9_next 157 = .ok (.goto (-45), 3) := by decide +kernel
theorem dX9_next_160 : decode cX9_next 160 = .ok (.lload 8, 2) := by decide +kernel
theorem dX9_next_162 : decode cX9_next 162 = .ok (.lload 10, 2) := by decide +kernel
theorem dX9_next_164 : decode cX9_next 164 = .ok (.lcmp, 1) := by decide +kernel
theorem dX9_next_165 : decode cX9_next 165 = .ok (.ifCond .ge 8, 3) := by decide +kernel
theorem dX9_next_168 : decode cX9_next 168 = .ok (.lload 8, 2) := by decide +kernel
theorem dX9_next_170 : decode cX9_next 170 = .ok (.goto 5, 3) := by decide +kernel
theorem dX9_next_173 : decode cX9_next 173 = .ok (.lload 10, 2) := by decide +kernel
theorem dX9_next_175 : decode cX9_next 175 = .ok (.lstore 12, 2) := by decide +kernel
theorem dX9_next_177 : decode cX9_next 177 = .ok (.iload_n 2, 1) := by decide +kernel
theorem dX9_next_178 : decode cX9_next 178 = .ok (.iconst (-1), 1) := by decide +kernel
theorem dX9_next_179 : decode cX9_next 179 = .ok (.if_icmp .eq 13, 3) := by decide +kernel
theorem dX9_next_182 : decode cX9_next 182 = .ok (.lload 12, 2) := by decide +kernel
theorem dX9_next_184 : decode cX9_next 184 = .ok (.lload_n 3, 1) := by decide +kernel
theorem dX9_next_185 : decode cX9_next 185 = .ok (.lcmp, 1) := by decide +kernel
theorem dX9_next_186 : decode cX9_next 186 = .ok (.ifCond .gt 6, 3) := by decide +kernel
theorem dX9_next_189 : decode cX9_next 189 = .ok (.goto 15, 3) := by decide +kernel
theorem dX9_next_192 : decode cX9_next 192 = .ok (.bipush 10, 2) := by decide +kernel
theorem dX9_next_194 : decode cX9_next 194 = .ok (.iload 6, 2) := by decide +kernel
theorem dX9_next_196 : decode cX9_next 196 = .ok (.imul, 1) := by decide +kernel
theorem dX9_next_197 : decode cX9_next 197 = .ok (.iload 7, 2) := by decide +kernel
theorem dX9_next_199 : decode cX9_next 199 = .ok (.iadd, 1) := by decide +kernel
theorem dX9_next_200 : decode cX9_next 200 = .ok (.istore_n 2, 1) := by decide +kernel
theorem dX9_next_201 : decode cX9_next 201 = .ok (.lload 12, 2) := by decide +kernel
theorem dX9_next_203 : decode cX9_next 203 = .ok (.lstore_n 3, 1) := by decide +kernel
theorem dX9_next_204 : decode cX9_next 204 = .ok (.iinc 5 1, 3) := by decide +kernel
theorem dX9_next_207 : decode cX9_next 207 = .ok (.goto (-167), 3) := by decide +kernel
theorem dX9_next_210 : decode cX9_next 210 = .ok (.iload_n 2, 1) := by decide +kernel
theorem dX9_next_211 : decode cX9_next 211 = .ok (.ireturn, 1) := by decide +kernel
theorem dX9_knowing_0 : decode cX9_knowing 0 = .ok (.aload_n 0, 1) := by decide +kernel
theorem dX9_knowing_1 : decode cX9_knowing 1 = .ok (.iconst 0, 1) := by decide +kernel
theorem dX9_knowing_2 : decode cX9_knowing 2 = .ok (.putfield 76, 3) := by decide +kernel
theorem dX9_knowing_5 : decode cX9_knowing 5 = .ok (.aload_n 0, 1) := by decide +kernel
theorem dX9_knowing_6 : decode cX9_knowing 6 = .ok (.aload_n 0, 1) := by decide +kernel
theorem dX9_knowing_7 : decode cX9_knowing 7 = .ok (.iload_n 1, 1) := by decide +kernel
theorem dX9_knowing_8 : decode cX9_knowing 8 = .ok (.invokevirtual 357, 3) := by decide +kernel
theorem dX9_knowing_11 : decode cX9_knowing 11 = .ok (.ifCond .ne 7, 3) := by decide +kernel
theorem dX9_knowing_14 : decode cX9_knowing 14 = .ok (.iconst 1, 1) := by decide +kernel
theorem dX9_knowing_15 : decode cX9_knowing 15 = .ok (.goto 4, 3) := by decide +kernel
theorem dX9_knowing_18 : decode cX9_knowing 18 = .ok (.iconst 0, 1) := by decide +kernel
theorem dX9_knowing_19 : decode cX9_knowing 19 = .ok (.iconst 1, 1) := by decide +kernel
theorem dX9_knowing_20 : decode cX9_knowing 20 = .ok (.invokevirtual 162, 3) := by decide +kernel
theorem dX9_knowing_23 : decode cX9_knowing 23 = .ok (.ifCond .ne 25, 3) := by decide +kernel
theorem dX9_knowing_26 : decode cX9_knowing 26 = .ok (.aload_n 0, 1) := by decide +kernel
theorem dX9_knowing_27 : decode cX9_knowing 27 = .ok (.iload_n 2, 1) := by decide +kernel
theorem dX9_knowing_28 : decode cX9_knowing 28 = .ok (.iconst 0, 1) := by decide +kernel
theorem dX9_knowing_29 : decode cX9_knowing 29 = .ok (.iconst 2, 1) := by decide +kernel
theorem dX9_knowing_30 : decode cX9_knowing 30 = .ok (.invokestatic 113, 3) := by decide +kernel
theorem dX9_knowing_33 : decode cX9_knowing 33 = .ok (.ifCond .ne 7, 3) := by decide +kernel
theorem dX9_knowing_36 : decode cX9_knowing 36 = .ok (.iconst 1, 1) := by decide +kernel
theorem dX9_knowing_37 : decode cX9_knowing 37 = .ok (.goto 4, 3) := by decide +kernel
theorem dX9_knowing_40 : decode cX9_knowing 40 = .ok (.iconst 0, 1) := by decide +kernel
theorem dX9_knowing_41 : decode cX9_knowing 41 = .ok (.iconst 2, 1) := by decide +kernel
theorem dX9_knowing_42 : decode cX9_knowing 42 = .ok (.invokevirtual 162, 3) := by decide +kernel
theorem dX9_knowing_45 : decode cX9_knowing 45 = .ok (.ifCond .eq 5, 3) := by decide +kernel
theorem dX9_knowing_48 : decode cX9_knowing 48 = .ok (.iconst 0, 1) := by decide +kernel
theorem dX9_knowing_49 : decode cX9_knowing 49 = .ok (.ireturn, 1) := by decide +kernel
theorem dX9_knowing_50 : decode cX9_knowing 50 = .ok (.iconst 0, 1) := by decide +kernel
theorem dX9_knowing_51 : decode cX9_knowing 51 = .ok (.istore_n 3, 1) := by decide +kernel
theorem dX9_knowing_52 : decode cX9_knowing 52 = .ok (.iconst 0, 1) := by decide +kernel
theorem dX9_knowing_53 : decode cX9_knowing 53 = .ok (.istore 4, 2) := by decide +kernel
theorem dX9_knowing_55 : decode cX9_knowing 55 = .ok (.iload 4, 2) := by decide +kernel
theorem dX9_knowing_57 : decode cX9_knowing 57 = .ok (.aload_n 0, 1) := by decide +kernel
theorem dX9_knowing_58 : decode cX9_knowing 58 = .ok (.getfield 288, 3) := by decide +kernel
theorem dX9_knowing_61 : decode cX9_knowing 61 = .ok (.if_icmp .ge 63, 3) := by decide +kernel
theorem dX9_knowing_64 : decode cX9_knowing 64 = .ok (.aload_n 0, 1) := by decide +kernel
theorem dX9_knowing_65 : decode cX9_knowing 65 = .ok (.getfield 61, 3) := by decide +kernel
theorem dX9_knowing_68 : decode cX9_knowing 68 = .ok (.iload 4, 2) := by decide +kernel
theorem dX9_knowing_70 : decode cX9_knowing 70 = .ok (.aaload, 1) := by decide +kernel
theorem dX9_knowing_71 : decode cX9_knowing 71 = .ok (.iconst 2, 1) := by decide +kernel
theorem dX9_knowing_72 : decode cX9_knowing 72 = .ok (.iaload, 1) := by decide +kernel
theorem dX9_knowing_73 : decode cX9_knowing 73 = .ok (.ifCond .eq 45, 3) := by decide +kernel
theorem dX9_knowing_76 : decode cX9_knowing 76 = .ok (.iload_n 2, 1) := by decide +kernel
theorem dX9_knowing_77 : decode cX9_knowing 77 = .ok (.ifCond .le 17, 3) := by decide +kernel
theorem dX9_knowing_80 : decode cX9_knowing 80 = .ok (.aload_n 0, 1) := by decide +kernel
theorem dX9_knowing_81 : decode cX9_knowing 81 = .ok (.iload_n 1, 1) := by decide +kernel
theorem dX9_knowing_82 : decode cX9_knowing 82 = .ok (.iload 4, 2) := by decide +kernel
theorem dX9_knowing_84 : decode cX9_knowing 84 = .ok (.iconst 0, 1) := by decide +kernel
theorem dX9_knowing_85 : decode cX9_knowing 85 = .ok (.invokevirtual 369, 3) := by decide +kernel
theorem dX9_knowing_88 : decode cX9_knowing 88 = .ok (.ifCond .ne 6, 3) := by decide +kernel
theorem dX9_knowing_91 : decode cX9_knowing 91 = .ok (.goto 27, 3) := by decide +kernel
theorem dX9_knowing_94 : decode cX9_knowing 94 = .ok (.iload_n 3, 1) := by decide +kernel
theorem dX9_knowing_95 : decode cX9_knowing 95 = .ok (.iload_n 2, 1) := by decide +kernel
theorem dX9_knowing_96 : decode cX9_knowing 96 = .ok (.iconst 2, 1) := by decide +kernel
theorem dX9_knowing_97 : decode cX9_knowing 97 = .ok (.if_icmp .lt 14, 3) := by decide +kernel
theorem dX9_knowing_100 : decode cX9_knowing 100 = .ok (.aload_n 0, 1) := by decide +kernel
theorem dX9_knowing_101 : decode cX9_knowing 101 = .ok (.iload_n 1, 1) := by decide +kernel
theorem dX9_knowing_102 : decode cX9_knowing 102 = .ok (.iload 4, 2) := by decide +kernel
theorem dX9_knowing_104 : decode cX9_knowing 104 = .ok (.invokevirtual 378, 3) := by decide +kernel
theorem dX9_knowing_107 : decode cX9_knowing 107 = .ok (.iconst (-1), 1) := by decide +kernel
theorem dX9_knowing_108 : decode cX9_knowing 108 = .ok (.if_icmp .ne 7, 3) := by decide +kernel
theorem dX9_knowing_111 : decode cX9_knowing 111 = .ok (.iconst 1, 1) := by decide +kernel
theorem dX9_knowing_112 : decode cX9_knowing 112 = .ok (.goto 4, 3) := by decide +kernel
theorem dX9_knowing_115 : decode cX9_knowing 115 = .ok (.iconst 0, 1) := by decide +kernel
theorem dX9_knowing_116 : decode cX9_knowing 116 = .ok (.iadd, 1) := by decide +kernel
theorem dX9_knowing_117 : decode cX9_knowing 117 = .ok (.istore_n 3, 1) := by decide +kernel
theorem dX9_knowing_118 : decode cX9_knowing 118 = .ok (.iinc 4 1, 3) := by decide +kernel
theorem dX9_knowing_121 : decode cX9_knowing 121 = .ok (.goto (-66), 3) := by decide +kernel
theorem dX9_knowing_124 : decode cX9_knowing 124 = .ok (.iload_n 3, 1) := by decide +kernel
theorem dX9_knowing_125 : decode cX9_knowing 125 = .ok (.ireturn, 1) := by decide +kernel
theorem dX9_crossing_0 : decode cX9_crossing 0 = .ok (.aload_n 0, 1) := by decide +kernel
theorem dX9_crossing_1 : decode cX9_crossing 1 = .ok (.iconst 0, 1) := by decide +kernel
theorem dX9_crossing_2 : decode cX9_crossing 2 = .ok (.putfield 76, 3) := by decide +kernel
theorem dX9_crossing_5 : decode cX9_crossing 5 = .ok (.aload_n 0, 1) := by decide +kernel
theorem dX9_crossing_6 : decode cX9_crossing 6 = .ok (.aload_n 0, 1) := by decide +kernel
theorem dX9_crossing_7 : decode cX9_crossing 7 = .ok (.iload_n 1, 1) := by decide +kernel
theorem dX9_crossing_8 : decode cX9_crossing 8 = .ok (.invokevirtual 254, 3) := by decide +kernel
theorem dX9_crossing_11 : decode cX9_crossing 11 = .ok (.ifCond .ne 7, 3) := by decide +kernel
theorem dX9_crossing_14 : decode cX9_crossing 14 = .ok (.iconst 1, 1) := by decide +kernel
theorem dX9_crossing_15 : decode cX9_crossing 15 = .ok (.goto 4, 3) := by decide +kernel
theorem dX9_crossing_18 : decode cX9_crossing 18 = .ok (.iconst 0, 1) := by decide +kernel
theorem dX9_crossing_19 : decode cX9_crossing 19 = .ok (.iconst 1, 1) := by decide +kernel
theorem dX9_crossing_20 : decode cX9_crossing 20 = .ok (.invokevirtual 162, 3) := by decide +kernel
theorem dX9_crossing_23 : decode cX9_crossing 23 = .ok (.ifCond .ne 57, 3) := by decide +kernel
theorem dX9_crossing_26 : decode cX9_crossing 26 = .ok (.aload_n 0, 1) := by decide +kernel
theorem dX9_crossing_27 : decode cX9_crossing 27 = .ok (.aload_n 0, 1) := by decide +kernel
theorem dX9_crossing_28 : decode cX9_crossing 28 = .ok (.iload_n 2, 1) := by decide +kernel
theorem dX9_crossing_29 : decode cX9_crossing 29 = .ok (.invokevirtual 278, 3) := by decide +kernel
theorem dX9_crossing_32 : decode cX9_crossing 32 = .ok (.ifCond .ne 7, 3) := by decide +kernel
theorem dX9_crossing_35 : decode cX9_crossing 35 = .ok (.iconst 1, 1) := by decide +kernel
theorem dX9_crossing_36 : decode cX9_crossing 36 = .ok (.goto 4, 3) := by decide +kernel
theorem dX9_crossing_39 : decode cX9_crossing 39 = .ok (.iconst 0, 1) := by decide +kernel
theorem dX9_crossing_40 : decode cX9_crossing 40 = .ok (.iconst 2, 1) := by decide +kernel
theorem dX9_crossing_41 : decode cX9_crossing 41 = .ok (.invokevirtual 162, 3) := by decide +kernel
theorem dX9_crossing_44 : decode cX9_crossing 44 = .ok (.ifCond .ne 36, 3) := by decide +kernel
theorem dX9_crossing_47 : decode cX9_crossing 47 = .ok (.aload_n 0, 1) := by decide +kernel
theorem dX9_crossing_48 : decode cX9_crossing 48 = .ok (.iload_n 3, 1) := by decide +kernel
theorem dX9_crossing_49 : decode cX9_crossing 49 = .ok (.iconst 0, 1) := by decide +kernel
theorem dX9_crossing_50 : decode cX9_crossing 50 = .ok (.iconst 2, 1) := by decide +kernel
theorem dX9_crossing_51 : decode cX9_crossing 51 = .ok (.invokestatic 113, 3) := by decide +kernel
theorem dX9_crossing_54 : decode cX9_crossing 54 = .ok (.ifCond .eq 14, 3) := by decide +kernel
theorem dX9_crossing_57 : decode cX9_crossing 57 = .ok (.iload 4, 2) := by decide +kernel
theorem dX9_crossing_59 : decode cX9_crossing 59 = .ok (.iconst 0, 1) := by decide +kernel
theorem dX9_crossing_60 : decode cX9_crossing 60 = .ok (.bipush 14, 2) := by decide +kernel
theorem dX9_crossing_62 : decode cX9_crossing 62 = .ok (.invokestatic 113, 3) := by decide +kernel
theorem dX9_crossing_65 : decode cX9_crossing 65 = .ok (.ifCond .ne 7, 3) := by decide +kernel
theorem dX9_crossing_68 : decode cX9_crossing 68 = .ok (.iconst 1, 1) := by decide +kernel
theorem dX9_crossing_69 : decode cX9_crossing 69 = .ok (.goto 4, 3) := by decide +kernel
theorem dX9_crossing_72 : decode cX9_crossing 72 = .ok (.iconst 0, 1) := by decide +kernel
theorem dX9_crossing_73 : decode cX9_crossing 73 = .ok (.iconst 3, 1) := by decide +kernel
theorem dX9_crossing_74 : decode cX9_crossing 74 = .ok (.invokevirtual 162, 3) := by decide +kernel
theorem dX9_crossing_77 : decode cX9_crossing 77 = .ok (.ifCond .eq 5, 3) := by decide +kernel
theorem dX9_crossing_80 : decode cX9_crossing 80 = .ok (.iconst 0, 1) := by decide +kernel
theorem dX9_crossing_81 : decode cX9_crossing 81 = .ok (.ireturn, 1) := by decide +kernel
theorem dX9_crossing_82 : decode cX9_crossing 82 = .ok (.aload_n 0, 1) := by decide +kernel
theorem dX9_crossing_83 : decode cX9_crossing 83 = .ok (.iload 4, 2) := by decide +kernel
theorem dX9_crossing_85 : decode cX9_crossing 85 = .ok (.invokevirtual 417, 3) := by decide +kernel
theorem dX9_crossing_88 : decode cX9_crossing 88 = .ok (.istore 5, 2) := by decide +kernel
theorem dX9_crossing_90 : decode cX9_crossing 90 = .ok (.iconst 0, 1) := by decide +kernel
theorem dX9_crossing_91 : decode cX9_crossing 91 = .ok (.istore 6, 2) := by decide +kernel
theorem dX9_crossing_93 : decode cX9_crossing 93 = .ok (.iconst 0, 1) := by decide +kernel
theorem dX9_crossing_94 : decode cX9_crossing 94 = .ok (.istore 7, 2) := by decide +kernel
theorem dX9_crossing_96 : decode cX9_crossing 96 = .ok (.aload_n 0, 1) := by decide +kernel
theorem dX9_crossing_97 : decode cX9_crossing 97 = .ok (.bipush 14, 2) := by decide +kernel
theorem dX9_crossing_99 : decode cX9_crossing 99 = .ok (.iload_n 1, 1) := by decide +kernel
theorem dX9_crossing_100 : decode cX9_crossing 100 = .ok (.iload_n 2, 1) := by decide +kernel
theorem dX9_crossing_101 : decode cX9_crossing 101 = .ok (.iconst 0, 1) := by decide +kernel
theorem dX9_crossing_102 : decode cX9_crossing 102 = .ok (.invokevirtual 291, 3) := by decide +kernel
theorem dX9_crossing_105 : decode cX9_crossing 105 = .ok (.iconst 0, 1) := by decide +kernel
theorem dX9_crossing_106 : decode cX9_crossing 106 = .ok (.istore 8, 2) := by decide +kernel
theorem dX9_crossing_108 : decode cX9_crossing 108 = .ok (.iload 8, 2) := by decide +kernel
theorem dX9_crossing_110 : decode cX9_crossing 110 = .ok (.aload_n 0, 1) := by decide +kernel
theorem dX9_crossing_111 : decode cX9_crossing 111 = .ok (.getfield 219, 3) := by decide +kernel
theorem dX9_crossing_114 : decode cX9_crossing 114 = .ok (.if_icmp .ge 43, 3) := by decide +kernel
theorem dX9_crossing_117 : decode cX9_crossing 117 = .ok (.iload 5, 2) := by decide +kernel
theorem dX9_crossing_119 : decode cX9_crossing 119 = .ok (.iload 8, 2) := by decide +kernel
theorem dX9_crossing_121 : decode cX9_crossing 121 = .ok (.ishr, 1) := by decide +kernel
theorem dX9_crossing_122 : decode cX9_crossing 122 = .ok (.iconst 1, 1) := by decide +kernel
theorem dX9_crossing_123 : decode cX9_crossing 123 = .ok (.iand, 1) := by decide +kernel
theorem dX9_crossing_124 : decode cX9_crossing 124 = .ok (.ifCond .ne 6, 3) := by decide +kernel
theorem dX9_crossing_127 : decode cX9_crossing 127 = .ok (.goto 24, 3) := by decide +kernel
theorem dX9_crossing_130 : decode cX9_crossing 130 = .ok (.aload_n 0, 1) := by decide +kernel
theorem dX9_crossing_131 : decode cX9_crossing 131 = .ok (.iload 8, 2) := by decide +kernel
theorem dX9_crossing_133 : decode cX9_crossing 133 = .ok (.bipush 14, 2) := by decide +kernel
theorem dX9_crossing_135 : decode cX9_crossing 135 = .ok (.iload_n 3, 1) := by decide +kernel
theorem dX9_crossing_136 : decode cX9_crossing 136 = .ok (.invokevirtual 369, 3) := by decide +kernel
theorem dX9_crossing_139 : decode cX9_crossing 139 = .ok (.ifCond .eq 9, 3) := by decide +kernel
theorem dX9_crossing_142 : decode cX9_crossing 142 = .ok (.iinc 6 1, 3) := by decide +kernel
theorem dX9_crossing_145 : decode cX9_crossing 145 = .ok (.goto 6, 3) := by decide +kernel
theorem dX9_crossing_148 : decode cX9_crossing 148 = .ok (.iinc 7 1, 3) := by decide +kernel
theorem dX9_crossing_151 : decode cX9_crossing 151 = .ok (.iinc 8 1, 3) := by decide +kernel
theorem dX9_crossing_154 : decode cX9_crossing 154 = .ok (.goto (-46), 3) := by decide +kernel
theorem dX9_crossing_157 : decode cX9_crossing 157 = .ok (.iload 5, 2) := by decide +kernel
theorem dX9_crossing_159 : decode cX9_crossing 159 = .ok (.ifCond .ne 7, 3) := by decide +kernel
theorem dX9_crossing_162 : decode cX9_crossing 162 = .ok (.iconst 0, 1) := by decide +kernel
theorem dX9_crossing_163 : decode cX9_crossing 163 = .ok (.goto 22, 3) := by decide +kernel
theorem dX9_crossing_166 : decode cX9_crossing 166 = .ok (.iload 6, 2) := by decide +kernel
theorem dX9_crossing_168 : decode cX9_crossing 168 = .ok (.ifCond .ne 7, 3) := by decide +kernel
theorem dX9_crossing_171 : decode cX9_crossing 171 = .ok (.iconst 1, 1) := by decide +kernel
theorem dX9_crossing_172 : decode cX9_crossing 172 = .ok (.goto 13, 3) := by decide +kernel
theorem dX9_crossing_175 : decode cX9_crossing 175 = .ok (.iload 7, 2) := by decide +kernel
theorem dX9_crossing_177 : decode cX9_crossing 177 = .ok (.ifCond .ne 7, 3) := by decide +kernel
theorem dX9_crossing_180 : decode cX9_crossing 180 = .ok (.iconst 2, 1) := by decide +kernel
theorem dX9_crossing_181 : decode cX9_crossing 181 = .ok (.goto 4, 3) := by decide +kernel
theorem dX9_crossing_184 : decode cX9_crossing 184 = .ok (.iconst 3, 1) := by decide +kernel
theorem dX9_crossing_185 : decode cX9_crossing 185 = .ok (.ireturn, 1) := by decide +kernel
theorem dX9_moves_0 : decode cX9_moves 0 = .ok (.iload_n 3, 1) := by decide +kernel
theorem dX9_moves_1 : decode cX9_moves 1 = .ok (.ifCond .ne 15, 3) := by decide +kernel
theorem dX9_moves_4 : decode cX9_moves 4 = .ok (.aload_n 0, 1) := by decide +kernel
theorem dX9_moves_5 : decode cX9_moves 5 = .ok (.getfield 70, 3) := by decide +kernel
theorem dX9_moves_8 : decode cX9_moves 8 = .ok (.iload_n 1, 1) := by decide +kernel
theorem dX9_moves_9 : decode cX9_moves 9 = .ok (.aaload, 1) := by decide +kernel
theorem dX9_moves_10 : decode cX9_moves 10 = .ok (.aload_n 0, 1) := by decide +kernel
theorem dX9_moves_11 : decode cX9_moves 11 = .ok (.getfield 420, 3) := by decide +kernel
theorem dX9_moves_14 : decode cX9_moves 14 = .ok (.iload_n 2, 1) := by decide +kernel
theorem dX9_moves_15 : decode cX9_moves 15 = .ok (.iastore, 1) := by decide +kernel
theorem dX9_moves_16 : decode cX9_moves 16 = .ok (.aload_n 0, 1) := by decide +kernel
theorem dX9_moves_17 : decode cX9_moves 17 = .ok (.dup, 1) := by decide +kernel
theorem dX9_moves_18 : decode cX9_moves 18 = .ok (.getfield 420, 3) := by decide +kernel
theorem dX9_moves_21 : decode cX9_moves 21 = .ok (.iconst 1, 1) := by decide +kernel
theorem dX9_moves_22 : decode cX9_moves 22 = .ok (.iadd, 1) := by decide +kernel
theorem dX9_moves_23 : decode cX9_moves 23 = .ok (.putfield 420, 3) := by decide +kernel
theorem dX9_moves_26 : decode cX9_moves 26 = .ok (.aload_n 0, 1) := by decide +kernel
theorem dX9_moves_27 : decode cX9_moves 27 = .ok (.getfield 70, 3) := by decide +kernel
theorem dX9_moves_30 : decode cX9_moves 30 = .ok (.iload_n 1, 1) := by decide +kernel
theorem dX9_moves_31 : decode cX9_moves 31 = .ok (.aaload, 1) := by decide +kernel
theorem dX9_moves_32 : decode cX9_moves 32 = .ok (.aload_n 0, 1) := by decide +kernel
theorem dX9_moves_33 : decode cX9_moves 33 = .ok (.getfield 420, 3) := by decide +kernel
theorem dX9_moves_36 : decode cX9_moves 36 = .ok (.iconst 1, 1) := by decide +kernel
theorem dX9_moves_37 : decode cX9_moves 37 = .ok (.isub, 1) := by decide +kernel
theorem dX9_moves_38 : decode cX9_moves 38 = .ok (.iaload, 1) := by decide +kernel
theorem dX9_moves_39 : decode cX9_moves 39 = .ok (.ireturn, 1) := by decide +kernel
theorem dX9_movesRow_0 : decode cX9_movesRow 0 = .ok (.iconst 0, 1) := by decide +kernel
theorem dX9_movesRow_1 : decode cX9_movesRow 1 = .ok (.istore 4, 2) := by decide +kernel
theorem dX9_movesRow_3 : decode cX9_movesRow 3 = .ok (.iload 4, 2) := by decide +kernel
theorem dX9_movesRow_5 : decode cX9_movesRow 5 = .ok (.aload_n 2, 1) := by decide +kernel
theorem dX9_movesRow_6 : decode cX9_movesRow 6 = .ok (.arraylength, 1) := by decide +kernel
theorem dX9_movesRow_7 : decode cX9_movesRow 7 = .ok (.if_icmp .ge 23, 3) := by decide +kernel
theorem dX9_movesRow_10 : decode cX9_movesRow 10 = .ok (.aload_n 2, 1) := by decide +kernel
theorem dX9_movesRow_11 : decode cX9_movesRow 11 = .ok (.iload 4, 2) := by decide +kernel
theorem dX9_movesRow_13 : decode cX9_movesRow 13 = .ok (.aload_n 0, 1) := by decide +kernel
theorem dX9_movesRow_14 : decode cX9_movesRow 14 = .ok (.iload_n 1, 1) := by decide +kernel
theorem dX9_movesRow_15 : decode cX9_movesRow 15 = .ok (.aload_n 2, 1) := by decide +kernel
theorem dX9_movesRow_16 : decode cX9_movesRow 16 = .ok (.iload 4, 2) := by decide +kernel
theorem dX9_movesRow_18 : decode cX9_movesRow 18 = .ok (.iaload, 1) := by decide +kernel
theorem dX9_movesRow_19 : decode cX9_movesRow 19 = .ok (.iload_n 3, 1) := by decide +kernel
theorem dX9_movesRow_20 : decode cX9_movesRow 20 = .ok (.invokevirtual 423, 3) := by decide +kernel
theorem dX9_movesRow_23 : decode cX9_movesRow 23 = .ok (.iastore, 1) := by decide +kernel
theorem dX9_movesRow_24 : decode cX9_movesRow 24 = .ok (.iinc 4 1, 3) := by decide +kernel
theorem dX9_movesRow_27 : decode cX9_movesRow 27 = .ok (.goto (-24), 3) := by decide +kernel
theorem dX9_movesRow_30 : decode cX9_movesRow 30 = .ok (.return_, 1) := by decide +kernel
theorem dX9_movesAll_0 : decode cX9_movesAll 0 = .ok (.aload_n 0, 1) := by decide +kernel
theorem dX9_movesAll_1 : decode cX9_movesAll 1 = .ok (.iconst 0, 1) := by decide +kernel
theorem dX9_movesAll_2 : decode cX9_movesAll 2 = .ok (.putfield 420, 3) := by decide +kernel
theorem dX9_movesAll_5 : decode cX9_movesAll 5 = .ok (.aload_n 0, 1) := by decide +kernel
theorem dX9_movesAll_6 : decode cX9_movesAll 6 = .ok (.aload_n 0, 1) := by decide +kernel
theorem dX9_movesAll_7 : decode cX9_movesAll 7 = .ok (.iload_n 1, 1) := by decide +kernel
theorem dX9_movesAll_8 : decode cX9_movesAll 8 = .ok (.aload_n 0, 1) := by decide +kernel
theorem dX9_movesAll_9 : decode cX9_movesAll 9 = .ok (.getfield 288, 3) := by decide +kernel
theorem dX9_movesAll_12 : decode cX9_movesAll 12 = .ok (.iload_n 2, 1) := by decide +kernel
theorem dX9_movesAll_13 : decode cX9_movesAll 13 = .ok (.invokevirtual 423, 3) := by decide +kernel
theorem dX9_movesAll_16 : decode cX9_movesAll 16 = .ok (.putfield 288, 3) := by decide +kernel
theorem dX9_movesAll_19 : decode cX9_movesAll 19 = .ok (.aload_n 0, 1) := by decide +kernel
theorem dX9_movesAll_20 : decode cX9_movesAll 20 = .ok (.aload_n 0, 1) := by decide +kernel
theorem dX9_movesAll_21 : decode cX9_movesAll 21 = .ok (.iload_n 1, 1) := by decide +kernel
theorem dX9_movesAll_22 : decode cX9_movesAll 22 = .ok (.aload_n 0, 1) := by decide +kernel
theorem dX9_movesAll_23 : decode cX9_movesAll 23 = .ok (.getfield 298, 3) := by decide +kernel
theorem dX9_movesAll_26 : decode cX9_movesAll 26 = .ok (.iload_n 2, 1) := by decide +kernel
theorem dX9_movesAll_27 : decode cX9_movesAll 27 = .ok (.invokevirtual 423, 3) := by decide +kernel
theorem dX9_movesAll_30 : decode cX9_movesAll 30 = .ok (.putfield 298, 3) := by decide +kernel
theorem dX9_movesAll_33 : decode cX9_movesAll 33 = .ok (.aload_n 0, 1) := by decide +kernel
theorem dX9_movesAll_34 : decode cX9_movesAll 34 = .ok (.aload_n 0, 1) := by decide +kernel
theorem dX9_movesAll_35 : decode cX9_movesAll 35 = .ok (.iload_n 1, 1) := by decide +kernel
theorem dX9_movesAll_36 : decode cX9_movesAll 36 = .ok (.aload_n 0, 1) := by decide +kernel
theorem dX9_movesAll_37 : decode cX9_movesAll 37 = .ok (.getfield 301, 3) := by decide +kernel
theorem dX9_movesAll_40 : decode cX9_movesAll 40 = .ok (.iload_n 2, 1) := by decide +kernel
theorem dX9_movesAll_41 : decode cX9_movesAll 41 = .ok (.invokevirtual 423, 3) := by decide +kernel
theorem dX9_movesAll_44 : decode cX9_movesAll 44 = .ok (.putfield 301, 3) := by decide +kernel
theorem dX9_movesAll_47 : decode cX9_movesAll 47 = .ok (.aload_n 0, 1) := by decide +kernel
theorem dX9_movesAll_48 : decode cX9_movesAll 48 = .ok (.aload_n 0, 1) := by decide +kernel
theorem dX9_movesAll_49 : decode cX9_movesAll 49 = .ok (.iload_n 1, 1) := by decide +kernel
theorem dX9_movesAll_50 : decode cX9_movesAll 50 = .ok (.aload_n 0, 1) := by decide +kernel
theorem dX9_movesAll_51 : decode cX9_movesAll 51 = .ok (.getfield 58, 3) := by decide +kernel
theorem dX9_movesAll_54 : decode cX9_movesAll 54 = .ok (.iload_n 2, 1) := by decide +kernel
theorem dX9_movesAll_55 : decode cX9_movesAll 55 = .ok (.invokevirtual 423, 3) := by decide +kernel
theorem dX9_movesAll_58 : decode cX9_movesAll 58 = .ok (.putfield 58, 3) := by decide +kernel
theorem dX9_movesAll_61 : decode cX9_movesAll 61 = .ok (.aload_n 0, 1) := by decide +kernel
theorem dX9_movesAll_62 : decode cX9_movesAll 62 = .ok (.iload_n 1, 1) := by decide +kernel
theorem dX9_movesAll_63 : decode cX9_movesAll 63 = .ok (.aload_n 0, 1) := by decide +kernel
theorem dX9_movesAll_64 : decode cX9_movesAll 64 = .ok (.getfield 219, 3) := by decide +kernel
theorem dX9_movesAll_67 : decode cX9_movesAll 67 = .ok (.iload_n 2, 1) := by decide +kernel
theorem dX9_movesAll_68 : decode cX9_movesAll 68 = .ok (.invokevirtual 423, 3) := by decide +kernel
theorem dX9_movesAll_71 : decode cX9_movesAll 71 = .ok (.istore_n 3, 1) := by decide +kernel
theorem dX9_movesAll_72 : decode cX9_movesAll 72 = .ok (.aload_n 0, 1) := by decide +kernel
theorem dX9_movesAll_73 : decode cX9_movesAll 73 = .ok (.iload_n 1, 1) := by decide +kernel
theorem dX9_movesAll_74 : decode cX9_movesAll 74 = .ok (.aload_n 0, 1) := by decide +kernel
theorem dX9_movesAll_75 : decode cX9_movesAll 75 = .ok (.getfield 49, 3) := by decide +kernel
theorem dX9_movesAll_78 : decode cX9_movesAll 78 = .ok (.iload_n 2, 1) := by decide +kernel
theorem dX9_movesAll_79 : decode cX9_movesAll 79 = .ok (.invokevirtual 426, 3) := by decide +kernel
theorem dX9_movesAll_82 : decode cX9_movesAll 82 = .ok (.iload_n 3, 1) := by decide +kernel
theorem dX9_movesAll_83 : decode cX9_movesAll 83 = .ok (.istore 4, 2) := by decide +kernel
theorem dX9_movesAll_85 : decode cX9_movesAll 85 = .ok (.iload 4, 2) := by decide +kernel
theorem dX9_movesAll_87 : decode cX9_movesAll 87 = .ok (.iconst 4, 1) := by decide +kernel
theorem dX9_movesAll_88 : decode cX9_movesAll 88 = .ok (.if_icmp .ge 21, 3) := by decide +kernel
theorem dX9_movesAll_91 : decode cX9_movesAll 91 = .ok (.iload_n 2, 1) := by decide +kernel
theorem dX9_movesAll_92 : decode cX9_movesAll 92 = .ok (.ifCond .eq 17, 3) := by decide +kernel
theorem dX9_movesAll_95 : decode cX9_movesAll 95 = .ok (.aload_n 0, 1) := by decide +kernel
theorem dX9_movesAll_96 : decode cX9_movesAll 96 = .ok (.getfield 49, 3) := by decide +kernel
theorem dX9_movesAll_99 : decode cX9_movesAll 99 = .ok (.iload 4, 2) := by decide +kernel
theorem dX9_movesAll_101 : decode cX9_movesAll 101 = .ok (.iconst 1, 1) := by decide +kernel
theorem dX9_movesAll_102 : decode cX9_movesAll 102 = .ok (.iastore, 1) := by decide +kernel
theorem dX9_movesAll_103 : decode cX9_movesAll 103 = .ok (.iinc 4 1, 3) := by decide +kernel
theorem dX9_movesAll_106 : decode cX9_movesAll 106 = .ok (.goto (-21), 3) := by decide +kernel
theorem dX9_movesAll_109 : decode cX9_movesAll 109 = .ok (.iconst 0, 1) := by decide +kernel
theorem dX9_movesAll_110 : decode cX9_movesAll 110 = .ok (.istore 4, 2) := by decide +kernel
theorem dX9_movesAll_112 : decode cX9_movesAll 112 = .ok (.iload 4, 2) := by decide +kernel
theorem dX9_movesAll_114 : decode cX9_movesAll 114 = .ok (.bipush 14, 2) := by decide +kernel
theorem dX9_movesAll_116 : decode cX9_movesAll 116 = .ok (.if_icmp .ge 22, 3) := by decide +kernel
theorem dX9_movesAll_119 : decode cX9_movesAll 119 = .ok (.aload_n 0, 1) := by decide +kernel
theorem dX9_movesAll_120 : decode cX9_movesAll 120 = .ok (.iload_n 1, 1) := by decide +kernel
theorem dX9_movesAll_121 : decode cX9_movesAll 121 = .ok (.aload_n 0, 1) := by decide +kernel
theorem dX9_movesAll_122 : decode cX9_movesAll 122 = .ok (.getfield 61, 3) := by decide +kernel
theorem dX9_movesAll_125 : decode cX9_movesAll 125 = .ok (.iload 4, 2) := by decide +kernel
theorem dX9_movesAll_127 : decode cX9_movesAll 127 = .ok (.aaload, 1) := by decide +kernel
theorem dX9_movesAll_128 : decode cX9_movesAll 128 = .ok (.iload_n 2, 1) := by decide +kernel
theorem dX9_movesAll_129 : decode cX9_movesAll 129 = .ok (.invokevirtual 426, 3) := by decide +kernel
theorem dX9_movesAll_132 : decode cX9_movesAll 132 = .ok (.iinc 4 1, 3) := by decide +kernel
theorem dX9_movesAll_135 : decode cX9_movesAll 135 = .ok (.goto (-23), 3) := by decide +kernel
theorem dX9_movesAll_138 : decode cX9_movesAll 138 = .ok (.iconst 0, 1) := by decide +kernel
theorem dX9_movesAll_139 : decode cX9_movesAll 139 = .ok (.istore 4, 2) := by decide +kernel
theorem dX9_movesAll_141 : decode cX9_movesAll 141 = .ok (.iload 4, 2) := by decide +kernel
theorem dX9_movesAll_143 : decode cX9_movesAll 143 = .ok (.bipush 60, 2) := by decide +kernel
theorem dX9_movesAll_145 : decode cX9_movesAll 145 = .ok (.if_icmp .ge 22, 3) := by decide +kernel
theorem dX9_movesAll_148 : decode cX9_movesAll 148 = .ok (.aload_n 0, 1) := by decide +kernel
theorem dX9_movesAll_149 : decode cX9_movesAll 149 = .ok (.iload_n 1, 1) := by decide +kernel
theorem dX9_movesAll_150 : decode cX9_movesAll 150 = .ok (.aload_n 0, 1) := by decide +kernel
theorem dX9_movesAll_151 : decode cX9_movesAll 151 = .ok (.getfield 64, 3) := by decide +kernel
theorem dX9_movesAll_154 : decode cX9_movesAll 154 = .ok (.iload 4, 2) := by decide +kernel
theorem dX9_movesAll_156 : decode cX9_movesAll 156 = .ok (.aaload, 1) := by decide +kernel
theorem dX9_movesAll_157 : decode cX9_movesAll 157 = .ok (.iload_n 2, 1) := by decide +kernel
theorem dX9_movesAll_158 : decode cX9_movesAll 158 = .ok (.invokevirtual 426, 3) := by decide +kernel
theorem dX9_movesAll_161 : decode cX9_movesAll 161 = .ok (.iinc 4 1, 3) := by decide +kernel
theorem dX9_movesAll_164 : decode cX9_movesAll 164 = .ok (.goto (-23), 3) := by decide +kernel
theorem dX9_movesAll_167 : decode cX9_movesAll 167 = .ok (.iconst 0, 1) := by decide +kernel
theorem dX9_movesAll_168 : decode cX9_movesAll 168 = .ok (.istore 4, 2) := by decide +kernel
theorem dX9_movesAll_170 : decode cX9_movesAll 170 = .ok (.iload 4, 2) := by decide +kernel
theorem dX9_movesAll_172 : decode cX9_movesAll 172 = .ok (.bipush 40, 2) := by decide +kernel
theorem dX9_movesAll_174 : decode cX9_movesAll 174 = .ok (.if_icmp .ge 22, 3) := by decide +kernel
theorem dX9_movesAll_177 : decode cX9_movesAll 177 = .ok (.aload_n 0, 1) := by decide +kernel
theorem dX9_movesAll_178 : decode cX9_movesAll 178 = .ok (.iload_n 1, 1) := by decide +kernel
theorem dX9_movesAll_179 : decode cX9_movesAll 179 = .ok (.aload_n 0, 1) := by decide +kernel
theorem dX9_movesAll_180 : decode cX9_movesAll 180 = .ok (.getfield 67, 3) := by decide +kernel
theorem dX9_movesAll_183 : decode cX9_movesAll 183 = .ok (.iload 4, 2) := by decide +kernel
theorem dX9_movesAll_185 : decode cX9_movesAll 185 = .ok (.aaload, 1) := by decide +kernel
theorem dX9_movesAll_186 : decode cX9_movesAll 186 = .ok (.iload_n 2, 1) := by decide +kernel
theorem dX9_movesAll_187 : decode cX9_movesAll 187 = .ok (.invokevirtual 426, 3) := by decide +kernel
theorem dX9_movesAll_190 : decode cX9_movesAll 190 = .ok (.iinc 4 1, 3) := by decide +kernel
theorem dX9_movesAll_193 : decode cX9_movesAll 193 = .ok (.goto (-23), 3) := by decide +kernel
theorem dX9_movesAll_196 : decode cX9_movesAll 196 = .ok (.return_, 1) := by decide +kernel
theorem dX9_image_0 : decode cX9_image 0 = .ok (.aload_n 0, 1) := by decide +kernel
theorem dX9_image_1 : decode cX9_image 1 = .ok (.iconst 0, 1) := by decide +kernel
theorem dX9_image_2 : decode cX9_image 2 = .ok (.putfield 76, 3) := by decide +kernel
theorem dX9_image_5 : decode cX9_image 5 = .ok (.aload_n 0, 1) := by decide +kernel
theorem dX9_image_6 : decode cX9_image 6 = .ok (.getfield 430, 3) := by decide +kernel
theorem dX9_image_9 : decode cX9_image 9 = .ok (.iconst 3, 1) := by decide +kernel
theorem dX9_image_10 : decode cX9_image 10 = .ok (.if_icmp .ne 5, 3) := by decide +kernel
theorem dX9_image_13 : decode cX9_image 13 = .ok (.iconst (-1), 1) := by decide +kernel
theorem dX9_image_14 : decode cX9_image 14 = .ok (.ireturn, 1) := by decide +kernel
theorem dX9_image_15 : decode cX9_image 15 = .ok (.aload_n 0, 1) := by decide +kernel
theorem dX9_image_16 : decode cX9_image 16 = .ok (.aload_n 0, 1) := by decide +kernel
theorem dX9_image_17 : decode cX9_image 17 = .ok (.getfield 430, 3) := by decide +kernel
theorem dX9_image_20 : decode cX9_image 20 = .ok (.iconst 0, 1) := by decide +kernel
theorem dX9_image_21 : decode cX9_image 21 = .ok (.invokevirtual 433, 3) := by decide +kernel
theorem dX9_image_24 : decode cX9_image 24 = .ok (.aload_n 0, 1) := by decide +kernel
theorem dX9_image_25 : decode cX9_image 25 = .ok (.dup, 1) := by decide +kernel
theorem dX9_image_26 : decode cX9_image 26 = .ok (.getfield 430, 3) := by decide +kernel
theorem dX9_image_29 : decode cX9_image 29 = .ok (.iconst 1, 1) := by decide +kernel
theorem dX9_image_30 : decode cX9_image 30 = .ok (.iadd, 1) := by decide +kernel
theorem dX9_image_31 : decode cX9_image 31 = .ok (.putfield 430, 3) := by decide +kernel
theorem dX9_image_34 : decode cX9_image 34 = .ok (.aload_n 0, 1) := by decide +kernel
theorem dX9_image_35 : decode cX9_image 35 = .ok (.getfield 430, 3) := by decide +kernel
theorem dX9_image_38 : decode cX9_image 38 = .ok (.ireturn, 1) := by decide +kernel
theorem dX9_restore_0 : decode cX9_restore 0 = .ok (.aload_n 0, 1) := by decide +kernel
theorem dX9_restore_1 : decode cX9_restore 1 = .ok (.iconst 0, 1) := by decide +kernel
theorem dX9_restore_2 : decode cX9_restore 2 = .ok (.putfield 76, 3) := by decide +kernel
theorem dX9_restore_5 : decode cX9_restore 5 = .ok (.aload_n 0, 1) := by decide +kernel
theorem dX9_restore_6 : decode cX9_restore 6 = .ok (.getfield 430, 3) := by decide +kernel
theorem dX9_restore_9 : decode cX9_restore 9 = .ok (.ifCond .ne 5, 3) := by decide +kernel
theorem dX9_restore_12 : decode cX9_restore 12 = .ok (.iconst (-1), 1) := by decide +kernel
theorem dX9_restore_13 : decode cX9_restore 13 = .ok (.ireturn, 1) := by decide +kernel
theorem dX9_restore_14 : decode cX9_restore 14 = .ok (.aload_n 0, 1) := by decide +kernel
theorem dX9_restore_15 : decode cX9_restore 15 = .ok (.dup, 1) := by decide +kernel
theorem dX9_restore_16 : decode cX9_restore 16 = .ok (.getfield 430, 3) := by decide +kernel
theorem dX9_restore_19 : decode cX9_restore 19 = .ok (.iconst 1, 1) := by decide +kernel
theorem dX9_restore_20 : decode cX9_restore 20 = .ok (.isub, 1) := by decide +kernel
theorem dX9_restore_21 : decode cX9_restore 21 = .ok (.putfield 430, 3) := by decide +kernel
theorem dX9_restore_24 : decode cX9_restore 24 = .ok (.aload_n 0, 1) := by decide +kernel
theorem dX9_restore_25 : decode cX9_restore 25 = .ok (.aload_n 0, 1) := by decide +kernel
theorem dX9_restore_26 : decode cX9_restore 26 = .ok (.getfield 430, 3) := by decide +kernel
theorem dX9_restore_29 : decode cX9_restore 29 = .ok (.iconst 1, 1) := by decide +kernel
theorem dX9_restore_30 : decode cX9_restore 30 = .ok (.invokevirtual 433, 3) := by decide +kernel
theorem dX9_restore_33 : decode cX9_restore 33 = .ok (.aload_n 0, 1) := by decide +kernel
theorem dX9_restore_34 : decode cX9_restore 34 = .ok (.getfield 430, 3) := by decide +kernel
theorem dX9_restore_37 : decode cX9_restore 37 = .ok (.ireturn, 1) := by decide +kernel
theorem dX9_count_0 : decode cX9_count 0 = .ok (.aload_n 0, 1) := by decide +kernel
theorem dX9_count_1 : decode cX9_count 1 = .ok (.iconst 0, 1) := by decide +kernel
theorem dX9_count_2 : decode cX9_count 2 = .ok (.putfield 76, 3) := by decide +kernel
theorem dX9_count_5 : decode cX9_count 5 = .ok (.iload_n 1, 1) := by decide +kernel
theorem dX9_count_6 : decode cX9_count 6 = .ok (.tableswitch 95 0 8 #[50, 55, 60, 65, 70, 75, 80, 85, 90], 50) := by decide +kernel
theorem dX9_count_56 : decode cX9_count 56 = .ok (.aload_n 0, 1) := by decide +kernel
theorem dX9_count_57 : decode cX9_count 57 = .ok (.getfield 166, 3) := by decide +kernel
theorem dX9_count_60 : decode cX9_count 60 = .ok (.ireturn, 1) := by decide +kernel
theorem dX9_count_61 : decode cX9_count 61 = .ok (.aload_n 0, 1) := by decide +kernel
theorem dX9_count_62 : decode cX9_count 62 = .ok (.getfield 179, 3) := by decide +kernel
theorem dX9_count_65 : decode cX9_count 65 = .ok (.ireturn, 1) := by decide +kernel
theorem dX9_count_66 : decode cX9_count 66 = .ok (.aload_n 0, 1) := by decide +kernel
theorem dX9_count_67 : decode cX9_count 67 = .ok (.getfield 219, 3) := by decide +kernel
theorem dX9_count_70 : decode cX9_count 70 = .ok (.ireturn, 1) := by decide +kernel
theorem dX9_count_71 : decode cX9_count 71 = .ok (.aload_n 0, 1) := by decide +kernel
theorem dX9_count_72 : decode cX9_count 72 = .ok (.getfield 288, 3) := by decide +kernel
theorem dX9_count_75 : decode cX9_count 75 = .ok (.ireturn, 1) := by decide +kernel
theorem dX9_count_76 : decode cX9_count 76 = .ok (.aload_n 0, 1) := by decide +kernel
theorem dX9_count_77 : decode cX9_count 77 = .ok (.getfield 298, 3) := by decide +kernel
theorem dX9_count_80 : decode cX9_count 80 = .ok (.ireturn, 1) := by decide +kernel
theorem dX9_count_81 : decode cX9_count 81 = .ok (.aload_n 0, 1) := by decide +kernel
theorem dX9_count_82 : decode cX9_count 82 = .ok (.getfield 301, 3) := by decide +kernel
theorem dX9_count_85 : decode cX9_count 85 = .ok (.ireturn, 1) := by decide +kernel
theorem dX9_count_86 : decode cX9_count 86 = .ok (.aload_n 0, 1) := by decide +kernel
theorem dX9_count_87 : decode cX9_count 87 = .ok (.getfield 430, 3) := by decide +kernel
theorem dX9_count_90 : decode cX9_count 90 = .ok (.ireturn, 1) := by decide +kernel
theorem dX9_count_91 : decode cX9_count 91 = .ok (.aload_n 0, 1) := by decide +kernel
theorem dX9_count_92 : decode cX9_count 92 = .ok (.getfield 79, 3) := by decide +kernel
theorem dX9_count_95 : decode cX9_count 95 = .ok (.ireturn, 1) := by decide +kernel
theorem dX9_count_96 : decode cX9_count 96 = .ok (.aload_n 0, 1) := by decide +kernel
theorem dX9_count_97 : decode cX9_count 97 = .ok (.getfield 58, 3) := by decide +kernel
theorem dX9_count_100 : decode cX9_count 100 = .ok (.ireturn, 1) := by decide +kernel
theorem dX9_count_101 : decode cX9_count 101 = .ok (.iconst (-1), 1) := by decide +kernel
theorem dX9_count_102 : decode cX9_count 102 = .ok (.ireturn, 1) := by decide +kernel
