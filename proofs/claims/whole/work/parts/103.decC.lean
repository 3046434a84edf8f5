theorem dX0_init_0 : decode cX0_init 0 = .ok (.aload_n 0, 1) := by decide +kernel
theorem dX0_init_1 : decode cX0_init 1 = .ok (.invokespecial 3, 3) := by decide +kernel
theorem dX0_init_4 : decode cX0_init 4 = .ok (.aload_n 0, 1) := by decide +kernel
theorem dX0_init_5 : decode cX0_init 5 = .ok (.iconst 0, 1) := by decide +kernel
theorem dX0_init_6 : decode cX0_init 6 = .ok (.putfield 9, 3) := by decide +kernel
theorem dX0_init_9 : decode cX0_init 9 = .ok (.aload_n 0, 1) := by decide +kernel
theorem dX0_init_10 : decode cX0_init 10 = .ok (.bipush 14, 2) := by decide +kernel
theorem dX0_init_12 : decode cX0_init 12 = .ok (.newarray .int, 2) := by decide +kernel
theorem dX0_init_14 : decode cX0_init 14 = .ok (.putfield 15, 3) := by decide +kernel
theorem dX0_init_17 : decode cX0_init 17 = .ok (.aload_n 0, 1) := by decide +kernel
theorem dX0_init_18 : decode cX0_init 18 = .ok (.bipush 14, 2) := by decide +kernel
theorem dX0_init_20 : decode cX0_init 20 = .ok (.newarray .int, 2) := by decide +kernel
theorem dX0_init_22 : decode cX0_init 22 = .ok (.putfield 19, 3) := by decide +kernel
theorem dX0_init_25 : decode cX0_init 25 = .ok (.aload_n 0, 1) := by decide +kernel
theorem dX0_init_26 : decode cX0_init 26 = .ok (.iconst 0, 1) := by decide +kernel
theorem dX0_init_27 : decode cX0_init 27 = .ok (.putfield 22, 3) := by decide +kernel
theorem dX0_init_30 : decode cX0_init 30 = .ok (.aload_n 0, 1) := by decide +kernel
theorem dX0_init_31 : decode cX0_init 31 = .ok (.bipush 42, 2) := by decide +kernel
theorem dX0_init_33 : decode cX0_init 33 = .ok (.newarray .int, 2) := by decide +kernel
theorem dX0_init_35 : decode cX0_init 35 = .ok (.putfield 25, 3) := by decide +kernel
theorem dX0_init_38 : decode cX0_init 38 = .ok (.aload_n 0, 1) := by decide +kernel
theorem dX0_init_39 : decode cX0_init 39 = .ok (.bipush 14, 2) := by decide +kernel
theorem dX0_init_41 : decode cX0_init 41 = .ok (.newarray .int, 2) := by decide +kernel
theorem dX0_init_43 : decode cX0_init 43 = .ok (.putfield 28, 3) := by decide +kernel
theorem dX0_init_46 : decode cX0_init 46 = .ok (.aload_n 0, 1) := by decide +kernel
theorem dX0_init_47 : decode cX0_init 47 = .ok (.bipush 14, 2) := by decide +kernel
theorem dX0_init_49 : decode cX0_init 49 = .ok (.newarray .int, 2) := by decide +kernel
theorem dX0_init_51 : decode cX0_init 51 = .ok (.putfield 31, 3) := by decide +kernel
theorem dX0_init_54 : decode cX0_init 54 = .ok (.aload_n 0, 1) := by decide +kernel
theorem dX0_init_55 : decode cX0_init 55 = .ok (.iconst 0, 1) := by decide +kernel
theorem dX0_init_56 : decode cX0_init 56 = .ok (.putfield 34, 3) := by decide +kernel
theorem dX0_init_59 : decode cX0_init 59 = .ok (.aload_n 0, 1) := by decide +kernel
theorem dX0_init_60 : decode cX0_init 60 = .ok (.bipush 60, 2) := by decide +kernel
theorem dX0_init_62 : decode cX0_init 62 = .ok (.newarray .int, 2) := by decide +kernel
theorem dX0_init_64 : decode cX0_init 64 = .ok (.putfield 37, 3) := by decide +kernel
theorem dX0_init_67 : decode cX0_init 67 = .ok (.aload_n 0, 1) := by decide +kernel
theorem dX0_init_68 : decode cX0_init 68 = .ok (.bipush 60, 2) := by decide +kernel
theorem dX0_init_70 : decode cX0_init 70 = .ok (.newarray .int, 2) := by decide +kernel
theorem dX0_init_72 : decode cX0_init 72 = .ok (.putfield 40, 3) := by decide +kernel
theorem dX0_init_75 : decode cX0_init 75 = .ok (.aload_n 0, 1) := by decide +kernel
theorem dX0_init_76 : decode cX0_init 76 = .ok (.bipush 60, 2) := by decide +kernel
theorem dX0_init_78 : decode cX0_init 78 = .ok (.newarray .int, 2) := by decide +kernel
theorem dX0_init_80 : decode cX0_init 80 = .ok (.putfield 43, 3) := by decide +kernel
theorem dX0_init_83 : decode cX0_init 83 = .ok (.aload_n 0, 1) := by decide +kernel
theorem dX0_init_84 : decode cX0_init 84 = .ok (.iconst 0, 1) := by decide +kernel
theorem dX0_init_85 : decode cX0_init 85 = .ok (.putfield 46, 3) := by decide +kernel
theorem dX0_init_88 : decode cX0_init 88 = .ok (.aload_n 0, 1) := by decide +kernel
theorem dX0_init_89 : decode cX0_init 89 = .ok (.bipush 40, 2) := by decide +kernel
theorem dX0_init_91 : decode cX0_init 91 = .ok (.newarray .int, 2) := by decide +kernel
theorem dX0_init_93 : decode cX0_init 93 = .ok (.putfield 49, 3) := by decide +kernel
theorem dX0_init_96 : decode cX0_init 96 = .ok (.aload_n 0, 1) := by decide +kernel
theorem dX0_init_97 : decode cX0_init 97 = .ok (.bipush 40, 2) := by decide +kernel
theorem dX0_init_99 : decode cX0_init 99 = .ok (.newarray .int, 2) := by decide +kernel
theorem dX0_init_101 : decode cX0_init 101 = .ok (.putfield 52, 3) := by decide +kernel
theorem dX0_init_104 : decode cX0_init 104 = .ok (.aload_n 0, 1) := by decide +kernel
theorem dX0_init_105 : decode cX0_init 105 = .ok (.bipush 40, 2) := by decide +kernel
theorem dX0_init_107 : decode cX0_init 107 = .ok (.newarray .int, 2) := by decide +kernel
theorem dX0_init_109 : decode cX0_init 109 = .ok (.putfield 55, 3) := by decide +kernel
theorem dX0_init_112 : decode cX0_init 112 = .ok (.aload_n 0, 1) := by decide +kernel
theorem dX0_init_113 : decode cX0_init 113 = .ok (.iconst 4, 1) := by decide +kernel
theorem dX0_init_114 : decode cX0_init 114 = .ok (.newarray .int, 2) := by decide +kernel
theorem dX0_init_116 : decode cX0_init 116 = .ok (.putfield 58, 3) := by decide +kernel
theorem dX0_init_119 : decode cX0_init 119 = .ok (.aload_n 0, 1) := by decide +kernel
theorem dX0_init_120 : decode cX0_init 120 = .ok (.iconst 4, 1) := by decide +kernel
theorem dX0_init_121 : decode cX0_init 121 = .ok (.putfield 61, 3) := by decide +kernel
theorem dX0_init_124 : decode cX0_init 124 = .ok (.iconst 0, 1) := by decide +kernel
theorem dX0_init_125 : decode cX0_init 125 = .ok (.istore_n 1, 1) := by decide +kernel
theorem dX0_init_126 : decode cX0_init 126 = .ok (.iload_n 1, 1) := by decide +kernel
theorem dX0_init_127 : decode cX0_init 127 = .ok (.iconst 4, 1) := by decide +kernel
theorem dX0_init_128 : decode cX0_init 128 = .ok (.if_icmp .ge 16, 3) := by decide +kernel
theorem dX0_init_131 : decode cX0_init 131 = .ok (.aload_n 0, 1) := by decide +kernel
theorem dX0_init_132 : decode cX0_init 132 = .ok (.getfield 58, 3) := by decide +kernel
theorem dX0_init_135 : decode cX0_init 135 = .ok (.iload_n 1, 1) := by decide +kernel
theorem dX0_init_136 : decode cX0_init 136 = .ok (.iconst 1, 1) := by decide +kernel
theorem dX0_init_137 : decode cX0_init 137 = .ok (.iastore, 1) := by decide +kernel
theorem dX0_init_138 : decode cX0_init 138 = .ok (.iinc 1 1, 3) := by decide +kernel
theorem dX0_init_141 : decode cX0_init 141 = .ok (.goto (-15), 3) := by decide +kernel
theorem dX0_init_144 : decode cX0_init 144 = .ok (.return_, 1) := by decide +kernel
theorem dX0_addLooker_0 : decode cX0_addLooker 0 = .ok (.aload_n 0, 1) := by decide +kernel
theorem dX0_addLooker_1 : decode cX0_addLooker 1 = .ok (.getfield 9, 3) := by decide +kernel
theorem dX0_addLooker_4 : decode cX0_addLooker 4 = .ok (.bipush 14, 2) := by decide +kernel
theorem dX0_addLooker_6 : decode cX0_addLooker 6 = .ok (.if_icmp .ne 5, 3) := by decide +kernel
theorem dX0_addLooker_9 : decode cX0_addLooker 9 = .ok (.iconst (-1), 1) := by decide +kernel
theorem dX0_addLooker_10 : decode cX0_addLooker 10 = .ok (.ireturn, 1) := by decide +kernel
theorem dX0_addLooker_11 : decode cX0_addLooker 11 = .ok (.aload_n 0, 1) := by decide +kernel
theorem dX0_addLooker_12 : decode cX0_addLooker 12 = .ok (.getfield 15, 3) := by decide +kernel
theorem dX0_addLooker_15 : decode cX0_addLooker 15 = .ok (.aload_n 0, 1) := by decide +kernel
theorem dX0_addLooker_16 : decode cX0_addLooker 16 = .ok (.getfield 9, 3) := by decide +kernel
theorem dX0_addLooker_19 : decode cX0_addLooker 19 = .ok (.iload_n 1, 1) := by decide +kernel
theorem dX0_addLooker_20 : decode cX0_addLooker 20 = .ok (.iastore, 1) := by decide +kernel
theorem dX0_addLooker_21 : decode cX0_addLooker 21 = .ok (.aload_n 0, 1) := by decide +kernel
theorem dX0_addLooker_22 : decode cX0_addLooker 22 = .ok (.getfield 19, 3) := by decide +kernel
theorem dX0_addLooker_25 : decode cX0_addLooker 25 = .ok (.aload_n 0, 1) := by decide +kernel
theorem dX0_addLooker_26 : decode cX0_addLooker 26 = .ok (.getfield 9, 3) := by decide +kernel
theorem dX0_addLooker_29 : decode cX0_addLooker 29 = .ok (.iload_n 2, 1) := by decide +kernel
theorem dX0_addLooker_30 : decode cX0_addLooker 30 = .ok (.iastore, 1) := by decide +kernel
theorem dX0_addLooker_31 : decode cX0_addLooker 31 = .ok (.aload_n 0, 1) := by decide +kernel
theorem dX0_addLooker_32 : decode cX0_addLooker 32 = .ok (.aload_n 0, 1) := by decide +kernel
theorem dX0_addLooker_33 : decode cX0_addLooker 33 = .ok (.getfield 22, 3) := by decide +kernel
theorem dX0_addLooker_36 : decode cX0_addLooker 36 = .ok (.iconst 1, 1) := by decide +kernel
theorem dX0_addLooker_37 : decode cX0_addLooker 37 = .ok (.aload_n 0, 1) := by decide +kernel
theorem dX0_addLooker_38 : decode cX0_addLooker 38 = .ok (.getfield 9, 3) := by decide +kernel
theorem dX0_addLooker_41 : decode cX0_addLooker 41 = .ok (.ishl, 1) := by decide +kernel
theorem dX0_addLooker_42 : decode cX0_addLooker 42 = .ok (.iconst (-1), 1) := by decide +kernel
theorem dX0_addLooker_43 : decode cX0_addLooker 43 = .ok (.ixor, 1) := by decide +kernel
theorem dX0_addLooker_44 : decode cX0_addLooker 44 = .ok (.iand, 1) := by decide +kernel
theorem dX0_addLooker_45 : decode cX0_addLooker 45 = .ok (.iload_n 3, 1) := by decide +kernel
theorem dX0_addLooker_46 : decode cX0_addLooker 46 = .ok (.ifCond .eq 12, 3) := by decide +kernel
theorem dX0_addLooker_49 : decode cX0_addLooker 49 = .ok (.iconst 1, 1) := by decide +kernel
theorem dX0_addLooker_50 : decode cX0_addLooker 50 = .ok (.aload_n 0, 1) := by decide +kernel
theorem dX0_addLooker_51 : decode cX0_addLooker 51 = .ok (.getfield 9, 3) := by decide +kernel
theorem dX0_addLooker_54 : decode cX0_addLooker 54 = .ok (.ishl, 1) := by decide +kernel
theorem dX0_addLooker_55 : decode cX0_addLooker 55 = .ok (.goto 4, 3) := by decide +kernel
theorem dX0_addLooker_58 : decode cX0_addLooker 58 = .ok (.iconst 0, 1) := by decide +kernel
theorem dX0_addLooker_59 : decode cX0_addLooker 59 = .ok (.ior, 1) := by decide +kernel
theorem dX0_addLooker_60 : decode cX0_addLooker 60 = .ok (.putfield 22, 3) := by decide +kernel
theorem dX0_addLooker_63 : decode cX0_addLooker 63 = .ok (.iconst 0, 1) := by decide +kernel
theorem dX0_addLooker_64 : decode cX0_addLooker 64 = .ok (.istore 4, 2) := by decide +kernel
theorem dX0_addLooker_66 : decode cX0_addLooker 66 = .ok (.iload 4, 2) := by decide +kernel
theorem dX0_addLooker_68 : decode cX0_addLooker 68 = .ok (.iconst 3, 1) := by decide +kernel
theorem dX0_addLooker_69 : decode cX0_addLooker 69 = .ok (.if_icmp .ge 24, 3) := by decide +kernel
theorem dX0_addLooker_72 : decode cX0_addLooker 72 = .ok (.aload_n 0, 1) := by decide +kernel
theorem dX0_addLooker_73 : decode cX0_addLooker 73 = .ok (.getfield 25, 3) := by decide +kernel
theorem dX0_addLooker_76 : decode cX0_addLooker 76 = .ok (.aload_n 0, 1) := by decide +kernel
theorem dX0_addLooker_77 : decode cX0_addLooker 77 = .ok (.getfield 9, 3) := by decide +kernel
theorem dX0_addLooker_80 : decode cX0_addLooker 80 = .ok (.iconst 3, 1) := by decide +kernel
theorem dX0_addLooker_81 : decode cX0_addLooker 81 = .ok (.imul, 1) := by decide +kernel
theorem dX0_addLooker_82 : decode cX0_addLooker 82 = .ok (.iload 4, 2) := by decide +kernel
theorem dX0_addLooker_84 : decode cX0_addLooker 84 = .ok (.iadd, 1) := by decide +kernel
theorem dX0_addLooker_85 : decode cX0_addLooker 85 = .ok (.iconst (-1), 1) := by decide +kernel
theorem dX0_addLooker_86 : decode cX0_addLooker 86 = .ok (.iastore, 1) := by decide +kernel
theorem dX0_addLooker_87 : decode cX0_addLooker 87 = .ok (.iinc 4 1, 3) := by decide +kernel
theorem dX0_addLooker_90 : decode cX0_addLooker 90 = .ok (.goto (-24), 3) := by decide +kernel
theorem dX0_addLooker_93 : decode cX0_addLooker 93 = .ok (.aload_n 0, 1) := by decide +kernel
theorem dX0_addLooker_94 : decode cX0_addLooker 94 = .ok (.getfield 28, 3) := by decide +kernel
theorem dX0_addLooker_97 : decode cX0_addLooker 97 = .ok (.aload_n 0, 1) := by decide +kernel
theorem dX0_addLooker_98 : decode cX0_addLooker 98 = .ok (.getfield 9, 3) := by decide +kernel
theorem dX0_addLooker_101 : decode cX0_addLooker 101 = .ok (.iconst (-1), 1) := by decide +kernel
theorem dX0_addLooker_102 : decode cX0_addLooker 102 = .ok (.iastore, 1) := by decide +kernel
theorem dX0_addLooker_103 : decode cX0_addLooker 103 = .ok (.aload_n 0, 1) := by decide +kernel
theorem dX0_addLooker_104 : decode cX0_addLooker 104 = .ok (.getfield 31, 3) := by decide +kernel
theorem dX0_addLooker_107 : decode cX0_addLooker 107 = .ok (.aload_n 0, 1) := by decide +kernel
theorem dX0_addLooker_108 : decode cX0_addLooker 108 = .ok (.getfield 9, 3) := by decide +kernel
theorem dX0_addLooker_111 : decode cX0_addLooker 111 = .ok (.iconst (-1), 1) := by decide +kernel
theorem dX0_addLooker_112 : decode cX0_addLooker 112 = .ok (.iastore, 1) := by decide +kernel
theorem dX0_addLooker_113 : decode cX0_addLooker 113 = .ok (.aload_n 0, 1) := by decide +kernel
theorem dX0_addLooker_114 : decode cX0_addLooker 114 = .ok (.dup, 1) := by decide +kernel
theorem dX0_addLooker_115 : decode cX0_addLooker 115 = .ok (.getfield 9, 3) := by decide +kernel
theorem dX0_addLooker_118 : decode cX0_addLooker 118 = .ok (.dup_x1, 1) := by decide +kernel
theorem dX0_addLooker_119 : decode cX0_addLooker 119 = .ok (.iconst 1, 1) := by decide +kernel
theorem dX0_addLooker_120 : decode cX0_addLooker 120 = .ok (.iadd, 1) := by decide +kernel
theorem dX0_addLooker_121 : decode cX0_addLooker 121 = .ok (.putfield 9, 3) := by decide +kernel
theorem dX0_addLooker_124 : decode cX0_addLooker 124 = .ok (.ireturn, 1) := by decide +kernel
theorem dX0_addEyes_0 : decode cX0_addEyes 0 = .ok (.aload_n 0, 1) := by decide +kernel
theorem dX0_addEyes_1 : decode cX0_addEyes 1 = .ok (.getfield 34, 3) := by decide +kernel
theorem dX0_addEyes_4 : decode cX0_addEyes 4 = .ok (.bipush 60, 2) := by decide +kernel
theorem dX0_addEyes_6 : decode cX0_addEyes 6 = .ok (.if_icmp .ne 5, 3) := by decide +kernel
theorem dX0_addEyes_9 : decode cX0_addEyes 9 = .ok (.iconst (-1), 1) := by decide +kernel
theorem dX0_addEyes_10 : decode cX0_addEyes 10 = .ok (.ireturn, 1) := by decide +kernel
theorem dX0_addEyes_11 : decode cX0_addEyes 11 = .ok (.aload_n 0, 1) := by decide +kernel
theorem dX0_addEyes_12 : decode cX0_addEyes 12 = .ok (.getfield 37, 3) := by decide +kernel
theorem dX0_addEyes_15 : decode cX0_addEyes 15 = .ok (.aload_n 0, 1) := by decide +kernel
theorem dX0_addEyes_16 : decode cX0_addEyes 16 = .ok (.getfield 34, 3) := by decide +kernel
theorem dX0_addEyes_19 : decode cX0_addEyes 19 = .ok (.iload_n 1, 1) := by decide +kernel
theorem dX0_addEyes_20 : decode cX0_addEyes 20 = .ok (.iastore, 1) := by decide +kernel
theorem dX0_addEyes_21 : decode cX0_addEyes 21 = .ok (.aload_n 0, 1) := by decide +kernel
theorem dX0_addEyes_22 : decode cX0_addEyes 22 = .ok (.getfield 40, 3) := by decide +kernel
theorem dX0_addEyes_25 : decode cX0_addEyes 25 = .ok (.aload_n 0, 1) := by decide +kernel
theorem dX0_addEyes_26 : decode cX0_addEyes 26 = .ok (.getfield 34, 3) := by decide +kernel
theorem dX0_addEyes_29 : decode cX0_addEyes 29 = .ok (.iload_n 2, 1) := by decide +kernel
theorem dX0_addEyes_30 : decode cX0_addEyes 30 = .ok (.iastore, 1) := by decide +kernel
theorem dX0_addEyes_31 : decode cX0_addEyes 31 = .ok (.aload_n 0, 1) := by decide +kernel
theorem dX0_addEyes_32 : decode cX0_addEyes 32 = .ok (.getfield 43, 3) := by decide +kernel
theorem dX0_addEyes_35 : decode cX0_addEyes 35 = .ok (.aload_n 0, 1) := by decide +kernel
theorem dX0_addEyes_36 : decode cX0_addEyes 36 = .ok (.getfield 34, 3) := by decide +kernel
theorem dX0_addEyes_39 : decode cX0_addEyes 39 = .ok (.iload_n 3, 1) := by decide +kernel
theorem dX0_addEyes_40 : decode cX0_addEyes 40 = .ok (.iastore, 1) := by decide +kernel
theorem dX0_addEyes_41 : decode cX0_addEyes 41 = .ok (.aload_n 0, 1) := by decide +kernel
theorem dX0_addEyes_42 : decode cX0_addEyes 42 = .ok (.dup, 1) := by decide +kernel
theorem dX0_addEyes_43 : decode cX0_addEyes 43 = .ok (.getfield 34, 3) := by decide +kernel
theorem dX0_addEyes_46 : decode cX0_addEyes 46 = .ok (.iconst 1, 1) := by decide +kernel
theorem dX0_addEyes_47 : decode cX0_addEyes 47 = .ok (.iadd, 1) := by decide +kernel
theorem dX0_addEyes_48 : decode cX0_addEyes 48 = .ok (.putfield 34, 3) := by decide +kernel
theorem dX0_addEyes_51 : decode cX0_addEyes 51 = .ok (.aload_n 0, 1) := by decide +kernel
theorem dX0_addEyes_52 : decode cX0_addEyes 52 = .ok (.getfield 34, 3) := by decide +kernel
theorem dX0_addEyes_55 : decode cX0_addEyes 55 = .ok (.ireturn, 1) := by decide +kernel
theorem dX0_addBlink_0 : decode cX0_addBlink 0 = .ok (.aload_n 0, 1) := by decide +kernel
theorem dX0_addBlink_1 : decode cX0_addBlink 1 = .ok (.getfield 46, 3) := by decide +kernel
theorem dX0_addBlink_4 : decode cX0_addBlink 4 = .ok (.bipush 40, 2) := by decide +kernel
theorem dX0_addBlink_6 : decode cX0_addBlink 6 = .ok (.if_icmp .ne 5, 3) := by decide +kernel
theorem dX0_addBlink_9 : decode cX0_addBlink 9 = .ok (.iconst (-1), 1) := by decide +kernel
theorem dX0_addBlink_10 : decode cX0_addBlink 10 = .ok (.ireturn, 1) := by decide +kernel
theorem dX0_addBlink_11 : decode cX0_addBlink 11 = .ok (.aload_n 0, 1) := by decide +kernel
theorem dX0_addBlink_12 : decode cX0_addBlink 12 = .ok (.getfield 49, 3) := by decide +kernel
theorem dX0_addBlink_15 : decode cX0_addBlink 15 = .ok (.aload_n 0, 1) := by decide +kernel
theorem dX0_addBlink_16 : decode cX0_addBlink 16 = .ok (.getfield 46, 3) := by decide +kernel
theorem dX0_addBlink_19 : decode cX0_addBlink 19 = .ok (.iload_n 1, 1) := by decide +kernel
theorem dX0_addBlink_20 : decode cX0_addBlink 20 = .ok (.iastore, 1) := by decide +kernel
theorem dX0_addBlink_21 : decode cX0_addBlink 21 = .ok (.aload_n 0, 1) := by decide +kernel
theorem dX0_addBlink_22 : decode cX0_addBlink 22 = .ok (.getfield 52, 3) := by decide +kernel
theorem dX0_addBlink_25 : decode cX0_addBlink 25 = .ok (.aload_n 0, 1) := by decide +kernel
theorem dX0_addBlink_26 : decode cX0_addBlink 26 = .ok (.getfield 46, 3) := by decide +kernel
theorem dX0_addBlink_29 : decode cX0_addBlink 29 = .ok (.iload_n 2, 1) := by decide +kernel
theorem dX0_addBlink_30 : decode cX0_addBlink 30 = .ok (.iastore, 1) := by decide +kernel
theorem dX0_addBlink_31 : decode cX0_addBlink 31 = .ok (.aload_n 0, 1) := by decide +kernel
theorem dX0_addBlink_32 : decode cX0_addBlink 32 = .ok (.getfield 55, 3) := by decide +kernel
theorem dX0_addBlink_35 : decode cX0_addBlink 35 = .ok (.aload_n 0, 1) := by decide +kernel
theorem dX0_addBlink_36 : decode cX0_addBlink 36 = .ok (.getfield 46, 3) := by decide +kernel
theorem dX0_addBlink_39 : decode cX0_addBlink 39 = .ok (.iload_n 3, 1) := by decide +kernel
theorem dX0_addBlink_40 : decode cX0_addBlink 40 = .ok (.iastore, 1) := by decide +kernel
theorem dX0_addBlink_41 : decode cX0_addBlink 41 = .ok (.aload_n 0, 1) := by decide +kernel
theorem dX0_addBlink_42 : decode cX0_addBlink 42 = .ok (.dup, 1) := by decide +kernel
theorem dX0_addBlink_43 : decode cX0_addBlink 43 = .ok (.getfield 46, 3) := by decide +kernel
theorem dX0_addBlink_46 : decode cX0_addBlink 46 = .ok (.iconst 1, 1) := by decide +kernel
theorem dX0_addBlink_47 : decode cX0_addBlink 47 = .ok (.iadd, 1) := by decide +kernel
theorem dX0_addBlink_48 : decode cX0_addBlink 48 = .ok (.putfield 46, 3) := by decide +kernel
theorem dX0_addBlink_51 : decode cX0_addBlink 51 = .ok (.aload_n 0, 1) := by decide +kernel
theorem dX0_addBlink_52 : decode cX0_addBlink 52 = .ok (.getfield 46, 3) := by decide +kernel
theorem dX0_addBlink_55 : decode cX0_addBlink 55 = .ok (.ireturn, 1) := by decide +kernel
theorem dX0_isKnowing_0 : decode cX0_isKnowing 0 = .ok (.aload_n 0, 1) := by decide +kernel
theorem dX0_isKnowing_1 : decode cX0_isKnowing 1 = .ok (.getfield 22, 3) := by decide +kernel
theorem dX0_isKnowing_4 : decode cX0_isKnowing 4 = .ok (.iload_n 1, 1) := by decide +kernel
theorem dX0_isKnowing_5 : decode cX0_isKnowing 5 = .ok (.ishr, 1) := by decide +kernel
theorem dX0_isKnowing_6 : decode cX0_isKnowing 6 = .ok (.iconst 1, 1) := by decide +kernel
theorem dX0_isKnowing_7 : decode cX0_isKnowing 7 = .ok (.iand, 1) := by decide +kernel
theorem dX0_isKnowing_8 : decode cX0_isKnowing 8 = .ok (.ifCond .eq 7, 3) := by decide +kernel
theorem dX0_isKnowing_11 : decode cX0_isKnowing 11 = .ok (.iconst 1, 1) := by decide +kernel
theorem dX0_isKnowing_12 : decode cX0_isKnowing 12 = .ok (.goto 4, 3) := by decide +kernel
theorem dX0_isKnowing_15 : decode cX0_isKnowing 15 = .ok (.iconst 0, 1) := by decide +kernel
theorem dX0_isKnowing_16 : decode cX0_isKnowing 16 = .ok (.ireturn, 1) := by decide +kernel
theorem dX0_reply_0 : decode cX0_reply 0 = .ok (.aload_n 0, 1) := by decide +kernel
theorem dX0_reply_1 : decode cX0_reply 1 = .ok (.getfield 25, 3) := by decide +kernel
theorem dX0_reply_4 : decode cX0_reply 4 = .ok (.iload_n 1, 1) := by decide +kernel
theorem dX0_reply_5 : decode cX0_reply 5 = .ok (.iconst 3, 1) := by decide +kernel
theorem dX0_reply_6 : decode cX0_reply 6 = .ok (.imul, 1) := by decide +kernel
theorem dX0_reply_7 : decode cX0_reply 7 = .ok (.iload_n 2, 1) := by decide +kernel
theorem dX0_reply_8 : decode cX0_reply 8 = .ok (.iadd, 1) := by decide +kernel
theorem dX0_reply_9 : decode cX0_reply 9 = .ok (.iaload, 1) := by decide +kernel
theorem dX0_reply_10 : decode cX0_reply 10 = .ok (.ireturn, 1) := by decide +kernel
theorem dX0_inGroup_0 : decode cX0_inGroup 0 = .ok (.aload_n 0, 1) := by decide +kernel
theorem dX0_inGroup_1 : decode cX0_inGroup 1 = .ok (.getfield 15, 3) := by decide +kernel
theorem dX0_inGroup_4 : decode cX0_inGroup 4 = .ok (.iload_n 1, 1) := by decide +kernel
theorem dX0_inGroup_5 : decode cX0_inGroup 5 = .ok (.iaload, 1) := by decide +kernel
theorem dX0_inGroup_6 : decode cX0_inGroup 6 = .ok (.iload_n 2, 1) := by decide +kernel
theorem dX0_inGroup_7 : decode cX0_inGroup 7 = .ok (.if_icmp .ne 36, 3) := by decide +kernel
theorem dX0_inGroup_10 : decode cX0_inGroup 10 = .ok (.aload_n 0, 1) := by decide +kernel
theorem dX0_inGroup_11 : decode cX0_inGroup 11 = .ok (.getfield 19, 3) := by decide +kernel
theorem dX0_inGroup_14 : decode cX0_inGroup 14 = .ok (.iload_n 1, 1) := by decide +kernel
theorem dX0_inGroup_15 : decode cX0_inGroup 15 = .ok (.iaload, 1) := by decide +kernel
theorem dX0_inGroup_16 : decode cX0_inGroup 16 = .ok (.iload_n 3, 1) := by decide +kernel
theorem dX0_inGroup_17 : decode cX0_inGroup 17 = .ok (.if_icmp .ne 26, 3) := by decide +kernel
theorem dX0_inGroup_20 : decode cX0_inGroup 20 = .ok (.aload_n 0, 1) := by decide +kernel
theorem dX0_inGroup_21 : decode cX0_inGroup 21 = .ok (.iload_n 1, 1) := by decide +kernel
theorem dX0_inGroup_22 : decode cX0_inGroup 22 = .ok (.invokevirtual 64, 3) := by decide +kernel
theorem dX0_inGroup_25 : decode cX0_inGroup 25 = .ok (.ifCond .ne 18, 3) := by decide +kernel
theorem dX0_inGroup_28 : decode cX0_inGroup 28 = .ok (.aload_n 0, 1) := by decide +kernel
theorem dX0_inGroup_29 : decode cX0_inGroup 29 = .ok (.iload_n 1, 1) := by decide +kernel
theorem dX0_inGroup_30 : decode cX0_inGroup 30 = .ok (.iload 4, 2) := by decide +kernel
theorem dX0_inGroup_32 : decode cX0_inGroup 32 = .ok (.invokevirtual 68, 3) := by decide +kernel
theorem dX0_inGroup_35 : decode cX0_inGroup 35 = .ok (.iconst (-1), 1) := by decide +kernel
theorem dX0_inGroup_36 : decode cX0_inGroup 36 = .ok (.if_icmp .eq 7, 3) := by decide +kernel
theorem dX0_inGroup_39 : decode cX0_inGroup 39 = .ok (.iconst 1, 1) := by decide +kernel
theorem dX0_inGroup_40 : decode cX0_inGroup 40 = .ok (.goto 4, 3) := by decide +kernel
theorem dX0_inGroup_43 : decode cX0_inGroup 43 = .ok (.iconst 0, 1) := by decide +kernel
theorem dX0_inGroup_44 : decode cX0_inGroup 44 = .ok (.ireturn, 1) := by decide +kernel
theorem dX0_repliedAll_0 : decode cX0_repliedAll 0 = .ok (.aload_n 0, 1) := by decide +kernel
theorem dX0_repliedAll_1 : decode cX0_repliedAll 1 = .ok (.iload_n 1, 1) := by decide +kernel
theorem dX0_repliedAll_2 : decode cX0_repliedAll 2 = .ok (.iload_n 2, 1) := by decide +kernel
theorem dX0_repliedAll_3 : decode cX0_repliedAll 3 = .ok (.iload_n 3, 1) := by decide +kernel
theorem dX0_repliedAll_4 : decode cX0_repliedAll 4 = .ok (.iconst 0, 1) := by decide +kernel
theorem dX0_repliedAll_5 : decode cX0_repliedAll 5 = .ok (.invokevirtual 72, 3) := by decide +kernel
theorem dX0_repliedAll_8 : decode cX0_repliedAll 8 = .ok (.ifCond .eq 29, 3) := by decide +kernel
theorem dX0_repliedAll_11 : decode cX0_repliedAll 11 = .ok (.aload_n 0, 1) := by decide +kernel
theorem dX0_repliedAll_12 : decode cX0_repliedAll 12 = .ok (.iload_n 1, 1) := by decide +kernel
theorem dX0_repliedAll_13 : decode cX0_repliedAll 13 = .ok (.iload_n 2, 1) := by decide +kernel
theorem dX0_repliedAll_14 : decode cX0_repliedAll 14 = .ok (.iload_n 3, 1) := by decide +kernel
theorem dX0_repliedAll_15 : decode cX0_repliedAll 15 = .ok (.iconst 1, 1) := by decide +kernel
theorem dX0_repliedAll_16 : decode cX0_repliedAll 16 = .ok (.invokevirtual 72, 3) := by decide +kernel
theorem dX0_repliedAll_19 : decode cX0_repliedAll 19 = .ok (.ifCond .eq 18, 3) := by decide +kernel
theorem dX0_repliedAll_22 : decode cX0_repliedAll 22 = .ok (.aload_n 0, 1) := by decide +kernel
theorem dX0_repliedAll_23 : decode cX0_repliedAll 23 = .ok (.iload_n 1, 1) := by decide +kernel
theorem dX0_repliedAll_24 : decode cX0_repliedAll 24 = .ok (.iload_n 2, 1) := by decide +kernel
theorem dX0_repliedAll_25 : decode cX0_repliedAll 25 = .ok (.iload_n 3, 1) := by decide +kernel
theorem dX0_repliedAll_26 : decode cX0_repliedAll 26 = .ok (.iconst 2, 1) := by decide +kernel
theorem dX0_repliedAll_27 : decode cX0_repliedAll 27 = .ok (.invokevirtual 72, 3) := by decide +kernel
theorem dX0_repliedAll_30 : decode cX0_repliedAll 30 = .ok (.ifCond .eq 7, 3) := by decide +kernel
theorem dX0_repliedAll_33 : decode cX0_repliedAll 33 = .ok (.iconst 1, 1) := by decide +kernel
theorem dX0_repliedAll_34 : decode cX0_repliedAll 34 = .ok (.goto 4, 3) := by decide +kernel
theorem dX0_repliedAll_37 : decode cX0_repliedAll 37 = .ok (.iconst 0, 1) := by decide +kernel
theorem dX0_repliedAll_38 : decode cX0_repliedAll 38 = .ok (.ireturn, 1) := by decide +kernel
theorem dX0_isLostTo_0 : decode cX0_isLostTo 0 = .ok (.aload_n 0, 1) := by decide +kernel
theorem dX0_isLostTo_1 : decode cX0_isLostTo 1 = .ok (.iload_n 1, 1) := by decide +kernel
theorem dX0_isLostTo_2 : decode cX0_isLostTo 2 = .ok (.iconst 0, 1) := by decide +kernel
theorem dX0_isLostTo_3 : decode cX0_isLostTo 3 = .ok (.invokevirtual 68, 3) := by decide +kernel
theorem dX0_isLostTo_6 : decode cX0_isLostTo 6 = .ok (.iconst 1, 1) := by decide +kernel
theorem dX0_isLostTo_7 : decode cX0_isLostTo 7 = .ok (.if_icmp .ne 5, 3) := by decide +kernel
theorem dX0_isLostTo_10 : decode cX0_isLostTo 10 = .ok (.iconst 0, 1) := by decide +kernel
theorem dX0_isLostTo_11 : decode cX0_isLostTo 11 = .ok (.ireturn, 1) := by decide +kernel
theorem dX0_isLostTo_12 : decode cX0_isLostTo 12 = .ok (.iload_n 2, 1) := by decide +kernel
theorem dX0_isLostTo_13 : decode cX0_isLostTo 13 = .ok (.ifCond .eq 21, 3) := by decide +kernel
theorem dX0_isLostTo_16 : decode cX0_isLostTo 16 = .ok (.aload_n 0, 1) := by decide +kernel
theorem dX0_isLostTo_17 : decode cX0_isLostTo 17 = .ok (.iload_n 1, 1) := by decide +kernel
theorem dX0_isLostTo_18 : decode cX0_isLostTo 18 = .ok (.iconst 2, 1) := by decide +kernel
theorem dX0_isLostTo_19 : decode cX0_isLostTo 19 = .ok (.invokevirtual 68, 3) := by decide +kernel
theorem dX0_isLostTo_22 : decode cX0_isLostTo 22 = .ok (.iconst 1, 1) := by decide +kernel
theorem dX0_isLostTo_23 : decode cX0_isLostTo 23 = .ok (.if_icmp .ne 7, 3) := by decide +kernel
theorem dX0_isLostTo_26 : decode cX0_isLostTo 26 = .ok (.iconst 1, 1) := by decide +kernel
theorem dX0_isLostTo_27 : decode cX0_isLostTo 27 = .ok (.goto 30, 3) := by decide +kernel
theorem dX0_isLostTo_30 : decode cX0_isLostTo 30 = .ok (.iconst 0, 1) := by decide +kernel
theorem dX0_isLostTo_31 : decode cX0_isLostTo 31 = .ok (.goto 26, 3) := by decide +kernel
theorem dX0_isLostTo_34 : decode cX0_isLostTo 34 = .ok (.aload_n 0, 1) := by decide +kernel
theorem dX0_isLostTo_35 : decode cX0_isLostTo 35 = .ok (.iload_n 1, 1) := by decide +kernel
theorem dX0_isLostTo_36 : decode cX0_isLostTo 36 = .ok (.iconst 1, 1) := by decide +kernel
theorem dX0_isLostTo_37 : decode cX0_isLostTo 37 = .ok (.invokevirtual 68, 3) := by decide +kernel
theorem dX0_isLostTo_40 : decode cX0_isLostTo 40 = .ok (.ifCond .ne 16, 3) := by decide +kernel
theorem dX0_isLostTo_43 : decode cX0_isLostTo 43 = .ok (.aload_n 0, 1) := by decide +kernel
theorem dX0_isLostTo_44 : decode cX0_isLostTo 44 = .ok (.iload_n 1, 1) := by decide +kernel
theorem dX0_isLostTo_45 : decode cX0_isLostTo 45 = .ok (.iconst 2, 1) := by decide +kernel
theorem dX0_isLostTo_46 : decode cX0_isLostTo 46 = .ok (.invokevirtual 68, 3) := by decide +kernel
theorem dX0_isLostTo_49 : decode cX0_isLostTo 49 = .ok (.ifCond .ne 7, 3) := by decide +kernel
theorem dX0_isLostTo_52 : decode cX0_isLostTo 52 = .ok (.iconst 1, 1) := by decide +kernel
theorem dX0_isLostTo_53 : decode cX0_isLostTo 53 = .ok (.goto 4, 3) := by decide +kernel
theorem dX0_isLostTo_56 : decode cX0_isLostTo 56 = .ok (.iconst 0, 1) := by decide +kernel
theorem dX0_isLostTo_57 : decode cX0_isLostTo 57 = .ok (.ireturn, 1) := by decide +kernel
theorem dX0_askedOf_0 : decode cX0_askedOf 0 = .ok (.iconst 0, 1) := by decide +kernel
theorem dX0_askedOf_1 : decode cX0_askedOf 1 = .ok (.istore 4, 2) := by decide +kernel
theorem dX0_askedOf_3 : decode cX0_askedOf 3 = .ok (.iconst 0, 1) := by decide +kernel
theorem dX0_askedOf_4 : decode cX0_askedOf 4 = .ok (.istore 5, 2) := by decide +kernel
theorem dX0_askedOf_6 : decode cX0_askedOf 6 = .ok (.iload 5, 2) := by decide +kernel
theorem dX0_askedOf_8 : decode cX0_askedOf 8 = .ok (.aload_n 0, 1) := by decide +kernel
theorem dX0_askedOf_9 : decode cX0_askedOf 9 = .ok (.getfield 9, 3) := by decide +kernel
theorem dX0_askedOf_12 : decode cX0_askedOf 12 = .ok (.if_icmp .ge 31, 3) := by decide +kernel
theorem dX0_askedOf_15 : decode cX0_askedOf 15 = .ok (.iload 4, 2) := by decide +kernel
theorem dX0_askedOf_17 : decode cX0_askedOf 17 = .ok (.aload_n 0, 1) := by decide +kernel
theorem dX0_askedOf_18 : decode cX0_askedOf 18 = .ok (.iload 5, 2) := by decide +kernel
theorem dX0_askedOf_20 : decode cX0_askedOf 20 = .ok (.iload_n 1, 1) := by decide +kernel
theorem dX0_askedOf_21 : decode cX0_askedOf 21 = .ok (.iload_n 2, 1) := by decide +kernel
theorem dX0_askedOf_22 : decode cX0_askedOf 22 = .ok (.iload_n 3, 1) := by decide +kernel
theorem dX0_askedOf_23 : decode cX0_askedOf 23 = .ok (.invokevirtual 72, 3) := by decide +kernel
theorem dX0_askedOf_26 : decode cX0_askedOf 26 = .ok (.ifCond .eq 7, 3) := by decide +kernel
theorem dX0_askedOf_29 : decode cX0_askedOf 29 = .ok (.iconst 1, 1) := by decide +kernel
theorem dX0_askedOf_30 : decode cX0_askedOf 30 = .ok (.goto 4, 3) := by decide +kernel
theorem dX0_askedOf_33 : decode cX0_askedOf 33 = .ok (.iconst 0, 1) := by decide +kernel
theorem dX0_askedOf_34 : decode cX0_askedOf 34 = .ok (.iadd, 1) := by decide +kernel
theorem dX0_askedOf_35 : decode cX0_askedOf 35 = .ok (.istore 4, 2) := by decide +kernel
theorem dX0_askedOf_37 : decode cX0_askedOf 37 = .ok (.iinc 5 1, 3) := by decide +kernel
theorem dX0_askedOf_40 : decode cX0_askedOf 40 = .ok (.goto (-34), 3) := by decide +kernel
theorem dX0_askedOf_43 : decode cX0_askedOf 43 = .ok (.iload 4, 2) := by decide +kernel
theorem dX0_askedOf_45 : decode cX0_askedOf 45 = .ok (.ireturn, 1) := by decide +kernel
theorem dX0_yesOf_0 : decode cX0_yesOf 0 = .ok (.iconst 0, 1) := by decide +kernel
theorem dX0_yesOf_1 : decode cX0_yesOf 1 = .ok (.istore 4, 2) := by decide +kernel
theorem dX0_yesOf_3 : decode cX0_yesOf 3 = .ok (.iconst 0, 1) := by decide +kernel
theorem dX0_yesOf_4 : decode cX0_yesOf 4 = .ok (.istore 5, 2) := by decide +kernel
theorem dX0_yesOf_6 : decode cX0_yesOf 6 = .ok (.iload 5, 2) := by decide +kernel
theorem dX0_yesOf_8 : decode cX0_yesOf 8 = .ok (.aload_n 0, 1) := by decide +kernel
theorem dX0_yesOf_9 : decode cX0_yesOf 9 = .ok (.getfield 9, 3) := by decide +kernel
theorem dX0_yesOf_12 : decode cX0_yesOf 12 = .ok (.if_icmp .ge 37, 3) := by decide +kernel
theorem dX0_yesOf_15 : decode cX0_yesOf 15 = .ok (.iload 4, 2) := by decide +kernel
theorem dX0_yesOf_17 : decode cX0_yesOf 17 = .ok (.aload_n 0, 1) := by decide +kernel
theorem dX0_yesOf_18 : decode cX0_yesOf 18 = .ok (.iload 5, 2) := by decide +kernel
theorem dX0_yesOf_20 : decode cX0_yesOf 20 = .ok (.iload_n 1, 1) := by decide +kernel
theorem dX0_yesOf_21 : decode cX0_yesOf 21 = .ok (.iload_n 2, 1) := by decide +kernel
theorem dX0_yesOf_22 : decode cX0_yesOf 22 = .ok (.iload_n 3, 1) := by decide +kernel
theorem dX0_yesOf_23 : decode cX0_yesOf 23 = .ok (.invokevirtual 72, 3) := by decide +kernel
theorem dX0_yesOf_26 : decode cX0_yesOf 26 = .ok (.ifCond .eq 13, 3) := by decide +kernel
theorem dX0_yesOf_29 : decode cX0_yesOf 29 = .ok (.aload_n 0, 1) := by decide +kernel
theorem dX0_yesOf_30 : decode cX0_yesOf 30 = .ok (.iload 5, 2) := by decide +kernel
theorem dX0_yesOf_32 : decode cX0_yesOf 32 = .ok (.iload_n 3, 1) := by decide +kernel
theorem dX0_yesOf_33 : decode cX0_yesOf 33 = .ok (.invokevirtual 68, 3) := by decide +kernel
theorem dX0_yesOf_36 : decode cX0_yesOf 36 = .ok (.goto 4, 3) := by decide +kernel
theorem dX0_yesOf_39 : decode cX0_yesOf 39 = .ok (.iconst 0, 1) := by decide +kernel
theorem dX0_yesOf_40 : decode cX0_yesOf 40 = .ok (.iadd, 1) := by decide +kernel
theorem dX0_yesOf_41 : decode cX0_yesOf 41 = .ok (.istore 4, 2) := by decide +kernel
theorem dX0_yesOf_43 : decode cX0_yesOf 43 = .ok (.iinc 5 1, 3) := by decide +kernel
theorem dX0_yesOf_46 : decode cX0_yesOf 46 = .ok (.goto (-40), 3) := by decide +kernel
theorem dX0_yesOf_49 : decode cX0_yesOf 49 = .ok (.iload 4, 2) := by decide +kernel
theorem dX0_yesOf_51 : decode cX0_yesOf 51 = .ok (.ireturn, 1) := by decide +kernel
theorem dX0_hasTallied_0 : decode cX0_hasTallied 0 = .ok (.aload_n 0, 1) := by decide +kernel
theorem dX0_hasTallied_1 : decode cX0_hasTallied 1 = .ok (.getfield 15, 3) := by decide +kernel
theorem dX0_hasTallied_4 : decode cX0_hasTallied 4 = .ok (.iload_n 1, 1) := by decide +kernel
theorem dX0_hasTallied_5 : decode cX0_hasTallied 5 = .ok (.iaload, 1) := by decide +kernel
theorem dX0_hasTallied_6 : decode cX0_hasTallied 6 = .ok (.iload_n 2, 1) := by decide +kernel
theorem dX0_hasTallied_7 : decode cX0_hasTallied 7 = .ok (.if_icmp .ne 27, 3) := by decide +kernel
theorem dX0_hasTallied_10 : decode cX0_hasTallied 10 = .ok (.aload_n 0, 1) := by decide +kernel
theorem dX0_hasTallied_11 : decode cX0_hasTallied 11 = .ok (.getfield 19, 3) := by decide +kernel
theorem dX0_hasTallied_14 : decode cX0_hasTallied 14 = .ok (.iload_n 1, 1) := by decide +kernel
theorem dX0_hasTallied_15 : decode cX0_hasTallied 15 = .ok (.iaload, 1) := by decide +kernel
theorem dX0_hasTallied_16 : decode cX0_hasTallied 16 = .ok (.iload_n 3, 1) := by decide +kernel
theorem dX0_hasTallied_17 : decode cX0_hasTallied 17 = .ok (.if_icmp .ne 17, 3) := by decide +kernel
theorem dX0_hasTallied_20 : decode cX0_hasTallied 20 = .ok (.aload_n 0, 1) := by decide +kernel
theorem dX0_hasTallied_21 : decode cX0_hasTallied 21 = .ok (.getfield 28, 3) := by decide +kernel
theorem dX0_hasTallied_24 : decode cX0_hasTallied 24 = .ok (.iload_n 1, 1) := by decide +kernel
theorem dX0_hasTallied_25 : decode cX0_hasTallied 25 = .ok (.iaload, 1) := by decide +kernel
theorem dX0_hasTallied_26 : decode cX0_hasTallied 26 = .ok (.iconst (-1), 1) := by decide +kernel
theorem dX0_hasTallied_27 : decode cX0_hasTallied 27 = .ok (.if_icmp .eq 7, 3) := by decide +kernel
theorem dX0_hasTallied_30 : decode cX0_hasTallied 30 = .ok (.iconst 1, 1) := by decide +kernel
theorem dX0_hasTallied_31 : decode cX0_hasTallied 31 = .ok (.goto 4, 3) := by decide +kernel
theorem dX0_hasTallied_34 : decode cX0_hasTallied 34 = .ok (.iconst 0, 1) := by decide +kernel
theorem dX0_hasTallied_35 : decode cX0_hasTallied 35 = .ok (.ireturn, 1) := by decide +kernel
theorem dX0_talliedOf_0 : decode cX0_talliedOf 0 = .ok (.iconst 0, 1) := by decide +kernel
theorem dX0_talliedOf_1 : decode cX0_talliedOf 1 = .ok (.istore_n 3, 1) := by decide +kernel
theorem dX0_talliedOf_2 : decode cX0_talliedOf 2 = .ok (.iconst 0, 1) := by decide +kernel
theorem dX0_talliedOf_3 : decode cX0_talliedOf 3 = .ok (.istore 4, 2) := by decide +kernel
theorem dX0_talliedOf_5 : decode cX0_talliedOf 5 = .ok (.iload 4, 2) := by decide +kernel
theorem dX0_talliedOf_7 : decode cX0_talliedOf 7 = .ok (.aload_n 0, 1) := by decide +kernel
theorem dX0_talliedOf_8 : decode cX0_talliedOf 8 = .ok (.getfield 9, 3) := by decide +kernel
theorem dX0_talliedOf_11 : decode cX0_talliedOf 11 = .ok (.if_icmp .ge 28, 3) := by decide +kernel
theorem dX0_talliedOf_14 : decode cX0_talliedOf 14 = .ok (.iload_n 3, 1) := by decide +kernel
theorem dX0_talliedOf_15 : decode cX0_talliedOf 15 = .ok (.aload_n 0, 1) := by decide +kernel
theorem dX0_talliedOf_16 : decode cX0_talliedOf 16 = .ok (.iload 4, 2) := by decide +kernel
theorem dX0_talliedOf_18 : decode cX0_talliedOf 18 = .ok (.iload_n 1, 1) := by decide +kernel
theorem dX0_talliedOf_19 : decode cX0_talliedOf 19 = .ok (.iload_n 2, 1) := by decide +kernel
theorem dX0_talliedOf_20 : decode cX0_talliedOf 20 = .ok (.invokevirtual 76, 3) := by decide +kernel
theorem dX0_talliedOf_23 : decode cX0_talliedOf 23 = .ok (.ifCond .eq 7, 3) := by decide +kernel
theorem dX0_talliedOf_26 : decode cX0_talliedOf 26 = .ok (.iconst 1, 1) := by decide +kernel
theorem dX0_talliedOf_27 : decode cX0_talliedOf 27 = .ok (.goto 4, 3) := by decide +kernel
theorem dX0_talliedOf_30 : decode cX0_talliedOf 30 = .ok (.iconst 0, 1) := by decide +kernel
theorem dX0_talliedOf_31 : decode cX0_talliedOf 31 = .ok (.iadd, 1) := by decide +kernel
theorem dX0_talliedOf_32 : decode cX0_talliedOf 32 = .ok (.istore_n 3, 1) := by decide +kernel
theorem dX0_talliedOf_33 : decode cX0_talliedOf 33 = .ok (.iinc 4 1, 3) := by decide +kernel
theorem dX0_talliedOf_36 : decode cX0_talliedOf 36 = .ok (.goto (-31), 3) := by decide +kernel
theorem dX0_talliedOf_39 : decode cX0_talliedOf 39 = .ok (.iload_n 3, 1) := by decide +kernel
theorem dX0_talliedOf_40 : decode cX0_talliedOf 40 = .ok (.ireturn, 1) := by decide +kernel
theorem dX0_copyFrom_0 : decode cX0_copyFrom 0 = .ok (.aload_n 0, 1) := by decide +kernel
theorem dX0_copyFrom_1 : decode cX0_copyFrom 1 = .ok (.aload_n 1, 1) := by decide +kernel
theorem dX0_copyFrom_2 : decode cX0_copyFrom 2 = .ok (.getfield 9, 3) := by decide +kernel
theorem dX0_copyFrom_5 : decode cX0_copyFrom 5 = .ok (.putfield 9, 3) := by decide +kernel
theorem dX0_copyFrom_8 : decode cX0_copyFrom 8 = .ok (.aload_n 1, 1) := by decide +kernel
theorem dX0_copyFrom_9 : decode cX0_copyFrom 9 = .ok (.getfield 15, 3) := by decide +kernel
theorem dX0_copyFrom_12 : decode cX0_copyFrom 12 = .ok (.iconst 0, 1) := by decide +kernel
theorem dX0_copyFrom_13 : decode cX0_copyFrom 13 = .ok (.aload_n 0, 1) := by decide +kernel
theorem dX0_copyFrom_14 : decode cX0_copyFrom 14 = .ok (.getfield 15, 3) := by decide +kernel
theorem dX0_copyFrom_17 : decode cX0_copyFrom 17 = .ok (.iconst 0, 1) := by decide +kernel
theorem dX0_copyFrom_18 : decode cX0_copyFrom 18 = .ok (.bipush 14, 2) := by decide +kernel
theorem dX0_copyFrom_20 : decode cX0_copyFrom 20 = .ok (.invokestatic 80, 3) := by decide +kernel
theorem dX0_copyFrom_23 : decode cX0_copyFrom 23 = .ok (.aload_n 1, 1) := by decide +kernel
theorem dX0_copyFrom_24 : decode cX0_copyFrom 24 = .ok (.getfield 19, 3) := by decide +kernel
theorem dX0_copyFrom_27 : decode cX0_copyFrom 27 = .ok (.iconst 0, 1) := by decide +kernel
theorem dX0_copyFrom_28 : decode cX0_copyFrom 28 = .ok (.aload_n 0, 1) := by decide +kernel
theorem dX0_copyFrom_29 : decode cX0_copyFrom 29 = .ok (.getfield 19, 3) := by decide +kernel
theorem dX0_copyFrom_32 : decode cX0_copyFrom 32 = .ok (.iconst 0, 1) := by decide +kernel
theorem dX0_copyFrom_33 : decode cX0_copyFrom 33 = .ok (.bipush 14, 2) := by decide +kernel
theorem dX0_copyFrom_35 : decode cX0_copyFrom 35 = .ok (.invokestatic 80, 3) := by decide +kernel
theorem dX0_copyFrom_38 : decode cX0_copyFrom 38 = .ok (.aload_n 0, 1) := by decide +kernel
theorem dX0_copyFrom_39 : decode cX0_copyFrom 39 = .ok (.aload_n 1, 1) := by decide +kernel
theorem dX0_copyFrom_40 : decode cX0_copyFrom 40 = .ok (.getfield 22, 3) := by decide +kernel
theorem dX0_copyFrom_43 : decode cX0_copyFrom 43 = .ok (.putfield 22, 3) := by decide +kernel
theorem dX0_copyFrom_46 : decode cX0_copyFrom 46 = .ok (.aload_n 1, 1) := by decide +kernel
theorem dX0_copyFrom_47 : decode cX0_copyFrom 47 = .ok (.getfield 25, 3) := by decide +kernel
theorem dX0_copyFrom_50 : decode cX0_copyFrom 50 = .ok (.iconst 0, 1) := by decide +kernel
theorem dX0_copyFrom_51 : decode cX0_copyFrom 51 = .ok (.aload_n 0, 1) := by decide +kernel
theorem dX0_copyFrom_52 : decode cX0_copyFrom 52 = .ok (.getfield 25, 3) := by decide +kernel
theorem dX0_copyFrom_55 : decode cX0_copyFrom 55 = .ok (.iconst 0, 1) := by decide +kernel
theorem dX0_copyFrom_56 : decode cX0_copyFrom 56 = .ok (.bipush 42, 2) := by decide +kernel
theorem dX0_copyFrom_58 : decode cX0_copyFrom 58 = .ok (.invokestatic 80, 3) := by decide +kernel
theorem dX0_copyFrom_61 : decode cX0_copyFrom 61 = .ok (.aload_n 1, 1) := by decide +kernel
theorem dX0_copyFrom_62 : decode cX0_copyFrom 62 = .ok (.getfield 28, 3) := by decide +kernel
theorem dX0_copyFrom_65 : decode cX0_copyFrom 65 = .ok (.iconst 0, 1) := by decide +kernel
theorem dX0_copyFrom_66 : decode cX0_copyFrom 66 = .ok (.aload_n 0, 1) := by decide +kernel
theorem dX0_copyFrom_67 : decode cX0_copyFrom 67 = .ok (.getfield 28, 3) := by decide +kernel
theorem dX0_copyFrom_70 : decode cX0_copyFrom 70 = .ok (.iconst 0, 1) := by decide +kernel
theorem dX0_copyFrom_71 : decode cX0_copyFrom 71 = .ok (.bipush 14, 2) := by decide +kernel
theorem dX0_copyFrom_73 : decode cX0_copyFrom 73 = .ok (.invokestatic 80, 3) := by decide +kernel
theorem dX0_copyFrom_76 : decode cX0_copyFrom 76 = .ok (.aload_n 1, 1) := by decide +kernel
theorem dX0_copyFrom_77 : decode cX0_copyFrom 77 = .ok (.getfield 31, 3) := by decide +kernel
theorem dX0_copyFrom_80 : decode cX0_copyFrom 80 = .ok (.iconst 0, 1) := by decide +kernel
theorem dX0_copyFrom_81 : decode cX0_copyFrom 81 = .ok (.aload_n 0, 1) := by decide +kernel
theorem dX0_copyFrom_82 : decode cX0_copyFrom 82 = .ok (.getfield 31, 3) := by decide +kernel
theorem dX0_copyFrom_85 : decode cX0_copyFrom 85 = .ok (.iconst 0, 1) := by decide +kernel
theorem dX0_copyFrom_86 : decode cX0_copyFrom 86 = .ok (.bipush 14, 2) := by decide +kernel
theorem dX0_copyFrom_88 : decode cX0_copyFrom 88 = .ok (.invokestatic 80, 3) := by decide +kernel
theorem dX0_copyFrom_91 : decode cX0_copyFrom 91 = .ok (.aload_n 0, 1) := by decide +kernel
theorem dX0_copyFrom_92 : decode cX0_copyFrom 92 = .ok (.aload_n 1, 1) := by decide +kernel
theorem dX0_copyFrom_93 : decode cX0_copyFrom 93 = .ok (.getfield 34, 3) := by decide +kernel
theorem dX0_copyFrom_96 : decode cX0_copyFrom 96 = .ok (.putfield 34, 3) := by decide +kernel
theorem dX0_copyFrom_99 : decode cX0_copyFrom 99 = .ok (.aload_n 1, 1) := by decide +kernel
theorem dX0_copyFrom_100 : decode cX0_copyFrom 100 = .ok (.getfield 37, 3) := by decide +kernel
theorem dX0_copyFrom_103 : decode cX0_copyFrom 103 = .ok (.iconst 0, 1) := by decide +kernel
theorem dX0_copyFrom_104 : decode cX0_copyFrom 104 = .ok (.aload_n 0, 1) := by decide +kernel
theorem dX0_copyFrom_105 : decode cX0_copyFrom 105 = .ok (.getfield 37, 3) := by decide +kernel
theorem dX0_copyFrom_108 : decode cX0_copyFrom 108 = .ok (.iconst 0, 1) := by decide +kernel
theorem dX0_copyFrom_109 : decode cX0_copyFrom 109 = .ok (.bipush 60, 2) := by decide +kernel
theorem dX0_copyFrom_111 : decode cX0_copyFrom 111 = .ok (.invokestatic 80, 3) := by decide +kernel
theorem dX0_copyFrom_114 : decode cX0_copyFrom 114 = .ok (.aload_n 1, 1) := by decide +kernel
theorem dX0_copyFrom_115 : decode cX0_copyFrom 115 = .ok (.getfield 40, 3) := by decide +kernel
theorem dX0_copyFrom_118 : decode cX0_copyFrom 118 = .ok (.iconst 0, 1) := by decide +kernel
theorem dX0_copyFrom_119 : decode cX0_copyFrom 119 = .ok (.aload_n 0, 1) := by decide +kernel
theorem dX0_copyFrom_120 : decode cX0_copyFrom 120 = .ok (.getfield 40, 3) := by decide +kernel
theorem dX0_copyFrom_123 : decode cX0_copyFrom 123 = .ok (.iconst 0, 1) := by decide +kernel
theorem dX0_copyFrom_124 : decode cX0_copyFrom 124 = .ok (.bipush 60, 2) := by decide +kernel
theorem dX0_copyFrom_126 : decode cX0_copyFrom 126 = .ok (.invokestatic 80, 3) := by decide +kernel
theorem dX0_copyFrom_129 : decode cX0_copyFrom 129 = .ok (.aload_n 1, 1) := by decide +kernel
theorem dX0_copyFrom_130 : decode cX0_copyFrom 130 = .ok (.getfield 43, 3) := by decide +kernel
theorem dX0_copyFrom_133 : decode cX0_copyFrom 133 = .ok (.iconst 0, 1) := by decide +kernel
theorem dX0_copyFrom_134 : decode cX0_copyFrom 134 = .ok (.aload_n 0, 1) := by decide +kernel
theorem dX0_copyFrom_135 : decode cX0_copyFrom 135 = .ok (.getfield 43, 3) := by decide +kernel
theorem dX0_copyFrom_138 : decode cX0_copyFrom 138 = .ok (.iconst 0, 1) := by decide +kernel
theorem dX0_copyFrom_139 : decode cX0_copyFrom 139 = .ok (.bipush 60, 2) := by decide +kernel
theorem dX0_copyFrom_141 : decode cX0_copyFrom 141 = .ok (.invokestatic 80, 3) := by decide +kernel
theorem dX0_copyFrom_144 : decode cX0_copyFrom 144 = .ok (.aload_n 0, 1) := by decide +kernel
theorem dX0_copyFrom_145 : decode cX0_copyFrom 145 = .ok (.aload_n 1, 1) := by decide +kernel
theorem dX0_copyFrom_146 : decode cX0_copyFrom 146 = .ok (.getfield 46, 3) := by decide +kernel
theorem dX0_copyFrom_149 : decode cX0_copyFrom 149 = .ok (.putfield 46, 3) := by decide +kernel
theorem dX0_copyFrom_152 : decode cX0_copyFrom 152 = .ok (.aload_n 1, 1) := by decide +kernel
theorem dX0_copyFrom_153 : decode cX0_copyFrom 153 = .ok (.getfield 49, 3) := by decide +kernel
theorem dX0_copyFrom_156 : decode cX0_copyFrom 156 = .ok (.iconst 0, 1) := by decide +kernel
theorem dX0_copyFrom_157 : decode cX0_copyFrom 157 = .ok (.aload_n 0, 1) := by decide +kernel
theorem dX0_copyFrom_158 : decode cX0_copyFrom 158 = .ok (.getfield 49, 3) := by decide +kernel
theorem dX0_copyFrom_161 : decode cX0_copyFrom 161 = .ok (.iconst 0, 1) := by decide +kernel
theorem dX0_copyFrom_162 : decode cX0_copyFrom 162 = .ok (.bipush 40, 2) := by decide +kernel
theorem dX0_copyFrom_164 : decode cX0_copyFrom 164 = .ok (.invokestatic 80, 3) := by decide +kernel
theorem dX0_copyFrom_167 : decode cX0_copyFrom 167 = .ok (.aload_n 1, 1) := by decide +kernel
theorem dX0_copyFrom_168 : decode cX0_copyFrom 168 = .ok (.getfield 52, 3) := by decide +kernel
theorem dX0_copyFrom_171 : decode cX0_copyFrom 171 = .ok (.iconst 0, 1) := by decide +kernel
theorem dX0_copyFrom_172 : decode cX0_copyFrom 172 = .ok (.aload_n 0, 1) := by decide +kernel
theorem dX0_copyFrom_173 : decode cX0_copyFrom 173 = .ok (.getfield 52, 3) := by decide +kernel
theorem dX0_copyFrom_176 : decode cX0_copyFrom 176 = .ok (.iconst 0, 1) := by decide +kernel
theorem dX0_copyFrom_177 : decode cX0_copyFrom 177 = .ok (.bipush 40, 2) := by decide +kernel
theorem dX0_copyFrom_179 : decode cX0_copyFrom 179 = .ok (.invokestatic 80, 3) := by decide +kernel
theorem dX0_copyFrom_182 : decode cX0_copyFrom 182 = .ok (.aload_n 1, 1) := by decide +kernel
theorem dX0_copyFrom_183 : decode cX0_copyFrom 183 = .ok (.getfield 55, 3) := by decide +kernel
theorem dX0_copyFrom_186 : decode cX0_copyFrom 186 = .ok (.iconst 0, 1) := by decide +kernel
theorem dX0_copyFrom_187 : decode cX0_copyFrom 187 = .ok (.aload_n 0, 1) := by decide +kernel
theorem dX0_copyFrom_188 : decode cX0_copyFrom 188 = .ok (.getfield 55, 3) := by decide +kernel
theorem dX0_copyFrom_191 : decode cX0_copyFrom 191 = .ok (.iconst 0, 1) := by decide +kernel
theorem dX0_copyFrom_192 : decode cX0_copyFrom 192 = .ok (.bipush 40, 2) := by decide +kernel
theorem dX0_copyFrom_194 : decode cX0_copyFrom 194 = .ok (.invokestatic 80, 3) := by decide +kernel
theorem dX0_copyFrom_197 : decode cX0_copyFrom 197 = .ok (.aload_n 1, 1) := by decide +kernel
theorem dX0_copyFrom_198 : decode cX0_copyFrom 198 = .ok (.getfield 58, 3) := by decide +kernel
theorem dX0_copyFrom_201 : decode cX0_copyFrom 201 = .ok (.iconst 0, 1) := by decide +kernel
theorem dX0_copyFrom_202 : decode cX0_copyFrom 202 = .ok (.aload_n 0, 1) := by decide +kernel
theorem dX0_copyFrom_203 : decode cX0_copyFrom 203 = .ok (.getfield 58, 3) := by decide +kernel
theorem dX0_copyFrom_206 : decode cX0_copyFrom 206 = .ok (.iconst 0, 1) := by decide +kernel
theorem dX0_copyFrom_207 : decode cX0_copyFrom 207 = .ok (.iconst 4, 1) := by decide +kernel
theorem dX0_copyFrom_208 : decode cX0_copyFrom 208 = .ok (.invokestatic 80, 3) := by decide +kernel
theorem dX0_copyFrom_211 : decode cX0_copyFrom 211 = .ok (.aload_n 0, 1) := by decide +kernel
theorem dX0_copyFrom_212 : decode cX0_copyFrom 212 = .ok (.aload_n 1, 1) := by decide +kernel
theorem dX0_copyFrom_213 : decode cX0_copyFrom 213 = .ok (.getfield 61, 3) := by decide +kernel
theorem dX0_copyFrom_216 : decode cX0_copyFrom 216 = .ok (.putfield 61, 3) := by decide +kernel
theorem dX0_copyFrom_219 : decode cX0_copyFrom 219 = .ok (.return_, 1) := by decide +kernel
theorem dX1_init_0 : decode cX1_init 0 = .ok (.aload_n 0, 1) := by decide +kernel
theorem dX1_init_1 : decode cX1_init 1 = .ok (.invokespecial 3, 3) := by decide +kernel
theorem dX1_init_4 : decode cX1_init 4 = .ok (.aload_n 0, 1) := by decide +kernel
theorem dX1_init_5 : decode cX1_init 5 = .ok (.sipush 400, 3) := by decide +kernel
theorem dX1_init_8 : decode cX1_init 8 = .ok (.newarray .int, 2) := by decide +kernel
theorem dX1_init_10 : decode cX1_init 10 = .ok (.putfield 9, 3) := by decide +kernel
theorem dX1_init_13 : decode cX1_init 13 = .ok (.aload_n 0, 1) := by decide +kernel
theorem dX1_init_14 : decode cX1_init 14 = .ok (.iconst 0, 1) := by decide +kernel
theorem dX1_init_15 : decode cX1_init 15 = .ok (.putfield 15, 3) := by decide +kernel
theorem dX1_init_18 : decode cX1_init 18 = .ok (.aload_n 0, 1) := by decide +kernel
theorem dX1_init_19 : decode cX1_init 19 = .ok (.iconst 0, 1) := by decide +kernel
theorem dX1_init_20 : decode cX1_init 20 = .ok (.putfield 19, 3) := by decide +kernel
theorem dX1_init_23 : decode cX1_init 23 = .ok (.aload_n 0, 1) := by decide +kernel
theorem dX1_init_24 : decode cX1_init 24 = .ok (.bipush 16, 2) := by decide +kernel
theorem dX1_init_26 : decode cX1_init 26 = .ok (.newarray .int, 2) := by decide +kernel
theorem dX1_init_28 : decode cX1_init 28 = .ok (.putfield 22, 3) := by decide +kernel
theorem dX1_init_31 : decode cX1_init 31 = .ok (.aload_n 0, 1) := by decide +kernel
theorem dX1_init_32 : decode cX1_init 32 = .ok (.bipush 16, 2) := by decide +kernel
theorem dX1_init_34 : decode cX1_init 34 = .ok (.newarray .int, 2) := by decide +kernel
theorem dX1_init_36 : decode cX1_init 36 = .ok (.putfield 25, 3) := by decide +kernel
theorem dX1_init_39 : decode cX1_init 39 = .ok (.aload_n 0, 1) := by decide +kernel
theorem dX1_init_40 : decode cX1_init 40 = .ok (.bipush 16, 2) := by decide +kernel
theorem dX1_init_42 : decode cX1_init 42 = .ok (.newarray .int, 2) := by decide +kernel
theorem dX1_init_44 : decode cX1_init 44 = .ok (.putfield 28, 3) := by decide +kernel
theorem dX1_init_47 : decode cX1_init 47 = .ok (.aload_n 0, 1) := by decide +kernel
theorem dX1_init_48 : decode cX1_init 48 = .ok (.bipush 16, 2) := by decide +kernel
theorem dX1_init_50 : decode cX1_init 50 = .ok (.newarray .int, 2) := by decide +kernel
theorem dX1_init_52 : decode cX1_init 52 = .ok (.putfield 31, 3) := by decide +kernel
theorem dX1_init_55 : decode cX1_init 55 = .ok (.return_, 1) := by decide +kernel
theorem dX1_emit_0 : decode cX1_emit 0 = .ok (.aload_n 0, 1) := by decide +kernel
theorem dX1_emit_1 : decode cX1_emit 1 = .ok (.getfield 15, 3) := by decide +kernel
theorem dX1_emit_4 : decode cX1_emit 4 = .ok (.aload_n 0, 1) := by decide +kernel
theorem dX1_emit_5 : decode cX1_emit 5 = .ok (.getfield 9, 3) := by decide +kernel
theorem dX1_emit_8 : decode cX1_emit 8 = .ok (.arraylength, 1) := by decide +kernel
theorem dX1_emit_9 : decode cX1_emit 9 = .ok (.if_icmp .ge 23, 3) := by decide +kernel
theorem dX1_emit_12 : decode cX1_emit 12 = .ok (.aload_n 0, 1) := by decide +kernel
theorem dX1_emit_13 : decode cX1_emit 13 = .ok (.getfield 9, 3) := by decide +kernel
theorem dX1_emit_16 : decode cX1_emit 16 = .ok (.aload_n 0, 1) := by decide +kernel
theorem dX1_emit_17 : decode cX1_emit 17 = .ok (.getfield 15, 3) := by decide +kernel
theorem dX1_emit_20 : decode cX1_emit 20 = .ok (.iload_n 1, 1) := by decide +kernel
theorem dX1_emit_21 : decode cX1_emit 21 = .ok (.iastore, 1) := by decide +kernel
theorem dX1_emit_22 : decode cX1_emit 22 = .ok (.aload_n 0, 1) := by decide +kernel
theorem dX1_emit_23 : decode cX1_emit 23 = .ok (.dup, 1) := by decide +kernel
theorem dX1_emit_24 : decode cX1_emit 24 = .ok (.getfield 15, 3) := by decide +kernel
theorem dX1_emit_27 : decode cX1_emit 27 = .ok (.iconst 1, 1) := by decide +kernel
theorem dX1_emit_28 : decode cX1_emit 28 = .ok (.iadd, 1) := by decide +kernel
theorem dX1_emit_29 : decode cX1_emit 29 = .ok (.putfield 15, 3) := by decide +kernel
theorem dX1_emit_32 : decode cX1_emit 32 = .ok (.return_, 1) := by decide +kernel
theorem dX2_init_0 : decode cX2_init 0 = .ok (.aload_n 0, 1) := by decide +kernel
theorem dX2_init_1 : decode cX2_init 1 = .ok (.invokespecial 3, 3) := by decide +kernel
theorem dX2_init_4 : decode cX2_init 4 = .ok (.aload_n 0, 1) := by decide +kernel
theorem dX2_init_5 : decode cX2_init 5 = .ok (.new 9, 3) := by decide +kernel
theorem dX2_init_8 : decode cX2_init 8 = .ok (.dup, 1) := by decide +kernel
theorem dX2_init_9 : decode cX2_init 9 = .ok (.invokespecial 11, 3) := by decide +kernel
theorem dX2_init_12 : decode cX2_init 12 = .ok (.putfield 12, 3) := by decide +kernel
theorem dX2_init_15 : decode cX2_init 15 = .ok (.aload_n 0, 1) := by decide +kernel
theorem dX2_init_16 : decode cX2_init 16 = .ok (.aload_n 1, 1) := by decide +kernel
theorem dX2_init_17 : decode cX2_init 17 = .ok (.putfield 18, 3) := by decide +kernel
theorem dX2_init_20 : decode cX2_init 20 = .ok (.return_, 1) := by decide +kernel
theorem dX2_read_0 : decode cX2_read 0 = .ok (.aload_n 0, 1) := by decide +kernel
theorem dX2_read_1 : decode cX2_read 1 = .ok (.aload_n 1, 1) := by decide +kernel
theorem dX2_read_2 : decode cX2_read 2 = .ok (.putfield 12, 3) := by decide +kernel
theorem dX2_read_5 : decode cX2_read 5 = .ok (.aload_n 0, 1) := by decide +kernel
theorem dX2_read_6 : decode cX2_read 6 = .ok (.getfield 12, 3) := by decide +kernel
theorem dX2_read_9 : decode cX2_read 9 = .ok (.iconst 0, 1) := by decide +kernel
theorem dX2_read_10 : decode cX2_read 10 = .ok (.putfield 22, 3) := by decide +kernel
theorem dX2_read_13 : decode cX2_read 13 = .ok (.aload_n 0, 1) := by decide +kernel
theorem dX2_read_14 : decode cX2_read 14 = .ok (.getfield 12, 3) := by decide +kernel
theorem dX2_read_17 : decode cX2_read 17 = .ok (.iconst 0, 1) := by decide +kernel
theorem dX2_read_18 : decode cX2_read 18 = .ok (.putfield 26, 3) := by decide +kernel
theorem dX2_read_21 : decode cX2_read 21 = .ok (.iconst 0, 1) := by decide +kernel
theorem dX2_read_22 : decode cX2_read 22 = .ok (.istore_n 2, 1) := by decide +kernel
theorem dX2_read_23 : decode cX2_read 23 = .ok (.iload_n 2, 1) := by decide +kernel
theorem dX2_read_24 : decode cX2_read 24 = .ok (.bipush 16, 2) := by decide +kernel
theorem dX2_read_26 : decode cX2_read 26 = .ok (.if_icmp .gt 44, 3) := by decide +kernel
theorem dX2_read_29 : decode cX2_read 29 = .ok (.aload_n 0, 1) := by decide +kernel
theorem dX2_read_30 : decode cX2_read 30 = .ok (.getfield 18, 3) := by decide +kernel
theorem dX2_read_33 : decode cX2_read 33 = .ok (.ldc 29, 2) := by decide +kernel
theorem dX2_read_35 : decode cX2_read 35 = .ok (.iload_n 2, 1) := by decide +kernel
theorem dX2_read_36 : decode cX2_read 36 = .ok (.bipush 16, 2) := by decide +kernel
theorem dX2_read_38 : decode cX2_read 38 = .ok (.invokevirtual 31, 3) := by decide +kernel
theorem dX2_read_41 : decode cX2_read 41 = .ok (.istore_n 3, 1) := by decide +kernel
theorem dX2_read_42 : decode cX2_read 42 = .ok (.iload_n 3, 1) := by decide +kernel
theorem dX2_read_43 : decode cX2_read 43 = .ok (.iconst (-1), 1) := by decide +kernel
theorem dX2_read_44 : decode cX2_read 44 = .ok (.if_icmp .ne 4, 3) := by decide +kernel
theorem dX2_read_47 : decode cX2_read 47 = .ok (.return_, 1) := by decide +kernel
theorem dX2_read_48 : decode cX2_read 48 = .ok (.aload_n 0, 1) := by decide +kernel
theorem dX2_read_49 : decode cX2_read 49 = .ok (.iload_n 3, 1) := by decide +kernel
theorem dX2_read_50 : decode cX2_read 50 = .ok (.iload_n 2, 1) := by decide +kernel
theorem dX2_read_51 : decode cX2_read 51 = .ok (.invokevirtual 37, 3) := by decide +kernel
theorem dX2_read_54 : decode cX2_read 54 = .ok (.aload_n 0, 1) := by decide +kernel
theorem dX2_read_55 : decode cX2_read 55 = .ok (.getfield 18, 3) := by decide +kernel
theorem dX2_read_58 : decode cX2_read 58 = .ok (.ldc 41, 2) := by decide +kernel
theorem dX2_read_60 : decode cX2_read 60 = .ok (.invokevirtual 43, 3) := by decide +kernel
theorem dX2_read_63 : decode cX2_read 63 = .ok (.pop, 1) := by decide +kernel
theorem dX2_read_64 : decode cX2_read 64 = .ok (.iinc 2 1, 3) := by decide +kernel
theorem dX2_read_67 : decode cX2_read 67 = .ok (.goto (-44), 3) := by decide +kernel
theorem dX2_read_70 : decode cX2_read 70 = .ok (.return_, 1) := by decide +kernel
theorem dX2_readClause_0 : decode cX2_readClause 0 = .ok (.aload_n 0, 1) := by decide +kernel
theorem dX2_readClause_1 : decode cX2_readClause 1 = .ok (.getfield 12, 3) := by decide +kernel
theorem dX2_readClause_4 : decode cX2_readClause 4 = .ok (.getfield 47, 3) := by decide +kernel
theorem dX2_readClause_7 : decode cX2_readClause 7 = .ok (.iload_n 2, 1) := by decide +kernel
theorem dX2_readClause_8 : decode cX2_readClause 8 = .ok (.iload_n 1, 1) := by decide +kernel
theorem dX2_readClause_9 : decode cX2_readClause 9 = .ok (.iastore, 1) := by decide +kernel
theorem dX2_readClause_10 : decode cX2_readClause 10 = .ok (.aload_n 0, 1) := by decide +kernel
theorem dX2_readClause_11 : decode cX2_readClause 11 = .ok (.getfield 12, 3) := by decide +kernel
theorem dX2_readClause_14 : decode cX2_readClause 14 = .ok (.getfield 51, 3) := by decide +kernel
theorem dX2_readClause_17 : decode cX2_readClause 17 = .ok (.iload_n 2, 1) := by decide +kernel
theorem dX2_readClause_18 : decode cX2_readClause 18 = .ok (.aload_n 0, 1) := by decide +kernel
theorem dX2_readClause_19 : decode cX2_readClause 19 = .ok (.getfield 12, 3) := by decide +kernel
theorem dX2_readClause_22 : decode cX2_readClause 22 = .ok (.getfield 22, 3) := by decide +kernel
theorem dX2_readClause_25 : decode cX2_readClause 25 = .ok (.iastore, 1) := by decide +kernel
theorem dX2_readClause_26 : decode cX2_readClause 26 = .ok (.aload_n 0, 1) := by decide +kernel
theorem dX2_readClause_27 : decode cX2_readClause 27 = .ok (.iconst 0, 1) := by decide +kernel
theorem dX2_readClause_28 : decode cX2_readClause 28 = .ok (.invokevirtual 54, 3) := by decide +kernel
theorem dX2_readClause_31 : decode cX2_readClause 31 = .ok (.aload_n 0, 1) := by decide +kernel
theorem dX2_readClause_32 : decode cX2_readClause 32 = .ok (.getfield 12, 3) := by decide +kernel
theorem dX2_readClause_35 : decode cX2_readClause 35 = .ok (.getfield 58, 3) := by decide +kernel
theorem dX2_readClause_38 : decode cX2_readClause 38 = .ok (.iload_n 2, 1) := by decide +kernel
theorem dX2_readClause_39 : decode cX2_readClause 39 = .ok (.aload_n 0, 1) := by decide +kernel
theorem dX2_readClause_40 : decode cX2_readClause 40 = .ok (.getfield 12, 3) := by decide +kernel
theorem dX2_readClause_43 : decode cX2_readClause 43 = .ok (.getfield 22, 3) := by decide +kernel
theorem dX2_readClause_46 : decode cX2_readClause 46 = .ok (.iastore, 1) := by decide +kernel
theorem dX2_readClause_47 : decode cX2_readClause 47 = .ok (.aload_n 0, 1) := by decide +kernel
theorem dX2_readClause_48 : decode cX2_readClause 48 = .ok (.getfield 18, 3) := by decide +kernel
theorem dX2_readClause_51 : decode cX2_readClause 51 = .ok (.ldc 61, 2) := by decide +kernel
theorem dX2_readClause_53 : decode cX2_readClause 53 = .ok (.invokevirtual 63, 3) := by decide +kernel
theorem dX2_readClause_56 : decode cX2_readClause 56 = .ok (.ifCond .ne 8, 3) := by decide +kernel
theorem dX2_readClause_59 : decode cX2_readClause 59 = .ok (.aload_n 0, 1) := by decide +kernel
theorem dX2_readClause_60 : decode cX2_readClause 60 = .ok (.iconst 0, 1) := by decide +kernel
theorem dX2_readClause_61 : decode cX2_readClause 61 = .ok (.invokevirtual 66, 3) := by decide +kernel
theorem dX2_readClause_64 : decode cX2_readClause 64 = .ok (.aload_n 0, 1) := by decide +kernel
theorem dX2_readClause_65 : decode cX2_readClause 65 = .ok (.getfield 12, 3) := by decide +kernel
theorem dX2_readClause_68 : decode cX2_readClause 68 = .ok (.getfield 69, 3) := by decide +kernel
theorem dX2_readClause_71 : decode cX2_readClause 71 = .ok (.iload_n 2, 1) := by decide +kernel
theorem dX2_readClause_72 : decode cX2_readClause 72 = .ok (.aload_n 0, 1) := by decide +kernel
theorem dX2_readClause_73 : decode cX2_readClause 73 = .ok (.getfield 12, 3) := by decide +kernel
theorem dX2_readClause_76 : decode cX2_readClause 76 = .ok (.getfield 22, 3) := by decide +kernel
theorem dX2_readClause_79 : decode cX2_readClause 79 = .ok (.iastore, 1) := by decide +kernel
theorem dX2_readClause_80 : decode cX2_readClause 80 = .ok (.aload_n 0, 1) := by decide +kernel
theorem dX2_readClause_81 : decode cX2_readClause 81 = .ok (.getfield 12, 3) := by decide +kernel
theorem dX2_readClause_84 : decode cX2_readClause 84 = .ok (.iload_n 2, 1) := by decide +kernel
theorem dX2_readClause_85 : decode cX2_readClause 85 = .ok (.iconst 1, 1) := by decide +kernel
theorem dX2_readClause_86 : decode cX2_readClause 86 = .ok (.iadd, 1) := by decide +kernel
theorem dX2_readClause_87 : decode cX2_readClause 87 = .ok (.putfield 26, 3) := by decide +kernel
theorem dX2_readClause_90 : decode cX2_readClause 90 = .ok (.return_, 1) := by decide +kernel
theorem dX2_readSum_0 : decode cX2_readSum 0 = .ok (.aload_n 0, 1) := by decide +kernel
theorem dX2_readSum_1 : decode cX2_readSum 1 = .ok (.iload_n 1, 1) := by decide +kernel
theorem dX2_readSum_2 : decode cX2_readSum 2 = .ok (.invokevirtual 72, 3) := by decide +kernel
theorem dX2_readSum_5 : decode cX2_readSum 5 = .ok (.iconst 0, 1) := by decide +kernel
theorem dX2_readSum_6 : decode cX2_readSum 6 = .ok (.istore_n 2, 1) := by decide +kernel
theorem dX2_readSum_7 : decode cX2_readSum 7 = .ok (.iload_n 2, 1) := by decide +kernel
theorem dX2_readSum_8 : decode cX2_readSum 8 = .ok (.sipush 400, 3) := by decide +kernel
theorem dX2_readSum_11 : decode cX2_readSum 11 = .ok (.if_icmp .ge 41, 3) := by decide +kernel
theorem dX2_readSum_14 : decode cX2_readSum 14 = .ok (.aload_n 0, 1) := by decide +kernel
theorem dX2_readSum_15 : decode cX2_readSum 15 = .ok (.getfield 18, 3) := by decide +kernel
theorem dX2_readSum_18 : decode cX2_readSum 18 = .ok (.ldc 75, 2) := by decide +kernel
theorem dX2_readSum_20 : decode cX2_readSum 20 = .ok (.invokevirtual 77, 3) := by decide +kernel
theorem dX2_readSum_23 : decode cX2_readSum 23 = .ok (.istore_n 3, 1) := by decide +kernel
theorem dX2_readSum_24 : decode cX2_readSum 24 = .ok (.iload_n 3, 1) := by decide +kernel
theorem dX2_readSum_25 : decode cX2_readSum 25 = .ok (.iconst (-1), 1) := by decide +kernel
theorem dX2_readSum_26 : decode cX2_readSum 26 = .ok (.if_icmp .ne 4, 3) := by decide +kernel
theorem dX2_readSum_29 : decode cX2_readSum 29 = .ok (.return_, 1) := by decide +kernel
theorem dX2_readSum_30 : decode cX2_readSum 30 = .ok (.aload_n 0, 1) := by decide +kernel
theorem dX2_readSum_31 : decode cX2_readSum 31 = .ok (.iload_n 1, 1) := by decide +kernel
theorem dX2_readSum_32 : decode cX2_readSum 32 = .ok (.invokevirtual 72, 3) := by decide +kernel
theorem dX2_readSum_35 : decode cX2_readSum 35 = .ok (.aload_n 0, 1) := by decide +kernel
theorem dX2_readSum_36 : decode cX2_readSum 36 = .ok (.getfield 12, 3) := by decide +kernel
theorem dX2_readSum_39 : decode cX2_readSum 39 = .ok (.bipush (-20), 2) := by decide +kernel
theorem dX2_readSum_41 : decode cX2_readSum 41 = .ok (.iload_n 3, 1) := by decide +kernel
theorem dX2_readSum_42 : decode cX2_readSum 42 = .ok (.isub, 1) := by decide +kernel
theorem dX2_readSum_43 : decode cX2_readSum 43 = .ok (.invokevirtual 80, 3) := by decide +kernel
theorem dX2_readSum_46 : decode cX2_readSum 46 = .ok (.iinc 2 1, 3) := by decide +kernel
theorem dX2_readSum_49 : decode cX2_readSum 49 = .ok (.goto (-42), 3) := by decide +kernel
theorem dX2_readSum_52 : decode cX2_readSum 52 = .ok (.return_, 1) := by decide +kernel
theorem dX2_readProduct_0 : decode cX2_readProduct 0 = .ok (.aload_n 0, 1) := by decide +kernel
theorem dX2_readProduct_1 : decode cX2_readProduct 1 = .ok (.iload_n 1, 1) := by decide +kernel
theorem dX2_readProduct_2 : decode cX2_readProduct 2 = .ok (.invokevirtual 83, 3) := by decide +kernel
theorem dX2_readProduct_5 : decode cX2_readProduct 5 = .ok (.iconst 0, 1) := by decide +kernel
theorem dX2_readProduct_6 : decode cX2_readProduct 6 = .ok (.istore_n 2, 1) := by decide +kernel
theorem dX2_readProduct_7 : decode cX2_readProduct 7 = .ok (.iload_n 2, 1) := by decide +kernel
theorem dX2_readProduct_8 : decode cX2_readProduct 8 = .ok (.sipush 400, 3) := by decide +kernel
theorem dX2_readProduct_11 : decode cX2_readProduct 11 = .ok (.if_icmp .ge 41, 3) := by decide +kernel
theorem dX2_readProduct_14 : decode cX2_readProduct 14 = .ok (.aload_n 0, 1) := by decide +kernel
theorem dX2_readProduct_15 : decode cX2_readProduct 15 = .ok (.getfield 18, 3) := by decide +kernel
theorem dX2_readProduct_18 : decode cX2_readProduct 18 = .ok (.ldc 86, 2) := by decide +kernel
theorem dX2_readProduct_20 : decode cX2_readProduct 20 = .ok (.invokevirtual 77, 3) := by decide +kernel
theorem dX2_readProduct_23 : decode cX2_readProduct 23 = .ok (.istore_n 3, 1) := by decide +kernel
theorem dX2_readProduct_24 : decode cX2_readProduct 24 = .ok (.iload_n 3, 1) := by decide +kernel
theorem dX2_readProduct_25 : decode cX2_readProduct 25 = .ok (.iconst (-1), 1) := by decide +kernel
theorem dX2_readProduct_26 : decode cX2_readProduct 26 = .ok (.if_icmp .ne 4, 3) := by decide +kernel
theorem dX2_readProduct_29 : decode cX2_readProduct 29 = .ok (.return_, 1) := by decide +kernel
theorem dX2_readProduct_30 : decode cX2_readProduct 30 = .ok (.aload_n 0, 1) := by decide +kernel
theorem dX2_readProduct_31 : decode cX2_readProduct 31 = .ok (.iload_n 1, 1) := by decide +kernel
theorem dX2_readProduct_32 : decode cX2_readProduct 32 = .ok (.invokevirtual 83, 3) := by decide +kernel
theorem dX2_readProduct_35 : decode cX2_readProduct 35 = .ok (.aload_n 0, 1) := by decide +kernel
theorem dX2_readProduct_36 : decode cX2_readProduct 36 = .ok (.getfield 12, 3) := by decide +kernel
theorem dX2_readProduct_39 : decode cX2_readProduct 39 = .ok (.bipush (-22), 2) := by decide +kernel
theorem dX2_readProduct_41 : decode cX2_readProduct 41 = .ok (.iload_n 3, 1) := by decide +kernel
theorem dX2_readProduct_42 : decode cX2_readProduct 42 = .ok (.isub, 1) := by decide +kernel
theorem dX2_readProduct_43 : decode cX2_readProduct 43 = .ok (.invokevirtual 80, 3) := by decide +kernel
theorem dX2_readProduct_46 : decode cX2_readProduct 46 = .ok (.iinc 2 1, 3) := by decide +kernel
theorem dX2_readProduct_49 : decode cX2_readProduct 49 = .ok (.goto (-42), 3) := by decide +kernel
theorem dX2_readProduct_52 : decode cX2_readProduct 52 = .ok (.return_, 1) := by decide +kernel
theorem dX2_readUnit_0 : decode cX2_readUnit 0 = .ok (.aload_n 0, 1) := by decide +kernel
theorem dX2_readUnit_1 : decode cX2_readUnit 1 = .ok (.getfield 18, 3) := by decide +kernel
theorem dX2_readUnit_4 : decode cX2_readUnit 4 = .ok (.invokevirtual 88, 3) := by decide +kernel
theorem dX2_readUnit_7 : decode cX2_readUnit 7 = .ok (.ifCond .eq 22, 3) := by decide +kernel
theorem dX2_readUnit_10 : decode cX2_readUnit 10 = .ok (.aload_n 0, 1) := by decide +kernel
theorem dX2_readUnit_11 : decode cX2_readUnit 11 = .ok (.getfield 12, 3) := by decide +kernel
theorem dX2_readUnit_14 : decode cX2_readUnit 14 = .ok (.aload_n 0, 1) := by decide +kernel
theorem dX2_readUnit_15 : decode cX2_readUnit 15 = .ok (.getfield 18, 3) := by decide +kernel
theorem dX2_readUnit_18 : decode cX2_readUnit 18 = .ok (.iconst 0, 1) := by decide +kernel
theorem dX2_readUnit_19 : decode cX2_readUnit 19 = .ok (.sipush 9999, 3) := by decide +kernel
theorem dX2_readUnit_22 : decode cX2_readUnit 22 = .ok (.invokevirtual 92, 3) := by decide +kernel
theorem dX2_readUnit_25 : decode cX2_readUnit 25 = .ok (.invokevirtual 80, 3) := by decide +kernel
theorem dX2_readUnit_28 : decode cX2_readUnit 28 = .ok (.return_, 1) := by decide +kernel
theorem dX2_readUnit_29 : decode cX2_readUnit 29 = .ok (.aload_n 0, 1) := by decide +kernel
theorem dX2_readUnit_30 : decode cX2_readUnit 30 = .ok (.getfield 18, 3) := by decide +kernel
theorem dX2_readUnit_33 : decode cX2_readUnit 33 = .ok (.ldc 96, 2) := by decide +kernel
theorem dX2_readUnit_35 : decode cX2_readUnit 35 = .ok (.invokevirtual 63, 3) := by decide +kernel
theorem dX2_readUnit_38 : decode cX2_readUnit 38 = .ok (.istore_n 2, 1) := by decide +kernel
theorem dX2_readUnit_39 : decode cX2_readUnit 39 = .ok (.iload_n 2, 1) := by decide +kernel
theorem dX2_readUnit_40 : decode cX2_readUnit 40 = .ok (.iconst (-1), 1) := by decide +kernel
theorem dX2_readUnit_41 : decode cX2_readUnit 41 = .ok (.if_icmp .eq 14, 3) := by decide +kernel
theorem dX2_readUnit_44 : decode cX2_readUnit 44 = .ok (.aload_n 0, 1) := by decide +kernel
theorem dX2_readUnit_45 : decode cX2_readUnit 45 = .ok (.getfield 12, 3) := by decide +kernel
theorem dX2_readUnit_48 : decode cX2_readUnit 48 = .ok (.iconst (-1), 1) := by decide +kernel
theorem dX2_readUnit_49 : decode cX2_readUnit 49 = .ok (.iload_n 2, 1) := by decide +kernel
theorem dX2_readUnit_50 : decode cX2_readUnit 50 = .ok (.isub, 1) := by decide +kernel
theorem dX2_readUnit_51 : decode cX2_readUnit 51 = .ok (.invokevirtual 80, 3) := by decide +kernel
theorem dX2_readUnit_54 : decode cX2_readUnit 54 = .ok (.return_, 1) := by decide +kernel
theorem dX2_readUnit_55 : decode cX2_readUnit 55 = .ok (.aload_n 0, 1) := by decide +kernel
theorem dX2_readUnit_56 : decode cX2_readUnit 56 = .ok (.getfield 18, 3) := by decide +kernel
theorem dX2_readUnit_59 : decode cX2_readUnit 59 = .ok (.ldc 98, 2) := by decide +kernel
theorem dX2_readUnit_61 : decode cX2_readUnit 61 = .ok (.invokevirtual 63, 3) := by decide +kernel
theorem dX2_readUnit_64 : decode cX2_readUnit 64 = .ok (.istore_n 3, 1) := by decide +kernel
theorem dX2_readUnit_65 : decode cX2_readUnit 65 = .ok (.aload_n 0, 1) := by decide +kernel
theorem dX2_readUnit_66 : decode cX2_readUnit 66 = .ok (.getfield 18, 3) := by decide +kernel
theorem dX2_readUnit_69 : decode cX2_readUnit 69 = .ok (.ldc 100, 2) := by decide +kernel
theorem dX2_readUnit_71 : decode cX2_readUnit 71 = .ok (.invokevirtual 43, 3) := by decide +kernel
theorem dX2_readUnit_74 : decode cX2_readUnit 74 = .ok (.iconst (-1), 1) := by decide +kernel
theorem dX2_readUnit_75 : decode cX2_readUnit 75 = .ok (.if_icmp .eq 11, 3) := by decide +kernel
theorem dX2_readUnit_78 : decode cX2_readUnit 78 = .ok (.aload_n 0, 1) := by decide +kernel
theorem dX2_readUnit_79 : decode cX2_readUnit 79 = .ok (.iload_n 1, 1) := by decide +kernel
theorem dX2_readUnit_80 : decode cX2_readUnit 80 = .ok (.invokevirtual 102, 3) := by decide +kernel
theorem dX2_readUnit_83 : decode cX2_readUnit 83 = .ok (.ifCond .eq 4, 3) := by decide +kernel
theorem dX2_readUnit_86 : decode cX2_readUnit 86 = .ok (.return_, 1) := by decide +kernel
theorem dX2_readUnit_87 : decode cX2_readUnit 87 = .ok (.aload_n 0, 1) := by decide +kernel
theorem dX2_readUnit_88 : decode cX2_readUnit 88 = .ok (.iload_n 1, 1) := by decide +kernel
theorem dX2_readUnit_89 : decode cX2_readUnit 89 = .ok (.iconst 1, 1) := by decide +kernel
theorem dX2_readUnit_90 : decode cX2_readUnit 90 = .ok (.iadd, 1) := by decide +kernel
theorem dX2_readUnit_91 : decode cX2_readUnit 91 = .ok (.invokevirtual 54, 3) := by decide +kernel
theorem dX2_readUnit_94 : decode cX2_readUnit 94 = .ok (.iload_n 3, 1) := by decide +kernel
theorem dX2_readUnit_95 : decode cX2_readUnit 95 = .ok (.iconst (-1), 1) := by decide +kernel
theorem dX2_readUnit_96 : decode cX2_readUnit 96 = .ok (.if_icmp .eq 31, 3) := by decide +kernel
theorem dX2_readUnit_99 : decode cX2_readUnit 99 = .ok (.aload_n 0, 1) := by decide +kernel
theorem dX2_readUnit_100 : decode cX2_readUnit 100 = .ok (.getfield 18, 3) := by decide +kernel
theorem dX2_readUnit_103 : decode cX2_readUnit 103 = .ok (.ldc 106, 2) := by decide +kernel
theorem dX2_readUnit_105 : decode cX2_readUnit 105 = .ok (.invokevirtual 43, 3) := by decide +kernel
theorem dX2_readUnit_108 : decode cX2_readUnit 108 = .ok (.pop, 1) := by decide +kernel
theorem dX2_readUnit_109 : decode cX2_readUnit 109 = .ok (.aload_n 0, 1) := by decide +kernel
theorem dX2_readUnit_110 : decode cX2_readUnit 110 = .ok (.iload_n 1, 1) := by decide +kernel
theorem dX2_readUnit_111 : decode cX2_readUnit 111 = .ok (.iconst 1, 1) := by decide +kernel
theorem dX2_readUnit_112 : decode cX2_readUnit 112 = .ok (.iadd, 1) := by decide +kernel
theorem dX2_readUnit_113 : decode cX2_readUnit 113 = .ok (.invokevirtual 54, 3) := by decide +kernel
theorem dX2_readUnit_116 : decode cX2_readUnit 116 = .ok (.aload_n 0, 1) := by decide +kernel
theorem dX2_readUnit_117 : decode cX2_readUnit 117 = .ok (.getfield 12, 3) := by decide +kernel
theorem dX2_readUnit_120 : decode cX2_readUnit 120 = .ok (.bipush (-24), 2) := by decide +kernel
theorem dX2_readUnit_122 : decode cX2_readUnit 122 = .ok (.iload_n 3, 1) := by decide +kernel
theorem dX2_readUnit_123 : decode cX2_readUnit 123 = .ok (.isub, 1) := by decide +kernel
theorem dX2_readUnit_124 : decode cX2_readUnit 124 = .ok (.invokevirtual 80, 3) := by decide +kernel
theorem dX2_readUnit_127 : decode cX2_readUnit 127 = .ok (.aload_n 0, 1) := by decide +kernel
theorem dX2_readUnit_128 : decode cX2_readUnit 128 = .ok (.getfield 18, 3) := by decide +kernel
theorem dX2_readUnit_131 : decode cX2_readUnit 131 = .ok (.ldc 108, 2) := by decide +kernel
theorem dX2_readUnit_133 : decode cX2_readUnit 133 = .ok (.invokevirtual 43, 3) := by decide +kernel
theorem dX2_readUnit_136 : decode cX2_readUnit 136 = .ok (.pop, 1) := by decide +kernel
theorem dX2_readUnit_137 : decode cX2_readUnit 137 = .ok (.return_, 1) := by decide +kernel
theorem dX2_readEither_0 : decode cX2_readEither 0 = .ok (.aload_n 0, 1) := by decide +kernel
theorem dX2_readEither_1 : decode cX2_readEither 1 = .ok (.iload_n 1, 1) := by decide +kernel
theorem dX2_readEither_2 : decode cX2_readEither 2 = .ok (.invokevirtual 110, 3) := by decide +kernel
theorem dX2_readEither_5 : decode cX2_readEither 5 = .ok (.iconst 0, 1) := by decide +kernel
theorem dX2_readEither_6 : decode cX2_readEither 6 = .ok (.istore_n 2, 1) := by decide +kernel
theorem dX2_readEither_7 : decode cX2_readEither 7 = .ok (.iload_n 2, 1) := by decide +kernel
theorem dX2_readEither_8 : decode cX2_readEither 8 = .ok (.sipush 400, 3) := by decide +kernel
theorem dX2_readEither_11 : decode cX2_readEither 11 = .ok (.if_icmp .ge 35, 3) := by decide +kernel
theorem dX2_readEither_14 : decode cX2_readEither 14 = .ok (.aload_n 0, 1) := by decide +kernel
theorem dX2_readEither_15 : decode cX2_readEither 15 = .ok (.getfield 18, 3) := by decide +kernel
theorem dX2_readEither_18 : decode cX2_readEither 18 = .ok (.ldc 113, 2) := by decide +kernel
theorem dX2_readEither_20 : decode cX2_readEither 20 = .ok (.invokevirtual 63, 3) := by decide +kernel
theorem dX2_readEither_23 : decode cX2_readEither 23 = .ok (.ifCond .ne 23, 3) := by decide +kernel
theorem dX2_readEither_26 : decode cX2_readEither 26 = .ok (.aload_n 0, 1) := by decide +kernel
theorem dX2_readEither_27 : decode cX2_readEither 27 = .ok (.iload_n 1, 1) := by decide +kernel
theorem dX2_readEither_28 : decode cX2_readEither 28 = .ok (.invokevirtual 110, 3) := by decide +kernel
theorem dX2_readEither_31 : decode cX2_readEither 31 = .ok (.aload_n 0, 1) := by decide +kernel
theorem dX2_readEither_32 : decode cX2_readEither 32 = .ok (.getfield 12, 3) := by decide +kernel
theorem dX2_readEither_35 : decode cX2_readEither 35 = .ok (.bipush (-30), 2) := by decide +kernel
theorem dX2_readEither_37 : decode cX2_readEither 37 = .ok (.invokevirtual 80, 3) := by decide +kernel
theorem dX2_readEither_40 : decode cX2_readEither 40 = .ok (.iinc 2 1, 3) := by decide +kernel
theorem dX2_readEither_43 : decode cX2_readEither 43 = .ok (.goto (-36), 3) := by decide +kernel
theorem dX2_readEither_46 : decode cX2_readEither 46 = .ok (.return_, 1) := by decide +kernel
theorem dX2_readBoth_0 : decode cX2_readBoth 0 = .ok (.aload_n 0, 1) := by decide +kernel
theorem dX2_readBoth_1 : decode cX2_readBoth 1 = .ok (.iload_n 1, 1) := by decide +kernel
theorem dX2_readBoth_2 : decode cX2_readBoth 2 = .ok (.invokevirtual 115, 3) := by decide +kernel
theorem dX2_readBoth_5 : decode cX2_readBoth 5 = .ok (.iconst 0, 1) := by decide +kernel
theorem dX2_readBoth_6 : decode cX2_readBoth 6 = .ok (.istore_n 2, 1) := by decide +kernel
theorem dX2_readBoth_7 : decode cX2_readBoth 7 = .ok (.iload_n 2, 1) := by decide +kernel
theorem dX2_readBoth_8 : decode cX2_readBoth 8 = .ok (.sipush 400, 3) := by decide +kernel
theorem dX2_readBoth_11 : decode cX2_readBoth 11 = .ok (.if_icmp .ge 35, 3) := by decide +kernel
theorem dX2_readBoth_14 : decode cX2_readBoth 14 = .ok (.aload_n 0, 1) := by decide +kernel
theorem dX2_readBoth_15 : decode cX2_readBoth 15 = .ok (.getfield 18, 3) := by decide +kernel
theorem dX2_readBoth_18 : decode cX2_readBoth 18 = .ok (.ldc 118, 2) := by decide +kernel
theorem dX2_readBoth_20 : decode cX2_readBoth 20 = .ok (.invokevirtual 63, 3) := by decide +kernel
theorem dX2_readBoth_23 : decode cX2_readBoth 23 = .ok (.ifCond .ne 23, 3) := by decide +kernel
theorem dX2_readBoth_26 : decode cX2_readBoth 26 = .ok (.aload_n 0, 1) := by decide +kernel
theorem dX2_readBoth_27 : decode cX2_readBoth 27 = .ok (.iload_n 1, 1) := by decide +kernel
theorem dX2_readBoth_28 : decode cX2_readBoth 28 = .ok (.invokevirtual 115, 3) := by decide +kernel
theorem dX2_readBoth_31 : decode cX2_readBoth 31 = .ok (.aload_n 0, 1) := by decide +kernel
theorem dX2_readBoth_32 : decode cX2_readBoth 32 = .ok (.getfield 12, 3) := by decide +kernel
theorem dX2_readBoth_35 : decode cX2_readBoth 35 = .ok (.bipush (-29), 2) := by decide +kernel
theorem dX2_readBoth_37 : decode cX2_readBoth 37 = .ok (.invokevirtual 80, 3) := by decide +kernel
theorem dX2_readBoth_40 : decode cX2_readBoth 40 = .ok (.iinc 2 1, 3) := by decide +kernel
theorem dX2_readBoth_43 : decode cX2_readBoth 43 = .ok (.goto (-36), 3) := by decide +kernel
theorem dX2_readBoth_46 : decode cX2_readBoth 46 = .ok (.return_, 1) := by decide +kernel
theorem dX2_readOne_0 : decode cX2_readOne 0 = .ok (.aload_n 0, 1) := by decide +kernel
theorem dX2_readOne_1 : decode cX2_readOne 1 = .ok (.getfield 18, 3) := by decide +kernel
theorem dX2_readOne_4 : decode cX2_readOne 4 = .ok (.ldc 120, 2) := by decide +kernel
theorem dX2_readOne_6 : decode cX2_readOne 6 = .ok (.invokevirtual 63, 3) := by decide +kernel
theorem dX2_readOne_9 : decode cX2_readOne 9 = .ok (.ifCond .ne 30, 3) := by decide +kernel
theorem dX2_readOne_12 : decode cX2_readOne 12 = .ok (.aload_n 0, 1) := by decide +kernel
theorem dX2_readOne_13 : decode cX2_readOne 13 = .ok (.iload_n 1, 1) := by decide +kernel
theorem dX2_readOne_14 : decode cX2_readOne 14 = .ok (.invokevirtual 102, 3) := by decide +kernel
theorem dX2_readOne_17 : decode cX2_readOne 17 = .ok (.ifCond .ne 97, 3) := by decide +kernel
theorem dX2_readOne_20 : decode cX2_readOne 20 = .ok (.aload_n 0, 1) := by decide +kernel
theorem dX2_readOne_21 : decode cX2_readOne 21 = .ok (.iload_n 1, 1) := by decide +kernel
theorem dX2_readOne_22 : decode cX2_readOne 22 = .ok (.iconst 1, 1) := by decide +kernel
theorem dX2_readOne_23 : decode cX2_readOne 23 = .ok (.iadd, 1) := by decide +kernel
theorem dX2_readOne_24 : decode cX2_readOne 24 = .ok (.invokevirtual 115, 3) := by decide +kernel
theorem dX2_readOne_27 : decode cX2_readOne 27 = .ok (.aload_n 0, 1) := by decide +kernel
theorem dX2_readOne_28 : decode cX2_readOne 28 = .ok (.getfield 12, 3) := by decide +kernel
theorem dX2_readOne_31 : decode cX2_readOne 31 = .ok (.bipush (-31), 2) := by decide +kernel
theorem dX2_readOne_33 : decode cX2_readOne 33 = .ok (.invokevirtual 80, 3) := by decide +kernel
theorem dX2_readOne_36 : decode cX2_readOne 36 = .ok (.goto 78, 3) := by decide +kernel
theorem dX2_readOne_39 : decode cX2_readOne 39 = .ok (.aload_n 0, 1) := by decide +kernel
theorem dX2_readOne_40 : decode cX2_readOne 40 = .ok (.getfield 18, 3) := by decide +kernel
theorem dX2_readOne_43 : decode cX2_readOne 43 = .ok (.ldc 122, 2) := by decide +kernel
theorem dX2_readOne_45 : decode cX2_readOne 45 = .ok (.invokevirtual 77, 3) := by decide +kernel
theorem dX2_readOne_48 : decode cX2_readOne 48 = .ok (.ifCond .ne 31, 3) := by decide +kernel
theorem dX2_readOne_51 : decode cX2_readOne 51 = .ok (.aload_n 0, 1) := by decide +kernel
theorem dX2_readOne_52 : decode cX2_readOne 52 = .ok (.iload_n 1, 1) := by decide +kernel
theorem dX2_readOne_53 : decode cX2_readOne 53 = .ok (.invokevirtual 102, 3) := by decide +kernel
theorem dX2_readOne_56 : decode cX2_readOne 56 = .ok (.ifCond .ne 58, 3) := by decide +kernel
theorem dX2_readOne_59 : decode cX2_readOne 59 = .ok (.aload_n 0, 1) := by decide +kernel
theorem dX2_readOne_60 : decode cX2_readOne 60 = .ok (.iload_n 1, 1) := by decide +kernel
theorem dX2_readOne_61 : decode cX2_readOne 61 = .ok (.iconst 1, 1) := by decide +kernel
theorem dX2_readOne_62 : decode cX2_readOne 62 = .ok (.iadd, 1) := by decide +kernel
theorem dX2_readOne_63 : decode cX2_readOne 63 = .ok (.invokevirtual 66, 3) := by decide +kernel
theorem dX2_readOne_66 : decode cX2_readOne 66 = .ok (.aload_n 0, 1) := by decide +kernel
theorem dX2_readOne_67 : decode cX2_readOne 67 = .ok (.getfield 18, 3) := by decide +kernel
theorem dX2_readOne_70 : decode cX2_readOne 70 = .ok (.ldc 124, 2) := by decide +kernel
theorem dX2_readOne_72 : decode cX2_readOne 72 = .ok (.invokevirtual 43, 3) := by decide +kernel
theorem dX2_readOne_75 : decode cX2_readOne 75 = .ok (.pop, 1) := by decide +kernel
theorem dX2_readOne_76 : decode cX2_readOne 76 = .ok (.goto 38, 3) := by decide +kernel
theorem dX2_readOne_79 : decode cX2_readOne 79 = .ok (.aload_n 0, 1) := by decide +kernel
theorem dX2_readOne_80 : decode cX2_readOne 80 = .ok (.iload_n 1, 1) := by decide +kernel
theorem dX2_readOne_81 : decode cX2_readOne 81 = .ok (.invokevirtual 54, 3) := by decide +kernel
theorem dX2_readOne_84 : decode cX2_readOne 84 = .ok (.aload_n 0, 1) := by decide +kernel
theorem dX2_readOne_85 : decode cX2_readOne 85 = .ok (.getfield 18, 3) := by decide +kernel
theorem dX2_readOne_88 : decode cX2_readOne 88 = .ok (.ldc 126, 2) := by decide +kernel
theorem dX2_readOne_90 : decode cX2_readOne 90 = .ok (.invokevirtual 43, 3) := by decide +kernel
theorem dX2_readOne_93 : decode cX2_readOne 93 = .ok (.istore_n 2, 1) := by decide +kernel
theorem dX2_readOne_94 : decode cX2_readOne 94 = .ok (.aload_n 0, 1) := by decide +kernel
theorem dX2_readOne_95 : decode cX2_readOne 95 = .ok (.iload_n 1, 1) := by decide +kernel
theorem dX2_readOne_96 : decode cX2_readOne 96 = .ok (.invokevirtual 54, 3) := by decide +kernel
theorem dX2_readOne_99 : decode cX2_readOne 99 = .ok (.aload_n 0, 1) := by decide +kernel
theorem dX2_readOne_100 : decode cX2_readOne 100 = .ok (.getfield 12, 3) := by decide +kernel
theorem dX2_readOne_103 : decode cX2_readOne 103 = .ok (.bipush (-26), 2) := by decide +kernel
theorem dX2_readOne_105 : decode cX2_readOne 105 = .ok (.iconst 0, 1) := by decide +kernel
theorem dX2_readOne_106 : decode cX2_readOne 106 = .ok (.iload_n 2, 1) := by decide +kernel
theorem dX2_readOne_107 : decode cX2_readOne 107 = .ok (.invokestatic 128, 3) := by decide +kernel
theorem dX2_readOne_110 : decode cX2_readOne 110 = .ok (.isub, 1) := by decide +kernel
theorem dX2_readOne_111 : decode cX2_readOne 111 = .ok (.invokevirtual 80, 3) := by decide +kernel
theorem dX2_readOne_114 : decode cX2_readOne 114 = .ok (.return_, 1) := by decide +kernel
theorem dX2_isTooDeep_0 : decode cX2_isTooDeep 0 = .ok (.iload_n 1, 1) := by decide +kernel
theorem dX2_isTooDeep_1 : decode cX2_isTooDeep 1 = .ok (.bipush 6, 2) := by decide +kernel
theorem dX2_isTooDeep_3 : decode cX2_isTooDeep 3 = .ok (.if_icmp .lt 20, 3) := by decide +kernel
theorem dX2_isTooDeep_6 : decode cX2_isTooDeep 6 = .ok (.aload_n 0, 1) := by decide +kernel
theorem dX2_isTooDeep_7 : decode cX2_isTooDeep 7 = .ok (.getfield 18, 3) := by decide +kernel
theorem dX2_isTooDeep_10 : decode cX2_isTooDeep 10 = .ok (.iconst 3, 1) := by decide +kernel
theorem dX2_isTooDeep_11 : decode cX2_isTooDeep 11 = .ok (.aload_n 0, 1) := by decide +kernel
theorem dX2_isTooDeep_12 : decode cX2_isTooDeep 12 = .ok (.getfield 18, 3) := by decide +kernel
theorem dX2_isTooDeep_15 : decode cX2_isTooDeep 15 = .ok (.getfield 133, 3) := by decide +kernel
theorem dX2_isTooDeep_18 : decode cX2_isTooDeep 18 = .ok (.invokevirtual 136, 3) := by decide +kernel
theorem dX2_isTooDeep_21 : decode cX2_isTooDeep 21 = .ok (.iconst 1, 1) := by decide +kernel
theorem dX2_isTooDeep_22 : decode cX2_isTooDeep 22 = .ok (.ireturn, 1) := by decide +kernel
theorem dX2_isTooDeep_23 : decode cX2_isTooDeep 23 = .ok (.iconst 0, 1) := by decide +kernel
theorem dX2_isTooDeep_24 : decode cX2_isTooDeep 24 = .ok (.ireturn, 1) := by decide +kernel
theorem dX3_init_0 : decode cX3_init 0 = .ok (.aload_n 0, 1) := by decide +kernel
theorem dX3_init_1 : decode cX3_init 1 = .ok (.invokespecial 3, 3) := by decide +kernel
theorem dX3_init_4 : decode cX3_init 4 = .ok (.aload_n 0, 1) := by decide +kernel
theorem dX3_init_5 : decode cX3_init 5 = .ok (.iconst 0, 1) := by decide +kernel
theorem dX3_init_6 : decode cX3_init 6 = .ok (.putfield 9, 3) := by decide +kernel
theorem dX3_init_9 : decode cX3_init 9 = .ok (.aload_n 0, 1) := by decide +kernel
theorem dX3_init_10 : decode cX3_init 10 = .ok (.bipush 8, 2) := by decide +kernel
theorem dX3_init_12 : decode cX3_init 12 = .ok (.newarray .int, 2) := by decide +kernel
theorem dX3_init_14 : decode cX3_init 14 = .ok (.putfield 15, 3) := by decide +kernel
theorem dX3_init_17 : decode cX3_init 17 = .ok (.aload_n 0, 1) := by decide +kernel
theorem dX3_init_18 : decode cX3_init 18 = .ok (.bipush 8, 2) := by decide +kernel
theorem dX3_init_20 : decode cX3_init 20 = .ok (.newarray .int, 2) := by decide +kernel
theorem dX3_init_22 : decode cX3_init 22 = .ok (.putfield 19, 3) := by decide +kernel
theorem dX3_init_25 : decode cX3_init 25 = .ok (.aload_n 0, 1) := by decide +kernel
theorem dX3_init_26 : decode cX3_init 26 = .ok (.iconst 0, 1) := by decide +kernel
theorem dX3_init_27 : decode cX3_init 27 = .ok (.putfield 22, 3) := by decide +kernel
theorem dX3_init_30 : decode cX3_init 30 = .ok (.aload_n 0, 1) := by decide +kernel
theorem dX3_init_31 : decode cX3_init 31 = .ok (.sipush 168, 3) := by decide +kernel
theorem dX3_init_34 : decode cX3_init 34 = .ok (.newarray .int, 2) := by decide +kernel
theorem dX3_init_36 : decode cX3_init 36 = .ok (.putfield 25, 3) := by decide +kernel
theorem dX3_init_39 : decode cX3_init 39 = .ok (.aload_n 0, 1) := by decide +kernel
theorem dX3_init_40 : decode cX3_init 40 = .ok (.iconst 0, 1) := by decide +kernel
theorem dX3_init_41 : decode cX3_init 41 = .ok (.putfield 28, 3) := by decide +kernel
theorem dX3_init_44 : decode cX3_init 44 = .ok (.aload_n 0, 1) := by decide +kernel
theorem dX3_init_45 : decode cX3_init 45 = .ok (.bipush 72, 2) := by decide +kernel
theorem dX3_init_47 : decode cX3_init 47 = .ok (.newarray .int, 2) := by decide +kernel
theorem dX3_init_49 : decode cX3_init 49 = .ok (.putfield 31, 3) := by decide +kernel
theorem dX3_init_52 : decode cX3_init 52 = .ok (.aload_n 0, 1) := by decide +kernel
theorem dX3_init_53 : decode cX3_init 53 = .ok (.iconst 0, 1) := by decide +kernel
theorem dX3_init_54 : decode cX3_init 54 = .ok (.putfield 34, 3) := by decide +kernel
theorem dX3_init_57 : decode cX3_init 57 = .ok (.aload_n 0, 1) := by decide +kernel
theorem dX3_init_58 : decode cX3_init 58 = .ok (.bipush 72, 2) := by decide +kernel
theorem dX3_init_60 : decode cX3_init 60 = .ok (.newarray .int, 2) := by decide +kernel
theorem dX3_init_62 : decode cX3_init 62 = .ok (.putfield 37, 3) := by decide +kernel
theorem dX3_init_65 : decode cX3_init 65 = .ok (.aload_n 0, 1) := by decide +kernel
theorem dX3_init_66 : decode cX3_init 66 = .ok (.iconst (-1), 1) := by decide +kernel
theorem dX3_init_67 : decode cX3_init 67 = .ok (.putfield 40, 3) := by decide +kernel
theorem dX3_init_70 : decode cX3_init 70 = .ok (.aload_n 0, 1) := by decide +kernel
theorem dX3_init_71 : decode cX3_init 71 = .ok (.iconst (-1), 1) := by decide +kernel
theorem dX3_init_72 : decode cX3_init 72 = .ok (.putfield 43, 3) := by decide +kernel
theorem dX3_init_75 : decode cX3_init 75 = .ok (.aload_n 0, 1) := by decide +kernel
theorem dX3_init_76 : decode cX3_init 76 = .ok (.iconst 0, 1) := by decide +kernel
theorem dX3_init_77 : decode cX3_init 77 = .ok (.putfield 46, 3) := by decide +kernel
theorem dX3_init_80 : decode cX3_init 80 = .ok (.aload_n 0, 1) := by decide +kernel
theorem dX3_init_81 : decode cX3_init 81 = .ok (.iconst 0, 1) := by decide +kernel
theorem dX3_init_82 : decode cX3_init 82 = .ok (.newarray .int, 2) := by decide +kernel
theorem dX3_init_84 : decode cX3_init 84 = .ok (.putfield 49, 3) := by decide +kernel
theorem dX3_init_87 : decode cX3_init 87 = .ok (.aload_n 0, 1) := by decide +kernel
theorem dX3_init_88 : decode cX3_init 88 = .ok (.iconst 0, 1) := by decide +kernel
theorem dX3_init_89 : decode cX3_init 89 = .ok (.newarray .int, 2) := by decide +kernel
theorem dX3_init_91 : decode cX3_init 91 = .ok (.putfield 52, 3) := by decide +kernel
theorem dX3_init_94 : decode cX3_init 94 = .ok (.return_, 1) := by decide +kernel
theorem dX3_read_0 : decode cX3_read 0 = .ok (.aload_n 0, 1) := by decide +kernel
theorem dX3_read_1 : decode cX3_read 1 = .ok (.iconst 0, 1) := by decide +kernel
theorem dX3_read_2 : decode cX3_read 2 = .ok (.putfield 9, 3) := by decide +kernel
theorem dX3_read_5 : decode cX3_read 5 = .ok (.aload_n 0, 1) := by decide +kernel
theorem dX3_read_6 : decode cX3_read 6 = .ok (.iconst 0, 1) := by decide +kernel
theorem dX3_read_7 : decode cX3_read 7 = .ok (.putfield 22, 3) := by decide +kernel
theorem dX3_read_10 : decode cX3_read 10 = .ok (.aload_n 0, 1) := by decide +kernel
theorem dX3_read_11 : decode cX3_read 11 = .ok (.iconst 0, 1) := by decide +kernel
theorem dX3_read_12 : decode cX3_read 12 = .ok (.putfield 28, 3) := by decide +kernel
theorem dX3_read_15 : decode cX3_read 15 = .ok (.aload_n 0, 1) := by decide +kernel
theorem dX3_read_16 : decode cX3_read 16 = .ok (.iconst 0, 1) := by decide +kernel
theorem dX3_read_17 : decode cX3_read 17 = .ok (.putfield 34, 3) := by decide +kernel
theorem dX3_read_20 : decode cX3_read 20 = .ok (.aload_n 0, 1) := by decide +kernel
theorem dX3_read_21 : decode cX3_read 21 = .ok (.iconst (-1), 1) := by decide +kernel
theorem dX3_read_22 : decode cX3_read 22 = .ok (.putfield 40, 3) := by decide +kernel
theorem dX3_read_25 : decode cX3_read 25 = .ok (.aload_n 0, 1) := by decide +kernel
theorem dX3_read_26 : decode cX3_read 26 = .ok (.iconst (-1), 1) := by decide +kernel
theorem dX3_read_27 : decode cX3_read 27 = .ok (.putfield 43, 3) := by decide +kernel
theorem dX3_read_30 : decode cX3_read 30 = .ok (.aload_n 0, 1) := by decide +kernel
theorem dX3_read_31 : decode cX3_read 31 = .ok (.iconst 0, 1) := by decide +kernel
theorem dX3_read_32 : decode cX3_read 32 = .ok (.putfield 46, 3) := by decide +kernel
theorem dX3_read_35 : decode cX3_read 35 = .ok (.iconst 0, 1) := by decide +kernel
theorem dX3_read_36 : decode cX3_read 36 = .ok (.istore_n 2, 1) := by decide +kernel
theorem dX3_read_37 : decode cX3_read 37 = .ok (.iload_n 2, 1) := by decide +kernel
theorem dX3_read_38 : decode cX3_read 38 = .ok (.bipush 24, 2) := by decide +kernel
theorem dX3_read_40 : decode cX3_read 40 = .ok (.if_icmp .gt 38, 3) := by decide +kernel
theorem dX3_read_43 : decode cX3_read 43 = .ok (.aload_n 1, 1) := by decide +kernel
theorem dX3_read_44 : decode cX3_read 44 = .ok (.ldc 55, 2) := by decide +kernel
theorem dX3_read_46 : decode cX3_read 46 = .ok (.iload_n 2, 1) := by decide +kernel
theorem dX3_read_47 : decode cX3_read 47 = .ok (.bipush 24, 2) := by decide +kernel
theorem dX3_read_49 : decode cX3_read 49 = .ok (.invokevirtual 57, 3) := by decide +kernel
theorem dX3_read_52 : decode cX3_read 52 = .ok (.istore_n 3, 1) := by decide +kernel
theorem dX3_read_53 : decode cX3_read 53 = .ok (.iload_n 3, 1) := by decide +kernel
theorem dX3_read_54 : decode cX3_read 54 = .ok (.iconst (-1), 1) := by decide +kernel
theorem dX3_read_55 : decode cX3_read 55 = .ok (.if_icmp .ne 4, 3) := by decide +kernel
theorem dX3_read_58 : decode cX3_read 58 = .ok (.return_, 1) := by decide +kernel
theorem dX3_read_59 : decode cX3_read 59 = .ok (.aload_n 0, 1) := by decide +kernel
theorem dX3_read_60 : decode cX3_read 60 = .ok (.iload_n 3, 1) := by decide +kernel
theorem dX3_read_61 : decode cX3_read 61 = .ok (.aload_n 1, 1) := by decide +kernel
theorem dX3_read_62 : decode cX3_read 62 = .ok (.invokevirtual 63, 3) := by decide +kernel
theorem dX3_read_65 : decode cX3_read 65 = .ok (.aload_n 1, 1) := by decide +kernel
theorem dX3_read_66 : decode cX3_read 66 = .ok (.ldc 67, 2) := by decide +kernel
theorem dX3_read_68 : decode cX3_read 68 = .ok (.invokevirtual 69, 3) := by decide +kernel
theorem dX3_read_71 : decode cX3_read 71 = .ok (.pop, 1) := by decide +kernel
theorem dX3_read_72 : decode cX3_read 72 = .ok (.iinc 2 1, 3) := by decide +kernel
theorem dX3_read_75 : decode cX3_read 75 = .ok (.goto (-38), 3) := by decide +kernel
theorem dX3_read_78 : decode cX3_read 78 = .ok (.return_, 1) := by decide +kernel
theorem dX3_readClause_0 : decode cX3_readClause 0 = .ok (.iload_n 1, 1) := by decide +kernel
theorem dX3_readClause_1 : decode cX3_readClause 1 = .ok (.tableswitch 73 0 3 #[31, 39, 47, 55], 31) := by decide +kernel
theorem dX3_readClause_32 : decode cX3_readClause 32 = .ok (.aload_n 0, 1) := by decide +kernel
theorem dX3_readClause_33 : decode cX3_readClause 33 = .ok (.aload_n 2, 1) := by decide +kernel
theorem dX3_readClause_34 : decode cX3_readClause 34 = .ok (.invokevirtual 73, 3) := by decide +kernel
theorem dX3_readClause_37 : decode cX3_readClause 37 = .ok (.goto 42, 3) := by decide +kernel
theorem dX3_readClause_40 : decode cX3_readClause 40 = .ok (.aload_n 0, 1) := by decide +kernel
theorem dX3_readClause_41 : decode cX3_readClause 41 = .ok (.aload_n 2, 1) := by decide +kernel
theorem dX3_readClause_42 : decode cX3_readClause 42 = .ok (.invokevirtual 77, 3) := by decide +kernel
theorem dX3_readClause_45 : decode cX3_readClause 45 = .ok (.goto 34, 3) := by decide +kernel
theorem dX3_readClause_48 : decode cX3_readClause 48 = .ok (.aload_n 0, 1) := by decide +kernel
theorem dX3_readClause_49 : decode cX3_readClause 49 = .ok (.aload_n 2, 1) := by decide +kernel
theorem dX3_readClause_50 : decode cX3_readClause 50 = .ok (.invokevirtual 80, 3) := by decide +kernel
theorem dX3_readClause_53 : decode cX3_readClause 53 = .ok (.goto 26, 3) := by decide +kernel
theorem dX3_readClause_56 : decode cX3_readClause 56 = .ok (.aload_n 0, 1) := by decide +kernel
theorem dX3_readClause_57 : decode cX3_readClause 57 = .ok (.aload_n 2, 1) := by decide +kernel
theorem dX3_readClause_58 : decode cX3_readClause 58 = .ok (.iconst 0, 1) := by decide +kernel
theorem dX3_readClause_59 : decode cX3_readClause 59 = .ok (.aload_n 0, 1) := by decide +kernel
theorem dX3_readClause_60 : decode cX3_readClause 60 = .ok (.getfield 9, 3) := by decide +kernel
theorem dX3_readClause_63 : decode cX3_readClause 63 = .ok (.iconst 1, 1) := by decide +kernel
theorem dX3_readClause_64 : decode cX3_readClause 64 = .ok (.isub, 1) := by decide +kernel
theorem dX3_readClause_65 : decode cX3_readClause 65 = .ok (.invokevirtual 83, 3) := by decide +kernel
theorem dX3_readClause_68 : decode cX3_readClause 68 = .ok (.putfield 40, 3) := by decide +kernel
theorem dX3_readClause_71 : decode cX3_readClause 71 = .ok (.goto 8, 3) := by decide +kernel
theorem dX3_readClause_74 : decode cX3_readClause 74 = .ok (.aload_n 0, 1) := by decide +kernel
theorem dX3_readClause_75 : decode cX3_readClause 75 = .ok (.aload_n 2, 1) := by decide +kernel
theorem dX3_readClause_76 : decode cX3_readClause 76 = .ok (.invokevirtual 87, 3) := by decide +kernel
theorem dX3_readClause_79 : decode cX3_readClause 79 = .ok (.return_, 1) := by decide +kernel
theorem dX3_readThing_0 : decode cX3_readThing 0 = .ok (.aload_n 0, 1) := by decide +kernel
theorem dX3_readThing_1 : decode cX3_readThing 1 = .ok (.getfield 9, 3) := by decide +kernel
theorem dX3_readThing_4 : decode cX3_readThing 4 = .ok (.bipush 8, 2) := by decide +kernel
theorem dX3_readThing_6 : decode cX3_readThing 6 = .ok (.if_icmp .ne 13, 3) := by decide +kernel
theorem dX3_readThing_9 : decode cX3_readThing 9 = .ok (.aload_n 1, 1) := by decide +kernel
theorem dX3_readThing_10 : decode cX3_readThing 10 = .ok (.iconst 3, 1) := by decide +kernel
theorem dX3_readThing_11 : decode cX3_readThing 11 = .ok (.aload_n 1, 1) := by decide +kernel
theorem dX3_readThing_12 : decode cX3_readThing 12 = .ok (.getfield 90, 3) := by decide +kernel
theorem dX3_readThing_15 : decode cX3_readThing 15 = .ok (.invokevirtual 93, 3) := by decide +kernel
theorem dX3_readThing_18 : decode cX3_readThing 18 = .ok (.return_, 1) := by decide +kernel
theorem dX3_readThing_19 : decode cX3_readThing 19 = .ok (.aload_n 0, 1) := by decide +kernel
theorem dX3_readThing_20 : decode cX3_readThing 20 = .ok (.getfield 15, 3) := by decide +kernel
theorem dX3_readThing_23 : decode cX3_readThing 23 = .ok (.aload_n 0, 1) := by decide +kernel
theorem dX3_readThing_24 : decode cX3_readThing 24 = .ok (.getfield 9, 3) := by decide +kernel
theorem dX3_readThing_27 : decode cX3_readThing 27 = .ok (.aload_n 1, 1) := by decide +kernel
theorem dX3_readThing_28 : decode cX3_readThing 28 = .ok (.iconst 0, 1) := by decide +kernel
theorem dX3_readThing_29 : decode cX3_readThing 29 = .ok (.bipush 7, 2) := by decide +kernel
theorem dX3_readThing_31 : decode cX3_readThing 31 = .ok (.invokevirtual 83, 3) := by decide +kernel
theorem dX3_readThing_34 : decode cX3_readThing 34 = .ok (.iastore, 1) := by decide +kernel
theorem dX3_readThing_35 : decode cX3_readThing 35 = .ok (.aload_n 0, 1) := by decide +kernel
theorem dX3_readThing_36 : decode cX3_readThing 36 = .ok (.getfield 19, 3) := by decide +kernel
theorem dX3_readThing_39 : decode cX3_readThing 39 = .ok (.aload_n 0, 1) := by decide +kernel
theorem dX3_readThing_40 : decode cX3_readThing 40 = .ok (.getfield 9, 3) := by decide +kernel
theorem dX3_readThing_43 : decode cX3_readThing 43 = .ok (.aload_n 1, 1) := by decide +kernel
theorem dX3_readThing_44 : decode cX3_readThing 44 = .ok (.iconst 1, 1) := by decide +kernel
theorem dX3_readThing_45 : decode cX3_readThing 45 = .ok (.bipush 9, 2) := by decide +kernel
theorem dX3_readThing_47 : decode cX3_readThing 47 = .ok (.invokevirtual 83, 3) := by decide +kernel
theorem dX3_readThing_50 : decode cX3_readThing 50 = .ok (.iastore, 1) := by decide +kernel
theorem dX3_readThing_51 : decode cX3_readThing 51 = .ok (.aload_n 0, 1) := by decide +kernel
theorem dX3_readThing_52 : decode cX3_readThing 52 = .ok (.dup, 1) := by decide +kernel
theorem dX3_readThing_53 : decode cX3_readThing 53 = .ok (.getfield 9, 3) := by decide +kernel
theorem dX3_readThing_56 : decode cX3_readThing 56 = .ok (.iconst 1, 1) := by decide +kernel
theorem dX3_readThing_57 : decode cX3_readThing 57 = .ok (.iadd, 1) := by decide +kernel
theorem dX3_readThing_58 : decode cX3_readThing 58 = .ok (.putfield 9, 3) := by decide +kernel
theorem dX3_readThing_61 : decode cX3_readThing 61 = .ok (.return_, 1) := by decide +kernel
theorem dX3_readWay_0 : decode cX3_readWay 0 = .ok (.aload_n 0, 1) := by decide +kernel
theorem dX3_readWay_1 : decode cX3_readWay 1 = .ok (.getfield 22, 3) := by decide +kernel
theorem dX3_readWay_4 : decode cX3_readWay 4 = .ok (.bipush 7, 2) := by decide +kernel
theorem dX3_readWay_6 : decode cX3_readWay 6 = .ok (.imul, 1) := by decide +kernel
theorem dX3_readWay_7 : decode cX3_readWay 7 = .ok (.istore_n 2, 1) := by decide +kernel
theorem dX3_readWay_8 : decode cX3_readWay 8 = .ok (.aload_n 0, 1) := by decide +kernel
theorem dX3_readWay_9 : decode cX3_readWay 9 = .ok (.getfield 25, 3) := by decide +kernel
theorem dX3_readWay_12 : decode cX3_readWay 12 = .ok (.iload_n 2, 1) := by decide +kernel
theorem dX3_readWay_13 : decode cX3_readWay 13 = .ok (.aload_n 1, 1) := by decide +kernel
theorem dX3_readWay_14 : decode cX3_readWay 14 = .ok (.iconst 0, 1) := by decide +kernel
theorem dX3_readWay_15 : decode cX3_readWay 15 = .ok (.aload_n 0, 1) := by decide +kernel
theorem dX3_readWay_16 : decode cX3_readWay 16 = .ok (.getfield 9, 3) := by decide +kernel
theorem dX3_readWay_19 : decode cX3_readWay 19 = .ok (.iconst 1, 1) := by decide +kernel
theorem dX3_readWay_20 : decode cX3_readWay 20 = .ok (.isub, 1) := by decide +kernel
theorem dX3_readWay_21 : decode cX3_readWay 21 = .ok (.invokevirtual 83, 3) := by decide +kernel
theorem dX3_readWay_24 : decode cX3_readWay 24 = .ok (.iastore, 1) := by decide +kernel
theorem dX3_readWay_25 : decode cX3_readWay 25 = .ok (.aload_n 0, 1) := by decide +kernel
theorem dX3_readWay_26 : decode cX3_readWay 26 = .ok (.getfield 25, 3) := by decide +kernel
theorem dX3_readWay_29 : decode cX3_readWay 29 = .ok (.iload_n 2, 1) := by decide +kernel
theorem dX3_readWay_30 : decode cX3_readWay 30 = .ok (.iconst 1, 1) := by decide +kernel
theorem dX3_readWay_31 : decode cX3_readWay 31 = .ok (.iadd, 1) := by decide +kernel
theorem dX3_readWay_32 : decode cX3_readWay 32 = .ok (.aload_n 1, 1) := by decide +kernel
theorem dX3_readWay_33 : decode cX3_readWay 33 = .ok (.iconst 0, 1) := by decide +kernel
theorem dX3_readWay_34 : decode cX3_readWay 34 = .ok (.sipush 299, 3) := by decide +kernel
theorem dX3_readWay_37 : decode cX3_readWay 37 = .ok (.invokevirtual 83, 3) := by decide +kernel
theorem dX3_readWay_40 : decode cX3_readWay 40 = .ok (.iastore, 1) := by decide +kernel
theorem dX3_readWay_41 : decode cX3_readWay 41 = .ok (.aload_n 0, 1) := by decide +kernel
theorem dX3_readWay_42 : decode cX3_readWay 42 = .ok (.getfield 25, 3) := by decide +kernel
theorem dX3_readWay_45 : decode cX3_readWay 45 = .ok (.iload_n 2, 1) := by decide +kernel
theorem dX3_readWay_46 : decode cX3_readWay 46 = .ok (.iconst 2, 1) := by decide +kernel
theorem dX3_readWay_47 : decode cX3_readWay 47 = .ok (.iadd, 1) := by decide +kernel
theorem dX3_readWay_48 : decode cX3_readWay 48 = .ok (.aload_n 1, 1) := by decide +kernel
theorem dX3_readWay_49 : decode cX3_readWay 49 = .ok (.iconst 0, 1) := by decide +kernel
theorem dX3_readWay_50 : decode cX3_readWay 50 = .ok (.bipush 39, 2) := by decide +kernel
theorem dX3_readWay_52 : decode cX3_readWay 52 = .ok (.invokevirtual 83, 3) := by decide +kernel
theorem dX3_readWay_55 : decode cX3_readWay 55 = .ok (.iastore, 1) := by decide +kernel
theorem dX3_readWay_56 : decode cX3_readWay 56 = .ok (.aload_n 0, 1) := by decide +kernel
theorem dX3_readWay_57 : decode cX3_readWay 57 = .ok (.getfield 25, 3) := by decide +kernel
theorem dX3_readWay_60 : decode cX3_readWay 60 = .ok (.iload_n 2, 1) := by decide +kernel
theorem dX3_readWay_61 : decode cX3_readWay 61 = .ok (.iconst 3, 1) := by decide +kernel
theorem dX3_readWay_62 : decode cX3_readWay 62 = .ok (.iadd, 1) := by decide +kernel
theorem dX3_readWay_63 : decode cX3_readWay 63 = .ok (.aload_n 1, 1) := by decide +kernel
theorem dX3_readWay_64 : decode cX3_readWay 64 = .ok (.iconst 0, 1) := by decide +kernel
theorem dX3_readWay_65 : decode cX3_readWay 65 = .ok (.bipush 29, 2) := by decide +kernel
theorem dX3_readWay_67 : decode cX3_readWay 67 = .ok (.invokevirtual 83, 3) := by decide +kernel
theorem dX3_readWay_70 : decode cX3_readWay 70 = .ok (.iastore, 1) := by decide +kernel
theorem dX3_readWay_71 : decode cX3_readWay 71 = .ok (.aload_n 0, 1) := by decide +kernel
theorem dX3_readWay_72 : decode cX3_readWay 72 = .ok (.getfield 25, 3) := by decide +kernel
theorem dX3_readWay_75 : decode cX3_readWay 75 = .ok (.iload_n 2, 1) := by decide +kernel
theorem dX3_readWay_76 : decode cX3_readWay 76 = .ok (.iconst 4, 1) := by decide +kernel
theorem dX3_readWay_77 : decode cX3_readWay 77 = .ok (.iadd, 1) := by decide +kernel
theorem dX3_readWay_78 : decode cX3_readWay 78 = .ok (.aload_n 1, 1) := by decide +kernel
theorem dX3_readWay_79 : decode cX3_readWay 79 = .ok (.aload_n 0, 1) := by decide +kernel
theorem dX3_readWay_80 : decode cX3_readWay 80 = .ok (.getfield 25, 3) := by decide +kernel
theorem dX3_readWay_83 : decode cX3_readWay 83 = .ok (.iload_n 2, 1) := by decide +kernel
theorem dX3_readWay_84 : decode cX3_readWay 84 = .ok (.iconst 1, 1) := by decide +kernel
theorem dX3_readWay_85 : decode cX3_readWay 85 = .ok (.iadd, 1) := by decide +kernel
theorem dX3_readWay_86 : decode cX3_readWay 86 = .ok (.iaload, 1) := by decide +kernel
theorem dX3_readWay_87 : decode cX3_readWay 87 = .ok (.sipush 299, 3) := by decide +kernel
theorem dX3_readWay_90 : decode cX3_readWay 90 = .ok (.invokevirtual 83, 3) := by decide +kernel
theorem dX3_readWay_93 : decode cX3_readWay 93 = .ok (.iastore, 1) := by decide +kernel
theorem dX3_readWay_94 : decode cX3_readWay 94 = .ok (.aload_n 0, 1) := by decide +kernel
theorem dX3_readWay_95 : decode cX3_readWay 95 = .ok (.getfield 25, 3) := by decide +kernel
theorem dX3_readWay_98 : decode cX3_readWay 98 = .ok (.iload_n 2, 1) := by decide +kernel
theorem dX3_readWay_99 : decode cX3_readWay 99 = .ok (.iconst 5, 1) := by decide +kernel
theorem dX3_readWay_100 : decode cX3_readWay 100 = .ok (.iadd, 1) := by decide +kernel
theorem dX3_readWay_101 : decode cX3_readWay 101 = .ok (.aload_n 1, 1) := by decide +kernel
theorem dX3_readWay_102 : decode cX3_readWay 102 = .ok (.iconst 0, 1) := by decide +kernel
theorem dX3_readWay_103 : decode cX3_readWay 103 = .ok (.bipush 39, 2) := by decide +kernel
theorem dX3_readWay_105 : decode cX3_readWay 105 = .ok (.invokevirtual 83, 3) := by decide +kernel
theorem dX3_readWay_108 : decode cX3_readWay 108 = .ok (.iastore, 1) := by decide +kernel
theorem dX3_readWay_109 : decode cX3_readWay 109 = .ok (.aload_n 0, 1) := by decide +kernel
theorem dX3_readWay_110 : decode cX3_readWay 110 = .ok (.getfield 25, 3) := by decide +kernel
theorem dX3_readWay_113 : decode cX3_readWay 113 = .ok (.iload_n 2, 1) := by decide +kernel
theorem dX3_readWay_114 : decode cX3_readWay 114 = .ok (.bipush 6, 2) := by decide +kernel
theorem dX3_readWay_116 : decode cX3_readWay 116 = .ok (.iadd, 1) := by decide +kernel
theorem dX3_readWay_117 : decode cX3_readWay 117 = .ok (.aload_n 1, 1) := by decide +kernel
theorem dX3_readWay_118 : decode cX3_readWay 118 = .ok (.iconst 0, 1) := by decide +kernel
theorem dX3_readWay_119 : decode cX3_readWay 119 = .ok (.bipush 29, 2) := by decide +kernel
theorem dX3_readWay_121 : decode cX3_readWay 121 = .ok (.invokevirtual 83, 3) := by decide +kernel
theorem dX3_readWay_124 : decode cX3_readWay 124 = .ok (.iastore, 1) := by decide +kernel
theorem dX3_readWay_125 : decode cX3_readWay 125 = .ok (.aload_n 0, 1) := by decide +kernel
theorem dX3_readWay_126 : decode cX3_readWay 126 = .ok (.aload_n 0, 1) := by decide +kernel
theorem dX3_readWay_127 : decode cX3_readWay 127 = .ok (.getfield 46, 3) := by decide +kernel
theorem dX3_readWay_130 : decode cX3_readWay 130 = .ok (.aload_n 0, 1) := by decide +kernel
theorem dX3_readWay_131 : decode cX3_readWay 131 = .ok (.getfield 25, 3) := by decide +kernel
theorem dX3_readWay_134 : decode cX3_readWay 134 = .ok (.iload_n 2, 1) := by decide +kernel
theorem dX3_readWay_135 : decode cX3_readWay 135 = .ok (.iconst 4, 1) := by decide +kernel
theorem dX3_readWay_136 : decode cX3_readWay 136 = .ok (.iadd, 1) := by decide +kernel
theorem dX3_readWay_137 : decode cX3_readWay 137 = .ok (.iaload, 1) := by decide +kernel
theorem dX3_readWay_138 : decode cX3_readWay 138 = .ok (.invokestatic 97, 3) := by decide +kernel
theorem dX3_readWay_141 : decode cX3_readWay 141 = .ok (.putfield 46, 3) := by decide +kernel
theorem dX3_readWay_144 : decode cX3_readWay 144 = .ok (.aload_n 0, 1) := by decide +kernel
theorem dX3_readWay_145 : decode cX3_readWay 145 = .ok (.dup, 1) := by decide +kernel
theorem dX3_readWay_146 : decode cX3_readWay 146 = .ok (.getfield 22, 3) := by decide +kernel
theorem dX3_readWay_149 : decode cX3_readWay 149 = .ok (.iconst 1, 1) := by decide +kernel
theorem dX3_readWay_150 : decode cX3_readWay 150 = .ok (.iadd, 1) := by decide +kernel
theorem dX3_readWay_151 : decode cX3_readWay 151 = .ok (.putfield 22, 3) := by decide +kernel
theorem dX3_readWay_154 : decode cX3_readWay 154 = .ok (.return_, 1) := by decide +kernel
theorem dX3_readThrow_0 : decode cX3_readThrow 0 = .ok (.aload_n 0, 1) := by decide +kernel
theorem dX3_readThrow_1 : decode cX3_readThrow 1 = .ok (.getfield 28, 3) := by decide +kernel
theorem dX3_readThrow_4 : decode cX3_readThrow 4 = .ok (.iconst 3, 1) := by decide +kernel
theorem dX3_readThrow_5 : decode cX3_readThrow 5 = .ok (.imul, 1) := by decide +kernel
theorem dX3_readThrow_6 : decode cX3_readThrow 6 = .ok (.istore_n 2, 1) := by decide +kernel
theorem dX3_readThrow_7 : decode cX3_readThrow 7 = .ok (.aload_n 0, 1) := by decide +kernel
theorem dX3_readThrow_8 : decode cX3_readThrow 8 = .ok (.getfield 31, 3) := by decide +kernel
theorem dX3_readThrow_11 : decode cX3_readThrow 11 = .ok (.iload_n 2, 1) := by decide +kernel
theorem dX3_readThrow_12 : decode cX3_readThrow 12 = .ok (.aload_n 1, 1) := by decide +kernel
theorem dX3_readThrow_13 : decode cX3_readThrow 13 = .ok (.iconst 0, 1) := by decide +kernel
theorem dX3_readThrow_14 : decode cX3_readThrow 14 = .ok (.aload_n 0, 1) := by decide +kernel
theorem dX3_readThrow_15 : decode cX3_readThrow 15 = .ok (.getfield 9, 3) := by decide +kernel
theorem dX3_readThrow_18 : decode cX3_readThrow 18 = .ok (.iconst 1, 1) := by decide +kernel
theorem dX3_readThrow_19 : decode cX3_readThrow 19 = .ok (.isub, 1) := by decide +kernel
theorem dX3_readThrow_20 : decode cX3_readThrow 20 = .ok (.invokevirtual 83, 3) := by decide +kernel
theorem dX3_readThrow_23 : decode cX3_readThrow 23 = .ok (.iastore, 1) := by decide +kernel
theorem dX3_readThrow_24 : decode cX3_readThrow 24 = .ok (.aload_n 0, 1) := by decide +kernel
theorem dX3_readThrow_25 : decode cX3_readThrow 25 = .ok (.getfield 31, 3) := by decide +kernel
theorem dX3_readThrow_28 : decode cX3_readThrow 28 = .ok (.iload_n 2, 1) := by decide +kernel
theorem dX3_readThrow_29 : decode cX3_readThrow 29 = .ok (.iconst 1, 1) := by decide +kernel
theorem dX3_readThrow_30 : decode cX3_readThrow 30 = .ok (.iadd, 1) := by decide +kernel
theorem dX3_readThrow_31 : decode cX3_readThrow 31 = .ok (.aload_n 1, 1) := by decide +kernel
theorem dX3_readThrow_32 : decode cX3_readThrow 32 = .ok (.iconst 0, 1) := by decide +kernel
theorem dX3_readThrow_33 : decode cX3_readThrow 33 = .ok (.aload_n 0, 1) := by decide +kernel
theorem dX3_readThrow_34 : decode cX3_readThrow 34 = .ok (.getfield 9, 3) := by decide +kernel
theorem dX3_readThrow_37 : decode cX3_readThrow 37 = .ok (.iconst 1, 1) := by decide +kernel
theorem dX3_readThrow_38 : decode cX3_readThrow 38 = .ok (.isub, 1) := by decide +kernel
theorem dX3_readThrow_39 : decode cX3_readThrow 39 = .ok (.invokevirtual 83, 3) := by decide +kernel
theorem dX3_readThrow_42 : decode cX3_readThrow 42 = .ok (.iastore, 1) := by decide +kernel
theorem dX3_readThrow_43 : decode cX3_readThrow 43 = .ok (.aload_n 0, 1) := by decide +kernel
theorem dX3_readThrow_44 : decode cX3_readThrow 44 = .ok (.getfield 31, 3) := by decide +kernel
theorem dX3_readThrow_47 : decode cX3_readThrow 47 = .ok (.iload_n 2, 1) := by decide +kernel
theorem dX3_readThrow_48 : decode cX3_readThrow 48 = .ok (.iconst 1, 1) := by decide +kernel
theorem dX3_readThrow_49 : decode cX3_readThrow 49 = .ok (.iadd, 1) := by decide +kernel
theorem dX3_readThrow_50 : decode cX3_readThrow 50 = .ok (.iaload, 1) := by decide +kernel
theorem dX3_readThrow_51 : decode cX3_readThrow 51 = .ok (.aload_n 0, 1) := by decide +kernel
theorem dX3_readThrow_52 : decode cX3_readThrow 52 = .ok (.getfield 31, 3) := by decide +kernel
theorem dX3_readThrow_55 : decode cX3_readThrow 55 = .ok (.iload_n 2, 1) := by decide +kernel
theorem dX3_readThrow_56 : decode cX3_readThrow 56 = .ok (.iaload, 1) := by decide +kernel
theorem dX3_readThrow_57 : decode cX3_readThrow 57 = .ok (.if_icmp .ne 12, 3) := by decide +kernel
theorem dX3_readThrow_60 : decode cX3_readThrow 60 = .ok (.aload_n 1, 1) := by decide +kernel
theorem dX3_readThrow_61 : decode cX3_readThrow 61 = .ok (.iconst 2, 1) := by decide +kernel
theorem dX3_readThrow_62 : decode cX3_readThrow 62 = .ok (.aload_n 1, 1) := by decide +kernel
theorem dX3_readThrow_63 : decode cX3_readThrow 63 = .ok (.getfield 90, 3) := by decide +kernel
theorem dX3_readThrow_66 : decode cX3_readThrow 66 = .ok (.invokevirtual 93, 3) := by decide +kernel
theorem dX3_readThrow_69 : decode cX3_readThrow 69 = .ok (.aload_n 0, 1) := by decide +kernel
theorem dX3_readThrow_70 : decode cX3_readThrow 70 = .ok (.getfield 31, 3) := by decide +kernel
theorem dX3_readThrow_73 : decode cX3_readThrow 73 = .ok (.iload_n 2, 1) := by decide +kernel
theorem dX3_readThrow_74 : decode cX3_readThrow 74 = .ok (.iconst 2, 1) := by decide +kernel
theorem dX3_readThrow_75 : decode cX3_readThrow 75 = .ok (.iadd, 1) := by decide +kernel
theorem dX3_readThrow_76 : decode cX3_readThrow 76 = .ok (.aload_n 1, 1) := by decide +kernel
theorem dX3_readThrow_77 : decode cX3_readThrow 77 = .ok (.iconst 0, 1) := by decide +kernel
theorem dX3_readThrow_78 : decode cX3_readThrow 78 = .ok (.sipush 299, 3) := by decide +kernel
theorem dX3_readThrow_81 : decode cX3_readThrow 81 = .ok (.invokevirtual 83, 3) := by decide +kernel
theorem dX3_readThrow_84 : decode cX3_readThrow 84 = .ok (.iastore, 1) := by decide +kernel
theorem dX3_readThrow_85 : decode cX3_readThrow 85 = .ok (.aload_n 0, 1) := by decide +kernel
theorem dX3_readThrow_86 : decode cX3_readThrow 86 = .ok (.dup, 1) := by decide +kernel
theorem dX3_readThrow_87 : decode cX3_readThrow 87 = .ok (.getfield 28, 3) := by decide +kernel
theorem dX3_readThrow_90 : decode cX3_readThrow 90 = .ok (.iconst 1, 1) := by decide +kernel
theorem dX3_readThrow_91 : decode cX3_readThrow 91 = .ok (.iadd, 1) := by decide +kernel
theorem dX3_readThrow_92 : decode cX3_readThrow 92 = .ok (.putfield 28, 3) := by decide +kernel
theorem dX3_readThrow_95 : decode cX3_readThrow 95 = .ok (.return_, 1) := by decide +kernel
theorem dX3_readTurn_0 : decode cX3_readTurn 0 = .ok (.aload_n 0, 1) := by decide +kernel
theorem dX3_readTurn_1 : decode cX3_readTurn 1 = .ok (.getfield 34, 3) := by decide +kernel
theorem dX3_readTurn_4 : decode cX3_readTurn 4 = .ok (.iconst 3, 1) := by decide +kernel
theorem dX3_readTurn_5 : decode cX3_readTurn 5 = .ok (.imul, 1) := by decide +kernel
theorem dX3_readTurn_6 : decode cX3_readTurn 6 = .ok (.istore_n 2, 1) := by decide +kernel
theorem dX3_readTurn_7 : decode cX3_readTurn 7 = .ok (.aload_n 0, 1) := by decide +kernel
theorem dX3_readTurn_8 : decode cX3_readTurn 8 = .ok (.getfield 37, 3) := by decide +kernel
theorem dX3_readTurn_11 : decode cX3_readTurn 11 = .ok (.iload_n 2, 1) := by decide +kernel
theorem dX3_readTurn_12 : decode cX3_readTurn 12 = .ok (.aload_n 1, 1) := by decide +kernel
theorem dX3_readTurn_13 : decode cX3_readTurn 13 = .ok (.iconst 0, 1) := by decide +kernel
theorem dX3_readTurn_14 : decode cX3_readTurn 14 = .ok (.aload_n 0, 1) := by decide +kernel
theorem dX3_readTurn_15 : decode cX3_readTurn 15 = .ok (.getfield 9, 3) := by decide +kernel
theorem dX3_readTurn_18 : decode cX3_readTurn 18 = .ok (.iconst 1, 1) := by decide +kernel
theorem dX3_readTurn_19 : decode cX3_readTurn 19 = .ok (.isub, 1) := by decide +kernel
theorem dX3_readTurn_20 : decode cX3_readTurn 20 = .ok (.invokevirtual 83, 3) := by decide +kernel
theorem dX3_readTurn_23 : decode cX3_readTurn 23 = .ok (.iastore, 1) := by decide +kernel
theorem dX3_readTurn_24 : decode cX3_readTurn 24 = .ok (.aload_n 0, 1) := by decide +kernel
theorem dX3_readTurn_25 : decode cX3_readTurn 25 = .ok (.getfield 37, 3) := by decide +kernel
theorem dX3_readTurn_28 : decode cX3_readTurn 28 = .ok (.iload_n 2, 1) := by decide +kernel
theorem dX3_readTurn_29 : decode cX3_readTurn 29 = .ok (.iconst 1, 1) := by decide +kernel
theorem dX3_readTurn_30 : decode cX3_readTurn 30 = .ok (.iadd, 1) := by decide +kernel
theorem dX3_readTurn_31 : decode cX3_readTurn 31 = .ok (.aload_n 1, 1) := by decide +kernel
theorem dX3_readTurn_32 : decode cX3_readTurn 32 = .ok (.iconst 0, 1) := by decide +kernel
theorem dX3_readTurn_33 : decode cX3_readTurn 33 = .ok (.sipush 299, 3) := by decide +kernel
theorem dX3_readTurn_36 : decode cX3_readTurn 36 = .ok (.invokevirtual 83, 3) := by decide +kernel
theorem dX3_readTurn_39 : decode cX3_readTurn 39 = .ok (.iastore, 1) := by decide +kernel
theorem dX3_readTurn_40 : decode cX3_readTurn 40 = .ok (.aload_n 0, 1) := by decide +kernel
theorem dX3_readTurn_41 : decode cX3_readTurn 41 = .ok (.getfield 37, 3) := by decide +kernel
theorem dX3_readTurn_44 : decode cX3_readTurn 44 = .ok (.iload_n 2, 1) := by decide +kernel
theorem dX3_readTurn_45 : decode cX3_readTurn 45 = .ok (.iconst 2, 1) := by decide +kernel
theorem dX3_readTurn_46 : decode cX3_readTurn 46 = .ok (.iadd, 1) := by decide +kernel
theorem dX3_readTurn_47 : decode cX3_readTurn 47 = .ok (.aload_n 1, 1) := by decide +kernel
theorem dX3_readTurn_48 : decode cX3_readTurn 48 = .ok (.iconst 0, 1) := by decide +kernel
theorem dX3_readTurn_49 : decode cX3_readTurn 49 = .ok (.bipush 7, 2) := by decide +kernel
theorem dX3_readTurn_51 : decode cX3_readTurn 51 = .ok (.invokevirtual 83, 3) := by decide +kernel
theorem dX3_readTurn_54 : decode cX3_readTurn 54 = .ok (.iastore, 1) := by decide +kernel
theorem dX3_readTurn_55 : decode cX3_readTurn 55 = .ok (.aload_n 0, 1) := by decide +kernel
theorem dX3_readTurn_56 : decode cX3_readTurn 56 = .ok (.getfield 43, 3) := by decide +kernel
theorem dX3_readTurn_59 : decode cX3_readTurn 59 = .ok (.iconst (-1), 1) := by decide +kernel
theorem dX3_readTurn_60 : decode cX3_readTurn 60 = .ok (.if_icmp .ne 13, 3) := by decide +kernel
theorem dX3_readTurn_63 : decode cX3_readTurn 63 = .ok (.aload_n 0, 1) := by decide +kernel
theorem dX3_readTurn_64 : decode cX3_readTurn 64 = .ok (.aload_n 0, 1) := by decide +kernel
theorem dX3_readTurn_65 : decode cX3_readTurn 65 = .ok (.getfield 37, 3) := by decide +kernel
theorem dX3_readTurn_68 : decode cX3_readTurn 68 = .ok (.iload_n 2, 1) := by decide +kernel
theorem dX3_readTurn_69 : decode cX3_readTurn 69 = .ok (.iaload, 1) := by decide +kernel
theorem dX3_readTurn_70 : decode cX3_readTurn 70 = .ok (.putfield 43, 3) := by decide +kernel
theorem dX3_readTurn_73 : decode cX3_readTurn 73 = .ok (.aload_n 0, 1) := by decide +kernel
theorem dX3_readTurn_74 : decode cX3_readTurn 74 = .ok (.dup, 1) := by decide +kernel
theorem dX3_readTurn_75 : decode cX3_readTurn 75 = .ok (.getfield 34, 3) := by decide +kernel
theorem dX3_readTurn_78 : decode cX3_readTurn 78 = .ok (.iconst 1, 1) := by decide +kernel
theorem dX3_readTurn_79 : decode cX3_readTurn 79 = .ok (.iadd, 1) := by decide +kernel
theorem dX3_readTurn_80 : decode cX3_readTurn 80 = .ok (.putfield 34, 3) := by decide +kernel
theorem dX3_readTurn_83 : decode cX3_readTurn 83 = .ok (.return_, 1) := by decide +kernel
theorem dX3_settle_0 : decode cX3_settle 0 = .ok (.aload_n 0, 1) := by decide +kernel
theorem dX3_settle_1 : decode cX3_settle 1 = .ok (.aload_n 0, 1) := by decide +kernel
theorem dX3_settle_2 : decode cX3_settle 2 = .ok (.getfield 9, 3) := by decide +kernel
theorem dX3_settle_5 : decode cX3_settle 5 = .ok (.sipush 300, 3) := by decide +kernel
theorem dX3_settle_8 : decode cX3_settle 8 = .ok (.imul, 1) := by decide +kernel
theorem dX3_settle_9 : decode cX3_settle 9 = .ok (.newarray .int, 2) := by decide +kernel
theorem dX3_settle_11 : decode cX3_settle 11 = .ok (.putfield 49, 3) := by decide +kernel
theorem dX3_settle_14 : decode cX3_settle 14 = .ok (.aload_n 0, 1) := by decide +kernel
theorem dX3_settle_15 : decode cX3_settle 15 = .ok (.aload_n 0, 1) := by decide +kernel
theorem dX3_settle_16 : decode cX3_settle 16 = .ok (.getfield 9, 3) := by decide +kernel
theorem dX3_settle_19 : decode cX3_settle 19 = .ok (.sipush 300, 3) := by decide +kernel
theorem dX3_settle_22 : decode cX3_settle 22 = .ok (.imul, 1) := by decide +kernel
theorem dX3_settle_23 : decode cX3_settle 23 = .ok (.newarray .int, 2) := by decide +kernel
theorem dX3_settle_25 : decode cX3_settle 25 = .ok (.putfield 52, 3) := by decide +kernel
theorem dX3_settle_28 : decode cX3_settle 28 = .ok (.iconst 0, 1) := by decide +kernel
theorem dX3_settle_29 : decode cX3_settle 29 = .ok (.istore_n 1, 1) := by decide +kernel
theorem dX3_settle_30 : decode cX3_settle 30 = .ok (.iload_n 1, 1) := by decide +kernel
theorem dX3_settle_31 : decode cX3_settle 31 = .ok (.aload_n 0, 1) := by decide +kernel
theorem dX3_settle_32 : decode cX3_settle 32 = .ok (.getfield 9, 3) := by decide +kernel
theorem dX3_settle_35 : decode cX3_settle 35 = .ok (.sipush 300, 3) := by decide +kernel
theorem dX3_settle_38 : decode cX3_settle 38 = .ok (.imul, 1) := by decide +kernel
theorem dX3_settle_39 : decode cX3_settle 39 = .ok (.if_icmp .ge 23, 3) := by decide +kernel
theorem dX3_settle_42 : decode cX3_settle 42 = .ok (.aload_n 0, 1) := by decide +kernel
theorem dX3_settle_43 : decode cX3_settle 43 = .ok (.getfield 49, 3) := by decide +kernel
theorem dX3_settle_46 : decode cX3_settle 46 = .ok (.iload_n 1, 1) := by decide +kernel
theorem dX3_settle_47 : decode cX3_settle 47 = .ok (.iconst (-1), 1) := by decide +kernel
theorem dX3_settle_48 : decode cX3_settle 48 = .ok (.iastore, 1) := by decide +kernel
theorem dX3_settle_49 : decode cX3_settle 49 = .ok (.aload_n 0, 1) := by decide +kernel
theorem dX3_settle_50 : decode cX3_settle 50 = .ok (.getfield 52, 3) := by decide +kernel
theorem dX3_settle_53 : decode cX3_settle 53 = .ok (.iload_n 1, 1) := by decide +kernel
theorem dX3_settle_54 : decode cX3_settle 54 = .ok (.iconst (-1), 1) := by decide +kernel
theorem dX3_settle_55 : decode cX3_settle 55 = .ok (.iastore, 1) := by decide +kernel
theorem dX3_settle_56 : decode cX3_settle 56 = .ok (.iinc 1 1, 3) := by decide +kernel
theorem dX3_settle_59 : decode cX3_settle 59 = .ok (.goto (-29), 3) := by decide +kernel
theorem dX3_settle_62 : decode cX3_settle 62 = .ok (.iconst 0, 1) := by decide +kernel
theorem dX3_settle_63 : decode cX3_settle 63 = .ok (.istore_n 1, 1) := by decide +kernel
theorem dX3_settle_64 : decode cX3_settle 64 = .ok (.iload_n 1, 1) := by decide +kernel
theorem dX3_settle_65 : decode cX3_settle 65 = .ok (.aload_n 0, 1) := by decide +kernel
theorem dX3_settle_66 : decode cX3_settle 66 = .ok (.getfield 22, 3) := by decide +kernel
theorem dX3_settle_69 : decode cX3_settle 69 = .ok (.if_icmp .ge 17, 3) := by decide +kernel
theorem dX3_settle_72 : decode cX3_settle 72 = .ok (.aload_n 0, 1) := by decide +kernel
theorem dX3_settle_73 : decode cX3_settle 73 = .ok (.iload_n 1, 1) := by decide +kernel
theorem dX3_settle_74 : decode cX3_settle 74 = .ok (.bipush 7, 2) := by decide +kernel
theorem dX3_settle_76 : decode cX3_settle 76 = .ok (.imul, 1) := by decide +kernel
theorem dX3_settle_77 : decode cX3_settle 77 = .ok (.invokevirtual 102, 3) := by decide +kernel
theorem dX3_settle_80 : decode cX3_settle 80 = .ok (.iinc 1 1, 3) := by decide +kernel
theorem dX3_settle_83 : decode cX3_settle 83 = .ok (.goto (-19), 3) := by decide +kernel
theorem dX3_settle_86 : decode cX3_settle 86 = .ok (.iconst 0, 1) := by decide +kernel
theorem dX3_settle_87 : decode cX3_settle 87 = .ok (.istore_n 1, 1) := by decide +kernel
theorem dX3_settle_88 : decode cX3_settle 88 = .ok (.iload_n 1, 1) := by decide +kernel
theorem dX3_settle_89 : decode cX3_settle 89 = .ok (.aload_n 0, 1) := by decide +kernel
theorem dX3_settle_90 : decode cX3_settle 90 = .ok (.getfield 34, 3) := by decide +kernel
theorem dX3_settle_93 : decode cX3_settle 93 = .ok (.if_icmp .ge 45, 3) := by decide +kernel
theorem dX3_settle_96 : decode cX3_settle 96 = .ok (.iload_n 1, 1) := by decide +kernel
theorem dX3_settle_97 : decode cX3_settle 97 = .ok (.iconst 3, 1) := by decide +kernel
theorem dX3_settle_98 : decode cX3_settle 98 = .ok (.imul, 1) := by decide +kernel
theorem dX3_settle_99 : decode cX3_settle 99 = .ok (.istore_n 2, 1) := by decide +kernel
theorem dX3_settle_100 : decode cX3_settle 100 = .ok (.aload_n 0, 1) := by decide +kernel
theorem dX3_settle_101 : decode cX3_settle 101 = .ok (.getfield 52, 3) := by decide +kernel
theorem dX3_settle_104 : decode cX3_settle 104 = .ok (.aload_n 0, 1) := by decide +kernel
theorem dX3_settle_105 : decode cX3_settle 105 = .ok (.getfield 37, 3) := by decide +kernel
theorem dX3_settle_108 : decode cX3_settle 108 = .ok (.iload_n 2, 1) := by decide +kernel
theorem dX3_settle_109 : decode cX3_settle 109 = .ok (.iaload, 1) := by decide +kernel
theorem dX3_settle_110 : decode cX3_settle 110 = .ok (.sipush 300, 3) := by decide +kernel
theorem dX3_settle_113 : decode cX3_settle 113 = .ok (.imul, 1) := by decide +kernel
theorem dX3_settle_114 : decode cX3_settle 114 = .ok (.aload_n 0, 1) := by decide +kernel
theorem dX3_settle_115 : decode cX3_settle 115 = .ok (.getfield 37, 3) := by decide +kernel
theorem dX3_settle_118 : decode cX3_settle 118 = .ok (.iload_n 2, 1) := by decide +kernel
theorem dX3_settle_119 : decode cX3_settle 119 = .ok (.iconst 1, 1) := by decide +kernel
theorem dX3_settle_120 : decode cX3_settle 120 = .ok (.iadd, 1) := by decide +kernel
theorem dX3_settle_121 : decode cX3_settle 121 = .ok (.iaload, 1) := by decide +kernel
theorem dX3_settle_122 : decode cX3_settle 122 = .ok (.iadd, 1) := by decide +kernel
theorem dX3_settle_123 : decode cX3_settle 123 = .ok (.aload_n 0, 1) := by decide +kernel
theorem dX3_settle_124 : decode cX3_settle 124 = .ok (.getfield 37, 3) := by decide +kernel
theorem dX3_settle_127 : decode cX3_settle 127 = .ok (.iload_n 2, 1) := by decide +kernel
theorem dX3_settle_128 : decode cX3_settle 128 = .ok (.iconst 2, 1) := by decide +kernel
theorem dX3_settle_129 : decode cX3_settle 129 = .ok (.iadd, 1) := by decide +kernel
theorem dX3_settle_130 : decode cX3_settle 130 = .ok (.iaload, 1) := by decide +kernel
theorem dX3_settle_131 : decode cX3_settle 131 = .ok (.iastore, 1) := by decide +kernel
theorem dX3_settle_132 : decode cX3_settle 132 = .ok (.iinc 1 1, 3) := by decide +kernel
theorem dX3_settle_135 : decode cX3_settle 135 = .ok (.goto (-47), 3) := by decide +kernel
theorem dX3_settle_138 : decode cX3_settle 138 = .ok (.iconst 0, 1) := by decide +kernel
theorem dX3_settle_139 : decode cX3_settle 139 = .ok (.istore_n 1, 1) := by decide +kernel
theorem dX3_settle_140 : decode cX3_settle 140 = .ok (.iload_n 1, 1) := by decide +kernel
theorem dX3_settle_141 : decode cX3_settle 141 = .ok (.aload_n 0, 1) := by decide +kernel
theorem dX3_settle_142 : decode cX3_settle 142 = .ok (.getfield 9, 3) := by decide +kernel
theorem dX3_settle_145 : decode cX3_settle 145 = .ok (.if_icmp .ge 14, 3) := by decide +kernel
theorem dX3_settle_148 : decode cX3_settle 148 = .ok (.aload_n 0, 1) := by decide +kernel
theorem dX3_settle_149 : decode cX3_settle 149 = .ok (.iload_n 1, 1) := by decide +kernel
theorem dX3_settle_150 : decode cX3_settle 150 = .ok (.invokevirtual 106, 3) := by decide +kernel
theorem dX3_settle_153 : decode cX3_settle 153 = .ok (.iinc 1 1, 3) := by decide +kernel
theorem dX3_settle_156 : decode cX3_settle 156 = .ok (.goto (-16), 3) := by decide +kernel
theorem dX3_settle_159 : decode cX3_settle 159 = .ok (.return_, 1) := by decide +kernel
theorem dX3_settleWay_0 : decode cX3_settleWay 0 = .ok (.aload_n 0, 1) := by decide +kernel
theorem dX3_settleWay_1 : decode cX3_settleWay 1 = .ok (.getfield 25, 3) := by decide +kernel
theorem dX3_settleWay_4 : decode cX3_settleWay 4 = .ok (.iload_n 1, 1) := by decide +kernel
theorem dX3_settleWay_5 : decode cX3_settleWay 5 = .ok (.iconst 1, 1) := by decide +kernel
theorem dX3_settleWay_6 : decode cX3_settleWay 6 = .ok (.iadd, 1) := by decide +kernel
theorem dX3_settleWay_7 : decode cX3_settleWay 7 = .ok (.iaload, 1) := by decide +kernel
theorem dX3_settleWay_8 : decode cX3_settleWay 8 = .ok (.istore_n 2, 1) := by decide +kernel
theorem dX3_settleWay_9 : decode cX3_settleWay 9 = .ok (.aload_n 0, 1) := by decide +kernel
theorem dX3_settleWay_10 : decode cX3_settleWay 10 = .ok (.getfield 25, 3) := by decide +kernel
theorem dX3_settleWay_13 : decode cX3_settleWay 13 = .ok (.iload_n 1, 1) := by decide +kernel
theorem dX3_settleWay_14 : decode cX3_settleWay 14 = .ok (.iconst 4, 1) := by decide +kernel
theorem dX3_settleWay_15 : decode cX3_settleWay 15 = .ok (.iadd, 1) := by decide +kernel
theorem dX3_settleWay_16 : decode cX3_settleWay 16 = .ok (.iaload, 1) := by decide +kernel
theorem dX3_settleWay_17 : decode cX3_settleWay 17 = .ok (.iload_n 2, 1) := by decide +kernel
theorem dX3_settleWay_18 : decode cX3_settleWay 18 = .ok (.isub, 1) := by decide +kernel
theorem dX3_settleWay_19 : decode cX3_settleWay 19 = .ok (.istore_n 3, 1) := by decide +kernel
theorem dX3_settleWay_20 : decode cX3_settleWay 20 = .ok (.iconst 0, 1) := by decide +kernel
theorem dX3_settleWay_21 : decode cX3_settleWay 21 = .ok (.istore 4, 2) := by decide +kernel
theorem dX3_settleWay_23 : decode cX3_settleWay 23 = .ok (.iload 4, 2) := by decide +kernel
theorem dX3_settleWay_25 : decode cX3_settleWay 25 = .ok (.iload_n 3, 1) := by decide +kernel
theorem dX3_settleWay_26 : decode cX3_settleWay 26 = .ok (.if_icmp .gt 106, 3) := by decide +kernel
theorem dX3_settleWay_29 : decode cX3_settleWay 29 = .ok (.aload_n 0, 1) := by decide +kernel
theorem dX3_settleWay_30 : decode cX3_settleWay 30 = .ok (.getfield 25, 3) := by decide +kernel
theorem dX3_settleWay_33 : decode cX3_settleWay 33 = .ok (.iload_n 1, 1) := by decide +kernel
theorem dX3_settleWay_34 : decode cX3_settleWay 34 = .ok (.iconst 2, 1) := by decide +kernel
theorem dX3_settleWay_35 : decode cX3_settleWay 35 = .ok (.iadd, 1) := by decide +kernel
theorem dX3_settleWay_36 : decode cX3_settleWay 36 = .ok (.iaload, 1) := by decide +kernel
theorem dX3_settleWay_37 : decode cX3_settleWay 37 = .ok (.aload_n 0, 1) := by decide +kernel
theorem dX3_settleWay_38 : decode cX3_settleWay 38 = .ok (.getfield 25, 3) := by decide +kernel
theorem dX3_settleWay_41 : decode cX3_settleWay 41 = .ok (.iload_n 1, 1) := by decide +kernel
theorem dX3_settleWay_42 : decode cX3_settleWay 42 = .ok (.iconst 5, 1) := by decide +kernel
theorem dX3_settleWay_43 : decode cX3_settleWay 43 = .ok (.iadd, 1) := by decide +kernel
theorem dX3_settleWay_44 : decode cX3_settleWay 44 = .ok (.iaload, 1) := by decide +kernel
theorem dX3_settleWay_45 : decode cX3_settleWay 45 = .ok (.aload_n 0, 1) := by decide +kernel
theorem dX3_settleWay_46 : decode cX3_settleWay 46 = .ok (.getfield 25, 3) := by decide +kernel
theorem dX3_settleWay_49 : decode cX3_settleWay 49 = .ok (.iload_n 1, 1) := by decide +kernel
theorem dX3_settleWay_50 : decode cX3_settleWay 50 = .ok (.iconst 2, 1) := by decide +kernel
theorem dX3_settleWay_51 : decode cX3_settleWay 51 = .ok (.iadd, 1) := by decide +kernel
theorem dX3_settleWay_52 : decode cX3_settleWay 52 = .ok (.iaload, 1) := by decide +kernel
theorem dX3_settleWay_53 : decode cX3_settleWay 53 = .ok (.isub, 1) := by decide +kernel
theorem dX3_settleWay_54 : decode cX3_settleWay 54 = .ok (.iload 4, 2) := by decide +kernel
theorem dX3_settleWay_56 : decode cX3_settleWay 56 = .ok (.iload_n 3, 1) := by decide +kernel
theorem dX3_settleWay_57 : decode cX3_settleWay 57 = .ok (.invokestatic 109, 3) := by decide +kernel
theorem dX3_settleWay_60 : decode cX3_settleWay 60 = .ok (.iadd, 1) := by decide +kernel
theorem dX3_settleWay_61 : decode cX3_settleWay 61 = .ok (.istore 5, 2) := by decide +kernel
theorem dX3_settleWay_63 : decode cX3_settleWay 63 = .ok (.aload_n 0, 1) := by decide +kernel
theorem dX3_settleWay_64 : decode cX3_settleWay 64 = .ok (.getfield 25, 3) := by decide +kernel
theorem dX3_settleWay_67 : decode cX3_settleWay 67 = .ok (.iload_n 1, 1) := by decide +kernel
theorem dX3_settleWay_68 : decode cX3_settleWay 68 = .ok (.iconst 3, 1) := by decide +kernel
theorem dX3_settleWay_69 : decode cX3_settleWay 69 = .ok (.iadd, 1) := by decide +kernel
theorem dX3_settleWay_70 : decode cX3_settleWay 70 = .ok (.iaload, 1) := by decide +kernel
theorem dX3_settleWay_71 : decode cX3_settleWay 71 = .ok (.aload_n 0, 1) := by decide +kernel
theorem dX3_settleWay_72 : decode cX3_settleWay 72 = .ok (.getfield 25, 3) := by decide +kernel
theorem dX3_settleWay_75 : decode cX3_settleWay 75 = .ok (.iload_n 1, 1) := by decide +kernel
theorem dX3_settleWay_76 : decode cX3_settleWay 76 = .ok (.bipush 6, 2) := by decide +kernel
theorem dX3_settleWay_78 : decode cX3_settleWay 78 = .ok (.iadd, 1) := by decide +kernel
theorem dX3_settleWay_79 : decode cX3_settleWay 79 = .ok (.iaload, 1) := by decide +kernel
theorem dX3_settleWay_80 : decode cX3_settleWay 80 = .ok (.aload_n 0, 1) := by decide +kernel
theorem dX3_settleWay_81 : decode cX3_settleWay 81 = .ok (.getfield 25, 3) := by decide +kernel
theorem dX3_settleWay_84 : decode cX3_settleWay 84 = .ok (.iload_n 1, 1) := by decide +kernel
theorem dX3_settleWay_85 : decode cX3_settleWay 85 = .ok (.iconst 3, 1) := by decide +kernel
theorem dX3_settleWay_86 : decode cX3_settleWay 86 = .ok (.iadd, 1) := by decide +kernel
theorem dX3_settleWay_87 : decode cX3_settleWay 87 = .ok (.iaload, 1) := by decide +kernel
theorem dX3_settleWay_88 : decode cX3_settleWay 88 = .ok (.isub, 1) := by decide +kernel
theorem dX3_settleWay_89 : decode cX3_settleWay 89 = .ok (.iload 4, 2) := by decide +kernel
theorem dX3_settleWay_91 : decode cX3_settleWay 91 = .ok (.iload_n 3, 1) := by decide +kernel
theorem dX3_settleWay_92 : decode cX3_settleWay 92 = .ok (.invokestatic 109, 3) := by decide +kernel
theorem dX3_settleWay_95 : decode cX3_settleWay 95 = .ok (.iadd, 1) := by decide +kernel
theorem dX3_settleWay_96 : decode cX3_settleWay 96 = .ok (.istore 6, 2) := by decide +kernel
theorem dX3_settleWay_98 : decode cX3_settleWay 98 = .ok (.aload_n 0, 1) := by decide +kernel
theorem dX3_settleWay_99 : decode cX3_settleWay 99 = .ok (.getfield 49, 3) := by decide +kernel
theorem dX3_settleWay_102 : decode cX3_settleWay 102 = .ok (.aload_n 0, 1) := by decide +kernel
theorem dX3_settleWay_103 : decode cX3_settleWay 103 = .ok (.getfield 25, 3) := by decide +kernel
theorem dX3_settleWay_106 : decode cX3_settleWay 106 = .ok (.iload_n 1, 1) := by decide +kernel
theorem dX3_settleWay_107 : decode cX3_settleWay 107 = .ok (.iaload, 1) := by decide +kernel
theorem dX3_settleWay_108 : decode cX3_settleWay 108 = .ok (.sipush 300, 3) := by decide +kernel
theorem dX3_settleWay_111 : decode cX3_settleWay 111 = .ok (.imul, 1) := by decide +kernel
theorem dX3_settleWay_112 : decode cX3_settleWay 112 = .ok (.iload_n 2, 1) := by decide +kernel
theorem dX3_settleWay_113 : decode cX3_settleWay 113 = .ok (.iadd, 1) := by decide +kernel
theorem dX3_settleWay_114 : decode cX3_settleWay 114 = .ok (.iload 4, 2) := by decide +kernel
theorem dX3_settleWay_116 : decode cX3_settleWay 116 = .ok (.iadd, 1) := by decide +kernel
theorem dX3_settleWay_117 : decode cX3_settleWay 117 = .ok (.iload 5, 2) := by decide +kernel
theorem dX3_settleWay_119 : decode cX3_settleWay 119 = .ok (.bipush 100, 2) := by decide +kernel
theorem dX3_settleWay_121 : decode cX3_settleWay 121 = .ok (.imul, 1) := by decide +kernel
theorem dX3_settleWay_122 : decode cX3_settleWay 122 = .ok (.iload 6, 2) := by decide +kernel
theorem dX3_settleWay_124 : decode cX3_settleWay 124 = .ok (.iadd, 1) := by decide +kernel
theorem dX3_settleWay_125 : decode cX3_settleWay 125 = .ok (.iastore, 1) := by decide +kernel
theorem dX3_settleWay_126 : decode cX3_settleWay 126 = .ok (.iinc 4 1, 3) := by decide +kernel
theorem dX3_settleWay_129 : decode cX3_settleWay 129 = .ok (.goto (-106), 3) := by decide +kernel
theorem dX3_settleWay_132 : decode cX3_settleWay 132 = .ok (.return_, 1) := by decide +kernel
theorem dX3_onTheWay_0 : decode cX3_onTheWay 0 = .ok (.iload_n 2, 1) := by decide +kernel
theorem dX3_onTheWay_1 : decode cX3_onTheWay 1 = .ok (.ifCond .ne 7, 3) := by decide +kernel
theorem dX3_onTheWay_4 : decode cX3_onTheWay 4 = .ok (.iconst 0, 1) := by decide +kernel
theorem dX3_onTheWay_5 : decode cX3_onTheWay 5 = .ok (.goto 8, 3) := by decide +kernel
theorem dX3_onTheWay_8 : decode cX3_onTheWay 8 = .ok (.iload_n 0, 1) := by decide +kernel
theorem dX3_onTheWay_9 : decode cX3_onTheWay 9 = .ok (.iload_n 1, 1) := by decide +kernel
theorem dX3_onTheWay_10 : decode cX3_onTheWay 10 = .ok (.imul, 1) := by decide +kernel
theorem dX3_onTheWay_11 : decode cX3_onTheWay 11 = .ok (.iload_n 2, 1) := by decide +kernel
theorem dX3_onTheWay_12 : decode cX3_onTheWay 12 = .ok (.idiv, 1) := by decide +kernel
theorem dX3_onTheWay_13 : decode cX3_onTheWay 13 = .ok (.ireturn, 1) := by decide +kernel
theorem dX3_settleTints_0 : decode cX3_settleTints 0 = .ok (.aload_n 0, 1) := by decide +kernel
theorem dX3_settleTints_1 : decode cX3_settleTints 1 = .ok (.getfield 15, 3) := by decide +kernel
theorem dX3_settleTints_4 : decode cX3_settleTints 4 = .ok (.iload_n 1, 1) := by decide +kernel
theorem dX3_settleTints_5 : decode cX3_settleTints 5 = .ok (.iaload, 1) := by decide +kernel
theorem dX3_settleTints_6 : decode cX3_settleTints 6 = .ok (.istore_n 2, 1) := by decide +kernel
theorem dX3_settleTints_7 : decode cX3_settleTints 7 = .ok (.iload_n 1, 1) := by decide +kernel
theorem dX3_settleTints_8 : decode cX3_settleTints 8 = .ok (.sipush 300, 3) := by decide +kernel
theorem dX3_settleTints_11 : decode cX3_settleTints 11 = .ok (.imul, 1) := by decide +kernel
theorem dX3_settleTints_12 : decode cX3_settleTints 12 = .ok (.istore_n 3, 1) := by decide +kernel
theorem dX3_settleTints_13 : decode cX3_settleTints 13 = .ok (.iload_n 3, 1) := by decide +kernel
theorem dX3_settleTints_14 : decode cX3_settleTints 14 = .ok (.iload_n 1, 1) := by decide +kernel
theorem dX3_settleTints_15 : decode cX3_settleTints 15 = .ok (.iconst 1, 1) := by decide +kernel
theorem dX3_settleTints_16 : decode cX3_settleTints 16 = .ok (.iadd, 1) := by decide +kernel
theorem dX3_settleTints_17 : decode cX3_settleTints 17 = .ok (.sipush 300, 3) := by decide +kernel
theorem dX3_settleTints_20 : decode cX3_settleTints 20 = .ok (.imul, 1) := by decide +kernel
theorem dX3_settleTints_21 : decode cX3_settleTints 21 = .ok (.if_icmp .ge 33, 3) := by decide +kernel
theorem dX3_settleTints_24 : decode cX3_settleTints 24 = .ok (.aload_n 0, 1) := by decide +kernel
theorem dX3_settleTints_25 : decode cX3_settleTints 25 = .ok (.getfield 52, 3) := by decide +kernel
theorem dX3_settleTints_28 : decode cX3_settleTints 28 = .ok (.iload_n 3, 1) := by decide +kernel
theorem dX3_settleTints_29 : decode cX3_settleTints 29 = .ok (.iaload, 1) := by decide +kernel
theorem dX3_settleTints_30 : decode cX3_settleTints 30 = .ok (.iconst (-1), 1) := by decide +kernel
theorem dX3_settleTints_31 : decode cX3_settleTints 31 = .ok (.if_icmp .ne 10, 3) := by decide +kernel
theorem dX3_settleTints_34 : decode cX3_settleTints 34 = .ok (.aload_n 0, 1) := by decide +kernel
theorem dX3_settleTints_35 : decode cX3_settleTints 35 = .ok (.getfield 52, 3) := by decide +kernel
theorem dX3_settleTints_38 : decode cX3_settleTints 38 = .ok (.iload_n 3, 1) := by decide +kernel
theorem dX3_settleTints_39 : decode cX3_settleTints 39 = .ok (.iload_n 2, 1) := by decide +kernel
theorem dX3_settleTints_40 : decode cX3_settleTints 40 = .ok (.iastore, 1) := by decide +kernel
theorem dX3_settleTints_41 : decode cX3_settleTints 41 = .ok (.aload_n 0, 1) := by decide +kernel
theorem dX3_settleTints_42 : decode cX3_settleTints 42 = .ok (.getfield 52, 3) := by decide +kernel
theorem dX3_settleTints_45 : decode cX3_settleTints 45 = .ok (.iload_n 3, 1) := by decide +kernel
theorem dX3_settleTints_46 : decode cX3_settleTints 46 = .ok (.iaload, 1) := by decide +kernel
theorem dX3_settleTints_47 : decode cX3_settleTints 47 = .ok (.istore_n 2, 1) := by decide +kernel
theorem dX3_settleTints_48 : decode cX3_settleTints 48 = .ok (.iinc 3 1, 3) := by decide +kernel
theorem dX3_settleTints_51 : decode cX3_settleTints 51 = .ok (.goto (-38), 3) := by decide +kernel
theorem dX3_settleTints_54 : decode cX3_settleTints 54 = .ok (.return_, 1) := by decide +kernel
theorem dX3_isCell_0 : decode cX3_isCell 0 = .ok (.iload_n 1, 1) := by decide +kernel
theorem dX3_isCell_1 : decode cX3_isCell 1 = .ok (.ifCond .lt 26, 3) := by decide +kernel
theorem dX3_isCell_4 : decode cX3_isCell 4 = .ok (.iload_n 1, 1) := by decide +kernel
theorem dX3_isCell_5 : decode cX3_isCell 5 = .ok (.aload_n 0, 1) := by decide +kernel
theorem dX3_isCell_6 : decode cX3_isCell 6 = .ok (.getfield 9, 3) := by decide +kernel
theorem dX3_isCell_9 : decode cX3_isCell 9 = .ok (.if_icmp .ge 18, 3) := by decide +kernel
theorem dX3_isCell_12 : decode cX3_isCell 12 = .ok (.iload_n 2, 1) := by decide +kernel
theorem dX3_isCell_13 : decode cX3_isCell 13 = .ok (.ifCond .lt 14, 3) := by decide +kernel
theorem dX3_isCell_16 : decode cX3_isCell 16 = .ok (.iload_n 2, 1) := by decide +kernel
theorem dX3_isCell_17 : decode cX3_isCell 17 = .ok (.sipush 300, 3) := by decide +kernel
theorem dX3_isCell_20 : decode cX3_isCell 20 = .ok (.if_icmp .ge 7, 3) := by decide +kernel
theorem dX3_isCell_23 : decode cX3_isCell 23 = .ok (.iconst 1, 1) := by decide +kernel
theorem dX3_isCell_24 : decode cX3_isCell 24 = .ok (.goto 4, 3) := by decide +kernel
theorem dX3_isCell_27 : decode cX3_isCell 27 = .ok (.iconst 0, 1) := by decide +kernel
theorem dX3_isCell_28 : decode cX3_isCell 28 = .ok (.ireturn, 1) := by decide +kernel
theorem dX3_placeAt_0 : decode cX3_placeAt 0 = .ok (.aload_n 0, 1) := by decide +kernel
theorem dX3_placeAt_1 : decode cX3_placeAt 1 = .ok (.iload_n 1, 1) := by decide +kernel
theorem dX3_placeAt_2 : decode cX3_placeAt 2 = .ok (.iload_n 2, 1) := by decide +kernel
theorem dX3_placeAt_3 : decode cX3_placeAt 3 = .ok (.invokevirtual 113, 3) := by decide +kernel
theorem dX3_placeAt_6 : decode cX3_placeAt 6 = .ok (.ifCond .eq 18, 3) := by decide +kernel
theorem dX3_placeAt_9 : decode cX3_placeAt 9 = .ok (.aload_n 0, 1) := by decide +kernel
theorem dX3_placeAt_10 : decode cX3_placeAt 10 = .ok (.getfield 49, 3) := by decide +kernel
theorem dX3_placeAt_13 : decode cX3_placeAt 13 = .ok (.iload_n 1, 1) := by decide +kernel
theorem dX3_placeAt_14 : decode cX3_placeAt 14 = .ok (.sipush 300, 3) := by decide +kernel
theorem dX3_placeAt_17 : decode cX3_placeAt 17 = .ok (.imul, 1) := by decide +kernel
theorem dX3_placeAt_18 : decode cX3_placeAt 18 = .ok (.iload_n 2, 1) := by decide +kernel
theorem dX3_placeAt_19 : decode cX3_placeAt 19 = .ok (.iadd, 1) := by decide +kernel
theorem dX3_placeAt_20 : decode cX3_placeAt 20 = .ok (.iaload, 1) := by decide +kernel
theorem dX3_placeAt_21 : decode cX3_placeAt 21 = .ok (.goto 4, 3) := by decide +kernel
theorem dX3_placeAt_24 : decode cX3_placeAt 24 = .ok (.iconst (-1), 1) := by decide +kernel
theorem dX3_placeAt_25 : decode cX3_placeAt 25 = .ok (.ireturn, 1) := by decide +kernel
theorem dX3_tintAt_0 : decode cX3_tintAt 0 = .ok (.aload_n 0, 1) := by decide +kernel
theorem dX3_tintAt_1 : decode cX3_tintAt 1 = .ok (.iload_n 1, 1) := by decide +kernel
theorem dX3_tintAt_2 : decode cX3_tintAt 2 = .ok (.iload_n 2, 1) := by decide +kernel
theorem dX3_tintAt_3 : decode cX3_tintAt 3 = .ok (.invokevirtual 113, 3) := by decide +kernel
theorem dX3_tintAt_6 : decode cX3_tintAt 6 = .ok (.ifCond .eq 18, 3) := by decide +kernel
theorem dX3_tintAt_9 : decode cX3_tintAt 9 = .ok (.aload_n 0, 1) := by decide +kernel
theorem dX3_tintAt_10 : decode cX3_tintAt 10 = .ok (.getfield 52, 3) := by decide +kernel
theorem dX3_tintAt_13 : decode cX3_tintAt 13 = .ok (.iload_n 1, 1) := by decide +kernel
theorem dX3_tintAt_14 : decode cX3_tintAt 14 = .ok (.sipush 300, 3) := by decide +kernel
theorem dX3_tintAt_17 : decode cX3_tintAt 17 = .ok (.imul, 1) := by decide +kernel
theorem dX3_tintAt_18 : decode cX3_tintAt 18 = .ok (.iload_n 2, 1) := by decide +kernel
theorem dX3_tintAt_19 : decode cX3_tintAt 19 = .ok (.iadd, 1) := by decide +kernel
theorem dX3_tintAt_20 : decode cX3_tintAt 20 = .ok (.iaload, 1) := by decide +kernel
theorem dX3_tintAt_21 : decode cX3_tintAt 21 = .ok (.goto 4, 3) := by decide +kernel
theorem dX3_tintAt_24 : decode cX3_tintAt 24 = .ok (.iconst (-1), 1) := by decide +kernel
theorem dX3_tintAt_25 : decode cX3_tintAt 25 = .ok (.ireturn, 1) := by decide +kernel
theorem dX3_paceAt_0 : decode cX3_paceAt 0 = .ok (.aload_n 0, 1) := by decide +kernel
theorem dX3_paceAt_1 : decode cX3_paceAt 1 = .ok (.iload_n 1, 1) := by decide +kernel
theorem dX3_paceAt_2 : decode cX3_paceAt 2 = .ok (.iload_n 2, 1) := by decide +kernel
theorem dX3_paceAt_3 : decode cX3_paceAt 3 = .ok (.invokevirtual 117, 3) := by decide +kernel
theorem dX3_paceAt_6 : decode cX3_paceAt 6 = .ok (.istore_n 3, 1) := by decide +kernel
theorem dX3_paceAt_7 : decode cX3_paceAt 7 = .ok (.aload_n 0, 1) := by decide +kernel
theorem dX3_paceAt_8 : decode cX3_paceAt 8 = .ok (.iload_n 1, 1) := by decide +kernel
theorem dX3_paceAt_9 : decode cX3_paceAt 9 = .ok (.iload_n 2, 1) := by decide +kernel
theorem dX3_paceAt_10 : decode cX3_paceAt 10 = .ok (.iconst 1, 1) := by decide +kernel
theorem dX3_paceAt_11 : decode cX3_paceAt 11 = .ok (.isub, 1) := by decide +kernel
theorem dX3_paceAt_12 : decode cX3_paceAt 12 = .ok (.invokevirtual 117, 3) := by decide +kernel
theorem dX3_paceAt_15 : decode cX3_paceAt 15 = .ok (.istore 4, 2) := by decide +kernel
theorem dX3_paceAt_17 : decode cX3_paceAt 17 = .ok (.iload_n 3, 1) := by decide +kernel
theorem dX3_paceAt_18 : decode cX3_paceAt 18 = .ok (.iconst (-1), 1) := by decide +kernel
theorem dX3_paceAt_19 : decode cX3_paceAt 19 = .ok (.if_icmp .eq 9, 3) := by decide +kernel
theorem dX3_paceAt_22 : decode cX3_paceAt 22 = .ok (.iload 4, 2) := by decide +kernel
theorem dX3_paceAt_24 : decode cX3_paceAt 24 = .ok (.iconst (-1), 1) := by decide +kernel
theorem dX3_paceAt_25 : decode cX3_paceAt 25 = .ok (.if_icmp .ne 7, 3) := by decide +kernel
theorem dX3_paceAt_28 : decode cX3_paceAt 28 = .ok (.iconst 0, 1) := by decide +kernel
theorem dX3_paceAt_29 : decode cX3_paceAt 29 = .ok (.goto 10, 3) := by decide +kernel
theorem dX3_paceAt_32 : decode cX3_paceAt 32 = .ok (.iload_n 3, 1) := by decide +kernel
theorem dX3_paceAt_33 : decode cX3_paceAt 33 = .ok (.iload 4, 2) := by decide +kernel
theorem dX3_paceAt_35 : decode cX3_paceAt 35 = .ok (.iconst 0, 1) := by decide +kernel
theorem dX3_paceAt_36 : decode cX3_paceAt 36 = .ok (.invokestatic 120, 3) := by decide +kernel
theorem dX3_paceAt_39 : decode cX3_paceAt 39 = .ok (.ireturn, 1) := by decide +kernel
theorem dX3_turned_0 : decode cX3_turned 0 = .ok (.iconst 0, 1) := by decide +kernel
theorem dX3_turned_1 : decode cX3_turned 1 = .ok (.istore_n 3, 1) := by decide +kernel
theorem dX3_turned_2 : decode cX3_turned 2 = .ok (.iload_n 3, 1) := by decide +kernel
theorem dX3_turned_3 : decode cX3_turned 3 = .ok (.aload_n 0, 1) := by decide +kernel
theorem dX3_turned_4 : decode cX3_turned 4 = .ok (.getfield 34, 3) := by decide +kernel
theorem dX3_turned_7 : decode cX3_turned 7 = .ok (.if_icmp .ge 49, 3) := by decide +kernel
theorem dX3_turned_10 : decode cX3_turned 10 = .ok (.iload_n 2, 1) := by decide +kernel
theorem dX3_turned_11 : decode cX3_turned 11 = .ok (.aload_n 0, 1) := by decide +kernel
theorem dX3_turned_12 : decode cX3_turned 12 = .ok (.getfield 37, 3) := by decide +kernel
theorem dX3_turned_15 : decode cX3_turned 15 = .ok (.iload_n 3, 1) := by decide +kernel
theorem dX3_turned_16 : decode cX3_turned 16 = .ok (.iconst 3, 1) := by decide +kernel
theorem dX3_turned_17 : decode cX3_turned 17 = .ok (.imul, 1) := by decide +kernel
theorem dX3_turned_18 : decode cX3_turned 18 = .ok (.iconst 1, 1) := by decide +kernel
theorem dX3_turned_19 : decode cX3_turned 19 = .ok (.iadd, 1) := by decide +kernel
theorem dX3_turned_20 : decode cX3_turned 20 = .ok (.iaload, 1) := by decide +kernel
theorem dX3_turned_21 : decode cX3_turned 21 = .ok (.isub, 1) := by decide +kernel
theorem dX3_turned_22 : decode cX3_turned 22 = .ok (.istore 4, 2) := by decide +kernel
theorem dX3_turned_24 : decode cX3_turned 24 = .ok (.aload_n 0, 1) := by decide +kernel
theorem dX3_turned_25 : decode cX3_turned 25 = .ok (.getfield 37, 3) := by decide +kernel
theorem dX3_turned_28 : decode cX3_turned 28 = .ok (.iload_n 3, 1) := by decide +kernel
theorem dX3_turned_29 : decode cX3_turned 29 = .ok (.iconst 3, 1) := by decide +kernel
theorem dX3_turned_30 : decode cX3_turned 30 = .ok (.imul, 1) := by decide +kernel
theorem dX3_turned_31 : decode cX3_turned 31 = .ok (.iaload, 1) := by decide +kernel
theorem dX3_turned_32 : decode cX3_turned 32 = .ok (.iload_n 1, 1) := by decide +kernel
theorem dX3_turned_33 : decode cX3_turned 33 = .ok (.if_icmp .ne 17, 3) := by decide +kernel
theorem dX3_turned_36 : decode cX3_turned 36 = .ok (.iload 4, 2) := by decide +kernel
theorem dX3_turned_38 : decode cX3_turned 38 = .ok (.ifCond .lt 12, 3) := by decide +kernel
theorem dX3_turned_41 : decode cX3_turned 41 = .ok (.iload 4, 2) := by decide +kernel
theorem dX3_turned_43 : decode cX3_turned 43 = .ok (.bipush 9, 2) := by decide +kernel
theorem dX3_turned_45 : decode cX3_turned 45 = .ok (.if_icmp .gt 5, 3) := by decide +kernel
theorem dX3_turned_48 : decode cX3_turned 48 = .ok (.iconst 1, 1) := by decide +kernel
theorem dX3_turned_49 : decode cX3_turned 49 = .ok (.ireturn, 1) := by decide +kernel
theorem dX3_turned_50 : decode cX3_turned 50 = .ok (.iinc 3 1, 3) := by decide +kernel
theorem dX3_turned_53 : decode cX3_turned 53 = .ok (.goto (-51), 3) := by decide +kernel
theorem dX3_turned_56 : decode cX3_turned 56 = .ok (.iconst 0, 1) := by decide +kernel
theorem dX3_turned_57 : decode cX3_turned 57 = .ok (.ireturn, 1) := by decide +kernel
theorem dX3_crowd_0 : decode cX3_crowd 0 = .ok (.iconst 0, 1) := by decide +kernel
theorem dX3_crowd_1 : decode cX3_crowd 1 = .ok (.istore_n 3, 1) := by decide +kernel
theorem dX3_crowd_2 : decode cX3_crowd 2 = .ok (.iload_n 1, 1) := by decide +kernel
theorem dX3_crowd_3 : decode cX3_crowd 3 = .ok (.istore 4, 2) := by decide +kernel
theorem dX3_crowd_5 : decode cX3_crowd 5 = .ok (.iload 4, 2) := by decide +kernel
theorem dX3_crowd_7 : decode cX3_crowd 7 = .ok (.ifCond .lt 47, 3) := by decide +kernel
theorem dX3_crowd_10 : decode cX3_crowd 10 = .ok (.iload 4, 2) := by decide +kernel
theorem dX3_crowd_12 : decode cX3_crowd 12 = .ok (.aload_n 0, 1) := by decide +kernel
theorem dX3_crowd_13 : decode cX3_crowd 13 = .ok (.getfield 49, 3) := by decide +kernel
theorem dX3_crowd_16 : decode cX3_crowd 16 = .ok (.arraylength, 1) := by decide +kernel
theorem dX3_crowd_17 : decode cX3_crowd 17 = .ok (.if_icmp .ge 37, 3) := by decide +kernel
theorem dX3_crowd_20 : decode cX3_crowd 20 = .ok (.aload_n 0, 1) := by decide +kernel
theorem dX3_crowd_21 : decode cX3_crowd 21 = .ok (.getfield 49, 3) := by decide +kernel
theorem dX3_crowd_24 : decode cX3_crowd 24 = .ok (.iload 4, 2) := by decide +kernel
theorem dX3_crowd_26 : decode cX3_crowd 26 = .ok (.iaload, 1) := by decide +kernel
theorem dX3_crowd_27 : decode cX3_crowd 27 = .ok (.iconst (-1), 1) := by decide +kernel
theorem dX3_crowd_28 : decode cX3_crowd 28 = .ok (.if_icmp .eq 17, 3) := by decide +kernel
theorem dX3_crowd_31 : decode cX3_crowd 31 = .ok (.iload_n 3, 1) := by decide +kernel
theorem dX3_crowd_32 : decode cX3_crowd 32 = .ok (.iload_n 2, 1) := by decide +kernel
theorem dX3_crowd_33 : decode cX3_crowd 33 = .ok (.aload_n 0, 1) := by decide +kernel
theorem dX3_crowd_34 : decode cX3_crowd 34 = .ok (.getfield 52, 3) := by decide +kernel
theorem dX3_crowd_37 : decode cX3_crowd 37 = .ok (.iload 4, 2) := by decide +kernel
theorem dX3_crowd_39 : decode cX3_crowd 39 = .ok (.iaload, 1) := by decide +kernel
theorem dX3_crowd_40 : decode cX3_crowd 40 = .ok (.ishr, 1) := by decide +kernel
theorem dX3_crowd_41 : decode cX3_crowd 41 = .ok (.iconst 1, 1) := by decide +kernel
theorem dX3_crowd_42 : decode cX3_crowd 42 = .ok (.iand, 1) := by decide +kernel
theorem dX3_crowd_43 : decode cX3_crowd 43 = .ok (.iadd, 1) := by decide +kernel
theorem dX3_crowd_44 : decode cX3_crowd 44 = .ok (.istore_n 3, 1) := by decide +kernel
theorem dX3_crowd_45 : decode cX3_crowd 45 = .ok (.iinc 4 300, 6) := by decide +kernel
theorem dX3_crowd_51 : decode cX3_crowd 51 = .ok (.goto (-46), 3) := by decide +kernel
theorem dX3_crowd_54 : decode cX3_crowd 54 = .ok (.iload_n 3, 1) := by decide +kernel
theorem dX3_crowd_55 : decode cX3_crowd 55 = .ok (.ireturn, 1) := by decide +kernel
theorem dX3_isThrownFrom_0 : decode cX3_isThrownFrom 0 = .ok (.aload_n 0, 1) := by decide +kernel
theorem dX3_isThrownFrom_1 : decode cX3_isThrownFrom 1 = .ok (.getfield 52, 3) := by decide +kernel
theorem dX3_isThrownFrom_4 : decode cX3_isThrownFrom 4 = .ok (.aload_n 0, 1) := by decide +kernel
theorem dX3_isThrownFrom_5 : decode cX3_isThrownFrom 5 = .ok (.getfield 31, 3) := by decide +kernel
theorem dX3_isThrownFrom_8 : decode cX3_isThrownFrom 8 = .ok (.iload_n 1, 1) := by decide +kernel
theorem dX3_isThrownFrom_9 : decode cX3_isThrownFrom 9 = .ok (.iaload, 1) := by decide +kernel
theorem dX3_isThrownFrom_10 : decode cX3_isThrownFrom 10 = .ok (.sipush 300, 3) := by decide +kernel
theorem dX3_isThrownFrom_13 : decode cX3_isThrownFrom 13 = .ok (.imul, 1) := by decide +kernel
theorem dX3_isThrownFrom_14 : decode cX3_isThrownFrom 14 = .ok (.aload_n 0, 1) := by decide +kernel
theorem dX3_isThrownFrom_15 : decode cX3_isThrownFrom 15 = .ok (.getfield 31, 3) := by decide +kernel
theorem dX3_isThrownFrom_18 : decode cX3_isThrownFrom 18 = .ok (.iload_n 1, 1) := by decide +kernel
theorem dX3_isThrownFrom_19 : decode cX3_isThrownFrom 19 = .ok (.iconst 2, 1) := by decide +kernel
theorem dX3_isThrownFrom_20 : decode cX3_isThrownFrom 20 = .ok (.iadd, 1) := by decide +kernel
theorem dX3_isThrownFrom_21 : decode cX3_isThrownFrom 21 = .ok (.iaload, 1) := by decide +kernel
theorem dX3_isThrownFrom_22 : decode cX3_isThrownFrom 22 = .ok (.iadd, 1) := by decide +kernel
theorem dX3_isThrownFrom_23 : decode cX3_isThrownFrom 23 = .ok (.iaload, 1) := by decide +kernel
theorem dX3_isThrownFrom_24 : decode cX3_isThrownFrom 24 = .ok (.iload_n 2, 1) := by decide +kernel
theorem dX3_isThrownFrom_25 : decode cX3_isThrownFrom 25 = .ok (.if_icmp .ne 7, 3) := by decide +kernel
theorem dX3_isThrownFrom_28 : decode cX3_isThrownFrom 28 = .ok (.iconst 1, 1) := by decide +kernel
theorem dX3_isThrownFrom_29 : decode cX3_isThrownFrom 29 = .ok (.goto 4, 3) := by decide +kernel
theorem dX3_isThrownFrom_32 : decode cX3_isThrownFrom 32 = .ok (.iconst 0, 1) := by decide +kernel
theorem dX3_isThrownFrom_33 : decode cX3_isThrownFrom 33 = .ok (.ireturn, 1) := by decide +kernel
theorem dX3_throwsFrom_0 : decode cX3_throwsFrom 0 = .ok (.iconst 0, 1) := by decide +kernel
theorem dX3_throwsFrom_1 : decode cX3_throwsFrom 1 = .ok (.istore_n 2, 1) := by decide +kernel
theorem dX3_throwsFrom_2 : decode cX3_throwsFrom 2 = .ok (.iconst 0, 1) := by decide +kernel
theorem dX3_throwsFrom_3 : decode cX3_throwsFrom 3 = .ok (.istore_n 3, 1) := by decide +kernel
theorem dX3_throwsFrom_4 : decode cX3_throwsFrom 4 = .ok (.iload_n 3, 1) := by decide +kernel
theorem dX3_throwsFrom_5 : decode cX3_throwsFrom 5 = .ok (.aload_n 0, 1) := by decide +kernel
theorem dX3_throwsFrom_6 : decode cX3_throwsFrom 6 = .ok (.getfield 28, 3) := by decide +kernel
theorem dX3_throwsFrom_9 : decode cX3_throwsFrom 9 = .ok (.if_icmp .ge 28, 3) := by decide +kernel
theorem dX3_throwsFrom_12 : decode cX3_throwsFrom 12 = .ok (.iload_n 2, 1) := by decide +kernel
theorem dX3_throwsFrom_13 : decode cX3_throwsFrom 13 = .ok (.aload_n 0, 1) := by decide +kernel
theorem dX3_throwsFrom_14 : decode cX3_throwsFrom 14 = .ok (.iload_n 3, 1) := by decide +kernel
theorem dX3_throwsFrom_15 : decode cX3_throwsFrom 15 = .ok (.iconst 3, 1) := by decide +kernel
theorem dX3_throwsFrom_16 : decode cX3_throwsFrom 16 = .ok (.imul, 1) := by decide +kernel
theorem dX3_throwsFrom_17 : decode cX3_throwsFrom 17 = .ok (.iload_n 1, 1) := by decide +kernel
theorem dX3_throwsFrom_18 : decode cX3_throwsFrom 18 = .ok (.invokevirtual 125, 3) := by decide +kernel
theorem dX3_throwsFrom_21 : decode cX3_throwsFrom 21 = .ok (.ifCond .eq 7, 3) := by decide +kernel
theorem dX3_throwsFrom_24 : decode cX3_throwsFrom 24 = .ok (.iconst 1, 1) := by decide +kernel
theorem dX3_throwsFrom_25 : decode cX3_throwsFrom 25 = .ok (.goto 4, 3) := by decide +kernel
theorem dX3_throwsFrom_28 : decode cX3_throwsFrom 28 = .ok (.iconst 0, 1) := by decide +kernel
theorem dX3_throwsFrom_29 : decode cX3_throwsFrom 29 = .ok (.iadd, 1) := by decide +kernel
theorem dX3_throwsFrom_30 : decode cX3_throwsFrom 30 = .ok (.istore_n 2, 1) := by decide +kernel
theorem dX3_throwsFrom_31 : decode cX3_throwsFrom 31 = .ok (.iinc 3 1, 3) := by decide +kernel
theorem dX3_throwsFrom_34 : decode cX3_throwsFrom 34 = .ok (.goto (-30), 3) := by decide +kernel
theorem dX3_throwsFrom_37 : decode cX3_throwsFrom 37 = .ok (.iload_n 2, 1) := by decide +kernel
theorem dX3_throwsFrom_38 : decode cX3_throwsFrom 38 = .ok (.ireturn, 1) := by decide +kernel
theorem dX4_init_0 : decode cX4_init 0 = .ok (.aload_n 0, 1) := by decide +kernel
theorem dX4_init_1 : decode cX4_init 1 = .ok (.invokespecial 3, 3) := by decide +kernel
theorem dX4_init_4 : decode cX4_init 4 = .ok (.aload_n 0, 1) := by decide +kernel
theorem dX4_init_5 : decode cX4_init 5 = .ok (.bipush 64, 2) := by decide +kernel
theorem dX4_init_7 : decode cX4_init 7 = .ok (.newarray .int, 2) := by decide +kernel
theorem dX4_init_9 : decode cX4_init 9 = .ok (.putfield 11, 3) := by decide +kernel
theorem dX4_init_12 : decode cX4_init 12 = .ok (.aload_n 0, 1) := by decide +kernel
theorem dX4_init_13 : decode cX4_init 13 = .ok (.iconst 0, 1) := by decide +kernel
theorem dX4_init_14 : decode cX4_init 14 = .ok (.putfield 15, 3) := by decide +kernel
theorem dX4_init_17 : decode cX4_init 17 = .ok (.aload_n 0, 1) := by decide +kernel
theorem dX4_init_18 : decode cX4_init 18 = .ok (.iconst (-1), 1) := by decide +kernel
theorem dX4_init_19 : decode cX4_init 19 = .ok (.putfield 19, 3) := by decide +kernel
theorem dX4_init_22 : decode cX4_init 22 = .ok (.aload_n 0, 1) := by decide +kernel
theorem dX4_init_23 : decode cX4_init 23 = .ok (.iconst 0, 1) := by decide +kernel
theorem dX4_init_24 : decode cX4_init 24 = .ok (.putfield 22, 3) := by decide +kernel
theorem dX4_init_27 : decode cX4_init 27 = .ok (.aload_n 0, 1) := by decide +kernel
theorem dX4_init_28 : decode cX4_init 28 = .ok (.iconst 0, 1) := by decide +kernel
theorem dX4_init_29 : decode cX4_init 29 = .ok (.putfield 25, 3) := by decide +kernel
theorem dX4_init_32 : decode cX4_init 32 = .ok (.aload_n 0, 1) := by decide +kernel
theorem dX4_init_33 : decode cX4_init 33 = .ok (.aload_n 1, 1) := by decide +kernel
theorem dX4_init_34 : decode cX4_init 34 = .ok (.putfield 29, 3) := by decide +kernel
theorem dX4_init_37 : decode cX4_init 37 = .ok (.return_, 1) := by decide +kernel
theorem dX4_plain_0 : decode cX4_plain 0 = .ok (.aload_n 0, 1) := by decide +kernel
theorem dX4_plain_1 : decode cX4_plain 1 = .ok (.iconst (-1), 1) := by decide +kernel
theorem dX4_plain_2 : decode cX4_plain 2 = .ok (.putfield 19, 3) := by decide +kernel
theorem dX4_plain_5 : decode cX4_plain 5 = .ok (.aload_n 0, 1) := by decide +kernel
theorem dX4_plain_6 : decode cX4_plain 6 = .ok (.iconst 0, 1) := by decide +kernel
theorem dX4_plain_7 : decode cX4_plain 7 = .ok (.putfield 25, 3) := by decide +kernel
theorem dX4_plain_10 : decode cX4_plain 10 = .ok (.return_, 1) := by decide +kernel
theorem dX4_drawBy_0 : decode cX4_drawBy 0 = .ok (.aload_n 0, 1) := by decide +kernel
theorem dX4_drawBy_1 : decode cX4_drawBy 1 = .ok (.iload_n 1, 1) := by decide +kernel
theorem dX4_drawBy_2 : decode cX4_drawBy 2 = .ok (.putfield 19, 3) := by decide +kernel
theorem dX4_drawBy_5 : decode cX4_drawBy 5 = .ok (.aload_n 0, 1) := by decide +kernel
theorem dX4_drawBy_6 : decode cX4_drawBy 6 = .ok (.iload_n 2, 1) := by decide +kernel
theorem dX4_drawBy_7 : decode cX4_drawBy 7 = .ok (.putfield 22, 3) := by decide +kernel
theorem dX4_drawBy_10 : decode cX4_drawBy 10 = .ok (.return_, 1) := by decide +kernel
theorem dX4_heedChangesAlone_0 : decode cX4_heedChangesAlone 0 = .ok (.aload_n 0, 1) := by decide +kernel
theorem dX4_heedChangesAlone_1 : decode cX4_heedChangesAlone 1 = .ok (.iconst 1, 1) := by decide +kernel
theorem dX4_heedChangesAlone_2 : decode cX4_heedChangesAlone 2 = .ok (.putfield 25, 3) := by decide +kernel
theorem dX4_heedChangesAlone_5 : decode cX4_heedChangesAlone 5 = .ok (.return_, 1) := by decide +kernel
theorem dX4_work_0 : decode cX4_work 0 = .ok (.iconst 0, 1) := by decide +kernel
theorem dX4_work_1 : decode cX4_work 1 = .ok (.istore 4, 2) := by decide +kernel
theorem dX4_work_3 : decode cX4_work 3 = .ok (.iload_n 2, 1) := by decide +kernel
theorem dX4_work_4 : decode cX4_work 4 = .ok (.istore 5, 2) := by decide +kernel
theorem dX4_work_6 : decode cX4_work 6 = .ok (.iload 5, 2) := by decide +kernel
theorem dX4_work_8 : decode cX4_work 8 = .ok (.iload_n 3, 1) := by decide +kernel
theorem dX4_work_9 : decode cX4_work 9 = .ok (.if_icmp .ge 147, 3) := by decide +kernel
theorem dX4_work_12 : decode cX4_work 12 = .ok (.aload_n 1, 1) := by decide +kernel
theorem dX4_work_13 : decode cX4_work 13 = .ok (.getfield 33, 3) := by decide +kernel
theorem dX4_work_16 : decode cX4_work 16 = .ok (.iload 5, 2) := by decide +kernel
theorem dX4_work_18 : decode cX4_work 18 = .ok (.iaload, 1) := by decide +kernel
theorem dX4_work_19 : decode cX4_work 19 = .ok (.istore 6, 2) := by decide +kernel
theorem dX4_work_21 : decode cX4_work 21 = .ok (.iload 6, 2) := by decide +kernel
theorem dX4_work_23 : decode cX4_work 23 = .ok (.bipush (-11), 2) := by decide +kernel
theorem dX4_work_25 : decode cX4_work 25 = .ok (.if_icmp .lt 45, 3) := by decide +kernel
theorem dX4_work_28 : decode cX4_work 28 = .ok (.iload 4, 2) := by decide +kernel
theorem dX4_work_30 : decode cX4_work 30 = .ok (.bipush 64, 2) := by decide +kernel
theorem dX4_work_32 : decode cX4_work 32 = .ok (.if_icmp .ge 38, 3) := by decide +kernel
theorem dX4_work_35 : decode cX4_work 35 = .ok (.aload_n 0, 1) := by decide +kernel
theorem dX4_work_36 : decode cX4_work 36 = .ok (.getfield 11, 3) := by decide +kernel
theorem dX4_work_39 : decode cX4_work 39 = .ok (.iload 4, 2) := by decide +kernel
theorem dX4_work_41 : decode cX4_work 41 = .ok (.iload 6, 2) := by decide +kernel
theorem dX4_work_43 : decode cX4_work 43 = .ok (.ifCond .lt 8, 3) := by decide +kernel
theorem dX4_work_46 : decode cX4_work 46 = .ok (.iload 6, 2) := by decide +kernel
theorem dX4_work_48 : decode cX4_work 48 = .ok (.goto 15, 3) := by decide +kernel
theorem dX4_work_51 : decode cX4_work 51 = .ok (.aload_n 0, 1) := by decide +kernel
theorem dX4_work_52 : decode cX4_work 52 = .ok (.getfield 29, 3) := by decide +kernel
theorem dX4_work_55 : decode cX4_work 55 = .ok (.getfield 38, 3) := by decide +kernel
theorem dX4_work_58 : decode cX4_work 58 = .ok (.iconst (-1), 1) := by decide +kernel
theorem dX4_work_59 : decode cX4_work 59 = .ok (.iload 6, 2) := by decide +kernel
theorem dX4_work_61 : decode cX4_work 61 = .ok (.isub, 1) := by decide +kernel
theorem dX4_work_62 : decode cX4_work 62 = .ok (.iaload, 1) := by decide +kernel
theorem dX4_work_63 : decode cX4_work 63 = .ok (.iastore, 1) := by decide +kernel
theorem dX4_work_64 : decode cX4_work 64 = .ok (.iinc 4 1, 3) := by decide +kernel
theorem dX4_work_67 : decode cX4_work 67 = .ok (.goto 83, 3) := by decide +kernel
theorem dX4_work_70 : decode cX4_work 70 = .ok (.iload 6, 2) := by decide +kernel
theorem dX4_work_72 : decode cX4_work 72 = .ok (.bipush (-31), 2) := by decide +kernel
theorem dX4_work_74 : decode cX4_work 74 = .ok (.if_icmp .ne 37, 3) := by decide +kernel
theorem dX4_work_77 : decode cX4_work 77 = .ok (.iload 4, 2) := by decide +kernel
theorem dX4_work_79 : decode cX4_work 79 = .ok (.ifCond .le 32, 3) := by decide +kernel
theorem dX4_work_82 : decode cX4_work 82 = .ok (.aload_n 0, 1) := by decide +kernel
theorem dX4_work_83 : decode cX4_work 83 = .ok (.getfield 11, 3) := by decide +kernel
theorem dX4_work_86 : decode cX4_work 86 = .ok (.iload 4, 2) := by decide +kernel
theorem dX4_work_88 : decode cX4_work 88 = .ok (.iconst 1, 1) := by decide +kernel
theorem dX4_work_89 : decode cX4_work 89 = .ok (.isub, 1) := by decide +kernel
theorem dX4_work_90 : decode cX4_work 90 = .ok (.aload_n 0, 1) := by decide +kernel
theorem dX4_work_91 : decode cX4_work 91 = .ok (.getfield 11, 3) := by decide +kernel
theorem dX4_work_94 : decode cX4_work 94 = .ok (.iload 4, 2) := by decide +kernel
theorem dX4_work_96 : decode cX4_work 96 = .ok (.iconst 1, 1) := by decide +kernel
theorem dX4_work_97 : decode cX4_work 97 = .ok (.isub, 1) := by decide +kernel
theorem dX4_work_98 : decode cX4_work 98 = .ok (.iaload, 1) := by decide +kernel
theorem dX4_work_99 : decode cX4_work 99 = .ok (.ifCond .ne 7, 3) := by decide +kernel
theorem dX4_work_102 : decode cX4_work 102 = .ok (.iconst 1, 1) := by decide +kernel
theorem dX4_work_103 : decode cX4_work 103 = .ok (.goto 4, 3) := by decide +kernel
theorem dX4_work_106 : decode cX4_work 106 = .ok (.iconst 0, 1) := by decide +kernel
theorem dX4_work_107 : decode cX4_work 107 = .ok (.iastore, 1) := by decide +kernel
theorem dX4_work_108 : decode cX4_work 108 = .ok (.goto 42, 3) := by decide +kernel
theorem dX4_work_111 : decode cX4_work 111 = .ok (.iload 4, 2) := by decide +kernel
theorem dX4_work_113 : decode cX4_work 113 = .ok (.iconst 1, 1) := by decide +kernel
theorem dX4_work_114 : decode cX4_work 114 = .ok (.if_icmp .le 36, 3) := by decide +kernel
theorem dX4_work_117 : decode cX4_work 117 = .ok (.iinc 4 (-1), 3) := by decide +kernel
theorem dX4_work_120 : decode cX4_work 120 = .ok (.aload_n 0, 1) := by decide +kernel
theorem dX4_work_121 : decode cX4_work 121 = .ok (.getfield 11, 3) := by decide +kernel
theorem dX4_work_124 : decode cX4_work 124 = .ok (.iload 4, 2) := by decide +kernel
theorem dX4_work_126 : decode cX4_work 126 = .ok (.iconst 1, 1) := by decide +kernel
theorem dX4_work_127 : decode cX4_work 127 = .ok (.isub, 1) := by decide +kernel
theorem dX4_work_128 : decode cX4_work 128 = .ok (.iload 6, 2) := by decide +kernel
theorem dX4_work_130 : decode cX4_work 130 = .ok (.aload_n 0, 1) := by decide +kernel
theorem dX4_work_131 : decode cX4_work 131 = .ok (.getfield 11, 3) := by decide +kernel
theorem dX4_work_134 : decode cX4_work 134 = .ok (.iload 4, 2) := by decide +kernel
theorem dX4_work_136 : decode cX4_work 136 = .ok (.iconst 1, 1) := by decide +kernel
theorem dX4_work_137 : decode cX4_work 137 = .ok (.isub, 1) := by decide +kernel
theorem dX4_work_138 : decode cX4_work 138 = .ok (.iaload, 1) := by decide +kernel
theorem dX4_work_139 : decode cX4_work 139 = .ok (.aload_n 0, 1) := by decide +kernel
theorem dX4_work_140 : decode cX4_work 140 = .ok (.getfield 11, 3) := by decide +kernel
theorem dX4_work_143 : decode cX4_work 143 = .ok (.iload 4, 2) := by decide +kernel
theorem dX4_work_145 : decode cX4_work 145 = .ok (.iaload, 1) := by decide +kernel
theorem dX4_work_146 : decode cX4_work 146 = .ok (.invokestatic 43, 3) := by decide +kernel
theorem dX4_work_149 : decode cX4_work 149 = .ok (.iastore, 1) := by decide +kernel
theorem dX4_work_150 : decode cX4_work 150 = .ok (.iinc 5 1, 3) := by decide +kernel
theorem dX4_work_153 : decode cX4_work 153 = .ok (.goto (-147), 3) := by decide +kernel
theorem dX4_work_156 : decode cX4_work 156 = .ok (.iload 4, 2) := by decide +kernel
theorem dX4_work_158 : decode cX4_work 158 = .ok (.ifCond .ne 7, 3) := by decide +kernel
theorem dX4_work_161 : decode cX4_work 161 = .ok (.iconst 1, 1) := by decide +kernel
theorem dX4_work_162 : decode cX4_work 162 = .ok (.goto 9, 3) := by decide +kernel
theorem dX4_work_165 : decode cX4_work 165 = .ok (.aload_n 0, 1) := by decide +kernel
theorem dX4_work_166 : decode cX4_work 166 = .ok (.getfield 11, 3) := by decide +kernel
theorem dX4_work_169 : decode cX4_work 169 = .ok (.iconst 0, 1) := by decide +kernel
theorem dX4_work_170 : decode cX4_work 170 = .ok (.iaload, 1) := by decide +kernel
theorem dX4_work_171 : decode cX4_work 171 = .ok (.ireturn, 1) := by decide +kernel
theorem dX4_joined_0 : decode cX4_joined 0 = .ok (.iload_n 0, 1) := by decide +kernel
theorem dX4_joined_1 : decode cX4_joined 1 = .ok (.tableswitch 138 (-29) (-20) #[134, 123, 112, 101, 90, 79, 67, 63, 59, 55], 55) := by decide +kernel
theorem dX4_joined_56 : decode cX4_joined 56 = .ok (.iload_n 1, 1) := by decide +kernel
theorem dX4_joined_57 : decode cX4_joined 57 = .ok (.iload_n 2, 1) := by decide +kernel
theorem dX4_joined_58 : decode cX4_joined 58 = .ok (.iadd, 1) := by decide +kernel
theorem dX4_joined_59 : decode cX4_joined 59 = .ok (.ireturn, 1) := by decide +kernel
theorem dX4_joined_60 : decode cX4_joined 60 = .ok (.iload_n 1, 1) := by decide +kernel
theorem dX4_joined_61 : decode cX4_joined 61 = .ok (.iload_n 2, 1) := by decide +kernel
theorem dX4_joined_62 : decode cX4_joined 62 = .ok (.isub, 1) := by decide +kernel
theorem dX4_joined_63 : decode cX4_joined 63 = .ok (.ireturn, 1) := by decide +kernel
theorem dX4_joined_64 : decode cX4_joined 64 = .ok (.iload_n 1, 1) := by decide +kernel
theorem dX4_joined_65 : decode cX4_joined 65 = .ok (.iload_n 2, 1) := by decide +kernel
theorem dX4_joined_66 : decode cX4_joined 66 = .ok (.imul, 1) := by decide +kernel
theorem dX4_joined_67 : decode cX4_joined 67 = .ok (.ireturn, 1) := by decide +kernel
theorem dX4_joined_68 : decode cX4_joined 68 = .ok (.iload_n 2, 1) := by decide +kernel
theorem dX4_joined_69 : decode cX4_joined 69 = .ok (.ifCond .ne 7, 3) := by decide +kernel
theorem dX4_joined_72 : decode cX4_joined 72 = .ok (.iconst 0, 1) := by decide +kernel
theorem dX4_joined_73 : decode cX4_joined 73 = .ok (.goto 6, 3) := by decide +kernel
theorem dX4_joined_76 : decode cX4_joined 76 = .ok (.iload_n 1, 1) := by decide +kernel
theorem dX4_joined_77 : decode cX4_joined 77 = .ok (.iload_n 2, 1) := by decide +kernel
theorem dX4_joined_78 : decode cX4_joined 78 = .ok (.idiv, 1) := by decide +kernel
theorem dX4_joined_79 : decode cX4_joined 79 = .ok (.ireturn, 1) := by decide +kernel
theorem dX4_joined_80 : decode cX4_joined 80 = .ok (.iload_n 1, 1) := by decide +kernel
theorem dX4_joined_81 : decode cX4_joined 81 = .ok (.iload_n 2, 1) := by decide +kernel
theorem dX4_joined_82 : decode cX4_joined 82 = .ok (.if_icmp .ge 7, 3) := by decide +kernel
theorem dX4_joined_85 : decode cX4_joined 85 = .ok (.iload_n 1, 1) := by decide +kernel
theorem dX4_joined_86 : decode cX4_joined 86 = .ok (.goto 4, 3) := by decide +kernel
theorem dX4_joined_89 : decode cX4_joined 89 = .ok (.iload_n 2, 1) := by decide +kernel
theorem dX4_joined_90 : decode cX4_joined 90 = .ok (.ireturn, 1) := by decide +kernel
theorem dX4_joined_91 : decode cX4_joined 91 = .ok (.iload_n 1, 1) := by decide +kernel
theorem dX4_joined_92 : decode cX4_joined 92 = .ok (.iload_n 2, 1) := by decide +kernel
theorem dX4_joined_93 : decode cX4_joined 93 = .ok (.if_icmp .le 7, 3) := by decide +kernel
theorem dX4_joined_96 : decode cX4_joined 96 = .ok (.iload_n 1, 1) := by decide +kernel
theorem dX4_joined_97 : decode cX4_joined 97 = .ok (.goto 4, 3) := by decide +kernel
theorem dX4_joined_100 : decode cX4_joined 100 = .ok (.iload_n 2, 1) := by decide +kernel
theorem dX4_joined_101 : decode cX4_joined 101 = .ok (.ireturn, 1) := by decide +kernel
theorem dX4_joined_102 : decode cX4_joined 102 = .ok (.iload_n 1, 1) := by decide +kernel
theorem dX4_joined_103 : decode cX4_joined 103 = .ok (.iload_n 2, 1) := by decide +kernel
theorem dX4_joined_104 : decode cX4_joined 104 = .ok (.if_icmp .ge 7, 3) := by decide +kernel
theorem dX4_joined_107 : decode cX4_joined 107 = .ok (.iconst 1, 1) := by decide +kernel
theorem dX4_joined_108 : decode cX4_joined 108 = .ok (.goto 4, 3) := by decide +kernel
theorem dX4_joined_111 : decode cX4_joined 111 = .ok (.iconst 0, 1) := by decide +kernel
theorem dX4_joined_112 : decode cX4_joined 112 = .ok (.ireturn, 1) := by decide +kernel
theorem dX4_joined_113 : decode cX4_joined 113 = .ok (.iload_n 1, 1) := by decide +kernel
theorem dX4_joined_114 : decode cX4_joined 114 = .ok (.iload_n 2, 1) := by decide +kernel
theorem dX4_joined_115 : decode cX4_joined 115 = .ok (.if_icmp .le 7, 3) := by decide +kernel
theorem dX4_joined_118 : decode cX4_joined 118 = .ok (.iconst 1, 1) := by decide +kernel
theorem dX4_joined_119 : decode cX4_joined 119 = .ok (.goto 4, 3) := by decide +kernel
theorem dX4_joined_122 : decode cX4_joined 122 = .ok (.iconst 0, 1) := by decide +kernel
theorem dX4_joined_123 : decode cX4_joined 123 = .ok (.ireturn, 1) := by decide +kernel
theorem dX4_joined_124 : decode cX4_joined 124 = .ok (.iload_n 1, 1) := by decide +kernel
theorem dX4_joined_125 : decode cX4_joined 125 = .ok (.iload_n 2, 1) := by decide +kernel
theorem dX4_joined_126 : decode cX4_joined 126 = .ok (.if_icmp .ne 7, 3) := by decide +kernel
theorem dX4_joined_129 : decode cX4_joined 129 = .ok (.iconst 1, 1) := by decide +kernel
theorem dX4_joined_130 : decode cX4_joined 130 = .ok (.goto 4, 3) := by decide +kernel
theorem dX4_joined_133 : decode cX4_joined 133 = .ok (.iconst 0, 1) := by decide +kernel
theorem dX4_joined_134 : decode cX4_joined 134 = .ok (.ireturn, 1) := by decide +kernel
theorem dX4_joined_135 : decode cX4_joined 135 = .ok (.iload_n 1, 1) := by decide +kernel
theorem dX4_joined_136 : decode cX4_joined 136 = .ok (.iload_n 2, 1) := by decide +kernel
theorem dX4_joined_137 : decode cX4_joined 137 = .ok (.iand, 1) := by decide +kernel
theorem dX4_joined_138 : decode cX4_joined 138 = .ok (.ireturn, 1) := by decide +kernel
theorem dX4_joined_139 : decode cX4_joined 139 = .ok (.iload_n 1, 1) := by decide +kernel
theorem dX4_joined_140 : decode cX4_joined 140 = .ok (.iload_n 2, 1) := by decide +kernel
theorem dX4_joined_141 : decode cX4_joined 141 = .ok (.ior, 1) := by decide +kernel
theorem dX4_joined_142 : decode cX4_joined 142 = .ok (.ireturn, 1) := by decide +kernel
theorem dX4_getsNow_0 : decode cX4_getsNow 0 = .ok (.iconst 0, 1) := by decide +kernel
theorem dX4_getsNow_1 : decode cX4_getsNow 1 = .ok (.istore_n 2, 1) := by decide +kernel
theorem dX4_getsNow_2 : decode cX4_getsNow 2 = .ok (.iconst 0, 1) := by decide +kernel
theorem dX4_getsNow_3 : decode cX4_getsNow 3 = .ok (.istore_n 3, 1) := by decide +kernel
theorem dX4_getsNow_4 : decode cX4_getsNow 4 = .ok (.iload_n 3, 1) := by decide +kernel
theorem dX4_getsNow_5 : decode cX4_getsNow 5 = .ok (.aload_n 1, 1) := by decide +kernel
theorem dX4_getsNow_6 : decode cX4_getsNow 6 = .ok (.getfield 47, 3) := by decide +kernel
theorem dX4_getsNow_9 : decode cX4_getsNow 9 = .ok (.if_icmp .ge 68, 3) := by decide +kernel
theorem dX4_getsNow_12 : decode cX4_getsNow 12 = .ok (.aload_n 0, 1) := by decide +kernel
theorem dX4_getsNow_13 : decode cX4_getsNow 13 = .ok (.getfield 29, 3) := by decide +kernel
theorem dX4_getsNow_16 : decode cX4_getsNow 16 = .ok (.getfield 50, 3) := by decide +kernel
theorem dX4_getsNow_19 : decode cX4_getsNow 19 = .ok (.ifCond .eq 58, 3) := by decide +kernel
theorem dX4_getsNow_22 : decode cX4_getsNow 22 = .ok (.aload_n 1, 1) := by decide +kernel
theorem dX4_getsNow_23 : decode cX4_getsNow 23 = .ok (.getfield 53, 3) := by decide +kernel
theorem dX4_getsNow_26 : decode cX4_getsNow 26 = .ok (.iload_n 3, 1) := by decide +kernel
theorem dX4_getsNow_27 : decode cX4_getsNow 27 = .ok (.iaload, 1) := by decide +kernel
theorem dX4_getsNow_28 : decode cX4_getsNow 28 = .ok (.ifCond .ne 43, 3) := by decide +kernel
theorem dX4_getsNow_31 : decode cX4_getsNow 31 = .ok (.aload_n 0, 1) := by decide +kernel
theorem dX4_getsNow_32 : decode cX4_getsNow 32 = .ok (.aload_n 1, 1) := by decide +kernel
theorem dX4_getsNow_33 : decode cX4_getsNow 33 = .ok (.aload_n 1, 1) := by decide +kernel
theorem dX4_getsNow_34 : decode cX4_getsNow 34 = .ok (.getfield 56, 3) := by decide +kernel
theorem dX4_getsNow_37 : decode cX4_getsNow 37 = .ok (.iload_n 3, 1) := by decide +kernel
theorem dX4_getsNow_38 : decode cX4_getsNow 38 = .ok (.iaload, 1) := by decide +kernel
theorem dX4_getsNow_39 : decode cX4_getsNow 39 = .ok (.aload_n 1, 1) := by decide +kernel
theorem dX4_getsNow_40 : decode cX4_getsNow 40 = .ok (.getfield 59, 3) := by decide +kernel
theorem dX4_getsNow_43 : decode cX4_getsNow 43 = .ok (.iload_n 3, 1) := by decide +kernel
theorem dX4_getsNow_44 : decode cX4_getsNow 44 = .ok (.iaload, 1) := by decide +kernel
theorem dX4_getsNow_45 : decode cX4_getsNow 45 = .ok (.invokevirtual 62, 3) := by decide +kernel
theorem dX4_getsNow_48 : decode cX4_getsNow 48 = .ok (.ifCond .eq 23, 3) := by decide +kernel
theorem dX4_getsNow_51 : decode cX4_getsNow 51 = .ok (.iload_n 2, 1) := by decide +kernel
theorem dX4_getsNow_52 : decode cX4_getsNow 52 = .ok (.aload_n 0, 1) := by decide +kernel
theorem dX4_getsNow_53 : decode cX4_getsNow 53 = .ok (.aload_n 1, 1) := by decide +kernel
theorem dX4_getsNow_54 : decode cX4_getsNow 54 = .ok (.aload_n 1, 1) := by decide +kernel
theorem dX4_getsNow_55 : decode cX4_getsNow 55 = .ok (.getfield 66, 3) := by decide +kernel
theorem dX4_getsNow_58 : decode cX4_getsNow 58 = .ok (.iload_n 3, 1) := by decide +kernel
theorem dX4_getsNow_59 : decode cX4_getsNow 59 = .ok (.iaload, 1) := by decide +kernel
theorem dX4_getsNow_60 : decode cX4_getsNow 60 = .ok (.aload_n 1, 1) := by decide +kernel
theorem dX4_getsNow_61 : decode cX4_getsNow 61 = .ok (.getfield 56, 3) := by decide +kernel
theorem dX4_getsNow_64 : decode cX4_getsNow 64 = .ok (.iload_n 3, 1) := by decide +kernel
theorem dX4_getsNow_65 : decode cX4_getsNow 65 = .ok (.iaload, 1) := by decide +kernel
theorem dX4_getsNow_66 : decode cX4_getsNow 66 = .ok (.invokevirtual 62, 3) := by decide +kernel
theorem dX4_getsNow_69 : decode cX4_getsNow 69 = .ok (.iadd, 1) := by decide +kernel
theorem dX4_getsNow_70 : decode cX4_getsNow 70 = .ok (.istore_n 2, 1) := by decide +kernel
theorem dX4_getsNow_71 : decode cX4_getsNow 71 = .ok (.iinc 3 1, 3) := by decide +kernel
theorem dX4_getsNow_74 : decode cX4_getsNow 74 = .ok (.goto (-70), 3) := by decide +kernel
theorem dX4_getsNow_77 : decode cX4_getsNow 77 = .ok (.iconst 0, 1) := by decide +kernel
theorem dX4_getsNow_78 : decode cX4_getsNow 78 = .ok (.sipush 1000, 3) := by decide +kernel
theorem dX4_getsNow_81 : decode cX4_getsNow 81 = .ok (.iload_n 2, 1) := by decide +kernel
theorem dX4_getsNow_82 : decode cX4_getsNow 82 = .ok (.invokestatic 69, 3) := by decide +kernel
theorem dX4_getsNow_85 : decode cX4_getsNow 85 = .ok (.invokestatic 75, 3) := by decide +kernel
theorem dX4_getsNow_88 : decode cX4_getsNow 88 = .ok (.ireturn, 1) := by decide +kernel
theorem dX4_lineNow_0 : decode cX4_lineNow 0 = .ok (.aload_n 0, 1) := by decide +kernel
theorem dX4_lineNow_1 : decode cX4_lineNow 1 = .ok (.aload_n 1, 1) := by decide +kernel
theorem dX4_lineNow_2 : decode cX4_lineNow 2 = .ok (.iconst 1, 1) := by decide +kernel
theorem dX4_lineNow_3 : decode cX4_lineNow 3 = .ok (.iconst 1, 1) := by decide +kernel
theorem dX4_lineNow_4 : decode cX4_lineNow 4 = .ok (.ldc 78, 2) := by decide +kernel
theorem dX4_lineNow_6 : decode cX4_lineNow 6 = .ok (.bipush 100, 2) := by decide +kernel
theorem dX4_lineNow_8 : decode cX4_lineNow 8 = .ok (.invokevirtual 79, 3) := by decide +kernel
theorem dX4_lineNow_11 : decode cX4_lineNow 11 = .ok (.ireturn, 1) := by decide +kernel
theorem dX4_lastOf_0 : decode cX4_lastOf 0 = .ok (.aload_n 1, 1) := by decide +kernel
theorem dX4_lastOf_1 : decode cX4_lastOf 1 = .ok (.getfield 47, 3) := by decide +kernel
theorem dX4_lastOf_4 : decode cX4_lastOf 4 = .ok (.iconst 1, 1) := by decide +kernel
theorem dX4_lastOf_5 : decode cX4_lastOf 5 = .ok (.isub, 1) := by decide +kernel
theorem dX4_lastOf_6 : decode cX4_lastOf 6 = .ok (.istore 6, 2) := by decide +kernel
theorem dX4_lastOf_8 : decode cX4_lastOf 8 = .ok (.iload 6, 2) := by decide +kernel
theorem dX4_lastOf_10 : decode cX4_lastOf 10 = .ok (.ifCond .lt 71, 3) := by decide +kernel
theorem dX4_lastOf_13 : decode cX4_lastOf 13 = .ok (.aload_n 1, 1) := by decide +kernel
theorem dX4_lastOf_14 : decode cX4_lastOf 14 = .ok (.getfield 53, 3) := by decide +kernel
theorem dX4_lastOf_17 : decode cX4_lastOf 17 = .ok (.iload 6, 2) := by decide +kernel
theorem dX4_lastOf_19 : decode cX4_lastOf 19 = .ok (.iaload, 1) := by decide +kernel
theorem dX4_lastOf_20 : decode cX4_lastOf 20 = .ok (.iload_n 2, 1) := by decide +kernel
theorem dX4_lastOf_21 : decode cX4_lastOf 21 = .ok (.if_icmp .ne 54, 3) := by decide +kernel
theorem dX4_lastOf_24 : decode cX4_lastOf 24 = .ok (.aload_n 0, 1) := by decide +kernel
theorem dX4_lastOf_25 : decode cX4_lastOf 25 = .ok (.aload_n 1, 1) := by decide +kernel
theorem dX4_lastOf_26 : decode cX4_lastOf 26 = .ok (.aload_n 1, 1) := by decide +kernel
theorem dX4_lastOf_27 : decode cX4_lastOf 27 = .ok (.getfield 56, 3) := by decide +kernel
theorem dX4_lastOf_30 : decode cX4_lastOf 30 = .ok (.iload 6, 2) := by decide +kernel
theorem dX4_lastOf_32 : decode cX4_lastOf 32 = .ok (.iaload, 1) := by decide +kernel
theorem dX4_lastOf_33 : decode cX4_lastOf 33 = .ok (.aload_n 1, 1) := by decide +kernel
theorem dX4_lastOf_34 : decode cX4_lastOf 34 = .ok (.getfield 59, 3) := by decide +kernel
theorem dX4_lastOf_37 : decode cX4_lastOf 37 = .ok (.iload 6, 2) := by decide +kernel
theorem dX4_lastOf_39 : decode cX4_lastOf 39 = .ok (.iaload, 1) := by decide +kernel
theorem dX4_lastOf_40 : decode cX4_lastOf 40 = .ok (.invokevirtual 62, 3) := by decide +kernel
theorem dX4_lastOf_43 : decode cX4_lastOf 43 = .ok (.ifCond .eq 32, 3) := by decide +kernel
theorem dX4_lastOf_46 : decode cX4_lastOf 46 = .ok (.iload_n 3, 1) := by decide +kernel
theorem dX4_lastOf_47 : decode cX4_lastOf 47 = .ok (.iload 4, 2) := by decide +kernel
theorem dX4_lastOf_49 : decode cX4_lastOf 49 = .ok (.aload_n 0, 1) := by decide +kernel
theorem dX4_lastOf_50 : decode cX4_lastOf 50 = .ok (.aload_n 1, 1) := by decide +kernel
theorem dX4_lastOf_51 : decode cX4_lastOf 51 = .ok (.aload_n 1, 1) := by decide +kernel
theorem dX4_lastOf_52 : decode cX4_lastOf 52 = .ok (.getfield 66, 3) := by decide +kernel
theorem dX4_lastOf_55 : decode cX4_lastOf 55 = .ok (.iload 6, 2) := by decide +kernel
theorem dX4_lastOf_57 : decode cX4_lastOf 57 = .ok (.iaload, 1) := by decide +kernel
theorem dX4_lastOf_58 : decode cX4_lastOf 58 = .ok (.aload_n 1, 1) := by decide +kernel
theorem dX4_lastOf_59 : decode cX4_lastOf 59 = .ok (.getfield 56, 3) := by decide +kernel
theorem dX4_lastOf_62 : decode cX4_lastOf 62 = .ok (.iload 6, 2) := by decide +kernel
theorem dX4_lastOf_64 : decode cX4_lastOf 64 = .ok (.iaload, 1) := by decide +kernel
theorem dX4_lastOf_65 : decode cX4_lastOf 65 = .ok (.invokevirtual 62, 3) := by decide +kernel
theorem dX4_lastOf_68 : decode cX4_lastOf 68 = .ok (.invokestatic 69, 3) := by decide +kernel
theorem dX4_lastOf_71 : decode cX4_lastOf 71 = .ok (.invokestatic 75, 3) := by decide +kernel
theorem dX4_lastOf_74 : decode cX4_lastOf 74 = .ok (.ireturn, 1) := by decide +kernel
theorem dX4_lastOf_75 : decode cX4_lastOf 75 = .ok (.iinc 6 (-1), 3) := by decide +kernel
theorem dX4_lastOf_78 : decode cX4_lastOf 78 = .ok (.goto (-70), 3) := by decide +kernel
theorem dX4_lastOf_81 : decode cX4_lastOf 81 = .ok (.iload 5, 2) := by decide +kernel
theorem dX4_lastOf_83 : decode cX4_lastOf 83 = .ok (.ireturn, 1) := by decide +kernel
theorem dX4_drawNow_0 : decode cX4_drawNow 0 = .ok (.aload_n 0, 1) := by decide +kernel
theorem dX4_drawNow_1 : decode cX4_drawNow 1 = .ok (.getfield 19, 3) := by decide +kernel
theorem dX4_drawNow_4 : decode cX4_drawNow 4 = .ok (.iconst (-1), 1) := by decide +kernel
theorem dX4_drawNow_5 : decode cX4_drawNow 5 = .ok (.if_icmp .eq 13, 3) := by decide +kernel
theorem dX4_drawNow_8 : decode cX4_drawNow 8 = .ok (.aload_n 0, 1) := by decide +kernel
theorem dX4_drawNow_9 : decode cX4_drawNow 9 = .ok (.getfield 29, 3) := by decide +kernel
theorem dX4_drawNow_12 : decode cX4_drawNow 12 = .ok (.getfield 50, 3) := by decide +kernel
theorem dX4_drawNow_15 : decode cX4_drawNow 15 = .ok (.ifCond .ne 5, 3) := by decide +kernel
theorem dX4_drawNow_18 : decode cX4_drawNow 18 = .ok (.iconst 0, 1) := by decide +kernel
theorem dX4_drawNow_19 : decode cX4_drawNow 19 = .ok (.ireturn, 1) := by decide +kernel
theorem dX4_drawNow_20 : decode cX4_drawNow 20 = .ok (.aload_n 0, 1) := by decide +kernel
theorem dX4_drawNow_21 : decode cX4_drawNow 21 = .ok (.aload_n 0, 1) := by decide +kernel
theorem dX4_drawNow_22 : decode cX4_drawNow 22 = .ok (.getfield 22, 3) := by decide +kernel
theorem dX4_drawNow_25 : decode cX4_drawNow 25 = .ok (.ldc 83, 2) := by decide +kernel
theorem dX4_drawNow_27 : decode cX4_drawNow 27 = .ok (.imul, 1) := by decide +kernel
theorem dX4_drawNow_28 : decode cX4_drawNow 28 = .ok (.sipush 12345, 3) := by decide +kernel
theorem dX4_drawNow_31 : decode cX4_drawNow 31 = .ok (.iadd, 1) := by decide +kernel
theorem dX4_drawNow_32 : decode cX4_drawNow 32 = .ok (.putfield 22, 3) := by decide +kernel
theorem dX4_drawNow_35 : decode cX4_drawNow 35 = .ok (.aload_n 0, 1) := by decide +kernel
theorem dX4_drawNow_36 : decode cX4_drawNow 36 = .ok (.getfield 22, 3) := by decide +kernel
theorem dX4_drawNow_39 : decode cX4_drawNow 39 = .ok (.bipush 16, 2) := by decide +kernel
theorem dX4_drawNow_41 : decode cX4_drawNow 41 = .ok (.iushr, 1) := by decide +kernel
theorem dX4_drawNow_42 : decode cX4_drawNow 42 = .ok (.sipush 32767, 3) := by decide +kernel
theorem dX4_drawNow_45 : decode cX4_drawNow 45 = .ok (.iand, 1) := by decide +kernel
theorem dX4_drawNow_46 : decode cX4_drawNow 46 = .ok (.aload_n 0, 1) := by decide +kernel
theorem dX4_drawNow_47 : decode cX4_drawNow 47 = .ok (.getfield 19, 3) := by decide +kernel
theorem dX4_drawNow_50 : decode cX4_drawNow 50 = .ok (.iconst 1, 1) := by decide +kernel
theorem dX4_drawNow_51 : decode cX4_drawNow 51 = .ok (.iadd, 1) := by decide +kernel
theorem dX4_drawNow_52 : decode cX4_drawNow 52 = .ok (.irem, 1) := by decide +kernel
theorem dX4_drawNow_53 : decode cX4_drawNow 53 = .ok (.ireturn, 1) := by decide +kernel
theorem dX4_sumTo_0 : decode cX4_sumTo 0 = .ok (.aload_n 0, 1) := by decide +kernel
theorem dX4_sumTo_1 : decode cX4_sumTo 1 = .ok (.iconst 0, 1) := by decide +kernel
theorem dX4_sumTo_2 : decode cX4_sumTo 2 = .ok (.putfield 15, 3) := by decide +kernel
theorem dX4_sumTo_5 : decode cX4_sumTo 5 = .ok (.aload_n 0, 1) := by decide +kernel
theorem dX4_sumTo_6 : decode cX4_sumTo 6 = .ok (.aload_n 1, 1) := by decide +kernel
theorem dX4_sumTo_7 : decode cX4_sumTo 7 = .ok (.iload_n 2, 1) := by decide +kernel
theorem dX4_sumTo_8 : decode cX4_sumTo 8 = .ok (.iconst 0, 1) := by decide +kernel
theorem dX4_sumTo_9 : decode cX4_sumTo 9 = .ok (.iload_n 3, 1) := by decide +kernel
theorem dX4_sumTo_10 : decode cX4_sumTo 10 = .ok (.invokevirtual 84, 3) := by decide +kernel
theorem dX4_sumTo_13 : decode cX4_sumTo 13 = .ok (.aload_n 0, 1) := by decide +kernel
theorem dX4_sumTo_14 : decode cX4_sumTo 14 = .ok (.getfield 15, 3) := by decide +kernel
theorem dX4_sumTo_17 : decode cX4_sumTo 17 = .ok (.ireturn, 1) := by decide +kernel
theorem dX4_addFrom_0 : decode cX4_addFrom 0 = .ok (.iload_n 3, 1) := by decide +kernel
theorem dX4_addFrom_1 : decode cX4_addFrom 1 = .ok (.istore 5, 2) := by decide +kernel
theorem dX4_addFrom_3 : decode cX4_addFrom 3 = .ok (.iload 5, 2) := by decide +kernel
theorem dX4_addFrom_5 : decode cX4_addFrom 5 = .ok (.iload 4, 2) := by decide +kernel
theorem dX4_addFrom_7 : decode cX4_addFrom 7 = .ok (.if_icmp .gt 33, 3) := by decide +kernel
theorem dX4_addFrom_10 : decode cX4_addFrom 10 = .ok (.aload_n 0, 1) := by decide +kernel
theorem dX4_addFrom_11 : decode cX4_addFrom 11 = .ok (.getfield 29, 3) := by decide +kernel
theorem dX4_addFrom_14 : decode cX4_addFrom 14 = .ok (.iload_n 2, 1) := by decide +kernel
theorem dX4_addFrom_15 : decode cX4_addFrom 15 = .ok (.iload 5, 2) := by decide +kernel
theorem dX4_addFrom_17 : decode cX4_addFrom 17 = .ok (.invokevirtual 88, 3) := by decide +kernel
theorem dX4_addFrom_20 : decode cX4_addFrom 20 = .ok (.aload_n 0, 1) := by decide +kernel
theorem dX4_addFrom_21 : decode cX4_addFrom 21 = .ok (.dup, 1) := by decide +kernel
theorem dX4_addFrom_22 : decode cX4_addFrom 22 = .ok (.getfield 15, 3) := by decide +kernel
theorem dX4_addFrom_25 : decode cX4_addFrom 25 = .ok (.aload_n 0, 1) := by decide +kernel
theorem dX4_addFrom_26 : decode cX4_addFrom 26 = .ok (.aload_n 1, 1) := by decide +kernel
theorem dX4_addFrom_27 : decode cX4_addFrom 27 = .ok (.invokevirtual 92, 3) := by decide +kernel
theorem dX4_addFrom_30 : decode cX4_addFrom 30 = .ok (.iadd, 1) := by decide +kernel
theorem dX4_addFrom_31 : decode cX4_addFrom 31 = .ok (.putfield 15, 3) := by decide +kernel
theorem dX4_addFrom_34 : decode cX4_addFrom 34 = .ok (.iinc 5 1, 3) := by decide +kernel
theorem dX4_addFrom_37 : decode cX4_addFrom 37 = .ok (.goto (-34), 3) := by decide +kernel
theorem dX4_addFrom_40 : decode cX4_addFrom 40 = .ok (.return_, 1) := by decide +kernel
theorem dX4_firstSeen_0 : decode cX4_firstSeen 0 = .ok (.aload_n 0, 1) := by decide +kernel
theorem dX4_firstSeen_1 : decode cX4_firstSeen 1 = .ok (.iconst 0, 1) := by decide +kernel
theorem dX4_firstSeen_2 : decode cX4_firstSeen 2 = .ok (.putfield 15, 3) := by decide +kernel
theorem dX4_firstSeen_5 : decode cX4_firstSeen 5 = .ok (.iconst 0, 1) := by decide +kernel
theorem dX4_firstSeen_6 : decode cX4_firstSeen 6 = .ok (.istore_n 3, 1) := by decide +kernel
theorem dX4_firstSeen_7 : decode cX4_firstSeen 7 = .ok (.iload_n 3, 1) := by decide +kernel
theorem dX4_firstSeen_8 : decode cX4_firstSeen 8 = .ok (.aload_n 0, 1) := by decide +kernel
theorem dX4_firstSeen_9 : decode cX4_firstSeen 9 = .ok (.getfield 29, 3) := by decide +kernel
theorem dX4_firstSeen_12 : decode cX4_firstSeen 12 = .ok (.getfield 96, 3) := by decide +kernel
theorem dX4_firstSeen_15 : decode cX4_firstSeen 15 = .ok (.getfield 100, 3) := by decide +kernel
theorem dX4_firstSeen_18 : decode cX4_firstSeen 18 = .ok (.if_icmp .gt 86, 3) := by decide +kernel
theorem dX4_firstSeen_21 : decode cX4_firstSeen 21 = .ok (.aload_n 0, 1) := by decide +kernel
theorem dX4_firstSeen_22 : decode cX4_firstSeen 22 = .ok (.getfield 25, 3) := by decide +kernel
theorem dX4_firstSeen_25 : decode cX4_firstSeen 25 = .ok (.ifCond .eq 18, 3) := by decide +kernel
theorem dX4_firstSeen_28 : decode cX4_firstSeen 28 = .ok (.aload_n 0, 1) := by decide +kernel
theorem dX4_firstSeen_29 : decode cX4_firstSeen 29 = .ok (.getfield 29, 3) := by decide +kernel
theorem dX4_firstSeen_32 : decode cX4_firstSeen 32 = .ok (.getfield 96, 3) := by decide +kernel
theorem dX4_firstSeen_35 : decode cX4_firstSeen 35 = .ok (.iload_n 2, 1) := by decide +kernel
theorem dX4_firstSeen_36 : decode cX4_firstSeen 36 = .ok (.iload_n 3, 1) := by decide +kernel
theorem dX4_firstSeen_37 : decode cX4_firstSeen 37 = .ok (.invokevirtual 105, 3) := by decide +kernel
theorem dX4_firstSeen_40 : decode cX4_firstSeen 40 = .ok (.ifCond .eq 58, 3) := by decide +kernel
theorem dX4_firstSeen_43 : decode cX4_firstSeen 43 = .ok (.aload_n 0, 1) := by decide +kernel
theorem dX4_firstSeen_44 : decode cX4_firstSeen 44 = .ok (.getfield 29, 3) := by decide +kernel
theorem dX4_firstSeen_47 : decode cX4_firstSeen 47 = .ok (.iload_n 2, 1) := by decide +kernel
theorem dX4_firstSeen_48 : decode cX4_firstSeen 48 = .ok (.iload_n 3, 1) := by decide +kernel
theorem dX4_firstSeen_49 : decode cX4_firstSeen 49 = .ok (.invokevirtual 88, 3) := by decide +kernel
theorem dX4_firstSeen_52 : decode cX4_firstSeen 52 = .ok (.aload_n 0, 1) := by decide +kernel
theorem dX4_firstSeen_53 : decode cX4_firstSeen 53 = .ok (.dup, 1) := by decide +kernel
theorem dX4_firstSeen_54 : decode cX4_firstSeen 54 = .ok (.getfield 15, 3) := by decide +kernel
theorem dX4_firstSeen_57 : decode cX4_firstSeen 57 = .ok (.aload_n 0, 1) := by decide +kernel
theorem dX4_firstSeen_58 : decode cX4_firstSeen 58 = .ok (.aload_n 1, 1) := by decide +kernel
theorem dX4_firstSeen_59 : decode cX4_firstSeen 59 = .ok (.invokevirtual 92, 3) := by decide +kernel
theorem dX4_firstSeen_62 : decode cX4_firstSeen 62 = .ok (.aload_n 0, 1) := by decide +kernel
theorem dX4_firstSeen_63 : decode cX4_firstSeen 63 = .ok (.invokevirtual 109, 3) := by decide +kernel
theorem dX4_firstSeen_66 : decode cX4_firstSeen 66 = .ok (.iadd, 1) := by decide +kernel
theorem dX4_firstSeen_67 : decode cX4_firstSeen 67 = .ok (.iadd, 1) := by decide +kernel
theorem dX4_firstSeen_68 : decode cX4_firstSeen 68 = .ok (.putfield 15, 3) := by decide +kernel
theorem dX4_firstSeen_71 : decode cX4_firstSeen 71 = .ok (.aload_n 0, 1) := by decide +kernel
theorem dX4_firstSeen_72 : decode cX4_firstSeen 72 = .ok (.getfield 15, 3) := by decide +kernel
theorem dX4_firstSeen_75 : decode cX4_firstSeen 75 = .ok (.ifCond .le 23, 3) := by decide +kernel
theorem dX4_firstSeen_78 : decode cX4_firstSeen 78 = .ok (.aload_n 0, 1) := by decide +kernel
theorem dX4_firstSeen_79 : decode cX4_firstSeen 79 = .ok (.getfield 15, 3) := by decide +kernel
theorem dX4_firstSeen_82 : decode cX4_firstSeen 82 = .ok (.aload_n 0, 1) := by decide +kernel
theorem dX4_firstSeen_83 : decode cX4_firstSeen 83 = .ok (.aload_n 1, 1) := by decide +kernel
theorem dX4_firstSeen_84 : decode cX4_firstSeen 84 = .ok (.iconst 1, 1) := by decide +kernel
theorem dX4_firstSeen_85 : decode cX4_firstSeen 85 = .ok (.iconst 1, 1) := by decide +kernel
theorem dX4_firstSeen_86 : decode cX4_firstSeen 86 = .ok (.ldc 78, 2) := by decide +kernel
theorem dX4_firstSeen_88 : decode cX4_firstSeen 88 = .ok (.bipush 100, 2) := by decide +kernel
theorem dX4_firstSeen_90 : decode cX4_firstSeen 90 = .ok (.invokevirtual 79, 3) := by decide +kernel
theorem dX4_firstSeen_93 : decode cX4_firstSeen 93 = .ok (.if_icmp .lt 5, 3) := by decide +kernel
theorem dX4_firstSeen_96 : decode cX4_firstSeen 96 = .ok (.iload_n 3, 1) := by decide +kernel
theorem dX4_firstSeen_97 : decode cX4_firstSeen 97 = .ok (.ireturn, 1) := by decide +kernel
theorem dX4_firstSeen_98 : decode cX4_firstSeen 98 = .ok (.iinc 3 1, 3) := by decide +kernel
theorem dX4_firstSeen_101 : decode cX4_firstSeen 101 = .ok (.goto (-94), 3) := by decide +kernel
theorem dX4_firstSeen_104 : decode cX4_firstSeen 104 = .ok (.iconst (-1), 1) := by decide +kernel
theorem dX4_firstSeen_105 : decode cX4_firstSeen 105 = .ok (.ireturn, 1) := by decide +kernel
theorem dX4_judge_0 : decode cX4_judge 0 = .ok (.aload_n 0, 1) := by decide +kernel
theorem dX4_judge_1 : decode cX4_judge 1 = .ok (.getfield 29, 3) := by decide +kernel
theorem dX4_judge_4 : decode cX4_judge 4 = .ok (.getfield 96, 3) := by decide +kernel
theorem dX4_judge_7 : decode cX4_judge 7 = .ok (.getfield 113, 3) := by decide +kernel
theorem dX4_judge_10 : decode cX4_judge 10 = .ok (.istore_n 2, 1) := by decide +kernel
theorem dX4_judge_11 : decode cX4_judge 11 = .ok (.aload_n 0, 1) := by decide +kernel
theorem dX4_judge_12 : decode cX4_judge 12 = .ok (.getfield 29, 3) := by decide +kernel
theorem dX4_judge_15 : decode cX4_judge 15 = .ok (.getfield 96, 3) := by decide +kernel
theorem dX4_judge_18 : decode cX4_judge 18 = .ok (.getfield 100, 3) := by decide +kernel
theorem dX4_judge_21 : decode cX4_judge 21 = .ok (.istore_n 3, 1) := by decide +kernel
theorem dX4_judge_22 : decode cX4_judge 22 = .ok (.iload_n 2, 1) := by decide +kernel
theorem dX4_judge_23 : decode cX4_judge 23 = .ok (.iconst (-1), 1) := by decide +kernel
theorem dX4_judge_24 : decode cX4_judge 24 = .ok (.if_icmp .ne 7, 3) := by decide +kernel
theorem dX4_judge_27 : decode cX4_judge 27 = .ok (.iconst (-1), 1) := by decide +kernel
theorem dX4_judge_28 : decode cX4_judge 28 = .ok (.goto 9, 3) := by decide +kernel
theorem dX4_judge_31 : decode cX4_judge 31 = .ok (.aload_n 0, 1) := by decide +kernel
theorem dX4_judge_32 : decode cX4_judge 32 = .ok (.aload_n 1, 1) := by decide +kernel
theorem dX4_judge_33 : decode cX4_judge 33 = .ok (.iload_n 2, 1) := by decide +kernel
theorem dX4_judge_34 : decode cX4_judge 34 = .ok (.invokevirtual 116, 3) := by decide +kernel
theorem dX4_judge_37 : decode cX4_judge 37 = .ok (.istore 4, 2) := by decide +kernel
theorem dX4_judge_39 : decode cX4_judge 39 = .ok (.iload 4, 2) := by decide +kernel
theorem dX4_judge_41 : decode cX4_judge 41 = .ok (.iconst (-1), 1) := by decide +kernel
theorem dX4_judge_42 : decode cX4_judge 42 = .ok (.if_icmp .ne 5, 3) := by decide +kernel
theorem dX4_judge_45 : decode cX4_judge 45 = .ok (.iconst 0, 1) := by decide +kernel
theorem dX4_judge_46 : decode cX4_judge 46 = .ok (.ireturn, 1) := by decide +kernel
theorem dX4_judge_47 : decode cX4_judge 47 = .ok (.aload_n 0, 1) := by decide +kernel
theorem dX4_judge_48 : decode cX4_judge 48 = .ok (.aload_n 1, 1) := by decide +kernel
theorem dX4_judge_49 : decode cX4_judge 49 = .ok (.iload_n 2, 1) := by decide +kernel
theorem dX4_judge_50 : decode cX4_judge 50 = .ok (.iload 4, 2) := by decide +kernel
theorem dX4_judge_52 : decode cX4_judge 52 = .ok (.iconst 1, 1) := by decide +kernel
theorem dX4_judge_53 : decode cX4_judge 53 = .ok (.iadd, 1) := by decide +kernel
theorem dX4_judge_54 : decode cX4_judge 54 = .ok (.iload_n 3, 1) := by decide +kernel
theorem dX4_judge_55 : decode cX4_judge 55 = .ok (.invokevirtual 84, 3) := by decide +kernel
theorem dX4_judge_58 : decode cX4_judge 58 = .ok (.aload_n 0, 1) := by decide +kernel
theorem dX4_judge_59 : decode cX4_judge 59 = .ok (.getfield 29, 3) := by decide +kernel
theorem dX4_judge_62 : decode cX4_judge 62 = .ok (.iload_n 2, 1) := by decide +kernel
theorem dX4_judge_63 : decode cX4_judge 63 = .ok (.iload_n 3, 1) := by decide +kernel
theorem dX4_judge_64 : decode cX4_judge 64 = .ok (.invokevirtual 88, 3) := by decide +kernel
theorem dX4_judge_67 : decode cX4_judge 67 = .ok (.iconst 1, 1) := by decide +kernel
theorem dX4_judge_68 : decode cX4_judge 68 = .ok (.istore 5, 2) := by decide +kernel
theorem dX4_judge_70 : decode cX4_judge 70 = .ok (.iload_n 3, 1) := by decide +kernel
theorem dX4_judge_71 : decode cX4_judge 71 = .ok (.iload 4, 2) := by decide +kernel
theorem dX4_judge_73 : decode cX4_judge 73 = .ok (.isub, 1) := by decide +kernel
theorem dX4_judge_74 : decode cX4_judge 74 = .ok (.aload_n 0, 1) := by decide +kernel
theorem dX4_judge_75 : decode cX4_judge 75 = .ok (.aload_n 1, 1) := by decide +kernel
theorem dX4_judge_76 : decode cX4_judge 76 = .ok (.iconst 2, 1) := by decide +kernel
theorem dX4_judge_77 : decode cX4_judge 77 = .ok (.iconst 0, 1) := by decide +kernel
theorem dX4_judge_78 : decode cX4_judge 78 = .ok (.sipush 999, 3) := by decide +kernel
theorem dX4_judge_81 : decode cX4_judge 81 = .ok (.sipush 999, 3) := by decide +kernel
theorem dX4_judge_84 : decode cX4_judge 84 = .ok (.invokevirtual 79, 3) := by decide +kernel
theorem dX4_judge_87 : decode cX4_judge 87 = .ok (.if_icmp .le 9, 3) := by decide +kernel
theorem dX4_judge_90 : decode cX4_judge 90 = .ok (.iload 5, 2) := by decide +kernel
theorem dX4_judge_92 : decode cX4_judge 92 = .ok (.iconst 2, 1) := by decide +kernel
theorem dX4_judge_93 : decode cX4_judge 93 = .ok (.ior, 1) := by decide +kernel
theorem dX4_judge_94 : decode cX4_judge 94 = .ok (.istore 5, 2) := by decide +kernel
theorem dX4_judge_96 : decode cX4_judge 96 = .ok (.aload_n 0, 1) := by decide +kernel
theorem dX4_judge_97 : decode cX4_judge 97 = .ok (.getfield 15, 3) := by decide +kernel
theorem dX4_judge_100 : decode cX4_judge 100 = .ok (.aload_n 0, 1) := by decide +kernel
theorem dX4_judge_101 : decode cX4_judge 101 = .ok (.aload_n 1, 1) := by decide +kernel
theorem dX4_judge_102 : decode cX4_judge 102 = .ok (.iconst 3, 1) := by decide +kernel
theorem dX4_judge_103 : decode cX4_judge 103 = .ok (.iconst 0, 1) := by decide +kernel
theorem dX4_judge_104 : decode cX4_judge 104 = .ok (.ldc 78, 2) := by decide +kernel
theorem dX4_judge_106 : decode cX4_judge 106 = .ok (.iconst 0, 1) := by decide +kernel
theorem dX4_judge_107 : decode cX4_judge 107 = .ok (.invokevirtual 79, 3) := by decide +kernel
theorem dX4_judge_110 : decode cX4_judge 110 = .ok (.if_icmp .ge 9, 3) := by decide +kernel
theorem dX4_judge_113 : decode cX4_judge 113 = .ok (.iload 5, 2) := by decide +kernel
theorem dX4_judge_115 : decode cX4_judge 115 = .ok (.iconst 4, 1) := by decide +kernel
theorem dX4_judge_116 : decode cX4_judge 116 = .ok (.ior, 1) := by decide +kernel
theorem dX4_judge_117 : decode cX4_judge 117 = .ok (.istore 5, 2) := by decide +kernel
theorem dX4_judge_119 : decode cX4_judge 119 = .ok (.iload 5, 2) := by decide +kernel
theorem dX4_judge_121 : decode cX4_judge 121 = .ok (.ireturn, 1) := by decide +kernel
theorem dX5_init_0 : decode cX5_init 0 = .ok (.aload_n 0, 1) := by decide +kernel
theorem dX5_init_1 : decode cX5_init 1 = .ok (.invokespecial 3, 3) := by decide +kernel
theorem dX5_init_4 : decode cX5_init 4 = .ok (.aload_n 0, 1) := by decide +kernel
theorem dX5_init_5 : decode cX5_init 5 = .ok (.sipush 400, 3) := by decide +kernel
theorem dX5_init_8 : decode cX5_init 8 = .ok (.newarray .int, 2) := by decide +kernel
theorem dX5_init_10 : decode cX5_init 10 = .ok (.putfield 9, 3) := by decide +kernel
theorem dX5_init_13 : decode cX5_init 13 = .ok (.aload_n 0, 1) := by decide +kernel
theorem dX5_init_14 : decode cX5_init 14 = .ok (.iconst 0, 1) := by decide +kernel
theorem dX5_init_15 : decode cX5_init 15 = .ok (.putfield 15, 3) := by decide +kernel
theorem dX5_init_18 : decode cX5_init 18 = .ok (.aload_n 0, 1) := by decide +kernel
theorem dX5_init_19 : decode cX5_init 19 = .ok (.iconst 0, 1) := by decide +kernel
theorem dX5_init_20 : decode cX5_init 20 = .ok (.putfield 19, 3) := by decide +kernel
theorem dX5_init_23 : decode cX5_init 23 = .ok (.aload_n 0, 1) := by decide +kernel
theorem dX5_init_24 : decode cX5_init 24 = .ok (.iconst 0, 1) := by decide +kernel
theorem dX5_init_25 : decode cX5_init 25 = .ok (.putfield 22, 3) := by decide +kernel
theorem dX5_init_28 : decode cX5_init 28 = .ok (.aload_n 0, 1) := by decide +kernel
theorem dX5_init_29 : decode cX5_init 29 = .ok (.iconst 0, 1) := by decide +kernel
theorem dX5_init_30 : decode cX5_init 30 = .ok (.putfield 25, 3) := by decide +kernel
theorem dX5_init_33 : decode cX5_init 33 = .ok (.aload_n 0, 1) := by decide +kernel
theorem dX5_init_34 : decode cX5_init 34 = .ok (.iconst 0, 1) := by decide +kernel
theorem dX5_init_35 : decode cX5_init 35 = .ok (.putfield 28, 3) := by decide +kernel
theorem dX5_init_38 : decode cX5_init 38 = .ok (.aload_n 0, 1) := by decide +kernel
theorem dX5_init_39 : decode cX5_init 39 = .ok (.iconst (-1), 1) := by decide +kernel
theorem dX5_init_40 : decode cX5_init 40 = .ok (.putfield 31, 3) := by decide +kernel
theorem dX5_init_43 : decode cX5_init 43 = .ok (.return_, 1) := by decide +kernel
theorem dX5_hasRoom_0 : decode cX5_hasRoom 0 = .ok (.aload_n 0, 1) := by decide +kernel
theorem dX5_hasRoom_1 : decode cX5_hasRoom 1 = .ok (.getfield 15, 3) := by decide +kernel
theorem dX5_hasRoom_4 : decode cX5_hasRoom 4 = .ok (.bipush 20, 2) := by decide +kernel
theorem dX5_hasRoom_6 : decode cX5_hasRoom 6 = .ok (.iadd, 1) := by decide +kernel
theorem dX5_hasRoom_7 : decode cX5_hasRoom 7 = .ok (.sipush 400, 3) := by decide +kernel
theorem dX5_hasRoom_10 : decode cX5_hasRoom 10 = .ok (.if_icmp .gt 7, 3) := by decide +kernel
theorem dX5_hasRoom_13 : decode cX5_hasRoom 13 = .ok (.iconst 1, 1) := by decide +kernel
theorem dX5_hasRoom_14 : decode cX5_hasRoom 14 = .ok (.goto 4, 3) := by decide +kernel
theorem dX5_hasRoom_17 : decode cX5_hasRoom 17 = .ok (.iconst 0, 1) := by decide +kernel
theorem dX5_hasRoom_18 : decode cX5_hasRoom 18 = .ok (.ireturn, 1) := by decide +kernel
theorem dX5_put_0 : decode cX5_put 0 = .ok (.bipush 24, 2) := by decide +kernel
theorem dX5_put_2 : decode cX5_put 2 = .ok (.istore_n 2, 1) := by decide +kernel
theorem dX5_put_3 : decode cX5_put 3 = .ok (.iload_n 2, 1) := by decide +kernel
theorem dX5_put_4 : decode cX5_put 4 = .ok (.ifCond .lt 45, 3) := by decide +kernel
theorem dX5_put_7 : decode cX5_put 7 = .ok (.aload_n 0, 1) := by decide +kernel
theorem dX5_put_8 : decode cX5_put 8 = .ok (.getfield 15, 3) := by decide +kernel
theorem dX5_put_11 : decode cX5_put 11 = .ok (.sipush 400, 3) := by decide +kernel
theorem dX5_put_14 : decode cX5_put 14 = .ok (.if_icmp .ge 35, 3) := by decide +kernel
theorem dX5_put_17 : decode cX5_put 17 = .ok (.aload_n 0, 1) := by decide +kernel
theorem dX5_put_18 : decode cX5_put 18 = .ok (.getfield 9, 3) := by decide +kernel
theorem dX5_put_21 : decode cX5_put 21 = .ok (.aload_n 0, 1) := by decide +kernel
theorem dX5_put_22 : decode cX5_put 22 = .ok (.getfield 15, 3) := by decide +kernel
theorem dX5_put_25 : decode cX5_put 25 = .ok (.iload_n 1, 1) := by decide +kernel
theorem dX5_put_26 : decode cX5_put 26 = .ok (.iload_n 2, 1) := by decide +kernel
theorem dX5_put_27 : decode cX5_put 27 = .ok (.iushr, 1) := by decide +kernel
theorem dX5_put_28 : decode cX5_put 28 = .ok (.sipush 255, 3) := by decide +kernel
theorem dX5_put_31 : decode cX5_put 31 = .ok (.iand, 1) := by decide +kernel
theorem dX5_put_32 : decode cX5_put 32 = .ok (.iastore, 1) := by decide +kernel
theorem dX5_put_33 : decode cX5_put 33 = .ok (.aload_n 0, 1) := by decide +kernel
theorem dX5_put_34 : decode cX5_put 34 = .ok (.dup, 1) := by decide +kernel
theorem dX5_put_35 : decode cX5_put 35 = .ok (.getfield 15, 3) := by decide +kernel
theorem dX5_put_38 : decode cX5_put 38 = .ok (.iconst 1, 1) := by decide +kernel
theorem dX5_put_39 : decode cX5_put 39 = .ok (.iadd, 1) := by decide +kernel
theorem dX5_put_40 : decode cX5_put 40 = .ok (.putfield 15, 3) := by decide +kernel
theorem dX5_put_43 : decode cX5_put 43 = .ok (.iinc 2 (-8), 3) := by decide +kernel
theorem dX5_put_46 : decode cX5_put 46 = .ok (.goto (-43), 3) := by decide +kernel
theorem dX5_put_49 : decode cX5_put 49 = .ok (.return_, 1) := by decide +kernel
theorem dX5_open_0 : decode cX5_open 0 = .ok (.aload_n 0, 1) := by decide +kernel
theorem dX5_open_1 : decode cX5_open 1 = .ok (.iload_n 1, 1) := by decide +kernel
theorem dX5_open_2 : decode cX5_open 2 = .ok (.putfield 19, 3) := by decide +kernel
theorem dX5_open_5 : decode cX5_open 5 = .ok (.aload_n 0, 1) := by decide +kernel
theorem dX5_open_6 : decode cX5_open 6 = .ok (.iconst 0, 1) := by decide +kernel
theorem dX5_open_7 : decode cX5_open 7 = .ok (.putfield 15, 3) := by decide +kernel
theorem dX5_open_10 : decode cX5_open 10 = .ok (.aload_n 0, 1) := by decide +kernel
theorem dX5_open_11 : decode cX5_open 11 = .ok (.iconst 0, 1) := by decide +kernel
theorem dX5_open_12 : decode cX5_open 12 = .ok (.putfield 22, 3) := by decide +kernel
theorem dX5_open_15 : decode cX5_open 15 = .ok (.aload_n 0, 1) := by decide +kernel
theorem dX5_open_16 : decode cX5_open 16 = .ok (.iconst 0, 1) := by decide +kernel
theorem dX5_open_17 : decode cX5_open 17 = .ok (.putfield 25, 3) := by decide +kernel
theorem dX5_open_20 : decode cX5_open 20 = .ok (.aload_n 0, 1) := by decide +kernel
theorem dX5_open_21 : decode cX5_open 21 = .ok (.iconst 0, 1) := by decide +kernel
theorem dX5_open_22 : decode cX5_open 22 = .ok (.putfield 28, 3) := by decide +kernel
theorem dX5_open_25 : decode cX5_open 25 = .ok (.aload_n 0, 1) := by decide +kernel
theorem dX5_open_26 : decode cX5_open 26 = .ok (.iconst (-1), 1) := by decide +kernel
theorem dX5_open_27 : decode cX5_open 27 = .ok (.putfield 31, 3) := by decide +kernel
theorem dX5_open_30 : decode cX5_open 30 = .ok (.return_, 1) := by decide +kernel
theorem dX5_blame_0 : decode cX5_blame 0 = .ok (.aload_n 0, 1) := by decide +kernel
theorem dX5_blame_1 : decode cX5_blame 1 = .ok (.getfield 28, 3) := by decide +kernel
theorem dX5_blame_4 : decode cX5_blame 4 = .ok (.ifCond .ne 13, 3) := by decide +kernel
theorem dX5_blame_7 : decode cX5_blame 7 = .ok (.aload_n 0, 1) := by decide +kernel
theorem dX5_blame_8 : decode cX5_blame 8 = .ok (.iload_n 1, 1) := by decide +kernel
theorem dX5_blame_9 : decode cX5_blame 9 = .ok (.putfield 28, 3) := by decide +kernel
theorem dX5_blame_12 : decode cX5_blame 12 = .ok (.aload_n 0, 1) := by decide +kernel
theorem dX5_blame_13 : decode cX5_blame 13 = .ok (.iload_n 2, 1) := by decide +kernel
theorem dX5_blame_14 : decode cX5_blame 14 = .ok (.putfield 31, 3) := by decide +kernel
theorem dX5_blame_17 : decode cX5_blame 17 = .ok (.return_, 1) := by decide +kernel
theorem dX5_skipBlanks_0 : decode cX5_skipBlanks 0 = .ok (.aload_n 0, 1) := by decide +kernel
theorem dX5_skipBlanks_1 : decode cX5_skipBlanks 1 = .ok (.getfield 22, 3) := by decide +kernel
theorem dX5_skipBlanks_4 : decode cX5_skipBlanks 4 = .ok (.aload_n 0, 1) := by decide +kernel
theorem dX5_skipBlanks_5 : decode cX5_skipBlanks 5 = .ok (.getfield 19, 3) := by decide +kernel
theorem dX5_skipBlanks_8 : decode cX5_skipBlanks 8 = .ok (.if_icmp .ge 30, 3) := by decide +kernel
theorem dX5_skipBlanks_11 : decode cX5_skipBlanks 11 = .ok (.aload_n 0, 1) := by decide +kernel
theorem dX5_skipBlanks_12 : decode cX5_skipBlanks 12 = .ok (.getfield 9, 3) := by decide +kernel
theorem dX5_skipBlanks_15 : decode cX5_skipBlanks 15 = .ok (.aload_n 0, 1) := by decide +kernel
theorem dX5_skipBlanks_16 : decode cX5_skipBlanks 16 = .ok (.getfield 22, 3) := by decide +kernel
theorem dX5_skipBlanks_19 : decode cX5_skipBlanks 19 = .ok (.iaload, 1) := by decide +kernel
theorem dX5_skipBlanks_20 : decode cX5_skipBlanks 20 = .ok (.bipush 32, 2) := by decide +kernel
theorem dX5_skipBlanks_22 : decode cX5_skipBlanks 22 = .ok (.if_icmp .ne 16, 3) := by decide +kernel
theorem dX5_skipBlanks_25 : decode cX5_skipBlanks 25 = .ok (.aload_n 0, 1) := by decide +kernel
theorem dX5_skipBlanks_26 : decode cX5_skipBlanks 26 = .ok (.dup, 1) := by decide +kernel
theorem dX5_skipBlanks_27 : decode cX5_skipBlanks 27 = .ok (.getfield 22, 3) := by decide +kernel
theorem dX5_skipBlanks_30 : decode cX5_skipBlanks 30 = .ok (.iconst 1, 1) := by decide +kernel
theorem dX5_skipBlanks_31 : decode cX5_skipBlanks 31 = .ok (.iadd, 1) := by decide +kernel
theorem dX5_skipBlanks_32 : decode cX5_skipBlanks 32 = .ok (.putfield 22, 3) := by decide +kernel
theorem dX5_skipBlanks_35 : decode cX5_skipBlanks 35 = .ok (.goto (-35), 3) := by decide +kernel
theorem dX5_skipBlanks_38 : decode cX5_skipBlanks 38 = .ok (.return_, 1) := by decide +kernel
theorem dX5_isAt_0 : decode cX5_isAt 0 = .ok (.iload_n 1, 1) := by decide +kernel
theorem dX5_isAt_1 : decode cX5_isAt 1 = .ok (.aload_n 0, 1) := by decide +kernel
theorem dX5_isAt_2 : decode cX5_isAt 2 = .ok (.getfield 19, 3) := by decide +kernel
theorem dX5_isAt_5 : decode cX5_isAt 5 = .ok (.if_icmp .ge 27, 3) := by decide +kernel
theorem dX5_isAt_8 : decode cX5_isAt 8 = .ok (.aload_n 0, 1) := by decide +kernel
theorem dX5_isAt_9 : decode cX5_isAt 9 = .ok (.getfield 9, 3) := by decide +kernel
theorem dX5_isAt_12 : decode cX5_isAt 12 = .ok (.iload_n 1, 1) := by decide +kernel
theorem dX5_isAt_13 : decode cX5_isAt 13 = .ok (.iaload, 1) := by decide +kernel
theorem dX5_isAt_14 : decode cX5_isAt 14 = .ok (.iload_n 2, 1) := by decide +kernel
theorem dX5_isAt_15 : decode cX5_isAt 15 = .ok (.if_icmp .lt 17, 3) := by decide +kernel
theorem dX5_isAt_18 : decode cX5_isAt 18 = .ok (.aload_n 0, 1) := by decide +kernel
theorem dX5_isAt_19 : decode cX5_isAt 19 = .ok (.getfield 9, 3) := by decide +kernel
theorem dX5_isAt_22 : decode cX5_isAt 22 = .ok (.iload_n 1, 1) := by decide +kernel
theorem dX5_isAt_23 : decode cX5_isAt 23 = .ok (.iaload, 1) := by decide +kernel
theorem dX5_isAt_24 : decode cX5_isAt 24 = .ok (.iload_n 3, 1) := by decide +kernel
theorem dX5_isAt_25 : decode cX5_isAt 25 = .ok (.if_icmp .gt 7, 3) := by decide +kernel
theorem dX5_isAt_28 : decode cX5_isAt 28 = .ok (.iconst 1, 1) := by decide +kernel
theorem dX5_isAt_29 : decode cX5_isAt 29 = .ok (.goto 4, 3) := by decide +kernel
theorem dX5_isAt_32 : decode cX5_isAt 32 = .ok (.iconst 0, 1) := by decide +kernel
theorem dX5_isAt_33 : decode cX5_isAt 33 = .ok (.ireturn, 1) := by decide +kernel
theorem dX5_clauseWord_0 : decode cX5_clauseWord 0 = .ok (.aload_n 0, 1) := by decide +kernel
theorem dX5_clauseWord_1 : decode cX5_clauseWord 1 = .ok (.aload_n 1, 1) := by decide +kernel
theorem dX5_clauseWord_2 : decode cX5_clauseWord 2 = .ok (.invokevirtual 34, 3) := by decide +kernel
theorem dX5_clauseWord_5 : decode cX5_clauseWord 5 = .ok (.istore 4, 2) := by decide +kernel
theorem dX5_clauseWord_7 : decode cX5_clauseWord 7 = .ok (.aload_n 0, 1) := by decide +kernel
theorem dX5_clauseWord_8 : decode cX5_clauseWord 8 = .ok (.getfield 28, 3) := by decide +kernel
theorem dX5_clauseWord_11 : decode cX5_clauseWord 11 = .ok (.ifCond .ne 20, 3) := by decide +kernel
theorem dX5_clauseWord_14 : decode cX5_clauseWord 14 = .ok (.iload 4, 2) := by decide +kernel
theorem dX5_clauseWord_16 : decode cX5_clauseWord 16 = .ok (.iconst (-1), 1) := by decide +kernel
theorem dX5_clauseWord_17 : decode cX5_clauseWord 17 = .ok (.if_icmp .ne 16, 3) := by decide +kernel
theorem dX5_clauseWord_20 : decode cX5_clauseWord 20 = .ok (.aload_n 0, 1) := by decide +kernel
theorem dX5_clauseWord_21 : decode cX5_clauseWord 21 = .ok (.getfield 22, 3) := by decide +kernel
theorem dX5_clauseWord_24 : decode cX5_clauseWord 24 = .ok (.aload_n 0, 1) := by decide +kernel
theorem dX5_clauseWord_25 : decode cX5_clauseWord 25 = .ok (.getfield 19, 3) := by decide +kernel
theorem dX5_clauseWord_28 : decode cX5_clauseWord 28 = .ok (.if_icmp .ne 5, 3) := by decide +kernel
theorem dX5_clauseWord_31 : decode cX5_clauseWord 31 = .ok (.iconst (-1), 1) := by decide +kernel
theorem dX5_clauseWord_32 : decode cX5_clauseWord 32 = .ok (.ireturn, 1) := by decide +kernel
theorem dX5_clauseWord_33 : decode cX5_clauseWord 33 = .ok (.iload 4, 2) := by decide +kernel
theorem dX5_clauseWord_35 : decode cX5_clauseWord 35 = .ok (.iconst (-1), 1) := by decide +kernel
theorem dX5_clauseWord_36 : decode cX5_clauseWord 36 = .ok (.if_icmp .ne 15, 3) := by decide +kernel
theorem dX5_clauseWord_39 : decode cX5_clauseWord 39 = .ok (.aload_n 0, 1) := by decide +kernel
theorem dX5_clauseWord_40 : decode cX5_clauseWord 40 = .ok (.iconst 1, 1) := by decide +kernel
theorem dX5_clauseWord_41 : decode cX5_clauseWord 41 = .ok (.aload_n 0, 1) := by decide +kernel
theorem dX5_clauseWord_42 : decode cX5_clauseWord 42 = .ok (.getfield 22, 3) := by decide +kernel
theorem dX5_clauseWord_45 : decode cX5_clauseWord 45 = .ok (.invokevirtual 38, 3) := by decide +kernel
theorem dX5_clauseWord_48 : decode cX5_clauseWord 48 = .ok (.goto 17, 3) := by decide +kernel
theorem dX5_clauseWord_51 : decode cX5_clauseWord 51 = .ok (.iload_n 2, 1) := by decide +kernel
theorem dX5_clauseWord_52 : decode cX5_clauseWord 52 = .ok (.iload_n 3, 1) := by decide +kernel
theorem dX5_clauseWord_53 : decode cX5_clauseWord 53 = .ok (.if_icmp .lt 12, 3) := by decide +kernel
theorem dX5_clauseWord_56 : decode cX5_clauseWord 56 = .ok (.aload_n 0, 1) := by decide +kernel
theorem dX5_clauseWord_57 : decode cX5_clauseWord 57 = .ok (.iconst 3, 1) := by decide +kernel
theorem dX5_clauseWord_58 : decode cX5_clauseWord 58 = .ok (.aload_n 0, 1) := by decide +kernel
theorem dX5_clauseWord_59 : decode cX5_clauseWord 59 = .ok (.getfield 25, 3) := by decide +kernel
theorem dX5_clauseWord_62 : decode cX5_clauseWord 62 = .ok (.invokevirtual 38, 3) := by decide +kernel
theorem dX5_clauseWord_65 : decode cX5_clauseWord 65 = .ok (.aload_n 0, 1) := by decide +kernel
theorem dX5_clauseWord_66 : decode cX5_clauseWord 66 = .ok (.getfield 28, 3) := by decide +kernel
theorem dX5_clauseWord_69 : decode cX5_clauseWord 69 = .ok (.ifCond .ne 8, 3) := by decide +kernel
theorem dX5_clauseWord_72 : decode cX5_clauseWord 72 = .ok (.iload 4, 2) := by decide +kernel
theorem dX5_clauseWord_74 : decode cX5_clauseWord 74 = .ok (.goto 4, 3) := by decide +kernel
theorem dX5_clauseWord_77 : decode cX5_clauseWord 77 = .ok (.iconst (-1), 1) := by decide +kernel
theorem dX5_clauseWord_78 : decode cX5_clauseWord 78 = .ok (.ireturn, 1) := by decide +kernel
theorem dX5_takeWord_0 : decode cX5_takeWord 0 = .ok (.aload_n 0, 1) := by decide +kernel
theorem dX5_takeWord_1 : decode cX5_takeWord 1 = .ok (.getfield 28, 3) := by decide +kernel
theorem dX5_takeWord_4 : decode cX5_takeWord 4 = .ok (.ifCond .eq 5, 3) := by decide +kernel
theorem dX5_takeWord_7 : decode cX5_takeWord 7 = .ok (.iconst (-1), 1) := by decide +kernel
theorem dX5_takeWord_8 : decode cX5_takeWord 8 = .ok (.ireturn, 1) := by decide +kernel
theorem dX5_takeWord_9 : decode cX5_takeWord 9 = .ok (.aload_n 0, 1) := by decide +kernel
theorem dX5_takeWord_10 : decode cX5_takeWord 10 = .ok (.invokevirtual 42, 3) := by decide +kernel
theorem dX5_takeWord_13 : decode cX5_takeWord 13 = .ok (.aload_n 0, 1) := by decide +kernel
theorem dX5_takeWord_14 : decode cX5_takeWord 14 = .ok (.getfield 22, 3) := by decide +kernel
theorem dX5_takeWord_17 : decode cX5_takeWord 17 = .ok (.istore_n 2, 1) := by decide +kernel
theorem dX5_takeWord_18 : decode cX5_takeWord 18 = .ok (.iload_n 2, 1) := by decide +kernel
theorem dX5_takeWord_19 : decode cX5_takeWord 19 = .ok (.aload_n 0, 1) := by decide +kernel
theorem dX5_takeWord_20 : decode cX5_takeWord 20 = .ok (.getfield 19, 3) := by decide +kernel
theorem dX5_takeWord_23 : decode cX5_takeWord 23 = .ok (.if_icmp .ge 21, 3) := by decide +kernel
theorem dX5_takeWord_26 : decode cX5_takeWord 26 = .ok (.aload_n 0, 1) := by decide +kernel
theorem dX5_takeWord_27 : decode cX5_takeWord 27 = .ok (.iload_n 2, 1) := by decide +kernel
theorem dX5_takeWord_28 : decode cX5_takeWord 28 = .ok (.bipush 97, 2) := by decide +kernel
theorem dX5_takeWord_30 : decode cX5_takeWord 30 = .ok (.bipush 122, 2) := by decide +kernel
theorem dX5_takeWord_32 : decode cX5_takeWord 32 = .ok (.invokevirtual 45, 3) := by decide +kernel
theorem dX5_takeWord_35 : decode cX5_takeWord 35 = .ok (.ifCond .eq 9, 3) := by decide +kernel
theorem dX5_takeWord_38 : decode cX5_takeWord 38 = .ok (.iinc 2 1, 3) := by decide +kernel
theorem dX5_takeWord_41 : decode cX5_takeWord 41 = .ok (.goto (-23), 3) := by decide +kernel
theorem dX5_takeWord_44 : decode cX5_takeWord 44 = .ok (.aload_n 0, 1) := by decide +kernel
theorem dX5_takeWord_45 : decode cX5_takeWord 45 = .ok (.aload_n 1, 1) := by decide +kernel
theorem dX5_takeWord_46 : decode cX5_takeWord 46 = .ok (.iload_n 2, 1) := by decide +kernel
theorem dX5_takeWord_47 : decode cX5_takeWord 47 = .ok (.aload_n 0, 1) := by decide +kernel
theorem dX5_takeWord_48 : decode cX5_takeWord 48 = .ok (.getfield 22, 3) := by decide +kernel
theorem dX5_takeWord_51 : decode cX5_takeWord 51 = .ok (.isub, 1) := by decide +kernel
theorem dX5_takeWord_52 : decode cX5_takeWord 52 = .ok (.invokevirtual 49, 3) := by decide +kernel
theorem dX5_takeWord_55 : decode cX5_takeWord 55 = .ok (.istore_n 3, 1) := by decide +kernel
theorem dX5_takeWord_56 : decode cX5_takeWord 56 = .ok (.iload_n 3, 1) := by decide +kernel
theorem dX5_takeWord_57 : decode cX5_takeWord 57 = .ok (.iconst (-1), 1) := by decide +kernel
theorem dX5_takeWord_58 : decode cX5_takeWord 58 = .ok (.if_icmp .eq 16, 3) := by decide +kernel
theorem dX5_takeWord_61 : decode cX5_takeWord 61 = .ok (.aload_n 0, 1) := by decide +kernel
theorem dX5_takeWord_62 : decode cX5_takeWord 62 = .ok (.aload_n 0, 1) := by decide +kernel
theorem dX5_takeWord_63 : decode cX5_takeWord 63 = .ok (.getfield 22, 3) := by decide +kernel
theorem dX5_takeWord_66 : decode cX5_takeWord 66 = .ok (.putfield 25, 3) := by decide +kernel
theorem dX5_takeWord_69 : decode cX5_takeWord 69 = .ok (.aload_n 0, 1) := by decide +kernel
theorem dX5_takeWord_70 : decode cX5_takeWord 70 = .ok (.iload_n 2, 1) := by decide +kernel
theorem dX5_takeWord_71 : decode cX5_takeWord 71 = .ok (.putfield 22, 3) := by decide +kernel
theorem dX5_takeWord_74 : decode cX5_takeWord 74 = .ok (.iload_n 3, 1) := by decide +kernel
theorem dX5_takeWord_75 : decode cX5_takeWord 75 = .ok (.ireturn, 1) := by decide +kernel
theorem dX5_wordIn_0 : decode cX5_wordIn 0 = .ok (.iconst 0, 1) := by decide +kernel
theorem dX5_wordIn_1 : decode cX5_wordIn 1 = .ok (.istore_n 3, 1) := by decide +kernel
theorem dX5_wordIn_2 : decode cX5_wordIn 2 = .ok (.iconst 0, 1) := by decide +kernel
theorem dX5_wordIn_3 : decode cX5_wordIn 3 = .ok (.istore 4, 2) := by decide +kernel
theorem dX5_wordIn_5 : decode cX5_wordIn 5 = .ok (.iconst 0, 1) := by decide +kernel
theorem dX5_wordIn_6 : decode cX5_wordIn 6 = .ok (.istore 5, 2) := by decide +kernel
theorem dX5_wordIn_8 : decode cX5_wordIn 8 = .ok (.iload 5, 2) := by decide +kernel
theorem dX5_wordIn_10 : decode cX5_wordIn 10 = .ok (.aload_n 1, 1) := by decide +kernel
theorem dX5_wordIn_11 : decode cX5_wordIn 11 = .ok (.invokevirtual 53, 3) := by decide +kernel
theorem dX5_wordIn_14 : decode cX5_wordIn 14 = .ok (.if_icmp .ge 79, 3) := by decide +kernel
theorem dX5_wordIn_17 : decode cX5_wordIn 17 = .ok (.aload_n 1, 1) := by decide +kernel
theorem dX5_wordIn_18 : decode cX5_wordIn 18 = .ok (.iload 5, 2) := by decide +kernel
theorem dX5_wordIn_20 : decode cX5_wordIn 20 = .ok (.invokevirtual 59, 3) := by decide +kernel
theorem dX5_wordIn_23 : decode cX5_wordIn 23 = .ok (.istore 6, 2) := by decide +kernel
theorem dX5_wordIn_25 : decode cX5_wordIn 25 = .ok (.iload 6, 2) := by decide +kernel
theorem dX5_wordIn_27 : decode cX5_wordIn 27 = .ok (.bipush 32, 2) := by decide +kernel
theorem dX5_wordIn_29 : decode cX5_wordIn 29 = .ok (.if_icmp .eq 44, 3) := by decide +kernel
theorem dX5_wordIn_32 : decode cX5_wordIn 32 = .ok (.iload 4, 2) := by decide +kernel
theorem dX5_wordIn_34 : decode cX5_wordIn 34 = .ok (.ifCond .lt 33, 3) := by decide +kernel
theorem dX5_wordIn_37 : decode cX5_wordIn 37 = .ok (.iload 4, 2) := by decide +kernel
theorem dX5_wordIn_39 : decode cX5_wordIn 39 = .ok (.iload_n 2, 1) := by decide +kernel
theorem dX5_wordIn_40 : decode cX5_wordIn 40 = .ok (.if_icmp .ge 27, 3) := by decide +kernel
theorem dX5_wordIn_43 : decode cX5_wordIn 43 = .ok (.aload_n 0, 1) := by decide +kernel
theorem dX5_wordIn_44 : decode cX5_wordIn 44 = .ok (.getfield 9, 3) := by decide +kernel
theorem dX5_wordIn_47 : decode cX5_wordIn 47 = .ok (.aload_n 0, 1) := by decide +kernel
theorem dX5_wordIn_48 : decode cX5_wordIn 48 = .ok (.getfield 22, 3) := by decide +kernel
theorem dX5_wordIn_51 : decode cX5_wordIn 51 = .ok (.iload 4, 2) := by decide +kernel
theorem dX5_wordIn_53 : decode cX5_wordIn 53 = .ok (.iadd, 1) := by decide +kernel
theorem dX5_wordIn_54 : decode cX5_wordIn 54 = .ok (.iaload, 1) := by decide +kernel
theorem dX5_wordIn_55 : decode cX5_wordIn 55 = .ok (.iload 6, 2) := by decide +kernel
theorem dX5_wordIn_57 : decode cX5_wordIn 57 = .ok (.if_icmp .ne 10, 3) := by decide +kernel
theorem dX5_wordIn_60 : decode cX5_wordIn 60 = .ok (.iload 4, 2) := by decide +kernel
theorem dX5_wordIn_62 : decode cX5_wordIn 62 = .ok (.iconst 1, 1) := by decide +kernel
theorem dX5_wordIn_63 : decode cX5_wordIn 63 = .ok (.iadd, 1) := by decide +kernel
theorem dX5_wordIn_64 : decode cX5_wordIn 64 = .ok (.goto 4, 3) := by decide +kernel
theorem dX5_wordIn_67 : decode cX5_wordIn 67 = .ok (.iconst (-1), 1) := by decide +kernel
theorem dX5_wordIn_68 : decode cX5_wordIn 68 = .ok (.istore 4, 2) := by decide +kernel
theorem dX5_wordIn_70 : decode cX5_wordIn 70 = .ok (.goto 17, 3) := by decide +kernel
theorem dX5_wordIn_73 : decode cX5_wordIn 73 = .ok (.iload 4, 2) := by decide +kernel
theorem dX5_wordIn_75 : decode cX5_wordIn 75 = .ok (.iload_n 2, 1) := by decide +kernel
theorem dX5_wordIn_76 : decode cX5_wordIn 76 = .ok (.if_icmp .ne 5, 3) := by decide +kernel
theorem dX5_wordIn_79 : decode cX5_wordIn 79 = .ok (.iload_n 3, 1) := by decide +kernel
theorem dX5_wordIn_80 : decode cX5_wordIn 80 = .ok (.ireturn, 1) := by decide +kernel
theorem dX5_wordIn_81 : decode cX5_wordIn 81 = .ok (.iinc 3 1, 3) := by decide +kernel
theorem dX5_wordIn_84 : decode cX5_wordIn 84 = .ok (.iconst 0, 1) := by decide +kernel
theorem dX5_wordIn_85 : decode cX5_wordIn 85 = .ok (.istore 4, 2) := by decide +kernel
theorem dX5_wordIn_87 : decode cX5_wordIn 87 = .ok (.iinc 5 1, 3) := by decide +kernel
theorem dX5_wordIn_90 : decode cX5_wordIn 90 = .ok (.goto (-82), 3) := by decide +kernel
theorem dX5_wordIn_93 : decode cX5_wordIn 93 = .ok (.iconst (-1), 1) := by decide +kernel
theorem dX5_wordIn_94 : decode cX5_wordIn 94 = .ok (.ireturn, 1) := by decide +kernel
theorem dX5_takeSign_0 : decode cX5_takeSign 0 = .ok (.aload_n 0, 1) := by decide +kernel
theorem dX5_takeSign_1 : decode cX5_takeSign 1 = .ok (.getfield 28, 3) := by decide +kernel
theorem dX5_takeSign_4 : decode cX5_takeSign 4 = .ok (.ifCond .eq 5, 3) := by decide +kernel
theorem dX5_takeSign_7 : decode cX5_takeSign 7 = .ok (.iconst (-1), 1) := by decide +kernel
theorem dX5_takeSign_8 : decode cX5_takeSign 8 = .ok (.ireturn, 1) := by decide +kernel
theorem dX5_takeSign_9 : decode cX5_takeSign 9 = .ok (.aload_n 0, 1) := by decide +kernel
theorem dX5_takeSign_10 : decode cX5_takeSign 10 = .ok (.invokevirtual 42, 3) := by decide +kernel
theorem dX5_takeSign_13 : decode cX5_takeSign 13 = .ok (.iconst 0, 1) := by decide +kernel
theorem dX5_takeSign_14 : decode cX5_takeSign 14 = .ok (.istore_n 2, 1) := by decide +kernel
theorem dX5_takeSign_15 : decode cX5_takeSign 15 = .ok (.iload_n 2, 1) := by decide +kernel
theorem dX5_takeSign_16 : decode cX5_takeSign 16 = .ok (.aload_n 1, 1) := by decide +kernel
theorem dX5_takeSign_17 : decode cX5_takeSign 17 = .ok (.invokevirtual 53, 3) := by decide +kernel
theorem dX5_takeSign_20 : decode cX5_takeSign 20 = .ok (.if_icmp .ge 57, 3) := by decide +kernel
theorem dX5_takeSign_23 : decode cX5_takeSign 23 = .ok (.aload_n 0, 1) := by decide +kernel
theorem dX5_takeSign_24 : decode cX5_takeSign 24 = .ok (.getfield 22, 3) := by decide +kernel
theorem dX5_takeSign_27 : decode cX5_takeSign 27 = .ok (.aload_n 0, 1) := by decide +kernel
theorem dX5_takeSign_28 : decode cX5_takeSign 28 = .ok (.getfield 19, 3) := by decide +kernel
theorem dX5_takeSign_31 : decode cX5_takeSign 31 = .ok (.if_icmp .ge 46, 3) := by decide +kernel
theorem dX5_takeSign_34 : decode cX5_takeSign 34 = .ok (.aload_n 0, 1) := by decide +kernel
theorem dX5_takeSign_35 : decode cX5_takeSign 35 = .ok (.getfield 9, 3) := by decide +kernel
theorem dX5_takeSign_38 : decode cX5_takeSign 38 = .ok (.aload_n 0, 1) := by decide +kernel
theorem dX5_takeSign_39 : decode cX5_takeSign 39 = .ok (.getfield 22, 3) := by decide +kernel
theorem dX5_takeSign_42 : decode cX5_takeSign 42 = .ok (.iaload, 1) := by decide +kernel
theorem dX5_takeSign_43 : decode cX5_takeSign 43 = .ok (.aload_n 1, 1) := by decide +kernel
theorem dX5_takeSign_44 : decode cX5_takeSign 44 = .ok (.iload_n 2, 1) := by decide +kernel
theorem dX5_takeSign_45 : decode cX5_takeSign 45 = .ok (.invokevirtual 59, 3) := by decide +kernel
theorem dX5_takeSign_48 : decode cX5_takeSign 48 = .ok (.if_icmp .ne 23, 3) := by decide +kernel
theorem dX5_takeSign_51 : decode cX5_takeSign 51 = .ok (.aload_n 0, 1) := by decide +kernel
theorem dX5_takeSign_52 : decode cX5_takeSign 52 = .ok (.aload_n 0, 1) := by decide +kernel
theorem dX5_takeSign_53 : decode cX5_takeSign 53 = .ok (.getfield 22, 3) := by decide +kernel
theorem dX5_takeSign_56 : decode cX5_takeSign 56 = .ok (.putfield 25, 3) := by decide +kernel
theorem dX5_takeSign_59 : decode cX5_takeSign 59 = .ok (.aload_n 0, 1) := by decide +kernel
theorem dX5_takeSign_60 : decode cX5_takeSign 60 = .ok (.dup, 1) := by decide +kernel
theorem dX5_takeSign_61 : decode cX5_takeSign 61 = .ok (.getfield 22, 3) := by decide +kernel
theorem dX5_takeSign_64 : decode cX5_takeSign 64 = .ok (.iconst 1, 1) := by decide +kernel
theorem dX5_takeSign_65 : decode cX5_takeSign 65 = .ok (.iadd, 1) := by decide +kernel
theorem dX5_takeSign_66 : decode cX5_takeSign 66 = .ok (.putfield 22, 3) := by decide +kernel
theorem dX5_takeSign_69 : decode cX5_takeSign 69 = .ok (.iload_n 2, 1) := by decide +kernel
theorem dX5_takeSign_70 : decode cX5_takeSign 70 = .ok (.ireturn, 1) := by decide +kernel
theorem dX5_takeSign_71 : decode cX5_takeSign 71 = .ok (.iinc 2 1, 3) := by decide +kernel
theorem dX5_takeSign_74 : decode cX5_takeSign 74 = .ok (.goto (-59), 3) := by decide +kernel
theorem dX5_takeSign_77 : decode cX5_takeSign 77 = .ok (.iconst (-1), 1) := by decide +kernel
theorem dX5_takeSign_78 : decode cX5_takeSign 78 = .ok (.ireturn, 1) := by decide +kernel
theorem dX5_demandSign_0 : decode cX5_demandSign 0 = .ok (.aload_n 0, 1) := by decide +kernel
theorem dX5_demandSign_1 : decode cX5_demandSign 1 = .ok (.aload_n 1, 1) := by decide +kernel
theorem dX5_demandSign_2 : decode cX5_demandSign 2 = .ok (.invokevirtual 63, 3) := by decide +kernel
theorem dX5_demandSign_5 : decode cX5_demandSign 5 = .ok (.istore_n 2, 1) := by decide +kernel
theorem dX5_demandSign_6 : decode cX5_demandSign 6 = .ok (.iload_n 2, 1) := by decide +kernel
theorem dX5_demandSign_7 : decode cX5_demandSign 7 = .ok (.iconst (-1), 1) := by decide +kernel
theorem dX5_demandSign_8 : decode cX5_demandSign 8 = .ok (.if_icmp .ne 12, 3) := by decide +kernel
theorem dX5_demandSign_11 : decode cX5_demandSign 11 = .ok (.aload_n 0, 1) := by decide +kernel
theorem dX5_demandSign_12 : decode cX5_demandSign 12 = .ok (.iconst 1, 1) := by decide +kernel
theorem dX5_demandSign_13 : decode cX5_demandSign 13 = .ok (.aload_n 0, 1) := by decide +kernel
theorem dX5_demandSign_14 : decode cX5_demandSign 14 = .ok (.getfield 22, 3) := by decide +kernel
theorem dX5_demandSign_17 : decode cX5_demandSign 17 = .ok (.invokevirtual 38, 3) := by decide +kernel
theorem dX5_demandSign_20 : decode cX5_demandSign 20 = .ok (.iload_n 2, 1) := by decide +kernel
theorem dX5_demandSign_21 : decode cX5_demandSign 21 = .ok (.ireturn, 1) := by decide +kernel
theorem dX5_isNumberNext_0 : decode cX5_isNumberNext 0 = .ok (.aload_n 0, 1) := by decide +kernel
theorem dX5_isNumberNext_1 : decode cX5_isNumberNext 1 = .ok (.invokevirtual 42, 3) := by decide +kernel
theorem dX5_isNumberNext_4 : decode cX5_isNumberNext 4 = .ok (.aload_n 0, 1) := by decide +kernel
theorem dX5_isNumberNext_5 : decode cX5_isNumberNext 5 = .ok (.getfield 28, 3) := by decide +kernel
theorem dX5_isNumberNext_8 : decode cX5_isNumberNext 8 = .ok (.ifCond .ne 22, 3) := by decide +kernel
theorem dX5_isNumberNext_11 : decode cX5_isNumberNext 11 = .ok (.aload_n 0, 1) := by decide +kernel
theorem dX5_isNumberNext_12 : decode cX5_isNumberNext 12 = .ok (.aload_n 0, 1) := by decide +kernel
theorem dX5_isNumberNext_13 : decode cX5_isNumberNext 13 = .ok (.getfield 22, 3) := by decide +kernel
theorem dX5_isNumberNext_16 : decode cX5_isNumberNext 16 = .ok (.bipush 48, 2) := by decide +kernel
theorem dX5_isNumberNext_18 : decode cX5_isNumberNext 18 = .ok (.bipush 57, 2) := by decide +kernel
theorem dX5_isNumberNext_20 : decode cX5_isNumberNext 20 = .ok (.invokevirtual 45, 3) := by decide +kernel
theorem dX5_isNumberNext_23 : decode cX5_isNumberNext 23 = .ok (.ifCond .eq 7, 3) := by decide +kernel
theorem dX5_isNumberNext_26 : decode cX5_isNumberNext 26 = .ok (.iconst 1, 1) := by decide +kernel
theorem dX5_isNumberNext_27 : decode cX5_isNumberNext 27 = .ok (.goto 4, 3) := by decide +kernel
theorem dX5_isNumberNext_30 : decode cX5_isNumberNext 30 = .ok (.iconst 0, 1) := by decide +kernel
theorem dX5_isNumberNext_31 : decode cX5_isNumberNext 31 = .ok (.ireturn, 1) := by decide +kernel
theorem dX5_demandNumber_0 : decode cX5_demandNumber 0 = .ok (.aload_n 0, 1) := by decide +kernel
theorem dX5_demandNumber_1 : decode cX5_demandNumber 1 = .ok (.invokevirtual 66, 3) := by decide +kernel
theorem dX5_demandNumber_4 : decode cX5_demandNumber 4 = .ok (.ifCond .ne 14, 3) := by decide +kernel
theorem dX5_demandNumber_7 : decode cX5_demandNumber 7 = .ok (.aload_n 0, 1) := by decide +kernel
theorem dX5_demandNumber_8 : decode cX5_demandNumber 8 = .ok (.iconst 1, 1) := by decide +kernel
theorem dX5_demandNumber_9 : decode cX5_demandNumber 9 = .ok (.aload_n 0, 1) := by decide +kernel
theorem dX5_demandNumber_10 : decode cX5_demandNumber 10 = .ok (.getfield 22, 3) := by decide +kernel
theorem dX5_demandNumber_13 : decode cX5_demandNumber 13 = .ok (.invokevirtual 38, 3) := by decide +kernel
theorem dX5_demandNumber_16 : decode cX5_demandNumber 16 = .ok (.iload_n 1, 1) := by decide +kernel
theorem dX5_demandNumber_17 : decode cX5_demandNumber 17 = .ok (.ireturn, 1) := by decide +kernel
theorem dX5_demandNumber_18 : decode cX5_demandNumber 18 = .ok (.aload_n 0, 1) := by decide +kernel
theorem dX5_demandNumber_19 : decode cX5_demandNumber 19 = .ok (.aload_n 0, 1) := by decide +kernel
theorem dX5_demandNumber_20 : decode cX5_demandNumber 20 = .ok (.getfield 22, 3) := by decide +kernel
theorem dX5_demandNumber_23 : decode cX5_demandNumber 23 = .ok (.putfield 25, 3) := by decide +kernel
theorem dX5_demandNumber_26 : decode cX5_demandNumber 26 = .ok (.iconst 0, 1) := by decide +kernel
theorem dX5_demandNumber_27 : decode cX5_demandNumber 27 = .ok (.istore_n 3, 1) := by decide +kernel
theorem dX5_demandNumber_28 : decode cX5_demandNumber 28 = .ok (.aload_n 0, 1) := by decide +kernel
theorem dX5_demandNumber_29 : decode cX5_demandNumber 29 = .ok (.getfield 22, 3) := by decide +kernel
theorem dX5_demandNumber_32 : decode cX5_demandNumber 32 = .ok (.aload_n 0, 1) := by decide +kernel
theorem dX5_demandNumber_33 : decode cX5_demandNumber 33 = .ok (.getfield 19, 3) := by decide +kernel
theorem dX5_demandNumber_36 : decode cX5_demandNumber 36 = .ok (.if_icmp .ge 54, 3) := by decide +kernel
theorem dX5_demandNumber_39 : decode cX5_demandNumber 39 = .ok (.aload_n 0, 1) := by decide +kernel
theorem dX5_demandNumber_40 : decode cX5_demandNumber 40 = .ok (.aload_n 0, 1) := by decide +kernel
theorem dX5_demandNumber_41 : decode cX5_demandNumber 41 = .ok (.getfield 22, 3) := by decide +kernel
theorem dX5_demandNumber_44 : decode cX5_demandNumber 44 = .ok (.bipush 48, 2) := by decide +kernel
theorem dX5_demandNumber_46 : decode cX5_demandNumber 46 = .ok (.bipush 57, 2) := by decide +kernel
theorem dX5_demandNumber_48 : decode cX5_demandNumber 48 = .ok (.invokevirtual 45, 3) := by decide +kernel
theorem dX5_demandNumber_51 : decode cX5_demandNumber 51 = .ok (.ifCond .eq 39, 3) := by decide +kernel
theorem dX5_demandNumber_54 : decode cX5_demandNumber 54 = .ok (.ldc 70, 2) := by decide +kernel
theorem dX5_demandNumber_56 : decode cX5_demandNumber 56 = .ok (.iload_n 3, 1) := by decide +kernel
theorem dX5_demandNumber_57 : decode cX5_demandNumber 57 = .ok (.bipush 10, 2) := by decide +kernel
theorem dX5_demandNumber_59 : decode cX5_demandNumber 59 = .ok (.imul, 1) := by decide +kernel
theorem dX5_demandNumber_60 : decode cX5_demandNumber 60 = .ok (.aload_n 0, 1) := by decide +kernel
theorem dX5_demandNumber_61 : decode cX5_demandNumber 61 = .ok (.getfield 9, 3) := by decide +kernel
theorem dX5_demandNumber_64 : decode cX5_demandNumber 64 = .ok (.aload_n 0, 1) := by decide +kernel
theorem dX5_demandNumber_65 : decode cX5_demandNumber 65 = .ok (.getfield 22, 3) := by decide +kernel
theorem dX5_demandNumber_68 : decode cX5_demandNumber 68 = .ok (.iaload, 1) := by decide +kernel
theorem dX5_demandNumber_69 : decode cX5_demandNumber 69 = .ok (.iadd, 1) := by decide +kernel
theorem dX5_demandNumber_70 : decode cX5_demandNumber 70 = .ok (.bipush 48, 2) := by decide +kernel
theorem dX5_demandNumber_72 : decode cX5_demandNumber 72 = .ok (.isub, 1) := by decide +kernel
theorem dX5_demandNumber_73 : decode cX5_demandNumber 73 = .ok (.invokestatic 71, 3) := by decide +kernel
theorem dX5_demandNumber_76 : decode cX5_demandNumber 76 = .ok (.istore_n 3, 1) := by decide +kernel
theorem dX5_demandNumber_77 : decode cX5_demandNumber 77 = .ok (.aload_n 0, 1) := by decide +kernel
theorem dX5_demandNumber_78 : decode cX5_demandNumber 78 = .ok (.dup, 1) := by decide +kernel
theorem dX5_demandNumber_79 : decode cX5_demandNumber 79 = .ok (.getfield 22, 3) := by decide +kernel
theorem dX5_demandNumber_82 : decode cX5_demandNumber 82 = .ok (.iconst 1, 1) := by decide +kernel
theorem dX5_demandNumber_83 : decode cX5_demandNumber 83 = .ok (.iadd, 1) := by decide +kernel
theorem dX5_demandNumber_84 : decode cX5_demandNumber 84 = .ok (.putfield 22, 3) := by decide +kernel
theorem dX5_demandNumber_87 : decode cX5_demandNumber 87 = .ok (.goto (-59), 3) := by decide +kernel
theorem dX5_demandNumber_90 : decode cX5_demandNumber 90 = .ok (.iload_n 3, 1) := by decide +kernel
theorem dX5_demandNumber_91 : decode cX5_demandNumber 91 = .ok (.iload_n 1, 1) := by decide +kernel
theorem dX5_demandNumber_92 : decode cX5_demandNumber 92 = .ok (.if_icmp .lt 8, 3) := by decide +kernel
theorem dX5_demandNumber_95 : decode cX5_demandNumber 95 = .ok (.iload_n 3, 1) := by decide +kernel
theorem dX5_demandNumber_96 : decode cX5_demandNumber 96 = .ok (.iload_n 2, 1) := by decide +kernel
theorem dX5_demandNumber_97 : decode cX5_demandNumber 97 = .ok (.if_icmp .le 14, 3) := by decide +kernel
theorem dX5_demandNumber_100 : decode cX5_demandNumber 100 = .ok (.aload_n 0, 1) := by decide +kernel
theorem dX5_demandNumber_101 : decode cX5_demandNumber 101 = .ok (.iconst 2, 1) := by decide +kernel
theorem dX5_demandNumber_102 : decode cX5_demandNumber 102 = .ok (.aload_n 0, 1) := by decide +kernel
theorem dX5_demandNumber_103 : decode cX5_demandNumber 103 = .ok (.getfield 25, 3) := by decide +kernel
theorem dX5_demandNumber_106 : decode cX5_demandNumber 106 = .ok (.invokevirtual 38, 3) := by decide +kernel
theorem dX5_demandNumber_109 : decode cX5_demandNumber 109 = .ok (.iload_n 1, 1) := by decide +kernel
theorem dX5_demandNumber_110 : decode cX5_demandNumber 110 = .ok (.ireturn, 1) := by decide +kernel
theorem dX5_demandNumber_111 : decode cX5_demandNumber 111 = .ok (.iload_n 3, 1) := by decide +kernel
theorem dX5_demandNumber_112 : decode cX5_demandNumber 112 = .ok (.ireturn, 1) := by decide +kernel
theorem dX6_init_0 : decode cX6_init 0 = .ok (.aload_n 0, 1) := by decide +kernel
theorem dX6_init_1 : decode cX6_init 1 = .ok (.invokespecial 3, 3) := by decide +kernel
theorem dX6_init_4 : decode cX6_init 4 = .ok (.aload_n 0, 1) := by decide +kernel
theorem dX6_init_5 : decode cX6_init 5 = .ok (.iconst 0, 1) := by decide +kernel
theorem dX6_init_6 : decode cX6_init 6 = .ok (.putfield 9, 3) := by decide +kernel
theorem dX6_init_9 : decode cX6_init 9 = .ok (.aload_n 0, 1) := by decide +kernel
theorem dX6_init_10 : decode cX6_init 10 = .ok (.iconst 0, 1) := by decide +kernel
theorem dX6_init_11 : decode cX6_init 11 = .ok (.putfield 15, 3) := by decide +kernel
theorem dX6_init_14 : decode cX6_init 14 = .ok (.aload_n 0, 1) := by decide +kernel
theorem dX6_init_15 : decode cX6_init 15 = .ok (.iconst (-1), 1) := by decide +kernel
theorem dX6_init_16 : decode cX6_init 16 = .ok (.putfield 18, 3) := by decide +kernel
theorem dX6_init_19 : decode cX6_init 19 = .ok (.aload_n 0, 1) := by decide +kernel
theorem dX6_init_20 : decode cX6_init 20 = .ok (.iconst 4, 1) := by decide +kernel
theorem dX6_init_21 : decode cX6_init 21 = .ok (.putfield 21, 3) := by decide +kernel
theorem dX6_init_24 : decode cX6_init 24 = .ok (.aload_n 0, 1) := by decide +kernel
theorem dX6_init_25 : decode cX6_init 25 = .ok (.iconst 0, 1) := by decide +kernel
theorem dX6_init_26 : decode cX6_init 26 = .ok (.putfield 24, 3) := by decide +kernel
theorem dX6_init_29 : decode cX6_init 29 = .ok (.return_, 1) := by decide +kernel
theorem dX6_read_0 : decode cX6_read 0 = .ok (.aload_n 0, 1) := by decide +kernel
theorem dX6_read_1 : decode cX6_read 1 = .ok (.iconst 0, 1) := by decide +kernel
theorem dX6_read_2 : decode cX6_read 2 = .ok (.putfield 9, 3) := by decide +kernel
theorem dX6_read_5 : decode cX6_read 5 = .ok (.aload_n 0, 1) := by decide +kernel
theorem dX6_read_6 : decode cX6_read 6 = .ok (.iconst 0, 1) := by decide +kernel
theorem dX6_read_7 : decode cX6_read 7 = .ok (.putfield 15, 3) := by decide +kernel
theorem dX6_read_10 : decode cX6_read 10 = .ok (.aload_n 0, 1) := by decide +kernel
theorem dX6_read_11 : decode cX6_read 11 = .ok (.iconst (-1), 1) := by decide +kernel
theorem dX6_read_12 : decode cX6_read 12 = .ok (.putfield 18, 3) := by decide +kernel
theorem dX6_read_15 : decode cX6_read 15 = .ok (.aload_n 0, 1) := by decide +kernel
theorem dX6_read_16 : decode cX6_read 16 = .ok (.iconst 4, 1) := by decide +kernel
theorem dX6_read_17 : decode cX6_read 17 = .ok (.putfield 21, 3) := by decide +kernel
theorem dX6_read_20 : decode cX6_read 20 = .ok (.aload_n 0, 1) := by decide +kernel
theorem dX6_read_21 : decode cX6_read 21 = .ok (.iconst 0, 1) := by decide +kernel
theorem dX6_read_22 : decode cX6_read 22 = .ok (.putfield 24, 3) := by decide +kernel
theorem dX6_read_25 : decode cX6_read 25 = .ok (.iconst 0, 1) := by decide +kernel
theorem dX6_read_26 : decode cX6_read 26 = .ok (.istore_n 2, 1) := by decide +kernel
theorem dX6_read_27 : decode cX6_read 27 = .ok (.iload_n 2, 1) := by decide +kernel
theorem dX6_read_28 : decode cX6_read 28 = .ok (.bipush 16, 2) := by decide +kernel
theorem dX6_read_30 : decode cX6_read 30 = .ok (.if_icmp .gt 54, 3) := by decide +kernel
theorem dX6_read_33 : decode cX6_read 33 = .ok (.aload_n 1, 1) := by decide +kernel
theorem dX6_read_34 : decode cX6_read 34 = .ok (.ldc 27, 2) := by decide +kernel
theorem dX6_read_36 : decode cX6_read 36 = .ok (.iload_n 2, 1) := by decide +kernel
theorem dX6_read_37 : decode cX6_read 37 = .ok (.bipush 16, 2) := by decide +kernel
theorem dX6_read_39 : decode cX6_read 39 = .ok (.invokevirtual 29, 3) := by decide +kernel
theorem dX6_read_42 : decode cX6_read 42 = .ok (.istore_n 3, 1) := by decide +kernel
theorem dX6_read_43 : decode cX6_read 43 = .ok (.iload_n 3, 1) := by decide +kernel
theorem dX6_read_44 : decode cX6_read 44 = .ok (.iconst (-1), 1) := by decide +kernel
theorem dX6_read_45 : decode cX6_read 45 = .ok (.if_icmp .ne 4, 3) := by decide +kernel
theorem dX6_read_48 : decode cX6_read 48 = .ok (.return_, 1) := by decide +kernel
theorem dX6_read_49 : decode cX6_read 49 = .ok (.aload_n 0, 1) := by decide +kernel
theorem dX6_read_50 : decode cX6_read 50 = .ok (.iload_n 3, 1) := by decide +kernel
theorem dX6_read_51 : decode cX6_read 51 = .ok (.aload_n 1, 1) := by decide +kernel
theorem dX6_read_52 : decode cX6_read 52 = .ok (.iconst 0, 1) := by decide +kernel
theorem dX6_read_53 : decode cX6_read 53 = .ok (.iload_n 3, 1) := by decide +kernel
theorem dX6_read_54 : decode cX6_read 54 = .ok (.iconst 3, 1) := by decide +kernel
theorem dX6_read_55 : decode cX6_read 55 = .ok (.if_icmp .ge 8, 3) := by decide +kernel
theorem dX6_read_58 : decode cX6_read 58 = .ok (.bipush 7, 2) := by decide +kernel
theorem dX6_read_60 : decode cX6_read 60 = .ok (.goto 5, 3) := by decide +kernel
theorem dX6_read_63 : decode cX6_read 63 = .ok (.bipush 9, 2) := by decide +kernel
theorem dX6_read_65 : decode cX6_read 65 = .ok (.invokevirtual 35, 3) := by decide +kernel
theorem dX6_read_68 : decode cX6_read 68 = .ok (.invokevirtual 39, 3) := by decide +kernel
theorem dX6_read_71 : decode cX6_read 71 = .ok (.aload_n 1, 1) := by decide +kernel
theorem dX6_read_72 : decode cX6_read 72 = .ok (.ldc 43, 2) := by decide +kernel
theorem dX6_read_74 : decode cX6_read 74 = .ok (.invokevirtual 45, 3) := by decide +kernel
theorem dX6_read_77 : decode cX6_read 77 = .ok (.pop, 1) := by decide +kernel
theorem dX6_read_78 : decode cX6_read 78 = .ok (.iinc 2 1, 3) := by decide +kernel
theorem dX6_read_81 : decode cX6_read 81 = .ok (.goto (-54), 3) := by decide +kernel
theorem dX6_read_84 : decode cX6_read 84 = .ok (.return_, 1) := by decide +kernel
theorem dX6_put_0 : decode cX6_put 0 = .ok (.iload_n 1, 1) := by decide +kernel
theorem dX6_put_1 : decode cX6_put 1 = .ok (.tableswitch 77 0 3 #[31, 46, 61, 69], 31) := by decide +kernel
theorem dX6_put_32 : decode cX6_put 32 = .ok (.aload_n 0, 1) := by decide +kernel
theorem dX6_put_33 : decode cX6_put 33 = .ok (.dup, 1) := by decide +kernel
theorem dX6_put_34 : decode cX6_put 34 = .ok (.getfield 9, 3) := by decide +kernel
theorem dX6_put_37 : decode cX6_put 37 = .ok (.iconst 1, 1) := by decide +kernel
theorem dX6_put_38 : decode cX6_put 38 = .ok (.iload_n 2, 1) := by decide +kernel
theorem dX6_put_39 : decode cX6_put 39 = .ok (.ishl, 1) := by decide +kernel
theorem dX6_put_40 : decode cX6_put 40 = .ok (.ior, 1) := by decide +kernel
theorem dX6_put_41 : decode cX6_put 41 = .ok (.putfield 9, 3) := by decide +kernel
theorem dX6_put_44 : decode cX6_put 44 = .ok (.goto 39, 3) := by decide +kernel
theorem dX6_put_47 : decode cX6_put 47 = .ok (.aload_n 0, 1) := by decide +kernel
theorem dX6_put_48 : decode cX6_put 48 = .ok (.dup, 1) := by decide +kernel
theorem dX6_put_49 : decode cX6_put 49 = .ok (.getfield 15, 3) := by decide +kernel
theorem dX6_put_52 : decode cX6_put 52 = .ok (.iconst 1, 1) := by decide +kernel
theorem dX6_put_53 : decode cX6_put 53 = .ok (.iload_n 2, 1) := by decide +kernel
theorem dX6_put_54 : decode cX6_put 54 = .ok (.ishl, 1) := by decide +kernel
theorem dX6_put_55 : decode cX6_put 55 = .ok (.ior, 1) := by decide +kernel
theorem dX6_put_56 : decode cX6_put 56 = .ok (.putfield 15, 3) := by decide +kernel
theorem dX6_put_59 : decode cX6_put 59 = .ok (.goto 24, 3) := by decide +kernel
theorem dX6_put_62 : decode cX6_put 62 = .ok (.aload_n 0, 1) := by decide +kernel
theorem dX6_put_63 : decode cX6_put 63 = .ok (.iload_n 2, 1) := by decide +kernel
theorem dX6_put_64 : decode cX6_put 64 = .ok (.putfield 18, 3) := by decide +kernel
theorem dX6_put_67 : decode cX6_put 67 = .ok (.goto 16, 3) := by decide +kernel
theorem dX6_put_70 : decode cX6_put 70 = .ok (.aload_n 0, 1) := by decide +kernel
theorem dX6_put_71 : decode cX6_put 71 = .ok (.iload_n 2, 1) := by decide +kernel
theorem dX6_put_72 : decode cX6_put 72 = .ok (.putfield 21, 3) := by decide +kernel
theorem dX6_put_75 : decode cX6_put 75 = .ok (.goto 8, 3) := by decide +kernel
theorem dX6_put_78 : decode cX6_put 78 = .ok (.aload_n 0, 1) := by decide +kernel
theorem dX6_put_79 : decode cX6_put 79 = .ok (.iload_n 2, 1) := by decide +kernel
theorem dX6_put_80 : decode cX6_put 80 = .ok (.putfield 24, 3) := by decide +kernel
theorem dX6_put_83 : decode cX6_put 83 = .ok (.return_, 1) := by decide +kernel
theorem dX7_init_0 : decode cX7_init 0 = .ok (.aload_n 0, 1) := by decide +kernel
theorem dX7_init_1 : decode cX7_init 1 = .ok (.invokespecial 3, 3) := by decide +kernel
theorem dX7_init_4 : decode cX7_init 4 = .ok (.aload_n 0, 1) := by decide +kernel
theorem dX7_init_5 : decode cX7_init 5 = .ok (.new 9, 3) := by decide +kernel
theorem dX7_init_8 : decode cX7_init 8 = .ok (.dup, 1) := by decide +kernel
theorem dX7_init_9 : decode cX7_init 9 = .ok (.invokespecial 11, 3) := by decide +kernel
theorem dX7_init_12 : decode cX7_init 12 = .ok (.putfield 12, 3) := by decide +kernel
theorem dX7_init_15 : decode cX7_init 15 = .ok (.aload_n 0, 1) := by decide +kernel
theorem dX7_init_16 : decode cX7_init 16 = .ok (.new 18, 3) := by decide +kernel
theorem dX7_init_19 : decode cX7_init 19 = .ok (.dup, 1) := by decide +kernel
theorem dX7_init_20 : decode cX7_init 20 = .ok (.invokespecial 20, 3) := by decide +kernel
theorem dX7_init_23 : decode cX7_init 23 = .ok (.putfield 21, 3) := by decide +kernel
theorem dX7_init_26 : decode cX7_init 26 = .ok (.aload_n 0, 1) := by decide +kernel
theorem dX7_init_27 : decode cX7_init 27 = .ok (.iconst 0, 1) := by decide +kernel
theorem dX7_init_28 : decode cX7_init 28 = .ok (.putfield 25, 3) := by decide +kernel
theorem dX7_init_31 : decode cX7_init 31 = .ok (.aload_n 0, 1) := by decide +kernel
theorem dX7_init_32 : decode cX7_init 32 = .ok (.sipush 300, 3) := by decide +kernel
theorem dX7_init_35 : decode cX7_init 35 = .ok (.newarray .int, 2) := by decide +kernel
theorem dX7_init_37 : decode cX7_init 37 = .ok (.putfield 29, 3) := by decide +kernel
theorem dX7_init_40 : decode cX7_init 40 = .ok (.aload_n 0, 1) := by decide +kernel
theorem dX7_init_41 : decode cX7_init 41 = .ok (.sipush 300, 3) := by decide +kernel
theorem dX7_init_44 : decode cX7_init 44 = .ok (.newarray .int, 2) := by decide +kernel
theorem dX7_init_46 : decode cX7_init 46 = .ok (.putfield 33, 3) := by decide +kernel
theorem dX7_init_49 : decode cX7_init 49 = .ok (.aload_n 0, 1) := by decide +kernel
theorem dX7_init_50 : decode cX7_init 50 = .ok (.bipush 11, 2) := by decide +kernel
theorem dX7_init_52 : decode cX7_init 52 = .ok (.newarray .int, 2) := by decide +kernel
theorem dX7_init_54 : decode cX7_init 54 = .ok (.putfield 36, 3) := by decide +kernel
theorem dX7_init_57 : decode cX7_init 57 = .ok (.aload_n 0, 1) := by decide +kernel
theorem dX7_init_58 : decode cX7_init 58 = .ok (.iconst 0, 1) := by decide +kernel
theorem dX7_init_59 : decode cX7_init 59 = .ok (.putfield 39, 3) := by decide +kernel
theorem dX7_init_62 : decode cX7_init 62 = .ok (.aload_n 0, 1) := by decide +kernel
theorem dX7_init_63 : decode cX7_init 63 = .ok (.iconst (-1), 1) := by decide +kernel
theorem dX7_init_64 : decode cX7_init 64 = .ok (.putfield 42, 3) := by decide +kernel
theorem dX7_init_67 : decode cX7_init 67 = .ok (.aload_n 0, 1) := by decide +kernel
theorem dX7_init_68 : decode cX7_init 68 = .ok (.iconst 0, 1) := by decide +kernel
theorem dX7_init_69 : decode cX7_init 69 = .ok (.putfield 46, 3) := by decide +kernel
theorem dX7_init_72 : decode cX7_init 72 = .ok (.aload_n 0, 1) := by decide +kernel
theorem dX7_init_73 : decode cX7_init 73 = .ok (.iconst 1, 1) := by decide +kernel
theorem dX7_init_74 : decode cX7_init 74 = .ok (.putfield 49, 3) := by decide +kernel
theorem dX7_init_77 : decode cX7_init 77 = .ok (.return_, 1) := by decide +kernel
theorem dX7_open_0 : decode cX7_open 0 = .ok (.aload_n 0, 1) := by decide +kernel
theorem dX7_open_1 : decode cX7_open 1 = .ok (.aload_n 1, 1) := by decide +kernel
theorem dX7_open_2 : decode cX7_open 2 = .ok (.putfield 12, 3) := by decide +kernel
theorem dX7_open_5 : decode cX7_open 5 = .ok (.aload_n 0, 1) := by decide +kernel
theorem dX7_open_6 : decode cX7_open 6 = .ok (.aload_n 2, 1) := by decide +kernel
theorem dX7_open_7 : decode cX7_open 7 = .ok (.putfield 21, 3) := by decide +kernel
theorem dX7_open_10 : decode cX7_open 10 = .ok (.aload_n 0, 1) := by decide +kernel
theorem dX7_open_11 : decode cX7_open 11 = .ok (.iload_n 3, 1) := by decide +kernel
theorem dX7_open_12 : decode cX7_open 12 = .ok (.putfield 25, 3) := by decide +kernel
theorem dX7_open_15 : decode cX7_open 15 = .ok (.aload_n 0, 1) := by decide +kernel
theorem dX7_open_16 : decode cX7_open 16 = .ok (.iconst (-1), 1) := by decide +kernel
theorem dX7_open_17 : decode cX7_open 17 = .ok (.iconst 0, 1) := by decide +kernel
theorem dX7_open_18 : decode cX7_open 18 = .ok (.invokevirtual 52, 3) := by decide +kernel
theorem dX7_open_21 : decode cX7_open 21 = .ok (.aload_n 0, 1) := by decide +kernel
theorem dX7_open_22 : decode cX7_open 22 = .ok (.iload 4, 2) := by decide +kernel
theorem dX7_open_24 : decode cX7_open 24 = .ok (.invokevirtual 56, 3) := by decide +kernel
theorem dX7_open_27 : decode cX7_open 27 = .ok (.return_, 1) := by decide +kernel
theorem dX7_bend_0 : decode cX7_bend 0 = .ok (.aload_n 0, 1) := by decide +kernel
theorem dX7_bend_1 : decode cX7_bend 1 = .ok (.iload_n 1, 1) := by decide +kernel
theorem dX7_bend_2 : decode cX7_bend 2 = .ok (.ifCond .ne 7, 3) := by decide +kernel
theorem dX7_bend_5 : decode cX7_bend 5 = .ok (.iload_n 2, 1) := by decide +kernel
theorem dX7_bend_6 : decode cX7_bend 6 = .ok (.goto 4, 3) := by decide +kernel
theorem dX7_bend_9 : decode cX7_bend 9 = .ok (.iconst (-1), 1) := by decide +kernel
theorem dX7_bend_10 : decode cX7_bend 10 = .ok (.putfield 42, 3) := by decide +kernel
theorem dX7_bend_13 : decode cX7_bend 13 = .ok (.aload_n 0, 1) := by decide +kernel
theorem dX7_bend_14 : decode cX7_bend 14 = .ok (.iload_n 1, 1) := by decide +kernel
theorem dX7_bend_15 : decode cX7_bend 15 = .ok (.iconst 1, 1) := by decide +kernel
theorem dX7_bend_16 : decode cX7_bend 16 = .ok (.if_icmp .ne 7, 3) := by decide +kernel
theorem dX7_bend_19 : decode cX7_bend 19 = .ok (.iload_n 2, 1) := by decide +kernel
theorem dX7_bend_20 : decode cX7_bend 20 = .ok (.goto 4, 3) := by decide +kernel
theorem dX7_bend_23 : decode cX7_bend 23 = .ok (.iconst 0, 1) := by decide +kernel
theorem dX7_bend_24 : decode cX7_bend 24 = .ok (.putfield 46, 3) := by decide +kernel
theorem dX7_bend_27 : decode cX7_bend 27 = .ok (.aload_n 0, 1) := by decide +kernel
theorem dX7_bend_28 : decode cX7_bend 28 = .ok (.iload_n 1, 1) := by decide +kernel
theorem dX7_bend_29 : decode cX7_bend 29 = .ok (.iconst 2, 1) := by decide +kernel
theorem dX7_bend_30 : decode cX7_bend 30 = .ok (.if_icmp .ne 11, 3) := by decide +kernel
theorem dX7_bend_33 : decode cX7_bend 33 = .ok (.iload_n 2, 1) := by decide +kernel
theorem dX7_bend_34 : decode cX7_bend 34 = .ok (.ifCond .le 7, 3) := by decide +kernel
theorem dX7_bend_37 : decode cX7_bend 37 = .ok (.iload_n 2, 1) := by decide +kernel
theorem dX7_bend_38 : decode cX7_bend 38 = .ok (.goto 4, 3) := by decide +kernel
theorem dX7_bend_41 : decode cX7_bend 41 = .ok (.iconst 1, 1) := by decide +kernel
theorem dX7_bend_42 : decode cX7_bend 42 = .ok (.putfield 49, 3) := by decide +kernel
theorem dX7_bend_45 : decode cX7_bend 45 = .ok (.return_, 1) := by decide +kernel
theorem dX7_clearLatest_0 : decode cX7_clearLatest 0 = .ok (.iconst 0, 1) := by decide +kernel
theorem dX7_clearLatest_1 : decode cX7_clearLatest 1 = .ok (.istore_n 2, 1) := by decide +kernel
theorem dX7_clearLatest_2 : decode cX7_clearLatest 2 = .ok (.iload_n 2, 1) := by decide +kernel
theorem dX7_clearLatest_3 : decode cX7_clearLatest 3 = .ok (.iload_n 1, 1) := by decide +kernel
theorem dX7_clearLatest_4 : decode cX7_clearLatest 4 = .ok (.if_icmp .gt 23, 3) := by decide +kernel
theorem dX7_clearLatest_7 : decode cX7_clearLatest 7 = .ok (.iload_n 2, 1) := by decide +kernel
theorem dX7_clearLatest_8 : decode cX7_clearLatest 8 = .ok (.sipush 300, 3) := by decide +kernel
theorem dX7_clearLatest_11 : decode cX7_clearLatest 11 = .ok (.if_icmp .ge 16, 3) := by decide +kernel
theorem dX7_clearLatest_14 : decode cX7_clearLatest 14 = .ok (.aload_n 0, 1) := by decide +kernel
theorem dX7_clearLatest_15 : decode cX7_clearLatest 15 = .ok (.getfield 33, 3) := by decide +kernel
theorem dX7_clearLatest_18 : decode cX7_clearLatest 18 = .ok (.iload_n 2, 1) := by decide +kernel
theorem dX7_clearLatest_19 : decode cX7_clearLatest 19 = .ok (.iconst (-1), 1) := by decide +kernel
theorem dX7_clearLatest_20 : decode cX7_clearLatest 20 = .ok (.iastore, 1) := by decide +kernel
theorem dX7_clearLatest_21 : decode cX7_clearLatest 21 = .ok (.iinc 2 1, 3) := by decide +kernel
theorem dX7_clearLatest_24 : decode cX7_clearLatest 24 = .ok (.goto (-22), 3) := by decide +kernel
theorem dX7_clearLatest_27 : decode cX7_clearLatest 27 = .ok (.return_, 1) := by decide +kernel
theorem dX7_follow_0 : decode cX7_follow 0 = .ok (.aload_n 0, 1) := by decide +kernel
theorem dX7_follow_1 : decode cX7_follow 1 = .ok (.iload_n 1, 1) := by decide +kernel
theorem dX7_follow_2 : decode cX7_follow 2 = .ok (.invokevirtual 60, 3) := by decide +kernel
theorem dX7_follow_5 : decode cX7_follow 5 = .ok (.iconst 0, 1) := by decide +kernel
theorem dX7_follow_6 : decode cX7_follow 6 = .ok (.istore_n 2, 1) := by decide +kernel
theorem dX7_follow_7 : decode cX7_follow 7 = .ok (.iload_n 2, 1) := by decide +kernel
theorem dX7_follow_8 : decode cX7_follow 8 = .ok (.aload_n 0, 1) := by decide +kernel
theorem dX7_follow_9 : decode cX7_follow 9 = .ok (.getfield 12, 3) := by decide +kernel
theorem dX7_follow_12 : decode cX7_follow 12 = .ok (.getfield 63, 3) := by decide +kernel
theorem dX7_follow_15 : decode cX7_follow 15 = .ok (.if_icmp .ge 69, 3) := by decide +kernel
theorem dX7_follow_18 : decode cX7_follow 18 = .ok (.aload_n 0, 1) := by decide +kernel
theorem dX7_follow_19 : decode cX7_follow 19 = .ok (.getfield 21, 3) := by decide +kernel
theorem dX7_follow_22 : decode cX7_follow 22 = .ok (.getfield 66, 3) := by decide +kernel
theorem dX7_follow_25 : decode cX7_follow 25 = .ok (.iconst (-1), 1) := by decide +kernel
theorem dX7_follow_26 : decode cX7_follow 26 = .ok (.if_icmp .eq 58, 3) := by decide +kernel
theorem dX7_follow_29 : decode cX7_follow 29 = .ok (.iload_n 2, 1) := by decide +kernel
theorem dX7_follow_30 : decode cX7_follow 30 = .ok (.iconst 3, 1) := by decide +kernel
theorem dX7_follow_31 : decode cX7_follow 31 = .ok (.imul, 1) := by decide +kernel
theorem dX7_follow_32 : decode cX7_follow 32 = .ok (.istore_n 3, 1) := by decide +kernel
theorem dX7_follow_33 : decode cX7_follow 33 = .ok (.aload_n 0, 1) := by decide +kernel
theorem dX7_follow_34 : decode cX7_follow 34 = .ok (.getfield 12, 3) := by decide +kernel
theorem dX7_follow_37 : decode cX7_follow 37 = .ok (.iload_n 3, 1) := by decide +kernel
theorem dX7_follow_38 : decode cX7_follow 38 = .ok (.aload_n 0, 1) := by decide +kernel
theorem dX7_follow_39 : decode cX7_follow 39 = .ok (.getfield 21, 3) := by decide +kernel
theorem dX7_follow_42 : decode cX7_follow 42 = .ok (.getfield 66, 3) := by decide +kernel
theorem dX7_follow_45 : decode cX7_follow 45 = .ok (.invokevirtual 69, 3) := by decide +kernel
theorem dX7_follow_48 : decode cX7_follow 48 = .ok (.ifCond .eq 30, 3) := by decide +kernel
theorem dX7_follow_51 : decode cX7_follow 51 = .ok (.aload_n 0, 1) := by decide +kernel
theorem dX7_follow_52 : decode cX7_follow 52 = .ok (.getfield 33, 3) := by decide +kernel
theorem dX7_follow_55 : decode cX7_follow 55 = .ok (.aload_n 0, 1) := by decide +kernel
theorem dX7_follow_56 : decode cX7_follow 56 = .ok (.getfield 12, 3) := by decide +kernel
theorem dX7_follow_59 : decode cX7_follow 59 = .ok (.getfield 73, 3) := by decide +kernel
theorem dX7_follow_62 : decode cX7_follow 62 = .ok (.iload_n 3, 1) := by decide +kernel
theorem dX7_follow_63 : decode cX7_follow 63 = .ok (.iconst 2, 1) := by decide +kernel
theorem dX7_follow_64 : decode cX7_follow 64 = .ok (.iadd, 1) := by decide +kernel
theorem dX7_follow_65 : decode cX7_follow 65 = .ok (.iaload, 1) := by decide +kernel
theorem dX7_follow_66 : decode cX7_follow 66 = .ok (.aload_n 0, 1) := by decide +kernel
theorem dX7_follow_67 : decode cX7_follow 67 = .ok (.getfield 12, 3) := by decide +kernel
theorem dX7_follow_70 : decode cX7_follow 70 = .ok (.getfield 73, 3) := by decide +kernel
theorem dX7_follow_73 : decode cX7_follow 73 = .ok (.iload_n 3, 1) := by decide +kernel
theorem dX7_follow_74 : decode cX7_follow 74 = .ok (.iconst 1, 1) := by decide +kernel
theorem dX7_follow_75 : decode cX7_follow 75 = .ok (.iadd, 1) := by decide +kernel
theorem dX7_follow_76 : decode cX7_follow 76 = .ok (.iaload, 1) := by decide +kernel
theorem dX7_follow_77 : decode cX7_follow 77 = .ok (.iastore, 1) := by decide +kernel
theorem dX7_follow_78 : decode cX7_follow 78 = .ok (.iinc 2 1, 3) := by decide +kernel
theorem dX7_follow_81 : decode cX7_follow 81 = .ok (.goto (-74), 3) := by decide +kernel
theorem dX7_follow_84 : decode cX7_follow 84 = .ok (.iconst (-1), 1) := by decide +kernel
theorem dX7_follow_85 : decode cX7_follow 85 = .ok (.istore_n 2, 1) := by decide +kernel
theorem dX7_follow_86 : decode cX7_follow 86 = .ok (.iconst 0, 1) := by decide +kernel
theorem dX7_follow_87 : decode cX7_follow 87 = .ok (.istore_n 3, 1) := by decide +kernel
theorem dX7_follow_88 : decode cX7_follow 88 = .ok (.iload_n 3, 1) := by decide +kernel
theorem dX7_follow_89 : decode cX7_follow 89 = .ok (.iload_n 1, 1) := by decide +kernel
theorem dX7_follow_90 : decode cX7_follow 90 = .ok (.if_icmp .gt 68, 3) := by decide +kernel
theorem dX7_follow_93 : decode cX7_follow 93 = .ok (.iload_n 3, 1) := by decide +kernel
theorem dX7_follow_94 : decode cX7_follow 94 = .ok (.sipush 300, 3) := by decide +kernel
theorem dX7_follow_97 : decode cX7_follow 97 = .ok (.if_icmp .ge 61, 3) := by decide +kernel
theorem dX7_follow_100 : decode cX7_follow 100 = .ok (.aload_n 0, 1) := by decide +kernel
theorem dX7_follow_101 : decode cX7_follow 101 = .ok (.getfield 33, 3) := by decide +kernel
theorem dX7_follow_104 : decode cX7_follow 104 = .ok (.iload_n 3, 1) := by decide +kernel
theorem dX7_follow_105 : decode cX7_follow 105 = .ok (.iaload, 1) := by decide +kernel
theorem dX7_follow_106 : decode cX7_follow 106 = .ok (.iconst (-1), 1) := by decide +kernel
theorem dX7_follow_107 : decode cX7_follow 107 = .ok (.if_icmp .ne 7, 3) := by decide +kernel
theorem dX7_follow_110 : decode cX7_follow 110 = .ok (.iload_n 2, 1) := by decide +kernel
theorem dX7_follow_111 : decode cX7_follow 111 = .ok (.goto 9, 3) := by decide +kernel
theorem dX7_follow_114 : decode cX7_follow 114 = .ok (.aload_n 0, 1) := by decide +kernel
theorem dX7_follow_115 : decode cX7_follow 115 = .ok (.getfield 33, 3) := by decide +kernel
theorem dX7_follow_118 : decode cX7_follow 118 = .ok (.iload_n 3, 1) := by decide +kernel
theorem dX7_follow_119 : decode cX7_follow 119 = .ok (.iaload, 1) := by decide +kernel
theorem dX7_follow_120 : decode cX7_follow 120 = .ok (.istore_n 2, 1) := by decide +kernel
theorem dX7_follow_121 : decode cX7_follow 121 = .ok (.aload_n 0, 1) := by decide +kernel
theorem dX7_follow_122 : decode cX7_follow 122 = .ok (.getfield 12, 3) := by decide +kernel
theorem dX7_follow_125 : decode cX7_follow 125 = .ok (.iload_n 2, 1) := by decide +kernel
theorem dX7_follow_126 : decode cX7_follow 126 = .ok (.iload_n 3, 1) := by decide +kernel
theorem dX7_follow_127 : decode cX7_follow 127 = .ok (.invokevirtual 76, 3) := by decide +kernel
theorem dX7_follow_130 : decode cX7_follow 130 = .ok (.istore 4, 2) := by decide +kernel
theorem dX7_follow_132 : decode cX7_follow 132 = .ok (.aload_n 0, 1) := by decide +kernel
theorem dX7_follow_133 : decode cX7_follow 133 = .ok (.getfield 29, 3) := by decide +kernel
theorem dX7_follow_136 : decode cX7_follow 136 = .ok (.iload_n 3, 1) := by decide +kernel
theorem dX7_follow_137 : decode cX7_follow 137 = .ok (.iload 4, 2) := by decide +kernel
theorem dX7_follow_139 : decode cX7_follow 139 = .ok (.iconst (-1), 1) := by decide +kernel
theorem dX7_follow_140 : decode cX7_follow 140 = .ok (.if_icmp .ne 9, 3) := by decide +kernel
theorem dX7_follow_143 : decode cX7_follow 143 = .ok (.sipush 2015, 3) := by decide +kernel
theorem dX7_follow_146 : decode cX7_follow 146 = .ok (.goto 5, 3) := by decide +kernel
theorem dX7_follow_149 : decode cX7_follow 149 = .ok (.iload 4, 2) := by decide +kernel
theorem dX7_follow_151 : decode cX7_follow 151 = .ok (.iastore, 1) := by decide +kernel
theorem dX7_follow_152 : decode cX7_follow 152 = .ok (.iinc 3 1, 3) := by decide +kernel
theorem dX7_follow_155 : decode cX7_follow 155 = .ok (.goto (-67), 3) := by decide +kernel
theorem dX7_follow_158 : decode cX7_follow 158 = .ok (.return_, 1) := by decide +kernel
theorem dX7_heed_0 : decode cX7_heed 0 = .ok (.aload_n 0, 1) := by decide +kernel
theorem dX7_heed_1 : decode cX7_heed 1 = .ok (.iload_n 3, 1) := by decide +kernel
theorem dX7_heed_2 : decode cX7_heed 2 = .ok (.invokevirtual 60, 3) := by decide +kernel
theorem dX7_heed_5 : decode cX7_heed 5 = .ok (.iconst 0, 1) := by decide +kernel
theorem dX7_heed_6 : decode cX7_heed 6 = .ok (.istore 4, 2) := by decide +kernel
theorem dX7_heed_8 : decode cX7_heed 8 = .ok (.iload 4, 2) := by decide +kernel
theorem dX7_heed_10 : decode cX7_heed 10 = .ok (.aload_n 1, 1) := by decide +kernel
theorem dX7_heed_11 : decode cX7_heed 11 = .ok (.getfield 80, 3) := by decide +kernel
theorem dX7_heed_14 : decode cX7_heed 14 = .ok (.if_icmp .ge 39, 3) := by decide +kernel
theorem dX7_heed_17 : decode cX7_heed 17 = .ok (.aload_n 1, 1) := by decide +kernel
theorem dX7_heed_18 : decode cX7_heed 18 = .ok (.getfield 85, 3) := by decide +kernel
theorem dX7_heed_21 : decode cX7_heed 21 = .ok (.iload 4, 2) := by decide +kernel
theorem dX7_heed_23 : decode cX7_heed 23 = .ok (.iaload, 1) := by decide +kernel
theorem dX7_heed_24 : decode cX7_heed 24 = .ok (.iload_n 2, 1) := by decide +kernel
theorem dX7_heed_25 : decode cX7_heed 25 = .ok (.if_icmp .ne 22, 3) := by decide +kernel
theorem dX7_heed_28 : decode cX7_heed 28 = .ok (.aload_n 0, 1) := by decide +kernel
theorem dX7_heed_29 : decode cX7_heed 29 = .ok (.getfield 33, 3) := by decide +kernel
theorem dX7_heed_32 : decode cX7_heed 32 = .ok (.aload_n 1, 1) := by decide +kernel
theorem dX7_heed_33 : decode cX7_heed 33 = .ok (.getfield 88, 3) := by decide +kernel
theorem dX7_heed_36 : decode cX7_heed 36 = .ok (.iload 4, 2) := by decide +kernel
theorem dX7_heed_38 : decode cX7_heed 38 = .ok (.iaload, 1) := by decide +kernel
theorem dX7_heed_39 : decode cX7_heed 39 = .ok (.aload_n 1, 1) := by decide +kernel
theorem dX7_heed_40 : decode cX7_heed 40 = .ok (.getfield 91, 3) := by decide +kernel
theorem dX7_heed_43 : decode cX7_heed 43 = .ok (.iload 4, 2) := by decide +kernel
theorem dX7_heed_45 : decode cX7_heed 45 = .ok (.iaload, 1) := by decide +kernel
theorem dX7_heed_46 : decode cX7_heed 46 = .ok (.iastore, 1) := by decide +kernel
theorem dX7_heed_47 : decode cX7_heed 47 = .ok (.iinc 4 1, 3) := by decide +kernel
theorem dX7_heed_50 : decode cX7_heed 50 = .ok (.goto (-42), 3) := by decide +kernel
theorem dX7_heed_53 : decode cX7_heed 53 = .ok (.iconst (-1), 1) := by decide +kernel
theorem dX7_heed_54 : decode cX7_heed 54 = .ok (.istore 4, 2) := by decide +kernel
theorem dX7_heed_56 : decode cX7_heed 56 = .ok (.iconst 0, 1) := by decide +kernel
theorem dX7_heed_57 : decode cX7_heed 57 = .ok (.istore 5, 2) := by decide +kernel
theorem dX7_heed_59 : decode cX7_heed 59 = .ok (.iload 5, 2) := by decide +kernel
theorem dX7_heed_61 : decode cX7_heed 61 = .ok (.iload_n 3, 1) := by decide +kernel
theorem dX7_heed_62 : decode cX7_heed 62 = .ok (.if_icmp .gt 67, 3) := by decide +kernel
theorem dX7_heed_65 : decode cX7_heed 65 = .ok (.iload 5, 2) := by decide +kernel
theorem dX7_heed_67 : decode cX7_heed 67 = .ok (.sipush 300, 3) := by decide +kernel
theorem dX7_heed_70 : decode cX7_heed 70 = .ok (.if_icmp .ge 59, 3) := by decide +kernel
theorem dX7_heed_73 : decode cX7_heed 73 = .ok (.aload_n 0, 1) := by decide +kernel
theorem dX7_heed_74 : decode cX7_heed 74 = .ok (.getfield 33, 3) := by decide +kernel
theorem dX7_heed_77 : decode cX7_heed 77 = .ok (.iload 5, 2) := by decide +kernel
theorem dX7_heed_79 : decode cX7_heed 79 = .ok (.iaload, 1) := by decide +kernel
theorem dX7_heed_80 : decode cX7_heed 80 = .ok (.iconst (-1), 1) := by decide +kernel
theorem dX7_heed_81 : decode cX7_heed 81 = .ok (.if_icmp .ne 8, 3) := by decide +kernel
theorem dX7_heed_84 : decode cX7_heed 84 = .ok (.iload 4, 2) := by decide +kernel
theorem dX7_heed_86 : decode cX7_heed 86 = .ok (.goto 10, 3) := by decide +kernel
theorem dX7_heed_89 : decode cX7_heed 89 = .ok (.aload_n 0, 1) := by decide +kernel
theorem dX7_heed_90 : decode cX7_heed 90 = .ok (.getfield 33, 3) := by decide +kernel
theorem dX7_heed_93 : decode cX7_heed 93 = .ok (.iload 5, 2) := by decide +kernel
theorem dX7_heed_95 : decode cX7_heed 95 = .ok (.iaload, 1) := by decide +kernel
theorem dX7_heed_96 : decode cX7_heed 96 = .ok (.istore 4, 2) := by decide +kernel
theorem dX7_heed_98 : decode cX7_heed 98 = .ok (.aload_n 0, 1) := by decide +kernel
theorem dX7_heed_99 : decode cX7_heed 99 = .ok (.getfield 29, 3) := by decide +kernel
theorem dX7_heed_102 : decode cX7_heed 102 = .ok (.iload 5, 2) := by decide +kernel
theorem dX7_heed_104 : decode cX7_heed 104 = .ok (.iload 4, 2) := by decide +kernel
theorem dX7_heed_106 : decode cX7_heed 106 = .ok (.iconst (-1), 1) := by decide +kernel
theorem dX7_heed_107 : decode cX7_heed 107 = .ok (.if_icmp .ne 13, 3) := by decide +kernel
theorem dX7_heed_110 : decode cX7_heed 110 = .ok (.aload_n 0, 1) := by decide +kernel
theorem dX7_heed_111 : decode cX7_heed 111 = .ok (.getfield 29, 3) := by decide +kernel
theorem dX7_heed_114 : decode cX7_heed 114 = .ok (.iload 5, 2) := by decide +kernel
theorem dX7_heed_116 : decode cX7_heed 116 = .ok (.iaload, 1) := by decide +kernel
theorem dX7_heed_117 : decode cX7_heed 117 = .ok (.goto 5, 3) := by decide +kernel
theorem dX7_heed_120 : decode cX7_heed 120 = .ok (.iload 4, 2) := by decide +kernel
theorem dX7_heed_122 : decode cX7_heed 122 = .ok (.iastore, 1) := by decide +kernel
theorem dX7_heed_123 : decode cX7_heed 123 = .ok (.iinc 5 1, 3) := by decide +kernel
theorem dX7_heed_126 : decode cX7_heed 126 = .ok (.goto (-67), 3) := by decide +kernel
theorem dX7_heed_129 : decode cX7_heed 129 = .ok (.iconst 0, 1) := by decide +kernel
theorem dX7_heed_130 : decode cX7_heed 130 = .ok (.istore 5, 2) := by decide +kernel
theorem dX7_heed_132 : decode cX7_heed 132 = .ok (.iload 5, 2) := by decide +kernel
theorem dX7_heed_134 : decode cX7_heed 134 = .ok (.aload_n 1, 1) := by decide +kernel
theorem dX7_heed_135 : decode cX7_heed 135 = .ok (.getfield 94, 3) := by decide +kernel
theorem dX7_heed_138 : decode cX7_heed 138 = .ok (.if_icmp .ge 42, 3) := by decide +kernel
theorem dX7_heed_141 : decode cX7_heed 141 = .ok (.aload_n 1, 1) := by decide +kernel
theorem dX7_heed_142 : decode cX7_heed 142 = .ok (.getfield 97, 3) := by decide +kernel
theorem dX7_heed_145 : decode cX7_heed 145 = .ok (.iload 5, 2) := by decide +kernel
theorem dX7_heed_147 : decode cX7_heed 147 = .ok (.iaload, 1) := by decide +kernel
theorem dX7_heed_148 : decode cX7_heed 148 = .ok (.iload_n 2, 1) := by decide +kernel
theorem dX7_heed_149 : decode cX7_heed 149 = .ok (.if_icmp .ne 25, 3) := by decide +kernel
theorem dX7_heed_152 : decode cX7_heed 152 = .ok (.aload_n 0, 1) := by decide +kernel
theorem dX7_heed_153 : decode cX7_heed 153 = .ok (.aload_n 1, 1) := by decide +kernel
theorem dX7_heed_154 : decode cX7_heed 154 = .ok (.getfield 100, 3) := by decide +kernel
theorem dX7_heed_157 : decode cX7_heed 157 = .ok (.iload 5, 2) := by decide +kernel
theorem dX7_heed_159 : decode cX7_heed 159 = .ok (.iaload, 1) := by decide +kernel
theorem dX7_heed_160 : decode cX7_heed 160 = .ok (.iload_n 3, 1) := by decide +kernel
theorem dX7_heed_161 : decode cX7_heed 161 = .ok (.aload_n 1, 1) := by decide +kernel
theorem dX7_heed_162 : decode cX7_heed 162 = .ok (.getfield 103, 3) := by decide +kernel
theorem dX7_heed_165 : decode cX7_heed 165 = .ok (.iload 5, 2) := by decide +kernel
theorem dX7_heed_167 : decode cX7_heed 167 = .ok (.iaload, 1) := by decide +kernel
theorem dX7_heed_168 : decode cX7_heed 168 = .ok (.invokestatic 106, 3) := by decide +kernel
theorem dX7_heed_171 : decode cX7_heed 171 = .ok (.invokevirtual 111, 3) := by decide +kernel
theorem dX7_heed_174 : decode cX7_heed 174 = .ok (.iinc 5 1, 3) := by decide +kernel
theorem dX7_heed_177 : decode cX7_heed 177 = .ok (.goto (-45), 3) := by decide +kernel
theorem dX7_heed_180 : decode cX7_heed 180 = .ok (.return_, 1) := by decide +kernel
theorem dX7_shut_0 : decode cX7_shut 0 = .ok (.iload_n 1, 1) := by decide +kernel
theorem dX7_shut_1 : decode cX7_shut 1 = .ok (.istore_n 3, 1) := by decide +kernel
theorem dX7_shut_2 : decode cX7_shut 2 = .ok (.iload_n 3, 1) := by decide +kernel
theorem dX7_shut_3 : decode cX7_shut 3 = .ok (.iload_n 2, 1) := by decide +kernel
theorem dX7_shut_4 : decode cX7_shut 4 = .ok (.if_icmp .gt 23, 3) := by decide +kernel
theorem dX7_shut_7 : decode cX7_shut 7 = .ok (.iload_n 3, 1) := by decide +kernel
theorem dX7_shut_8 : decode cX7_shut 8 = .ok (.sipush 300, 3) := by decide +kernel
theorem dX7_shut_11 : decode cX7_shut 11 = .ok (.if_icmp .ge 16, 3) := by decide +kernel
theorem dX7_shut_14 : decode cX7_shut 14 = .ok (.aload_n 0, 1) := by decide +kernel
theorem dX7_shut_15 : decode cX7_shut 15 = .ok (.getfield 29, 3) := by decide +kernel
theorem dX7_shut_18 : decode cX7_shut 18 = .ok (.iload_n 3, 1) := by decide +kernel
theorem dX7_shut_19 : decode cX7_shut 19 = .ok (.iconst (-1), 1) := by decide +kernel
theorem dX7_shut_20 : decode cX7_shut 20 = .ok (.iastore, 1) := by decide +kernel
theorem dX7_shut_21 : decode cX7_shut 21 = .ok (.iinc 3 1, 3) := by decide +kernel
theorem dX7_shut_24 : decode cX7_shut 24 = .ok (.goto (-22), 3) := by decide +kernel
theorem dX7_shut_27 : decode cX7_shut 27 = .ok (.return_, 1) := by decide +kernel
theorem dX7_farther_0 : decode cX7_farther 0 = .ok (.iload_n 0, 1) := by decide +kernel
theorem dX7_farther_1 : decode cX7_farther 1 = .ok (.bipush 100, 2) := by decide +kernel
theorem dX7_farther_3 : decode cX7_farther 3 = .ok (.idiv, 1) := by decide +kernel
theorem dX7_farther_4 : decode cX7_farther 4 = .ok (.iload_n 1, 1) := by decide +kernel
theorem dX7_farther_5 : decode cX7_farther 5 = .ok (.bipush 100, 2) := by decide +kernel
theorem dX7_farther_7 : decode cX7_farther 7 = .ok (.idiv, 1) := by decide +kernel
theorem dX7_farther_8 : decode cX7_farther 8 = .ok (.isub, 1) := by decide +kernel
theorem dX7_farther_9 : decode cX7_farther 9 = .ok (.istore_n 3, 1) := by decide +kernel
theorem dX7_farther_10 : decode cX7_farther 10 = .ok (.iload_n 0, 1) := by decide +kernel
theorem dX7_farther_11 : decode cX7_farther 11 = .ok (.bipush 100, 2) := by decide +kernel
theorem dX7_farther_13 : decode cX7_farther 13 = .ok (.irem, 1) := by decide +kernel
theorem dX7_farther_14 : decode cX7_farther 14 = .ok (.iload_n 1, 1) := by decide +kernel
theorem dX7_farther_15 : decode cX7_farther 15 = .ok (.bipush 100, 2) := by decide +kernel
theorem dX7_farther_17 : decode cX7_farther 17 = .ok (.irem, 1) := by decide +kernel
theorem dX7_farther_18 : decode cX7_farther 18 = .ok (.isub, 1) := by decide +kernel
theorem dX7_farther_19 : decode cX7_farther 19 = .ok (.istore 4, 2) := by decide +kernel
theorem dX7_farther_21 : decode cX7_farther 21 = .ok (.iload_n 3, 1) := by decide +kernel
theorem dX7_farther_22 : decode cX7_farther 22 = .ok (.ifCond .ge 8, 3) := by decide +kernel
theorem dX7_farther_25 : decode cX7_farther 25 = .ok (.iload_n 3, 1) := by decide +kernel
theorem dX7_farther_26 : decode cX7_farther 26 = .ok (.ineg, 1) := by decide +kernel
theorem dX7_farther_27 : decode cX7_farther 27 = .ok (.goto 4, 3) := by decide +kernel
theorem dX7_farther_30 : decode cX7_farther 30 = .ok (.iload_n 3, 1) := by decide +kernel
theorem dX7_farther_31 : decode cX7_farther 31 = .ok (.iload_n 2, 1) := by decide +kernel
theorem dX7_farther_32 : decode cX7_farther 32 = .ok (.isub, 1) := by decide +kernel
theorem dX7_farther_33 : decode cX7_farther 33 = .ok (.istore_n 3, 1) := by decide +kernel
theorem dX7_farther_34 : decode cX7_farther 34 = .ok (.iload 4, 2) := by decide +kernel
theorem dX7_farther_36 : decode cX7_farther 36 = .ok (.ifCond .ge 9, 3) := by decide +kernel
theorem dX7_farther_39 : decode cX7_farther 39 = .ok (.iload 4, 2) := by decide +kernel
theorem dX7_farther_41 : decode cX7_farther 41 = .ok (.ineg, 1) := by decide +kernel
theorem dX7_farther_42 : decode cX7_farther 42 = .ok (.goto 5, 3) := by decide +kernel
theorem dX7_farther_45 : decode cX7_farther 45 = .ok (.iload 4, 2) := by decide +kernel
theorem dX7_farther_47 : decode cX7_farther 47 = .ok (.istore 4, 2) := by decide +kernel
theorem dX7_farther_49 : decode cX7_farther 49 = .ok (.iload_n 3, 1) := by decide +kernel
theorem dX7_farther_50 : decode cX7_farther 50 = .ok (.iload 4, 2) := by decide +kernel
theorem dX7_farther_52 : decode cX7_farther 52 = .ok (.if_icmp .le 7, 3) := by decide +kernel
theorem dX7_farther_55 : decode cX7_farther 55 = .ok (.iload_n 3, 1) := by decide +kernel
theorem dX7_farther_56 : decode cX7_farther 56 = .ok (.goto 5, 3) := by decide +kernel
theorem dX7_farther_59 : decode cX7_farther 59 = .ok (.iload 4, 2) := by decide +kernel
theorem dX7_farther_61 : decode cX7_farther 61 = .ok (.ireturn, 1) := by decide +kernel
theorem dX7_regard_0 : decode cX7_regard 0 = .ok (.aload_n 0, 1) := by decide +kernel
theorem dX7_regard_1 : decode cX7_regard 1 = .ok (.getfield 12, 3) := by decide +kernel
theorem dX7_regard_4 : decode cX7_regard 4 = .ok (.iload_n 1, 1) := by decide +kernel
theorem dX7_regard_5 : decode cX7_regard 5 = .ok (.iload_n 2, 1) := by decide +kernel
theorem dX7_regard_6 : decode cX7_regard 6 = .ok (.invokevirtual 76, 3) := by decide +kernel
theorem dX7_regard_9 : decode cX7_regard 9 = .ok (.istore_n 3, 1) := by decide +kernel
theorem dX7_regard_10 : decode cX7_regard 10 = .ok (.aload_n 0, 1) := by decide +kernel
theorem dX7_regard_11 : decode cX7_regard 11 = .ok (.getfield 12, 3) := by decide +kernel
theorem dX7_regard_14 : decode cX7_regard 14 = .ok (.iload_n 1, 1) := by decide +kernel
theorem dX7_regard_15 : decode cX7_regard 15 = .ok (.iload_n 2, 1) := by decide +kernel
theorem dX7_regard_16 : decode cX7_regard 16 = .ok (.iconst 1, 1) := by decide +kernel
theorem dX7_regard_17 : decode cX7_regard 17 = .ok (.isub, 1) := by decide +kernel
theorem dX7_regard_18 : decode cX7_regard 18 = .ok (.invokevirtual 76, 3) := by decide +kernel
theorem dX7_regard_21 : decode cX7_regard 21 = .ok (.istore 4, 2) := by decide +kernel
theorem dX7_regard_23 : decode cX7_regard 23 = .ok (.aload_n 0, 1) := by decide +kernel
theorem dX7_regard_24 : decode cX7_regard 24 = .ok (.getfield 12, 3) := by decide +kernel
theorem dX7_regard_27 : decode cX7_regard 27 = .ok (.iload_n 1, 1) := by decide +kernel
theorem dX7_regard_28 : decode cX7_regard 28 = .ok (.iload_n 2, 1) := by decide +kernel
theorem dX7_regard_29 : decode cX7_regard 29 = .ok (.invokevirtual 114, 3) := by decide +kernel
theorem dX7_regard_32 : decode cX7_regard 32 = .ok (.istore 5, 2) := by decide +kernel
theorem dX7_regard_34 : decode cX7_regard 34 = .ok (.aload_n 0, 1) := by decide +kernel
theorem dX7_regard_35 : decode cX7_regard 35 = .ok (.getfield 29, 3) := by decide +kernel
theorem dX7_regard_38 : decode cX7_regard 38 = .ok (.iload_n 2, 1) := by decide +kernel
theorem dX7_regard_39 : decode cX7_regard 39 = .ok (.iaload, 1) := by decide +kernel
theorem dX7_regard_40 : decode cX7_regard 40 = .ok (.istore 6, 2) := by decide +kernel
theorem dX7_regard_42 : decode cX7_regard 42 = .ok (.aload_n 0, 1) := by decide +kernel
theorem dX7_regard_43 : decode cX7_regard 43 = .ok (.getfield 12, 3) := by decide +kernel
theorem dX7_regard_46 : decode cX7_regard 46 = .ok (.iload_n 2, 1) := by decide +kernel
theorem dX7_regard_47 : decode cX7_regard 47 = .ok (.aload_n 0, 1) := by decide +kernel
theorem dX7_regard_48 : decode cX7_regard 48 = .ok (.getfield 21, 3) := by decide +kernel
theorem dX7_regard_51 : decode cX7_regard 51 = .ok (.getfield 117, 3) := by decide +kernel
theorem dX7_regard_54 : decode cX7_regard 54 = .ok (.invokevirtual 120, 3) := by decide +kernel
theorem dX7_regard_57 : decode cX7_regard 57 = .ok (.aload_n 0, 1) := by decide +kernel
theorem dX7_regard_58 : decode cX7_regard 58 = .ok (.getfield 21, 3) := by decide +kernel
theorem dX7_regard_61 : decode cX7_regard 61 = .ok (.getfield 123, 3) := by decide +kernel
theorem dX7_regard_64 : decode cX7_regard 64 = .ok (.isub, 1) := by decide +kernel
theorem dX7_regard_65 : decode cX7_regard 65 = .ok (.istore 7, 2) := by decide +kernel
theorem dX7_regard_67 : decode cX7_regard 67 = .ok (.aload_n 0, 1) := by decide +kernel
theorem dX7_regard_68 : decode cX7_regard 68 = .ok (.iload_n 3, 1) := by decide +kernel
theorem dX7_regard_69 : decode cX7_regard 69 = .ok (.iconst (-1), 1) := by decide +kernel
theorem dX7_regard_70 : decode cX7_regard 70 = .ok (.if_icmp .eq 13, 3) := by decide +kernel
theorem dX7_regard_73 : decode cX7_regard 73 = .ok (.iload 6, 2) := by decide +kernel
theorem dX7_regard_75 : decode cX7_regard 75 = .ok (.iconst (-1), 1) := by decide +kernel
theorem dX7_regard_76 : decode cX7_regard 76 = .ok (.if_icmp .eq 7, 3) := by decide +kernel
theorem dX7_regard_79 : decode cX7_regard 79 = .ok (.iconst 1, 1) := by decide +kernel
theorem dX7_regard_80 : decode cX7_regard 80 = .ok (.goto 4, 3) := by decide +kernel
theorem dX7_regard_83 : decode cX7_regard 83 = .ok (.iconst 0, 1) := by decide +kernel
theorem dX7_regard_84 : decode cX7_regard 84 = .ok (.putfield 39, 3) := by decide +kernel
theorem dX7_regard_87 : decode cX7_regard 87 = .ok (.aload_n 0, 1) := by decide +kernel
theorem dX7_regard_88 : decode cX7_regard 88 = .ok (.getfield 36, 3) := by decide +kernel
theorem dX7_regard_91 : decode cX7_regard 91 = .ok (.iconst 0, 1) := by decide +kernel
theorem dX7_regard_92 : decode cX7_regard 92 = .ok (.aload_n 0, 1) := by decide +kernel
theorem dX7_regard_93 : decode cX7_regard 93 = .ok (.getfield 21, 3) := by decide +kernel
theorem dX7_regard_96 : decode cX7_regard 96 = .ok (.getfield 117, 3) := by decide +kernel
theorem dX7_regard_99 : decode cX7_regard 99 = .ok (.iload 5, 2) := by decide +kernel
theorem dX7_regard_101 : decode cX7_regard 101 = .ok (.ishr, 1) := by decide +kernel
theorem dX7_regard_102 : decode cX7_regard 102 = .ok (.iconst 1, 1) := by decide +kernel
theorem dX7_regard_103 : decode cX7_regard 103 = .ok (.iand, 1) := by decide +kernel
theorem dX7_regard_104 : decode cX7_regard 104 = .ok (.iastore, 1) := by decide +kernel
theorem dX7_regard_105 : decode cX7_regard 105 = .ok (.aload_n 0, 1) := by decide +kernel
theorem dX7_regard_106 : decode cX7_regard 106 = .ok (.getfield 36, 3) := by decide +kernel
theorem dX7_regard_109 : decode cX7_regard 109 = .ok (.iconst 1, 1) := by decide +kernel
theorem dX7_regard_110 : decode cX7_regard 110 = .ok (.aload_n 0, 1) := by decide +kernel
theorem dX7_regard_111 : decode cX7_regard 111 = .ok (.getfield 21, 3) := by decide +kernel
theorem dX7_regard_114 : decode cX7_regard 114 = .ok (.getfield 126, 3) := by decide +kernel
theorem dX7_regard_117 : decode cX7_regard 117 = .ok (.iload 5, 2) := by decide +kernel
theorem dX7_regard_119 : decode cX7_regard 119 = .ok (.ishr, 1) := by decide +kernel
theorem dX7_regard_120 : decode cX7_regard 120 = .ok (.iconst 1, 1) := by decide +kernel
theorem dX7_regard_121 : decode cX7_regard 121 = .ok (.iand, 1) := by decide +kernel
theorem dX7_regard_122 : decode cX7_regard 122 = .ok (.iastore, 1) := by decide +kernel
theorem dX7_regard_123 : decode cX7_regard 123 = .ok (.aload_n 0, 1) := by decide +kernel
theorem dX7_regard_124 : decode cX7_regard 124 = .ok (.getfield 36, 3) := by decide +kernel
theorem dX7_regard_127 : decode cX7_regard 127 = .ok (.iconst 2, 1) := by decide +kernel
theorem dX7_regard_128 : decode cX7_regard 128 = .ok (.aload_n 0, 1) := by decide +kernel
theorem dX7_regard_129 : decode cX7_regard 129 = .ok (.getfield 39, 3) := by decide +kernel
theorem dX7_regard_132 : decode cX7_regard 132 = .ok (.ifCond .eq 16, 3) := by decide +kernel
theorem dX7_regard_135 : decode cX7_regard 135 = .ok (.iload_n 3, 1) := by decide +kernel
theorem dX7_regard_136 : decode cX7_regard 136 = .ok (.iload 6, 2) := by decide +kernel
theorem dX7_regard_138 : decode cX7_regard 138 = .ok (.aload_n 0, 1) := by decide +kernel
theorem dX7_regard_139 : decode cX7_regard 139 = .ok (.getfield 46, 3) := by decide +kernel
theorem dX7_regard_142 : decode cX7_regard 142 = .ok (.invokestatic 129, 3) := by decide +kernel
theorem dX7_regard_145 : decode cX7_regard 145 = .ok (.goto 5, 3) := by decide +kernel
theorem dX7_regard_148 : decode cX7_regard 148 = .ok (.bipush 99, 2) := by decide +kernel
theorem dX7_regard_150 : decode cX7_regard 150 = .ok (.iastore, 1) := by decide +kernel
theorem dX7_regard_151 : decode cX7_regard 151 = .ok (.aload_n 0, 1) := by decide +kernel
theorem dX7_regard_152 : decode cX7_regard 152 = .ok (.getfield 36, 3) := by decide +kernel
theorem dX7_regard_155 : decode cX7_regard 155 = .ok (.iconst 3, 1) := by decide +kernel
theorem dX7_regard_156 : decode cX7_regard 156 = .ok (.aload_n 0, 1) := by decide +kernel
theorem dX7_regard_157 : decode cX7_regard 157 = .ok (.getfield 42, 3) := by decide +kernel
theorem dX7_regard_160 : decode cX7_regard 160 = .ok (.iconst (-1), 1) := by decide +kernel
theorem dX7_regard_161 : decode cX7_regard 161 = .ok (.if_icmp .ne 15, 3) := by decide +kernel
theorem dX7_regard_164 : decode cX7_regard 164 = .ok (.aload_n 0, 1) := by decide +kernel
theorem dX7_regard_165 : decode cX7_regard 165 = .ok (.getfield 12, 3) := by decide +kernel
theorem dX7_regard_168 : decode cX7_regard 168 = .ok (.getfield 133, 3) := by decide +kernel
theorem dX7_regard_171 : decode cX7_regard 171 = .ok (.iload_n 1, 1) := by decide +kernel
theorem dX7_regard_172 : decode cX7_regard 172 = .ok (.iaload, 1) := by decide +kernel
theorem dX7_regard_173 : decode cX7_regard 173 = .ok (.goto 7, 3) := by decide +kernel
theorem dX7_regard_176 : decode cX7_regard 176 = .ok (.aload_n 0, 1) := by decide +kernel
theorem dX7_regard_177 : decode cX7_regard 177 = .ok (.getfield 42, 3) := by decide +kernel
theorem dX7_regard_180 : decode cX7_regard 180 = .ok (.iastore, 1) := by decide +kernel
theorem dX7_regard_181 : decode cX7_regard 181 = .ok (.aload_n 0, 1) := by decide +kernel
theorem dX7_regard_182 : decode cX7_regard 182 = .ok (.getfield 36, 3) := by decide +kernel
theorem dX7_regard_185 : decode cX7_regard 185 = .ok (.iconst 4, 1) := by decide +kernel
theorem dX7_regard_186 : decode cX7_regard 186 = .ok (.iload_n 3, 1) := by decide +kernel
theorem dX7_regard_187 : decode cX7_regard 187 = .ok (.iconst (-1), 1) := by decide +kernel
theorem dX7_regard_188 : decode cX7_regard 188 = .ok (.if_icmp .eq 9, 3) := by decide +kernel
theorem dX7_regard_191 : decode cX7_regard 191 = .ok (.iload 4, 2) := by decide +kernel
theorem dX7_regard_193 : decode cX7_regard 193 = .ok (.iconst (-1), 1) := by decide +kernel
theorem dX7_regard_194 : decode cX7_regard 194 = .ok (.if_icmp .ne 7, 3) := by decide +kernel
theorem dX7_regard_197 : decode cX7_regard 197 = .ok (.iconst 0, 1) := by decide +kernel
theorem dX7_regard_198 : decode cX7_regard 198 = .ok (.goto 15, 3) := by decide +kernel
theorem dX7_regard_201 : decode cX7_regard 201 = .ok (.iload_n 3, 1) := by decide +kernel
theorem dX7_regard_202 : decode cX7_regard 202 = .ok (.iload 4, 2) := by decide +kernel
theorem dX7_regard_204 : decode cX7_regard 204 = .ok (.iconst 0, 1) := by decide +kernel
theorem dX7_regard_205 : decode cX7_regard 205 = .ok (.invokestatic 129, 3) := by decide +kernel
theorem dX7_regard_208 : decode cX7_regard 208 = .ok (.aload_n 0, 1) := by decide +kernel
theorem dX7_regard_209 : decode cX7_regard 209 = .ok (.getfield 49, 3) := by decide +kernel
theorem dX7_regard_212 : decode cX7_regard 212 = .ok (.idiv, 1) := by decide +kernel
theorem dX7_regard_213 : decode cX7_regard 213 = .ok (.iastore, 1) := by decide +kernel
theorem dX7_regard_214 : decode cX7_regard 214 = .ok (.aload_n 0, 1) := by decide +kernel
theorem dX7_regard_215 : decode cX7_regard 215 = .ok (.getfield 36, 3) := by decide +kernel
theorem dX7_regard_218 : decode cX7_regard 218 = .ok (.iconst 5, 1) := by decide +kernel
theorem dX7_regard_219 : decode cX7_regard 219 = .ok (.iload 7, 2) := by decide +kernel
theorem dX7_regard_221 : decode cX7_regard 221 = .ok (.ifCond .le 8, 3) := by decide +kernel
theorem dX7_regard_224 : decode cX7_regard 224 = .ok (.iload 7, 2) := by decide +kernel
theorem dX7_regard_226 : decode cX7_regard 226 = .ok (.goto 4, 3) := by decide +kernel
theorem dX7_regard_229 : decode cX7_regard 229 = .ok (.iconst 0, 1) := by decide +kernel
theorem dX7_regard_230 : decode cX7_regard 230 = .ok (.iastore, 1) := by decide +kernel
theorem dX7_regard_231 : decode cX7_regard 231 = .ok (.aload_n 0, 1) := by decide +kernel
theorem dX7_regard_232 : decode cX7_regard 232 = .ok (.getfield 36, 3) := by decide +kernel
theorem dX7_regard_235 : decode cX7_regard 235 = .ok (.bipush 6, 2) := by decide +kernel
theorem dX7_regard_237 : decode cX7_regard 237 = .ok (.iload_n 1, 1) := by decide +kernel
theorem dX7_regard_238 : decode cX7_regard 238 = .ok (.aload_n 0, 1) := by decide +kernel
theorem dX7_regard_239 : decode cX7_regard 239 = .ok (.getfield 12, 3) := by decide +kernel
theorem dX7_regard_242 : decode cX7_regard 242 = .ok (.getfield 136, 3) := by decide +kernel
theorem dX7_regard_245 : decode cX7_regard 245 = .ok (.if_icmp .ne 7, 3) := by decide +kernel
theorem dX7_regard_248 : decode cX7_regard 248 = .ok (.iconst 1, 1) := by decide +kernel
theorem dX7_regard_249 : decode cX7_regard 249 = .ok (.goto 4, 3) := by decide +kernel
theorem dX7_regard_252 : decode cX7_regard 252 = .ok (.iconst 0, 1) := by decide +kernel
theorem dX7_regard_253 : decode cX7_regard 253 = .ok (.iastore, 1) := by decide +kernel
theorem dX7_regard_254 : decode cX7_regard 254 = .ok (.aload_n 0, 1) := by decide +kernel
theorem dX7_regard_255 : decode cX7_regard 255 = .ok (.getfield 36, 3) := by decide +kernel
theorem dX7_regard_258 : decode cX7_regard 258 = .ok (.bipush 7, 2) := by decide +kernel
theorem dX7_regard_260 : decode cX7_regard 260 = .ok (.aload_n 0, 1) := by decide +kernel
theorem dX7_regard_261 : decode cX7_regard 261 = .ok (.getfield 21, 3) := by decide +kernel
theorem dX7_regard_264 : decode cX7_regard 264 = .ok (.getfield 139, 3) := by decide +kernel
theorem dX7_regard_267 : decode cX7_regard 267 = .ok (.iastore, 1) := by decide +kernel
theorem dX7_regard_268 : decode cX7_regard 268 = .ok (.aload_n 0, 1) := by decide +kernel
theorem dX7_regard_269 : decode cX7_regard 269 = .ok (.getfield 36, 3) := by decide +kernel
theorem dX7_regard_272 : decode cX7_regard 272 = .ok (.bipush 8, 2) := by decide +kernel
theorem dX7_regard_274 : decode cX7_regard 274 = .ok (.aload_n 0, 1) := by decide +kernel
theorem dX7_regard_275 : decode cX7_regard 275 = .ok (.getfield 12, 3) := by decide +kernel
theorem dX7_regard_278 : decode cX7_regard 278 = .ok (.iload_n 1, 1) := by decide +kernel
theorem dX7_regard_279 : decode cX7_regard 279 = .ok (.iload_n 2, 1) := by decide +kernel
theorem dX7_regard_280 : decode cX7_regard 280 = .ok (.invokevirtual 142, 3) := by decide +kernel
theorem dX7_regard_283 : decode cX7_regard 283 = .ok (.ifCond .eq 7, 3) := by decide +kernel
theorem dX7_regard_286 : decode cX7_regard 286 = .ok (.iconst 1, 1) := by decide +kernel
theorem dX7_regard_287 : decode cX7_regard 287 = .ok (.goto 4, 3) := by decide +kernel
theorem dX7_regard_290 : decode cX7_regard 290 = .ok (.iconst 0, 1) := by decide +kernel
theorem dX7_regard_291 : decode cX7_regard 291 = .ok (.iastore, 1) := by decide +kernel
theorem dX7_regard_292 : decode cX7_regard 292 = .ok (.aload_n 0, 1) := by decide +kernel
theorem dX7_regard_293 : decode cX7_regard 293 = .ok (.getfield 36, 3) := by decide +kernel
theorem dX7_regard_296 : decode cX7_regard 296 = .ok (.bipush 9, 2) := by decide +kernel
theorem dX7_regard_298 : decode cX7_regard 298 = .ok (.aload_n 0, 1) := by decide +kernel
theorem dX7_regard_299 : decode cX7_regard 299 = .ok (.getfield 25, 3) := by decide +kernel
theorem dX7_regard_302 : decode cX7_regard 302 = .ok (.ifCond .eq 7, 3) := by decide +kernel
theorem dX7_regard_305 : decode cX7_regard 305 = .ok (.iconst 1, 1) := by decide +kernel
theorem dX7_regard_306 : decode cX7_regard 306 = .ok (.goto 4, 3) := by decide +kernel
theorem dX7_regard_309 : decode cX7_regard 309 = .ok (.iconst 0, 1) := by decide +kernel
theorem dX7_regard_310 : decode cX7_regard 310 = .ok (.iastore, 1) := by decide +kernel
theorem dX7_regard_311 : decode cX7_regard 311 = .ok (.aload_n 0, 1) := by decide +kernel
theorem dX7_regard_312 : decode cX7_regard 312 = .ok (.getfield 36, 3) := by decide +kernel
theorem dX7_regard_315 : decode cX7_regard 315 = .ok (.bipush 10, 2) := by decide +kernel
theorem dX7_regard_317 : decode cX7_regard 317 = .ok (.iload_n 2, 1) := by decide +kernel
theorem dX7_regard_318 : decode cX7_regard 318 = .ok (.iastore, 1) := by decide +kernel
theorem dX7_regard_319 : decode cX7_regard 319 = .ok (.return_, 1) := by decide +kernel
theorem dX7_nearInTenth_0 : decode cX7_nearInTenth 0 = .ok (.aload_n 0, 1) := by decide +kernel
theorem dX7_nearInTenth_1 : decode cX7_nearInTenth 1 = .ok (.getfield 12, 3) := by decide +kernel
theorem dX7_nearInTenth_4 : decode cX7_nearInTenth 4 = .ok (.iload_n 1, 1) := by decide +kernel
theorem dX7_nearInTenth_5 : decode cX7_nearInTenth 5 = .ok (.iload_n 2, 1) := by decide +kernel
theorem dX7_nearInTenth_6 : decode cX7_nearInTenth 6 = .ok (.invokevirtual 76, 3) := by decide +kernel
theorem dX7_nearInTenth_9 : decode cX7_nearInTenth 9 = .ok (.istore_n 3, 1) := by decide +kernel
theorem dX7_nearInTenth_10 : decode cX7_nearInTenth 10 = .ok (.iload_n 3, 1) := by decide +kernel
theorem dX7_nearInTenth_11 : decode cX7_nearInTenth 11 = .ok (.iconst (-1), 1) := by decide +kernel
theorem dX7_nearInTenth_12 : decode cX7_nearInTenth 12 = .ok (.if_icmp .eq 13, 3) := by decide +kernel
theorem dX7_nearInTenth_15 : decode cX7_nearInTenth 15 = .ok (.aload_n 0, 1) := by decide +kernel
theorem dX7_nearInTenth_16 : decode cX7_nearInTenth 16 = .ok (.getfield 29, 3) := by decide +kernel
theorem dX7_nearInTenth_19 : decode cX7_nearInTenth 19 = .ok (.iload_n 2, 1) := by decide +kernel
theorem dX7_nearInTenth_20 : decode cX7_nearInTenth 20 = .ok (.iaload, 1) := by decide +kernel
theorem dX7_nearInTenth_21 : decode cX7_nearInTenth 21 = .ok (.iconst (-1), 1) := by decide +kernel
theorem dX7_nearInTenth_22 : decode cX7_nearInTenth 22 = .ok (.if_icmp .ne 8, 3) := by decide +kernel
theorem dX7_nearInTenth_25 : decode cX7_nearInTenth 25 = .ok (.bipush 99, 2) := by decide +kernel
theorem dX7_nearInTenth_27 : decode cX7_nearInTenth 27 = .ok (.goto 14, 3) := by decide +kernel
theorem dX7_nearInTenth_30 : decode cX7_nearInTenth 30 = .ok (.iload_n 3, 1) := by decide +kernel
theorem dX7_nearInTenth_31 : decode cX7_nearInTenth 31 = .ok (.aload_n 0, 1) := by decide +kernel
theorem dX7_nearInTenth_32 : decode cX7_nearInTenth 32 = .ok (.getfield 29, 3) := by decide +kernel
theorem dX7_nearInTenth_35 : decode cX7_nearInTenth 35 = .ok (.iload_n 2, 1) := by decide +kernel
theorem dX7_nearInTenth_36 : decode cX7_nearInTenth 36 = .ok (.iaload, 1) := by decide +kernel
theorem dX7_nearInTenth_37 : decode cX7_nearInTenth 37 = .ok (.iconst 0, 1) := by decide +kernel
theorem dX7_nearInTenth_38 : decode cX7_nearInTenth 38 = .ok (.invokestatic 129, 3) := by decide +kernel
theorem dX7_nearInTenth_41 : decode cX7_nearInTenth 41 = .ok (.ireturn, 1) := by decide +kernel
theorem dX7_tenthsWithin_0 : decode cX7_tenthsWithin 0 = .ok (.iconst 0, 1) := by decide +kernel
theorem dX7_tenthsWithin_1 : decode cX7_tenthsWithin 1 = .ok (.istore_n 2, 1) := by decide +kernel
theorem dX7_tenthsWithin_2 : decode cX7_tenthsWithin 2 = .ok (.iconst 0, 1) := by decide +kernel
theorem dX7_tenthsWithin_3 : decode cX7_tenthsWithin 3 = .ok (.istore_n 3, 1) := by decide +kernel
theorem dX7_tenthsWithin_4 : decode cX7_tenthsWithin 4 = .ok (.iload_n 3, 1) := by decide +kernel
theorem dX7_tenthsWithin_5 : decode cX7_tenthsWithin 5 = .ok (.aload_n 0, 1) := by decide +kernel
theorem dX7_tenthsWithin_6 : decode cX7_tenthsWithin 6 = .ok (.getfield 12, 3) := by decide +kernel
theorem dX7_tenthsWithin_9 : decode cX7_tenthsWithin 9 = .ok (.getfield 145, 3) := by decide +kernel
theorem dX7_tenthsWithin_12 : decode cX7_tenthsWithin 12 = .ok (.if_icmp .gt 33, 3) := by decide +kernel
theorem dX7_tenthsWithin_15 : decode cX7_tenthsWithin 15 = .ok (.iload_n 2, 1) := by decide +kernel
theorem dX7_tenthsWithin_16 : decode cX7_tenthsWithin 16 = .ok (.aload_n 0, 1) := by decide +kernel
theorem dX7_tenthsWithin_17 : decode cX7_tenthsWithin 17 = .ok (.aload_n 0, 1) := by decide +kernel
theorem dX7_tenthsWithin_18 : decode cX7_tenthsWithin 18 = .ok (.getfield 12, 3) := by decide +kernel
theorem dX7_tenthsWithin_21 : decode cX7_tenthsWithin 21 = .ok (.getfield 136, 3) := by decide +kernel
theorem dX7_tenthsWithin_24 : decode cX7_tenthsWithin 24 = .ok (.iload_n 3, 1) := by decide +kernel
theorem dX7_tenthsWithin_25 : decode cX7_tenthsWithin 25 = .ok (.invokevirtual 148, 3) := by decide +kernel
theorem dX7_tenthsWithin_28 : decode cX7_tenthsWithin 28 = .ok (.iload_n 1, 1) := by decide +kernel
theorem dX7_tenthsWithin_29 : decode cX7_tenthsWithin 29 = .ok (.if_icmp .gt 7, 3) := by decide +kernel
theorem dX7_tenthsWithin_32 : decode cX7_tenthsWithin 32 = .ok (.iconst 1, 1) := by decide +kernel
theorem dX7_tenthsWithin_33 : decode cX7_tenthsWithin 33 = .ok (.goto 4, 3) := by decide +kernel
theorem dX7_tenthsWithin_36 : decode cX7_tenthsWithin 36 = .ok (.iconst 0, 1) := by decide +kernel
theorem dX7_tenthsWithin_37 : decode cX7_tenthsWithin 37 = .ok (.iadd, 1) := by decide +kernel
theorem dX7_tenthsWithin_38 : decode cX7_tenthsWithin 38 = .ok (.istore_n 2, 1) := by decide +kernel
theorem dX7_tenthsWithin_39 : decode cX7_tenthsWithin 39 = .ok (.iinc 3 1, 3) := by decide +kernel
theorem dX7_tenthsWithin_42 : decode cX7_tenthsWithin 42 = .ok (.goto (-38), 3) := by decide +kernel
theorem dX7_tenthsWithin_45 : decode cX7_tenthsWithin 45 = .ok (.iload_n 2, 1) := by decide +kernel
theorem dX7_tenthsWithin_46 : decode cX7_tenthsWithin 46 = .ok (.ireturn, 1) := by decide +kernel
theorem dX7_isDropped_0 : decode cX7_isDropped 0 = .ok (.iconst 0, 1) := by decide +kernel
theorem dX7_isDropped_1 : decode cX7_isDropped 1 = .ok (.istore_n 1, 1) := by decide +kernel
theorem dX7_isDropped_2 : decode cX7_isDropped 2 = .ok (.iload_n 1, 1) := by decide +kernel
theorem dX7_isDropped_3 : decode cX7_isDropped 3 = .ok (.aload_n 0, 1) := by decide +kernel
theorem dX7_isDropped_4 : decode cX7_isDropped 4 = .ok (.getfield 12, 3) := by decide +kernel
theorem dX7_isDropped_7 : decode cX7_isDropped 7 = .ok (.getfield 145, 3) := by decide +kernel
theorem dX7_isDropped_10 : decode cX7_isDropped 10 = .ok (.if_icmp .gt 58, 3) := by decide +kernel
theorem dX7_isDropped_13 : decode cX7_isDropped 13 = .ok (.aload_n 0, 1) := by decide +kernel
theorem dX7_isDropped_14 : decode cX7_isDropped 14 = .ok (.getfield 12, 3) := by decide +kernel
theorem dX7_isDropped_17 : decode cX7_isDropped 17 = .ok (.aload_n 0, 1) := by decide +kernel
theorem dX7_isDropped_18 : decode cX7_isDropped 18 = .ok (.getfield 12, 3) := by decide +kernel
theorem dX7_isDropped_21 : decode cX7_isDropped 21 = .ok (.getfield 136, 3) := by decide +kernel
theorem dX7_isDropped_24 : decode cX7_isDropped 24 = .ok (.iload_n 1, 1) := by decide +kernel
theorem dX7_isDropped_25 : decode cX7_isDropped 25 = .ok (.invokevirtual 76, 3) := by decide +kernel
theorem dX7_isDropped_28 : decode cX7_isDropped 28 = .ok (.iconst (-1), 1) := by decide +kernel
theorem dX7_isDropped_29 : decode cX7_isDropped 29 = .ok (.if_icmp .eq 33, 3) := by decide +kernel
theorem dX7_isDropped_32 : decode cX7_isDropped 32 = .ok (.aload_n 0, 1) := by decide +kernel
theorem dX7_isDropped_33 : decode cX7_isDropped 33 = .ok (.getfield 21, 3) := by decide +kernel
theorem dX7_isDropped_36 : decode cX7_isDropped 36 = .ok (.getfield 126, 3) := by decide +kernel
theorem dX7_isDropped_39 : decode cX7_isDropped 39 = .ok (.aload_n 0, 1) := by decide +kernel
theorem dX7_isDropped_40 : decode cX7_isDropped 40 = .ok (.getfield 12, 3) := by decide +kernel
theorem dX7_isDropped_43 : decode cX7_isDropped 43 = .ok (.aload_n 0, 1) := by decide +kernel
theorem dX7_isDropped_44 : decode cX7_isDropped 44 = .ok (.getfield 12, 3) := by decide +kernel
theorem dX7_isDropped_47 : decode cX7_isDropped 47 = .ok (.getfield 136, 3) := by decide +kernel
theorem dX7_isDropped_50 : decode cX7_isDropped 50 = .ok (.iload_n 1, 1) := by decide +kernel
theorem dX7_isDropped_51 : decode cX7_isDropped 51 = .ok (.invokevirtual 114, 3) := by decide +kernel
theorem dX7_isDropped_54 : decode cX7_isDropped 54 = .ok (.ishr, 1) := by decide +kernel
theorem dX7_isDropped_55 : decode cX7_isDropped 55 = .ok (.iconst 1, 1) := by decide +kernel
theorem dX7_isDropped_56 : decode cX7_isDropped 56 = .ok (.iand, 1) := by decide +kernel
theorem dX7_isDropped_57 : decode cX7_isDropped 57 = .ok (.ifCond .eq 5, 3) := by decide +kernel
theorem dX7_isDropped_60 : decode cX7_isDropped 60 = .ok (.iconst 1, 1) := by decide +kernel
theorem dX7_isDropped_61 : decode cX7_isDropped 61 = .ok (.ireturn, 1) := by decide +kernel
theorem dX7_isDropped_62 : decode cX7_isDropped 62 = .ok (.iinc 1 1, 3) := by decide +kernel
theorem dX7_isDropped_65 : decode cX7_isDropped 65 = .ok (.goto (-63), 3) := by decide +kernel
theorem dX7_isDropped_68 : decode cX7_isDropped 68 = .ok (.iconst 0, 1) := by decide +kernel
theorem dX7_isDropped_69 : decode cX7_isDropped 69 = .ok (.ireturn, 1) := by decide +kernel
theorem dX7_blindness_0 : decode cX7_blindness 0 = .ok (.aload_n 0, 1) := by decide +kernel
theorem dX7_blindness_1 : decode cX7_blindness 1 = .ok (.getfield 12, 3) := by decide +kernel
theorem dX7_blindness_4 : decode cX7_blindness 4 = .ok (.getfield 136, 3) := by decide +kernel
theorem dX7_blindness_7 : decode cX7_blindness 7 = .ok (.iconst (-1), 1) := by decide +kernel
theorem dX7_blindness_8 : decode cX7_blindness 8 = .ok (.if_icmp .ne 5, 3) := by decide +kernel
theorem dX7_blindness_11 : decode cX7_blindness 11 = .ok (.iconst 0, 1) := by decide +kernel
theorem dX7_blindness_12 : decode cX7_blindness 12 = .ok (.ireturn, 1) := by decide +kernel
theorem dX7_blindness_13 : decode cX7_blindness 13 = .ok (.aload_n 0, 1) := by decide +kernel
theorem dX7_blindness_14 : decode cX7_blindness 14 = .ok (.invokevirtual 151, 3) := by decide +kernel
theorem dX7_blindness_17 : decode cX7_blindness 17 = .ok (.ifCond .eq 5, 3) := by decide +kernel
theorem dX7_blindness_20 : decode cX7_blindness 20 = .ok (.iconst 5, 1) := by decide +kernel
theorem dX7_blindness_21 : decode cX7_blindness 21 = .ok (.ireturn, 1) := by decide +kernel
theorem dX7_blindness_22 : decode cX7_blindness 22 = .ok (.aload_n 0, 1) := by decide +kernel
theorem dX7_blindness_23 : decode cX7_blindness 23 = .ok (.iload_n 1, 1) := by decide +kernel
theorem dX7_blindness_24 : decode cX7_blindness 24 = .ok (.iconst 1, 1) := by decide +kernel
theorem dX7_blindness_25 : decode cX7_blindness 25 = .ok (.isub, 1) := by decide +kernel
theorem dX7_blindness_26 : decode cX7_blindness 26 = .ok (.invokevirtual 155, 3) := by decide +kernel
theorem dX7_blindness_29 : decode cX7_blindness 29 = .ok (.ifCond .ne 6, 3) := by decide +kernel
theorem dX7_blindness_32 : decode cX7_blindness 32 = .ok (.bipush 6, 2) := by decide +kernel
theorem dX7_blindness_34 : decode cX7_blindness 34 = .ok (.ireturn, 1) := by decide +kernel
theorem dX7_blindness_35 : decode cX7_blindness 35 = .ok (.aload_n 0, 1) := by decide +kernel
theorem dX7_blindness_36 : decode cX7_blindness 36 = .ok (.iconst 2, 1) := by decide +kernel
theorem dX7_blindness_37 : decode cX7_blindness 37 = .ok (.invokevirtual 155, 3) := by decide +kernel
theorem dX7_blindness_40 : decode cX7_blindness 40 = .ok (.ifCond .ne 7, 3) := by decide +kernel
theorem dX7_blindness_43 : decode cX7_blindness 43 = .ok (.iconst 1, 1) := by decide +kernel
theorem dX7_blindness_44 : decode cX7_blindness 44 = .ok (.goto 4, 3) := by decide +kernel
theorem dX7_blindness_47 : decode cX7_blindness 47 = .ok (.iconst 2, 1) := by decide +kernel
theorem dX7_blindness_48 : decode cX7_blindness 48 = .ok (.ireturn, 1) := by decide +kernel
