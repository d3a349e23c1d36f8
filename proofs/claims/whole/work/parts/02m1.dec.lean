theorem d_M_init_0 : decode prog_13_method_1_code 0 = .ok (.aload_n 0, 1) := by decide +kernel
theorem d_M_init_1 : decode prog_13_method_1_code 1 = .ok (.invokespecial 1, 3) := by decide +kernel
theorem d_M_init_4 : decode prog_13_method_1_code 4 = .ok (.aload_n 0, 1) := by decide +kernel
theorem d_M_init_5 : decode prog_13_method_1_code 5 = .ok (.sipush 4000, 3) := by decide +kernel
theorem d_M_init_8 : decode prog_13_method_1_code 8 = .ok (.newarray .int, 2) := by decide +kernel
theorem d_M_init_10 : decode prog_13_method_1_code 10 = .ok (.putfield 7, 3) := by decide +kernel
theorem d_M_init_13 : decode prog_13_method_1_code 13 = .ok (.aload_n 0, 1) := by decide +kernel
theorem d_M_init_14 : decode prog_13_method_1_code 14 = .ok (.sipush 4000, 3) := by decide +kernel
theorem d_M_init_17 : decode prog_13_method_1_code 17 = .ok (.newarray .int, 2) := by decide +kernel
theorem d_M_init_19 : decode prog_13_method_1_code 19 = .ok (.putfield 13, 3) := by decide +kernel
theorem d_M_init_22 : decode prog_13_method_1_code 22 = .ok (.aload_n 0, 1) := by decide +kernel
theorem d_M_init_23 : decode prog_13_method_1_code 23 = .ok (.bipush 6, 2) := by decide +kernel
theorem d_M_init_25 : decode prog_13_method_1_code 25 = .ok (.sipush 128, 3) := by decide +kernel
theorem d_M_init_28 : decode prog_13_method_1_code 28 = .ok (.multianewarray 16 2, 4) := by decide +kernel
theorem d_M_init_32 : decode prog_13_method_1_code 32 = .ok (.putfield 18, 3) := by decide +kernel
theorem d_M_init_35 : decode prog_13_method_1_code 35 = .ok (.aload_n 0, 1) := by decide +kernel
theorem d_M_init_36 : decode prog_13_method_1_code 36 = .ok (.bipush 6, 2) := by decide +kernel
theorem d_M_init_38 : decode prog_13_method_1_code 38 = .ok (.sipush 128, 3) := by decide +kernel
theorem d_M_init_41 : decode prog_13_method_1_code 41 = .ok (.multianewarray 16 2, 4) := by decide +kernel
theorem d_M_init_45 : decode prog_13_method_1_code 45 = .ok (.putfield 21, 3) := by decide +kernel
theorem d_M_init_48 : decode prog_13_method_1_code 48 = .ok (.aload_n 0, 1) := by decide +kernel
theorem d_M_init_49 : decode prog_13_method_1_code 49 = .ok (.sipush 2048, 3) := by decide +kernel
theorem d_M_init_52 : decode prog_13_method_1_code 52 = .ok (.newarray .int, 2) := by decide +kernel
theorem d_M_init_54 : decode prog_13_method_1_code 54 = .ok (.putfield 24, 3) := by decide +kernel
theorem d_M_init_57 : decode prog_13_method_1_code 57 = .ok (.aload_n 0, 1) := by decide +kernel
theorem d_M_init_58 : decode prog_13_method_1_code 58 = .ok (.sipush 2048, 3) := by decide +kernel
theorem d_M_init_61 : decode prog_13_method_1_code 61 = .ok (.newarray .int, 2) := by decide +kernel
theorem d_M_init_63 : decode prog_13_method_1_code 63 = .ok (.putfield 27, 3) := by decide +kernel
theorem d_M_init_66 : decode prog_13_method_1_code 66 = .ok (.aload_n 0, 1) := by decide +kernel
theorem d_M_init_67 : decode prog_13_method_1_code 67 = .ok (.sipush 2000, 3) := by decide +kernel
theorem d_M_init_70 : decode prog_13_method_1_code 70 = .ok (.newarray .int, 2) := by decide +kernel
theorem d_M_init_72 : decode prog_13_method_1_code 72 = .ok (.putfield 30, 3) := by decide +kernel
theorem d_M_init_75 : decode prog_13_method_1_code 75 = .ok (.aload_n 0, 1) := by decide +kernel
theorem d_M_init_76 : decode prog_13_method_1_code 76 = .ok (.sipush 2000, 3) := by decide +kernel
theorem d_M_init_79 : decode prog_13_method_1_code 79 = .ok (.newarray .int, 2) := by decide +kernel
theorem d_M_init_81 : decode prog_13_method_1_code 81 = .ok (.putfield 33, 3) := by decide +kernel
theorem d_M_init_84 : decode prog_13_method_1_code 84 = .ok (.aload_n 0, 1) := by decide +kernel
theorem d_M_init_85 : decode prog_13_method_1_code 85 = .ok (.sipush 2000, 3) := by decide +kernel
theorem d_M_init_88 : decode prog_13_method_1_code 88 = .ok (.newarray .int, 2) := by decide +kernel
theorem d_M_init_90 : decode prog_13_method_1_code 90 = .ok (.putfield 36, 3) := by decide +kernel
theorem d_M_init_93 : decode prog_13_method_1_code 93 = .ok (.aload_n 0, 1) := by decide +kernel
theorem d_M_init_94 : decode prog_13_method_1_code 94 = .ok (.sipush 2000, 3) := by decide +kernel
theorem d_M_init_97 : decode prog_13_method_1_code 97 = .ok (.newarray .int, 2) := by decide +kernel
theorem d_M_init_99 : decode prog_13_method_1_code 99 = .ok (.putfield 39, 3) := by decide +kernel
theorem d_M_init_102 : decode prog_13_method_1_code 102 = .ok (.aload_n 0, 1) := by decide +kernel
theorem d_M_init_103 : decode prog_13_method_1_code 103 = .ok (.sipush 2000, 3) := by decide +kernel
theorem d_M_init_106 : decode prog_13_method_1_code 106 = .ok (.newarray .long, 2) := by decide +kernel
theorem d_M_init_108 : decode prog_13_method_1_code 108 = .ok (.putfield 42, 3) := by decide +kernel
theorem d_M_init_111 : decode prog_13_method_1_code 111 = .ok (.aload_n 0, 1) := by decide +kernel
theorem d_M_init_112 : decode prog_13_method_1_code 112 = .ok (.iconst 1, 1) := by decide +kernel
theorem d_M_init_113 : decode prog_13_method_1_code 113 = .ok (.putfield 46, 3) := by decide +kernel
theorem d_M_init_116 : decode prog_13_method_1_code 116 = .ok (.aload_n 0, 1) := by decide +kernel
theorem d_M_init_117 : decode prog_13_method_1_code 117 = .ok (.sipush 16000, 3) := by decide +kernel
theorem d_M_init_120 : decode prog_13_method_1_code 120 = .ok (.newarray .int, 2) := by decide +kernel
theorem d_M_init_122 : decode prog_13_method_1_code 122 = .ok (.putfield 50, 3) := by decide +kernel
theorem d_M_init_125 : decode prog_13_method_1_code 125 = .ok (.aload_n 0, 1) := by decide +kernel
theorem d_M_init_126 : decode prog_13_method_1_code 126 = .ok (.sipush 2000, 3) := by decide +kernel
theorem d_M_init_129 : decode prog_13_method_1_code 129 = .ok (.newarray .int, 2) := by decide +kernel
theorem d_M_init_131 : decode prog_13_method_1_code 131 = .ok (.putfield 53, 3) := by decide +kernel
theorem d_M_init_134 : decode prog_13_method_1_code 134 = .ok (.aload_n 0, 1) := by decide +kernel
theorem d_M_init_135 : decode prog_13_method_1_code 135 = .ok (.sipush 2000, 3) := by decide +kernel
theorem d_M_init_138 : decode prog_13_method_1_code 138 = .ok (.newarray .int, 2) := by decide +kernel
theorem d_M_init_140 : decode prog_13_method_1_code 140 = .ok (.putfield 56, 3) := by decide +kernel
theorem d_M_init_143 : decode prog_13_method_1_code 143 = .ok (.aload_n 0, 1) := by decide +kernel
theorem d_M_init_144 : decode prog_13_method_1_code 144 = .ok (.sipush 2000, 3) := by decide +kernel
theorem d_M_init_147 : decode prog_13_method_1_code 147 = .ok (.newarray .int, 2) := by decide +kernel
theorem d_M_init_149 : decode prog_13_method_1_code 149 = .ok (.putfield 59, 3) := by decide +kernel
theorem d_M_init_152 : decode prog_13_method_1_code 152 = .ok (.aload_n 0, 1) := by decide +kernel
theorem d_M_init_153 : decode prog_13_method_1_code 153 = .ok (.sipush 2000, 3) := by decide +kernel
theorem d_M_init_156 : decode prog_13_method_1_code 156 = .ok (.newarray .int, 2) := by decide +kernel
theorem d_M_init_158 : decode prog_13_method_1_code 158 = .ok (.putfield 62, 3) := by decide +kernel
theorem d_M_init_161 : decode prog_13_method_1_code 161 = .ok (.aload_n 0, 1) := by decide +kernel
theorem d_M_init_162 : decode prog_13_method_1_code 162 = .ok (.sipush 2000, 3) := by decide +kernel
theorem d_M_init_165 : decode prog_13_method_1_code 165 = .ok (.newarray .long, 2) := by decide +kernel
theorem d_M_init_167 : decode prog_13_method_1_code 167 = .ok (.putfield 65, 3) := by decide +kernel
theorem d_M_init_170 : decode prog_13_method_1_code 170 = .ok (.aload_n 0, 1) := by decide +kernel
theorem d_M_init_171 : decode prog_13_method_1_code 171 = .ok (.sipush 16000, 3) := by decide +kernel
theorem d_M_init_174 : decode prog_13_method_1_code 174 = .ok (.newarray .int, 2) := by decide +kernel
theorem d_M_init_176 : decode prog_13_method_1_code 176 = .ok (.putfield 68, 3) := by decide +kernel
theorem d_M_init_179 : decode prog_13_method_1_code 179 = .ok (.aload_n 0, 1) := by decide +kernel
theorem d_M_init_180 : decode prog_13_method_1_code 180 = .ok (.ldc 71, 2) := by decide +kernel
theorem d_M_init_182 : decode prog_13_method_1_code 182 = .ok (.newarray .int, 2) := by decide +kernel
theorem d_M_init_184 : decode prog_13_method_1_code 184 = .ok (.putfield 72, 3) := by decide +kernel
theorem d_M_init_187 : decode prog_13_method_1_code 187 = .ok (.aload_n 0, 1) := by decide +kernel
theorem d_M_init_188 : decode prog_13_method_1_code 188 = .ok (.getfield 30, 3) := by decide +kernel
theorem d_M_init_191 : decode prog_13_method_1_code 191 = .ok (.iconst 0, 1) := by decide +kernel
theorem d_M_init_192 : decode prog_13_method_1_code 192 = .ok (.iconst (-1), 1) := by decide +kernel
theorem d_M_init_193 : decode prog_13_method_1_code 193 = .ok (.iastore, 1) := by decide +kernel
theorem d_M_init_194 : decode prog_13_method_1_code 194 = .ok (.aload_n 0, 1) := by decide +kernel
theorem d_M_init_195 : decode prog_13_method_1_code 195 = .ok (.getfield 33, 3) := by decide +kernel
theorem d_M_init_198 : decode prog_13_method_1_code 198 = .ok (.iconst 0, 1) := by decide +kernel
theorem d_M_init_199 : decode prog_13_method_1_code 199 = .ok (.iconst (-1), 1) := by decide +kernel
theorem d_M_init_200 : decode prog_13_method_1_code 200 = .ok (.iastore, 1) := by decide +kernel
theorem d_M_init_201 : decode prog_13_method_1_code 201 = .ok (.return_, 1) := by decide +kernel
theorem d_M_feed_0 : decode prog_13_method_3_code 0 = .ok (.aload_n 0, 1) := by decide +kernel
theorem d_M_feed_1 : decode prog_13_method_3_code 1 = .ok (.iconst 0, 1) := by decide +kernel
theorem d_M_feed_2 : decode prog_13_method_3_code 2 = .ok (.putfield 75, 3) := by decide +kernel
theorem d_M_feed_5 : decode prog_13_method_3_code 5 = .ok (.aload_n 0, 1) := by decide +kernel
theorem d_M_feed_6 : decode prog_13_method_3_code 6 = .ok (.getfield 78, 3) := by decide +kernel
theorem d_M_feed_9 : decode prog_13_method_3_code 9 = .ok (.bipush 20, 2) := by decide +kernel
theorem d_M_feed_11 : decode prog_13_method_3_code 11 = .ok (.iadd, 1) := by decide +kernel
theorem d_M_feed_12 : decode prog_13_method_3_code 12 = .ok (.sipush 4000, 3) := by decide +kernel
theorem d_M_feed_15 : decode prog_13_method_3_code 15 = .ok (.if_icmp .le 5, 3) := by decide +kernel
theorem d_M_feed_18 : decode prog_13_method_3_code 18 = .ok (.iconst 0, 1) := by decide +kernel
theorem d_M_feed_19 : decode prog_13_method_3_code 19 = .ok (.ireturn, 1) := by decide +kernel
theorem d_M_feed_20 : decode prog_13_method_3_code 20 = .ok (.iconst 0, 1) := by decide +kernel
theorem d_M_feed_21 : decode prog_13_method_3_code 21 = .ok (.istore 6, 2) := by decide +kernel
theorem d_M_feed_23 : decode prog_13_method_3_code 23 = .ok (.iload 6, 2) := by decide +kernel
theorem d_M_feed_25 : decode prog_13_method_3_code 25 = .ok (.bipush 20, 2) := by decide +kernel
theorem d_M_feed_27 : decode prog_13_method_3_code 27 = .ok (.if_icmp .ge 86, 3) := by decide +kernel
theorem d_M_feed_30 : decode prog_13_method_3_code 30 = .ok (.iload 6, 2) := by decide +kernel
theorem d_M_feed_32 : decode prog_13_method_3_code 32 = .ok (.iconst 4, 1) := by decide +kernel
theorem d_M_feed_33 : decode prog_13_method_3_code 33 = .ok (.if_icmp .ge 7, 3) := by decide +kernel
theorem d_M_feed_36 : decode prog_13_method_3_code 36 = .ok (.iload_n 1, 1) := by decide +kernel
theorem d_M_feed_37 : decode prog_13_method_3_code 37 = .ok (.goto 39, 3) := by decide +kernel
theorem d_M_feed_40 : decode prog_13_method_3_code 40 = .ok (.iload 6, 2) := by decide +kernel
theorem d_M_feed_42 : decode prog_13_method_3_code 42 = .ok (.bipush 8, 2) := by decide +kernel
theorem d_M_feed_44 : decode prog_13_method_3_code 44 = .ok (.if_icmp .ge 7, 3) := by decide +kernel
theorem d_M_feed_47 : decode prog_13_method_3_code 47 = .ok (.iload_n 2, 1) := by decide +kernel
theorem d_M_feed_48 : decode prog_13_method_3_code 48 = .ok (.goto 28, 3) := by decide +kernel
theorem d_M_feed_51 : decode prog_13_method_3_code 51 = .ok (.iload 6, 2) := by decide +kernel
theorem d_M_feed_53 : decode prog_13_method_3_code 53 = .ok (.bipush 12, 2) := by decide +kernel
theorem d_M_feed_55 : decode prog_13_method_3_code 55 = .ok (.if_icmp .ge 7, 3) := by decide +kernel
theorem d_M_feed_58 : decode prog_13_method_3_code 58 = .ok (.iload_n 3, 1) := by decide +kernel
theorem d_M_feed_59 : decode prog_13_method_3_code 59 = .ok (.goto 17, 3) := by decide +kernel
theorem d_M_feed_62 : decode prog_13_method_3_code 62 = .ok (.iload 6, 2) := by decide +kernel
theorem d_M_feed_64 : decode prog_13_method_3_code 64 = .ok (.bipush 16, 2) := by decide +kernel
theorem d_M_feed_66 : decode prog_13_method_3_code 66 = .ok (.if_icmp .ge 8, 3) := by decide +kernel
theorem d_M_feed_69 : decode prog_13_method_3_code 69 = .ok (.iload 4, 2) := by decide +kernel
theorem d_M_feed_71 : decode prog_13_method_3_code 71 = .ok (.goto 5, 3) := by decide +kernel
theorem d_M_feed_74 : decode prog_13_method_3_code 74 = .ok (.iload 5, 2) := by decide +kernel
theorem d_M_feed_76 : decode prog_13_method_3_code 76 = .ok (.istore 7, 2) := by decide +kernel
theorem d_M_feed_78 : decode prog_13_method_3_code 78 = .ok (.aload_n 0, 1) := by decide +kernel
theorem d_M_feed_79 : decode prog_13_method_3_code 79 = .ok (.getfield 7, 3) := by decide +kernel
theorem d_M_feed_82 : decode prog_13_method_3_code 82 = .ok (.aload_n 0, 1) := by decide +kernel
theorem d_M_feed_83 : decode prog_13_method_3_code 83 = .ok (.getfield 78, 3) := by decide +kernel
theorem d_M_feed_86 : decode prog_13_method_3_code 86 = .ok (.iload 6, 2) := by decide +kernel
theorem d_M_feed_88 : decode prog_13_method_3_code 88 = .ok (.iadd, 1) := by decide +kernel
theorem d_M_feed_89 : decode prog_13_method_3_code 89 = .ok (.iload 7, 2) := by decide +kernel
theorem d_M_feed_91 : decode prog_13_method_3_code 91 = .ok (.bipush 24, 2) := by decide +kernel
theorem d_M_feed_93 : decode prog_13_method_3_code 93 = .ok (.bipush 8, 2) := by decide +kernel
theorem d_M_feed_95 : decode prog_13_method_3_code 95 = .ok (.iload 6, 2) := by decide +kernel
theorem d_M_feed_97 : decode prog_13_method_3_code 97 = .ok (.iconst 4, 1) := by decide +kernel
theorem d_M_feed_98 : decode prog_13_method_3_code 98 = .ok (.irem, 1) := by decide +kernel
theorem d_M_feed_99 : decode prog_13_method_3_code 99 = .ok (.imul, 1) := by decide +kernel
theorem d_M_feed_100 : decode prog_13_method_3_code 100 = .ok (.isub, 1) := by decide +kernel
theorem d_M_feed_101 : decode prog_13_method_3_code 101 = .ok (.ishr, 1) := by decide +kernel
theorem d_M_feed_102 : decode prog_13_method_3_code 102 = .ok (.sipush 255, 3) := by decide +kernel
theorem d_M_feed_105 : decode prog_13_method_3_code 105 = .ok (.iand, 1) := by decide +kernel
theorem d_M_feed_106 : decode prog_13_method_3_code 106 = .ok (.iastore, 1) := by decide +kernel
theorem d_M_feed_107 : decode prog_13_method_3_code 107 = .ok (.iinc 6 1, 3) := by decide +kernel
theorem d_M_feed_110 : decode prog_13_method_3_code 110 = .ok (.goto (-87), 3) := by decide +kernel
theorem d_M_feed_113 : decode prog_13_method_3_code 113 = .ok (.aload_n 0, 1) := by decide +kernel
theorem d_M_feed_114 : decode prog_13_method_3_code 114 = .ok (.dup, 1) := by decide +kernel
theorem d_M_feed_115 : decode prog_13_method_3_code 115 = .ok (.getfield 78, 3) := by decide +kernel
theorem d_M_feed_118 : decode prog_13_method_3_code 118 = .ok (.bipush 20, 2) := by decide +kernel
theorem d_M_feed_120 : decode prog_13_method_3_code 120 = .ok (.iadd, 1) := by decide +kernel
theorem d_M_feed_121 : decode prog_13_method_3_code 121 = .ok (.putfield 78, 3) := by decide +kernel
theorem d_M_feed_124 : decode prog_13_method_3_code 124 = .ok (.iconst 1, 1) := by decide +kernel
theorem d_M_feed_125 : decode prog_13_method_3_code 125 = .ok (.ireturn, 1) := by decide +kernel
theorem d_M_schema_0 : decode prog_13_method_16_code 0 = .ok (.aload_n 0, 1) := by decide +kernel
theorem d_M_schema_1 : decode prog_13_method_16_code 1 = .ok (.iconst 0, 1) := by decide +kernel
theorem d_M_schema_2 : decode prog_13_method_16_code 2 = .ok (.putfield 75, 3) := by decide +kernel
theorem d_M_schema_5 : decode prog_13_method_16_code 5 = .ok (.aload_n 0, 1) := by decide +kernel
theorem d_M_schema_6 : decode prog_13_method_16_code 6 = .ok (.iload_n 1, 1) := by decide +kernel
theorem d_M_schema_7 : decode prog_13_method_16_code 7 = .ok (.invokevirtual 150, 3) := by decide +kernel
theorem d_M_schema_10 : decode prog_13_method_16_code 10 = .ok (.ifCond .ne 6, 3) := by decide +kernel
theorem d_M_schema_13 : decode prog_13_method_16_code 13 = .ok (.bipush (-2), 2) := by decide +kernel
theorem d_M_schema_15 : decode prog_13_method_16_code 15 = .ok (.ireturn, 1) := by decide +kernel
theorem d_M_schema_16 : decode prog_13_method_16_code 16 = .ok (.aload_n 0, 1) := by decide +kernel
theorem d_M_schema_17 : decode prog_13_method_16_code 17 = .ok (.iconst 0, 1) := by decide +kernel
theorem d_M_schema_18 : decode prog_13_method_16_code 18 = .ok (.putfield 137, 3) := by decide +kernel
theorem d_M_schema_21 : decode prog_13_method_16_code 21 = .ok (.aload_n 0, 1) := by decide +kernel
theorem d_M_schema_22 : decode prog_13_method_16_code 22 = .ok (.iconst 0, 1) := by decide +kernel
theorem d_M_schema_23 : decode prog_13_method_16_code 23 = .ok (.putfield 140, 3) := by decide +kernel
theorem d_M_schema_26 : decode prog_13_method_16_code 26 = .ok (.aload_n 0, 1) := by decide +kernel
theorem d_M_schema_27 : decode prog_13_method_16_code 27 = .ok (.iconst (-1), 1) := by decide +kernel
theorem d_M_schema_28 : decode prog_13_method_16_code 28 = .ok (.iconst 0, 1) := by decide +kernel
theorem d_M_schema_29 : decode prog_13_method_16_code 29 = .ok (.invokevirtual 146, 3) := by decide +kernel
theorem d_M_schema_32 : decode prog_13_method_16_code 32 = .ok (.aload_n 0, 1) := by decide +kernel
theorem d_M_schema_33 : decode prog_13_method_16_code 33 = .ok (.invokevirtual 108, 3) := by decide +kernel
theorem d_M_schema_36 : decode prog_13_method_16_code 36 = .ok (.aload_n 0, 1) := by decide +kernel
theorem d_M_schema_37 : decode prog_13_method_16_code 37 = .ok (.getfield 87, 3) := by decide +kernel
theorem d_M_schema_40 : decode prog_13_method_16_code 40 = .ok (.iconst (-1), 1) := by decide +kernel
theorem d_M_schema_41 : decode prog_13_method_16_code 41 = .ok (.if_icmp .ne 14, 3) := by decide +kernel
theorem d_M_schema_44 : decode prog_13_method_16_code 44 = .ok (.aload_n 0, 1) := by decide +kernel
theorem d_M_schema_45 : decode prog_13_method_16_code 45 = .ok (.getfield 84, 3) := by decide +kernel
theorem d_M_schema_48 : decode prog_13_method_16_code 48 = .ok (.aload_n 0, 1) := by decide +kernel
theorem d_M_schema_49 : decode prog_13_method_16_code 49 = .ok (.getfield 81, 3) := by decide +kernel
theorem d_M_schema_52 : decode prog_13_method_16_code 52 = .ok (.if_icmp .lt (-26), 3) := by decide +kernel
theorem d_M_schema_55 : decode prog_13_method_16_code 55 = .ok (.aload_n 0, 1) := by decide +kernel
theorem d_M_schema_56 : decode prog_13_method_16_code 56 = .ok (.getfield 87, 3) := by decide +kernel
theorem d_M_schema_59 : decode prog_13_method_16_code 59 = .ok (.iconst (-1), 1) := by decide +kernel
theorem d_M_schema_60 : decode prog_13_method_16_code 60 = .ok (.if_icmp .eq 8, 3) := by decide +kernel
theorem d_M_schema_63 : decode prog_13_method_16_code 63 = .ok (.aload_n 0, 1) := by decide +kernel
theorem d_M_schema_64 : decode prog_13_method_16_code 64 = .ok (.getfield 87, 3) := by decide +kernel
theorem d_M_schema_67 : decode prog_13_method_16_code 67 = .ok (.ireturn, 1) := by decide +kernel
theorem d_M_schema_68 : decode prog_13_method_16_code 68 = .ok (.aload_n 0, 1) := by decide +kernel
theorem d_M_schema_69 : decode prog_13_method_16_code 69 = .ok (.aload_n 0, 1) := by decide +kernel
theorem d_M_schema_70 : decode prog_13_method_16_code 70 = .ok (.getfield 137, 3) := by decide +kernel
theorem d_M_schema_73 : decode prog_13_method_16_code 73 = .ok (.putfield 153, 3) := by decide +kernel
theorem d_M_schema_76 : decode prog_13_method_16_code 76 = .ok (.aload_n 0, 1) := by decide +kernel
theorem d_M_schema_77 : decode prog_13_method_16_code 77 = .ok (.aload_n 0, 1) := by decide +kernel
theorem d_M_schema_78 : decode prog_13_method_16_code 78 = .ok (.getfield 140, 3) := by decide +kernel
theorem d_M_schema_81 : decode prog_13_method_16_code 81 = .ok (.putfield 156, 3) := by decide +kernel
theorem d_M_schema_84 : decode prog_13_method_16_code 84 = .ok (.iconst 0, 1) := by decide +kernel
theorem d_M_schema_85 : decode prog_13_method_16_code 85 = .ok (.istore_n 2, 1) := by decide +kernel
theorem d_M_schema_86 : decode prog_13_method_16_code 86 = .ok (.iload_n 2, 1) := by decide +kernel
theorem d_M_schema_87 : decode prog_13_method_16_code 87 = .ok (.bipush 6, 2) := by decide +kernel
theorem d_M_schema_89 : decode prog_13_method_16_code 89 = .ok (.if_icmp .ge 41, 3) := by decide +kernel
theorem d_M_schema_92 : decode prog_13_method_16_code 92 = .ok (.iconst 0, 1) := by decide +kernel
theorem d_M_schema_93 : decode prog_13_method_16_code 93 = .ok (.istore_n 3, 1) := by decide +kernel
theorem d_M_schema_94 : decode prog_13_method_16_code 94 = .ok (.iload_n 3, 1) := by decide +kernel
theorem d_M_schema_95 : decode prog_13_method_16_code 95 = .ok (.aload_n 0, 1) := by decide +kernel
theorem d_M_schema_96 : decode prog_13_method_16_code 96 = .ok (.getfield 153, 3) := by decide +kernel
theorem d_M_schema_99 : decode prog_13_method_16_code 99 = .ok (.if_icmp .ge 25, 3) := by decide +kernel
theorem d_M_schema_102 : decode prog_13_method_16_code 102 = .ok (.aload_n 0, 1) := by decide +kernel
theorem d_M_schema_103 : decode prog_13_method_16_code 103 = .ok (.getfield 18, 3) := by decide +kernel
theorem d_M_schema_106 : decode prog_13_method_16_code 106 = .ok (.iload_n 2, 1) := by decide +kernel
theorem d_M_schema_107 : decode prog_13_method_16_code 107 = .ok (.aaload, 1) := by decide +kernel
theorem d_M_schema_108 : decode prog_13_method_16_code 108 = .ok (.iload_n 3, 1) := by decide +kernel
theorem d_M_schema_109 : decode prog_13_method_16_code 109 = .ok (.aload_n 0, 1) := by decide +kernel
theorem d_M_schema_110 : decode prog_13_method_16_code 110 = .ok (.getfield 21, 3) := by decide +kernel
theorem d_M_schema_113 : decode prog_13_method_16_code 113 = .ok (.iload_n 2, 1) := by decide +kernel
theorem d_M_schema_114 : decode prog_13_method_16_code 114 = .ok (.aaload, 1) := by decide +kernel
theorem d_M_schema_115 : decode prog_13_method_16_code 115 = .ok (.iload_n 3, 1) := by decide +kernel
theorem d_M_schema_116 : decode prog_13_method_16_code 116 = .ok (.iaload, 1) := by decide +kernel
theorem d_M_schema_117 : decode prog_13_method_16_code 117 = .ok (.iastore, 1) := by decide +kernel
theorem d_M_schema_118 : decode prog_13_method_16_code 118 = .ok (.iinc 3 1, 3) := by decide +kernel
theorem d_M_schema_121 : decode prog_13_method_16_code 121 = .ok (.goto (-27), 3) := by decide +kernel
theorem d_M_schema_124 : decode prog_13_method_16_code 124 = .ok (.iinc 2 1, 3) := by decide +kernel
theorem d_M_schema_127 : decode prog_13_method_16_code 127 = .ok (.goto (-41), 3) := by decide +kernel
theorem d_M_schema_130 : decode prog_13_method_16_code 130 = .ok (.iconst 0, 1) := by decide +kernel
theorem d_M_schema_131 : decode prog_13_method_16_code 131 = .ok (.istore_n 2, 1) := by decide +kernel
theorem d_M_schema_132 : decode prog_13_method_16_code 132 = .ok (.iload_n 2, 1) := by decide +kernel
theorem d_M_schema_133 : decode prog_13_method_16_code 133 = .ok (.aload_n 0, 1) := by decide +kernel
theorem d_M_schema_134 : decode prog_13_method_16_code 134 = .ok (.getfield 24, 3) := by decide +kernel
theorem d_M_schema_137 : decode prog_13_method_16_code 137 = .ok (.arraylength, 1) := by decide +kernel
theorem d_M_schema_138 : decode prog_13_method_16_code 138 = .ok (.if_icmp .ge 21, 3) := by decide +kernel
theorem d_M_schema_141 : decode prog_13_method_16_code 141 = .ok (.aload_n 0, 1) := by decide +kernel
theorem d_M_schema_142 : decode prog_13_method_16_code 142 = .ok (.getfield 24, 3) := by decide +kernel
theorem d_M_schema_145 : decode prog_13_method_16_code 145 = .ok (.iload_n 2, 1) := by decide +kernel
theorem d_M_schema_146 : decode prog_13_method_16_code 146 = .ok (.aload_n 0, 1) := by decide +kernel
theorem d_M_schema_147 : decode prog_13_method_16_code 147 = .ok (.getfield 27, 3) := by decide +kernel
theorem d_M_schema_150 : decode prog_13_method_16_code 150 = .ok (.iload_n 2, 1) := by decide +kernel
theorem d_M_schema_151 : decode prog_13_method_16_code 151 = .ok (.iaload, 1) := by decide +kernel
theorem d_M_schema_152 : decode prog_13_method_16_code 152 = .ok (.iastore, 1) := by decide +kernel
theorem d_M_schema_153 : decode prog_13_method_16_code 153 = .ok (.iinc 2 1, 3) := by decide +kernel
theorem d_M_schema_156 : decode prog_13_method_16_code 156 = .ok (.goto (-24), 3) := by decide +kernel
theorem d_M_schema_159 : decode prog_13_method_16_code 159 = .ok (.aload_n 0, 1) := by decide +kernel
theorem d_M_schema_160 : decode prog_13_method_16_code 160 = .ok (.invokevirtual 159, 3) := by decide +kernel
theorem d_M_schema_163 : decode prog_13_method_16_code 163 = .ok (.iconst (-1), 1) := by decide +kernel
theorem d_M_schema_164 : decode prog_13_method_16_code 164 = .ok (.ireturn, 1) := by decide +kernel
theorem d_M_takes_0 : decode prog_13_method_4_code 0 = .ok (.iload_n 1, 1) := by decide +kernel
theorem d_M_takes_1 : decode prog_13_method_4_code 1 = .ok (.ifCond .lt 11, 3) := by decide +kernel
theorem d_M_takes_4 : decode prog_13_method_4_code 4 = .ok (.iload_n 1, 1) := by decide +kernel
theorem d_M_takes_5 : decode prog_13_method_4_code 5 = .ok (.aload_n 0, 1) := by decide +kernel
theorem d_M_takes_6 : decode prog_13_method_4_code 6 = .ok (.getfield 78, 3) := by decide +kernel
theorem d_M_takes_9 : decode prog_13_method_4_code 9 = .ok (.if_icmp .le 5, 3) := by decide +kernel
theorem d_M_takes_12 : decode prog_13_method_4_code 12 = .ok (.iconst 0, 1) := by decide +kernel
theorem d_M_takes_13 : decode prog_13_method_4_code 13 = .ok (.ireturn, 1) := by decide +kernel
theorem d_M_takes_14 : decode prog_13_method_4_code 14 = .ok (.iconst 0, 1) := by decide +kernel
theorem d_M_takes_15 : decode prog_13_method_4_code 15 = .ok (.istore_n 2, 1) := by decide +kernel
theorem d_M_takes_16 : decode prog_13_method_4_code 16 = .ok (.iload_n 2, 1) := by decide +kernel
theorem d_M_takes_17 : decode prog_13_method_4_code 17 = .ok (.iload_n 1, 1) := by decide +kernel
theorem d_M_takes_18 : decode prog_13_method_4_code 18 = .ok (.if_icmp .ge 21, 3) := by decide +kernel
theorem d_M_takes_21 : decode prog_13_method_4_code 21 = .ok (.aload_n 0, 1) := by decide +kernel
theorem d_M_takes_22 : decode prog_13_method_4_code 22 = .ok (.getfield 13, 3) := by decide +kernel
theorem d_M_takes_25 : decode prog_13_method_4_code 25 = .ok (.iload_n 2, 1) := by decide +kernel
theorem d_M_takes_26 : decode prog_13_method_4_code 26 = .ok (.aload_n 0, 1) := by decide +kernel
theorem d_M_takes_27 : decode prog_13_method_4_code 27 = .ok (.getfield 7, 3) := by decide +kernel
theorem d_M_takes_30 : decode prog_13_method_4_code 30 = .ok (.iload_n 2, 1) := by decide +kernel
theorem d_M_takes_31 : decode prog_13_method_4_code 31 = .ok (.iaload, 1) := by decide +kernel
theorem d_M_takes_32 : decode prog_13_method_4_code 32 = .ok (.iastore, 1) := by decide +kernel
theorem d_M_takes_33 : decode prog_13_method_4_code 33 = .ok (.iinc 2 1, 3) := by decide +kernel
theorem d_M_takes_36 : decode prog_13_method_4_code 36 = .ok (.goto (-20), 3) := by decide +kernel
theorem d_M_takes_39 : decode prog_13_method_4_code 39 = .ok (.aload_n 0, 1) := by decide +kernel
theorem d_M_takes_40 : decode prog_13_method_4_code 40 = .ok (.iload_n 1, 1) := by decide +kernel
theorem d_M_takes_41 : decode prog_13_method_4_code 41 = .ok (.putfield 81, 3) := by decide +kernel
theorem d_M_takes_44 : decode prog_13_method_4_code 44 = .ok (.aload_n 0, 1) := by decide +kernel
theorem d_M_takes_45 : decode prog_13_method_4_code 45 = .ok (.iconst 0, 1) := by decide +kernel
theorem d_M_takes_46 : decode prog_13_method_4_code 46 = .ok (.putfield 78, 3) := by decide +kernel
theorem d_M_takes_49 : decode prog_13_method_4_code 49 = .ok (.aload_n 0, 1) := by decide +kernel
theorem d_M_takes_50 : decode prog_13_method_4_code 50 = .ok (.iconst 0, 1) := by decide +kernel
theorem d_M_takes_51 : decode prog_13_method_4_code 51 = .ok (.putfield 84, 3) := by decide +kernel
theorem d_M_takes_54 : decode prog_13_method_4_code 54 = .ok (.aload_n 0, 1) := by decide +kernel
theorem d_M_takes_55 : decode prog_13_method_4_code 55 = .ok (.iconst (-1), 1) := by decide +kernel
theorem d_M_takes_56 : decode prog_13_method_4_code 56 = .ok (.putfield 87, 3) := by decide +kernel
theorem d_M_takes_59 : decode prog_13_method_4_code 59 = .ok (.iconst 1, 1) := by decide +kernel
theorem d_M_takes_60 : decode prog_13_method_4_code 60 = .ok (.ireturn, 1) := by decide +kernel
theorem d_M_readField_0 : decode prog_13_method_15_code 0 = .ok (.aload_n 0, 1) := by decide +kernel
theorem d_M_readField_1 : decode prog_13_method_15_code 1 = .ok (.invokevirtual 108, 3) := by decide +kernel
theorem d_M_readField_4 : decode prog_13_method_15_code 4 = .ok (.aload_n 0, 1) := by decide +kernel
theorem d_M_readField_5 : decode prog_13_method_15_code 5 = .ok (.ldc2_w 118, 3) := by decide +kernel
theorem d_M_readField_8 : decode prog_13_method_15_code 8 = .ok (.invokevirtual 120, 3) := by decide +kernel
theorem d_M_readField_11 : decode prog_13_method_15_code 11 = .ok (.ifCond .eq 7, 3) := by decide +kernel
theorem d_M_readField_14 : decode prog_13_method_15_code 14 = .ok (.iconst 0, 1) := by decide +kernel
theorem d_M_readField_15 : decode prog_13_method_15_code 15 = .ok (.goto 32, 3) := by decide +kernel
theorem d_M_readField_18 : decode prog_13_method_15_code 18 = .ok (.aload_n 0, 1) := by decide +kernel
theorem d_M_readField_19 : decode prog_13_method_15_code 19 = .ok (.ldc2_w 123, 3) := by decide +kernel
theorem d_M_readField_22 : decode prog_13_method_15_code 22 = .ok (.invokevirtual 120, 3) := by decide +kernel
theorem d_M_readField_25 : decode prog_13_method_15_code 25 = .ok (.ifCond .eq 7, 3) := by decide +kernel
theorem d_M_readField_28 : decode prog_13_method_15_code 28 = .ok (.iconst 1, 1) := by decide +kernel
theorem d_M_readField_29 : decode prog_13_method_15_code 29 = .ok (.goto 18, 3) := by decide +kernel
theorem d_M_readField_32 : decode prog_13_method_15_code 32 = .ok (.aload_n 0, 1) := by decide +kernel
theorem d_M_readField_33 : decode prog_13_method_15_code 33 = .ok (.ldc2_w 125, 3) := by decide +kernel
theorem d_M_readField_36 : decode prog_13_method_15_code 36 = .ok (.invokevirtual 120, 3) := by decide +kernel
theorem d_M_readField_39 : decode prog_13_method_15_code 39 = .ok (.ifCond .eq 7, 3) := by decide +kernel
theorem d_M_readField_42 : decode prog_13_method_15_code 42 = .ok (.iconst 2, 1) := by decide +kernel
theorem d_M_readField_43 : decode prog_13_method_15_code 43 = .ok (.goto 4, 3) := by decide +kernel
theorem d_M_readField_46 : decode prog_13_method_15_code 46 = .ok (.iconst (-1), 1) := by decide +kernel
theorem d_M_readField_47 : decode prog_13_method_15_code 47 = .ok (.istore_n 3, 1) := by decide +kernel
theorem d_M_readField_48 : decode prog_13_method_15_code 48 = .ok (.iload_n 3, 1) := by decide +kernel
theorem d_M_readField_49 : decode prog_13_method_15_code 49 = .ok (.iconst (-1), 1) := by decide +kernel
theorem d_M_readField_50 : decode prog_13_method_15_code 50 = .ok (.if_icmp .ne 11, 3) := by decide +kernel
theorem d_M_readField_53 : decode prog_13_method_15_code 53 = .ok (.aload_n 0, 1) := by decide +kernel
theorem d_M_readField_54 : decode prog_13_method_15_code 54 = .ok (.aload_n 0, 1) := by decide +kernel
theorem d_M_readField_55 : decode prog_13_method_15_code 55 = .ok (.getfield 84, 3) := by decide +kernel
theorem d_M_readField_58 : decode prog_13_method_15_code 58 = .ok (.invokevirtual 114, 3) := by decide +kernel
theorem d_M_readField_61 : decode prog_13_method_15_code 61 = .ok (.aload_n 0, 1) := by decide +kernel
theorem d_M_readField_62 : decode prog_13_method_15_code 62 = .ok (.invokevirtual 108, 3) := by decide +kernel
theorem d_M_readField_65 : decode prog_13_method_15_code 65 = .ok (.aload_n 0, 1) := by decide +kernel
theorem d_M_readField_66 : decode prog_13_method_15_code 66 = .ok (.ldc2_w 127, 3) := by decide +kernel
theorem d_M_readField_69 : decode prog_13_method_15_code 69 = .ok (.invokevirtual 120, 3) := by decide +kernel
theorem d_M_readField_72 : decode prog_13_method_15_code 72 = .ok (.ifCond .eq 7, 3) := by decide +kernel
theorem d_M_readField_75 : decode prog_13_method_15_code 75 = .ok (.iconst 0, 1) := by decide +kernel
theorem d_M_readField_76 : decode prog_13_method_15_code 76 = .ok (.goto 60, 3) := by decide +kernel
theorem d_M_readField_79 : decode prog_13_method_15_code 79 = .ok (.aload_n 0, 1) := by decide +kernel
theorem d_M_readField_80 : decode prog_13_method_15_code 80 = .ok (.ldc2_w 129, 3) := by decide +kernel
theorem d_M_readField_83 : decode prog_13_method_15_code 83 = .ok (.invokevirtual 120, 3) := by decide +kernel
theorem d_M_readField_86 : decode prog_13_method_15_code 86 = .ok (.ifCond .eq 7, 3) := by decide +kernel
theorem d_M_readField_89 : decode prog_13_method_15_code 89 = .ok (.iconst 1, 1) := by decide +kernel
theorem d_M_readField_90 : decode prog_13_method_15_code 90 = .ok (.goto 46, 3) := by decide +kernel
theorem d_M_readField_93 : decode prog_13_method_15_code 93 = .ok (.aload_n 0, 1) := by decide +kernel
theorem d_M_readField_94 : decode prog_13_method_15_code 94 = .ok (.ldc2_w 131, 3) := by decide +kernel
theorem d_M_readField_97 : decode prog_13_method_15_code 97 = .ok (.invokevirtual 120, 3) := by decide +kernel
theorem d_M_readField_100 : decode prog_13_method_15_code 100 = .ok (.ifCond .eq 7, 3) := by decide +kernel
theorem d_M_readField_103 : decode prog_13_method_15_code 103 = .ok (.iconst 2, 1) := by decide +kernel
theorem d_M_readField_104 : decode prog_13_method_15_code 104 = .ok (.goto 32, 3) := by decide +kernel
theorem d_M_readField_107 : decode prog_13_method_15_code 107 = .ok (.aload_n 0, 1) := by decide +kernel
theorem d_M_readField_108 : decode prog_13_method_15_code 108 = .ok (.ldc2_w 133, 3) := by decide +kernel
theorem d_M_readField_111 : decode prog_13_method_15_code 111 = .ok (.invokevirtual 120, 3) := by decide +kernel
theorem d_M_readField_114 : decode prog_13_method_15_code 114 = .ok (.ifCond .eq 7, 3) := by decide +kernel
theorem d_M_readField_117 : decode prog_13_method_15_code 117 = .ok (.iconst 3, 1) := by decide +kernel
theorem d_M_readField_118 : decode prog_13_method_15_code 118 = .ok (.goto 18, 3) := by decide +kernel
theorem d_M_readField_121 : decode prog_13_method_15_code 121 = .ok (.aload_n 0, 1) := by decide +kernel
theorem d_M_readField_122 : decode prog_13_method_15_code 122 = .ok (.ldc2_w 135, 3) := by decide +kernel
theorem d_M_readField_125 : decode prog_13_method_15_code 125 = .ok (.invokevirtual 120, 3) := by decide +kernel
theorem d_M_readField_128 : decode prog_13_method_15_code 128 = .ok (.ifCond .eq 7, 3) := by decide +kernel
theorem d_M_readField_131 : decode prog_13_method_15_code 131 = .ok (.iconst 4, 1) := by decide +kernel
theorem d_M_readField_132 : decode prog_13_method_15_code 132 = .ok (.goto 4, 3) := by decide +kernel
theorem d_M_readField_135 : decode prog_13_method_15_code 135 = .ok (.iconst (-1), 1) := by decide +kernel
theorem d_M_readField_136 : decode prog_13_method_15_code 136 = .ok (.istore 4, 2) := by decide +kernel
theorem d_M_readField_138 : decode prog_13_method_15_code 138 = .ok (.iload 4, 2) := by decide +kernel
theorem d_M_readField_140 : decode prog_13_method_15_code 140 = .ok (.iconst (-1), 1) := by decide +kernel
theorem d_M_readField_141 : decode prog_13_method_15_code 141 = .ok (.if_icmp .ne 11, 3) := by decide +kernel
theorem d_M_readField_144 : decode prog_13_method_15_code 144 = .ok (.aload_n 0, 1) := by decide +kernel
theorem d_M_readField_145 : decode prog_13_method_15_code 145 = .ok (.aload_n 0, 1) := by decide +kernel
theorem d_M_readField_146 : decode prog_13_method_15_code 146 = .ok (.getfield 84, 3) := by decide +kernel
theorem d_M_readField_149 : decode prog_13_method_15_code 149 = .ok (.invokevirtual 114, 3) := by decide +kernel
theorem d_M_readField_152 : decode prog_13_method_15_code 152 = .ok (.aload_n 0, 1) := by decide +kernel
theorem d_M_readField_153 : decode prog_13_method_15_code 153 = .ok (.invokevirtual 108, 3) := by decide +kernel
theorem d_M_readField_156 : decode prog_13_method_15_code 156 = .ok (.aload_n 0, 1) := by decide +kernel
theorem d_M_readField_157 : decode prog_13_method_15_code 157 = .ok (.invokevirtual 101, 3) := by decide +kernel
theorem d_M_readField_160 : decode prog_13_method_15_code 160 = .ok (.istore 5, 2) := by decide +kernel
theorem d_M_readField_162 : decode prog_13_method_15_code 162 = .ok (.iload 5, 2) := by decide +kernel
theorem d_M_readField_164 : decode prog_13_method_15_code 164 = .ok (.ifCond .le 48, 3) := by decide +kernel
theorem d_M_readField_167 : decode prog_13_method_15_code 167 = .ok (.iload 5, 2) := by decide +kernel
theorem d_M_readField_169 : decode prog_13_method_15_code 169 = .ok (.bipush 16, 2) := by decide +kernel
theorem d_M_readField_171 : decode prog_13_method_15_code 171 = .ok (.if_icmp .gt 41, 3) := by decide +kernel
theorem d_M_readField_174 : decode prog_13_method_15_code 174 = .ok (.aload_n 0, 1) := by decide +kernel
theorem d_M_readField_175 : decode prog_13_method_15_code 175 = .ok (.getfield 137, 3) := by decide +kernel
theorem d_M_readField_178 : decode prog_13_method_15_code 178 = .ok (.sipush 128, 3) := by decide +kernel
theorem d_M_readField_181 : decode prog_13_method_15_code 181 = .ok (.if_icmp .ge 31, 3) := by decide +kernel
theorem d_M_readField_184 : decode prog_13_method_15_code 184 = .ok (.iload 4, 2) := by decide +kernel
theorem d_M_readField_186 : decode prog_13_method_15_code 186 = .ok (.iconst 4, 1) := by decide +kernel
theorem d_M_readField_187 : decode prog_13_method_15_code 187 = .ok (.if_icmp .ne 12, 3) := by decide +kernel
theorem d_M_readField_190 : decode prog_13_method_15_code 190 = .ok (.iload_n 2, 1) := by decide +kernel
theorem d_M_readField_191 : decode prog_13_method_15_code 191 = .ok (.bipush 16, 2) := by decide +kernel
theorem d_M_readField_193 : decode prog_13_method_15_code 193 = .ok (.if_icmp .ge 19, 3) := by decide +kernel
theorem d_M_readField_196 : decode prog_13_method_15_code 196 = .ok (.goto 12, 3) := by decide +kernel
theorem d_M_readField_199 : decode prog_13_method_15_code 199 = .ok (.aload_n 0, 1) := by decide +kernel
theorem d_M_readField_200 : decode prog_13_method_15_code 200 = .ok (.getfield 140, 3) := by decide +kernel
theorem d_M_readField_203 : decode prog_13_method_15_code 203 = .ok (.bipush 64, 2) := by decide +kernel
theorem d_M_readField_205 : decode prog_13_method_15_code 205 = .ok (.if_icmp .ge 7, 3) := by decide +kernel
theorem d_M_readField_208 : decode prog_13_method_15_code 208 = .ok (.iconst 1, 1) := by decide +kernel
theorem d_M_readField_209 : decode prog_13_method_15_code 209 = .ok (.goto 4, 3) := by decide +kernel
theorem d_M_readField_212 : decode prog_13_method_15_code 212 = .ok (.iconst 0, 1) := by decide +kernel
theorem d_M_readField_213 : decode prog_13_method_15_code 213 = .ok (.istore 6, 2) := by decide +kernel
theorem d_M_readField_215 : decode prog_13_method_15_code 215 = .ok (.iconst 0, 1) := by decide +kernel
theorem d_M_readField_216 : decode prog_13_method_15_code 216 = .ok (.istore 7, 2) := by decide +kernel
theorem d_M_readField_218 : decode prog_13_method_15_code 218 = .ok (.iload 7, 2) := by decide +kernel
theorem d_M_readField_220 : decode prog_13_method_15_code 220 = .ok (.aload_n 0, 1) := by decide +kernel
theorem d_M_readField_221 : decode prog_13_method_15_code 221 = .ok (.getfield 137, 3) := by decide +kernel
theorem d_M_readField_224 : decode prog_13_method_15_code 224 = .ok (.if_icmp .ge 116, 3) := by decide +kernel
theorem d_M_readField_227 : decode prog_13_method_15_code 227 = .ok (.aload_n 0, 1) := by decide +kernel
theorem d_M_readField_228 : decode prog_13_method_15_code 228 = .ok (.getfield 21, 3) := by decide +kernel
theorem d_M_readField_231 : decode prog_13_method_15_code 231 = .ok (.iconst 2, 1) := by decide +kernel
theorem d_M_readField_232 : decode prog_13_method_15_code 232 = .ok (.aaload, 1) := by decide +kernel
theorem d_M_readField_233 : decode prog_13_method_15_code 233 = .ok (.iload 7, 2) := by decide +kernel
theorem d_M_readField_235 : decode prog_13_method_15_code 235 = .ok (.iaload, 1) := by decide +kernel
theorem d_M_readField_236 : decode prog_13_method_15_code 236 = .ok (.iload_n 1, 1) := by decide +kernel
theorem d_M_readField_237 : decode prog_13_method_15_code 237 = .ok (.if_icmp .ne 21, 3) := by decide +kernel
theorem d_M_readField_240 : decode prog_13_method_15_code 240 = .ok (.aload_n 0, 1) := by decide +kernel
theorem d_M_readField_241 : decode prog_13_method_15_code 241 = .ok (.getfield 21, 3) := by decide +kernel
theorem d_M_readField_244 : decode prog_13_method_15_code 244 = .ok (.iconst 4, 1) := by decide +kernel
theorem d_M_readField_245 : decode prog_13_method_15_code 245 = .ok (.aaload, 1) := by decide +kernel
theorem d_M_readField_246 : decode prog_13_method_15_code 246 = .ok (.iload 7, 2) := by decide +kernel
theorem d_M_readField_248 : decode prog_13_method_15_code 248 = .ok (.iaload, 1) := by decide +kernel
theorem d_M_readField_249 : decode prog_13_method_15_code 249 = .ok (.iload 5, 2) := by decide +kernel
theorem d_M_readField_251 : decode prog_13_method_15_code 251 = .ok (.if_icmp .ne 7, 3) := by decide +kernel
theorem d_M_readField_254 : decode prog_13_method_15_code 254 = .ok (.iconst 1, 1) := by decide +kernel
theorem d_M_readField_255 : decode prog_13_method_15_code 255 = .ok (.goto 4, 3) := by decide +kernel
theorem d_M_readField_258 : decode prog_13_method_15_code 258 = .ok (.iconst 0, 1) := by decide +kernel
theorem d_M_readField_259 : decode prog_13_method_15_code 259 = .ok (.istore 8, 2) := by decide +kernel
theorem d_M_readField_261 : decode prog_13_method_15_code 261 = .ok (.iconst 0, 1) := by decide +kernel
theorem d_M_readField_262 : decode prog_13_method_15_code 262 = .ok (.istore 9, 2) := by decide +kernel
theorem d_M_readField_264 : decode prog_13_method_15_code 264 = .ok (.iload 8, 2) := by decide +kernel
theorem d_M_readField_266 : decode prog_13_method_15_code 266 = .ok (.ifCond .eq 51, 3) := by decide +kernel
theorem d_M_readField_269 : decode prog_13_method_15_code 269 = .ok (.iload 9, 2) := by decide +kernel
theorem d_M_readField_271 : decode prog_13_method_15_code 271 = .ok (.iload 5, 2) := by decide +kernel
theorem d_M_readField_273 : decode prog_13_method_15_code 273 = .ok (.if_icmp .ge 44, 3) := by decide +kernel
theorem d_M_readField_276 : decode prog_13_method_15_code 276 = .ok (.aload_n 0, 1) := by decide +kernel
theorem d_M_readField_277 : decode prog_13_method_15_code 277 = .ok (.getfield 27, 3) := by decide +kernel
theorem d_M_readField_280 : decode prog_13_method_15_code 280 = .ok (.bipush 16, 2) := by decide +kernel
theorem d_M_readField_282 : decode prog_13_method_15_code 282 = .ok (.iload 7, 2) := by decide +kernel
theorem d_M_readField_284 : decode prog_13_method_15_code 284 = .ok (.imul, 1) := by decide +kernel
theorem d_M_readField_285 : decode prog_13_method_15_code 285 = .ok (.iload 9, 2) := by decide +kernel
theorem d_M_readField_287 : decode prog_13_method_15_code 287 = .ok (.iadd, 1) := by decide +kernel
theorem d_M_readField_288 : decode prog_13_method_15_code 288 = .ok (.iaload, 1) := by decide +kernel
theorem d_M_readField_289 : decode prog_13_method_15_code 289 = .ok (.aload_n 0, 1) := by decide +kernel
theorem d_M_readField_290 : decode prog_13_method_15_code 290 = .ok (.getfield 13, 3) := by decide +kernel
theorem d_M_readField_293 : decode prog_13_method_15_code 293 = .ok (.aload_n 0, 1) := by decide +kernel
theorem d_M_readField_294 : decode prog_13_method_15_code 294 = .ok (.getfield 84, 3) := by decide +kernel
theorem d_M_readField_297 : decode prog_13_method_15_code 297 = .ok (.iload 9, 2) := by decide +kernel
theorem d_M_readField_299 : decode prog_13_method_15_code 299 = .ok (.iadd, 1) := by decide +kernel
theorem d_M_readField_300 : decode prog_13_method_15_code 300 = .ok (.iaload, 1) := by decide +kernel
theorem d_M_readField_301 : decode prog_13_method_15_code 301 = .ok (.if_icmp .ne 7, 3) := by decide +kernel
theorem d_M_readField_304 : decode prog_13_method_15_code 304 = .ok (.iconst 1, 1) := by decide +kernel
theorem d_M_readField_305 : decode prog_13_method_15_code 305 = .ok (.goto 4, 3) := by decide +kernel
theorem d_M_readField_308 : decode prog_13_method_15_code 308 = .ok (.iconst 0, 1) := by decide +kernel
theorem d_M_readField_309 : decode prog_13_method_15_code 309 = .ok (.istore 8, 2) := by decide +kernel
theorem d_M_readField_311 : decode prog_13_method_15_code 311 = .ok (.iinc 9 1, 3) := by decide +kernel
theorem d_M_readField_314 : decode prog_13_method_15_code 314 = .ok (.goto (-50), 3) := by decide +kernel
theorem d_M_readField_317 : decode prog_13_method_15_code 317 = .ok (.iload 6, 2) := by decide +kernel
theorem d_M_readField_319 : decode prog_13_method_15_code 319 = .ok (.ifCond .eq 12, 3) := by decide +kernel
theorem d_M_readField_322 : decode prog_13_method_15_code 322 = .ok (.iload 8, 2) := by decide +kernel
theorem d_M_readField_324 : decode prog_13_method_15_code 324 = .ok (.ifCond .ne 7, 3) := by decide +kernel
theorem d_M_readField_327 : decode prog_13_method_15_code 327 = .ok (.iconst 1, 1) := by decide +kernel
theorem d_M_readField_328 : decode prog_13_method_15_code 328 = .ok (.goto 4, 3) := by decide +kernel
theorem d_M_readField_331 : decode prog_13_method_15_code 331 = .ok (.iconst 0, 1) := by decide +kernel
theorem d_M_readField_332 : decode prog_13_method_15_code 332 = .ok (.istore 6, 2) := by decide +kernel
theorem d_M_readField_334 : decode prog_13_method_15_code 334 = .ok (.iinc 7 1, 3) := by decide +kernel
theorem d_M_readField_337 : decode prog_13_method_15_code 337 = .ok (.goto (-119), 3) := by decide +kernel
theorem d_M_readField_340 : decode prog_13_method_15_code 340 = .ok (.iload 6, 2) := by decide +kernel
theorem d_M_readField_342 : decode prog_13_method_15_code 342 = .ok (.ifCond .ne 11, 3) := by decide +kernel
theorem d_M_readField_345 : decode prog_13_method_15_code 345 = .ok (.aload_n 0, 1) := by decide +kernel
theorem d_M_readField_346 : decode prog_13_method_15_code 346 = .ok (.aload_n 0, 1) := by decide +kernel
theorem d_M_readField_347 : decode prog_13_method_15_code 347 = .ok (.getfield 84, 3) := by decide +kernel
theorem d_M_readField_350 : decode prog_13_method_15_code 350 = .ok (.invokevirtual 114, 3) := by decide +kernel
theorem d_M_readField_353 : decode prog_13_method_15_code 353 = .ok (.aload_n 0, 1) := by decide +kernel
theorem d_M_readField_354 : decode prog_13_method_15_code 354 = .ok (.getfield 87, 3) := by decide +kernel
theorem d_M_readField_357 : decode prog_13_method_15_code 357 = .ok (.iconst (-1), 1) := by decide +kernel
theorem d_M_readField_358 : decode prog_13_method_15_code 358 = .ok (.if_icmp .eq 4, 3) := by decide +kernel
theorem d_M_readField_361 : decode prog_13_method_15_code 361 = .ok (.return_, 1) := by decide +kernel
theorem d_M_readField_362 : decode prog_13_method_15_code 362 = .ok (.aload_n 0, 1) := by decide +kernel
theorem d_M_readField_363 : decode prog_13_method_15_code 363 = .ok (.getfield 137, 3) := by decide +kernel
theorem d_M_readField_366 : decode prog_13_method_15_code 366 = .ok (.istore 7, 2) := by decide +kernel
theorem d_M_readField_368 : decode prog_13_method_15_code 368 = .ok (.iconst 0, 1) := by decide +kernel
theorem d_M_readField_369 : decode prog_13_method_15_code 369 = .ok (.istore 8, 2) := by decide +kernel
theorem d_M_readField_371 : decode prog_13_method_15_code 371 = .ok (.iload 8, 2) := by decide +kernel
theorem d_M_readField_373 : decode prog_13_method_15_code 373 = .ok (.iload 5, 2) := by decide +kernel
theorem d_M_readField_375 : decode prog_13_method_15_code 375 = .ok (.if_icmp .ge 34, 3) := by decide +kernel
theorem d_M_readField_378 : decode prog_13_method_15_code 378 = .ok (.aload_n 0, 1) := by decide +kernel
theorem d_M_readField_379 : decode prog_13_method_15_code 379 = .ok (.getfield 27, 3) := by decide +kernel
theorem d_M_readField_382 : decode prog_13_method_15_code 382 = .ok (.bipush 16, 2) := by decide +kernel
theorem d_M_readField_384 : decode prog_13_method_15_code 384 = .ok (.iload 7, 2) := by decide +kernel
theorem d_M_readField_386 : decode prog_13_method_15_code 386 = .ok (.imul, 1) := by decide +kernel
theorem d_M_readField_387 : decode prog_13_method_15_code 387 = .ok (.iload 8, 2) := by decide +kernel
theorem d_M_readField_389 : decode prog_13_method_15_code 389 = .ok (.iadd, 1) := by decide +kernel
theorem d_M_readField_390 : decode prog_13_method_15_code 390 = .ok (.aload_n 0, 1) := by decide +kernel
theorem d_M_readField_391 : decode prog_13_method_15_code 391 = .ok (.getfield 13, 3) := by decide +kernel
theorem d_M_readField_394 : decode prog_13_method_15_code 394 = .ok (.aload_n 0, 1) := by decide +kernel
theorem d_M_readField_395 : decode prog_13_method_15_code 395 = .ok (.getfield 84, 3) := by decide +kernel
theorem d_M_readField_398 : decode prog_13_method_15_code 398 = .ok (.iload 8, 2) := by decide +kernel
theorem d_M_readField_400 : decode prog_13_method_15_code 400 = .ok (.iadd, 1) := by decide +kernel
theorem d_M_readField_401 : decode prog_13_method_15_code 401 = .ok (.iaload, 1) := by decide +kernel
theorem d_M_readField_402 : decode prog_13_method_15_code 402 = .ok (.iastore, 1) := by decide +kernel
theorem d_M_readField_403 : decode prog_13_method_15_code 403 = .ok (.iinc 8 1, 3) := by decide +kernel
theorem d_M_readField_406 : decode prog_13_method_15_code 406 = .ok (.goto (-35), 3) := by decide +kernel
theorem d_M_readField_409 : decode prog_13_method_15_code 409 = .ok (.aload_n 0, 1) := by decide +kernel
theorem d_M_readField_410 : decode prog_13_method_15_code 410 = .ok (.dup, 1) := by decide +kernel
theorem d_M_readField_411 : decode prog_13_method_15_code 411 = .ok (.getfield 84, 3) := by decide +kernel
theorem d_M_readField_414 : decode prog_13_method_15_code 414 = .ok (.iload 5, 2) := by decide +kernel
theorem d_M_readField_416 : decode prog_13_method_15_code 416 = .ok (.iadd, 1) := by decide +kernel
theorem d_M_readField_417 : decode prog_13_method_15_code 417 = .ok (.putfield 84, 3) := by decide +kernel
theorem d_M_readField_420 : decode prog_13_method_15_code 420 = .ok (.aload_n 0, 1) := by decide +kernel
theorem d_M_readField_421 : decode prog_13_method_15_code 421 = .ok (.getfield 21, 3) := by decide +kernel
theorem d_M_readField_424 : decode prog_13_method_15_code 424 = .ok (.iconst 0, 1) := by decide +kernel
theorem d_M_readField_425 : decode prog_13_method_15_code 425 = .ok (.aaload, 1) := by decide +kernel
theorem d_M_readField_426 : decode prog_13_method_15_code 426 = .ok (.iload 7, 2) := by decide +kernel
theorem d_M_readField_428 : decode prog_13_method_15_code 428 = .ok (.iload_n 3, 1) := by decide +kernel
theorem d_M_readField_429 : decode prog_13_method_15_code 429 = .ok (.iastore, 1) := by decide +kernel
theorem d_M_readField_430 : decode prog_13_method_15_code 430 = .ok (.aload_n 0, 1) := by decide +kernel
theorem d_M_readField_431 : decode prog_13_method_15_code 431 = .ok (.getfield 21, 3) := by decide +kernel
theorem d_M_readField_434 : decode prog_13_method_15_code 434 = .ok (.iconst 1, 1) := by decide +kernel
theorem d_M_readField_435 : decode prog_13_method_15_code 435 = .ok (.aaload, 1) := by decide +kernel
theorem d_M_readField_436 : decode prog_13_method_15_code 436 = .ok (.iload 7, 2) := by decide +kernel
theorem d_M_readField_438 : decode prog_13_method_15_code 438 = .ok (.iload 4, 2) := by decide +kernel
theorem d_M_readField_440 : decode prog_13_method_15_code 440 = .ok (.iastore, 1) := by decide +kernel
theorem d_M_readField_441 : decode prog_13_method_15_code 441 = .ok (.aload_n 0, 1) := by decide +kernel
theorem d_M_readField_442 : decode prog_13_method_15_code 442 = .ok (.getfield 21, 3) := by decide +kernel
theorem d_M_readField_445 : decode prog_13_method_15_code 445 = .ok (.iconst 2, 1) := by decide +kernel
theorem d_M_readField_446 : decode prog_13_method_15_code 446 = .ok (.aaload, 1) := by decide +kernel
theorem d_M_readField_447 : decode prog_13_method_15_code 447 = .ok (.iload 7, 2) := by decide +kernel
theorem d_M_readField_449 : decode prog_13_method_15_code 449 = .ok (.iload_n 1, 1) := by decide +kernel
theorem d_M_readField_450 : decode prog_13_method_15_code 450 = .ok (.iastore, 1) := by decide +kernel
theorem d_M_readField_451 : decode prog_13_method_15_code 451 = .ok (.aload_n 0, 1) := by decide +kernel
theorem d_M_readField_452 : decode prog_13_method_15_code 452 = .ok (.getfield 21, 3) := by decide +kernel
theorem d_M_readField_455 : decode prog_13_method_15_code 455 = .ok (.iconst 4, 1) := by decide +kernel
theorem d_M_readField_456 : decode prog_13_method_15_code 456 = .ok (.aaload, 1) := by decide +kernel
theorem d_M_readField_457 : decode prog_13_method_15_code 457 = .ok (.iload 7, 2) := by decide +kernel
theorem d_M_readField_459 : decode prog_13_method_15_code 459 = .ok (.iload 5, 2) := by decide +kernel
theorem d_M_readField_461 : decode prog_13_method_15_code 461 = .ok (.iastore, 1) := by decide +kernel
theorem d_M_readField_462 : decode prog_13_method_15_code 462 = .ok (.aload_n 0, 1) := by decide +kernel
theorem d_M_readField_463 : decode prog_13_method_15_code 463 = .ok (.getfield 21, 3) := by decide +kernel
theorem d_M_readField_466 : decode prog_13_method_15_code 466 = .ok (.iconst 3, 1) := by decide +kernel
theorem d_M_readField_467 : decode prog_13_method_15_code 467 = .ok (.aaload, 1) := by decide +kernel
theorem d_M_readField_468 : decode prog_13_method_15_code 468 = .ok (.iload 7, 2) := by decide +kernel
theorem d_M_readField_470 : decode prog_13_method_15_code 470 = .ok (.iload 4, 2) := by decide +kernel
theorem d_M_readField_472 : decode prog_13_method_15_code 472 = .ok (.iconst 4, 1) := by decide +kernel
theorem d_M_readField_473 : decode prog_13_method_15_code 473 = .ok (.if_icmp .ne 7, 3) := by decide +kernel
theorem d_M_readField_476 : decode prog_13_method_15_code 476 = .ok (.iconst (-1), 1) := by decide +kernel
theorem d_M_readField_477 : decode prog_13_method_15_code 477 = .ok (.goto 7, 3) := by decide +kernel
theorem d_M_readField_480 : decode prog_13_method_15_code 480 = .ok (.aload_n 0, 1) := by decide +kernel
theorem d_M_readField_481 : decode prog_13_method_15_code 481 = .ok (.getfield 140, 3) := by decide +kernel
theorem d_M_readField_484 : decode prog_13_method_15_code 484 = .ok (.iastore, 1) := by decide +kernel
theorem d_M_readField_485 : decode prog_13_method_15_code 485 = .ok (.aload_n 0, 1) := by decide +kernel
theorem d_M_readField_486 : decode prog_13_method_15_code 486 = .ok (.dup, 1) := by decide +kernel
theorem d_M_readField_487 : decode prog_13_method_15_code 487 = .ok (.getfield 137, 3) := by decide +kernel
theorem d_M_readField_490 : decode prog_13_method_15_code 490 = .ok (.iconst 1, 1) := by decide +kernel
theorem d_M_readField_491 : decode prog_13_method_15_code 491 = .ok (.iadd, 1) := by decide +kernel
theorem d_M_readField_492 : decode prog_13_method_15_code 492 = .ok (.putfield 137, 3) := by decide +kernel
theorem d_M_readField_495 : decode prog_13_method_15_code 495 = .ok (.iload 4, 2) := by decide +kernel
theorem d_M_readField_497 : decode prog_13_method_15_code 497 = .ok (.iconst 4, 1) := by decide +kernel
theorem d_M_readField_498 : decode prog_13_method_15_code 498 = .ok (.if_icmp .eq 20, 3) := by decide +kernel
theorem d_M_readField_501 : decode prog_13_method_15_code 501 = .ok (.aload_n 0, 1) := by decide +kernel
theorem d_M_readField_502 : decode prog_13_method_15_code 502 = .ok (.dup, 1) := by decide +kernel
theorem d_M_readField_503 : decode prog_13_method_15_code 503 = .ok (.getfield 140, 3) := by decide +kernel
theorem d_M_readField_506 : decode prog_13_method_15_code 506 = .ok (.iconst 1, 1) := by decide +kernel
theorem d_M_readField_507 : decode prog_13_method_15_code 507 = .ok (.iadd, 1) := by decide +kernel
theorem d_M_readField_508 : decode prog_13_method_15_code 508 = .ok (.putfield 140, 3) := by decide +kernel
theorem d_M_readField_511 : decode prog_13_method_15_code 511 = .ok (.aload_n 0, 1) := by decide +kernel
theorem d_M_readField_512 : decode prog_13_method_15_code 512 = .ok (.bipush 59, 2) := by decide +kernel
theorem d_M_readField_514 : decode prog_13_method_15_code 514 = .ok (.invokevirtual 143, 3) := by decide +kernel
theorem d_M_readField_517 : decode prog_13_method_15_code 517 = .ok (.return_, 1) := by decide +kernel
theorem d_M_readField_518 : decode prog_13_method_15_code 518 = .ok (.aload_n 0, 1) := by decide +kernel
theorem d_M_readField_519 : decode prog_13_method_15_code 519 = .ok (.bipush 123, 2) := by decide +kernel
theorem d_M_readField_521 : decode prog_13_method_15_code 521 = .ok (.invokevirtual 143, 3) := by decide +kernel
theorem d_M_readField_524 : decode prog_13_method_15_code 524 = .ok (.aload_n 0, 1) := by decide +kernel
theorem d_M_readField_525 : decode prog_13_method_15_code 525 = .ok (.iload 7, 2) := by decide +kernel
theorem d_M_readField_527 : decode prog_13_method_15_code 527 = .ok (.iload_n 2, 1) := by decide +kernel
theorem d_M_readField_528 : decode prog_13_method_15_code 528 = .ok (.iconst 1, 1) := by decide +kernel
theorem d_M_readField_529 : decode prog_13_method_15_code 529 = .ok (.iadd, 1) := by decide +kernel
theorem d_M_readField_530 : decode prog_13_method_15_code 530 = .ok (.invokevirtual 146, 3) := by decide +kernel
theorem d_M_readField_533 : decode prog_13_method_15_code 533 = .ok (.aload_n 0, 1) := by decide +kernel
theorem d_M_readField_534 : decode prog_13_method_15_code 534 = .ok (.getfield 87, 3) := by decide +kernel
theorem d_M_readField_537 : decode prog_13_method_15_code 537 = .ok (.iconst (-1), 1) := by decide +kernel
theorem d_M_readField_538 : decode prog_13_method_15_code 538 = .ok (.if_icmp .ne 12, 3) := by decide +kernel
theorem d_M_readField_541 : decode prog_13_method_15_code 541 = .ok (.aload_n 0, 1) := by decide +kernel
theorem d_M_readField_542 : decode prog_13_method_15_code 542 = .ok (.bipush 125, 2) := by decide +kernel
theorem d_M_readField_544 : decode prog_13_method_15_code 544 = .ok (.invokevirtual 111, 3) := by decide +kernel
theorem d_M_readField_547 : decode prog_13_method_15_code 547 = .ok (.ifCond .eq (-23), 3) := by decide +kernel
theorem d_M_readField_550 : decode prog_13_method_15_code 550 = .ok (.return_, 1) := by decide +kernel
theorem d_M_blanks_0 : decode prog_13_method_7_code 0 = .ok (.aload_n 0, 1) := by decide +kernel
theorem d_M_blanks_1 : decode prog_13_method_7_code 1 = .ok (.invokevirtual 90, 3) := by decide +kernel
theorem d_M_blanks_4 : decode prog_13_method_7_code 4 = .ok (.bipush 32, 2) := by decide +kernel
theorem d_M_blanks_6 : decode prog_13_method_7_code 6 = .ok (.if_icmp .eq 12, 3) := by decide +kernel
theorem d_M_blanks_9 : decode prog_13_method_7_code 9 = .ok (.aload_n 0, 1) := by decide +kernel
theorem d_M_blanks_10 : decode prog_13_method_7_code 10 = .ok (.invokevirtual 90, 3) := by decide +kernel
theorem d_M_blanks_13 : decode prog_13_method_7_code 13 = .ok (.bipush 10, 2) := by decide +kernel
theorem d_M_blanks_15 : decode prog_13_method_7_code 15 = .ok (.if_icmp .ne 16, 3) := by decide +kernel
theorem d_M_blanks_18 : decode prog_13_method_7_code 18 = .ok (.aload_n 0, 1) := by decide +kernel
theorem d_M_blanks_19 : decode prog_13_method_7_code 19 = .ok (.dup, 1) := by decide +kernel
theorem d_M_blanks_20 : decode prog_13_method_7_code 20 = .ok (.getfield 84, 3) := by decide +kernel
theorem d_M_blanks_23 : decode prog_13_method_7_code 23 = .ok (.iconst 1, 1) := by decide +kernel
theorem d_M_blanks_24 : decode prog_13_method_7_code 24 = .ok (.iadd, 1) := by decide +kernel
theorem d_M_blanks_25 : decode prog_13_method_7_code 25 = .ok (.putfield 84, 3) := by decide +kernel
theorem d_M_blanks_28 : decode prog_13_method_7_code 28 = .ok (.goto (-28), 3) := by decide +kernel
theorem d_M_blanks_31 : decode prog_13_method_7_code 31 = .ok (.return_, 1) := by decide +kernel
theorem d_M_look_0 : decode prog_13_method_6_code 0 = .ok (.aload_n 0, 1) := by decide +kernel
theorem d_M_look_1 : decode prog_13_method_6_code 1 = .ok (.getfield 84, 3) := by decide +kernel
theorem d_M_look_4 : decode prog_13_method_6_code 4 = .ok (.aload_n 0, 1) := by decide +kernel
theorem d_M_look_5 : decode prog_13_method_6_code 5 = .ok (.getfield 81, 3) := by decide +kernel
theorem d_M_look_8 : decode prog_13_method_6_code 8 = .ok (.if_icmp .ge 15, 3) := by decide +kernel
theorem d_M_look_11 : decode prog_13_method_6_code 11 = .ok (.aload_n 0, 1) := by decide +kernel
theorem d_M_look_12 : decode prog_13_method_6_code 12 = .ok (.getfield 13, 3) := by decide +kernel
theorem d_M_look_15 : decode prog_13_method_6_code 15 = .ok (.aload_n 0, 1) := by decide +kernel
theorem d_M_look_16 : decode prog_13_method_6_code 16 = .ok (.getfield 84, 3) := by decide +kernel
theorem d_M_look_19 : decode prog_13_method_6_code 19 = .ok (.iaload, 1) := by decide +kernel
theorem d_M_look_20 : decode prog_13_method_6_code 20 = .ok (.goto 4, 3) := by decide +kernel
theorem d_M_look_23 : decode prog_13_method_6_code 23 = .ok (.iconst (-1), 1) := by decide +kernel
theorem d_M_look_24 : decode prog_13_method_6_code 24 = .ok (.ireturn, 1) := by decide +kernel
theorem d_M_takesWord_0 : decode prog_13_method_12_code 0 = .ok (.aload_n 0, 1) := by decide +kernel
theorem d_M_takesWord_1 : decode prog_13_method_12_code 1 = .ok (.getfield 87, 3) := by decide +kernel
theorem d_M_takesWord_4 : decode prog_13_method_12_code 4 = .ok (.iconst (-1), 1) := by decide +kernel
theorem d_M_takesWord_5 : decode prog_13_method_12_code 5 = .ok (.if_icmp .ne 11, 3) := by decide +kernel
theorem d_M_takesWord_8 : decode prog_13_method_12_code 8 = .ok (.aload_n 0, 1) := by decide +kernel
theorem d_M_takesWord_9 : decode prog_13_method_12_code 9 = .ok (.lload_n 1, 1) := by decide +kernel
theorem d_M_takesWord_10 : decode prog_13_method_12_code 10 = .ok (.invokevirtual 104, 3) := by decide +kernel
theorem d_M_takesWord_13 : decode prog_13_method_12_code 13 = .ok (.ifCond .ne 5, 3) := by decide +kernel
theorem d_M_takesWord_16 : decode prog_13_method_12_code 16 = .ok (.iconst 0, 1) := by decide +kernel
theorem d_M_takesWord_17 : decode prog_13_method_12_code 17 = .ok (.ireturn, 1) := by decide +kernel
theorem d_M_takesWord_18 : decode prog_13_method_12_code 18 = .ok (.aload_n 0, 1) := by decide +kernel
theorem d_M_takesWord_19 : decode prog_13_method_12_code 19 = .ok (.dup, 1) := by decide +kernel
theorem d_M_takesWord_20 : decode prog_13_method_12_code 20 = .ok (.getfield 84, 3) := by decide +kernel
theorem d_M_takesWord_23 : decode prog_13_method_12_code 23 = .ok (.aload_n 0, 1) := by decide +kernel
theorem d_M_takesWord_24 : decode prog_13_method_12_code 24 = .ok (.invokevirtual 101, 3) := by decide +kernel
theorem d_M_takesWord_27 : decode prog_13_method_12_code 27 = .ok (.iadd, 1) := by decide +kernel
theorem d_M_takesWord_28 : decode prog_13_method_12_code 28 = .ok (.putfield 84, 3) := by decide +kernel
theorem d_M_takesWord_31 : decode prog_13_method_12_code 31 = .ok (.iconst 1, 1) := by decide +kernel
theorem d_M_takesWord_32 : decode prog_13_method_12_code 32 = .ok (.ireturn, 1) := by decide +kernel
theorem d_M_isWord_0 : decode prog_13_method_11_code 0 = .ok (.aload_n 0, 1) := by decide +kernel
theorem d_M_isWord_1 : decode prog_13_method_11_code 1 = .ok (.invokevirtual 101, 3) := by decide +kernel
theorem d_M_isWord_4 : decode prog_13_method_11_code 4 = .ok (.istore_n 3, 1) := by decide +kernel
theorem d_M_isWord_5 : decode prog_13_method_11_code 5 = .ok (.iload_n 3, 1) := by decide +kernel
theorem d_M_isWord_6 : decode prog_13_method_11_code 6 = .ok (.ifCond .eq 9, 3) := by decide +kernel
theorem d_M_isWord_9 : decode prog_13_method_11_code 9 = .ok (.iload_n 3, 1) := by decide +kernel
theorem d_M_isWord_10 : decode prog_13_method_11_code 10 = .ok (.bipush 8, 2) := by decide +kernel
theorem d_M_isWord_12 : decode prog_13_method_11_code 12 = .ok (.if_icmp .le 5, 3) := by decide +kernel
theorem d_M_isWord_15 : decode prog_13_method_11_code 15 = .ok (.iconst 0, 1) := by decide +kernel
theorem d_M_isWord_16 : decode prog_13_method_11_code 16 = .ok (.ireturn, 1) := by decide +kernel
theorem d_M_isWord_17 : decode prog_13_method_11_code 17 = .ok (.lconst 0, 1) := by decide +kernel
theorem d_M_isWord_18 : decode prog_13_method_11_code 18 = .ok (.lstore 4, 2) := by decide +kernel
theorem d_M_isWord_20 : decode prog_13_method_11_code 20 = .ok (.iconst 0, 1) := by decide +kernel
theorem d_M_isWord_21 : decode prog_13_method_11_code 21 = .ok (.istore 6, 2) := by decide +kernel
theorem d_M_isWord_23 : decode prog_13_method_11_code 23 = .ok (.iload 6, 2) := by decide +kernel
theorem d_M_isWord_25 : decode prog_13_method_11_code 25 = .ok (.iload_n 3, 1) := by decide +kernel
theorem d_M_isWord_26 : decode prog_13_method_11_code 26 = .ok (.if_icmp .ge 30, 3) := by decide +kernel
theorem d_M_isWord_29 : decode prog_13_method_11_code 29 = .ok (.lload 4, 2) := by decide +kernel
theorem d_M_isWord_31 : decode prog_13_method_11_code 31 = .ok (.bipush 8, 2) := by decide +kernel
theorem d_M_isWord_33 : decode prog_13_method_11_code 33 = .ok (.lshl, 1) := by decide +kernel
theorem d_M_isWord_34 : decode prog_13_method_11_code 34 = .ok (.aload_n 0, 1) := by decide +kernel
theorem d_M_isWord_35 : decode prog_13_method_11_code 35 = .ok (.getfield 13, 3) := by decide +kernel
theorem d_M_isWord_38 : decode prog_13_method_11_code 38 = .ok (.aload_n 0, 1) := by decide +kernel
theorem d_M_isWord_39 : decode prog_13_method_11_code 39 = .ok (.getfield 84, 3) := by decide +kernel
theorem d_M_isWord_42 : decode prog_13_method_11_code 42 = .ok (.iload 6, 2) := by decide +kernel
theorem d_M_isWord_44 : decode prog_13_method_11_code 44 = .ok (.iadd, 1) := by decide +kernel
theorem d_M_isWord_45 : decode prog_13_method_11_code 45 = .ok (.iaload, 1) := by decide +kernel
theorem d_M_isWord_46 : decode prog_13_method_11_code 46 = .ok (.i2l, 1) := by decide +kernel
theorem d_M_isWord_47 : decode prog_13_method_11_code 47 = .ok (.lor, 1) := by decide +kernel
theorem d_M_isWord_48 : decode prog_13_method_11_code 48 = .ok (.lstore 4, 2) := by decide +kernel
theorem d_M_isWord_50 : decode prog_13_method_11_code 50 = .ok (.iinc 6 1, 3) := by decide +kernel
theorem d_M_isWord_53 : decode prog_13_method_11_code 53 = .ok (.goto (-30), 3) := by decide +kernel
theorem d_M_isWord_56 : decode prog_13_method_11_code 56 = .ok (.lload 4, 2) := by decide +kernel
theorem d_M_isWord_58 : decode prog_13_method_11_code 58 = .ok (.lload_n 1, 1) := by decide +kernel
theorem d_M_isWord_59 : decode prog_13_method_11_code 59 = .ok (.lcmp, 1) := by decide +kernel
theorem d_M_isWord_60 : decode prog_13_method_11_code 60 = .ok (.ifCond .ne 7, 3) := by decide +kernel
theorem d_M_isWord_63 : decode prog_13_method_11_code 63 = .ok (.iconst 1, 1) := by decide +kernel
theorem d_M_isWord_64 : decode prog_13_method_11_code 64 = .ok (.goto 4, 3) := by decide +kernel
theorem d_M_isWord_67 : decode prog_13_method_11_code 67 = .ok (.iconst 0, 1) := by decide +kernel
theorem d_M_isWord_68 : decode prog_13_method_11_code 68 = .ok (.ireturn, 1) := by decide +kernel
theorem d_M_word_0 : decode prog_13_method_10_code 0 = .ok (.iconst 0, 1) := by decide +kernel
theorem d_M_word_1 : decode prog_13_method_10_code 1 = .ok (.istore_n 1, 1) := by decide +kernel
theorem d_M_word_2 : decode prog_13_method_10_code 2 = .ok (.aload_n 0, 1) := by decide +kernel
theorem d_M_word_3 : decode prog_13_method_10_code 3 = .ok (.invokevirtual 90, 3) := by decide +kernel
theorem d_M_word_6 : decode prog_13_method_10_code 6 = .ok (.invokestatic 94, 3) := by decide +kernel
theorem d_M_word_9 : decode prog_13_method_10_code 9 = .ok (.ifCond .ne 5, 3) := by decide +kernel
theorem d_M_word_12 : decode prog_13_method_10_code 12 = .ok (.iconst 0, 1) := by decide +kernel
theorem d_M_word_13 : decode prog_13_method_10_code 13 = .ok (.ireturn, 1) := by decide +kernel
theorem d_M_word_14 : decode prog_13_method_10_code 14 = .ok (.aload_n 0, 1) := by decide +kernel
theorem d_M_word_15 : decode prog_13_method_10_code 15 = .ok (.getfield 84, 3) := by decide +kernel
theorem d_M_word_18 : decode prog_13_method_10_code 18 = .ok (.iload_n 1, 1) := by decide +kernel
theorem d_M_word_19 : decode prog_13_method_10_code 19 = .ok (.iadd, 1) := by decide +kernel
theorem d_M_word_20 : decode prog_13_method_10_code 20 = .ok (.aload_n 0, 1) := by decide +kernel
theorem d_M_word_21 : decode prog_13_method_10_code 21 = .ok (.getfield 81, 3) := by decide +kernel
theorem d_M_word_24 : decode prog_13_method_10_code 24 = .ok (.if_icmp .ge 59, 3) := by decide +kernel
theorem d_M_word_27 : decode prog_13_method_10_code 27 = .ok (.aload_n 0, 1) := by decide +kernel
theorem d_M_word_28 : decode prog_13_method_10_code 28 = .ok (.getfield 13, 3) := by decide +kernel
theorem d_M_word_31 : decode prog_13_method_10_code 31 = .ok (.aload_n 0, 1) := by decide +kernel
theorem d_M_word_32 : decode prog_13_method_10_code 32 = .ok (.getfield 84, 3) := by decide +kernel
theorem d_M_word_35 : decode prog_13_method_10_code 35 = .ok (.iload_n 1, 1) := by decide +kernel
theorem d_M_word_36 : decode prog_13_method_10_code 36 = .ok (.iadd, 1) := by decide +kernel
theorem d_M_word_37 : decode prog_13_method_10_code 37 = .ok (.iaload, 1) := by decide +kernel
theorem d_M_word_38 : decode prog_13_method_10_code 38 = .ok (.invokestatic 94, 3) := by decide +kernel
theorem d_M_word_41 : decode prog_13_method_10_code 41 = .ok (.ifCond .ne 36, 3) := by decide +kernel
theorem d_M_word_44 : decode prog_13_method_10_code 44 = .ok (.aload_n 0, 1) := by decide +kernel
theorem d_M_word_45 : decode prog_13_method_10_code 45 = .ok (.getfield 13, 3) := by decide +kernel
theorem d_M_word_48 : decode prog_13_method_10_code 48 = .ok (.aload_n 0, 1) := by decide +kernel
theorem d_M_word_49 : decode prog_13_method_10_code 49 = .ok (.getfield 84, 3) := by decide +kernel
theorem d_M_word_52 : decode prog_13_method_10_code 52 = .ok (.iload_n 1, 1) := by decide +kernel
theorem d_M_word_53 : decode prog_13_method_10_code 53 = .ok (.iadd, 1) := by decide +kernel
theorem d_M_word_54 : decode prog_13_method_10_code 54 = .ok (.iaload, 1) := by decide +kernel
theorem d_M_word_55 : decode prog_13_method_10_code 55 = .ok (.invokestatic 98, 3) := by decide +kernel
theorem d_M_word_58 : decode prog_13_method_10_code 58 = .ok (.ifCond .ne 19, 3) := by decide +kernel
theorem d_M_word_61 : decode prog_13_method_10_code 61 = .ok (.aload_n 0, 1) := by decide +kernel
theorem d_M_word_62 : decode prog_13_method_10_code 62 = .ok (.getfield 13, 3) := by decide +kernel
theorem d_M_word_65 : decode prog_13_method_10_code 65 = .ok (.aload_n 0, 1) := by decide +kernel
theorem d_M_word_66 : decode prog_13_method_10_code 66 = .ok (.getfield 84, 3) := by decide +kernel
theorem d_M_word_69 : decode prog_13_method_10_code 69 = .ok (.iload_n 1, 1) := by decide +kernel
theorem d_M_word_70 : decode prog_13_method_10_code 70 = .ok (.iadd, 1) := by decide +kernel
theorem d_M_word_71 : decode prog_13_method_10_code 71 = .ok (.iaload, 1) := by decide +kernel
theorem d_M_word_72 : decode prog_13_method_10_code 72 = .ok (.bipush 95, 2) := by decide +kernel
theorem d_M_word_74 : decode prog_13_method_10_code 74 = .ok (.if_icmp .ne 9, 3) := by decide +kernel
theorem d_M_word_77 : decode prog_13_method_10_code 77 = .ok (.iinc 1 1, 3) := by decide +kernel
theorem d_M_word_80 : decode prog_13_method_10_code 80 = .ok (.goto (-66), 3) := by decide +kernel
theorem d_M_word_83 : decode prog_13_method_10_code 83 = .ok (.iload_n 1, 1) := by decide +kernel
theorem d_M_word_84 : decode prog_13_method_10_code 84 = .ok (.ireturn, 1) := by decide +kernel
theorem d_M_isLetter_0 : decode prog_13_method_8_code 0 = .ok (.iload_n 0, 1) := by decide +kernel
theorem d_M_isLetter_1 : decode prog_13_method_8_code 1 = .ok (.bipush 97, 2) := by decide +kernel
theorem d_M_isLetter_3 : decode prog_13_method_8_code 3 = .ok (.if_icmp .lt 9, 3) := by decide +kernel
theorem d_M_isLetter_6 : decode prog_13_method_8_code 6 = .ok (.iload_n 0, 1) := by decide +kernel
theorem d_M_isLetter_7 : decode prog_13_method_8_code 7 = .ok (.bipush 122, 2) := by decide +kernel
theorem d_M_isLetter_9 : decode prog_13_method_8_code 9 = .ok (.if_icmp .le 15, 3) := by decide +kernel
theorem d_M_isLetter_12 : decode prog_13_method_8_code 12 = .ok (.iload_n 0, 1) := by decide +kernel
theorem d_M_isLetter_13 : decode prog_13_method_8_code 13 = .ok (.bipush 65, 2) := by decide +kernel
theorem d_M_isLetter_15 : decode prog_13_method_8_code 15 = .ok (.if_icmp .lt 13, 3) := by decide +kernel
theorem d_M_isLetter_18 : decode prog_13_method_8_code 18 = .ok (.iload_n 0, 1) := by decide +kernel
theorem d_M_isLetter_19 : decode prog_13_method_8_code 19 = .ok (.bipush 90, 2) := by decide +kernel
theorem d_M_isLetter_21 : decode prog_13_method_8_code 21 = .ok (.if_icmp .gt 7, 3) := by decide +kernel
theorem d_M_isLetter_24 : decode prog_13_method_8_code 24 = .ok (.iconst 1, 1) := by decide +kernel
theorem d_M_isLetter_25 : decode prog_13_method_8_code 25 = .ok (.goto 4, 3) := by decide +kernel
theorem d_M_isLetter_28 : decode prog_13_method_8_code 28 = .ok (.iconst 0, 1) := by decide +kernel
theorem d_M_isLetter_29 : decode prog_13_method_8_code 29 = .ok (.ireturn, 1) := by decide +kernel
theorem d_M_isDigit_0 : decode prog_13_method_9_code 0 = .ok (.iload_n 0, 1) := by decide +kernel
theorem d_M_isDigit_1 : decode prog_13_method_9_code 1 = .ok (.bipush 48, 2) := by decide +kernel
theorem d_M_isDigit_3 : decode prog_13_method_9_code 3 = .ok (.if_icmp .lt 13, 3) := by decide +kernel
theorem d_M_isDigit_6 : decode prog_13_method_9_code 6 = .ok (.iload_n 0, 1) := by decide +kernel
theorem d_M_isDigit_7 : decode prog_13_method_9_code 7 = .ok (.bipush 57, 2) := by decide +kernel
theorem d_M_isDigit_9 : decode prog_13_method_9_code 9 = .ok (.if_icmp .gt 7, 3) := by decide +kernel
theorem d_M_isDigit_12 : decode prog_13_method_9_code 12 = .ok (.iconst 1, 1) := by decide +kernel
theorem d_M_isDigit_13 : decode prog_13_method_9_code 13 = .ok (.goto 4, 3) := by decide +kernel
theorem d_M_isDigit_16 : decode prog_13_method_9_code 16 = .ok (.iconst 0, 1) := by decide +kernel
theorem d_M_isDigit_17 : decode prog_13_method_9_code 17 = .ok (.ireturn, 1) := by decide +kernel
theorem d_M_fail_0 : decode prog_13_method_5_code 0 = .ok (.aload_n 0, 1) := by decide +kernel
theorem d_M_fail_1 : decode prog_13_method_5_code 1 = .ok (.getfield 87, 3) := by decide +kernel
theorem d_M_fail_4 : decode prog_13_method_5_code 4 = .ok (.iconst (-1), 1) := by decide +kernel
theorem d_M_fail_5 : decode prog_13_method_5_code 5 = .ok (.if_icmp .ne 8, 3) := by decide +kernel
theorem d_M_fail_8 : decode prog_13_method_5_code 8 = .ok (.aload_n 0, 1) := by decide +kernel
theorem d_M_fail_9 : decode prog_13_method_5_code 9 = .ok (.iload_n 1, 1) := by decide +kernel
theorem d_M_fail_10 : decode prog_13_method_5_code 10 = .ok (.putfield 87, 3) := by decide +kernel
theorem d_M_fail_13 : decode prog_13_method_5_code 13 = .ok (.return_, 1) := by decide +kernel
theorem d_M_wantSign_0 : decode prog_13_method_14_code 0 = .ok (.aload_n 0, 1) := by decide +kernel
theorem d_M_wantSign_1 : decode prog_13_method_14_code 1 = .ok (.iload_n 1, 1) := by decide +kernel
theorem d_M_wantSign_2 : decode prog_13_method_14_code 2 = .ok (.invokevirtual 111, 3) := by decide +kernel
theorem d_M_wantSign_5 : decode prog_13_method_14_code 5 = .ok (.ifCond .ne 11, 3) := by decide +kernel
theorem d_M_wantSign_8 : decode prog_13_method_14_code 8 = .ok (.aload_n 0, 1) := by decide +kernel
theorem d_M_wantSign_9 : decode prog_13_method_14_code 9 = .ok (.aload_n 0, 1) := by decide +kernel
theorem d_M_wantSign_10 : decode prog_13_method_14_code 10 = .ok (.getfield 84, 3) := by decide +kernel
theorem d_M_wantSign_13 : decode prog_13_method_14_code 13 = .ok (.invokevirtual 114, 3) := by decide +kernel
theorem d_M_wantSign_16 : decode prog_13_method_14_code 16 = .ok (.return_, 1) := by decide +kernel
theorem d_M_takesSign_0 : decode prog_13_method_13_code 0 = .ok (.aload_n 0, 1) := by decide +kernel
theorem d_M_takesSign_1 : decode prog_13_method_13_code 1 = .ok (.invokevirtual 108, 3) := by decide +kernel
theorem d_M_takesSign_4 : decode prog_13_method_13_code 4 = .ok (.aload_n 0, 1) := by decide +kernel
theorem d_M_takesSign_5 : decode prog_13_method_13_code 5 = .ok (.getfield 87, 3) := by decide +kernel
theorem d_M_takesSign_8 : decode prog_13_method_13_code 8 = .ok (.iconst (-1), 1) := by decide +kernel
theorem d_M_takesSign_9 : decode prog_13_method_13_code 9 = .ok (.if_icmp .ne 11, 3) := by decide +kernel
theorem d_M_takesSign_12 : decode prog_13_method_13_code 12 = .ok (.aload_n 0, 1) := by decide +kernel
theorem d_M_takesSign_13 : decode prog_13_method_13_code 13 = .ok (.invokevirtual 90, 3) := by decide +kernel
theorem d_M_takesSign_16 : decode prog_13_method_13_code 16 = .ok (.iload_n 1, 1) := by decide +kernel
theorem d_M_takesSign_17 : decode prog_13_method_13_code 17 = .ok (.if_icmp .eq 5, 3) := by decide +kernel
theorem d_M_takesSign_20 : decode prog_13_method_13_code 20 = .ok (.iconst 0, 1) := by decide +kernel
theorem d_M_takesSign_21 : decode prog_13_method_13_code 21 = .ok (.ireturn, 1) := by decide +kernel
theorem d_M_takesSign_22 : decode prog_13_method_13_code 22 = .ok (.aload_n 0, 1) := by decide +kernel
theorem d_M_takesSign_23 : decode prog_13_method_13_code 23 = .ok (.dup, 1) := by decide +kernel
theorem d_M_takesSign_24 : decode prog_13_method_13_code 24 = .ok (.getfield 84, 3) := by decide +kernel
theorem d_M_takesSign_27 : decode prog_13_method_13_code 27 = .ok (.iconst 1, 1) := by decide +kernel
theorem d_M_takesSign_28 : decode prog_13_method_13_code 28 = .ok (.iadd, 1) := by decide +kernel
theorem d_M_takesSign_29 : decode prog_13_method_13_code 29 = .ok (.putfield 84, 3) := by decide +kernel
theorem d_M_takesSign_32 : decode prog_13_method_13_code 32 = .ok (.iconst 1, 1) := by decide +kernel
theorem d_M_takesSign_33 : decode prog_13_method_13_code 33 = .ok (.ireturn, 1) := by decide +kernel
theorem d_M_empty_0 : decode prog_13_method_25_code 0 = .ok (.aload_n 0, 1) := by decide +kernel
theorem d_M_empty_1 : decode prog_13_method_25_code 1 = .ok (.iconst 1, 1) := by decide +kernel
theorem d_M_empty_2 : decode prog_13_method_25_code 2 = .ok (.putfield 46, 3) := by decide +kernel
theorem d_M_empty_5 : decode prog_13_method_25_code 5 = .ok (.aload_n 0, 1) := by decide +kernel
theorem d_M_empty_6 : decode prog_13_method_25_code 6 = .ok (.iconst 0, 1) := by decide +kernel
theorem d_M_empty_7 : decode prog_13_method_25_code 7 = .ok (.putfield 173, 3) := by decide +kernel
theorem d_M_empty_10 : decode prog_13_method_25_code 10 = .ok (.return_, 1) := by decide +kernel
theorem d_M_count_0 : decode prog_13_method_17_code 0 = .ok (.aload_n 0, 1) := by decide +kernel
theorem d_M_count_1 : decode prog_13_method_17_code 1 = .ok (.iconst 0, 1) := by decide +kernel
theorem d_M_count_2 : decode prog_13_method_17_code 2 = .ok (.putfield 75, 3) := by decide +kernel
theorem d_M_count_5 : decode prog_13_method_17_code 5 = .ok (.iload_n 1, 1) := by decide +kernel
theorem d_M_count_6 : decode prog_13_method_17_code 6 = .ok (.ifCond .ne 10, 3) := by decide +kernel
theorem d_M_count_9 : decode prog_13_method_17_code 9 = .ok (.aload_n 0, 1) := by decide +kernel
theorem d_M_count_10 : decode prog_13_method_17_code 10 = .ok (.getfield 153, 3) := by decide +kernel
theorem d_M_count_13 : decode prog_13_method_17_code 13 = .ok (.goto 16, 3) := by decide +kernel
theorem d_M_count_16 : decode prog_13_method_17_code 16 = .ok (.iload_n 1, 1) := by decide +kernel
theorem d_M_count_17 : decode prog_13_method_17_code 17 = .ok (.iconst 1, 1) := by decide +kernel
theorem d_M_count_18 : decode prog_13_method_17_code 18 = .ok (.if_icmp .ne 10, 3) := by decide +kernel
theorem d_M_count_21 : decode prog_13_method_17_code 21 = .ok (.aload_n 0, 1) := by decide +kernel
theorem d_M_count_22 : decode prog_13_method_17_code 22 = .ok (.getfield 156, 3) := by decide +kernel
theorem d_M_count_25 : decode prog_13_method_17_code 25 = .ok (.goto 4, 3) := by decide +kernel
theorem d_M_count_28 : decode prog_13_method_17_code 28 = .ok (.iconst (-1), 1) := by decide +kernel
theorem d_M_count_29 : decode prog_13_method_17_code 29 = .ok (.ireturn, 1) := by decide +kernel
theorem d_M_field_0 : decode prog_13_method_20_code 0 = .ok (.aload_n 0, 1) := by decide +kernel
theorem d_M_field_1 : decode prog_13_method_20_code 1 = .ok (.iconst 0, 1) := by decide +kernel
theorem d_M_field_2 : decode prog_13_method_20_code 2 = .ok (.putfield 75, 3) := by decide +kernel
theorem d_M_field_5 : decode prog_13_method_20_code 5 = .ok (.aload_n 0, 1) := by decide +kernel
theorem d_M_field_6 : decode prog_13_method_20_code 6 = .ok (.iload_n 1, 1) := by decide +kernel
theorem d_M_field_7 : decode prog_13_method_20_code 7 = .ok (.invokevirtual 162, 3) := by decide +kernel
theorem d_M_field_10 : decode prog_13_method_20_code 10 = .ok (.ifCond .ne 5, 3) := by decide +kernel
theorem d_M_field_13 : decode prog_13_method_20_code 13 = .ok (.iconst (-1), 1) := by decide +kernel
theorem d_M_field_14 : decode prog_13_method_20_code 14 = .ok (.ireturn, 1) := by decide +kernel
theorem d_M_field_15 : decode prog_13_method_20_code 15 = .ok (.iload_n 2, 1) := by decide +kernel
theorem d_M_field_16 : decode prog_13_method_20_code 16 = .ok (.ifCond .lt 17, 3) := by decide +kernel
theorem d_M_field_19 : decode prog_13_method_20_code 19 = .ok (.iload_n 2, 1) := by decide +kernel
theorem d_M_field_20 : decode prog_13_method_20_code 20 = .ok (.iconst 5, 1) := by decide +kernel
theorem d_M_field_21 : decode prog_13_method_20_code 21 = .ok (.if_icmp .ge 12, 3) := by decide +kernel
theorem d_M_field_24 : decode prog_13_method_20_code 24 = .ok (.aload_n 0, 1) := by decide +kernel
theorem d_M_field_25 : decode prog_13_method_20_code 25 = .ok (.getfield 18, 3) := by decide +kernel
theorem d_M_field_28 : decode prog_13_method_20_code 28 = .ok (.iload_n 2, 1) := by decide +kernel
theorem d_M_field_29 : decode prog_13_method_20_code 29 = .ok (.aaload, 1) := by decide +kernel
theorem d_M_field_30 : decode prog_13_method_20_code 30 = .ok (.iload_n 1, 1) := by decide +kernel
theorem d_M_field_31 : decode prog_13_method_20_code 31 = .ok (.iaload, 1) := by decide +kernel
theorem d_M_field_32 : decode prog_13_method_20_code 32 = .ok (.ireturn, 1) := by decide +kernel
theorem d_M_field_33 : decode prog_13_method_20_code 33 = .ok (.iload_n 2, 1) := by decide +kernel
theorem d_M_field_34 : decode prog_13_method_20_code 34 = .ok (.iconst 5, 1) := by decide +kernel
theorem d_M_field_35 : decode prog_13_method_20_code 35 = .ok (.if_icmp .ne 12, 3) := by decide +kernel
theorem d_M_field_38 : decode prog_13_method_20_code 38 = .ok (.aload_n 0, 1) := by decide +kernel
theorem d_M_field_39 : decode prog_13_method_20_code 39 = .ok (.iload_n 1, 1) := by decide +kernel
theorem d_M_field_40 : decode prog_13_method_20_code 40 = .ok (.iconst 1, 1) := by decide +kernel
theorem d_M_field_41 : decode prog_13_method_20_code 41 = .ok (.invokevirtual 165, 3) := by decide +kernel
theorem d_M_field_44 : decode prog_13_method_20_code 44 = .ok (.goto 19, 3) := by decide +kernel
theorem d_M_field_47 : decode prog_13_method_20_code 47 = .ok (.iload_n 2, 1) := by decide +kernel
theorem d_M_field_48 : decode prog_13_method_20_code 48 = .ok (.bipush 6, 2) := by decide +kernel
theorem d_M_field_50 : decode prog_13_method_20_code 50 = .ok (.if_icmp .ne 12, 3) := by decide +kernel
theorem d_M_field_53 : decode prog_13_method_20_code 53 = .ok (.aload_n 0, 1) := by decide +kernel
theorem d_M_field_54 : decode prog_13_method_20_code 54 = .ok (.iload_n 1, 1) := by decide +kernel
theorem d_M_field_55 : decode prog_13_method_20_code 55 = .ok (.iconst 0, 1) := by decide +kernel
theorem d_M_field_56 : decode prog_13_method_20_code 56 = .ok (.invokevirtual 165, 3) := by decide +kernel
theorem d_M_field_59 : decode prog_13_method_20_code 59 = .ok (.goto 4, 3) := by decide +kernel
theorem d_M_field_62 : decode prog_13_method_20_code 62 = .ok (.iconst (-1), 1) := by decide +kernel
theorem d_M_field_63 : decode prog_13_method_20_code 63 = .ok (.ireturn, 1) := by decide +kernel
theorem d_M_isField_0 : decode prog_13_method_19_code 0 = .ok (.iload_n 1, 1) := by decide +kernel
theorem d_M_isField_1 : decode prog_13_method_19_code 1 = .ok (.ifCond .lt 15, 3) := by decide +kernel
theorem d_M_isField_4 : decode prog_13_method_19_code 4 = .ok (.iload_n 1, 1) := by decide +kernel
theorem d_M_isField_5 : decode prog_13_method_19_code 5 = .ok (.aload_n 0, 1) := by decide +kernel
theorem d_M_isField_6 : decode prog_13_method_19_code 6 = .ok (.getfield 153, 3) := by decide +kernel
theorem d_M_isField_9 : decode prog_13_method_19_code 9 = .ok (.if_icmp .ge 7, 3) := by decide +kernel
theorem d_M_isField_12 : decode prog_13_method_19_code 12 = .ok (.iconst 1, 1) := by decide +kernel
theorem d_M_isField_13 : decode prog_13_method_19_code 13 = .ok (.goto 4, 3) := by decide +kernel
theorem d_M_isField_16 : decode prog_13_method_19_code 16 = .ok (.iconst 0, 1) := by decide +kernel
theorem d_M_isField_17 : decode prog_13_method_19_code 17 = .ok (.ireturn, 1) := by decide +kernel
theorem d_M_level_0 : decode prog_13_method_18_code 0 = .ok (.iconst 0, 1) := by decide +kernel
theorem d_M_level_1 : decode prog_13_method_18_code 1 = .ok (.istore_n 3, 1) := by decide +kernel
theorem d_M_level_2 : decode prog_13_method_18_code 2 = .ok (.iload_n 1, 1) := by decide +kernel
theorem d_M_level_3 : decode prog_13_method_18_code 3 = .ok (.istore 4, 2) := by decide +kernel
theorem d_M_level_5 : decode prog_13_method_18_code 5 = .ok (.iload 4, 2) := by decide +kernel
theorem d_M_level_7 : decode prog_13_method_18_code 7 = .ok (.iconst (-1), 1) := by decide +kernel
theorem d_M_level_8 : decode prog_13_method_18_code 8 = .ok (.if_icmp .eq 62, 3) := by decide +kernel
theorem d_M_level_11 : decode prog_13_method_18_code 11 = .ok (.iload_n 3, 1) := by decide +kernel
theorem d_M_level_12 : decode prog_13_method_18_code 12 = .ok (.iload_n 2, 1) := by decide +kernel
theorem d_M_level_13 : decode prog_13_method_18_code 13 = .ok (.ifCond .eq 24, 3) := by decide +kernel
theorem d_M_level_16 : decode prog_13_method_18_code 16 = .ok (.aload_n 0, 1) := by decide +kernel
theorem d_M_level_17 : decode prog_13_method_18_code 17 = .ok (.getfield 18, 3) := by decide +kernel
theorem d_M_level_20 : decode prog_13_method_18_code 20 = .ok (.iconst 0, 1) := by decide +kernel
theorem d_M_level_21 : decode prog_13_method_18_code 21 = .ok (.aaload, 1) := by decide +kernel
theorem d_M_level_22 : decode prog_13_method_18_code 22 = .ok (.iload 4, 2) := by decide +kernel
theorem d_M_level_24 : decode prog_13_method_18_code 24 = .ok (.iaload, 1) := by decide +kernel
theorem d_M_level_25 : decode prog_13_method_18_code 25 = .ok (.iconst 2, 1) := by decide +kernel
theorem d_M_level_26 : decode prog_13_method_18_code 26 = .ok (.if_icmp .ne 7, 3) := by decide +kernel
theorem d_M_level_29 : decode prog_13_method_18_code 29 = .ok (.iconst 1, 1) := by decide +kernel
theorem d_M_level_30 : decode prog_13_method_18_code 30 = .ok (.goto 24, 3) := by decide +kernel
theorem d_M_level_33 : decode prog_13_method_18_code 33 = .ok (.iconst 0, 1) := by decide +kernel
theorem d_M_level_34 : decode prog_13_method_18_code 34 = .ok (.goto 20, 3) := by decide +kernel
theorem d_M_level_37 : decode prog_13_method_18_code 37 = .ok (.aload_n 0, 1) := by decide +kernel
theorem d_M_level_38 : decode prog_13_method_18_code 38 = .ok (.getfield 18, 3) := by decide +kernel
theorem d_M_level_41 : decode prog_13_method_18_code 41 = .ok (.iconst 0, 1) := by decide +kernel
theorem d_M_level_42 : decode prog_13_method_18_code 42 = .ok (.aaload, 1) := by decide +kernel
theorem d_M_level_43 : decode prog_13_method_18_code 43 = .ok (.iload 4, 2) := by decide +kernel
theorem d_M_level_45 : decode prog_13_method_18_code 45 = .ok (.iaload, 1) := by decide +kernel
theorem d_M_level_46 : decode prog_13_method_18_code 46 = .ok (.ifCond .eq 7, 3) := by decide +kernel
theorem d_M_level_49 : decode prog_13_method_18_code 49 = .ok (.iconst 1, 1) := by decide +kernel
theorem d_M_level_50 : decode prog_13_method_18_code 50 = .ok (.goto 4, 3) := by decide +kernel
theorem d_M_level_53 : decode prog_13_method_18_code 53 = .ok (.iconst 0, 1) := by decide +kernel
theorem d_M_level_54 : decode prog_13_method_18_code 54 = .ok (.iadd, 1) := by decide +kernel
theorem d_M_level_55 : decode prog_13_method_18_code 55 = .ok (.istore_n 3, 1) := by decide +kernel
theorem d_M_level_56 : decode prog_13_method_18_code 56 = .ok (.aload_n 0, 1) := by decide +kernel
theorem d_M_level_57 : decode prog_13_method_18_code 57 = .ok (.getfield 18, 3) := by decide +kernel
theorem d_M_level_60 : decode prog_13_method_18_code 60 = .ok (.iconst 2, 1) := by decide +kernel
theorem d_M_level_61 : decode prog_13_method_18_code 61 = .ok (.aaload, 1) := by decide +kernel
theorem d_M_level_62 : decode prog_13_method_18_code 62 = .ok (.iload 4, 2) := by decide +kernel
theorem d_M_level_64 : decode prog_13_method_18_code 64 = .ok (.iaload, 1) := by decide +kernel
theorem d_M_level_65 : decode prog_13_method_18_code 65 = .ok (.istore 4, 2) := by decide +kernel
theorem d_M_level_67 : decode prog_13_method_18_code 67 = .ok (.goto (-62), 3) := by decide +kernel
theorem d_M_level_70 : decode prog_13_method_18_code 70 = .ok (.iload_n 3, 1) := by decide +kernel
theorem d_M_level_71 : decode prog_13_method_18_code 71 = .ok (.ireturn, 1) := by decide +kernel
theorem d_M_letter_0 : decode prog_13_method_21_code 0 = .ok (.aload_n 0, 1) := by decide +kernel
theorem d_M_letter_1 : decode prog_13_method_21_code 1 = .ok (.iconst 0, 1) := by decide +kernel
theorem d_M_letter_2 : decode prog_13_method_21_code 2 = .ok (.putfield 75, 3) := by decide +kernel
theorem d_M_letter_5 : decode prog_13_method_21_code 5 = .ok (.aload_n 0, 1) := by decide +kernel
theorem d_M_letter_6 : decode prog_13_method_21_code 6 = .ok (.iload_n 1, 1) := by decide +kernel
theorem d_M_letter_7 : decode prog_13_method_21_code 7 = .ok (.invokevirtual 162, 3) := by decide +kernel
theorem d_M_letter_10 : decode prog_13_method_21_code 10 = .ok (.ifCond .eq 19, 3) := by decide +kernel
theorem d_M_letter_13 : decode prog_13_method_21_code 13 = .ok (.iload_n 2, 1) := by decide +kernel
theorem d_M_letter_14 : decode prog_13_method_21_code 14 = .ok (.ifCond .lt 15, 3) := by decide +kernel
theorem d_M_letter_17 : decode prog_13_method_21_code 17 = .ok (.iload_n 2, 1) := by decide +kernel
theorem d_M_letter_18 : decode prog_13_method_21_code 18 = .ok (.aload_n 0, 1) := by decide +kernel
theorem d_M_letter_19 : decode prog_13_method_21_code 19 = .ok (.getfield 18, 3) := by decide +kernel
theorem d_M_letter_22 : decode prog_13_method_21_code 22 = .ok (.iconst 4, 1) := by decide +kernel
theorem d_M_letter_23 : decode prog_13_method_21_code 23 = .ok (.aaload, 1) := by decide +kernel
theorem d_M_letter_24 : decode prog_13_method_21_code 24 = .ok (.iload_n 1, 1) := by decide +kernel
theorem d_M_letter_25 : decode prog_13_method_21_code 25 = .ok (.iaload, 1) := by decide +kernel
theorem d_M_letter_26 : decode prog_13_method_21_code 26 = .ok (.if_icmp .lt 7, 3) := by decide +kernel
theorem d_M_letter_29 : decode prog_13_method_21_code 29 = .ok (.iconst (-1), 1) := by decide +kernel
theorem d_M_letter_30 : decode prog_13_method_21_code 30 = .ok (.goto 14, 3) := by decide +kernel
theorem d_M_letter_33 : decode prog_13_method_21_code 33 = .ok (.aload_n 0, 1) := by decide +kernel
theorem d_M_letter_34 : decode prog_13_method_21_code 34 = .ok (.getfield 24, 3) := by decide +kernel
theorem d_M_letter_37 : decode prog_13_method_21_code 37 = .ok (.bipush 16, 2) := by decide +kernel
theorem d_M_letter_39 : decode prog_13_method_21_code 39 = .ok (.iload_n 1, 1) := by decide +kernel
theorem d_M_letter_40 : decode prog_13_method_21_code 40 = .ok (.imul, 1) := by decide +kernel
theorem d_M_letter_41 : decode prog_13_method_21_code 41 = .ok (.iload_n 2, 1) := by decide +kernel
theorem d_M_letter_42 : decode prog_13_method_21_code 42 = .ok (.iadd, 1) := by decide +kernel
theorem d_M_letter_43 : decode prog_13_method_21_code 43 = .ok (.iaload, 1) := by decide +kernel
theorem d_M_letter_44 : decode prog_13_method_21_code 44 = .ok (.ireturn, 1) := by decide +kernel
theorem d_M_column_0 : decode prog_13_method_22_code 0 = .ok (.aload_n 0, 1) := by decide +kernel
theorem d_M_column_1 : decode prog_13_method_22_code 1 = .ok (.iconst 0, 1) := by decide +kernel
theorem d_M_column_2 : decode prog_13_method_22_code 2 = .ok (.putfield 75, 3) := by decide +kernel
theorem d_M_column_5 : decode prog_13_method_22_code 5 = .ok (.iconst 0, 1) := by decide +kernel
theorem d_M_column_6 : decode prog_13_method_22_code 6 = .ok (.istore_n 2, 1) := by decide +kernel
theorem d_M_column_7 : decode prog_13_method_22_code 7 = .ok (.iload_n 2, 1) := by decide +kernel
theorem d_M_column_8 : decode prog_13_method_22_code 8 = .ok (.aload_n 0, 1) := by decide +kernel
theorem d_M_column_9 : decode prog_13_method_22_code 9 = .ok (.getfield 153, 3) := by decide +kernel
theorem d_M_column_12 : decode prog_13_method_22_code 12 = .ok (.if_icmp .ge 27, 3) := by decide +kernel
theorem d_M_column_15 : decode prog_13_method_22_code 15 = .ok (.iload_n 1, 1) := by decide +kernel
theorem d_M_column_16 : decode prog_13_method_22_code 16 = .ok (.ifCond .lt 17, 3) := by decide +kernel
theorem d_M_column_19 : decode prog_13_method_22_code 19 = .ok (.aload_n 0, 1) := by decide +kernel
theorem d_M_column_20 : decode prog_13_method_22_code 20 = .ok (.getfield 18, 3) := by decide +kernel
theorem d_M_column_23 : decode prog_13_method_22_code 23 = .ok (.iconst 3, 1) := by decide +kernel
theorem d_M_column_24 : decode prog_13_method_22_code 24 = .ok (.aaload, 1) := by decide +kernel
theorem d_M_column_25 : decode prog_13_method_22_code 25 = .ok (.iload_n 2, 1) := by decide +kernel
theorem d_M_column_26 : decode prog_13_method_22_code 26 = .ok (.iaload, 1) := by decide +kernel
theorem d_M_column_27 : decode prog_13_method_22_code 27 = .ok (.iload_n 1, 1) := by decide +kernel
theorem d_M_column_28 : decode prog_13_method_22_code 28 = .ok (.if_icmp .ne 5, 3) := by decide +kernel
theorem d_M_column_31 : decode prog_13_method_22_code 31 = .ok (.iload_n 2, 1) := by decide +kernel
theorem d_M_column_32 : decode prog_13_method_22_code 32 = .ok (.ireturn, 1) := by decide +kernel
theorem d_M_column_33 : decode prog_13_method_22_code 33 = .ok (.iinc 2 1, 3) := by decide +kernel
theorem d_M_column_36 : decode prog_13_method_22_code 36 = .ok (.goto (-29), 3) := by decide +kernel
theorem d_M_column_39 : decode prog_13_method_22_code 39 = .ok (.iconst (-1), 1) := by decide +kernel
theorem d_M_column_40 : decode prog_13_method_22_code 40 = .ok (.ireturn, 1) := by decide +kernel
theorem d_M_find_0 : decode prog_13_method_24_code 0 = .ok (.aload_n 0, 1) := by decide +kernel
theorem d_M_find_1 : decode prog_13_method_24_code 1 = .ok (.iconst 0, 1) := by decide +kernel
theorem d_M_find_2 : decode prog_13_method_24_code 2 = .ok (.putfield 75, 3) := by decide +kernel
theorem d_M_find_5 : decode prog_13_method_24_code 5 = .ok (.aload_n 0, 1) := by decide +kernel
theorem d_M_find_6 : decode prog_13_method_24_code 6 = .ok (.iload_n 2, 1) := by decide +kernel
theorem d_M_find_7 : decode prog_13_method_24_code 7 = .ok (.invokevirtual 150, 3) := by decide +kernel
theorem d_M_find_10 : decode prog_13_method_24_code 10 = .ok (.ifCond .ne 6, 3) := by decide +kernel
theorem d_M_find_13 : decode prog_13_method_24_code 13 = .ok (.bipush (-2), 2) := by decide +kernel
theorem d_M_find_15 : decode prog_13_method_24_code 15 = .ok (.ireturn, 1) := by decide +kernel
theorem d_M_find_16 : decode prog_13_method_24_code 16 = .ok (.iload_n 1, 1) := by decide +kernel
theorem d_M_find_17 : decode prog_13_method_24_code 17 = .ok (.iconst (-1), 1) := by decide +kernel
theorem d_M_find_18 : decode prog_13_method_24_code 18 = .ok (.if_icmp .eq 15, 3) := by decide +kernel
theorem d_M_find_21 : decode prog_13_method_24_code 21 = .ok (.aload_n 0, 1) := by decide +kernel
theorem d_M_find_22 : decode prog_13_method_24_code 22 = .ok (.iload_n 1, 1) := by decide +kernel
theorem d_M_find_23 : decode prog_13_method_24_code 23 = .ok (.invokevirtual 162, 3) := by decide +kernel
theorem d_M_find_26 : decode prog_13_method_24_code 26 = .ok (.ifCond .ne 7, 3) := by decide +kernel
theorem d_M_find_29 : decode prog_13_method_24_code 29 = .ok (.iconst (-1), 1) := by decide +kernel
theorem d_M_find_30 : decode prog_13_method_24_code 30 = .ok (.goto 10, 3) := by decide +kernel
theorem d_M_find_33 : decode prog_13_method_24_code 33 = .ok (.aload_n 0, 1) := by decide +kernel
theorem d_M_find_34 : decode prog_13_method_24_code 34 = .ok (.iload_n 1, 1) := by decide +kernel
theorem d_M_find_35 : decode prog_13_method_24_code 35 = .ok (.iconst 0, 1) := by decide +kernel
theorem d_M_find_36 : decode prog_13_method_24_code 36 = .ok (.iload_n 2, 1) := by decide +kernel
theorem d_M_find_37 : decode prog_13_method_24_code 37 = .ok (.invokevirtual 169, 3) := by decide +kernel
theorem d_M_find_40 : decode prog_13_method_24_code 40 = .ok (.ireturn, 1) := by decide +kernel
theorem d_M_named_0 : decode prog_13_method_23_code 0 = .ok (.iconst (-1), 1) := by decide +kernel
theorem d_M_named_1 : decode prog_13_method_23_code 1 = .ok (.istore 4, 2) := by decide +kernel
theorem d_M_named_3 : decode prog_13_method_23_code 3 = .ok (.iconst 0, 1) := by decide +kernel
theorem d_M_named_4 : decode prog_13_method_23_code 4 = .ok (.istore 5, 2) := by decide +kernel
theorem d_M_named_6 : decode prog_13_method_23_code 6 = .ok (.iload 5, 2) := by decide +kernel
theorem d_M_named_8 : decode prog_13_method_23_code 8 = .ok (.aload_n 0, 1) := by decide +kernel
theorem d_M_named_9 : decode prog_13_method_23_code 9 = .ok (.getfield 153, 3) := by decide +kernel
theorem d_M_named_12 : decode prog_13_method_23_code 12 = .ok (.if_icmp .ge 103, 3) := by decide +kernel
theorem d_M_named_15 : decode prog_13_method_23_code 15 = .ok (.aload_n 0, 1) := by decide +kernel
theorem d_M_named_16 : decode prog_13_method_23_code 16 = .ok (.getfield 18, 3) := by decide +kernel
theorem d_M_named_19 : decode prog_13_method_23_code 19 = .ok (.iconst 2, 1) := by decide +kernel
theorem d_M_named_20 : decode prog_13_method_23_code 20 = .ok (.aaload, 1) := by decide +kernel
theorem d_M_named_21 : decode prog_13_method_23_code 21 = .ok (.iload 5, 2) := by decide +kernel
theorem d_M_named_23 : decode prog_13_method_23_code 23 = .ok (.iaload, 1) := by decide +kernel
theorem d_M_named_24 : decode prog_13_method_23_code 24 = .ok (.iload_n 1, 1) := by decide +kernel
theorem d_M_named_25 : decode prog_13_method_23_code 25 = .ok (.if_icmp .ne 20, 3) := by decide +kernel
theorem d_M_named_28 : decode prog_13_method_23_code 28 = .ok (.aload_n 0, 1) := by decide +kernel
theorem d_M_named_29 : decode prog_13_method_23_code 29 = .ok (.getfield 18, 3) := by decide +kernel
theorem d_M_named_32 : decode prog_13_method_23_code 32 = .ok (.iconst 4, 1) := by decide +kernel
theorem d_M_named_33 : decode prog_13_method_23_code 33 = .ok (.aaload, 1) := by decide +kernel
theorem d_M_named_34 : decode prog_13_method_23_code 34 = .ok (.iload 5, 2) := by decide +kernel
theorem d_M_named_36 : decode prog_13_method_23_code 36 = .ok (.iaload, 1) := by decide +kernel
theorem d_M_named_37 : decode prog_13_method_23_code 37 = .ok (.iload_n 3, 1) := by decide +kernel
theorem d_M_named_38 : decode prog_13_method_23_code 38 = .ok (.if_icmp .ne 7, 3) := by decide +kernel
theorem d_M_named_41 : decode prog_13_method_23_code 41 = .ok (.iconst 1, 1) := by decide +kernel
theorem d_M_named_42 : decode prog_13_method_23_code 42 = .ok (.goto 4, 3) := by decide +kernel
theorem d_M_named_45 : decode prog_13_method_23_code 45 = .ok (.iconst 0, 1) := by decide +kernel
theorem d_M_named_46 : decode prog_13_method_23_code 46 = .ok (.istore 6, 2) := by decide +kernel
theorem d_M_named_48 : decode prog_13_method_23_code 48 = .ok (.iconst 0, 1) := by decide +kernel
theorem d_M_named_49 : decode prog_13_method_23_code 49 = .ok (.istore 7, 2) := by decide +kernel
theorem d_M_named_51 : decode prog_13_method_23_code 51 = .ok (.iload 6, 2) := by decide +kernel
theorem d_M_named_53 : decode prog_13_method_23_code 53 = .ok (.ifCond .eq 47, 3) := by decide +kernel
theorem d_M_named_56 : decode prog_13_method_23_code 56 = .ok (.iload 7, 2) := by decide +kernel
theorem d_M_named_58 : decode prog_13_method_23_code 58 = .ok (.iload_n 3, 1) := by decide +kernel
theorem d_M_named_59 : decode prog_13_method_23_code 59 = .ok (.if_icmp .ge 41, 3) := by decide +kernel
theorem d_M_named_62 : decode prog_13_method_23_code 62 = .ok (.aload_n 0, 1) := by decide +kernel
theorem d_M_named_63 : decode prog_13_method_23_code 63 = .ok (.getfield 24, 3) := by decide +kernel
theorem d_M_named_66 : decode prog_13_method_23_code 66 = .ok (.bipush 16, 2) := by decide +kernel
theorem d_M_named_68 : decode prog_13_method_23_code 68 = .ok (.iload 5, 2) := by decide +kernel
theorem d_M_named_70 : decode prog_13_method_23_code 70 = .ok (.imul, 1) := by decide +kernel
theorem d_M_named_71 : decode prog_13_method_23_code 71 = .ok (.iload 7, 2) := by decide +kernel
theorem d_M_named_73 : decode prog_13_method_23_code 73 = .ok (.iadd, 1) := by decide +kernel
theorem d_M_named_74 : decode prog_13_method_23_code 74 = .ok (.iaload, 1) := by decide +kernel
theorem d_M_named_75 : decode prog_13_method_23_code 75 = .ok (.aload_n 0, 1) := by decide +kernel
theorem d_M_named_76 : decode prog_13_method_23_code 76 = .ok (.getfield 13, 3) := by decide +kernel
theorem d_M_named_79 : decode prog_13_method_23_code 79 = .ok (.iload_n 2, 1) := by decide +kernel
theorem d_M_named_80 : decode prog_13_method_23_code 80 = .ok (.iload 7, 2) := by decide +kernel
theorem d_M_named_82 : decode prog_13_method_23_code 82 = .ok (.iadd, 1) := by decide +kernel
theorem d_M_named_83 : decode prog_13_method_23_code 83 = .ok (.iaload, 1) := by decide +kernel
theorem d_M_named_84 : decode prog_13_method_23_code 84 = .ok (.if_icmp .ne 7, 3) := by decide +kernel
theorem d_M_named_87 : decode prog_13_method_23_code 87 = .ok (.iconst 1, 1) := by decide +kernel
theorem d_M_named_88 : decode prog_13_method_23_code 88 = .ok (.goto 4, 3) := by decide +kernel
theorem d_M_named_91 : decode prog_13_method_23_code 91 = .ok (.iconst 0, 1) := by decide +kernel
theorem d_M_named_92 : decode prog_13_method_23_code 92 = .ok (.istore 6, 2) := by decide +kernel
theorem d_M_named_94 : decode prog_13_method_23_code 94 = .ok (.iinc 7 1, 3) := by decide +kernel
theorem d_M_named_97 : decode prog_13_method_23_code 97 = .ok (.goto (-46), 3) := by decide +kernel
theorem d_M_named_100 : decode prog_13_method_23_code 100 = .ok (.iload 6, 2) := by decide +kernel
theorem d_M_named_102 : decode prog_13_method_23_code 102 = .ok (.ifCond .eq 7, 3) := by decide +kernel
theorem d_M_named_105 : decode prog_13_method_23_code 105 = .ok (.iload 5, 2) := by decide +kernel
theorem d_M_named_107 : decode prog_13_method_23_code 107 = .ok (.istore 4, 2) := by decide +kernel
theorem d_M_named_109 : decode prog_13_method_23_code 109 = .ok (.iinc 5 1, 3) := by decide +kernel
theorem d_M_named_112 : decode prog_13_method_23_code 112 = .ok (.goto (-106), 3) := by decide +kernel
theorem d_M_named_115 : decode prog_13_method_23_code 115 = .ok (.iload 4, 2) := by decide +kernel
theorem d_M_named_117 : decode prog_13_method_23_code 117 = .ok (.ireturn, 1) := by decide +kernel
theorem d_M_record_0 : decode prog_13_method_36_code 0 = .ok (.aload_n 0, 1) := by decide +kernel
theorem d_M_record_1 : decode prog_13_method_36_code 1 = .ok (.iconst 0, 1) := by decide +kernel
theorem d_M_record_2 : decode prog_13_method_36_code 2 = .ok (.putfield 75, 3) := by decide +kernel
theorem d_M_record_5 : decode prog_13_method_36_code 5 = .ok (.aload_n 0, 1) := by decide +kernel
theorem d_M_record_6 : decode prog_13_method_36_code 6 = .ok (.iload_n 1, 1) := by decide +kernel
theorem d_M_record_7 : decode prog_13_method_36_code 7 = .ok (.invokevirtual 150, 3) := by decide +kernel
theorem d_M_record_10 : decode prog_13_method_36_code 10 = .ok (.ifCond .ne 6, 3) := by decide +kernel
theorem d_M_record_13 : decode prog_13_method_36_code 13 = .ok (.bipush (-2), 2) := by decide +kernel
theorem d_M_record_15 : decode prog_13_method_36_code 15 = .ok (.ireturn, 1) := by decide +kernel
theorem d_M_record_16 : decode prog_13_method_36_code 16 = .ok (.aload_n 0, 1) := by decide +kernel
theorem d_M_record_17 : decode prog_13_method_36_code 17 = .ok (.getfield 153, 3) := by decide +kernel
theorem d_M_record_20 : decode prog_13_method_36_code 20 = .ok (.ifCond .ne 5, 3) := by decide +kernel
theorem d_M_record_23 : decode prog_13_method_36_code 23 = .ok (.iconst 0, 1) := by decide +kernel
theorem d_M_record_24 : decode prog_13_method_36_code 24 = .ok (.ireturn, 1) := by decide +kernel
theorem d_M_record_25 : decode prog_13_method_36_code 25 = .ok (.aload_n 0, 1) := by decide +kernel
theorem d_M_record_26 : decode prog_13_method_36_code 26 = .ok (.getfield 46, 3) := by decide +kernel
theorem d_M_record_29 : decode prog_13_method_36_code 29 = .ok (.istore_n 2, 1) := by decide +kernel
theorem d_M_record_30 : decode prog_13_method_36_code 30 = .ok (.aload_n 0, 1) := by decide +kernel
theorem d_M_record_31 : decode prog_13_method_36_code 31 = .ok (.getfield 173, 3) := by decide +kernel
theorem d_M_record_34 : decode prog_13_method_36_code 34 = .ok (.istore_n 3, 1) := by decide +kernel
theorem d_M_record_35 : decode prog_13_method_36_code 35 = .ok (.iconst 0, 1) := by decide +kernel
theorem d_M_record_36 : decode prog_13_method_36_code 36 = .ok (.istore 4, 2) := by decide +kernel
theorem d_M_record_38 : decode prog_13_method_36_code 38 = .ok (.iload 4, 2) := by decide +kernel
theorem d_M_record_40 : decode prog_13_method_36_code 40 = .ok (.aload_n 0, 1) := by decide +kernel
theorem d_M_record_41 : decode prog_13_method_36_code 41 = .ok (.getfield 46, 3) := by decide +kernel
theorem d_M_record_44 : decode prog_13_method_36_code 44 = .ok (.if_icmp .ge 79, 3) := by decide +kernel
theorem d_M_record_47 : decode prog_13_method_36_code 47 = .ok (.aload_n 0, 1) := by decide +kernel
theorem d_M_record_48 : decode prog_13_method_36_code 48 = .ok (.getfield 53, 3) := by decide +kernel
theorem d_M_record_51 : decode prog_13_method_36_code 51 = .ok (.iload 4, 2) := by decide +kernel
theorem d_M_record_53 : decode prog_13_method_36_code 53 = .ok (.aload_n 0, 1) := by decide +kernel
theorem d_M_record_54 : decode prog_13_method_36_code 54 = .ok (.getfield 30, 3) := by decide +kernel
theorem d_M_record_57 : decode prog_13_method_36_code 57 = .ok (.iload 4, 2) := by decide +kernel
theorem d_M_record_59 : decode prog_13_method_36_code 59 = .ok (.iaload, 1) := by decide +kernel
theorem d_M_record_60 : decode prog_13_method_36_code 60 = .ok (.iastore, 1) := by decide +kernel
theorem d_M_record_61 : decode prog_13_method_36_code 61 = .ok (.aload_n 0, 1) := by decide +kernel
theorem d_M_record_62 : decode prog_13_method_36_code 62 = .ok (.getfield 56, 3) := by decide +kernel
theorem d_M_record_65 : decode prog_13_method_36_code 65 = .ok (.iload 4, 2) := by decide +kernel
theorem d_M_record_67 : decode prog_13_method_36_code 67 = .ok (.aload_n 0, 1) := by decide +kernel
theorem d_M_record_68 : decode prog_13_method_36_code 68 = .ok (.getfield 33, 3) := by decide +kernel
theorem d_M_record_71 : decode prog_13_method_36_code 71 = .ok (.iload 4, 2) := by decide +kernel
theorem d_M_record_73 : decode prog_13_method_36_code 73 = .ok (.iaload, 1) := by decide +kernel
theorem d_M_record_74 : decode prog_13_method_36_code 74 = .ok (.iastore, 1) := by decide +kernel
theorem d_M_record_75 : decode prog_13_method_36_code 75 = .ok (.aload_n 0, 1) := by decide +kernel
theorem d_M_record_76 : decode prog_13_method_36_code 76 = .ok (.getfield 59, 3) := by decide +kernel
theorem d_M_record_79 : decode prog_13_method_36_code 79 = .ok (.iload 4, 2) := by decide +kernel
theorem d_M_record_81 : decode prog_13_method_36_code 81 = .ok (.aload_n 0, 1) := by decide +kernel
theorem d_M_record_82 : decode prog_13_method_36_code 82 = .ok (.getfield 36, 3) := by decide +kernel
theorem d_M_record_85 : decode prog_13_method_36_code 85 = .ok (.iload 4, 2) := by decide +kernel
theorem d_M_record_87 : decode prog_13_method_36_code 87 = .ok (.iaload, 1) := by decide +kernel
theorem d_M_record_88 : decode prog_13_method_36_code 88 = .ok (.iastore, 1) := by decide +kernel
theorem d_M_record_89 : decode prog_13_method_36_code 89 = .ok (.aload_n 0, 1) := by decide +kernel
theorem d_M_record_90 : decode prog_13_method_36_code 90 = .ok (.getfield 62, 3) := by decide +kernel
theorem d_M_record_93 : decode prog_13_method_36_code 93 = .ok (.iload 4, 2) := by decide +kernel
theorem d_M_record_95 : decode prog_13_method_36_code 95 = .ok (.aload_n 0, 1) := by decide +kernel
theorem d_M_record_96 : decode prog_13_method_36_code 96 = .ok (.getfield 39, 3) := by decide +kernel
theorem d_M_record_99 : decode prog_13_method_36_code 99 = .ok (.iload 4, 2) := by decide +kernel
theorem d_M_record_101 : decode prog_13_method_36_code 101 = .ok (.iaload, 1) := by decide +kernel
theorem d_M_record_102 : decode prog_13_method_36_code 102 = .ok (.iastore, 1) := by decide +kernel
theorem d_M_record_103 : decode prog_13_method_36_code 103 = .ok (.aload_n 0, 1) := by decide +kernel
theorem d_M_record_104 : decode prog_13_method_36_code 104 = .ok (.getfield 65, 3) := by decide +kernel
theorem d_M_record_107 : decode prog_13_method_36_code 107 = .ok (.iload 4, 2) := by decide +kernel
theorem d_M_record_109 : decode prog_13_method_36_code 109 = .ok (.aload_n 0, 1) := by decide +kernel
theorem d_M_record_110 : decode prog_13_method_36_code 110 = .ok (.getfield 42, 3) := by decide +kernel
theorem d_M_record_113 : decode prog_13_method_36_code 113 = .ok (.iload 4, 2) := by decide +kernel
theorem d_M_record_115 : decode prog_13_method_36_code 115 = .ok (.laload, 1) := by decide +kernel
theorem d_M_record_116 : decode prog_13_method_36_code 116 = .ok (.lastore, 1) := by decide +kernel
theorem d_M_record_117 : decode prog_13_method_36_code 117 = .ok (.iinc 4 1, 3) := by decide +kernel
theorem d_M_record_120 : decode prog_13_method_36_code 120 = .ok (.goto (-82), 3) := by decide +kernel
theorem d_M_record_123 : decode prog_13_method_36_code 123 = .ok (.iconst 0, 1) := by decide +kernel
theorem d_M_record_124 : decode prog_13_method_36_code 124 = .ok (.istore 4, 2) := by decide +kernel
theorem d_M_record_126 : decode prog_13_method_36_code 126 = .ok (.iload 4, 2) := by decide +kernel
theorem d_M_record_128 : decode prog_13_method_36_code 128 = .ok (.aload_n 0, 1) := by decide +kernel
theorem d_M_record_129 : decode prog_13_method_36_code 129 = .ok (.getfield 173, 3) := by decide +kernel
theorem d_M_record_132 : decode prog_13_method_36_code 132 = .ok (.if_icmp .ge 23, 3) := by decide +kernel
theorem d_M_record_135 : decode prog_13_method_36_code 135 = .ok (.aload_n 0, 1) := by decide +kernel
theorem d_M_record_136 : decode prog_13_method_36_code 136 = .ok (.getfield 68, 3) := by decide +kernel
theorem d_M_record_139 : decode prog_13_method_36_code 139 = .ok (.iload 4, 2) := by decide +kernel
theorem d_M_record_141 : decode prog_13_method_36_code 141 = .ok (.aload_n 0, 1) := by decide +kernel
theorem d_M_record_142 : decode prog_13_method_36_code 142 = .ok (.getfield 50, 3) := by decide +kernel
theorem d_M_record_145 : decode prog_13_method_36_code 145 = .ok (.iload 4, 2) := by decide +kernel
theorem d_M_record_147 : decode prog_13_method_36_code 147 = .ok (.iaload, 1) := by decide +kernel
theorem d_M_record_148 : decode prog_13_method_36_code 148 = .ok (.iastore, 1) := by decide +kernel
theorem d_M_record_149 : decode prog_13_method_36_code 149 = .ok (.iinc 4 1, 3) := by decide +kernel
theorem d_M_record_152 : decode prog_13_method_36_code 152 = .ok (.goto (-26), 3) := by decide +kernel
theorem d_M_record_155 : decode prog_13_method_36_code 155 = .ok (.aload_n 0, 1) := by decide +kernel
theorem d_M_record_156 : decode prog_13_method_36_code 156 = .ok (.invokevirtual 159, 3) := by decide +kernel
theorem d_M_record_159 : decode prog_13_method_36_code 159 = .ok (.aload_n 0, 1) := by decide +kernel
theorem d_M_record_160 : decode prog_13_method_36_code 160 = .ok (.iconst 0, 1) := by decide +kernel
theorem d_M_record_161 : decode prog_13_method_36_code 161 = .ok (.iconst (-1), 1) := by decide +kernel
theorem d_M_record_162 : decode prog_13_method_36_code 162 = .ok (.invokevirtual 197, 3) := by decide +kernel
theorem d_M_record_165 : decode prog_13_method_36_code 165 = .ok (.aload_n 0, 1) := by decide +kernel
theorem d_M_record_166 : decode prog_13_method_36_code 166 = .ok (.invokevirtual 108, 3) := by decide +kernel
theorem d_M_record_169 : decode prog_13_method_36_code 169 = .ok (.aload_n 0, 1) := by decide +kernel
theorem d_M_record_170 : decode prog_13_method_36_code 170 = .ok (.getfield 87, 3) := by decide +kernel
theorem d_M_record_173 : decode prog_13_method_36_code 173 = .ok (.iconst (-1), 1) := by decide +kernel
theorem d_M_record_174 : decode prog_13_method_36_code 174 = .ok (.if_icmp .ne 22, 3) := by decide +kernel
theorem d_M_record_177 : decode prog_13_method_36_code 177 = .ok (.aload_n 0, 1) := by decide +kernel
theorem d_M_record_178 : decode prog_13_method_36_code 178 = .ok (.getfield 84, 3) := by decide +kernel
theorem d_M_record_181 : decode prog_13_method_36_code 181 = .ok (.aload_n 0, 1) := by decide +kernel
theorem d_M_record_182 : decode prog_13_method_36_code 182 = .ok (.getfield 81, 3) := by decide +kernel
theorem d_M_record_185 : decode prog_13_method_36_code 185 = .ok (.if_icmp .ge 11, 3) := by decide +kernel
theorem d_M_record_188 : decode prog_13_method_36_code 188 = .ok (.aload_n 0, 1) := by decide +kernel
theorem d_M_record_189 : decode prog_13_method_36_code 189 = .ok (.aload_n 0, 1) := by decide +kernel
theorem d_M_record_190 : decode prog_13_method_36_code 190 = .ok (.getfield 84, 3) := by decide +kernel
theorem d_M_record_193 : decode prog_13_method_36_code 193 = .ok (.invokevirtual 114, 3) := by decide +kernel
theorem d_M_record_196 : decode prog_13_method_36_code 196 = .ok (.aload_n 0, 1) := by decide +kernel
theorem d_M_record_197 : decode prog_13_method_36_code 197 = .ok (.getfield 87, 3) := by decide +kernel
theorem d_M_record_200 : decode prog_13_method_36_code 200 = .ok (.iconst (-1), 1) := by decide +kernel
theorem d_M_record_201 : decode prog_13_method_36_code 201 = .ok (.if_icmp .ne 5, 3) := by decide +kernel
theorem d_M_record_204 : decode prog_13_method_36_code 204 = .ok (.iconst (-1), 1) := by decide +kernel
theorem d_M_record_205 : decode prog_13_method_36_code 205 = .ok (.ireturn, 1) := by decide +kernel
theorem d_M_record_206 : decode prog_13_method_36_code 206 = .ok (.aload_n 0, 1) := by decide +kernel
theorem d_M_record_207 : decode prog_13_method_36_code 207 = .ok (.iload_n 2, 1) := by decide +kernel
theorem d_M_record_208 : decode prog_13_method_36_code 208 = .ok (.putfield 46, 3) := by decide +kernel
theorem d_M_record_211 : decode prog_13_method_36_code 211 = .ok (.aload_n 0, 1) := by decide +kernel
theorem d_M_record_212 : decode prog_13_method_36_code 212 = .ok (.iload_n 3, 1) := by decide +kernel
theorem d_M_record_213 : decode prog_13_method_36_code 213 = .ok (.putfield 173, 3) := by decide +kernel
theorem d_M_record_216 : decode prog_13_method_36_code 216 = .ok (.iconst 0, 1) := by decide +kernel
theorem d_M_record_217 : decode prog_13_method_36_code 217 = .ok (.istore 4, 2) := by decide +kernel
theorem d_M_record_219 : decode prog_13_method_36_code 219 = .ok (.iload 4, 2) := by decide +kernel
theorem d_M_record_221 : decode prog_13_method_36_code 221 = .ok (.aload_n 0, 1) := by decide +kernel
theorem d_M_record_222 : decode prog_13_method_36_code 222 = .ok (.getfield 46, 3) := by decide +kernel
theorem d_M_record_225 : decode prog_13_method_36_code 225 = .ok (.if_icmp .ge 79, 3) := by decide +kernel
theorem d_M_record_228 : decode prog_13_method_36_code 228 = .ok (.aload_n 0, 1) := by decide +kernel
theorem d_M_record_229 : decode prog_13_method_36_code 229 = .ok (.getfield 30, 3) := by decide +kernel
theorem d_M_record_232 : decode prog_13_method_36_code 232 = .ok (.iload 4, 2) := by decide +kernel
theorem d_M_record_234 : decode prog_13_method_36_code 234 = .ok (.aload_n 0, 1) := by decide +kernel
theorem d_M_record_235 : decode prog_13_method_36_code 235 = .ok (.getfield 53, 3) := by decide +kernel
theorem d_M_record_238 : decode prog_13_method_36_code 238 = .ok (.iload 4, 2) := by decide +kernel
theorem d_M_record_240 : decode prog_13_method_36_code 240 = .ok (.iaload, 1) := by decide +kernel
theorem d_M_record_241 : decode prog_13_method_36_code 241 = .ok (.iastore, 1) := by decide +kernel
theorem d_M_record_242 : decode prog_13_method_36_code 242 = .ok (.aload_n 0, 1) := by decide +kernel
theorem d_M_record_243 : decode prog_13_method_36_code 243 = .ok (.getfield 33, 3) := by decide +kernel
theorem d_M_record_246 : decode prog_13_method_36_code 246 = .ok (.iload 4, 2) := by decide +kernel
theorem d_M_record_248 : decode prog_13_method_36_code 248 = .ok (.aload_n 0, 1) := by decide +kernel
theorem d_M_record_249 : decode prog_13_method_36_code 249 = .ok (.getfield 56, 3) := by decide +kernel
theorem d_M_record_252 : decode prog_13_method_36_code 252 = .ok (.iload 4, 2) := by decide +kernel
theorem d_M_record_254 : decode prog_13_method_36_code 254 = .ok (.iaload, 1) := by decide +kernel
theorem d_M_record_255 : decode prog_13_method_36_code 255 = .ok (.iastore, 1) := by decide +kernel
theorem d_M_record_256 : decode prog_13_method_36_code 256 = .ok (.aload_n 0, 1) := by decide +kernel
theorem d_M_record_257 : decode prog_13_method_36_code 257 = .ok (.getfield 36, 3) := by decide +kernel
theorem d_M_record_260 : decode prog_13_method_36_code 260 = .ok (.iload 4, 2) := by decide +kernel
theorem d_M_record_262 : decode prog_13_method_36_code 262 = .ok (.aload_n 0, 1) := by decide +kernel
theorem d_M_record_263 : decode prog_13_method_36_code 263 = .ok (.getfield 59, 3) := by decide +kernel
theorem d_M_record_266 : decode prog_13_method_36_code 266 = .ok (.iload 4, 2) := by decide +kernel
theorem d_M_record_268 : decode prog_13_method_36_code 268 = .ok (.iaload, 1) := by decide +kernel
theorem d_M_record_269 : decode prog_13_method_36_code 269 = .ok (.iastore, 1) := by decide +kernel
theorem d_M_record_270 : decode prog_13_method_36_code 270 = .ok (.aload_n 0, 1) := by decide +kernel
theorem d_M_record_271 : decode prog_13_method_36_code 271 = .ok (.getfield 39, 3) := by decide +kernel
theorem d_M_record_274 : decode prog_13_method_36_code 274 = .ok (.iload 4, 2) := by decide +kernel
theorem d_M_record_276 : decode prog_13_method_36_code 276 = .ok (.aload_n 0, 1) := by decide +kernel
theorem d_M_record_277 : decode prog_13_method_36_code 277 = .ok (.getfield 62, 3) := by decide +kernel
theorem d_M_record_280 : decode prog_13_method_36_code 280 = .ok (.iload 4, 2) := by decide +kernel
theorem d_M_record_282 : decode prog_13_method_36_code 282 = .ok (.iaload, 1) := by decide +kernel
theorem d_M_record_283 : decode prog_13_method_36_code 283 = .ok (.iastore, 1) := by decide +kernel
theorem d_M_record_284 : decode prog_13_method_36_code 284 = .ok (.aload_n 0, 1) := by decide +kernel
theorem d_M_record_285 : decode prog_13_method_36_code 285 = .ok (.getfield 42, 3) := by decide +kernel
theorem d_M_record_288 : decode prog_13_method_36_code 288 = .ok (.iload 4, 2) := by decide +kernel
theorem d_M_record_290 : decode prog_13_method_36_code 290 = .ok (.aload_n 0, 1) := by decide +kernel
theorem d_M_record_291 : decode prog_13_method_36_code 291 = .ok (.getfield 65, 3) := by decide +kernel
theorem d_M_record_294 : decode prog_13_method_36_code 294 = .ok (.iload 4, 2) := by decide +kernel
theorem d_M_record_296 : decode prog_13_method_36_code 296 = .ok (.laload, 1) := by decide +kernel
theorem d_M_record_297 : decode prog_13_method_36_code 297 = .ok (.lastore, 1) := by decide +kernel
theorem d_M_record_298 : decode prog_13_method_36_code 298 = .ok (.iinc 4 1, 3) := by decide +kernel
theorem d_M_record_301 : decode prog_13_method_36_code 301 = .ok (.goto (-82), 3) := by decide +kernel
theorem d_M_record_304 : decode prog_13_method_36_code 304 = .ok (.iconst 0, 1) := by decide +kernel
theorem d_M_record_305 : decode prog_13_method_36_code 305 = .ok (.istore 4, 2) := by decide +kernel
theorem d_M_record_307 : decode prog_13_method_36_code 307 = .ok (.iload 4, 2) := by decide +kernel
theorem d_M_record_309 : decode prog_13_method_36_code 309 = .ok (.aload_n 0, 1) := by decide +kernel
theorem d_M_record_310 : decode prog_13_method_36_code 310 = .ok (.getfield 173, 3) := by decide +kernel
theorem d_M_record_313 : decode prog_13_method_36_code 313 = .ok (.if_icmp .ge 23, 3) := by decide +kernel
theorem d_M_record_316 : decode prog_13_method_36_code 316 = .ok (.aload_n 0, 1) := by decide +kernel
theorem d_M_record_317 : decode prog_13_method_36_code 317 = .ok (.getfield 50, 3) := by decide +kernel
theorem d_M_record_320 : decode prog_13_method_36_code 320 = .ok (.iload 4, 2) := by decide +kernel
theorem d_M_record_322 : decode prog_13_method_36_code 322 = .ok (.aload_n 0, 1) := by decide +kernel
theorem d_M_record_323 : decode prog_13_method_36_code 323 = .ok (.getfield 68, 3) := by decide +kernel
theorem d_M_record_326 : decode prog_13_method_36_code 326 = .ok (.iload 4, 2) := by decide +kernel
theorem d_M_record_328 : decode prog_13_method_36_code 328 = .ok (.iaload, 1) := by decide +kernel
theorem d_M_record_329 : decode prog_13_method_36_code 329 = .ok (.iastore, 1) := by decide +kernel
theorem d_M_record_330 : decode prog_13_method_36_code 330 = .ok (.iinc 4 1, 3) := by decide +kernel
theorem d_M_record_333 : decode prog_13_method_36_code 333 = .ok (.goto (-26), 3) := by decide +kernel
theorem d_M_record_336 : decode prog_13_method_36_code 336 = .ok (.aload_n 0, 1) := by decide +kernel
theorem d_M_record_337 : decode prog_13_method_36_code 337 = .ok (.getfield 87, 3) := by decide +kernel
theorem d_M_record_340 : decode prog_13_method_36_code 340 = .ok (.ireturn, 1) := by decide +kernel
theorem d_M_readGroup_0 : decode prog_13_method_34_code 0 = .ok (.aload_n 0, 1) := by decide +kernel
theorem d_M_readGroup_1 : decode prog_13_method_34_code 1 = .ok (.bipush 123, 2) := by decide +kernel
theorem d_M_readGroup_3 : decode prog_13_method_34_code 3 = .ok (.invokevirtual 143, 3) := by decide +kernel
theorem d_M_readGroup_6 : decode prog_13_method_34_code 6 = .ok (.aload_n 0, 1) := by decide +kernel
theorem d_M_readGroup_7 : decode prog_13_method_34_code 7 = .ok (.invokevirtual 108, 3) := by decide +kernel
theorem d_M_readGroup_10 : decode prog_13_method_34_code 10 = .ok (.iconst 0, 1) := by decide +kernel
theorem d_M_readGroup_11 : decode prog_13_method_34_code 11 = .ok (.istore_n 3, 1) := by decide +kernel
theorem d_M_readGroup_12 : decode prog_13_method_34_code 12 = .ok (.iconst 1, 1) := by decide +kernel
theorem d_M_readGroup_13 : decode prog_13_method_34_code 13 = .ok (.istore 4, 2) := by decide +kernel
theorem d_M_readGroup_15 : decode prog_13_method_34_code 15 = .ok (.aload_n 0, 1) := by decide +kernel
theorem d_M_readGroup_16 : decode prog_13_method_34_code 16 = .ok (.getfield 87, 3) := by decide +kernel
theorem d_M_readGroup_19 : decode prog_13_method_34_code 19 = .ok (.iconst (-1), 1) := by decide +kernel
theorem d_M_readGroup_20 : decode prog_13_method_34_code 20 = .ok (.if_icmp .ne 183, 3) := by decide +kernel
theorem d_M_readGroup_23 : decode prog_13_method_34_code 23 = .ok (.aload_n 0, 1) := by decide +kernel
theorem d_M_readGroup_24 : decode prog_13_method_34_code 24 = .ok (.invokevirtual 108, 3) := by decide +kernel
theorem d_M_readGroup_27 : decode prog_13_method_34_code 27 = .ok (.iload 4, 2) := by decide +kernel
theorem d_M_readGroup_29 : decode prog_13_method_34_code 29 = .ok (.ifCond .eq 19, 3) := by decide +kernel
theorem d_M_readGroup_32 : decode prog_13_method_34_code 32 = .ok (.aload_n 0, 1) := by decide +kernel
theorem d_M_readGroup_33 : decode prog_13_method_34_code 33 = .ok (.invokevirtual 90, 3) := by decide +kernel
theorem d_M_readGroup_36 : decode prog_13_method_34_code 36 = .ok (.bipush 125, 2) := by decide +kernel
theorem d_M_readGroup_38 : decode prog_13_method_34_code 38 = .ok (.if_icmp .ne 10, 3) := by decide +kernel
theorem d_M_readGroup_41 : decode prog_13_method_34_code 41 = .ok (.aload_n 0, 1) := by decide +kernel
theorem d_M_readGroup_42 : decode prog_13_method_34_code 42 = .ok (.iload_n 2, 1) := by decide +kernel
theorem d_M_readGroup_43 : decode prog_13_method_34_code 43 = .ok (.iload_n 3, 1) := by decide +kernel
theorem d_M_readGroup_44 : decode prog_13_method_34_code 44 = .ok (.invokevirtual 214, 3) := by decide +kernel
theorem d_M_readGroup_47 : decode prog_13_method_34_code 47 = .ok (.return_, 1) := by decide +kernel
theorem d_M_readGroup_48 : decode prog_13_method_34_code 48 = .ok (.iconst 0, 1) := by decide +kernel
theorem d_M_readGroup_49 : decode prog_13_method_34_code 49 = .ok (.istore 4, 2) := by decide +kernel
theorem d_M_readGroup_51 : decode prog_13_method_34_code 51 = .ok (.aload_n 0, 1) := by decide +kernel
theorem d_M_readGroup_52 : decode prog_13_method_34_code 52 = .ok (.invokevirtual 101, 3) := by decide +kernel
theorem d_M_readGroup_55 : decode prog_13_method_34_code 55 = .ok (.istore 5, 2) := by decide +kernel
theorem d_M_readGroup_57 : decode prog_13_method_34_code 57 = .ok (.iload 5, 2) := by decide +kernel
theorem d_M_readGroup_59 : decode prog_13_method_34_code 59 = .ok (.ifCond .ne 7, 3) := by decide +kernel
theorem d_M_readGroup_62 : decode prog_13_method_34_code 62 = .ok (.iconst (-1), 1) := by decide +kernel
theorem d_M_readGroup_63 : decode prog_13_method_34_code 63 = .ok (.goto 14, 3) := by decide +kernel
theorem d_M_readGroup_66 : decode prog_13_method_34_code 66 = .ok (.aload_n 0, 1) := by decide +kernel
theorem d_M_readGroup_67 : decode prog_13_method_34_code 67 = .ok (.iload_n 2, 1) := by decide +kernel
theorem d_M_readGroup_68 : decode prog_13_method_34_code 68 = .ok (.aload_n 0, 1) := by decide +kernel
theorem d_M_readGroup_69 : decode prog_13_method_34_code 69 = .ok (.getfield 84, 3) := by decide +kernel
theorem d_M_readGroup_72 : decode prog_13_method_34_code 72 = .ok (.iload 5, 2) := by decide +kernel
theorem d_M_readGroup_74 : decode prog_13_method_34_code 74 = .ok (.invokevirtual 169, 3) := by decide +kernel
theorem d_M_readGroup_77 : decode prog_13_method_34_code 77 = .ok (.istore 6, 2) := by decide +kernel
theorem d_M_readGroup_79 : decode prog_13_method_34_code 79 = .ok (.iload 6, 2) := by decide +kernel
theorem d_M_readGroup_81 : decode prog_13_method_34_code 81 = .ok (.iload_n 3, 1) := by decide +kernel
theorem d_M_readGroup_82 : decode prog_13_method_34_code 82 = .ok (.if_icmp .lt 14, 3) := by decide +kernel
theorem d_M_readGroup_85 : decode prog_13_method_34_code 85 = .ok (.aload_n 0, 1) := by decide +kernel
theorem d_M_readGroup_86 : decode prog_13_method_34_code 86 = .ok (.iload_n 2, 1) := by decide +kernel
theorem d_M_readGroup_87 : decode prog_13_method_34_code 87 = .ok (.iload_n 3, 1) := by decide +kernel
theorem d_M_readGroup_88 : decode prog_13_method_34_code 88 = .ok (.iload 6, 2) := by decide +kernel
theorem d_M_readGroup_90 : decode prog_13_method_34_code 90 = .ok (.invokevirtual 217, 3) := by decide +kernel
theorem d_M_readGroup_93 : decode prog_13_method_34_code 93 = .ok (.ifCond .eq 12, 3) := by decide +kernel
theorem d_M_readGroup_96 : decode prog_13_method_34_code 96 = .ok (.aload_n 0, 1) := by decide +kernel
theorem d_M_readGroup_97 : decode prog_13_method_34_code 97 = .ok (.aload_n 0, 1) := by decide +kernel
theorem d_M_readGroup_98 : decode prog_13_method_34_code 98 = .ok (.getfield 84, 3) := by decide +kernel
theorem d_M_readGroup_101 : decode prog_13_method_34_code 101 = .ok (.invokevirtual 114, 3) := by decide +kernel
theorem d_M_readGroup_104 : decode prog_13_method_34_code 104 = .ok (.return_, 1) := by decide +kernel
theorem d_M_readGroup_105 : decode prog_13_method_34_code 105 = .ok (.aload_n 0, 1) := by decide +kernel
theorem d_M_readGroup_106 : decode prog_13_method_34_code 106 = .ok (.dup, 1) := by decide +kernel
theorem d_M_readGroup_107 : decode prog_13_method_34_code 107 = .ok (.getfield 84, 3) := by decide +kernel
theorem d_M_readGroup_110 : decode prog_13_method_34_code 110 = .ok (.iload 5, 2) := by decide +kernel
theorem d_M_readGroup_112 : decode prog_13_method_34_code 112 = .ok (.iadd, 1) := by decide +kernel
theorem d_M_readGroup_113 : decode prog_13_method_34_code 113 = .ok (.putfield 84, 3) := by decide +kernel
theorem d_M_readGroup_116 : decode prog_13_method_34_code 116 = .ok (.iload 6, 2) := by decide +kernel
theorem d_M_readGroup_118 : decode prog_13_method_34_code 118 = .ok (.iconst 1, 1) := by decide +kernel
theorem d_M_readGroup_119 : decode prog_13_method_34_code 119 = .ok (.iadd, 1) := by decide +kernel
theorem d_M_readGroup_120 : decode prog_13_method_34_code 120 = .ok (.istore_n 3, 1) := by decide +kernel
theorem d_M_readGroup_121 : decode prog_13_method_34_code 121 = .ok (.aload_n 0, 1) := by decide +kernel
theorem d_M_readGroup_122 : decode prog_13_method_34_code 122 = .ok (.bipush 58, 2) := by decide +kernel
theorem d_M_readGroup_124 : decode prog_13_method_34_code 124 = .ok (.invokevirtual 143, 3) := by decide +kernel
theorem d_M_readGroup_127 : decode prog_13_method_34_code 127 = .ok (.aload_n 0, 1) := by decide +kernel
theorem d_M_readGroup_128 : decode prog_13_method_34_code 128 = .ok (.getfield 87, 3) := by decide +kernel
theorem d_M_readGroup_131 : decode prog_13_method_34_code 131 = .ok (.iconst (-1), 1) := by decide +kernel
theorem d_M_readGroup_132 : decode prog_13_method_34_code 132 = .ok (.if_icmp .eq 4, 3) := by decide +kernel
theorem d_M_readGroup_135 : decode prog_13_method_34_code 135 = .ok (.return_, 1) := by decide +kernel
theorem d_M_readGroup_136 : decode prog_13_method_34_code 136 = .ok (.aload_n 0, 1) := by decide +kernel
theorem d_M_readGroup_137 : decode prog_13_method_34_code 137 = .ok (.getfield 18, 3) := by decide +kernel
theorem d_M_readGroup_140 : decode prog_13_method_34_code 140 = .ok (.iconst 0, 1) := by decide +kernel
theorem d_M_readGroup_141 : decode prog_13_method_34_code 141 = .ok (.aaload, 1) := by decide +kernel
theorem d_M_readGroup_142 : decode prog_13_method_34_code 142 = .ok (.iload 6, 2) := by decide +kernel
theorem d_M_readGroup_144 : decode prog_13_method_34_code 144 = .ok (.iaload, 1) := by decide +kernel
theorem d_M_readGroup_145 : decode prog_13_method_34_code 145 = .ok (.iconst 2, 1) := by decide +kernel
theorem d_M_readGroup_146 : decode prog_13_method_34_code 146 = .ok (.if_icmp .ne 13, 3) := by decide +kernel
theorem d_M_readGroup_149 : decode prog_13_method_34_code 149 = .ok (.aload_n 0, 1) := by decide +kernel
theorem d_M_readGroup_150 : decode prog_13_method_34_code 150 = .ok (.iload_n 1, 1) := by decide +kernel
theorem d_M_readGroup_151 : decode prog_13_method_34_code 151 = .ok (.iload 6, 2) := by decide +kernel
theorem d_M_readGroup_153 : decode prog_13_method_34_code 153 = .ok (.invokevirtual 221, 3) := by decide +kernel
theorem d_M_readGroup_156 : decode prog_13_method_34_code 156 = .ok (.goto 10, 3) := by decide +kernel
theorem d_M_readGroup_159 : decode prog_13_method_34_code 159 = .ok (.aload_n 0, 1) := by decide +kernel
theorem d_M_readGroup_160 : decode prog_13_method_34_code 160 = .ok (.iload_n 1, 1) := by decide +kernel
theorem d_M_readGroup_161 : decode prog_13_method_34_code 161 = .ok (.iload 6, 2) := by decide +kernel
theorem d_M_readGroup_163 : decode prog_13_method_34_code 163 = .ok (.invokevirtual 211, 3) := by decide +kernel
theorem d_M_readGroup_166 : decode prog_13_method_34_code 166 = .ok (.aload_n 0, 1) := by decide +kernel
theorem d_M_readGroup_167 : decode prog_13_method_34_code 167 = .ok (.invokevirtual 108, 3) := by decide +kernel
theorem d_M_readGroup_170 : decode prog_13_method_34_code 170 = .ok (.aload_n 0, 1) := by decide +kernel
theorem d_M_readGroup_171 : decode prog_13_method_34_code 171 = .ok (.getfield 87, 3) := by decide +kernel
theorem d_M_readGroup_174 : decode prog_13_method_34_code 174 = .ok (.iconst (-1), 1) := by decide +kernel
theorem d_M_readGroup_175 : decode prog_13_method_34_code 175 = .ok (.if_icmp .ne 19, 3) := by decide +kernel
theorem d_M_readGroup_178 : decode prog_13_method_34_code 178 = .ok (.aload_n 0, 1) := by decide +kernel
theorem d_M_readGroup_179 : decode prog_13_method_34_code 179 = .ok (.invokevirtual 90, 3) := by decide +kernel
theorem d_M_readGroup_182 : decode prog_13_method_34_code 182 = .ok (.bipush 125, 2) := by decide +kernel
theorem d_M_readGroup_184 : decode prog_13_method_34_code 184 = .ok (.if_icmp .ne 10, 3) := by decide +kernel
theorem d_M_readGroup_187 : decode prog_13_method_34_code 187 = .ok (.aload_n 0, 1) := by decide +kernel
theorem d_M_readGroup_188 : decode prog_13_method_34_code 188 = .ok (.iload_n 2, 1) := by decide +kernel
theorem d_M_readGroup_189 : decode prog_13_method_34_code 189 = .ok (.iload_n 3, 1) := by decide +kernel
theorem d_M_readGroup_190 : decode prog_13_method_34_code 190 = .ok (.invokevirtual 214, 3) := by decide +kernel
theorem d_M_readGroup_193 : decode prog_13_method_34_code 193 = .ok (.return_, 1) := by decide +kernel
theorem d_M_readGroup_194 : decode prog_13_method_34_code 194 = .ok (.aload_n 0, 1) := by decide +kernel
theorem d_M_readGroup_195 : decode prog_13_method_34_code 195 = .ok (.bipush 44, 2) := by decide +kernel
theorem d_M_readGroup_197 : decode prog_13_method_34_code 197 = .ok (.invokevirtual 143, 3) := by decide +kernel
theorem d_M_readGroup_200 : decode prog_13_method_34_code 200 = .ok (.goto (-185), 3) := by decide +kernel
theorem d_M_readGroup_203 : decode prog_13_method_34_code 203 = .ok (.return_, 1) := by decide +kernel
theorem d_M_end_0 : decode prog_13_method_35_code 0 = .ok (.aload_n 0, 1) := by decide +kernel
theorem d_M_end_1 : decode prog_13_method_35_code 1 = .ok (.iload_n 1, 1) := by decide +kernel
theorem d_M_end_2 : decode prog_13_method_35_code 2 = .ok (.iload_n 2, 1) := by decide +kernel
theorem d_M_end_3 : decode prog_13_method_35_code 3 = .ok (.aload_n 0, 1) := by decide +kernel
theorem d_M_end_4 : decode prog_13_method_35_code 4 = .ok (.getfield 153, 3) := by decide +kernel
theorem d_M_end_7 : decode prog_13_method_35_code 7 = .ok (.invokevirtual 217, 3) := by decide +kernel
theorem d_M_end_10 : decode prog_13_method_35_code 10 = .ok (.ifCond .eq 11, 3) := by decide +kernel
theorem d_M_end_13 : decode prog_13_method_35_code 13 = .ok (.aload_n 0, 1) := by decide +kernel
theorem d_M_end_14 : decode prog_13_method_35_code 14 = .ok (.aload_n 0, 1) := by decide +kernel
theorem d_M_end_15 : decode prog_13_method_35_code 15 = .ok (.getfield 84, 3) := by decide +kernel
theorem d_M_end_18 : decode prog_13_method_35_code 18 = .ok (.invokevirtual 114, 3) := by decide +kernel
theorem d_M_end_21 : decode prog_13_method_35_code 21 = .ok (.aload_n 0, 1) := by decide +kernel
