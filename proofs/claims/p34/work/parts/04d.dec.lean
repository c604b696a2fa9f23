theorem dL_feeds_0 : decode cL_feeds 0 = .ok (.iconst 0, 1) := by decide +kernel
theorem dL_feeds_1 : decode cL_feeds 1 = .ok (.istore_n 2, 1) := by decide +kernel
theorem dL_feeds_2 : decode cL_feeds 2 = .ok (.iconst 0, 1) := by decide +kernel
theorem dL_feeds_3 : decode cL_feeds 3 = .ok (.istore_n 3, 1) := by decide +kernel
theorem dL_feeds_4 : decode cL_feeds 4 = .ok (.iload_n 3, 1) := by decide +kernel
theorem dL_feeds_5 : decode cL_feeds 5 = .ok (.aload_n 1, 1) := by decide +kernel
theorem dL_feeds_6 : decode cL_feeds 6 = .ok (.invokevirtual 7, 3) := by decide +kernel
theorem dL_feeds_9 : decode cL_feeds 9 = .ok (.if_icmp .ge 105, 3) := by decide +kernel
theorem dL_feeds_12 : decode cL_feeds 12 = .ok (.iconst 5, 1) := by decide +kernel
theorem dL_feeds_13 : decode cL_feeds 13 = .ok (.newarray .int, 2) := by decide +kernel
theorem dL_feeds_15 : decode cL_feeds 15 = .ok (.astore 4, 2) := by decide +kernel
theorem dL_feeds_17 : decode cL_feeds 17 = .ok (.iconst 0, 1) := by decide +kernel
theorem dL_feeds_18 : decode cL_feeds 18 = .ok (.istore 5, 2) := by decide +kernel
theorem dL_feeds_20 : decode cL_feeds 20 = .ok (.iload 5, 2) := by decide +kernel
theorem dL_feeds_22 : decode cL_feeds 22 = .ok (.bipush 20, 2) := by decide +kernel
theorem dL_feeds_24 : decode cL_feeds 24 = .ok (.if_icmp .ge 51, 3) := by decide +kernel
theorem dL_feeds_27 : decode cL_feeds 27 = .ok (.aload 4, 2) := by decide +kernel
theorem dL_feeds_29 : decode cL_feeds 29 = .ok (.iload 5, 2) := by decide +kernel
theorem dL_feeds_31 : decode cL_feeds 31 = .ok (.iconst 4, 1) := by decide +kernel
theorem dL_feeds_32 : decode cL_feeds 32 = .ok (.idiv, 1) := by decide +kernel
theorem dL_feeds_33 : decode cL_feeds 33 = .ok (.aload 4, 2) := by decide +kernel
theorem dL_feeds_35 : decode cL_feeds 35 = .ok (.iload 5, 2) := by decide +kernel
theorem dL_feeds_37 : decode cL_feeds 37 = .ok (.iconst 4, 1) := by decide +kernel
theorem dL_feeds_38 : decode cL_feeds 38 = .ok (.idiv, 1) := by decide +kernel
theorem dL_feeds_39 : decode cL_feeds 39 = .ok (.iaload, 1) := by decide +kernel
theorem dL_feeds_40 : decode cL_feeds 40 = .ok (.bipush 8, 2) := by decide +kernel
theorem dL_feeds_42 : decode cL_feeds 42 = .ok (.ishl, 1) := by decide +kernel
theorem dL_feeds_43 : decode cL_feeds 43 = .ok (.iload_n 3, 1) := by decide +kernel
theorem dL_feeds_44 : decode cL_feeds 44 = .ok (.iload 5, 2) := by decide +kernel
theorem dL_feeds_46 : decode cL_feeds 46 = .ok (.iadd, 1) := by decide +kernel
theorem dL_feeds_47 : decode cL_feeds 47 = .ok (.aload_n 1, 1) := by decide +kernel
theorem dL_feeds_48 : decode cL_feeds 48 = .ok (.invokevirtual 7, 3) := by decide +kernel
theorem dL_feeds_51 : decode cL_feeds 51 = .ok (.if_icmp .ge 14, 3) := by decide +kernel
theorem dL_feeds_54 : decode cL_feeds 54 = .ok (.aload_n 1, 1) := by decide +kernel
theorem dL_feeds_55 : decode cL_feeds 55 = .ok (.iload_n 3, 1) := by decide +kernel
theorem dL_feeds_56 : decode cL_feeds 56 = .ok (.iload 5, 2) := by decide +kernel
theorem dL_feeds_58 : decode cL_feeds 58 = .ok (.iadd, 1) := by decide +kernel
theorem dL_feeds_59 : decode cL_feeds 59 = .ok (.invokevirtual 13, 3) := by decide +kernel
theorem dL_feeds_62 : decode cL_feeds 62 = .ok (.goto 5, 3) := by decide +kernel
theorem dL_feeds_65 : decode cL_feeds 65 = .ok (.bipush 32, 2) := by decide +kernel
theorem dL_feeds_67 : decode cL_feeds 67 = .ok (.ior, 1) := by decide +kernel
theorem dL_feeds_68 : decode cL_feeds 68 = .ok (.iastore, 1) := by decide +kernel
theorem dL_feeds_69 : decode cL_feeds 69 = .ok (.iinc 5 1, 3) := by decide +kernel
theorem dL_feeds_72 : decode cL_feeds 72 = .ok (.goto (-52), 3) := by decide +kernel
theorem dL_feeds_75 : decode cL_feeds 75 = .ok (.iinc 2 20, 3) := by decide +kernel
theorem dL_feeds_78 : decode cL_feeds 78 = .ok (.aload_n 0, 1) := by decide +kernel
theorem dL_feeds_79 : decode cL_feeds 79 = .ok (.aload 4, 2) := by decide +kernel
theorem dL_feeds_81 : decode cL_feeds 81 = .ok (.iconst 0, 1) := by decide +kernel
theorem dL_feeds_82 : decode cL_feeds 82 = .ok (.iaload, 1) := by decide +kernel
theorem dL_feeds_83 : decode cL_feeds 83 = .ok (.aload 4, 2) := by decide +kernel
theorem dL_feeds_85 : decode cL_feeds 85 = .ok (.iconst 1, 1) := by decide +kernel
theorem dL_feeds_86 : decode cL_feeds 86 = .ok (.iaload, 1) := by decide +kernel
theorem dL_feeds_87 : decode cL_feeds 87 = .ok (.aload 4, 2) := by decide +kernel
theorem dL_feeds_89 : decode cL_feeds 89 = .ok (.iconst 2, 1) := by decide +kernel
theorem dL_feeds_90 : decode cL_feeds 90 = .ok (.iaload, 1) := by decide +kernel
theorem dL_feeds_91 : decode cL_feeds 91 = .ok (.aload 4, 2) := by decide +kernel
theorem dL_feeds_93 : decode cL_feeds 93 = .ok (.iconst 3, 1) := by decide +kernel
theorem dL_feeds_94 : decode cL_feeds 94 = .ok (.iaload, 1) := by decide +kernel
theorem dL_feeds_95 : decode cL_feeds 95 = .ok (.aload 4, 2) := by decide +kernel
theorem dL_feeds_97 : decode cL_feeds 97 = .ok (.iconst 4, 1) := by decide +kernel
theorem dL_feeds_98 : decode cL_feeds 98 = .ok (.iaload, 1) := by decide +kernel
theorem dL_feeds_99 : decode cL_feeds 99 = .ok (.invokevirtual 17, 3) := by decide +kernel
theorem dL_feeds_102 : decode cL_feeds 102 = .ok (.iload_n 2, 1) := by decide +kernel
theorem dL_feeds_103 : decode cL_feeds 103 = .ok (.if_icmp .eq 5, 3) := by decide +kernel
theorem dL_feeds_106 : decode cL_feeds 106 = .ok (.iconst 0, 1) := by decide +kernel
theorem dL_feeds_107 : decode cL_feeds 107 = .ok (.ireturn, 1) := by decide +kernel
theorem dL_feeds_108 : decode cL_feeds 108 = .ok (.iinc 3 20, 3) := by decide +kernel
theorem dL_feeds_111 : decode cL_feeds 111 = .ok (.goto (-107), 3) := by decide +kernel
theorem dL_feeds_114 : decode cL_feeds 114 = .ok (.iconst 1, 1) := by decide +kernel
theorem dL_feeds_115 : decode cL_feeds 115 = .ok (.ireturn, 1) := by decide +kernel
theorem dL_draw_0 : decode cL_draw 0 = .ok (.aload_n 0, 1) := by decide +kernel
theorem dL_draw_1 : decode cL_draw 1 = .ok (.iconst 0, 1) := by decide +kernel
theorem dL_draw_2 : decode cL_draw 2 = .ok (.aload_n 0, 1) := by decide +kernel
theorem dL_draw_3 : decode cL_draw 3 = .ok (.iconst 0, 1) := by decide +kernel
theorem dL_draw_4 : decode cL_draw 4 = .ok (.iaload, 1) := by decide +kernel
theorem dL_draw_5 : decode cL_draw 5 = .ok (.ldc 23, 2) := by decide +kernel
theorem dL_draw_7 : decode cL_draw 7 = .ok (.imul, 1) := by decide +kernel
theorem dL_draw_8 : decode cL_draw 8 = .ok (.ldc 24, 2) := by decide +kernel
theorem dL_draw_10 : decode cL_draw 10 = .ok (.iadd, 1) := by decide +kernel
theorem dL_draw_11 : decode cL_draw 11 = .ok (.iastore, 1) := by decide +kernel
theorem dL_draw_12 : decode cL_draw 12 = .ok (.aload_n 0, 1) := by decide +kernel
theorem dL_draw_13 : decode cL_draw 13 = .ok (.iconst 0, 1) := by decide +kernel
theorem dL_draw_14 : decode cL_draw 14 = .ok (.iaload, 1) := by decide +kernel
theorem dL_draw_15 : decode cL_draw 15 = .ok (.bipush 8, 2) := by decide +kernel
theorem dL_draw_17 : decode cL_draw 17 = .ok (.iushr, 1) := by decide +kernel
theorem dL_draw_18 : decode cL_draw 18 = .ok (.iload_n 1, 1) := by decide +kernel
theorem dL_draw_19 : decode cL_draw 19 = .ok (.irem, 1) := by decide +kernel
theorem dL_draw_20 : decode cL_draw 20 = .ok (.ireturn, 1) := by decide +kernel
theorem dL_law_0 : decode cL_law 0 = .ok (.new 18, 3) := by decide +kernel
theorem dL_law_3 : decode cL_law 3 = .ok (.dup, 1) := by decide +kernel
theorem dL_law_4 : decode cL_law 4 = .ok (.invokespecial 25, 3) := by decide +kernel
theorem dL_law_7 : decode cL_law 7 = .ok (.astore_n 1, 1) := by decide +kernel
theorem dL_law_8 : decode cL_law 8 = .ok (.aload_n 0, 1) := by decide +kernel
theorem dL_law_9 : decode cL_law 9 = .ok (.arraylength, 1) := by decide +kernel
theorem dL_law_10 : decode cL_law 10 = .ok (.istore_n 2, 1) := by decide +kernel
theorem dL_law_11 : decode cL_law 11 = .ok (.iconst 0, 1) := by decide +kernel
theorem dL_law_12 : decode cL_law 12 = .ok (.istore_n 3, 1) := by decide +kernel
theorem dL_law_13 : decode cL_law 13 = .ok (.iload_n 3, 1) := by decide +kernel
theorem dL_law_14 : decode cL_law 14 = .ok (.iload_n 2, 1) := by decide +kernel
theorem dL_law_15 : decode cL_law 15 = .ok (.if_icmp .ge 32, 3) := by decide +kernel
theorem dL_law_18 : decode cL_law 18 = .ok (.iload_n 3, 1) := by decide +kernel
theorem dL_law_19 : decode cL_law 19 = .ok (.iconst 4, 1) := by decide +kernel
theorem dL_law_20 : decode cL_law 20 = .ok (.if_icmp .ge 27, 3) := by decide +kernel
theorem dL_law_23 : decode cL_law 23 = .ok (.aload_n 1, 1) := by decide +kernel
theorem dL_law_24 : decode cL_law 24 = .ok (.iconst 1, 1) := by decide +kernel
theorem dL_law_25 : decode cL_law 25 = .ok (.newarray .int, 2) := by decide +kernel
theorem dL_law_27 : decode cL_law 27 = .ok (.dup, 1) := by decide +kernel
theorem dL_law_28 : decode cL_law 28 = .ok (.iconst 0, 1) := by decide +kernel
theorem dL_law_29 : decode cL_law 29 = .ok (.aload_n 0, 1) := by decide +kernel
theorem dL_law_30 : decode cL_law 30 = .ok (.iload_n 3, 1) := by decide +kernel
theorem dL_law_31 : decode cL_law 31 = .ok (.iaload, 1) := by decide +kernel
theorem dL_law_32 : decode cL_law 32 = .ok (.iastore, 1) := by decide +kernel
theorem dL_law_33 : decode cL_law 33 = .ok (.invokestatic 26, 3) := by decide +kernel
theorem dL_law_36 : decode cL_law 36 = .ok (.ifCond .ne 5, 3) := by decide +kernel
theorem dL_law_39 : decode cL_law 39 = .ok (.iconst 0, 1) := by decide +kernel
theorem dL_law_40 : decode cL_law 40 = .ok (.ireturn, 1) := by decide +kernel
theorem dL_law_41 : decode cL_law 41 = .ok (.iinc 3 1, 3) := by decide +kernel
theorem dL_law_44 : decode cL_law 44 = .ok (.goto (-31), 3) := by decide +kernel
theorem dL_law_47 : decode cL_law 47 = .ok (.iconst 1, 1) := by decide +kernel
theorem dL_law_48 : decode cL_law 48 = .ok (.ireturn, 1) := by decide +kernel
theorem dL_name_0 : decode cL_name 0 = .ok (.bipush 97, 2) := by decide +kernel
theorem dL_name_2 : decode cL_name 2 = .ok (.iload_n 0, 1) := by decide +kernel
theorem dL_name_3 : decode cL_name 3 = .ok (.iadd, 1) := by decide +kernel
theorem dL_name_4 : decode cL_name 4 = .ok (.i2c, 1) := by decide +kernel
theorem dL_name_5 : decode cL_name 5 = .ok (.invokestatic 32, 3) := by decide +kernel
theorem dL_name_8 : decode cL_name 8 = .ok (.areturn, 1) := by decide +kernel
theorem dL_season_0 : decode cL_season 0 = .ok (.new 36, 3) := by decide +kernel
theorem dL_season_3 : decode cL_season 3 = .ok (.dup, 1) := by decide +kernel
theorem dL_season_4 : decode cL_season 4 = .ok (.invokespecial 38, 3) := by decide +kernel
theorem dL_season_7 : decode cL_season 7 = .ok (.astore_n 2, 1) := by decide +kernel
theorem dL_season_8 : decode cL_season 8 = .ok (.aload_n 2, 1) := by decide +kernel
theorem dL_season_9 : decode cL_season 9 = .ok (.iconst 2, 1) := by decide +kernel
theorem dL_season_10 : decode cL_season 10 = .ok (.aload_n 1, 1) := by decide +kernel
theorem dL_season_11 : decode cL_season 11 = .ok (.bipush 6, 2) := by decide +kernel
theorem dL_season_13 : decode cL_season 13 = .ok (.invokestatic 39, 3) := by decide +kernel
theorem dL_season_16 : decode cL_season 16 = .ok (.iadd, 1) := by decide +kernel
theorem dL_season_17 : decode cL_season 17 = .ok (.putfield 43, 3) := by decide +kernel
theorem dL_season_20 : decode cL_season 20 = .ok (.aload_n 0, 1) := by decide +kernel
theorem dL_season_21 : decode cL_season 21 = .ok (.ldc 47, 2) := by decide +kernel
theorem dL_season_23 : decode cL_season 23 = .ok (.invokevirtual 49, 3) := by decide +kernel
theorem dL_season_26 : decode cL_season 26 = .ok (.aload_n 2, 1) := by decide +kernel
theorem dL_season_27 : decode cL_season 27 = .ok (.getfield 43, 3) := by decide +kernel
theorem dL_season_30 : decode cL_season 30 = .ok (.invokevirtual 54, 3) := by decide +kernel
theorem dL_season_33 : decode cL_season 33 = .ok (.bipush 59, 2) := by decide +kernel
theorem dL_season_35 : decode cL_season 35 = .ok (.invokevirtual 57, 3) := by decide +kernel
theorem dL_season_38 : decode cL_season 38 = .ok (.pop, 1) := by decide +kernel
theorem dL_season_39 : decode cL_season 39 = .ok (.aload_n 2, 1) := by decide +kernel
theorem dL_season_40 : decode cL_season 40 = .ok (.iconst 1, 1) := by decide +kernel
theorem dL_season_41 : decode cL_season 41 = .ok (.aload_n 1, 1) := by decide +kernel
theorem dL_season_42 : decode cL_season 42 = .ok (.iconst 3, 1) := by decide +kernel
theorem dL_season_43 : decode cL_season 43 = .ok (.invokestatic 39, 3) := by decide +kernel
theorem dL_season_46 : decode cL_season 46 = .ok (.iadd, 1) := by decide +kernel
theorem dL_season_47 : decode cL_season 47 = .ok (.putfield 60, 3) := by decide +kernel
theorem dL_season_50 : decode cL_season 50 = .ok (.iconst 0, 1) := by decide +kernel
theorem dL_season_51 : decode cL_season 51 = .ok (.istore_n 3, 1) := by decide +kernel
theorem dL_season_52 : decode cL_season 52 = .ok (.iload_n 3, 1) := by decide +kernel
theorem dL_season_53 : decode cL_season 53 = .ok (.aload_n 2, 1) := by decide +kernel
theorem dL_season_54 : decode cL_season 54 = .ok (.getfield 60, 3) := by decide +kernel
theorem dL_season_57 : decode cL_season 57 = .ok (.if_icmp .ge 53, 3) := by decide +kernel
theorem dL_season_60 : decode cL_season 60 = .ok (.aload_n 2, 1) := by decide +kernel
theorem dL_season_61 : decode cL_season 61 = .ok (.getfield 63, 3) := by decide +kernel
theorem dL_season_64 : decode cL_season 64 = .ok (.iload_n 3, 1) := by decide +kernel
theorem dL_season_65 : decode cL_season 65 = .ok (.aload_n 1, 1) := by decide +kernel
theorem dL_season_66 : decode cL_season 66 = .ok (.iconst 3, 1) := by decide +kernel
theorem dL_season_67 : decode cL_season 67 = .ok (.invokestatic 39, 3) := by decide +kernel
theorem dL_season_70 : decode cL_season 70 = .ok (.iastore, 1) := by decide +kernel
theorem dL_season_71 : decode cL_season 71 = .ok (.aload_n 0, 1) := by decide +kernel
theorem dL_season_72 : decode cL_season 72 = .ok (.ldc 67, 2) := by decide +kernel
theorem dL_season_74 : decode cL_season 74 = .ok (.invokevirtual 49, 3) := by decide +kernel
theorem dL_season_77 : decode cL_season 77 = .ok (.iload_n 3, 1) := by decide +kernel
theorem dL_season_78 : decode cL_season 78 = .ok (.invokestatic 69, 3) := by decide +kernel
theorem dL_season_81 : decode cL_season 81 = .ok (.invokevirtual 49, 3) := by decide +kernel
theorem dL_season_84 : decode cL_season 84 = .ok (.bipush 32, 2) := by decide +kernel
theorem dL_season_86 : decode cL_season 86 = .ok (.invokevirtual 57, 3) := by decide +kernel
theorem dL_season_89 : decode cL_season 89 = .ok (.aload_n 2, 1) := by decide +kernel
theorem dL_season_90 : decode cL_season 90 = .ok (.getfield 63, 3) := by decide +kernel
theorem dL_season_93 : decode cL_season 93 = .ok (.iload_n 3, 1) := by decide +kernel
theorem dL_season_94 : decode cL_season 94 = .ok (.iaload, 1) := by decide +kernel
theorem dL_season_95 : decode cL_season 95 = .ok (.invokevirtual 54, 3) := by decide +kernel
theorem dL_season_98 : decode cL_season 98 = .ok (.bipush 59, 2) := by decide +kernel
theorem dL_season_100 : decode cL_season 100 = .ok (.invokevirtual 57, 3) := by decide +kernel
theorem dL_season_103 : decode cL_season 103 = .ok (.pop, 1) := by decide +kernel
theorem dL_season_104 : decode cL_season 104 = .ok (.iinc 3 1, 3) := by decide +kernel
theorem dL_season_107 : decode cL_season 107 = .ok (.goto (-55), 3) := by decide +kernel
theorem dL_season_110 : decode cL_season 110 = .ok (.aload_n 2, 1) := by decide +kernel
theorem dL_season_111 : decode cL_season 111 = .ok (.iconst 2, 1) := by decide +kernel
theorem dL_season_112 : decode cL_season 112 = .ok (.aload_n 1, 1) := by decide +kernel
theorem dL_season_113 : decode cL_season 113 = .ok (.bipush 6, 2) := by decide +kernel
theorem dL_season_115 : decode cL_season 115 = .ok (.invokestatic 39, 3) := by decide +kernel
theorem dL_season_118 : decode cL_season 118 = .ok (.iadd, 1) := by decide +kernel
theorem dL_season_119 : decode cL_season 119 = .ok (.putfield 73, 3) := by decide +kernel
theorem dL_season_122 : decode cL_season 122 = .ok (.iconst 0, 1) := by decide +kernel
theorem dL_season_123 : decode cL_season 123 = .ok (.istore_n 3, 1) := by decide +kernel
theorem dL_season_124 : decode cL_season 124 = .ok (.iload_n 3, 1) := by decide +kernel
theorem dL_season_125 : decode cL_season 125 = .ok (.aload_n 2, 1) := by decide +kernel
theorem dL_season_126 : decode cL_season 126 = .ok (.getfield 73, 3) := by decide +kernel
theorem dL_season_129 : decode cL_season 129 = .ok (.if_icmp .ge 236, 3) := by decide +kernel
theorem dL_season_132 : decode cL_season 132 = .ok (.aload_n 2, 1) := by decide +kernel
theorem dL_season_133 : decode cL_season 133 = .ok (.getfield 76, 3) := by decide +kernel
theorem dL_season_136 : decode cL_season 136 = .ok (.iload_n 3, 1) := by decide +kernel
theorem dL_season_137 : decode cL_season 137 = .ok (.aload_n 1, 1) := by decide +kernel
theorem dL_season_138 : decode cL_season 138 = .ok (.bipush 6, 2) := by decide +kernel
theorem dL_season_140 : decode cL_season 140 = .ok (.invokestatic 39, 3) := by decide +kernel
theorem dL_season_143 : decode cL_season 143 = .ok (.iastore, 1) := by decide +kernel
theorem dL_season_144 : decode cL_season 144 = .ok (.aload_n 2, 1) := by decide +kernel
theorem dL_season_145 : decode cL_season 145 = .ok (.getfield 79, 3) := by decide +kernel
theorem dL_season_148 : decode cL_season 148 = .ok (.iload_n 3, 1) := by decide +kernel
theorem dL_season_149 : decode cL_season 149 = .ok (.aload_n 1, 1) := by decide +kernel
theorem dL_season_150 : decode cL_season 150 = .ok (.bipush 90, 2) := by decide +kernel
theorem dL_season_152 : decode cL_season 152 = .ok (.invokestatic 39, 3) := by decide +kernel
theorem dL_season_155 : decode cL_season 155 = .ok (.iastore, 1) := by decide +kernel
theorem dL_season_156 : decode cL_season 156 = .ok (.aload_n 0, 1) := by decide +kernel
theorem dL_season_157 : decode cL_season 157 = .ok (.ldc 82, 2) := by decide +kernel
theorem dL_season_159 : decode cL_season 159 = .ok (.invokevirtual 49, 3) := by decide +kernel
theorem dL_season_162 : decode cL_season 162 = .ok (.iload_n 3, 1) := by decide +kernel
theorem dL_season_163 : decode cL_season 163 = .ok (.invokestatic 69, 3) := by decide +kernel
theorem dL_season_166 : decode cL_season 166 = .ok (.invokevirtual 49, 3) := by decide +kernel
theorem dL_season_169 : decode cL_season 169 = .ok (.bipush 32, 2) := by decide +kernel
theorem dL_season_171 : decode cL_season 171 = .ok (.invokevirtual 57, 3) := by decide +kernel
theorem dL_season_174 : decode cL_season 174 = .ok (.aload_n 2, 1) := by decide +kernel
theorem dL_season_175 : decode cL_season 175 = .ok (.getfield 76, 3) := by decide +kernel
theorem dL_season_178 : decode cL_season 178 = .ok (.iload_n 3, 1) := by decide +kernel
theorem dL_season_179 : decode cL_season 179 = .ok (.iaload, 1) := by decide +kernel
theorem dL_season_180 : decode cL_season 180 = .ok (.invokevirtual 54, 3) := by decide +kernel
theorem dL_season_183 : decode cL_season 183 = .ok (.bipush 32, 2) := by decide +kernel
theorem dL_season_185 : decode cL_season 185 = .ok (.invokevirtual 57, 3) := by decide +kernel
theorem dL_season_188 : decode cL_season 188 = .ok (.aload_n 2, 1) := by decide +kernel
theorem dL_season_189 : decode cL_season 189 = .ok (.getfield 79, 3) := by decide +kernel
theorem dL_season_192 : decode cL_season 192 = .ok (.iload_n 3, 1) := by decide +kernel
theorem dL_season_193 : decode cL_season 193 = .ok (.iaload, 1) := by decide +kernel
theorem dL_season_194 : decode cL_season 194 = .ok (.invokevirtual 54, 3) := by decide +kernel
theorem dL_season_197 : decode cL_season 197 = .ok (.pop, 1) := by decide +kernel
theorem dL_season_198 : decode cL_season 198 = .ok (.aload_n 1, 1) := by decide +kernel
theorem dL_season_199 : decode cL_season 199 = .ok (.iconst 4, 1) := by decide +kernel
theorem dL_season_200 : decode cL_season 200 = .ok (.aload_n 2, 1) := by decide +kernel
theorem dL_season_201 : decode cL_season 201 = .ok (.getfield 84, 3) := by decide +kernel
theorem dL_season_204 : decode cL_season 204 = .ok (.iconst 1, 1) := by decide +kernel
theorem dL_season_205 : decode cL_season 205 = .ok (.iadd, 1) := by decide +kernel
theorem dL_season_206 : decode cL_season 206 = .ok (.invokestatic 87, 3) := by decide +kernel
theorem dL_season_209 : decode cL_season 209 = .ok (.invokestatic 39, 3) := by decide +kernel
theorem dL_season_212 : decode cL_season 212 = .ok (.istore 4, 2) := by decide +kernel
theorem dL_season_214 : decode cL_season 214 = .ok (.aload_n 2, 1) := by decide +kernel
theorem dL_season_215 : decode cL_season 215 = .ok (.aload_n 2, 1) := by decide +kernel
theorem dL_season_216 : decode cL_season 216 = .ok (.getfield 84, 3) := by decide +kernel
theorem dL_season_219 : decode cL_season 219 = .ok (.iload 4, 2) := by decide +kernel
theorem dL_season_221 : decode cL_season 221 = .ok (.iconst 1, 1) := by decide +kernel
theorem dL_season_222 : decode cL_season 222 = .ok (.iadd, 1) := by decide +kernel
theorem dL_season_223 : decode cL_season 223 = .ok (.invokestatic 93, 3) := by decide +kernel
theorem dL_season_226 : decode cL_season 226 = .ok (.putfield 84, 3) := by decide +kernel
theorem dL_season_229 : decode cL_season 229 = .ok (.aload_n 0, 1) := by decide +kernel
theorem dL_season_230 : decode cL_season 230 = .ok (.bipush 32, 2) := by decide +kernel
theorem dL_season_232 : decode cL_season 232 = .ok (.invokevirtual 57, 3) := by decide +kernel
theorem dL_season_235 : decode cL_season 235 = .ok (.iload 4, 2) := by decide +kernel
theorem dL_season_237 : decode cL_season 237 = .ok (.invokestatic 69, 3) := by decide +kernel
theorem dL_season_240 : decode cL_season 240 = .ok (.invokevirtual 49, 3) := by decide +kernel
theorem dL_season_243 : decode cL_season 243 = .ok (.pop, 1) := by decide +kernel
theorem dL_season_244 : decode cL_season 244 = .ok (.aload_n 1, 1) := by decide +kernel
theorem dL_season_245 : decode cL_season 245 = .ok (.iconst 4, 1) := by decide +kernel
theorem dL_season_246 : decode cL_season 246 = .ok (.aload_n 2, 1) := by decide +kernel
theorem dL_season_247 : decode cL_season 247 = .ok (.getfield 84, 3) := by decide +kernel
theorem dL_season_250 : decode cL_season 250 = .ok (.iconst 1, 1) := by decide +kernel
theorem dL_season_251 : decode cL_season 251 = .ok (.iadd, 1) := by decide +kernel
theorem dL_season_252 : decode cL_season 252 = .ok (.invokestatic 87, 3) := by decide +kernel
theorem dL_season_255 : decode cL_season 255 = .ok (.invokestatic 39, 3) := by decide +kernel
theorem dL_season_258 : decode cL_season 258 = .ok (.istore 5, 2) := by decide +kernel
theorem dL_season_260 : decode cL_season 260 = .ok (.iload 5, 2) := by decide +kernel
theorem dL_season_262 : decode cL_season 262 = .ok (.iload 4, 2) := by decide +kernel
theorem dL_season_264 : decode cL_season 264 = .ok (.if_icmp .eq 15, 3) := by decide +kernel
theorem dL_season_267 : decode cL_season 267 = .ok (.aload_n 1, 1) := by decide +kernel
theorem dL_season_268 : decode cL_season 268 = .ok (.iconst 2, 1) := by decide +kernel
theorem dL_season_269 : decode cL_season 269 = .ok (.invokestatic 39, 3) := by decide +kernel
theorem dL_season_272 : decode cL_season 272 = .ok (.ifCond .ne 7, 3) := by decide +kernel
theorem dL_season_275 : decode cL_season 275 = .ok (.iconst 1, 1) := by decide +kernel
theorem dL_season_276 : decode cL_season 276 = .ok (.goto 4, 3) := by decide +kernel
theorem dL_season_279 : decode cL_season 279 = .ok (.iconst 0, 1) := by decide +kernel
theorem dL_season_280 : decode cL_season 280 = .ok (.istore 6, 2) := by decide +kernel
theorem dL_season_282 : decode cL_season 282 = .ok (.iload 6, 2) := by decide +kernel
theorem dL_season_284 : decode cL_season 284 = .ok (.ifCond .eq 33, 3) := by decide +kernel
theorem dL_season_287 : decode cL_season 287 = .ok (.aload_n 2, 1) := by decide +kernel
theorem dL_season_288 : decode cL_season 288 = .ok (.aload_n 2, 1) := by decide +kernel
theorem dL_season_289 : decode cL_season 289 = .ok (.getfield 84, 3) := by decide +kernel
theorem dL_season_292 : decode cL_season 292 = .ok (.iload 5, 2) := by decide +kernel
theorem dL_season_294 : decode cL_season 294 = .ok (.iconst 1, 1) := by decide +kernel
theorem dL_season_295 : decode cL_season 295 = .ok (.iadd, 1) := by decide +kernel
theorem dL_season_296 : decode cL_season 296 = .ok (.invokestatic 93, 3) := by decide +kernel
theorem dL_season_299 : decode cL_season 299 = .ok (.putfield 84, 3) := by decide +kernel
theorem dL_season_302 : decode cL_season 302 = .ok (.aload_n 0, 1) := by decide +kernel
theorem dL_season_303 : decode cL_season 303 = .ok (.bipush 32, 2) := by decide +kernel
theorem dL_season_305 : decode cL_season 305 = .ok (.invokevirtual 57, 3) := by decide +kernel
theorem dL_season_308 : decode cL_season 308 = .ok (.iload 5, 2) := by decide +kernel
theorem dL_season_310 : decode cL_season 310 = .ok (.invokestatic 69, 3) := by decide +kernel
theorem dL_season_313 : decode cL_season 313 = .ok (.invokevirtual 49, 3) := by decide +kernel
theorem dL_season_316 : decode cL_season 316 = .ok (.pop, 1) := by decide +kernel
theorem dL_season_317 : decode cL_season 317 = .ok (.aload_n 2, 1) := by decide +kernel
theorem dL_season_318 : decode cL_season 318 = .ok (.getfield 96, 3) := by decide +kernel
theorem dL_season_321 : decode cL_season 321 = .ok (.iload_n 3, 1) := by decide +kernel
theorem dL_season_322 : decode cL_season 322 = .ok (.iload 6, 2) := by decide +kernel
theorem dL_season_324 : decode cL_season 324 = .ok (.ifCond .eq 19, 3) := by decide +kernel
theorem dL_season_327 : decode cL_season 327 = .ok (.iconst 2, 1) := by decide +kernel
theorem dL_season_328 : decode cL_season 328 = .ok (.newarray .int, 2) := by decide +kernel
theorem dL_season_330 : decode cL_season 330 = .ok (.dup, 1) := by decide +kernel
theorem dL_season_331 : decode cL_season 331 = .ok (.iconst 0, 1) := by decide +kernel
theorem dL_season_332 : decode cL_season 332 = .ok (.iload 4, 2) := by decide +kernel
theorem dL_season_334 : decode cL_season 334 = .ok (.iastore, 1) := by decide +kernel
theorem dL_season_335 : decode cL_season 335 = .ok (.dup, 1) := by decide +kernel
theorem dL_season_336 : decode cL_season 336 = .ok (.iconst 1, 1) := by decide +kernel
theorem dL_season_337 : decode cL_season 337 = .ok (.iload 5, 2) := by decide +kernel
theorem dL_season_339 : decode cL_season 339 = .ok (.iastore, 1) := by decide +kernel
theorem dL_season_340 : decode cL_season 340 = .ok (.goto 11, 3) := by decide +kernel
theorem dL_season_343 : decode cL_season 343 = .ok (.iconst 1, 1) := by decide +kernel
theorem dL_season_344 : decode cL_season 344 = .ok (.newarray .int, 2) := by decide +kernel
theorem dL_season_346 : decode cL_season 346 = .ok (.dup, 1) := by decide +kernel
theorem dL_season_347 : decode cL_season 347 = .ok (.iconst 0, 1) := by decide +kernel
theorem dL_season_348 : decode cL_season 348 = .ok (.iload 4, 2) := by decide +kernel
theorem dL_season_350 : decode cL_season 350 = .ok (.iastore, 1) := by decide +kernel
theorem dL_season_351 : decode cL_season 351 = .ok (.aastore, 1) := by decide +kernel
theorem dL_season_352 : decode cL_season 352 = .ok (.aload_n 0, 1) := by decide +kernel
theorem dL_season_353 : decode cL_season 353 = .ok (.bipush 59, 2) := by decide +kernel
theorem dL_season_355 : decode cL_season 355 = .ok (.invokevirtual 57, 3) := by decide +kernel
theorem dL_season_358 : decode cL_season 358 = .ok (.pop, 1) := by decide +kernel
theorem dL_season_359 : decode cL_season 359 = .ok (.iinc 3 1, 3) := by decide +kernel
theorem dL_season_362 : decode cL_season 362 = .ok (.goto (-238), 3) := by decide +kernel
theorem dL_season_365 : decode cL_season 365 = .ok (.aload_n 2, 1) := by decide +kernel
theorem dL_season_366 : decode cL_season 366 = .ok (.iconst 1, 1) := by decide +kernel
theorem dL_season_367 : decode cL_season 367 = .ok (.aload_n 1, 1) := by decide +kernel
theorem dL_season_368 : decode cL_season 368 = .ok (.iconst 4, 1) := by decide +kernel
theorem dL_season_369 : decode cL_season 369 = .ok (.invokestatic 39, 3) := by decide +kernel
theorem dL_season_372 : decode cL_season 372 = .ok (.iadd, 1) := by decide +kernel
theorem dL_season_373 : decode cL_season 373 = .ok (.putfield 100, 3) := by decide +kernel
theorem dL_season_376 : decode cL_season 376 = .ok (.iconst 0, 1) := by decide +kernel
theorem dL_season_377 : decode cL_season 377 = .ok (.istore_n 3, 1) := by decide +kernel
theorem dL_season_378 : decode cL_season 378 = .ok (.iload_n 3, 1) := by decide +kernel
theorem dL_season_379 : decode cL_season 379 = .ok (.aload_n 2, 1) := by decide +kernel
theorem dL_season_380 : decode cL_season 380 = .ok (.getfield 100, 3) := by decide +kernel
theorem dL_season_383 : decode cL_season 383 = .ok (.if_icmp .ge 216, 3) := by decide +kernel
theorem dL_season_386 : decode cL_season 386 = .ok (.aload_n 1, 1) := by decide +kernel
theorem dL_season_387 : decode cL_season 387 = .ok (.iconst 2, 1) := by decide +kernel
theorem dL_season_388 : decode cL_season 388 = .ok (.invokestatic 39, 3) := by decide +kernel
theorem dL_season_391 : decode cL_season 391 = .ok (.istore 4, 2) := by decide +kernel
theorem dL_season_393 : decode cL_season 393 = .ok (.iload 4, 2) := by decide +kernel
theorem dL_season_395 : decode cL_season 395 = .ok (.aload_n 2, 1) := by decide +kernel
theorem dL_season_396 : decode cL_season 396 = .ok (.getfield 43, 3) := by decide +kernel
theorem dL_season_399 : decode cL_season 399 = .ok (.iconst 1, 1) := by decide +kernel
theorem dL_season_400 : decode cL_season 400 = .ok (.isub, 1) := by decide +kernel
theorem dL_season_401 : decode cL_season 401 = .ok (.aload_n 1, 1) := by decide +kernel
theorem dL_season_402 : decode cL_season 402 = .ok (.iconst 2, 1) := by decide +kernel
theorem dL_season_403 : decode cL_season 403 = .ok (.invokestatic 39, 3) := by decide +kernel
theorem dL_season_406 : decode cL_season 406 = .ok (.isub, 1) := by decide +kernel
theorem dL_season_407 : decode cL_season 407 = .ok (.invokestatic 93, 3) := by decide +kernel
theorem dL_season_410 : decode cL_season 410 = .ok (.istore 5, 2) := by decide +kernel
theorem dL_season_412 : decode cL_season 412 = .ok (.aload_n 2, 1) := by decide +kernel
theorem dL_season_413 : decode cL_season 413 = .ok (.getfield 103, 3) := by decide +kernel
theorem dL_season_416 : decode cL_season 416 = .ok (.iload_n 3, 1) := by decide +kernel
theorem dL_season_417 : decode cL_season 417 = .ok (.iconst 4, 1) := by decide +kernel
theorem dL_season_418 : decode cL_season 418 = .ok (.newarray .int, 2) := by decide +kernel
theorem dL_season_420 : decode cL_season 420 = .ok (.dup, 1) := by decide +kernel
theorem dL_season_421 : decode cL_season 421 = .ok (.iconst 0, 1) := by decide +kernel
theorem dL_season_422 : decode cL_season 422 = .ok (.aload_n 1, 1) := by decide +kernel
theorem dL_season_423 : decode cL_season 423 = .ok (.iconst 3, 1) := by decide +kernel
theorem dL_season_424 : decode cL_season 424 = .ok (.invokestatic 39, 3) := by decide +kernel
theorem dL_season_427 : decode cL_season 427 = .ok (.iastore, 1) := by decide +kernel
theorem dL_season_428 : decode cL_season 428 = .ok (.dup, 1) := by decide +kernel
theorem dL_season_429 : decode cL_season 429 = .ok (.iconst 1, 1) := by decide +kernel
theorem dL_season_430 : decode cL_season 430 = .ok (.iload 4, 2) := by decide +kernel
theorem dL_season_432 : decode cL_season 432 = .ok (.iastore, 1) := by decide +kernel
theorem dL_season_433 : decode cL_season 433 = .ok (.dup, 1) := by decide +kernel
theorem dL_season_434 : decode cL_season 434 = .ok (.iconst 2, 1) := by decide +kernel
theorem dL_season_435 : decode cL_season 435 = .ok (.iload 5, 2) := by decide +kernel
theorem dL_season_437 : decode cL_season 437 = .ok (.iastore, 1) := by decide +kernel
theorem dL_season_438 : decode cL_season 438 = .ok (.dup, 1) := by decide +kernel
theorem dL_season_439 : decode cL_season 439 = .ok (.iconst 3, 1) := by decide +kernel
theorem dL_season_440 : decode cL_season 440 = .ok (.aload_n 1, 1) := by decide +kernel
theorem dL_season_441 : decode cL_season 441 = .ok (.sipush 200, 3) := by decide +kernel
theorem dL_season_444 : decode cL_season 444 = .ok (.invokestatic 39, 3) := by decide +kernel
theorem dL_season_447 : decode cL_season 447 = .ok (.iastore, 1) := by decide +kernel
theorem dL_season_448 : decode cL_season 448 = .ok (.aastore, 1) := by decide +kernel
theorem dL_season_449 : decode cL_season 449 = .ok (.aload_n 2, 1) := by decide +kernel
theorem dL_season_450 : decode cL_season 450 = .ok (.getfield 106, 3) := by decide +kernel
theorem dL_season_453 : decode cL_season 453 = .ok (.iload_n 3, 1) := by decide +kernel
theorem dL_season_454 : decode cL_season 454 = .ok (.iconst 1, 1) := by decide +kernel
theorem dL_season_455 : decode cL_season 455 = .ok (.aload_n 1, 1) := by decide +kernel
theorem dL_season_456 : decode cL_season 456 = .ok (.iconst 4, 1) := by decide +kernel
theorem dL_season_457 : decode cL_season 457 = .ok (.invokestatic 39, 3) := by decide +kernel
theorem dL_season_460 : decode cL_season 460 = .ok (.iadd, 1) := by decide +kernel
theorem dL_season_461 : decode cL_season 461 = .ok (.newarray .int, 2) := by decide +kernel
theorem dL_season_463 : decode cL_season 463 = .ok (.aastore, 1) := by decide +kernel
theorem dL_season_464 : decode cL_season 464 = .ok (.aload_n 0, 1) := by decide +kernel
theorem dL_season_465 : decode cL_season 465 = .ok (.ldc 109, 2) := by decide +kernel
theorem dL_season_467 : decode cL_season 467 = .ok (.invokevirtual 49, 3) := by decide +kernel
theorem dL_season_470 : decode cL_season 470 = .ok (.iload_n 3, 1) := by decide +kernel
theorem dL_season_471 : decode cL_season 471 = .ok (.invokestatic 69, 3) := by decide +kernel
theorem dL_season_474 : decode cL_season 474 = .ok (.invokevirtual 49, 3) := by decide +kernel
theorem dL_season_477 : decode cL_season 477 = .ok (.pop, 1) := by decide +kernel
theorem dL_season_478 : decode cL_season 478 = .ok (.aload_n 2, 1) := by decide +kernel
theorem dL_season_479 : decode cL_season 479 = .ok (.getfield 103, 3) := by decide +kernel
theorem dL_season_482 : decode cL_season 482 = .ok (.iload_n 3, 1) := by decide +kernel
theorem dL_season_483 : decode cL_season 483 = .ok (.aaload, 1) := by decide +kernel
theorem dL_season_484 : decode cL_season 484 = .ok (.astore 6, 2) := by decide +kernel
theorem dL_season_486 : decode cL_season 486 = .ok (.aload 6, 2) := by decide +kernel
theorem dL_season_488 : decode cL_season 488 = .ok (.arraylength, 1) := by decide +kernel
theorem dL_season_489 : decode cL_season 489 = .ok (.istore 7, 2) := by decide +kernel
theorem dL_season_491 : decode cL_season 491 = .ok (.iconst 0, 1) := by decide +kernel
theorem dL_season_492 : decode cL_season 492 = .ok (.istore 8, 2) := by decide +kernel
theorem dL_season_494 : decode cL_season 494 = .ok (.iload 8, 2) := by decide +kernel
theorem dL_season_496 : decode cL_season 496 = .ok (.iload 7, 2) := by decide +kernel
theorem dL_season_498 : decode cL_season 498 = .ok (.if_icmp .ge 28, 3) := by decide +kernel
theorem dL_season_501 : decode cL_season 501 = .ok (.aload 6, 2) := by decide +kernel
theorem dL_season_503 : decode cL_season 503 = .ok (.iload 8, 2) := by decide +kernel
theorem dL_season_505 : decode cL_season 505 = .ok (.iaload, 1) := by decide +kernel
theorem dL_season_506 : decode cL_season 506 = .ok (.istore 9, 2) := by decide +kernel
theorem dL_season_508 : decode cL_season 508 = .ok (.aload_n 0, 1) := by decide +kernel
theorem dL_season_509 : decode cL_season 509 = .ok (.bipush 32, 2) := by decide +kernel
theorem dL_season_511 : decode cL_season 511 = .ok (.invokevirtual 57, 3) := by decide +kernel
theorem dL_season_514 : decode cL_season 514 = .ok (.iload 9, 2) := by decide +kernel
theorem dL_season_516 : decode cL_season 516 = .ok (.invokevirtual 54, 3) := by decide +kernel
theorem dL_season_519 : decode cL_season 519 = .ok (.pop, 1) := by decide +kernel
theorem dL_season_520 : decode cL_season 520 = .ok (.iinc 8 1, 3) := by decide +kernel
theorem dL_season_523 : decode cL_season 523 = .ok (.goto (-29), 3) := by decide +kernel
theorem dL_season_526 : decode cL_season 526 = .ok (.iconst 0, 1) := by decide +kernel
theorem dL_season_527 : decode cL_season 527 = .ok (.istore 6, 2) := by decide +kernel
theorem dL_season_529 : decode cL_season 529 = .ok (.iload 6, 2) := by decide +kernel
theorem dL_season_531 : decode cL_season 531 = .ok (.aload_n 2, 1) := by decide +kernel
theorem dL_season_532 : decode cL_season 532 = .ok (.getfield 106, 3) := by decide +kernel
theorem dL_season_535 : decode cL_season 535 = .ok (.iload_n 3, 1) := by decide +kernel
theorem dL_season_536 : decode cL_season 536 = .ok (.aaload, 1) := by decide +kernel
theorem dL_season_537 : decode cL_season 537 = .ok (.arraylength, 1) := by decide +kernel
theorem dL_season_538 : decode cL_season 538 = .ok (.if_icmp .ge 48, 3) := by decide +kernel
theorem dL_season_541 : decode cL_season 541 = .ok (.aload_n 2, 1) := by decide +kernel
theorem dL_season_542 : decode cL_season 542 = .ok (.getfield 106, 3) := by decide +kernel
theorem dL_season_545 : decode cL_season 545 = .ok (.iload_n 3, 1) := by decide +kernel
theorem dL_season_546 : decode cL_season 546 = .ok (.aaload, 1) := by decide +kernel
theorem dL_season_547 : decode cL_season 547 = .ok (.iload 6, 2) := by decide +kernel
theorem dL_season_549 : decode cL_season 549 = .ok (.aload_n 1, 1) := by decide +kernel
theorem dL_season_550 : decode cL_season 550 = .ok (.aload_n 2, 1) := by decide +kernel
theorem dL_season_551 : decode cL_season 551 = .ok (.getfield 84, 3) := by decide +kernel
theorem dL_season_554 : decode cL_season 554 = .ok (.invokestatic 39, 3) := by decide +kernel
theorem dL_season_557 : decode cL_season 557 = .ok (.iastore, 1) := by decide +kernel
theorem dL_season_558 : decode cL_season 558 = .ok (.aload_n 0, 1) := by decide +kernel
theorem dL_season_559 : decode cL_season 559 = .ok (.bipush 32, 2) := by decide +kernel
theorem dL_season_561 : decode cL_season 561 = .ok (.invokevirtual 57, 3) := by decide +kernel
theorem dL_season_564 : decode cL_season 564 = .ok (.aload_n 2, 1) := by decide +kernel
theorem dL_season_565 : decode cL_season 565 = .ok (.getfield 106, 3) := by decide +kernel
theorem dL_season_568 : decode cL_season 568 = .ok (.iload_n 3, 1) := by decide +kernel
theorem dL_season_569 : decode cL_season 569 = .ok (.aaload, 1) := by decide +kernel
theorem dL_season_570 : decode cL_season 570 = .ok (.iload 6, 2) := by decide +kernel
theorem dL_season_572 : decode cL_season 572 = .ok (.iaload, 1) := by decide +kernel
theorem dL_season_573 : decode cL_season 573 = .ok (.invokestatic 69, 3) := by decide +kernel
theorem dL_season_576 : decode cL_season 576 = .ok (.invokevirtual 49, 3) := by decide +kernel
theorem dL_season_579 : decode cL_season 579 = .ok (.pop, 1) := by decide +kernel
theorem dL_season_580 : decode cL_season 580 = .ok (.iinc 6 1, 3) := by decide +kernel
theorem dL_season_583 : decode cL_season 583 = .ok (.goto (-54), 3) := by decide +kernel
theorem dL_season_586 : decode cL_season 586 = .ok (.aload_n 0, 1) := by decide +kernel
theorem dL_season_587 : decode cL_season 587 = .ok (.bipush 59, 2) := by decide +kernel
theorem dL_season_589 : decode cL_season 589 = .ok (.invokevirtual 57, 3) := by decide +kernel
theorem dL_season_592 : decode cL_season 592 = .ok (.pop, 1) := by decide +kernel
theorem dL_season_593 : decode cL_season 593 = .ok (.iinc 3 1, 3) := by decide +kernel
theorem dL_season_596 : decode cL_season 596 = .ok (.goto (-218), 3) := by decide +kernel
theorem dL_season_599 : decode cL_season 599 = .ok (.iconst 0, 1) := by decide +kernel
theorem dL_season_600 : decode cL_season 600 = .ok (.istore_n 3, 1) := by decide +kernel
theorem dL_season_601 : decode cL_season 601 = .ok (.iload_n 3, 1) := by decide +kernel
theorem dL_season_602 : decode cL_season 602 = .ok (.aload_n 2, 1) := by decide +kernel
theorem dL_season_603 : decode cL_season 603 = .ok (.getfield 73, 3) := by decide +kernel
theorem dL_season_606 : decode cL_season 606 = .ok (.if_icmp .ge 69, 3) := by decide +kernel
theorem dL_season_609 : decode cL_season 609 = .ok (.aload_n 1, 1) := by decide +kernel
theorem dL_season_610 : decode cL_season 610 = .ok (.iconst 4, 1) := by decide +kernel
theorem dL_season_611 : decode cL_season 611 = .ok (.invokestatic 39, 3) := by decide +kernel
theorem dL_season_614 : decode cL_season 614 = .ok (.ifCond .le 6, 3) := by decide +kernel
theorem dL_season_617 : decode cL_season 617 = .ok (.goto 52, 3) := by decide +kernel
theorem dL_season_620 : decode cL_season 620 = .ok (.aload_n 1, 1) := by decide +kernel
theorem dL_season_621 : decode cL_season 621 = .ok (.aload_n 2, 1) := by decide +kernel
theorem dL_season_622 : decode cL_season 622 = .ok (.getfield 43, 3) := by decide +kernel
theorem dL_season_625 : decode cL_season 625 = .ok (.invokestatic 39, 3) := by decide +kernel
theorem dL_season_628 : decode cL_season 628 = .ok (.istore 4, 2) := by decide +kernel
theorem dL_season_630 : decode cL_season 630 = .ok (.aload_n 2, 1) := by decide +kernel
theorem dL_season_631 : decode cL_season 631 = .ok (.getfield 111, 3) := by decide +kernel
theorem dL_season_634 : decode cL_season 634 = .ok (.iload_n 3, 1) := by decide +kernel
theorem dL_season_635 : decode cL_season 635 = .ok (.iconst 1, 1) := by decide +kernel
theorem dL_season_636 : decode cL_season 636 = .ok (.iload 4, 2) := by decide +kernel
theorem dL_season_638 : decode cL_season 638 = .ok (.ishl, 1) := by decide +kernel
theorem dL_season_639 : decode cL_season 639 = .ok (.iastore, 1) := by decide +kernel
theorem dL_season_640 : decode cL_season 640 = .ok (.aload_n 0, 1) := by decide +kernel
theorem dL_season_641 : decode cL_season 641 = .ok (.ldc 114, 2) := by decide +kernel
theorem dL_season_643 : decode cL_season 643 = .ok (.invokevirtual 49, 3) := by decide +kernel
theorem dL_season_646 : decode cL_season 646 = .ok (.iload_n 3, 1) := by decide +kernel
theorem dL_season_647 : decode cL_season 647 = .ok (.invokestatic 69, 3) := by decide +kernel
theorem dL_season_650 : decode cL_season 650 = .ok (.invokevirtual 49, 3) := by decide +kernel
theorem dL_season_653 : decode cL_season 653 = .ok (.bipush 32, 2) := by decide +kernel
theorem dL_season_655 : decode cL_season 655 = .ok (.invokevirtual 57, 3) := by decide +kernel
theorem dL_season_658 : decode cL_season 658 = .ok (.iload 4, 2) := by decide +kernel
theorem dL_season_660 : decode cL_season 660 = .ok (.invokevirtual 54, 3) := by decide +kernel
theorem dL_season_663 : decode cL_season 663 = .ok (.bipush 59, 2) := by decide +kernel
theorem dL_season_665 : decode cL_season 665 = .ok (.invokevirtual 57, 3) := by decide +kernel
theorem dL_season_668 : decode cL_season 668 = .ok (.pop, 1) := by decide +kernel
theorem dL_season_669 : decode cL_season 669 = .ok (.iinc 3 1, 3) := by decide +kernel
theorem dL_season_672 : decode cL_season 672 = .ok (.goto (-71), 3) := by decide +kernel
theorem dL_season_675 : decode cL_season 675 = .ok (.aload_n 1, 1) := by decide +kernel
theorem dL_season_676 : decode cL_season 676 = .ok (.iconst 2, 1) := by decide +kernel
theorem dL_season_677 : decode cL_season 677 = .ok (.invokestatic 39, 3) := by decide +kernel
theorem dL_season_680 : decode cL_season 680 = .ok (.ifCond .ne 32, 3) := by decide +kernel
theorem dL_season_683 : decode cL_season 683 = .ok (.aload_n 2, 1) := by decide +kernel
theorem dL_season_684 : decode cL_season 684 = .ok (.aload_n 1, 1) := by decide +kernel
theorem dL_season_685 : decode cL_season 685 = .ok (.bipush 50, 2) := by decide +kernel
theorem dL_season_687 : decode cL_season 687 = .ok (.invokestatic 39, 3) := by decide +kernel
theorem dL_season_690 : decode cL_season 690 = .ok (.putfield 116, 3) := by decide +kernel
theorem dL_season_693 : decode cL_season 693 = .ok (.aload_n 0, 1) := by decide +kernel
theorem dL_season_694 : decode cL_season 694 = .ok (.ldc 119, 2) := by decide +kernel
theorem dL_season_696 : decode cL_season 696 = .ok (.invokevirtual 49, 3) := by decide +kernel
theorem dL_season_699 : decode cL_season 699 = .ok (.aload_n 2, 1) := by decide +kernel
theorem dL_season_700 : decode cL_season 700 = .ok (.getfield 116, 3) := by decide +kernel
theorem dL_season_703 : decode cL_season 703 = .ok (.invokevirtual 54, 3) := by decide +kernel
theorem dL_season_706 : decode cL_season 706 = .ok (.bipush 59, 2) := by decide +kernel
theorem dL_season_708 : decode cL_season 708 = .ok (.invokevirtual 57, 3) := by decide +kernel
theorem dL_season_711 : decode cL_season 711 = .ok (.pop, 1) := by decide +kernel
theorem dL_season_712 : decode cL_season 712 = .ok (.aload_n 2, 1) := by decide +kernel
theorem dL_season_713 : decode cL_season 713 = .ok (.areturn, 1) := by decide +kernel
theorem dL_plays_0 : decode cL_plays 0 = .ok (.new 50, 3) := by decide +kernel
theorem dL_plays_3 : decode cL_plays 3 = .ok (.dup, 1) := by decide +kernel
theorem dL_plays_4 : decode cL_plays 4 = .ok (.invokespecial 121, 3) := by decide +kernel
theorem dL_plays_7 : decode cL_plays 7 = .ok (.astore_n 2, 1) := by decide +kernel
theorem dL_plays_8 : decode cL_plays 8 = .ok (.aload_n 2, 1) := by decide +kernel
theorem dL_plays_9 : decode cL_plays 9 = .ok (.aload_n 1, 1) := by decide +kernel
theorem dL_plays_10 : decode cL_plays 10 = .ok (.invokestatic 122, 3) := by decide +kernel
theorem dL_plays_13 : decode cL_plays 13 = .ok (.astore_n 3, 1) := by decide +kernel
theorem dL_plays_14 : decode cL_plays 14 = .ok (.aload_n 0, 1) := by decide +kernel
theorem dL_plays_15 : decode cL_plays 15 = .ok (.aload_n 2, 1) := by decide +kernel
theorem dL_plays_16 : decode cL_plays 16 = .ok (.invokevirtual 126, 3) := by decide +kernel
theorem dL_plays_19 : decode cL_plays 19 = .ok (.invokestatic 130, 3) := by decide +kernel
theorem dL_plays_22 : decode cL_plays 22 = .ok (.ifCond .eq 14, 3) := by decide +kernel
theorem dL_plays_25 : decode cL_plays 25 = .ok (.aload_n 0, 1) := by decide +kernel
theorem dL_plays_26 : decode cL_plays 26 = .ok (.aload_n 2, 1) := by decide +kernel
theorem dL_plays_27 : decode cL_plays 27 = .ok (.invokevirtual 134, 3) := by decide +kernel
theorem dL_plays_30 : decode cL_plays 30 = .ok (.invokevirtual 135, 3) := by decide +kernel
theorem dL_plays_33 : decode cL_plays 33 = .ok (.ifCond .eq 5, 3) := by decide +kernel
theorem dL_plays_36 : decode cL_plays 36 = .ok (.iconst 0, 1) := by decide +kernel
theorem dL_plays_37 : decode cL_plays 37 = .ok (.ireturn, 1) := by decide +kernel
theorem dL_plays_38 : decode cL_plays 38 = .ok (.iconst 0, 1) := by decide +kernel
theorem dL_plays_39 : decode cL_plays 39 = .ok (.istore 4, 2) := by decide +kernel
theorem dL_plays_41 : decode cL_plays 41 = .ok (.iload 4, 2) := by decide +kernel
theorem dL_plays_43 : decode cL_plays 43 = .ok (.bipush 26, 2) := by decide +kernel
theorem dL_plays_45 : decode cL_plays 45 = .ok (.if_icmp .ge 46, 3) := by decide +kernel
theorem dL_plays_48 : decode cL_plays 48 = .ok (.aload_n 0, 1) := by decide +kernel
theorem dL_plays_49 : decode cL_plays 49 = .ok (.aload_n 3, 1) := by decide +kernel
theorem dL_plays_50 : decode cL_plays 50 = .ok (.aload_n 1, 1) := by decide +kernel
theorem dL_plays_51 : decode cL_plays 51 = .ok (.invokestatic 139, 3) := by decide +kernel
theorem dL_plays_54 : decode cL_plays 54 = .ok (.ifCond .eq 29, 3) := by decide +kernel
theorem dL_plays_57 : decode cL_plays 57 = .ok (.aload_n 0, 1) := by decide +kernel
theorem dL_plays_58 : decode cL_plays 58 = .ok (.aload_n 3, 1) := by decide +kernel
theorem dL_plays_59 : decode cL_plays 59 = .ok (.invokestatic 143, 3) := by decide +kernel
theorem dL_plays_62 : decode cL_plays 62 = .ok (.ifCond .eq 21, 3) := by decide +kernel
theorem dL_plays_65 : decode cL_plays 65 = .ok (.aload_n 0, 1) := by decide +kernel
theorem dL_plays_66 : decode cL_plays 66 = .ok (.aload_n 3, 1) := by decide +kernel
theorem dL_plays_67 : decode cL_plays 67 = .ok (.aload_n 1, 1) := by decide +kernel
theorem dL_plays_68 : decode cL_plays 68 = .ok (.invokestatic 147, 3) := by decide +kernel
theorem dL_plays_71 : decode cL_plays 71 = .ok (.ifCond .eq 12, 3) := by decide +kernel
theorem dL_plays_74 : decode cL_plays 74 = .ok (.aload_n 0, 1) := by decide +kernel
theorem dL_plays_75 : decode cL_plays 75 = .ok (.aload_n 3, 1) := by decide +kernel
theorem dL_plays_76 : decode cL_plays 76 = .ok (.aload_n 1, 1) := by decide +kernel
theorem dL_plays_77 : decode cL_plays 77 = .ok (.invokestatic 149, 3) := by decide +kernel
theorem dL_plays_80 : decode cL_plays 80 = .ok (.ifCond .ne 5, 3) := by decide +kernel
theorem dL_plays_83 : decode cL_plays 83 = .ok (.iconst 0, 1) := by decide +kernel
theorem dL_plays_84 : decode cL_plays 84 = .ok (.ireturn, 1) := by decide +kernel
theorem dL_plays_85 : decode cL_plays 85 = .ok (.iinc 4 1, 3) := by decide +kernel
theorem dL_plays_88 : decode cL_plays 88 = .ok (.goto (-47), 3) := by decide +kernel
theorem dL_plays_91 : decode cL_plays 91 = .ok (.iconst 1, 1) := by decide +kernel
theorem dL_plays_92 : decode cL_plays 92 = .ok (.ireturn, 1) := by decide +kernel
theorem dL_services_0 : decode cL_services 0 = .ok (.aload_n 0, 1) := by decide +kernel
theorem dL_services_1 : decode cL_services 1 = .ok (.iconst 5, 1) := by decide +kernel
theorem dL_services_2 : decode cL_services 2 = .ok (.invokevirtual 152, 3) := by decide +kernel
theorem dL_services_5 : decode cL_services 5 = .ok (.aload_n 1, 1) := by decide +kernel
theorem dL_services_6 : decode cL_services 6 = .ok (.getfield 155, 3) := by decide +kernel
theorem dL_services_9 : decode cL_services 9 = .ok (.if_icmp .eq 5, 3) := by decide +kernel
theorem dL_services_12 : decode cL_services 12 = .ok (.iconst 0, 1) := by decide +kernel
theorem dL_services_13 : decode cL_services 13 = .ok (.ireturn, 1) := by decide +kernel
theorem dL_services_14 : decode cL_services 14 = .ok (.iconst 0, 1) := by decide +kernel
theorem dL_services_15 : decode cL_services 15 = .ok (.istore_n 2, 1) := by decide +kernel
theorem dL_services_16 : decode cL_services 16 = .ok (.iload_n 2, 1) := by decide +kernel
theorem dL_services_17 : decode cL_services 17 = .ok (.aload_n 1, 1) := by decide +kernel
theorem dL_services_18 : decode cL_services 18 = .ok (.getfield 155, 3) := by decide +kernel
theorem dL_services_21 : decode cL_services 21 = .ok (.if_icmp .ge 231, 3) := by decide +kernel
theorem dL_services_24 : decode cL_services 24 = .ok (.iconst 0, 1) := by decide +kernel
theorem dL_services_25 : decode cL_services 25 = .ok (.istore_n 3, 1) := by decide +kernel
theorem dL_services_26 : decode cL_services 26 = .ok (.iconst 0, 1) := by decide +kernel
theorem dL_services_27 : decode cL_services 27 = .ok (.istore 4, 2) := by decide +kernel
theorem dL_services_29 : decode cL_services 29 = .ok (.iconst 0, 1) := by decide +kernel
theorem dL_services_30 : decode cL_services 30 = .ok (.istore 5, 2) := by decide +kernel
theorem dL_services_32 : decode cL_services 32 = .ok (.iload 5, 2) := by decide +kernel
theorem dL_services_34 : decode cL_services 34 = .ok (.aload_n 1, 1) := by decide +kernel
theorem dL_services_35 : decode cL_services 35 = .ok (.getfield 100, 3) := by decide +kernel
theorem dL_services_38 : decode cL_services 38 = .ok (.if_icmp .ge 125, 3) := by decide +kernel
theorem dL_services_41 : decode cL_services 41 = .ok (.iconst 0, 1) := by decide +kernel
theorem dL_services_42 : decode cL_services 42 = .ok (.istore 6, 2) := by decide +kernel
theorem dL_services_44 : decode cL_services 44 = .ok (.iload 6, 2) := by decide +kernel
theorem dL_services_46 : decode cL_services 46 = .ok (.aload_n 1, 1) := by decide +kernel
theorem dL_services_47 : decode cL_services 47 = .ok (.getfield 106, 3) := by decide +kernel
theorem dL_services_50 : decode cL_services 50 = .ok (.iload 5, 2) := by decide +kernel
theorem dL_services_52 : decode cL_services 52 = .ok (.aaload, 1) := by decide +kernel
theorem dL_services_53 : decode cL_services 53 = .ok (.arraylength, 1) := by decide +kernel
theorem dL_services_54 : decode cL_services 54 = .ok (.if_icmp .ge 71, 3) := by decide +kernel
theorem dL_services_57 : decode cL_services 57 = .ok (.aload_n 1, 1) := by decide +kernel
theorem dL_services_58 : decode cL_services 58 = .ok (.getfield 158, 3) := by decide +kernel
theorem dL_services_61 : decode cL_services 61 = .ok (.iload_n 2, 1) := by decide +kernel
theorem dL_services_62 : decode cL_services 62 = .ok (.aaload, 1) := by decide +kernel
theorem dL_services_63 : decode cL_services 63 = .ok (.iload 5, 2) := by decide +kernel
theorem dL_services_65 : decode cL_services 65 = .ok (.aaload, 1) := by decide +kernel
theorem dL_services_66 : decode cL_services 66 = .ok (.ifnonnull 7, 3) := by decide +kernel
theorem dL_services_69 : decode cL_services 69 = .ok (.iconst (-1), 1) := by decide +kernel
theorem dL_services_70 : decode cL_services 70 = .ok (.goto 15, 3) := by decide +kernel
theorem dL_services_73 : decode cL_services 73 = .ok (.aload_n 1, 1) := by decide +kernel
theorem dL_services_74 : decode cL_services 74 = .ok (.getfield 158, 3) := by decide +kernel
theorem dL_services_77 : decode cL_services 77 = .ok (.iload_n 2, 1) := by decide +kernel
theorem dL_services_78 : decode cL_services 78 = .ok (.aaload, 1) := by decide +kernel
theorem dL_services_79 : decode cL_services 79 = .ok (.iload 5, 2) := by decide +kernel
theorem dL_services_81 : decode cL_services 81 = .ok (.aaload, 1) := by decide +kernel
theorem dL_services_82 : decode cL_services 82 = .ok (.iload 6, 2) := by decide +kernel
theorem dL_services_84 : decode cL_services 84 = .ok (.iaload, 1) := by decide +kernel
theorem dL_services_85 : decode cL_services 85 = .ok (.istore 7, 2) := by decide +kernel
theorem dL_services_87 : decode cL_services 87 = .ok (.aload_n 0, 1) := by decide +kernel
theorem dL_services_88 : decode cL_services 88 = .ok (.iload_n 2, 1) := by decide +kernel
theorem dL_services_89 : decode cL_services 89 = .ok (.iload 5, 2) := by decide +kernel
theorem dL_services_91 : decode cL_services 91 = .ok (.iload 6, 2) := by decide +kernel
theorem dL_services_93 : decode cL_services 93 = .ok (.invokevirtual 162, 3) := by decide +kernel
theorem dL_services_96 : decode cL_services 96 = .ok (.iload 7, 2) := by decide +kernel
theorem dL_services_98 : decode cL_services 98 = .ok (.if_icmp .eq 5, 3) := by decide +kernel
theorem dL_services_101 : decode cL_services 101 = .ok (.iconst 0, 1) := by decide +kernel
theorem dL_services_102 : decode cL_services 102 = .ok (.ireturn, 1) := by decide +kernel
theorem dL_services_103 : decode cL_services 103 = .ok (.iload_n 3, 1) := by decide +kernel
theorem dL_services_104 : decode cL_services 104 = .ok (.iload 7, 2) := by decide +kernel
theorem dL_services_106 : decode cL_services 106 = .ok (.ifCond .ge 7, 3) := by decide +kernel
theorem dL_services_109 : decode cL_services 109 = .ok (.iconst 0, 1) := by decide +kernel
theorem dL_services_110 : decode cL_services 110 = .ok (.goto 7, 3) := by decide +kernel
theorem dL_services_113 : decode cL_services 113 = .ok (.iconst 1, 1) := by decide +kernel
theorem dL_services_114 : decode cL_services 114 = .ok (.iload 7, 2) := by decide +kernel
theorem dL_services_116 : decode cL_services 116 = .ok (.ishl, 1) := by decide +kernel
theorem dL_services_117 : decode cL_services 117 = .ok (.ior, 1) := by decide +kernel
theorem dL_services_118 : decode cL_services 118 = .ok (.istore_n 3, 1) := by decide +kernel
theorem dL_services_119 : decode cL_services 119 = .ok (.iinc 6 1, 3) := by decide +kernel
theorem dL_services_122 : decode cL_services 122 = .ok (.goto (-78), 3) := by decide +kernel
theorem dL_services_125 : decode cL_services 125 = .ok (.aload_n 1, 1) := by decide +kernel
theorem dL_services_126 : decode cL_services 126 = .ok (.getfield 158, 3) := by decide +kernel
theorem dL_services_129 : decode cL_services 129 = .ok (.iload_n 2, 1) := by decide +kernel
theorem dL_services_130 : decode cL_services 130 = .ok (.aaload, 1) := by decide +kernel
theorem dL_services_131 : decode cL_services 131 = .ok (.iload 5, 2) := by decide +kernel
theorem dL_services_133 : decode cL_services 133 = .ok (.aaload, 1) := by decide +kernel
theorem dL_services_134 : decode cL_services 134 = .ok (.ifnull 23, 3) := by decide +kernel
theorem dL_services_137 : decode cL_services 137 = .ok (.iload 4, 2) := by decide +kernel
theorem dL_services_139 : decode cL_services 139 = .ok (.aload_n 1, 1) := by decide +kernel
theorem dL_services_140 : decode cL_services 140 = .ok (.iload 5, 2) := by decide +kernel
theorem dL_services_142 : decode cL_services 142 = .ok (.aload_n 1, 1) := by decide +kernel
theorem dL_services_143 : decode cL_services 143 = .ok (.getfield 158, 3) := by decide +kernel
theorem dL_services_146 : decode cL_services 146 = .ok (.iload_n 2, 1) := by decide +kernel
theorem dL_services_147 : decode cL_services 147 = .ok (.aaload, 1) := by decide +kernel
theorem dL_services_148 : decode cL_services 148 = .ok (.iload 5, 2) := by decide +kernel
theorem dL_services_150 : decode cL_services 150 = .ok (.aaload, 1) := by decide +kernel
theorem dL_services_151 : decode cL_services 151 = .ok (.invokevirtual 166, 3) := by decide +kernel
theorem dL_services_154 : decode cL_services 154 = .ok (.iadd, 1) := by decide +kernel
theorem dL_services_155 : decode cL_services 155 = .ok (.istore 4, 2) := by decide +kernel
theorem dL_services_157 : decode cL_services 157 = .ok (.iinc 5 1, 3) := by decide +kernel
theorem dL_services_160 : decode cL_services 160 = .ok (.goto (-128), 3) := by decide +kernel
theorem dL_services_163 : decode cL_services 163 = .ok (.iconst 0, 1) := by decide +kernel
theorem dL_services_164 : decode cL_services 164 = .ok (.istore 5, 2) := by decide +kernel
theorem dL_services_166 : decode cL_services 166 = .ok (.iload 5, 2) := by decide +kernel
theorem dL_services_168 : decode cL_services 168 = .ok (.iconst 4, 1) := by decide +kernel
theorem dL_services_169 : decode cL_services 169 = .ok (.if_icmp .ge 30, 3) := by decide +kernel
theorem dL_services_172 : decode cL_services 172 = .ok (.aload_n 0, 1) := by decide +kernel
theorem dL_services_173 : decode cL_services 173 = .ok (.iload_n 2, 1) := by decide +kernel
theorem dL_services_174 : decode cL_services 174 = .ok (.iload 5, 2) := by decide +kernel
theorem dL_services_176 : decode cL_services 176 = .ok (.invokevirtual 170, 3) := by decide +kernel
theorem dL_services_179 : decode cL_services 179 = .ok (.aload_n 1, 1) := by decide +kernel
theorem dL_services_180 : decode cL_services 180 = .ok (.getfield 173, 3) := by decide +kernel
theorem dL_services_183 : decode cL_services 183 = .ok (.iload_n 2, 1) := by decide +kernel
theorem dL_services_184 : decode cL_services 184 = .ok (.aaload, 1) := by decide +kernel
theorem dL_services_185 : decode cL_services 185 = .ok (.iload 5, 2) := by decide +kernel
theorem dL_services_187 : decode cL_services 187 = .ok (.iaload, 1) := by decide +kernel
theorem dL_services_188 : decode cL_services 188 = .ok (.if_icmp .eq 5, 3) := by decide +kernel
theorem dL_services_191 : decode cL_services 191 = .ok (.iconst 0, 1) := by decide +kernel
theorem dL_services_192 : decode cL_services 192 = .ok (.ireturn, 1) := by decide +kernel
theorem dL_services_193 : decode cL_services 193 = .ok (.iinc 5 1, 3) := by decide +kernel
theorem dL_services_196 : decode cL_services 196 = .ok (.goto (-30), 3) := by decide +kernel
theorem dL_services_199 : decode cL_services 199 = .ok (.aload_n 0, 1) := by decide +kernel
theorem dL_services_200 : decode cL_services 200 = .ok (.iload_n 2, 1) := by decide +kernel
theorem dL_services_201 : decode cL_services 201 = .ok (.iconst 4, 1) := by decide +kernel
theorem dL_services_202 : decode cL_services 202 = .ok (.invokevirtual 170, 3) := by decide +kernel
theorem dL_services_205 : decode cL_services 205 = .ok (.iload_n 3, 1) := by decide +kernel
theorem dL_services_206 : decode cL_services 206 = .ok (.if_icmp .ne 38, 3) := by decide +kernel
theorem dL_services_209 : decode cL_services 209 = .ok (.aload_n 0, 1) := by decide +kernel
theorem dL_services_210 : decode cL_services 210 = .ok (.iload_n 2, 1) := by decide +kernel
theorem dL_services_211 : decode cL_services 211 = .ok (.iconst 5, 1) := by decide +kernel
theorem dL_services_212 : decode cL_services 212 = .ok (.invokevirtual 170, 3) := by decide +kernel
theorem dL_services_215 : decode cL_services 215 = .ok (.iload 4, 2) := by decide +kernel
theorem dL_services_217 : decode cL_services 217 = .ok (.if_icmp .ne 27, 3) := by decide +kernel
theorem dL_services_220 : decode cL_services 220 = .ok (.aload_n 0, 1) := by decide +kernel
theorem dL_services_221 : decode cL_services 221 = .ok (.aload_n 1, 1) := by decide +kernel
theorem dL_services_222 : decode cL_services 222 = .ok (.getfield 173, 3) := by decide +kernel
theorem dL_services_225 : decode cL_services 225 = .ok (.iload_n 2, 1) := by decide +kernel
theorem dL_services_226 : decode cL_services 226 = .ok (.aaload, 1) := by decide +kernel
theorem dL_services_227 : decode cL_services 227 = .ok (.iconst 1, 1) := by decide +kernel
theorem dL_services_228 : decode cL_services 228 = .ok (.iaload, 1) := by decide +kernel
theorem dL_services_229 : decode cL_services 229 = .ok (.aload_n 1, 1) := by decide +kernel
theorem dL_services_230 : decode cL_services 230 = .ok (.getfield 173, 3) := by decide +kernel
theorem dL_services_233 : decode cL_services 233 = .ok (.iload_n 2, 1) := by decide +kernel
theorem dL_services_234 : decode cL_services 234 = .ok (.aaload, 1) := by decide +kernel
theorem dL_services_235 : decode cL_services 235 = .ok (.iconst 0, 1) := by decide +kernel
theorem dL_services_236 : decode cL_services 236 = .ok (.iaload, 1) := by decide +kernel
theorem dL_services_237 : decode cL_services 237 = .ok (.invokevirtual 175, 3) := by decide +kernel
theorem dL_services_240 : decode cL_services 240 = .ok (.iload_n 2, 1) := by decide +kernel
theorem dL_services_241 : decode cL_services 241 = .ok (.if_icmp .eq 5, 3) := by decide +kernel
theorem dL_services_244 : decode cL_services 244 = .ok (.iconst 0, 1) := by decide +kernel
theorem dL_services_245 : decode cL_services 245 = .ok (.ireturn, 1) := by decide +kernel
theorem dL_services_246 : decode cL_services 246 = .ok (.iinc 2 1, 3) := by decide +kernel
theorem dL_services_249 : decode cL_services 249 = .ok (.goto (-233), 3) := by decide +kernel
theorem dL_services_252 : decode cL_services 252 = .ok (.aload_n 0, 1) := by decide +kernel
theorem dL_services_253 : decode cL_services 253 = .ok (.invokevirtual 178, 3) := by decide +kernel
theorem dL_services_256 : decode cL_services 256 = .ok (.ireturn, 1) := by decide +kernel
theorem dL_players_0 : decode cL_players 0 = .ok (.iconst 0, 1) := by decide +kernel
theorem dL_players_1 : decode cL_players 1 = .ok (.istore_n 3, 1) := by decide +kernel
theorem dL_players_2 : decode cL_players 2 = .ok (.iconst 1, 1) := by decide +kernel
theorem dL_players_3 : decode cL_players 3 = .ok (.istore 4, 2) := by decide +kernel
theorem dL_players_5 : decode cL_players 5 = .ok (.iconst 0, 1) := by decide +kernel
theorem dL_players_6 : decode cL_players 6 = .ok (.istore 5, 2) := by decide +kernel
theorem dL_players_8 : decode cL_players 8 = .ok (.iload 5, 2) := by decide +kernel
theorem dL_players_10 : decode cL_players 10 = .ok (.aload_n 1, 1) := by decide +kernel
theorem dL_players_11 : decode cL_players 11 = .ok (.getfield 73, 3) := by decide +kernel
theorem dL_players_14 : decode cL_players 14 = .ok (.if_icmp .ge 156, 3) := by decide +kernel
theorem dL_players_17 : decode cL_players 17 = .ok (.aload_n 1, 1) := by decide +kernel
theorem dL_players_18 : decode cL_players 18 = .ok (.iload 5, 2) := by decide +kernel
theorem dL_players_20 : decode cL_players 20 = .ok (.invokevirtual 182, 3) := by decide +kernel
theorem dL_players_23 : decode cL_players 23 = .ok (.istore 6, 2) := by decide +kernel
theorem dL_players_25 : decode cL_players 25 = .ok (.iload 6, 2) := by decide +kernel
theorem dL_players_27 : decode cL_players 27 = .ok (.aload_n 1, 1) := by decide +kernel
theorem dL_players_28 : decode cL_players 28 = .ok (.getfield 76, 3) := by decide +kernel
theorem dL_players_31 : decode cL_players 31 = .ok (.iload 5, 2) := by decide +kernel
theorem dL_players_33 : decode cL_players 33 = .ok (.iaload, 1) := by decide +kernel
theorem dL_players_34 : decode cL_players 34 = .ok (.isub, 1) := by decide +kernel
theorem dL_players_35 : decode cL_players 35 = .ok (.istore 7, 2) := by decide +kernel
theorem dL_players_37 : decode cL_players 37 = .ok (.iload 4, 2) := by decide +kernel
theorem dL_players_39 : decode cL_players 39 = .ok (.ifCond .eq 12, 3) := by decide +kernel
theorem dL_players_42 : decode cL_players 42 = .ok (.iload 7, 2) := by decide +kernel
theorem dL_players_44 : decode cL_players 44 = .ok (.ifCond .ne 7, 3) := by decide +kernel
theorem dL_players_47 : decode cL_players 47 = .ok (.iconst 1, 1) := by decide +kernel
theorem dL_players_48 : decode cL_players 48 = .ok (.goto 4, 3) := by decide +kernel
theorem dL_players_51 : decode cL_players 51 = .ok (.iconst 0, 1) := by decide +kernel
theorem dL_players_52 : decode cL_players 52 = .ok (.istore 4, 2) := by decide +kernel
theorem dL_players_54 : decode cL_players 54 = .ok (.iload 7, 2) := by decide +kernel
theorem dL_players_56 : decode cL_players 56 = .ok (.aload_n 1, 1) := by decide +kernel
theorem dL_players_57 : decode cL_players 57 = .ok (.iload_n 3, 1) := by decide +kernel
theorem dL_players_58 : decode cL_players 58 = .ok (.invokevirtual 182, 3) := by decide +kernel
theorem dL_players_61 : decode cL_players 61 = .ok (.aload_n 1, 1) := by decide +kernel
theorem dL_players_62 : decode cL_players 62 = .ok (.getfield 76, 3) := by decide +kernel
theorem dL_players_65 : decode cL_players 65 = .ok (.iload_n 3, 1) := by decide +kernel
theorem dL_players_66 : decode cL_players 66 = .ok (.iaload, 1) := by decide +kernel
theorem dL_players_67 : decode cL_players 67 = .ok (.isub, 1) := by decide +kernel
theorem dL_players_68 : decode cL_players 68 = .ok (.if_icmp .le 6, 3) := by decide +kernel
theorem dL_players_71 : decode cL_players 71 = .ok (.iload 5, 2) := by decide +kernel
theorem dL_players_73 : decode cL_players 73 = .ok (.istore_n 3, 1) := by decide +kernel
theorem dL_players_74 : decode cL_players 74 = .ok (.aload_n 0, 1) := by decide +kernel
theorem dL_players_75 : decode cL_players 75 = .ok (.iload 5, 2) := by decide +kernel
theorem dL_players_77 : decode cL_players 77 = .ok (.iconst 0, 1) := by decide +kernel
theorem dL_players_78 : decode cL_players 78 = .ok (.invokevirtual 185, 3) := by decide +kernel
theorem dL_players_81 : decode cL_players 81 = .ok (.aload_n 1, 1) := by decide +kernel
theorem dL_players_82 : decode cL_players 82 = .ok (.getfield 76, 3) := by decide +kernel
theorem dL_players_85 : decode cL_players 85 = .ok (.iload 5, 2) := by decide +kernel
theorem dL_players_87 : decode cL_players 87 = .ok (.iaload, 1) := by decide +kernel
theorem dL_players_88 : decode cL_players 88 = .ok (.if_icmp .ne 74, 3) := by decide +kernel
theorem dL_players_91 : decode cL_players 91 = .ok (.aload_n 0, 1) := by decide +kernel
theorem dL_players_92 : decode cL_players 92 = .ok (.iload 5, 2) := by decide +kernel
theorem dL_players_94 : decode cL_players 94 = .ok (.iconst 4, 1) := by decide +kernel
theorem dL_players_95 : decode cL_players 95 = .ok (.invokevirtual 185, 3) := by decide +kernel
theorem dL_players_98 : decode cL_players 98 = .ok (.iload 6, 2) := by decide +kernel
theorem dL_players_100 : decode cL_players 100 = .ok (.if_icmp .ne 62, 3) := by decide +kernel
theorem dL_players_103 : decode cL_players 103 = .ok (.aload_n 0, 1) := by decide +kernel
theorem dL_players_104 : decode cL_players 104 = .ok (.iload 5, 2) := by decide +kernel
theorem dL_players_106 : decode cL_players 106 = .ok (.iconst 5, 1) := by decide +kernel
theorem dL_players_107 : decode cL_players 107 = .ok (.invokevirtual 185, 3) := by decide +kernel
theorem dL_players_110 : decode cL_players 110 = .ok (.aload_n 1, 1) := by decide +kernel
theorem dL_players_111 : decode cL_players 111 = .ok (.iload 5, 2) := by decide +kernel
theorem dL_players_113 : decode cL_players 113 = .ok (.invokevirtual 188, 3) := by decide +kernel
theorem dL_players_116 : decode cL_players 116 = .ok (.if_icmp .ne 46, 3) := by decide +kernel
theorem dL_players_119 : decode cL_players 119 = .ok (.aload_n 0, 1) := by decide +kernel
theorem dL_players_120 : decode cL_players 120 = .ok (.iload 5, 2) := by decide +kernel
theorem dL_players_122 : decode cL_players 122 = .ok (.bipush 6, 2) := by decide +kernel
theorem dL_players_124 : decode cL_players 124 = .ok (.invokevirtual 185, 3) := by decide +kernel
theorem dL_players_127 : decode cL_players 127 = .ok (.iconst 0, 1) := by decide +kernel
theorem dL_players_128 : decode cL_players 128 = .ok (.iload 7, 2) := by decide +kernel
theorem dL_players_130 : decode cL_players 130 = .ok (.ineg, 1) := by decide +kernel
theorem dL_players_131 : decode cL_players 131 = .ok (.invokestatic 93, 3) := by decide +kernel
theorem dL_players_134 : decode cL_players 134 = .ok (.if_icmp .ne 28, 3) := by decide +kernel
theorem dL_players_137 : decode cL_players 137 = .ok (.aload_n 0, 1) := by decide +kernel
theorem dL_players_138 : decode cL_players 138 = .ok (.iload 5, 2) := by decide +kernel
theorem dL_players_140 : decode cL_players 140 = .ok (.bipush 7, 2) := by decide +kernel
theorem dL_players_142 : decode cL_players 142 = .ok (.invokevirtual 185, 3) := by decide +kernel
theorem dL_players_145 : decode cL_players 145 = .ok (.iconst 0, 1) := by decide +kernel
theorem dL_players_146 : decode cL_players 146 = .ok (.iload 7, 2) := by decide +kernel
theorem dL_players_148 : decode cL_players 148 = .ok (.invokestatic 93, 3) := by decide +kernel
theorem dL_players_151 : decode cL_players 151 = .ok (.aload_n 1, 1) := by decide +kernel
theorem dL_players_152 : decode cL_players 152 = .ok (.getfield 79, 3) := by decide +kernel
theorem dL_players_155 : decode cL_players 155 = .ok (.iload 5, 2) := by decide +kernel
theorem dL_players_157 : decode cL_players 157 = .ok (.iaload, 1) := by decide +kernel
theorem dL_players_158 : decode cL_players 158 = .ok (.imul, 1) := by decide +kernel
theorem dL_players_159 : decode cL_players 159 = .ok (.if_icmp .eq 5, 3) := by decide +kernel
theorem dL_players_162 : decode cL_players 162 = .ok (.iconst 0, 1) := by decide +kernel
theorem dL_players_163 : decode cL_players 163 = .ok (.ireturn, 1) := by decide +kernel
theorem dL_players_164 : decode cL_players 164 = .ok (.iinc 5 1, 3) := by decide +kernel
theorem dL_players_167 : decode cL_players 167 = .ok (.goto (-159), 3) := by decide +kernel
theorem dL_players_170 : decode cL_players 170 = .ok (.iconst 0, 1) := by decide +kernel
theorem dL_players_171 : decode cL_players 171 = .ok (.istore 5, 2) := by decide +kernel
theorem dL_players_173 : decode cL_players 173 = .ok (.iload 5, 2) := by decide +kernel
theorem dL_players_175 : decode cL_players 175 = .ok (.aload_n 1, 1) := by decide +kernel
theorem dL_players_176 : decode cL_players 176 = .ok (.getfield 100, 3) := by decide +kernel
theorem dL_players_179 : decode cL_players 179 = .ok (.if_icmp .ge 48, 3) := by decide +kernel
theorem dL_players_182 : decode cL_players 182 = .ok (.aload_n 0, 1) := by decide +kernel
theorem dL_players_183 : decode cL_players 183 = .ok (.iload 5, 2) := by decide +kernel
theorem dL_players_185 : decode cL_players 185 = .ok (.bipush 7, 2) := by decide +kernel
theorem dL_players_187 : decode cL_players 187 = .ok (.invokevirtual 191, 3) := by decide +kernel
theorem dL_players_190 : decode cL_players 190 = .ok (.aload_n 1, 1) := by decide +kernel
theorem dL_players_191 : decode cL_players 191 = .ok (.iload 5, 2) := by decide +kernel
theorem dL_players_193 : decode cL_players 193 = .ok (.invokevirtual 194, 3) := by decide +kernel
theorem dL_players_196 : decode cL_players 196 = .ok (.if_icmp .ne 23, 3) := by decide +kernel
theorem dL_players_199 : decode cL_players 199 = .ok (.aload_n 0, 1) := by decide +kernel
theorem dL_players_200 : decode cL_players 200 = .ok (.iload 5, 2) := by decide +kernel
theorem dL_players_202 : decode cL_players 202 = .ok (.iconst 5, 1) := by decide +kernel
theorem dL_players_203 : decode cL_players 203 = .ok (.invokevirtual 191, 3) := by decide +kernel
theorem dL_players_206 : decode cL_players 206 = .ok (.aload_n 1, 1) := by decide +kernel
theorem dL_players_207 : decode cL_players 207 = .ok (.iload 5, 2) := by decide +kernel
theorem dL_players_209 : decode cL_players 209 = .ok (.sipush 999, 3) := by decide +kernel
theorem dL_players_212 : decode cL_players 212 = .ok (.iconst (-1), 1) := by decide +kernel
theorem dL_players_213 : decode cL_players 213 = .ok (.invokevirtual 197, 3) := by decide +kernel
theorem dL_players_216 : decode cL_players 216 = .ok (.if_icmp .eq 5, 3) := by decide +kernel
theorem dL_players_219 : decode cL_players 219 = .ok (.iconst 0, 1) := by decide +kernel
theorem dL_players_220 : decode cL_players 220 = .ok (.ireturn, 1) := by decide +kernel
theorem dL_players_221 : decode cL_players 221 = .ok (.iinc 5 1, 3) := by decide +kernel
theorem dL_players_224 : decode cL_players 224 = .ok (.goto (-51), 3) := by decide +kernel
theorem dL_players_227 : decode cL_players 227 = .ok (.iconst 0, 1) := by decide +kernel
theorem dL_players_228 : decode cL_players 228 = .ok (.istore 5, 2) := by decide +kernel
theorem dL_players_230 : decode cL_players 230 = .ok (.iload 5, 2) := by decide +kernel
theorem dL_players_232 : decode cL_players 232 = .ok (.iconst 4, 1) := by decide +kernel
theorem dL_players_233 : decode cL_players 233 = .ok (.if_icmp .ge 26, 3) := by decide +kernel
theorem dL_players_236 : decode cL_players 236 = .ok (.aload_n 0, 1) := by decide +kernel
theorem dL_players_237 : decode cL_players 237 = .ok (.iload 5, 2) := by decide +kernel
theorem dL_players_239 : decode cL_players 239 = .ok (.invokevirtual 200, 3) := by decide +kernel
theorem dL_players_242 : decode cL_players 242 = .ok (.aload_n 1, 1) := by decide +kernel
theorem dL_players_243 : decode cL_players 243 = .ok (.iload 5, 2) := by decide +kernel
theorem dL_players_245 : decode cL_players 245 = .ok (.invokevirtual 203, 3) := by decide +kernel
theorem dL_players_248 : decode cL_players 248 = .ok (.if_icmp .eq 5, 3) := by decide +kernel
theorem dL_players_251 : decode cL_players 251 = .ok (.iconst 0, 1) := by decide +kernel
theorem dL_players_252 : decode cL_players 252 = .ok (.ireturn, 1) := by decide +kernel
theorem dL_players_253 : decode cL_players 253 = .ok (.iinc 5 1, 3) := by decide +kernel
theorem dL_players_256 : decode cL_players 256 = .ok (.goto (-26), 3) := by decide +kernel
theorem dL_players_259 : decode cL_players 259 = .ok (.aload_n 2, 1) := by decide +kernel
theorem dL_players_260 : decode cL_players 260 = .ok (.aload_n 1, 1) := by decide +kernel
theorem dL_players_261 : decode cL_players 261 = .ok (.getfield 73, 3) := by decide +kernel
theorem dL_players_264 : decode cL_players 264 = .ok (.invokestatic 39, 3) := by decide +kernel
theorem dL_players_267 : decode cL_players 267 = .ok (.istore 5, 2) := by decide +kernel
theorem dL_players_269 : decode cL_players 269 = .ok (.aload_n 2, 1) := by decide +kernel
theorem dL_players_270 : decode cL_players 270 = .ok (.iconst 3, 1) := by decide +kernel
theorem dL_players_271 : decode cL_players 271 = .ok (.aload_n 1, 1) := by decide +kernel
theorem dL_players_272 : decode cL_players 272 = .ok (.getfield 43, 3) := by decide +kernel
theorem dL_players_275 : decode cL_players 275 = .ok (.imul, 1) := by decide +kernel
theorem dL_players_276 : decode cL_players 276 = .ok (.invokestatic 39, 3) := by decide +kernel
theorem dL_players_279 : decode cL_players 279 = .ok (.istore 6, 2) := by decide +kernel
theorem dL_players_281 : decode cL_players 281 = .ok (.aload_n 0, 1) := by decide +kernel
theorem dL_players_282 : decode cL_players 282 = .ok (.iload 5, 2) := by decide +kernel
theorem dL_players_284 : decode cL_players 284 = .ok (.iload 6, 2) := by decide +kernel
theorem dL_players_286 : decode cL_players 286 = .ok (.invokevirtual 204, 3) := by decide +kernel
theorem dL_players_289 : decode cL_players 289 = .ok (.aload_n 1, 1) := by decide +kernel
theorem dL_players_290 : decode cL_players 290 = .ok (.iload 5, 2) := by decide +kernel
theorem dL_players_292 : decode cL_players 292 = .ok (.iload 6, 2) := by decide +kernel
theorem dL_players_294 : decode cL_players 294 = .ok (.iconst (-1), 1) := by decide +kernel
theorem dL_players_295 : decode cL_players 295 = .ok (.invokevirtual 208, 3) := by decide +kernel
theorem dL_players_298 : decode cL_players 298 = .ok (.if_icmp .ne 24, 3) := by decide +kernel
theorem dL_players_301 : decode cL_players 301 = .ok (.aload_n 0, 1) := by decide +kernel
theorem dL_players_302 : decode cL_players 302 = .ok (.invokevirtual 211, 3) := by decide +kernel
theorem dL_players_305 : decode cL_players 305 = .ok (.iload_n 3, 1) := by decide +kernel
theorem dL_players_306 : decode cL_players 306 = .ok (.if_icmp .ne 16, 3) := by decide +kernel
theorem dL_players_309 : decode cL_players 309 = .ok (.aload_n 0, 1) := by decide +kernel
theorem dL_players_310 : decode cL_players 310 = .ok (.invokevirtual 214, 3) := by decide +kernel
theorem dL_players_313 : decode cL_players 313 = .ok (.iload 4, 2) := by decide +kernel
theorem dL_players_315 : decode cL_players 315 = .ok (.if_icmp .ne 7, 3) := by decide +kernel
theorem dL_players_318 : decode cL_players 318 = .ok (.iconst 1, 1) := by decide +kernel
theorem dL_players_319 : decode cL_players 319 = .ok (.goto 4, 3) := by decide +kernel
theorem dL_players_322 : decode cL_players 322 = .ok (.iconst 0, 1) := by decide +kernel
theorem dL_players_323 : decode cL_players 323 = .ok (.ireturn, 1) := by decide +kernel
theorem dL_asks_0 : decode cL_asks 0 = .ok (.aload_n 2, 1) := by decide +kernel
theorem dL_asks_1 : decode cL_asks 1 = .ok (.aload_n 1, 1) := by decide +kernel
theorem dL_asks_2 : decode cL_asks 2 = .ok (.getfield 60, 3) := by decide +kernel
theorem dL_asks_5 : decode cL_asks 5 = .ok (.invokestatic 39, 3) := by decide +kernel
theorem dL_asks_8 : decode cL_asks 8 = .ok (.istore_n 3, 1) := by decide +kernel
theorem dL_asks_9 : decode cL_asks 9 = .ok (.aload_n 2, 1) := by decide +kernel
theorem dL_asks_10 : decode cL_asks 10 = .ok (.iconst 3, 1) := by decide +kernel
theorem dL_asks_11 : decode cL_asks 11 = .ok (.aload_n 1, 1) := by decide +kernel
theorem dL_asks_12 : decode cL_asks 12 = .ok (.getfield 43, 3) := by decide +kernel
theorem dL_asks_15 : decode cL_asks 15 = .ok (.imul, 1) := by decide +kernel
theorem dL_asks_16 : decode cL_asks 16 = .ok (.invokestatic 39, 3) := by decide +kernel
theorem dL_asks_19 : decode cL_asks 19 = .ok (.istore 4, 2) := by decide +kernel
theorem dL_asks_21 : decode cL_asks 21 = .ok (.aload_n 2, 1) := by decide +kernel
theorem dL_asks_22 : decode cL_asks 22 = .ok (.iconst 2, 1) := by decide +kernel
theorem dL_asks_23 : decode cL_asks 23 = .ok (.invokestatic 39, 3) := by decide +kernel
theorem dL_asks_26 : decode cL_asks 26 = .ok (.ifCond .ne 7, 3) := by decide +kernel
theorem dL_asks_29 : decode cL_asks 29 = .ok (.iconst 1, 1) := by decide +kernel
theorem dL_asks_30 : decode cL_asks 30 = .ok (.goto 4, 3) := by decide +kernel
theorem dL_asks_33 : decode cL_asks 33 = .ok (.iconst 0, 1) := by decide +kernel
theorem dL_asks_34 : decode cL_asks 34 = .ok (.istore 5, 2) := by decide +kernel
theorem dL_asks_36 : decode cL_asks 36 = .ok (.iconst 1, 1) := by decide +kernel
theorem dL_asks_37 : decode cL_asks 37 = .ok (.aload_n 2, 1) := by decide +kernel
theorem dL_asks_38 : decode cL_asks 38 = .ok (.aload_n 1, 1) := by decide +kernel
theorem dL_asks_39 : decode cL_asks 39 = .ok (.getfield 100, 3) := by decide +kernel
theorem dL_asks_42 : decode cL_asks 42 = .ok (.invokestatic 39, 3) := by decide +kernel
theorem dL_asks_45 : decode cL_asks 45 = .ok (.ishl, 1) := by decide +kernel
theorem dL_asks_46 : decode cL_asks 46 = .ok (.iload 5, 2) := by decide +kernel
theorem dL_asks_48 : decode cL_asks 48 = .ok (.ifCond .eq 24, 3) := by decide +kernel
theorem dL_asks_51 : decode cL_asks 51 = .ok (.aload_n 2, 1) := by decide +kernel
theorem dL_asks_52 : decode cL_asks 52 = .ok (.iconst 2, 1) := by decide +kernel
theorem dL_asks_53 : decode cL_asks 53 = .ok (.invokestatic 39, 3) := by decide +kernel
theorem dL_asks_56 : decode cL_asks 56 = .ok (.ifCond .ne 16, 3) := by decide +kernel
theorem dL_asks_59 : decode cL_asks 59 = .ok (.iconst 1, 1) := by decide +kernel
theorem dL_asks_60 : decode cL_asks 60 = .ok (.aload_n 2, 1) := by decide +kernel
theorem dL_asks_61 : decode cL_asks 61 = .ok (.aload_n 1, 1) := by decide +kernel
theorem dL_asks_62 : decode cL_asks 62 = .ok (.getfield 100, 3) := by decide +kernel
theorem dL_asks_65 : decode cL_asks 65 = .ok (.invokestatic 39, 3) := by decide +kernel
theorem dL_asks_68 : decode cL_asks 68 = .ok (.ishl, 1) := by decide +kernel
theorem dL_asks_69 : decode cL_asks 69 = .ok (.goto 4, 3) := by decide +kernel
theorem dL_asks_72 : decode cL_asks 72 = .ok (.iconst 0, 1) := by decide +kernel
theorem dL_asks_73 : decode cL_asks 73 = .ok (.ior, 1) := by decide +kernel
theorem dL_asks_74 : decode cL_asks 74 = .ok (.istore 6, 2) := by decide +kernel
theorem dL_asks_76 : decode cL_asks 76 = .ok (.aload_n 1, 1) := by decide +kernel
theorem dL_asks_77 : decode cL_asks 77 = .ok (.iload_n 3, 1) := by decide +kernel
theorem dL_asks_78 : decode cL_asks 78 = .ok (.iload 4, 2) := by decide +kernel
theorem dL_asks_80 : decode cL_asks 80 = .ok (.iload 6, 2) := by decide +kernel
theorem dL_asks_82 : decode cL_asks 82 = .ok (.iload 5, 2) := by decide +kernel
theorem dL_asks_84 : decode cL_asks 84 = .ok (.iconst (-1), 1) := by decide +kernel
theorem dL_asks_85 : decode cL_asks 85 = .ok (.invokevirtual 217, 3) := by decide +kernel
theorem dL_asks_88 : decode cL_asks 88 = .ok (.istore 7, 2) := by decide +kernel
theorem dL_asks_90 : decode cL_asks 90 = .ok (.aload_n 0, 1) := by decide +kernel
theorem dL_asks_91 : decode cL_asks 91 = .ok (.iload_n 3, 1) := by decide +kernel
theorem dL_asks_92 : decode cL_asks 92 = .ok (.iload 4, 2) := by decide +kernel
theorem dL_asks_94 : decode cL_asks 94 = .ok (.iload 6, 2) := by decide +kernel
theorem dL_asks_96 : decode cL_asks 96 = .ok (.iload 5, 2) := by decide +kernel
theorem dL_asks_98 : decode cL_asks 98 = .ok (.invokevirtual 221, 3) := by decide +kernel
theorem dL_asks_101 : decode cL_asks 101 = .ok (.iload 7, 2) := by decide +kernel
theorem dL_asks_103 : decode cL_asks 103 = .ok (.if_icmp .eq 5, 3) := by decide +kernel
theorem dL_asks_106 : decode cL_asks 106 = .ok (.iconst 0, 1) := by decide +kernel
theorem dL_asks_107 : decode cL_asks 107 = .ok (.ireturn, 1) := by decide +kernel
theorem dL_asks_108 : decode cL_asks 108 = .ok (.iload 4, 2) := by decide +kernel
theorem dL_asks_110 : decode cL_asks 110 = .ok (.istore 8, 2) := by decide +kernel
theorem dL_asks_112 : decode cL_asks 112 = .ok (.iload 8, 2) := by decide +kernel
theorem dL_asks_114 : decode cL_asks 114 = .ok (.iconst 3, 1) := by decide +kernel
theorem dL_asks_115 : decode cL_asks 115 = .ok (.aload_n 1, 1) := by decide +kernel
theorem dL_asks_116 : decode cL_asks 116 = .ok (.getfield 43, 3) := by decide +kernel
theorem dL_asks_119 : decode cL_asks 119 = .ok (.imul, 1) := by decide +kernel
theorem dL_asks_120 : decode cL_asks 120 = .ok (.if_icmp .ge 24, 3) := by decide +kernel
theorem dL_asks_123 : decode cL_asks 123 = .ok (.aload_n 1, 1) := by decide +kernel
theorem dL_asks_124 : decode cL_asks 124 = .ok (.iload_n 3, 1) := by decide +kernel
theorem dL_asks_125 : decode cL_asks 125 = .ok (.iload 8, 2) := by decide +kernel
theorem dL_asks_127 : decode cL_asks 127 = .ok (.iload 6, 2) := by decide +kernel
theorem dL_asks_129 : decode cL_asks 129 = .ok (.iload 5, 2) := by decide +kernel
theorem dL_asks_131 : decode cL_asks 131 = .ok (.iconst (-1), 1) := by decide +kernel
theorem dL_asks_132 : decode cL_asks 132 = .ok (.invokevirtual 217, 3) := by decide +kernel
theorem dL_asks_135 : decode cL_asks 135 = .ok (.ifCond .le 9, 3) := by decide +kernel
theorem dL_asks_138 : decode cL_asks 138 = .ok (.iinc 8 1, 3) := by decide +kernel
theorem dL_asks_141 : decode cL_asks 141 = .ok (.goto (-29), 3) := by decide +kernel
theorem dL_asks_144 : decode cL_asks 144 = .ok (.aload_n 0, 1) := by decide +kernel
theorem dL_asks_145 : decode cL_asks 145 = .ok (.iload_n 3, 1) := by decide +kernel
theorem dL_asks_146 : decode cL_asks 146 = .ok (.iload 4, 2) := by decide +kernel
theorem dL_asks_148 : decode cL_asks 148 = .ok (.iload 6, 2) := by decide +kernel
theorem dL_asks_150 : decode cL_asks 150 = .ok (.iload 5, 2) := by decide +kernel
theorem dL_asks_152 : decode cL_asks 152 = .ok (.invokevirtual 225, 3) := by decide +kernel
theorem dL_asks_155 : decode cL_asks 155 = .ok (.iload 8, 2) := by decide +kernel
theorem dL_asks_157 : decode cL_asks 157 = .ok (.iconst 3, 1) := by decide +kernel
theorem dL_asks_158 : decode cL_asks 158 = .ok (.aload_n 1, 1) := by decide +kernel
theorem dL_asks_159 : decode cL_asks 159 = .ok (.getfield 43, 3) := by decide +kernel
theorem dL_asks_162 : decode cL_asks 162 = .ok (.imul, 1) := by decide +kernel
theorem dL_asks_163 : decode cL_asks 163 = .ok (.if_icmp .ge 8, 3) := by decide +kernel
theorem dL_asks_166 : decode cL_asks 166 = .ok (.iload 8, 2) := by decide +kernel
theorem dL_asks_168 : decode cL_asks 168 = .ok (.goto 4, 3) := by decide +kernel
theorem dL_asks_171 : decode cL_asks 171 = .ok (.iconst (-1), 1) := by decide +kernel
theorem dL_asks_172 : decode cL_asks 172 = .ok (.if_icmp .eq 5, 3) := by decide +kernel
theorem dL_asks_175 : decode cL_asks 175 = .ok (.iconst 0, 1) := by decide +kernel
theorem dL_asks_176 : decode cL_asks 176 = .ok (.ireturn, 1) := by decide +kernel
theorem dL_asks_177 : decode cL_asks 177 = .ok (.iconst (-1), 1) := by decide +kernel
theorem dL_asks_178 : decode cL_asks 178 = .ok (.istore 9, 2) := by decide +kernel
theorem dL_asks_180 : decode cL_asks 180 = .ok (.iload 7, 2) := by decide +kernel
theorem dL_asks_182 : decode cL_asks 182 = .ok (.ifCond .ne 29, 3) := by decide +kernel
theorem dL_asks_185 : decode cL_asks 185 = .ok (.aload_n 1, 1) := by decide +kernel
theorem dL_asks_186 : decode cL_asks 186 = .ok (.iload_n 3, 1) := by decide +kernel
theorem dL_asks_187 : decode cL_asks 187 = .ok (.iload 4, 2) := by decide +kernel
theorem dL_asks_189 : decode cL_asks 189 = .ok (.iload 6, 2) := by decide +kernel
theorem dL_asks_191 : decode cL_asks 191 = .ok (.iload 5, 2) := by decide +kernel
theorem dL_asks_193 : decode cL_asks 193 = .ok (.invokevirtual 228, 3) := by decide +kernel
theorem dL_asks_196 : decode cL_asks 196 = .ok (.istore 10, 2) := by decide +kernel
theorem dL_asks_198 : decode cL_asks 198 = .ok (.aload_n 1, 1) := by decide +kernel
theorem dL_asks_199 : decode cL_asks 199 = .ok (.iconst 3, 1) := by decide +kernel
theorem dL_asks_200 : decode cL_asks 200 = .ok (.invokevirtual 203, 3) := by decide +kernel
theorem dL_asks_203 : decode cL_asks 203 = .ok (.istore 9, 2) := by decide +kernel
theorem dL_asks_205 : decode cL_asks 205 = .ok (.aload_n 1, 1) := by decide +kernel
theorem dL_asks_206 : decode cL_asks 206 = .ok (.iload 10, 2) := by decide +kernel
theorem dL_asks_208 : decode cL_asks 208 = .ok (.invokevirtual 231, 3) := by decide +kernel
theorem dL_asks_211 : decode cL_asks 211 = .ok (.aload_n 2, 1) := by decide +kernel
theorem dL_asks_212 : decode cL_asks 212 = .ok (.aload_n 1, 1) := by decide +kernel
theorem dL_asks_213 : decode cL_asks 213 = .ok (.getfield 100, 3) := by decide +kernel
theorem dL_asks_216 : decode cL_asks 216 = .ok (.invokestatic 39, 3) := by decide +kernel
theorem dL_asks_219 : decode cL_asks 219 = .ok (.istore 10, 2) := by decide +kernel
theorem dL_asks_221 : decode cL_asks 221 = .ok (.aload_n 1, 1) := by decide +kernel
theorem dL_asks_222 : decode cL_asks 222 = .ok (.iload 10, 2) := by decide +kernel
theorem dL_asks_224 : decode cL_asks 224 = .ok (.iload 4, 2) := by decide +kernel
theorem dL_asks_226 : decode cL_asks 226 = .ok (.iconst (-1), 1) := by decide +kernel
theorem dL_asks_227 : decode cL_asks 227 = .ok (.invokevirtual 235, 3) := by decide +kernel
theorem dL_asks_230 : decode cL_asks 230 = .ok (.astore 11, 2) := by decide +kernel
theorem dL_asks_232 : decode cL_asks 232 = .ok (.aload_n 0, 1) := by decide +kernel
theorem dL_asks_233 : decode cL_asks 233 = .ok (.iload_n 3, 1) := by decide +kernel
theorem dL_asks_234 : decode cL_asks 234 = .ok (.iload 4, 2) := by decide +kernel
theorem dL_asks_236 : decode cL_asks 236 = .ok (.iload 6, 2) := by decide +kernel
theorem dL_asks_238 : decode cL_asks 238 = .ok (.iload 5, 2) := by decide +kernel
theorem dL_asks_240 : decode cL_asks 240 = .ok (.invokevirtual 238, 3) := by decide +kernel
theorem dL_asks_243 : decode cL_asks 243 = .ok (.iload 9, 2) := by decide +kernel
theorem dL_asks_245 : decode cL_asks 245 = .ok (.if_icmp .ne 35, 3) := by decide +kernel
theorem dL_asks_248 : decode cL_asks 248 = .ok (.aload_n 0, 1) := by decide +kernel
theorem dL_asks_249 : decode cL_asks 249 = .ok (.iload 10, 2) := by decide +kernel
theorem dL_asks_251 : decode cL_asks 251 = .ok (.iload 4, 2) := by decide +kernel
theorem dL_asks_253 : decode cL_asks 253 = .ok (.invokevirtual 241, 3) := by decide +kernel
theorem dL_asks_256 : decode cL_asks 256 = .ok (.aload 11, 2) := by decide +kernel
theorem dL_asks_258 : decode cL_asks 258 = .ok (.ifnonnull 7, 3) := by decide +kernel
theorem dL_asks_261 : decode cL_asks 261 = .ok (.iconst (-1), 1) := by decide +kernel
theorem dL_asks_262 : decode cL_asks 262 = .ok (.goto 11, 3) := by decide +kernel
theorem dL_asks_265 : decode cL_asks 265 = .ok (.aload_n 1, 1) := by decide +kernel
theorem dL_asks_266 : decode cL_asks 266 = .ok (.iload 10, 2) := by decide +kernel
theorem dL_asks_268 : decode cL_asks 268 = .ok (.aload 11, 2) := by decide +kernel
theorem dL_asks_270 : decode cL_asks 270 = .ok (.invokevirtual 166, 3) := by decide +kernel
theorem dL_asks_273 : decode cL_asks 273 = .ok (.if_icmp .ne 7, 3) := by decide +kernel
theorem dL_asks_276 : decode cL_asks 276 = .ok (.iconst 1, 1) := by decide +kernel
theorem dL_asks_277 : decode cL_asks 277 = .ok (.goto 4, 3) := by decide +kernel
theorem dL_asks_280 : decode cL_asks 280 = .ok (.iconst 0, 1) := by decide +kernel
theorem dL_asks_281 : decode cL_asks 281 = .ok (.ireturn, 1) := by decide +kernel
theorem dL_changes_0 : decode cL_changes 0 = .ok (.aload_n 2, 1) := by decide +kernel
theorem dL_changes_1 : decode cL_changes 1 = .ok (.iconst 3, 1) := by decide +kernel
theorem dL_changes_2 : decode cL_changes 2 = .ok (.aload_n 1, 1) := by decide +kernel
theorem dL_changes_3 : decode cL_changes 3 = .ok (.getfield 43, 3) := by decide +kernel
theorem dL_changes_6 : decode cL_changes 6 = .ok (.imul, 1) := by decide +kernel
theorem dL_changes_7 : decode cL_changes 7 = .ok (.invokestatic 39, 3) := by decide +kernel
theorem dL_changes_10 : decode cL_changes 10 = .ok (.istore_n 3, 1) := by decide +kernel
theorem dL_changes_11 : decode cL_changes 11 = .ok (.aload_n 1, 1) := by decide +kernel
theorem dL_changes_12 : decode cL_changes 12 = .ok (.getfield 155, 3) := by decide +kernel
theorem dL_changes_15 : decode cL_changes 15 = .ok (.ifCond .ne 7, 3) := by decide +kernel
theorem dL_changes_18 : decode cL_changes 18 = .ok (.iconst 0, 1) := by decide +kernel
theorem dL_changes_19 : decode cL_changes 19 = .ok (.goto 11, 3) := by decide +kernel
theorem dL_changes_22 : decode cL_changes 22 = .ok (.aload_n 2, 1) := by decide +kernel
theorem dL_changes_23 : decode cL_changes 23 = .ok (.aload_n 1, 1) := by decide +kernel
theorem dL_changes_24 : decode cL_changes 24 = .ok (.getfield 155, 3) := by decide +kernel
theorem dL_changes_27 : decode cL_changes 27 = .ok (.invokestatic 39, 3) := by decide +kernel
theorem dL_changes_30 : decode cL_changes 30 = .ok (.istore 4, 2) := by decide +kernel
theorem dL_changes_32 : decode cL_changes 32 = .ok (.aload_n 2, 1) := by decide +kernel
theorem dL_changes_33 : decode cL_changes 33 = .ok (.bipush 9, 2) := by decide +kernel
theorem dL_changes_35 : decode cL_changes 35 = .ok (.invokestatic 39, 3) := by decide +kernel
theorem dL_changes_38 : decode cL_changes 38 = .ok (.tableswitch 485 0 3 #[30, 86, 180, 351], 30) := by decide +kernel
theorem dL_changes_68 : decode cL_changes 68 = .ok (.aload_n 2, 1) := by decide +kernel
theorem dL_changes_69 : decode cL_changes 69 = .ok (.aload_n 1, 1) := by decide +kernel
theorem dL_changes_70 : decode cL_changes 70 = .ok (.getfield 73, 3) := by decide +kernel
theorem dL_changes_73 : decode cL_changes 73 = .ok (.invokestatic 39, 3) := by decide +kernel
theorem dL_changes_76 : decode cL_changes 76 = .ok (.istore 5, 2) := by decide +kernel
theorem dL_changes_78 : decode cL_changes 78 = .ok (.aload_n 1, 1) := by decide +kernel
theorem dL_changes_79 : decode cL_changes 79 = .ok (.getfield 76, 3) := by decide +kernel
theorem dL_changes_82 : decode cL_changes 82 = .ok (.iload 5, 2) := by decide +kernel
theorem dL_changes_84 : decode cL_changes 84 = .ok (.iaload, 1) := by decide +kernel
theorem dL_changes_85 : decode cL_changes 85 = .ok (.istore 6, 2) := by decide +kernel
theorem dL_changes_87 : decode cL_changes 87 = .ok (.aload_n 1, 1) := by decide +kernel
theorem dL_changes_88 : decode cL_changes 88 = .ok (.getfield 76, 3) := by decide +kernel
theorem dL_changes_91 : decode cL_changes 91 = .ok (.iload 5, 2) := by decide +kernel
theorem dL_changes_93 : decode cL_changes 93 = .ok (.aload_n 2, 1) := by decide +kernel
theorem dL_changes_94 : decode cL_changes 94 = .ok (.bipush 8, 2) := by decide +kernel
theorem dL_changes_96 : decode cL_changes 96 = .ok (.invokestatic 39, 3) := by decide +kernel
theorem dL_changes_99 : decode cL_changes 99 = .ok (.iastore, 1) := by decide +kernel
theorem dL_changes_100 : decode cL_changes 100 = .ok (.aload_n 0, 1) := by decide +kernel
theorem dL_changes_101 : decode cL_changes 101 = .ok (.iload 5, 2) := by decide +kernel
theorem dL_changes_103 : decode cL_changes 103 = .ok (.aload_n 1, 1) := by decide +kernel
theorem dL_changes_104 : decode cL_changes 104 = .ok (.getfield 76, 3) := by decide +kernel
theorem dL_changes_107 : decode cL_changes 107 = .ok (.iload 5, 2) := by decide +kernel
theorem dL_changes_109 : decode cL_changes 109 = .ok (.iaload, 1) := by decide +kernel
theorem dL_changes_110 : decode cL_changes 110 = .ok (.invokevirtual 244, 3) := by decide +kernel
theorem dL_changes_113 : decode cL_changes 113 = .ok (.iload 6, 2) := by decide +kernel
theorem dL_changes_115 : decode cL_changes 115 = .ok (.if_icmp .ne 7, 3) := by decide +kernel
theorem dL_changes_118 : decode cL_changes 118 = .ok (.iconst 1, 1) := by decide +kernel
theorem dL_changes_119 : decode cL_changes 119 = .ok (.goto 4, 3) := by decide +kernel
theorem dL_changes_122 : decode cL_changes 122 = .ok (.iconst 0, 1) := by decide +kernel
theorem dL_changes_123 : decode cL_changes 123 = .ok (.ireturn, 1) := by decide +kernel
theorem dL_changes_124 : decode cL_changes 124 = .ok (.aload_n 1, 1) := by decide +kernel
theorem dL_changes_125 : decode cL_changes 125 = .ok (.getfield 155, 3) := by decide +kernel
theorem dL_changes_128 : decode cL_changes 128 = .ok (.ifCond .ne 5, 3) := by decide +kernel
theorem dL_changes_131 : decode cL_changes 131 = .ok (.iconst 1, 1) := by decide +kernel
theorem dL_changes_132 : decode cL_changes 132 = .ok (.ireturn, 1) := by decide +kernel
theorem dL_changes_133 : decode cL_changes 133 = .ok (.aload_n 1, 1) := by decide +kernel
theorem dL_changes_134 : decode cL_changes 134 = .ok (.getfield 173, 3) := by decide +kernel
theorem dL_changes_137 : decode cL_changes 137 = .ok (.iload 4, 2) := by decide +kernel
theorem dL_changes_139 : decode cL_changes 139 = .ok (.aaload, 1) := by decide +kernel
theorem dL_changes_140 : decode cL_changes 140 = .ok (.astore 5, 2) := by decide +kernel
theorem dL_changes_142 : decode cL_changes 142 = .ok (.aload_n 1, 1) := by decide +kernel
theorem dL_changes_143 : decode cL_changes 143 = .ok (.getfield 158, 3) := by decide +kernel
theorem dL_changes_146 : decode cL_changes 146 = .ok (.iload 4, 2) := by decide +kernel
theorem dL_changes_148 : decode cL_changes 148 = .ok (.aaload, 1) := by decide +kernel
theorem dL_changes_149 : decode cL_changes 149 = .ok (.astore 6, 2) := by decide +kernel
theorem dL_changes_151 : decode cL_changes 151 = .ok (.aload_n 1, 1) := by decide +kernel
theorem dL_changes_152 : decode cL_changes 152 = .ok (.iload 4, 2) := by decide +kernel
theorem dL_changes_154 : decode cL_changes 154 = .ok (.invokevirtual 231, 3) := by decide +kernel
theorem dL_changes_157 : decode cL_changes 157 = .ok (.aload_n 1, 1) := by decide +kernel
theorem dL_changes_158 : decode cL_changes 158 = .ok (.invokevirtual 247, 3) := by decide +kernel
theorem dL_changes_161 : decode cL_changes 161 = .ok (.ifCond .eq 22, 3) := by decide +kernel
theorem dL_changes_164 : decode cL_changes 164 = .ok (.aload_n 0, 1) := by decide +kernel
theorem dL_changes_165 : decode cL_changes 165 = .ok (.iload 4, 2) := by decide +kernel
theorem dL_changes_167 : decode cL_changes 167 = .ok (.invokevirtual 250, 3) := by decide +kernel
theorem dL_changes_170 : decode cL_changes 170 = .ok (.aload_n 1, 1) := by decide +kernel
theorem dL_changes_171 : decode cL_changes 171 = .ok (.getfield 155, 3) := by decide +kernel
theorem dL_changes_174 : decode cL_changes 174 = .ok (.if_icmp .ne 7, 3) := by decide +kernel
theorem dL_changes_177 : decode cL_changes 177 = .ok (.iconst 1, 1) := by decide +kernel
theorem dL_changes_178 : decode cL_changes 178 = .ok (.goto 4, 3) := by decide +kernel
theorem dL_changes_181 : decode cL_changes 181 = .ok (.iconst 0, 1) := by decide +kernel
theorem dL_changes_182 : decode cL_changes 182 = .ok (.ireturn, 1) := by decide +kernel
theorem dL_changes_183 : decode cL_changes 183 = .ok (.aload_n 1, 1) := by decide +kernel
theorem dL_changes_184 : decode cL_changes 184 = .ok (.aload 5, 2) := by decide +kernel
theorem dL_changes_186 : decode cL_changes 186 = .ok (.aload 6, 2) := by decide +kernel
theorem dL_changes_188 : decode cL_changes 188 = .ok (.invokestatic 253, 3) := by decide +kernel
theorem dL_changes_191 : decode cL_changes 191 = .ok (.istore 7, 2) := by decide +kernel
theorem dL_changes_193 : decode cL_changes 193 = .ok (.iload 7, 2) := by decide +kernel
theorem dL_changes_195 : decode cL_changes 195 = .ok (.iload 4, 2) := by decide +kernel
theorem dL_changes_197 : decode cL_changes 197 = .ok (.if_icmp .ne 19, 3) := by decide +kernel
theorem dL_changes_200 : decode cL_changes 200 = .ok (.aload_n 0, 1) := by decide +kernel
theorem dL_changes_201 : decode cL_changes 201 = .ok (.iconst 5, 1) := by decide +kernel
theorem dL_changes_202 : decode cL_changes 202 = .ok (.invokevirtual 152, 3) := by decide +kernel
theorem dL_changes_205 : decode cL_changes 205 = .ok (.aload_n 1, 1) := by decide +kernel
theorem dL_changes_206 : decode cL_changes 206 = .ok (.getfield 155, 3) := by decide +kernel
theorem dL_changes_209 : decode cL_changes 209 = .ok (.if_icmp .ne 7, 3) := by decide +kernel
theorem dL_changes_212 : decode cL_changes 212 = .ok (.iconst 1, 1) := by decide +kernel
theorem dL_changes_213 : decode cL_changes 213 = .ok (.goto 4, 3) := by decide +kernel
theorem dL_changes_216 : decode cL_changes 216 = .ok (.iconst 0, 1) := by decide +kernel
theorem dL_changes_217 : decode cL_changes 217 = .ok (.ireturn, 1) := by decide +kernel
theorem dL_changes_218 : decode cL_changes 218 = .ok (.aload_n 1, 1) := by decide +kernel
theorem dL_changes_219 : decode cL_changes 219 = .ok (.getfield 155, 3) := by decide +kernel
theorem dL_changes_222 : decode cL_changes 222 = .ok (.ifCond .ne 5, 3) := by decide +kernel
theorem dL_changes_225 : decode cL_changes 225 = .ok (.iconst 1, 1) := by decide +kernel
theorem dL_changes_226 : decode cL_changes 226 = .ok (.ireturn, 1) := by decide +kernel
theorem dL_changes_227 : decode cL_changes 227 = .ok (.aload_n 1, 1) := by decide +kernel
theorem dL_changes_228 : decode cL_changes 228 = .ok (.getfield 173, 3) := by decide +kernel
theorem dL_changes_231 : decode cL_changes 231 = .ok (.iload 4, 2) := by decide +kernel
theorem dL_changes_233 : decode cL_changes 233 = .ok (.aaload, 1) := by decide +kernel
theorem dL_changes_234 : decode cL_changes 234 = .ok (.astore 5, 2) := by decide +kernel
theorem dL_changes_236 : decode cL_changes 236 = .ok (.aload_n 1, 1) := by decide +kernel
theorem dL_changes_237 : decode cL_changes 237 = .ok (.getfield 158, 3) := by decide +kernel
theorem dL_changes_240 : decode cL_changes 240 = .ok (.iload 4, 2) := by decide +kernel
theorem dL_changes_242 : decode cL_changes 242 = .ok (.aaload, 1) := by decide +kernel
theorem dL_changes_243 : decode cL_changes 243 = .ok (.astore 6, 2) := by decide +kernel
theorem dL_changes_245 : decode cL_changes 245 = .ok (.aload_n 1, 1) := by decide +kernel
theorem dL_changes_246 : decode cL_changes 246 = .ok (.aload 5, 2) := by decide +kernel
theorem dL_changes_248 : decode cL_changes 248 = .ok (.iconst 1, 1) := by decide +kernel
theorem dL_changes_249 : decode cL_changes 249 = .ok (.iaload, 1) := by decide +kernel
theorem dL_changes_250 : decode cL_changes 250 = .ok (.iload_n 3, 1) := by decide +kernel
theorem dL_changes_251 : decode cL_changes 251 = .ok (.aload 5, 2) := by decide +kernel
theorem dL_changes_253 : decode cL_changes 253 = .ok (.iconst 3, 1) := by decide +kernel
theorem dL_changes_254 : decode cL_changes 254 = .ok (.iaload, 1) := by decide +kernel
theorem dL_changes_255 : decode cL_changes 255 = .ok (.aload 5, 2) := by decide +kernel
theorem dL_changes_257 : decode cL_changes 257 = .ok (.iconst 2, 1) := by decide +kernel
theorem dL_changes_258 : decode cL_changes 258 = .ok (.iaload, 1) := by decide +kernel
theorem dL_changes_259 : decode cL_changes 259 = .ok (.iconst 1, 1) := by decide +kernel
theorem dL_changes_260 : decode cL_changes 260 = .ok (.if_icmp .ne 7, 3) := by decide +kernel
theorem dL_changes_263 : decode cL_changes 263 = .ok (.iconst 1, 1) := by decide +kernel
theorem dL_changes_264 : decode cL_changes 264 = .ok (.goto 4, 3) := by decide +kernel
theorem dL_changes_267 : decode cL_changes 267 = .ok (.iconst 0, 1) := by decide +kernel
theorem dL_changes_268 : decode cL_changes 268 = .ok (.iload 4, 2) := by decide +kernel
theorem dL_changes_270 : decode cL_changes 270 = .ok (.invokevirtual 217, 3) := by decide +kernel
theorem dL_changes_273 : decode cL_changes 273 = .ok (.istore 7, 2) := by decide +kernel
theorem dL_changes_275 : decode cL_changes 275 = .ok (.aload_n 1, 1) := by decide +kernel
theorem dL_changes_276 : decode cL_changes 276 = .ok (.iload 4, 2) := by decide +kernel
theorem dL_changes_278 : decode cL_changes 278 = .ok (.invokevirtual 231, 3) := by decide +kernel
theorem dL_changes_281 : decode cL_changes 281 = .ok (.iconst (-1), 1) := by decide +kernel
theorem dL_changes_282 : decode cL_changes 282 = .ok (.istore 8, 2) := by decide +kernel
theorem dL_changes_284 : decode cL_changes 284 = .ok (.iload 7, 2) := by decide +kernel
theorem dL_changes_286 : decode cL_changes 286 = .ok (.ifCond .ne 48, 3) := by decide +kernel
theorem dL_changes_289 : decode cL_changes 289 = .ok (.aload_n 1, 1) := by decide +kernel
theorem dL_changes_290 : decode cL_changes 290 = .ok (.aload 5, 2) := by decide +kernel
theorem dL_changes_292 : decode cL_changes 292 = .ok (.iconst 1, 1) := by decide +kernel
theorem dL_changes_293 : decode cL_changes 293 = .ok (.iaload, 1) := by decide +kernel
theorem dL_changes_294 : decode cL_changes 294 = .ok (.iload_n 3, 1) := by decide +kernel
theorem dL_changes_295 : decode cL_changes 295 = .ok (.aload 5, 2) := by decide +kernel
theorem dL_changes_297 : decode cL_changes 297 = .ok (.iconst 3, 1) := by decide +kernel
theorem dL_changes_298 : decode cL_changes 298 = .ok (.iaload, 1) := by decide +kernel
theorem dL_changes_299 : decode cL_changes 299 = .ok (.aload 5, 2) := by decide +kernel
theorem dL_changes_301 : decode cL_changes 301 = .ok (.iconst 2, 1) := by decide +kernel
theorem dL_changes_302 : decode cL_changes 302 = .ok (.iaload, 1) := by decide +kernel
theorem dL_changes_303 : decode cL_changes 303 = .ok (.iconst 1, 1) := by decide +kernel
theorem dL_changes_304 : decode cL_changes 304 = .ok (.if_icmp .ne 7, 3) := by decide +kernel
theorem dL_changes_307 : decode cL_changes 307 = .ok (.iconst 1, 1) := by decide +kernel
theorem dL_changes_308 : decode cL_changes 308 = .ok (.goto 4, 3) := by decide +kernel
theorem dL_changes_311 : decode cL_changes 311 = .ok (.iconst 0, 1) := by decide +kernel
theorem dL_changes_312 : decode cL_changes 312 = .ok (.invokevirtual 228, 3) := by decide +kernel
theorem dL_changes_315 : decode cL_changes 315 = .ok (.istore 8, 2) := by decide +kernel
theorem dL_changes_317 : decode cL_changes 317 = .ok (.aload_n 1, 1) := by decide +kernel
theorem dL_changes_318 : decode cL_changes 318 = .ok (.invokevirtual 247, 3) := by decide +kernel
theorem dL_changes_321 : decode cL_changes 321 = .ok (.ifCond .ne 13, 3) := by decide +kernel
theorem dL_changes_324 : decode cL_changes 324 = .ok (.bipush 6, 2) := by decide +kernel
theorem dL_changes_326 : decode cL_changes 326 = .ok (.istore 7, 2) := by decide +kernel
theorem dL_changes_328 : decode cL_changes 328 = .ok (.aload_n 1, 1) := by decide +kernel
theorem dL_changes_329 : decode cL_changes 329 = .ok (.iload 8, 2) := by decide +kernel
theorem dL_changes_331 : decode cL_changes 331 = .ok (.invokevirtual 231, 3) := by decide +kernel
theorem dL_changes_334 : decode cL_changes 334 = .ok (.iload 7, 2) := by decide +kernel
theorem dL_changes_336 : decode cL_changes 336 = .ok (.ifCond .le 18, 3) := by decide +kernel
theorem dL_changes_339 : decode cL_changes 339 = .ok (.aload_n 1, 1) := by decide +kernel
theorem dL_changes_340 : decode cL_changes 340 = .ok (.aload 5, 2) := by decide +kernel
theorem dL_changes_342 : decode cL_changes 342 = .ok (.aload 6, 2) := by decide +kernel
theorem dL_changes_344 : decode cL_changes 344 = .ok (.invokestatic 253, 3) := by decide +kernel
theorem dL_changes_347 : decode cL_changes 347 = .ok (.iload 4, 2) := by decide +kernel
theorem dL_changes_349 : decode cL_changes 349 = .ok (.if_icmp .eq 5, 3) := by decide +kernel
theorem dL_changes_352 : decode cL_changes 352 = .ok (.iconst 0, 1) := by decide +kernel
theorem dL_changes_353 : decode cL_changes 353 = .ok (.ireturn, 1) := by decide +kernel
theorem dL_changes_354 : decode cL_changes 354 = .ok (.aload_n 0, 1) := by decide +kernel
theorem dL_changes_355 : decode cL_changes 355 = .ok (.iload 4, 2) := by decide +kernel
theorem dL_changes_357 : decode cL_changes 357 = .ok (.iload_n 3, 1) := by decide +kernel
theorem dL_changes_358 : decode cL_changes 358 = .ok (.invokevirtual 257, 3) := by decide +kernel
theorem dL_changes_361 : decode cL_changes 361 = .ok (.iload 7, 2) := by decide +kernel
theorem dL_changes_363 : decode cL_changes 363 = .ok (.if_icmp .ne 24, 3) := by decide +kernel
theorem dL_changes_366 : decode cL_changes 366 = .ok (.iload 7, 2) := by decide +kernel
theorem dL_changes_368 : decode cL_changes 368 = .ok (.ifCond .gt 15, 3) := by decide +kernel
theorem dL_changes_371 : decode cL_changes 371 = .ok (.aload_n 0, 1) := by decide +kernel
theorem dL_changes_372 : decode cL_changes 372 = .ok (.iload 4, 2) := by decide +kernel
theorem dL_changes_374 : decode cL_changes 374 = .ok (.iload_n 3, 1) := by decide +kernel
theorem dL_changes_375 : decode cL_changes 375 = .ok (.invokevirtual 260, 3) := by decide +kernel
theorem dL_changes_378 : decode cL_changes 378 = .ok (.iload 8, 2) := by decide +kernel
theorem dL_changes_380 : decode cL_changes 380 = .ok (.if_icmp .ne 7, 3) := by decide +kernel
theorem dL_changes_383 : decode cL_changes 383 = .ok (.iconst 1, 1) := by decide +kernel
theorem dL_changes_384 : decode cL_changes 384 = .ok (.goto 4, 3) := by decide +kernel
theorem dL_changes_387 : decode cL_changes 387 = .ok (.iconst 0, 1) := by decide +kernel
theorem dL_changes_388 : decode cL_changes 388 = .ok (.ireturn, 1) := by decide +kernel
theorem dL_changes_389 : decode cL_changes 389 = .ok (.aload_n 1, 1) := by decide +kernel
theorem dL_changes_390 : decode cL_changes 390 = .ok (.getfield 155, 3) := by decide +kernel
theorem dL_changes_393 : decode cL_changes 393 = .ok (.ifCond .ne 5, 3) := by decide +kernel
theorem dL_changes_396 : decode cL_changes 396 = .ok (.iconst 1, 1) := by decide +kernel
theorem dL_changes_397 : decode cL_changes 397 = .ok (.ireturn, 1) := by decide +kernel
theorem dL_changes_398 : decode cL_changes 398 = .ok (.aload_n 1, 1) := by decide +kernel
theorem dL_changes_399 : decode cL_changes 399 = .ok (.getfield 173, 3) := by decide +kernel
theorem dL_changes_402 : decode cL_changes 402 = .ok (.iload 4, 2) := by decide +kernel
theorem dL_changes_404 : decode cL_changes 404 = .ok (.aaload, 1) := by decide +kernel
theorem dL_changes_405 : decode cL_changes 405 = .ok (.astore 5, 2) := by decide +kernel
theorem dL_changes_407 : decode cL_changes 407 = .ok (.aload_n 1, 1) := by decide +kernel
theorem dL_changes_408 : decode cL_changes 408 = .ok (.iload 4, 2) := by decide +kernel
theorem dL_changes_410 : decode cL_changes 410 = .ok (.invokevirtual 231, 3) := by decide +kernel
theorem dL_changes_413 : decode cL_changes 413 = .ok (.aload_n 1, 1) := by decide +kernel
theorem dL_changes_414 : decode cL_changes 414 = .ok (.aload 5, 2) := by decide +kernel
theorem dL_changes_416 : decode cL_changes 416 = .ok (.iconst 1, 1) := by decide +kernel
theorem dL_changes_417 : decode cL_changes 417 = .ok (.iaload, 1) := by decide +kernel
theorem dL_changes_418 : decode cL_changes 418 = .ok (.aload 5, 2) := by decide +kernel
theorem dL_changes_420 : decode cL_changes 420 = .ok (.iconst 0, 1) := by decide +kernel
theorem dL_changes_421 : decode cL_changes 421 = .ok (.iaload, 1) := by decide +kernel
theorem dL_changes_422 : decode cL_changes 422 = .ok (.aload 5, 2) := by decide +kernel
theorem dL_changes_424 : decode cL_changes 424 = .ok (.iconst 3, 1) := by decide +kernel
theorem dL_changes_425 : decode cL_changes 425 = .ok (.iaload, 1) := by decide +kernel
theorem dL_changes_426 : decode cL_changes 426 = .ok (.aload 5, 2) := by decide +kernel
theorem dL_changes_428 : decode cL_changes 428 = .ok (.iconst 2, 1) := by decide +kernel
theorem dL_changes_429 : decode cL_changes 429 = .ok (.iaload, 1) := by decide +kernel
theorem dL_changes_430 : decode cL_changes 430 = .ok (.iconst 1, 1) := by decide +kernel
theorem dL_changes_431 : decode cL_changes 431 = .ok (.if_icmp .ne 7, 3) := by decide +kernel
theorem dL_changes_434 : decode cL_changes 434 = .ok (.iconst 1, 1) := by decide +kernel
theorem dL_changes_435 : decode cL_changes 435 = .ok (.goto 4, 3) := by decide +kernel
theorem dL_changes_438 : decode cL_changes 438 = .ok (.iconst 0, 1) := by decide +kernel
theorem dL_changes_439 : decode cL_changes 439 = .ok (.invokevirtual 228, 3) := by decide +kernel
theorem dL_changes_442 : decode cL_changes 442 = .ok (.istore 6, 2) := by decide +kernel
theorem dL_changes_444 : decode cL_changes 444 = .ok (.iconst 0, 1) := by decide +kernel
theorem dL_changes_445 : decode cL_changes 445 = .ok (.istore 7, 2) := by decide +kernel
theorem dL_changes_447 : decode cL_changes 447 = .ok (.iconst 0, 1) := by decide +kernel
theorem dL_changes_448 : decode cL_changes 448 = .ok (.istore 8, 2) := by decide +kernel
theorem dL_changes_450 : decode cL_changes 450 = .ok (.iload 8, 2) := by decide +kernel
theorem dL_changes_452 : decode cL_changes 452 = .ok (.aload_n 1, 1) := by decide +kernel
theorem dL_changes_453 : decode cL_changes 453 = .ok (.getfield 100, 3) := by decide +kernel
theorem dL_changes_456 : decode cL_changes 456 = .ok (.if_icmp .ge 43, 3) := by decide +kernel
theorem dL_changes_459 : decode cL_changes 459 = .ok (.aload_n 1, 1) := by decide +kernel
theorem dL_changes_460 : decode cL_changes 460 = .ok (.getfield 158, 3) := by decide +kernel
theorem dL_changes_463 : decode cL_changes 463 = .ok (.iload 6, 2) := by decide +kernel
theorem dL_changes_465 : decode cL_changes 465 = .ok (.aaload, 1) := by decide +kernel
theorem dL_changes_466 : decode cL_changes 466 = .ok (.iload 8, 2) := by decide +kernel
theorem dL_changes_468 : decode cL_changes 468 = .ok (.aaload, 1) := by decide +kernel
theorem dL_changes_469 : decode cL_changes 469 = .ok (.ifnull 24, 3) := by decide +kernel
theorem dL_changes_472 : decode cL_changes 472 = .ok (.iload 7, 2) := by decide +kernel
theorem dL_changes_474 : decode cL_changes 474 = .ok (.aload_n 1, 1) := by decide +kernel
theorem dL_changes_475 : decode cL_changes 475 = .ok (.iload 8, 2) := by decide +kernel
theorem dL_changes_477 : decode cL_changes 477 = .ok (.aload_n 1, 1) := by decide +kernel
theorem dL_changes_478 : decode cL_changes 478 = .ok (.getfield 158, 3) := by decide +kernel
theorem dL_changes_481 : decode cL_changes 481 = .ok (.iload 6, 2) := by decide +kernel
theorem dL_changes_483 : decode cL_changes 483 = .ok (.aaload, 1) := by decide +kernel
theorem dL_changes_484 : decode cL_changes 484 = .ok (.iload 8, 2) := by decide +kernel
theorem dL_changes_486 : decode cL_changes 486 = .ok (.aaload, 1) := by decide +kernel
theorem dL_changes_487 : decode cL_changes 487 = .ok (.invokevirtual 166, 3) := by decide +kernel
theorem dL_changes_490 : decode cL_changes 490 = .ok (.iadd, 1) := by decide +kernel
theorem dL_changes_491 : decode cL_changes 491 = .ok (.istore 7, 2) := by decide +kernel
theorem dL_changes_493 : decode cL_changes 493 = .ok (.iinc 8 1, 3) := by decide +kernel
theorem dL_changes_496 : decode cL_changes 496 = .ok (.goto (-46), 3) := by decide +kernel
theorem dL_changes_499 : decode cL_changes 499 = .ok (.iload 6, 2) := by decide +kernel
theorem dL_changes_501 : decode cL_changes 501 = .ok (.iload 4, 2) := by decide +kernel
theorem dL_changes_503 : decode cL_changes 503 = .ok (.if_icmp .ne 18, 3) := by decide +kernel
theorem dL_changes_506 : decode cL_changes 506 = .ok (.aload_n 0, 1) := by decide +kernel
theorem dL_changes_507 : decode cL_changes 507 = .ok (.iload 4, 2) := by decide +kernel
theorem dL_changes_509 : decode cL_changes 509 = .ok (.invokevirtual 263, 3) := by decide +kernel
theorem dL_changes_512 : decode cL_changes 512 = .ok (.iload 7, 2) := by decide +kernel
theorem dL_changes_514 : decode cL_changes 514 = .ok (.if_icmp .ne 7, 3) := by decide +kernel
theorem dL_changes_517 : decode cL_changes 517 = .ok (.iconst 1, 1) := by decide +kernel
theorem dL_changes_518 : decode cL_changes 518 = .ok (.goto 4, 3) := by decide +kernel
theorem dL_changes_521 : decode cL_changes 521 = .ok (.iconst 0, 1) := by decide +kernel
theorem dL_changes_522 : decode cL_changes 522 = .ok (.ireturn, 1) := by decide +kernel
theorem dL_changes_523 : decode cL_changes 523 = .ok (.aload_n 2, 1) := by decide +kernel
theorem dL_changes_524 : decode cL_changes 524 = .ok (.aload_n 1, 1) := by decide +kernel
theorem dL_changes_525 : decode cL_changes 525 = .ok (.getfield 60, 3) := by decide +kernel
theorem dL_changes_528 : decode cL_changes 528 = .ok (.invokestatic 39, 3) := by decide +kernel
theorem dL_changes_531 : decode cL_changes 531 = .ok (.istore 5, 2) := by decide +kernel
theorem dL_changes_533 : decode cL_changes 533 = .ok (.aload_n 2, 1) := by decide +kernel
theorem dL_changes_534 : decode cL_changes 534 = .ok (.iconst 2, 1) := by decide +kernel
theorem dL_changes_535 : decode cL_changes 535 = .ok (.invokestatic 39, 3) := by decide +kernel
theorem dL_changes_538 : decode cL_changes 538 = .ok (.ifCond .ne 7, 3) := by decide +kernel
theorem dL_changes_541 : decode cL_changes 541 = .ok (.iconst 1, 1) := by decide +kernel
theorem dL_changes_542 : decode cL_changes 542 = .ok (.goto 4, 3) := by decide +kernel
theorem dL_changes_545 : decode cL_changes 545 = .ok (.iconst 0, 1) := by decide +kernel
theorem dL_changes_546 : decode cL_changes 546 = .ok (.istore 6, 2) := by decide +kernel
theorem dL_changes_548 : decode cL_changes 548 = .ok (.aload_n 2, 1) := by decide +kernel
theorem dL_changes_549 : decode cL_changes 549 = .ok (.aload_n 1, 1) := by decide +kernel
theorem dL_changes_550 : decode cL_changes 550 = .ok (.getfield 100, 3) := by decide +kernel
theorem dL_changes_553 : decode cL_changes 553 = .ok (.invokestatic 39, 3) := by decide +kernel
theorem dL_changes_556 : decode cL_changes 556 = .ok (.istore 7, 2) := by decide +kernel
theorem dL_changes_558 : decode cL_changes 558 = .ok (.iconst 1, 1) := by decide +kernel
theorem dL_changes_559 : decode cL_changes 559 = .ok (.iload 7, 2) := by decide +kernel
theorem dL_changes_561 : decode cL_changes 561 = .ok (.ishl, 1) := by decide +kernel
theorem dL_changes_562 : decode cL_changes 562 = .ok (.iload 6, 2) := by decide +kernel
theorem dL_changes_564 : decode cL_changes 564 = .ok (.ifCond .eq 24, 3) := by decide +kernel
theorem dL_changes_567 : decode cL_changes 567 = .ok (.aload_n 2, 1) := by decide +kernel
theorem dL_changes_568 : decode cL_changes 568 = .ok (.iconst 3, 1) := by decide +kernel
theorem dL_changes_569 : decode cL_changes 569 = .ok (.invokestatic 39, 3) := by decide +kernel
theorem dL_changes_572 : decode cL_changes 572 = .ok (.ifCond .ne 16, 3) := by decide +kernel
theorem dL_changes_575 : decode cL_changes 575 = .ok (.iconst 1, 1) := by decide +kernel
theorem dL_changes_576 : decode cL_changes 576 = .ok (.aload_n 2, 1) := by decide +kernel
theorem dL_changes_577 : decode cL_changes 577 = .ok (.aload_n 1, 1) := by decide +kernel
theorem dL_changes_578 : decode cL_changes 578 = .ok (.getfield 100, 3) := by decide +kernel
theorem dL_changes_581 : decode cL_changes 581 = .ok (.invokestatic 39, 3) := by decide +kernel
theorem dL_changes_584 : decode cL_changes 584 = .ok (.ishl, 1) := by decide +kernel
theorem dL_changes_585 : decode cL_changes 585 = .ok (.goto 4, 3) := by decide +kernel
theorem dL_changes_588 : decode cL_changes 588 = .ok (.iconst 0, 1) := by decide +kernel
theorem dL_changes_589 : decode cL_changes 589 = .ok (.ior, 1) := by decide +kernel
theorem dL_changes_590 : decode cL_changes 590 = .ok (.istore 8, 2) := by decide +kernel
theorem dL_changes_592 : decode cL_changes 592 = .ok (.aload_n 1, 1) := by decide +kernel
theorem dL_changes_593 : decode cL_changes 593 = .ok (.iload 5, 2) := by decide +kernel
theorem dL_changes_595 : decode cL_changes 595 = .ok (.iload_n 3, 1) := by decide +kernel
theorem dL_changes_596 : decode cL_changes 596 = .ok (.iload 8, 2) := by decide +kernel
theorem dL_changes_598 : decode cL_changes 598 = .ok (.iload 6, 2) := by decide +kernel
theorem dL_changes_600 : decode cL_changes 600 = .ok (.iconst (-1), 1) := by decide +kernel
theorem dL_changes_601 : decode cL_changes 601 = .ok (.invokevirtual 217, 3) := by decide +kernel
theorem dL_changes_604 : decode cL_changes 604 = .ok (.ifCond .le 5, 3) := by decide +kernel
theorem dL_changes_607 : decode cL_changes 607 = .ok (.iconst 1, 1) := by decide +kernel
theorem dL_changes_608 : decode cL_changes 608 = .ok (.ireturn, 1) := by decide +kernel
theorem dL_changes_609 : decode cL_changes 609 = .ok (.aload_n 1, 1) := by decide +kernel
theorem dL_changes_610 : decode cL_changes 610 = .ok (.iload 5, 2) := by decide +kernel
theorem dL_changes_612 : decode cL_changes 612 = .ok (.iload_n 3, 1) := by decide +kernel
theorem dL_changes_613 : decode cL_changes 613 = .ok (.iload 8, 2) := by decide +kernel
theorem dL_changes_615 : decode cL_changes 615 = .ok (.iload 6, 2) := by decide +kernel
theorem dL_changes_617 : decode cL_changes 617 = .ok (.invokevirtual 228, 3) := by decide +kernel
theorem dL_changes_620 : decode cL_changes 620 = .ok (.istore 9, 2) := by decide +kernel
theorem dL_changes_622 : decode cL_changes 622 = .ok (.iload 6, 2) := by decide +kernel
theorem dL_changes_624 : decode cL_changes 624 = .ok (.ifCond .eq 15, 3) := by decide +kernel
theorem dL_changes_627 : decode cL_changes 627 = .ok (.aload_n 0, 1) := by decide +kernel
theorem dL_changes_628 : decode cL_changes 628 = .ok (.iload 5, 2) := by decide +kernel
theorem dL_changes_630 : decode cL_changes 630 = .ok (.iload_n 3, 1) := by decide +kernel
theorem dL_changes_631 : decode cL_changes 631 = .ok (.iload 8, 2) := by decide +kernel
theorem dL_changes_633 : decode cL_changes 633 = .ok (.invokevirtual 266, 3) := by decide +kernel
theorem dL_changes_636 : decode cL_changes 636 = .ok (.goto 12, 3) := by decide +kernel
theorem dL_changes_639 : decode cL_changes 639 = .ok (.aload_n 0, 1) := by decide +kernel
theorem dL_changes_640 : decode cL_changes 640 = .ok (.iload 5, 2) := by decide +kernel
theorem dL_changes_642 : decode cL_changes 642 = .ok (.iload_n 3, 1) := by decide +kernel
theorem dL_changes_643 : decode cL_changes 643 = .ok (.iload 7, 2) := by decide +kernel
theorem dL_changes_645 : decode cL_changes 645 = .ok (.invokevirtual 269, 3) := by decide +kernel
theorem dL_changes_648 : decode cL_changes 648 = .ok (.iload 9, 2) := by decide +kernel
theorem dL_changes_650 : decode cL_changes 650 = .ok (.if_icmp .ne 7, 3) := by decide +kernel
theorem dL_changes_653 : decode cL_changes 653 = .ok (.iconst 1, 1) := by decide +kernel
theorem dL_changes_654 : decode cL_changes 654 = .ok (.goto 4, 3) := by decide +kernel
theorem dL_changes_657 : decode cL_changes 657 = .ok (.iconst 0, 1) := by decide +kernel
theorem dL_changes_658 : decode cL_changes 658 = .ok (.ireturn, 1) := by decide +kernel
theorem dL_back_0 : decode cL_back 0 = .ok (.aload_n 0, 1) := by decide +kernel
theorem dL_back_1 : decode cL_back 1 = .ok (.getfield 155, 3) := by decide +kernel
theorem dL_back_4 : decode cL_back 4 = .ok (.istore_n 3, 1) := by decide +kernel
theorem dL_back_5 : decode cL_back 5 = .ok (.iload_n 3, 1) := by decide +kernel
theorem dL_back_6 : decode cL_back 6 = .ok (.ifCond .le 85, 3) := by decide +kernel
theorem dL_back_9 : decode cL_back 9 = .ok (.aload_n 0, 1) := by decide +kernel
theorem dL_back_10 : decode cL_back 10 = .ok (.getfield 173, 3) := by decide +kernel
theorem dL_back_13 : decode cL_back 13 = .ok (.iload_n 3, 1) := by decide +kernel
theorem dL_back_14 : decode cL_back 14 = .ok (.iconst 1, 1) := by decide +kernel
theorem dL_back_15 : decode cL_back 15 = .ok (.isub, 1) := by decide +kernel
theorem dL_back_16 : decode cL_back 16 = .ok (.aaload, 1) := by decide +kernel
theorem dL_back_17 : decode cL_back 17 = .ok (.iconst 0, 1) := by decide +kernel
theorem dL_back_18 : decode cL_back 18 = .ok (.iaload, 1) := by decide +kernel
theorem dL_back_19 : decode cL_back 19 = .ok (.aload_n 1, 1) := by decide +kernel
theorem dL_back_20 : decode cL_back 20 = .ok (.iconst 0, 1) := by decide +kernel
theorem dL_back_21 : decode cL_back 21 = .ok (.iaload, 1) := by decide +kernel
theorem dL_back_22 : decode cL_back 22 = .ok (.if_icmp .gt 35, 3) := by decide +kernel
theorem dL_back_25 : decode cL_back 25 = .ok (.aload_n 0, 1) := by decide +kernel
theorem dL_back_26 : decode cL_back 26 = .ok (.getfield 173, 3) := by decide +kernel
theorem dL_back_29 : decode cL_back 29 = .ok (.iload_n 3, 1) := by decide +kernel
theorem dL_back_30 : decode cL_back 30 = .ok (.iconst 1, 1) := by decide +kernel
theorem dL_back_31 : decode cL_back 31 = .ok (.isub, 1) := by decide +kernel
theorem dL_back_32 : decode cL_back 32 = .ok (.aaload, 1) := by decide +kernel
theorem dL_back_33 : decode cL_back 33 = .ok (.iconst 0, 1) := by decide +kernel
theorem dL_back_34 : decode cL_back 34 = .ok (.iaload, 1) := by decide +kernel
theorem dL_back_35 : decode cL_back 35 = .ok (.aload_n 1, 1) := by decide +kernel
theorem dL_back_36 : decode cL_back 36 = .ok (.iconst 0, 1) := by decide +kernel
theorem dL_back_37 : decode cL_back 37 = .ok (.iaload, 1) := by decide +kernel
theorem dL_back_38 : decode cL_back 38 = .ok (.if_icmp .ne 53, 3) := by decide +kernel
theorem dL_back_41 : decode cL_back 41 = .ok (.aload_n 0, 1) := by decide +kernel
theorem dL_back_42 : decode cL_back 42 = .ok (.getfield 173, 3) := by decide +kernel
theorem dL_back_45 : decode cL_back 45 = .ok (.iload_n 3, 1) := by decide +kernel
theorem dL_back_46 : decode cL_back 46 = .ok (.iconst 1, 1) := by decide +kernel
theorem dL_back_47 : decode cL_back 47 = .ok (.isub, 1) := by decide +kernel
theorem dL_back_48 : decode cL_back 48 = .ok (.aaload, 1) := by decide +kernel
theorem dL_back_49 : decode cL_back 49 = .ok (.iconst 1, 1) := by decide +kernel
theorem dL_back_50 : decode cL_back 50 = .ok (.iaload, 1) := by decide +kernel
theorem dL_back_51 : decode cL_back 51 = .ok (.aload_n 1, 1) := by decide +kernel
theorem dL_back_52 : decode cL_back 52 = .ok (.iconst 1, 1) := by decide +kernel
theorem dL_back_53 : decode cL_back 53 = .ok (.iaload, 1) := by decide +kernel
theorem dL_back_54 : decode cL_back 54 = .ok (.if_icmp .le 37, 3) := by decide +kernel
theorem dL_back_57 : decode cL_back 57 = .ok (.aload_n 0, 1) := by decide +kernel
theorem dL_back_58 : decode cL_back 58 = .ok (.getfield 173, 3) := by decide +kernel
theorem dL_back_61 : decode cL_back 61 = .ok (.iload_n 3, 1) := by decide +kernel
theorem dL_back_62 : decode cL_back 62 = .ok (.aload_n 0, 1) := by decide +kernel
theorem dL_back_63 : decode cL_back 63 = .ok (.getfield 173, 3) := by decide +kernel
theorem dL_back_66 : decode cL_back 66 = .ok (.iload_n 3, 1) := by decide +kernel
theorem dL_back_67 : decode cL_back 67 = .ok (.iconst 1, 1) := by decide +kernel
theorem dL_back_68 : decode cL_back 68 = .ok (.isub, 1) := by decide +kernel
theorem dL_back_69 : decode cL_back 69 = .ok (.aaload, 1) := by decide +kernel
theorem dL_back_70 : decode cL_back 70 = .ok (.aastore, 1) := by decide +kernel
theorem dL_back_71 : decode cL_back 71 = .ok (.aload_n 0, 1) := by decide +kernel
theorem dL_back_72 : decode cL_back 72 = .ok (.getfield 158, 3) := by decide +kernel
theorem dL_back_75 : decode cL_back 75 = .ok (.iload_n 3, 1) := by decide +kernel
theorem dL_back_76 : decode cL_back 76 = .ok (.aload_n 0, 1) := by decide +kernel
theorem dL_back_77 : decode cL_back 77 = .ok (.getfield 158, 3) := by decide +kernel
theorem dL_back_80 : decode cL_back 80 = .ok (.iload_n 3, 1) := by decide +kernel
theorem dL_back_81 : decode cL_back 81 = .ok (.iconst 1, 1) := by decide +kernel
theorem dL_back_82 : decode cL_back 82 = .ok (.isub, 1) := by decide +kernel
theorem dL_back_83 : decode cL_back 83 = .ok (.aaload, 1) := by decide +kernel
theorem dL_back_84 : decode cL_back 84 = .ok (.aastore, 1) := by decide +kernel
theorem dL_back_85 : decode cL_back 85 = .ok (.iinc 3 (-1), 3) := by decide +kernel
theorem dL_back_88 : decode cL_back 88 = .ok (.goto (-83), 3) := by decide +kernel
theorem dL_back_91 : decode cL_back 91 = .ok (.aload_n 0, 1) := by decide +kernel
theorem dL_back_92 : decode cL_back 92 = .ok (.getfield 173, 3) := by decide +kernel
theorem dL_back_95 : decode cL_back 95 = .ok (.iload_n 3, 1) := by decide +kernel
theorem dL_back_96 : decode cL_back 96 = .ok (.aload_n 1, 1) := by decide +kernel
theorem dL_back_97 : decode cL_back 97 = .ok (.aastore, 1) := by decide +kernel
theorem dL_back_98 : decode cL_back 98 = .ok (.aload_n 0, 1) := by decide +kernel
theorem dL_back_99 : decode cL_back 99 = .ok (.getfield 158, 3) := by decide +kernel
theorem dL_back_102 : decode cL_back 102 = .ok (.iload_n 3, 1) := by decide +kernel
theorem dL_back_103 : decode cL_back 103 = .ok (.aload_n 2, 1) := by decide +kernel
theorem dL_back_104 : decode cL_back 104 = .ok (.aastore, 1) := by decide +kernel
theorem dL_back_105 : decode cL_back 105 = .ok (.aload_n 0, 1) := by decide +kernel
theorem dL_back_106 : decode cL_back 106 = .ok (.dup, 1) := by decide +kernel
theorem dL_back_107 : decode cL_back 107 = .ok (.getfield 155, 3) := by decide +kernel
theorem dL_back_110 : decode cL_back 110 = .ok (.iconst 1, 1) := by decide +kernel
theorem dL_back_111 : decode cL_back 111 = .ok (.iadd, 1) := by decide +kernel
theorem dL_back_112 : decode cL_back 112 = .ok (.putfield 155, 3) := by decide +kernel
theorem dL_back_115 : decode cL_back 115 = .ok (.iload_n 3, 1) := by decide +kernel
theorem dL_back_116 : decode cL_back 116 = .ok (.ireturn, 1) := by decide +kernel
