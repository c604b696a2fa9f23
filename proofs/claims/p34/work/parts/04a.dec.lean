theorem dX0_init_0 : decode cX0_init 0 = .ok (.aload_n 0, 1) := by decide +kernel
theorem dX0_init_1 : decode cX0_init 1 = .ok (.invokespecial 3, 3) := by decide +kernel
theorem dX0_init_4 : decode cX0_init 4 = .ok (.aload_n 0, 1) := by decide +kernel
theorem dX0_init_5 : decode cX0_init 5 = .ok (.bipush 6, 2) := by decide +kernel
theorem dX0_init_7 : decode cX0_init 7 = .ok (.newarray .int, 2) := by decide +kernel
theorem dX0_init_9 : decode cX0_init 9 = .ok (.putfield 9, 3) := by decide +kernel
theorem dX0_init_12 : decode cX0_init 12 = .ok (.aload_n 0, 1) := by decide +kernel
theorem dX0_init_13 : decode cX0_init 13 = .ok (.sipush 256, 3) := by decide +kernel
theorem dX0_init_16 : decode cX0_init 16 = .ok (.newarray .int, 2) := by decide +kernel
theorem dX0_init_18 : decode cX0_init 18 = .ok (.putfield 15, 3) := by decide +kernel
theorem dX0_init_21 : decode cX0_init 21 = .ok (.aload_n 0, 1) := by decide +kernel
theorem dX0_init_22 : decode cX0_init 22 = .ok (.sipush 256, 3) := by decide +kernel
theorem dX0_init_25 : decode cX0_init 25 = .ok (.newarray .int, 2) := by decide +kernel
theorem dX0_init_27 : decode cX0_init 27 = .ok (.putfield 18, 3) := by decide +kernel
theorem dX0_init_30 : decode cX0_init 30 = .ok (.return_, 1) := by decide +kernel
theorem dX0_castWork_0 : decode cX0_castWork 0 = .ok (.aload_n 1, 1) := by decide +kernel
theorem dX0_castWork_1 : decode cX0_castWork 1 = .ok (.getfield 21, 3) := by decide +kernel
theorem dX0_castWork_4 : decode cX0_castWork 4 = .ok (.iload_n 2, 1) := by decide +kernel
theorem dX0_castWork_5 : decode cX0_castWork 5 = .ok (.iaload, 1) := by decide +kernel
theorem dX0_castWork_6 : decode cX0_castWork 6 = .ok (.istore 4, 2) := by decide +kernel
theorem dX0_castWork_8 : decode cX0_castWork 8 = .ok (.bipush 8, 2) := by decide +kernel
theorem dX0_castWork_10 : decode cX0_castWork 10 = .ok (.invokestatic 26, 3) := by decide +kernel
theorem dX0_castWork_13 : decode cX0_castWork 13 = .ok (.istore 5, 2) := by decide +kernel
theorem dX0_castWork_15 : decode cX0_castWork 15 = .ok (.iload 5, 2) := by decide +kernel
theorem dX0_castWork_17 : decode cX0_castWork 17 = .ok (.ifCond .lt 63, 3) := by decide +kernel
theorem dX0_castWork_20 : decode cX0_castWork 20 = .ok (.iload 5, 2) := by decide +kernel
theorem dX0_castWork_22 : decode cX0_castWork 22 = .ok (.invokestatic 30, 3) := by decide +kernel
theorem dX0_castWork_25 : decode cX0_castWork 25 = .ok (.istore 6, 2) := by decide +kernel
theorem dX0_castWork_27 : decode cX0_castWork 27 = .ok (.iload 6, 2) := by decide +kernel
theorem dX0_castWork_29 : decode cX0_castWork 29 = .ok (.iload 4, 2) := by decide +kernel
theorem dX0_castWork_31 : decode cX0_castWork 31 = .ok (.if_icmp .lt 14, 3) := by decide +kernel
theorem dX0_castWork_34 : decode cX0_castWork 34 = .ok (.aload_n 0, 1) := by decide +kernel
theorem dX0_castWork_35 : decode cX0_castWork 35 = .ok (.getfield 15, 3) := by decide +kernel
theorem dX0_castWork_38 : decode cX0_castWork 38 = .ok (.iload 5, 2) := by decide +kernel
theorem dX0_castWork_40 : decode cX0_castWork 40 = .ok (.iconst 0, 1) := by decide +kernel
theorem dX0_castWork_41 : decode cX0_castWork 41 = .ok (.iastore, 1) := by decide +kernel
theorem dX0_castWork_42 : decode cX0_castWork 42 = .ok (.goto 32, 3) := by decide +kernel
theorem dX0_castWork_45 : decode cX0_castWork 45 = .ok (.iload 5, 2) := by decide +kernel
theorem dX0_castWork_47 : decode cX0_castWork 47 = .ok (.iload_n 3, 1) := by decide +kernel
theorem dX0_castWork_48 : decode cX0_castWork 48 = .ok (.iconst (-1), 1) := by decide +kernel
theorem dX0_castWork_49 : decode cX0_castWork 49 = .ok (.ixor, 1) := by decide +kernel
theorem dX0_castWork_50 : decode cX0_castWork 50 = .ok (.iand, 1) := by decide +kernel
theorem dX0_castWork_51 : decode cX0_castWork 51 = .ok (.ifCond .ne 23, 3) := by decide +kernel
theorem dX0_castWork_54 : decode cX0_castWork 54 = .ok (.aload_n 0, 1) := by decide +kernel
theorem dX0_castWork_55 : decode cX0_castWork 55 = .ok (.aload_n 1, 1) := by decide +kernel
theorem dX0_castWork_56 : decode cX0_castWork 56 = .ok (.aload_n 1, 1) := by decide +kernel
theorem dX0_castWork_57 : decode cX0_castWork 57 = .ok (.iload_n 2, 1) := by decide +kernel
theorem dX0_castWork_58 : decode cX0_castWork 58 = .ok (.iload 6, 2) := by decide +kernel
theorem dX0_castWork_60 : decode cX0_castWork 60 = .ok (.invokevirtual 35, 3) := by decide +kernel
theorem dX0_castWork_63 : decode cX0_castWork 63 = .ok (.iload_n 3, 1) := by decide +kernel
theorem dX0_castWork_64 : decode cX0_castWork 64 = .ok (.iload 5, 2) := by decide +kernel
theorem dX0_castWork_66 : decode cX0_castWork 66 = .ok (.iconst (-1), 1) := by decide +kernel
theorem dX0_castWork_67 : decode cX0_castWork 67 = .ok (.ixor, 1) := by decide +kernel
theorem dX0_castWork_68 : decode cX0_castWork 68 = .ok (.iand, 1) := by decide +kernel
theorem dX0_castWork_69 : decode cX0_castWork 69 = .ok (.iload 5, 2) := by decide +kernel
theorem dX0_castWork_71 : decode cX0_castWork 71 = .ok (.invokevirtual 39, 3) := by decide +kernel
theorem dX0_castWork_74 : decode cX0_castWork 74 = .ok (.iinc 5 (-1), 3) := by decide +kernel
theorem dX0_castWork_77 : decode cX0_castWork 77 = .ok (.goto (-62), 3) := by decide +kernel
theorem dX0_castWork_80 : decode cX0_castWork 80 = .ok (.iconst 0, 1) := by decide +kernel
theorem dX0_castWork_81 : decode cX0_castWork 81 = .ok (.istore 5, 2) := by decide +kernel
theorem dX0_castWork_83 : decode cX0_castWork 83 = .ok (.iconst 0, 1) := by decide +kernel
theorem dX0_castWork_84 : decode cX0_castWork 84 = .ok (.istore 6, 2) := by decide +kernel
theorem dX0_castWork_86 : decode cX0_castWork 86 = .ok (.iload 6, 2) := by decide +kernel
theorem dX0_castWork_88 : decode cX0_castWork 88 = .ok (.iload 4, 2) := by decide +kernel
theorem dX0_castWork_90 : decode cX0_castWork 90 = .ok (.if_icmp .ge 37, 3) := by decide +kernel
theorem dX0_castWork_93 : decode cX0_castWork 93 = .ok (.aload_n 0, 1) := by decide +kernel
theorem dX0_castWork_94 : decode cX0_castWork 94 = .ok (.getfield 9, 3) := by decide +kernel
theorem dX0_castWork_97 : decode cX0_castWork 97 = .ok (.iload 6, 2) := by decide +kernel
theorem dX0_castWork_99 : decode cX0_castWork 99 = .ok (.aload_n 0, 1) := by decide +kernel
theorem dX0_castWork_100 : decode cX0_castWork 100 = .ok (.getfield 18, 3) := by decide +kernel
theorem dX0_castWork_103 : decode cX0_castWork 103 = .ok (.iload 5, 2) := by decide +kernel
theorem dX0_castWork_105 : decode cX0_castWork 105 = .ok (.iaload, 1) := by decide +kernel
theorem dX0_castWork_106 : decode cX0_castWork 106 = .ok (.iastore, 1) := by decide +kernel
theorem dX0_castWork_107 : decode cX0_castWork 107 = .ok (.iload 5, 2) := by decide +kernel
theorem dX0_castWork_109 : decode cX0_castWork 109 = .ok (.iconst 1, 1) := by decide +kernel
theorem dX0_castWork_110 : decode cX0_castWork 110 = .ok (.aload_n 0, 1) := by decide +kernel
theorem dX0_castWork_111 : decode cX0_castWork 111 = .ok (.getfield 9, 3) := by decide +kernel
theorem dX0_castWork_114 : decode cX0_castWork 114 = .ok (.iload 6, 2) := by decide +kernel
theorem dX0_castWork_116 : decode cX0_castWork 116 = .ok (.iaload, 1) := by decide +kernel
theorem dX0_castWork_117 : decode cX0_castWork 117 = .ok (.ishl, 1) := by decide +kernel
theorem dX0_castWork_118 : decode cX0_castWork 118 = .ok (.ior, 1) := by decide +kernel
theorem dX0_castWork_119 : decode cX0_castWork 119 = .ok (.istore 5, 2) := by decide +kernel
theorem dX0_castWork_121 : decode cX0_castWork 121 = .ok (.iinc 6 1, 3) := by decide +kernel
theorem dX0_castWork_124 : decode cX0_castWork 124 = .ok (.goto (-38), 3) := by decide +kernel
theorem dX0_castWork_127 : decode cX0_castWork 127 = .ok (.aload_n 0, 1) := by decide +kernel
theorem dX0_castWork_128 : decode cX0_castWork 128 = .ok (.getfield 15, 3) := by decide +kernel
theorem dX0_castWork_131 : decode cX0_castWork 131 = .ok (.iconst 0, 1) := by decide +kernel
theorem dX0_castWork_132 : decode cX0_castWork 132 = .ok (.iaload, 1) := by decide +kernel
theorem dX0_castWork_133 : decode cX0_castWork 133 = .ok (.bipush 100, 2) := by decide +kernel
theorem dX0_castWork_135 : decode cX0_castWork 135 = .ok (.if_icmp .lt 7, 3) := by decide +kernel
theorem dX0_castWork_138 : decode cX0_castWork 138 = .ok (.iconst (-1), 1) := by decide +kernel
theorem dX0_castWork_139 : decode cX0_castWork 139 = .ok (.goto 9, 3) := by decide +kernel
theorem dX0_castWork_142 : decode cX0_castWork 142 = .ok (.aload_n 0, 1) := by decide +kernel
theorem dX0_castWork_143 : decode cX0_castWork 143 = .ok (.getfield 15, 3) := by decide +kernel
theorem dX0_castWork_146 : decode cX0_castWork 146 = .ok (.iconst 0, 1) := by decide +kernel
theorem dX0_castWork_147 : decode cX0_castWork 147 = .ok (.iaload, 1) := by decide +kernel
theorem dX0_castWork_148 : decode cX0_castWork 148 = .ok (.ireturn, 1) := by decide +kernel
theorem dX0_fillNextSeat_0 : decode cX0_fillNextSeat 0 = .ok (.aload_n 0, 1) := by decide +kernel
theorem dX0_fillNextSeat_1 : decode cX0_fillNextSeat 1 = .ok (.getfield 15, 3) := by decide +kernel
theorem dX0_fillNextSeat_4 : decode cX0_fillNextSeat 4 = .ok (.iload 4, 2) := by decide +kernel
theorem dX0_fillNextSeat_6 : decode cX0_fillNextSeat 6 = .ok (.bipush 100, 2) := by decide +kernel
theorem dX0_fillNextSeat_8 : decode cX0_fillNextSeat 8 = .ok (.iastore, 1) := by decide +kernel
theorem dX0_fillNextSeat_9 : decode cX0_fillNextSeat 9 = .ok (.iconst 0, 1) := by decide +kernel
theorem dX0_fillNextSeat_10 : decode cX0_fillNextSeat 10 = .ok (.istore 5, 2) := by decide +kernel
theorem dX0_fillNextSeat_12 : decode cX0_fillNextSeat 12 = .ok (.iload 5, 2) := by decide +kernel
theorem dX0_fillNextSeat_14 : decode cX0_fillNextSeat 14 = .ok (.aload_n 1, 1) := by decide +kernel
theorem dX0_fillNextSeat_15 : decode cX0_fillNextSeat 15 = .ok (.getfield 43, 3) := by decide +kernel
theorem dX0_fillNextSeat_18 : decode cX0_fillNextSeat 18 = .ok (.getfield 47, 3) := by decide +kernel
theorem dX0_fillNextSeat_21 : decode cX0_fillNextSeat 21 = .ok (.if_icmp .ge 84, 3) := by decide +kernel
theorem dX0_fillNextSeat_24 : decode cX0_fillNextSeat 24 = .ok (.iload_n 3, 1) := by decide +kernel
theorem dX0_fillNextSeat_25 : decode cX0_fillNextSeat 25 = .ok (.iload 5, 2) := by decide +kernel
theorem dX0_fillNextSeat_27 : decode cX0_fillNextSeat 27 = .ok (.invokestatic 53, 3) := by decide +kernel
theorem dX0_fillNextSeat_30 : decode cX0_fillNextSeat 30 = .ok (.ifCond .eq 69, 3) := by decide +kernel
theorem dX0_fillNextSeat_33 : decode cX0_fillNextSeat 33 = .ok (.aload_n 1, 1) := by decide +kernel
theorem dX0_fillNextSeat_34 : decode cX0_fillNextSeat 34 = .ok (.getfield 57, 3) := by decide +kernel
theorem dX0_fillNextSeat_37 : decode cX0_fillNextSeat 37 = .ok (.iload 5, 2) := by decide +kernel
theorem dX0_fillNextSeat_39 : decode cX0_fillNextSeat 39 = .ok (.iaload, 1) := by decide +kernel
theorem dX0_fillNextSeat_40 : decode cX0_fillNextSeat 40 = .ok (.iload_n 2, 1) := by decide +kernel
theorem dX0_fillNextSeat_41 : decode cX0_fillNextSeat 41 = .ok (.invokestatic 53, 3) := by decide +kernel
theorem dX0_fillNextSeat_44 : decode cX0_fillNextSeat 44 = .ok (.ifCond .eq 55, 3) := by decide +kernel
theorem dX0_fillNextSeat_47 : decode cX0_fillNextSeat 47 = .ok (.aload_n 1, 1) := by decide +kernel
theorem dX0_fillNextSeat_48 : decode cX0_fillNextSeat 48 = .ok (.iload 5, 2) := by decide +kernel
theorem dX0_fillNextSeat_50 : decode cX0_fillNextSeat 50 = .ok (.iload_n 2, 1) := by decide +kernel
theorem dX0_fillNextSeat_51 : decode cX0_fillNextSeat 51 = .ok (.invokevirtual 60, 3) := by decide +kernel
theorem dX0_fillNextSeat_54 : decode cX0_fillNextSeat 54 = .ok (.aload_n 0, 1) := by decide +kernel
theorem dX0_fillNextSeat_55 : decode cX0_fillNextSeat 55 = .ok (.getfield 15, 3) := by decide +kernel
theorem dX0_fillNextSeat_58 : decode cX0_fillNextSeat 58 = .ok (.iload 4, 2) := by decide +kernel
theorem dX0_fillNextSeat_60 : decode cX0_fillNextSeat 60 = .ok (.iconst 1, 1) := by decide +kernel
theorem dX0_fillNextSeat_61 : decode cX0_fillNextSeat 61 = .ok (.iload 5, 2) := by decide +kernel
theorem dX0_fillNextSeat_63 : decode cX0_fillNextSeat 63 = .ok (.ishl, 1) := by decide +kernel
theorem dX0_fillNextSeat_64 : decode cX0_fillNextSeat 64 = .ok (.ior, 1) := by decide +kernel
theorem dX0_fillNextSeat_65 : decode cX0_fillNextSeat 65 = .ok (.iaload, 1) := by decide +kernel
theorem dX0_fillNextSeat_66 : decode cX0_fillNextSeat 66 = .ok (.iadd, 1) := by decide +kernel
theorem dX0_fillNextSeat_67 : decode cX0_fillNextSeat 67 = .ok (.istore 6, 2) := by decide +kernel
theorem dX0_fillNextSeat_69 : decode cX0_fillNextSeat 69 = .ok (.iload 6, 2) := by decide +kernel
theorem dX0_fillNextSeat_71 : decode cX0_fillNextSeat 71 = .ok (.aload_n 0, 1) := by decide +kernel
theorem dX0_fillNextSeat_72 : decode cX0_fillNextSeat 72 = .ok (.getfield 15, 3) := by decide +kernel
theorem dX0_fillNextSeat_75 : decode cX0_fillNextSeat 75 = .ok (.iload 4, 2) := by decide +kernel
theorem dX0_fillNextSeat_77 : decode cX0_fillNextSeat 77 = .ok (.iaload, 1) := by decide +kernel
theorem dX0_fillNextSeat_78 : decode cX0_fillNextSeat 78 = .ok (.if_icmp .ge 21, 3) := by decide +kernel
theorem dX0_fillNextSeat_81 : decode cX0_fillNextSeat 81 = .ok (.aload_n 0, 1) := by decide +kernel
theorem dX0_fillNextSeat_82 : decode cX0_fillNextSeat 82 = .ok (.getfield 15, 3) := by decide +kernel
theorem dX0_fillNextSeat_85 : decode cX0_fillNextSeat 85 = .ok (.iload 4, 2) := by decide +kernel
theorem dX0_fillNextSeat_87 : decode cX0_fillNextSeat 87 = .ok (.iload 6, 2) := by decide +kernel
theorem dX0_fillNextSeat_89 : decode cX0_fillNextSeat 89 = .ok (.iastore, 1) := by decide +kernel
theorem dX0_fillNextSeat_90 : decode cX0_fillNextSeat 90 = .ok (.aload_n 0, 1) := by decide +kernel
theorem dX0_fillNextSeat_91 : decode cX0_fillNextSeat 91 = .ok (.getfield 18, 3) := by decide +kernel
theorem dX0_fillNextSeat_94 : decode cX0_fillNextSeat 94 = .ok (.iload 4, 2) := by decide +kernel
theorem dX0_fillNextSeat_96 : decode cX0_fillNextSeat 96 = .ok (.iload 5, 2) := by decide +kernel
theorem dX0_fillNextSeat_98 : decode cX0_fillNextSeat 98 = .ok (.iastore, 1) := by decide +kernel
theorem dX0_fillNextSeat_99 : decode cX0_fillNextSeat 99 = .ok (.iinc 5 1, 3) := by decide +kernel
theorem dX0_fillNextSeat_102 : decode cX0_fillNextSeat 102 = .ok (.goto (-90), 3) := by decide +kernel
theorem dX0_fillNextSeat_105 : decode cX0_fillNextSeat 105 = .ok (.return_, 1) := by decide +kernel
theorem dX1_costsOf_0 : decode cX1_costsOf 0 = .ok (.iload_n 2, 1) := by decide +kernel
theorem dX1_costsOf_1 : decode cX1_costsOf 1 = .ok (.tableswitch 45 0 2 #[27, 33, 39], 27) := by decide +kernel
theorem dX1_costsOf_28 : decode cX1_costsOf 28 = .ok (.aload_n 0, 1) := by decide +kernel
theorem dX1_costsOf_29 : decode cX1_costsOf 29 = .ok (.aload_n 1, 1) := by decide +kernel
theorem dX1_costsOf_30 : decode cX1_costsOf 30 = .ok (.invokestatic 9, 3) := by decide +kernel
theorem dX1_costsOf_33 : decode cX1_costsOf 33 = .ok (.ireturn, 1) := by decide +kernel
theorem dX1_costsOf_34 : decode cX1_costsOf 34 = .ok (.aload_n 0, 1) := by decide +kernel
theorem dX1_costsOf_35 : decode cX1_costsOf 35 = .ok (.aload_n 1, 1) := by decide +kernel
theorem dX1_costsOf_36 : decode cX1_costsOf 36 = .ok (.invokestatic 15, 3) := by decide +kernel
theorem dX1_costsOf_39 : decode cX1_costsOf 39 = .ok (.ireturn, 1) := by decide +kernel
theorem dX1_costsOf_40 : decode cX1_costsOf 40 = .ok (.aload_n 0, 1) := by decide +kernel
theorem dX1_costsOf_41 : decode cX1_costsOf 41 = .ok (.aload_n 1, 1) := by decide +kernel
theorem dX1_costsOf_42 : decode cX1_costsOf 42 = .ok (.invokestatic 18, 3) := by decide +kernel
theorem dX1_costsOf_45 : decode cX1_costsOf 45 = .ok (.ireturn, 1) := by decide +kernel
theorem dX1_costsOf_46 : decode cX1_costsOf 46 = .ok (.aload_n 0, 1) := by decide +kernel
theorem dX1_costsOf_47 : decode cX1_costsOf 47 = .ok (.aload_n 1, 1) := by decide +kernel
theorem dX1_costsOf_48 : decode cX1_costsOf 48 = .ok (.invokestatic 9, 3) := by decide +kernel
theorem dX1_costsOf_51 : decode cX1_costsOf 51 = .ok (.aload_n 0, 1) := by decide +kernel
theorem dX1_costsOf_52 : decode cX1_costsOf 52 = .ok (.aload_n 1, 1) := by decide +kernel
theorem dX1_costsOf_53 : decode cX1_costsOf 53 = .ok (.invokestatic 15, 3) := by decide +kernel
theorem dX1_costsOf_56 : decode cX1_costsOf 56 = .ok (.iadd, 1) := by decide +kernel
theorem dX1_costsOf_57 : decode cX1_costsOf 57 = .ok (.aload_n 0, 1) := by decide +kernel
theorem dX1_costsOf_58 : decode cX1_costsOf 58 = .ok (.aload_n 1, 1) := by decide +kernel
theorem dX1_costsOf_59 : decode cX1_costsOf 59 = .ok (.invokestatic 18, 3) := by decide +kernel
theorem dX1_costsOf_62 : decode cX1_costsOf 62 = .ok (.iadd, 1) := by decide +kernel
theorem dX1_costsOf_63 : decode cX1_costsOf 63 = .ok (.ireturn, 1) := by decide +kernel
theorem dX1_rent_0 : decode cX1_rent 0 = .ok (.iconst 0, 1) := by decide +kernel
theorem dX1_rent_1 : decode cX1_rent 1 = .ok (.istore_n 2, 1) := by decide +kernel
theorem dX1_rent_2 : decode cX1_rent 2 = .ok (.iconst 0, 1) := by decide +kernel
theorem dX1_rent_3 : decode cX1_rent 3 = .ok (.istore_n 3, 1) := by decide +kernel
theorem dX1_rent_4 : decode cX1_rent 4 = .ok (.iload_n 3, 1) := by decide +kernel
theorem dX1_rent_5 : decode cX1_rent 5 = .ok (.aload_n 0, 1) := by decide +kernel
theorem dX1_rent_6 : decode cX1_rent 6 = .ok (.getfield 21, 3) := by decide +kernel
theorem dX1_rent_9 : decode cX1_rent 9 = .ok (.getfield 27, 3) := by decide +kernel
theorem dX1_rent_12 : decode cX1_rent 12 = .ok (.if_icmp .ge 18, 3) := by decide +kernel
theorem dX1_rent_15 : decode cX1_rent 15 = .ok (.iload_n 2, 1) := by decide +kernel
theorem dX1_rent_16 : decode cX1_rent 16 = .ok (.aload_n 0, 1) := by decide +kernel
theorem dX1_rent_17 : decode cX1_rent 17 = .ok (.aload_n 1, 1) := by decide +kernel
theorem dX1_rent_18 : decode cX1_rent 18 = .ok (.iload_n 3, 1) := by decide +kernel
theorem dX1_rent_19 : decode cX1_rent 19 = .ok (.invokestatic 33, 3) := by decide +kernel
theorem dX1_rent_22 : decode cX1_rent 22 = .ok (.iadd, 1) := by decide +kernel
theorem dX1_rent_23 : decode cX1_rent 23 = .ok (.istore_n 2, 1) := by decide +kernel
theorem dX1_rent_24 : decode cX1_rent 24 = .ok (.iinc 3 1, 3) := by decide +kernel
theorem dX1_rent_27 : decode cX1_rent 27 = .ok (.goto (-23), 3) := by decide +kernel
theorem dX1_rent_30 : decode cX1_rent 30 = .ok (.iload_n 2, 1) := by decide +kernel
theorem dX1_rent_31 : decode cX1_rent 31 = .ok (.ireturn, 1) := by decide +kernel
theorem dX1_rentOf_0 : decode cX1_rentOf 0 = .ok (.iconst (-1), 1) := by decide +kernel
theorem dX1_rentOf_1 : decode cX1_rentOf 1 = .ok (.istore_n 3, 1) := by decide +kernel
theorem dX1_rentOf_2 : decode cX1_rentOf 2 = .ok (.iconst (-1), 1) := by decide +kernel
theorem dX1_rentOf_3 : decode cX1_rentOf 3 = .ok (.istore 4, 2) := by decide +kernel
theorem dX1_rentOf_5 : decode cX1_rentOf 5 = .ok (.iconst 0, 1) := by decide +kernel
theorem dX1_rentOf_6 : decode cX1_rentOf 6 = .ok (.istore 5, 2) := by decide +kernel
theorem dX1_rentOf_8 : decode cX1_rentOf 8 = .ok (.iload 5, 2) := by decide +kernel
theorem dX1_rentOf_10 : decode cX1_rentOf 10 = .ok (.aload_n 1, 1) := by decide +kernel
theorem dX1_rentOf_11 : decode cX1_rentOf 11 = .ok (.getfield 37, 3) := by decide +kernel
theorem dX1_rentOf_14 : decode cX1_rentOf 14 = .ok (.if_icmp .ge 46, 3) := by decide +kernel
theorem dX1_rentOf_17 : decode cX1_rentOf 17 = .ok (.aload_n 1, 1) := by decide +kernel
theorem dX1_rentOf_18 : decode cX1_rentOf 18 = .ok (.getfield 40, 3) := by decide +kernel
theorem dX1_rentOf_21 : decode cX1_rentOf 21 = .ok (.iload 5, 2) := by decide +kernel
theorem dX1_rentOf_23 : decode cX1_rentOf 23 = .ok (.iaload, 1) := by decide +kernel
theorem dX1_rentOf_24 : decode cX1_rentOf 24 = .ok (.iload_n 2, 1) := by decide +kernel
theorem dX1_rentOf_25 : decode cX1_rentOf 25 = .ok (.invokestatic 44, 3) := by decide +kernel
theorem dX1_rentOf_28 : decode cX1_rentOf 28 = .ok (.ifCond .eq 26, 3) := by decide +kernel
theorem dX1_rentOf_31 : decode cX1_rentOf 31 = .ok (.aload_n 1, 1) := by decide +kernel
theorem dX1_rentOf_32 : decode cX1_rentOf 32 = .ok (.getfield 48, 3) := by decide +kernel
theorem dX1_rentOf_35 : decode cX1_rentOf 35 = .ok (.iload 5, 2) := by decide +kernel
theorem dX1_rentOf_37 : decode cX1_rentOf 37 = .ok (.iaload, 1) := by decide +kernel
theorem dX1_rentOf_38 : decode cX1_rentOf 38 = .ok (.iconst 3, 1) := by decide +kernel
theorem dX1_rentOf_39 : decode cX1_rentOf 39 = .ok (.idiv, 1) := by decide +kernel
theorem dX1_rentOf_40 : decode cX1_rentOf 40 = .ok (.istore 4, 2) := by decide +kernel
theorem dX1_rentOf_42 : decode cX1_rentOf 42 = .ok (.iload_n 3, 1) := by decide +kernel
theorem dX1_rentOf_43 : decode cX1_rentOf 43 = .ok (.iconst (-1), 1) := by decide +kernel
theorem dX1_rentOf_44 : decode cX1_rentOf 44 = .ok (.if_icmp .ne 8, 3) := by decide +kernel
theorem dX1_rentOf_47 : decode cX1_rentOf 47 = .ok (.iload 4, 2) := by decide +kernel
theorem dX1_rentOf_49 : decode cX1_rentOf 49 = .ok (.goto 4, 3) := by decide +kernel
theorem dX1_rentOf_52 : decode cX1_rentOf 52 = .ok (.iload_n 3, 1) := by decide +kernel
theorem dX1_rentOf_53 : decode cX1_rentOf 53 = .ok (.istore_n 3, 1) := by decide +kernel
theorem dX1_rentOf_54 : decode cX1_rentOf 54 = .ok (.iinc 5 1, 3) := by decide +kernel
theorem dX1_rentOf_57 : decode cX1_rentOf 57 = .ok (.goto (-49), 3) := by decide +kernel
theorem dX1_rentOf_60 : decode cX1_rentOf 60 = .ok (.iload_n 3, 1) := by decide +kernel
theorem dX1_rentOf_61 : decode cX1_rentOf 61 = .ok (.iconst (-1), 1) := by decide +kernel
theorem dX1_rentOf_62 : decode cX1_rentOf 62 = .ok (.if_icmp .ne 7, 3) := by decide +kernel
theorem dX1_rentOf_65 : decode cX1_rentOf 65 = .ok (.iconst 0, 1) := by decide +kernel
theorem dX1_rentOf_66 : decode cX1_rentOf 66 = .ok (.goto 16, 3) := by decide +kernel
theorem dX1_rentOf_69 : decode cX1_rentOf 69 = .ok (.aload_n 0, 1) := by decide +kernel
theorem dX1_rentOf_70 : decode cX1_rentOf 70 = .ok (.getfield 51, 3) := by decide +kernel
theorem dX1_rentOf_73 : decode cX1_rentOf 73 = .ok (.iload_n 2, 1) := by decide +kernel
theorem dX1_rentOf_74 : decode cX1_rentOf 74 = .ok (.iaload, 1) := by decide +kernel
theorem dX1_rentOf_75 : decode cX1_rentOf 75 = .ok (.iload 4, 2) := by decide +kernel
theorem dX1_rentOf_77 : decode cX1_rentOf 77 = .ok (.iload_n 3, 1) := by decide +kernel
theorem dX1_rentOf_78 : decode cX1_rentOf 78 = .ok (.isub, 1) := by decide +kernel
theorem dX1_rentOf_79 : decode cX1_rentOf 79 = .ok (.iconst 1, 1) := by decide +kernel
theorem dX1_rentOf_80 : decode cX1_rentOf 80 = .ok (.iadd, 1) := by decide +kernel
theorem dX1_rentOf_81 : decode cX1_rentOf 81 = .ok (.imul, 1) := by decide +kernel
theorem dX1_rentOf_82 : decode cX1_rentOf 82 = .ok (.ireturn, 1) := by decide +kernel
theorem dX1_overtime_0 : decode cX1_overtime 0 = .ok (.iconst 0, 1) := by decide +kernel
theorem dX1_overtime_1 : decode cX1_overtime 1 = .ok (.istore_n 2, 1) := by decide +kernel
theorem dX1_overtime_2 : decode cX1_overtime 2 = .ok (.iconst 0, 1) := by decide +kernel
theorem dX1_overtime_3 : decode cX1_overtime 3 = .ok (.istore_n 3, 1) := by decide +kernel
theorem dX1_overtime_4 : decode cX1_overtime 4 = .ok (.iload_n 3, 1) := by decide +kernel
theorem dX1_overtime_5 : decode cX1_overtime 5 = .ok (.aload_n 0, 1) := by decide +kernel
theorem dX1_overtime_6 : decode cX1_overtime 6 = .ok (.getfield 54, 3) := by decide +kernel
theorem dX1_overtime_9 : decode cX1_overtime 9 = .ok (.getfield 27, 3) := by decide +kernel
theorem dX1_overtime_12 : decode cX1_overtime 12 = .ok (.if_icmp .ge 18, 3) := by decide +kernel
theorem dX1_overtime_15 : decode cX1_overtime 15 = .ok (.iload_n 2, 1) := by decide +kernel
theorem dX1_overtime_16 : decode cX1_overtime 16 = .ok (.aload_n 0, 1) := by decide +kernel
theorem dX1_overtime_17 : decode cX1_overtime 17 = .ok (.aload_n 1, 1) := by decide +kernel
theorem dX1_overtime_18 : decode cX1_overtime 18 = .ok (.iload_n 3, 1) := by decide +kernel
theorem dX1_overtime_19 : decode cX1_overtime 19 = .ok (.invokestatic 57, 3) := by decide +kernel
theorem dX1_overtime_22 : decode cX1_overtime 22 = .ok (.iadd, 1) := by decide +kernel
theorem dX1_overtime_23 : decode cX1_overtime 23 = .ok (.istore_n 2, 1) := by decide +kernel
theorem dX1_overtime_24 : decode cX1_overtime 24 = .ok (.iinc 3 1, 3) := by decide +kernel
theorem dX1_overtime_27 : decode cX1_overtime 27 = .ok (.goto (-23), 3) := by decide +kernel
theorem dX1_overtime_30 : decode cX1_overtime 30 = .ok (.iload_n 2, 1) := by decide +kernel
theorem dX1_overtime_31 : decode cX1_overtime 31 = .ok (.ireturn, 1) := by decide +kernel
theorem dX1_overtimeOf_0 : decode cX1_overtimeOf 0 = .ok (.aload_n 0, 1) := by decide +kernel
theorem dX1_overtimeOf_1 : decode cX1_overtimeOf 1 = .ok (.getfield 60, 3) := by decide +kernel
theorem dX1_overtimeOf_4 : decode cX1_overtimeOf 4 = .ok (.iload_n 2, 1) := by decide +kernel
theorem dX1_overtimeOf_5 : decode cX1_overtimeOf 5 = .ok (.iaload, 1) := by decide +kernel
theorem dX1_overtimeOf_6 : decode cX1_overtimeOf 6 = .ok (.iconst 0, 1) := by decide +kernel
theorem dX1_overtimeOf_7 : decode cX1_overtimeOf 7 = .ok (.aload_n 1, 1) := by decide +kernel
theorem dX1_overtimeOf_8 : decode cX1_overtimeOf 8 = .ok (.iload_n 2, 1) := by decide +kernel
theorem dX1_overtimeOf_9 : decode cX1_overtimeOf 9 = .ok (.invokevirtual 63, 3) := by decide +kernel
theorem dX1_overtimeOf_12 : decode cX1_overtimeOf 12 = .ok (.invokestatic 67, 3) := by decide +kernel
theorem dX1_overtimeOf_15 : decode cX1_overtimeOf 15 = .ok (.imul, 1) := by decide +kernel
theorem dX1_overtimeOf_16 : decode cX1_overtimeOf 16 = .ok (.ireturn, 1) := by decide +kernel
theorem dX1_doublings_0 : decode cX1_doublings 0 = .ok (.iconst 0, 1) := by decide +kernel
theorem dX1_doublings_1 : decode cX1_doublings 1 = .ok (.istore_n 2, 1) := by decide +kernel
theorem dX1_doublings_2 : decode cX1_doublings 2 = .ok (.iconst 0, 1) := by decide +kernel
theorem dX1_doublings_3 : decode cX1_doublings 3 = .ok (.istore_n 3, 1) := by decide +kernel
theorem dX1_doublings_4 : decode cX1_doublings 4 = .ok (.iload_n 3, 1) := by decide +kernel
theorem dX1_doublings_5 : decode cX1_doublings 5 = .ok (.aload_n 1, 1) := by decide +kernel
theorem dX1_doublings_6 : decode cX1_doublings 6 = .ok (.getfield 37, 3) := by decide +kernel
theorem dX1_doublings_9 : decode cX1_doublings 9 = .ok (.if_icmp .ge 18, 3) := by decide +kernel
theorem dX1_doublings_12 : decode cX1_doublings 12 = .ok (.iload_n 2, 1) := by decide +kernel
theorem dX1_doublings_13 : decode cX1_doublings 13 = .ok (.aload_n 0, 1) := by decide +kernel
theorem dX1_doublings_14 : decode cX1_doublings 14 = .ok (.aload_n 1, 1) := by decide +kernel
theorem dX1_doublings_15 : decode cX1_doublings 15 = .ok (.iload_n 3, 1) := by decide +kernel
theorem dX1_doublings_16 : decode cX1_doublings 16 = .ok (.invokestatic 73, 3) := by decide +kernel
theorem dX1_doublings_19 : decode cX1_doublings 19 = .ok (.iadd, 1) := by decide +kernel
theorem dX1_doublings_20 : decode cX1_doublings 20 = .ok (.istore_n 2, 1) := by decide +kernel
theorem dX1_doublings_21 : decode cX1_doublings 21 = .ok (.iinc 3 1, 3) := by decide +kernel
theorem dX1_doublings_24 : decode cX1_doublings 24 = .ok (.goto (-20), 3) := by decide +kernel
theorem dX1_doublings_27 : decode cX1_doublings 27 = .ok (.aload_n 0, 1) := by decide +kernel
theorem dX1_doublings_28 : decode cX1_doublings 28 = .ok (.getfield 76, 3) := by decide +kernel
theorem dX1_doublings_31 : decode cX1_doublings 31 = .ok (.iload_n 2, 1) := by decide +kernel
theorem dX1_doublings_32 : decode cX1_doublings 32 = .ok (.imul, 1) := by decide +kernel
theorem dX1_doublings_33 : decode cX1_doublings 33 = .ok (.ireturn, 1) := by decide +kernel
theorem dX1_doublingsIn_0 : decode cX1_doublingsIn 0 = .ok (.aload_n 0, 1) := by decide +kernel
theorem dX1_doublingsIn_1 : decode cX1_doublingsIn 1 = .ok (.aload_n 1, 1) := by decide +kernel
theorem dX1_doublingsIn_2 : decode cX1_doublingsIn 2 = .ok (.iload_n 2, 1) := by decide +kernel
theorem dX1_doublingsIn_3 : decode cX1_doublingsIn 3 = .ok (.bipush 8, 2) := by decide +kernel
theorem dX1_doublingsIn_5 : decode cX1_doublingsIn 5 = .ok (.invokestatic 79, 3) := by decide +kernel
theorem dX1_doublingsIn_8 : decode cX1_doublingsIn 8 = .ok (.invokestatic 82, 3) := by decide +kernel
theorem dX1_doublingsIn_11 : decode cX1_doublingsIn 11 = .ok (.ireturn, 1) := by decide +kernel
theorem dX1_doublingsOf_0 : decode cX1_doublingsOf 0 = .ok (.iconst 0, 1) := by decide +kernel
theorem dX1_doublingsOf_1 : decode cX1_doublingsOf 1 = .ok (.istore_n 3, 1) := by decide +kernel
theorem dX1_doublingsOf_2 : decode cX1_doublingsOf 2 = .ok (.iconst 0, 1) := by decide +kernel
theorem dX1_doublingsOf_3 : decode cX1_doublingsOf 3 = .ok (.istore 4, 2) := by decide +kernel
theorem dX1_doublingsOf_5 : decode cX1_doublingsOf 5 = .ok (.iload 4, 2) := by decide +kernel
theorem dX1_doublingsOf_7 : decode cX1_doublingsOf 7 = .ok (.aload_n 1, 1) := by decide +kernel
theorem dX1_doublingsOf_8 : decode cX1_doublingsOf 8 = .ok (.getfield 37, 3) := by decide +kernel
theorem dX1_doublingsOf_11 : decode cX1_doublingsOf 11 = .ok (.if_icmp .ge 22, 3) := by decide +kernel
theorem dX1_doublingsOf_14 : decode cX1_doublingsOf 14 = .ok (.iload_n 3, 1) := by decide +kernel
theorem dX1_doublingsOf_15 : decode cX1_doublingsOf 15 = .ok (.aload_n 0, 1) := by decide +kernel
theorem dX1_doublingsOf_16 : decode cX1_doublingsOf 16 = .ok (.aload_n 1, 1) := by decide +kernel
theorem dX1_doublingsOf_17 : decode cX1_doublingsOf 17 = .ok (.iload 4, 2) := by decide +kernel
theorem dX1_doublingsOf_19 : decode cX1_doublingsOf 19 = .ok (.iconst 1, 1) := by decide +kernel
theorem dX1_doublingsOf_20 : decode cX1_doublingsOf 20 = .ok (.iload_n 2, 1) := by decide +kernel
theorem dX1_doublingsOf_21 : decode cX1_doublingsOf 21 = .ok (.ishl, 1) := by decide +kernel
theorem dX1_doublingsOf_22 : decode cX1_doublingsOf 22 = .ok (.invokestatic 82, 3) := by decide +kernel
theorem dX1_doublingsOf_25 : decode cX1_doublingsOf 25 = .ok (.iadd, 1) := by decide +kernel
theorem dX1_doublingsOf_26 : decode cX1_doublingsOf 26 = .ok (.istore_n 3, 1) := by decide +kernel
theorem dX1_doublingsOf_27 : decode cX1_doublingsOf 27 = .ok (.iinc 4 1, 3) := by decide +kernel
theorem dX1_doublingsOf_30 : decode cX1_doublingsOf 30 = .ok (.goto (-25), 3) := by decide +kernel
theorem dX1_doublingsOf_33 : decode cX1_doublingsOf 33 = .ok (.iload_n 3, 1) := by decide +kernel
theorem dX1_doublingsOf_34 : decode cX1_doublingsOf 34 = .ok (.ireturn, 1) := by decide +kernel
theorem dX1_doublingsBy_0 : decode cX1_doublingsBy 0 = .ok (.iconst 0, 1) := by decide +kernel
theorem dX1_doublingsBy_1 : decode cX1_doublingsBy 1 = .ok (.istore 4, 2) := by decide +kernel
theorem dX1_doublingsBy_3 : decode cX1_doublingsBy 3 = .ok (.iconst 0, 1) := by decide +kernel
theorem dX1_doublingsBy_4 : decode cX1_doublingsBy 4 = .ok (.istore 5, 2) := by decide +kernel
theorem dX1_doublingsBy_6 : decode cX1_doublingsBy 6 = .ok (.iload 5, 2) := by decide +kernel
theorem dX1_doublingsBy_8 : decode cX1_doublingsBy 8 = .ok (.aload_n 0, 1) := by decide +kernel
theorem dX1_doublingsBy_9 : decode cX1_doublingsBy 9 = .ok (.getfield 21, 3) := by decide +kernel
theorem dX1_doublingsBy_12 : decode cX1_doublingsBy 12 = .ok (.getfield 27, 3) := by decide +kernel
theorem dX1_doublingsBy_15 : decode cX1_doublingsBy 15 = .ok (.if_icmp .ge 75, 3) := by decide +kernel
theorem dX1_doublingsBy_18 : decode cX1_doublingsBy 18 = .ok (.iconst 0, 1) := by decide +kernel
theorem dX1_doublingsBy_19 : decode cX1_doublingsBy 19 = .ok (.istore 6, 2) := by decide +kernel
theorem dX1_doublingsBy_21 : decode cX1_doublingsBy 21 = .ok (.iload 6, 2) := by decide +kernel
theorem dX1_doublingsBy_23 : decode cX1_doublingsBy 23 = .ok (.aload_n 0, 1) := by decide +kernel
theorem dX1_doublingsBy_24 : decode cX1_doublingsBy 24 = .ok (.getfield 86, 3) := by decide +kernel
theorem dX1_doublingsBy_27 : decode cX1_doublingsBy 27 = .ok (.iload 5, 2) := by decide +kernel
theorem dX1_doublingsBy_29 : decode cX1_doublingsBy 29 = .ok (.iaload, 1) := by decide +kernel
theorem dX1_doublingsBy_30 : decode cX1_doublingsBy 30 = .ok (.if_icmp .ge 54, 3) := by decide +kernel
theorem dX1_doublingsBy_33 : decode cX1_doublingsBy 33 = .ok (.aload_n 1, 1) := by decide +kernel
theorem dX1_doublingsBy_34 : decode cX1_doublingsBy 34 = .ok (.iload_n 2, 1) := by decide +kernel
theorem dX1_doublingsBy_35 : decode cX1_doublingsBy 35 = .ok (.iload 5, 2) := by decide +kernel
theorem dX1_doublingsBy_37 : decode cX1_doublingsBy 37 = .ok (.iload 6, 2) := by decide +kernel
theorem dX1_doublingsBy_39 : decode cX1_doublingsBy 39 = .ok (.invokevirtual 89, 3) := by decide +kernel
theorem dX1_doublingsBy_42 : decode cX1_doublingsBy 42 = .ok (.istore 7, 2) := by decide +kernel
theorem dX1_doublingsBy_44 : decode cX1_doublingsBy 44 = .ok (.iload 7, 2) := by decide +kernel
theorem dX1_doublingsBy_46 : decode cX1_doublingsBy 46 = .ok (.iconst (-1), 1) := by decide +kernel
theorem dX1_doublingsBy_47 : decode cX1_doublingsBy 47 = .ok (.if_icmp .eq 31, 3) := by decide +kernel
theorem dX1_doublingsBy_50 : decode cX1_doublingsBy 50 = .ok (.iload_n 3, 1) := by decide +kernel
theorem dX1_doublingsBy_51 : decode cX1_doublingsBy 51 = .ok (.iload 7, 2) := by decide +kernel
theorem dX1_doublingsBy_53 : decode cX1_doublingsBy 53 = .ok (.invokestatic 44, 3) := by decide +kernel
theorem dX1_doublingsBy_56 : decode cX1_doublingsBy 56 = .ok (.ifCond .eq 22, 3) := by decide +kernel
theorem dX1_doublingsBy_59 : decode cX1_doublingsBy 59 = .ok (.iload 4, 2) := by decide +kernel
theorem dX1_doublingsBy_61 : decode cX1_doublingsBy 61 = .ok (.aload_n 0, 1) := by decide +kernel
theorem dX1_doublingsBy_62 : decode cX1_doublingsBy 62 = .ok (.iload 7, 2) := by decide +kernel
theorem dX1_doublingsBy_64 : decode cX1_doublingsBy 64 = .ok (.aload_n 0, 1) := by decide +kernel
theorem dX1_doublingsBy_65 : decode cX1_doublingsBy 65 = .ok (.iload 5, 2) := by decide +kernel
theorem dX1_doublingsBy_67 : decode cX1_doublingsBy 67 = .ok (.iload 6, 2) := by decide +kernel
theorem dX1_doublingsBy_69 : decode cX1_doublingsBy 69 = .ok (.invokevirtual 93, 3) := by decide +kernel
theorem dX1_doublingsBy_72 : decode cX1_doublingsBy 72 = .ok (.invokevirtual 96, 3) := by decide +kernel
theorem dX1_doublingsBy_75 : decode cX1_doublingsBy 75 = .ok (.iadd, 1) := by decide +kernel
theorem dX1_doublingsBy_76 : decode cX1_doublingsBy 76 = .ok (.istore 4, 2) := by decide +kernel
theorem dX1_doublingsBy_78 : decode cX1_doublingsBy 78 = .ok (.iinc 6 1, 3) := by decide +kernel
theorem dX1_doublingsBy_81 : decode cX1_doublingsBy 81 = .ok (.goto (-60), 3) := by decide +kernel
theorem dX1_doublingsBy_84 : decode cX1_doublingsBy 84 = .ok (.iinc 5 1, 3) := by decide +kernel
theorem dX1_doublingsBy_87 : decode cX1_doublingsBy 87 = .ok (.goto (-81), 3) := by decide +kernel
theorem dX1_doublingsBy_90 : decode cX1_doublingsBy 90 = .ok (.iload 4, 2) := by decide +kernel
theorem dX1_doublingsBy_92 : decode cX1_doublingsBy 92 = .ok (.ireturn, 1) := by decide +kernel
theorem dX2_init_0 : decode cX2_init 0 = .ok (.aload_n 0, 1) := by decide +kernel
theorem dX2_init_1 : decode cX2_init 1 = .ok (.invokespecial 3, 3) := by decide +kernel
theorem dX2_init_4 : decode cX2_init 4 = .ok (.aload_n 0, 1) := by decide +kernel
theorem dX2_init_5 : decode cX2_init 5 = .ok (.iload_n 1, 1) := by decide +kernel
theorem dX2_init_6 : decode cX2_init 6 = .ok (.newarray .long, 2) := by decide +kernel
theorem dX2_init_8 : decode cX2_init 8 = .ok (.putfield 9, 3) := by decide +kernel
theorem dX2_init_11 : decode cX2_init 11 = .ok (.return_, 1) := by decide +kernel
theorem dX2_isFull_0 : decode cX2_isFull 0 = .ok (.aload_n 0, 1) := by decide +kernel
theorem dX2_isFull_1 : decode cX2_isFull 1 = .ok (.getfield 15, 3) := by decide +kernel
theorem dX2_isFull_4 : decode cX2_isFull 4 = .ok (.aload_n 0, 1) := by decide +kernel
theorem dX2_isFull_5 : decode cX2_isFull 5 = .ok (.getfield 9, 3) := by decide +kernel
theorem dX2_isFull_8 : decode cX2_isFull 8 = .ok (.arraylength, 1) := by decide +kernel
theorem dX2_isFull_9 : decode cX2_isFull 9 = .ok (.if_icmp .lt 7, 3) := by decide +kernel
theorem dX2_isFull_12 : decode cX2_isFull 12 = .ok (.iconst 1, 1) := by decide +kernel
theorem dX2_isFull_13 : decode cX2_isFull 13 = .ok (.goto 4, 3) := by decide +kernel
theorem dX2_isFull_16 : decode cX2_isFull 16 = .ok (.iconst 0, 1) := by decide +kernel
theorem dX2_isFull_17 : decode cX2_isFull 17 = .ok (.ireturn, 1) := by decide +kernel
theorem dX2_numberOf_0 : decode cX2_numberOf 0 = .ok (.iconst 0, 1) := by decide +kernel
theorem dX2_numberOf_1 : decode cX2_numberOf 1 = .ok (.istore_n 3, 1) := by decide +kernel
theorem dX2_numberOf_2 : decode cX2_numberOf 2 = .ok (.iload_n 3, 1) := by decide +kernel
theorem dX2_numberOf_3 : decode cX2_numberOf 3 = .ok (.aload_n 0, 1) := by decide +kernel
theorem dX2_numberOf_4 : decode cX2_numberOf 4 = .ok (.getfield 15, 3) := by decide +kernel
theorem dX2_numberOf_7 : decode cX2_numberOf 7 = .ok (.if_icmp .ge 22, 3) := by decide +kernel
theorem dX2_numberOf_10 : decode cX2_numberOf 10 = .ok (.aload_n 0, 1) := by decide +kernel
theorem dX2_numberOf_11 : decode cX2_numberOf 11 = .ok (.getfield 9, 3) := by decide +kernel
theorem dX2_numberOf_14 : decode cX2_numberOf 14 = .ok (.iload_n 3, 1) := by decide +kernel
theorem dX2_numberOf_15 : decode cX2_numberOf 15 = .ok (.laload, 1) := by decide +kernel
theorem dX2_numberOf_16 : decode cX2_numberOf 16 = .ok (.lload_n 1, 1) := by decide +kernel
theorem dX2_numberOf_17 : decode cX2_numberOf 17 = .ok (.lcmp, 1) := by decide +kernel
theorem dX2_numberOf_18 : decode cX2_numberOf 18 = .ok (.ifCond .ne 5, 3) := by decide +kernel
theorem dX2_numberOf_21 : decode cX2_numberOf 21 = .ok (.iload_n 3, 1) := by decide +kernel
theorem dX2_numberOf_22 : decode cX2_numberOf 22 = .ok (.ireturn, 1) := by decide +kernel
theorem dX2_numberOf_23 : decode cX2_numberOf 23 = .ok (.iinc 3 1, 3) := by decide +kernel
theorem dX2_numberOf_26 : decode cX2_numberOf 26 = .ok (.goto (-24), 3) := by decide +kernel
theorem dX2_numberOf_29 : decode cX2_numberOf 29 = .ok (.iconst (-1), 1) := by decide +kernel
theorem dX2_numberOf_30 : decode cX2_numberOf 30 = .ok (.ireturn, 1) := by decide +kernel
theorem dX2_add_0 : decode cX2_add 0 = .ok (.aload_n 0, 1) := by decide +kernel
theorem dX2_add_1 : decode cX2_add 1 = .ok (.getfield 9, 3) := by decide +kernel
theorem dX2_add_4 : decode cX2_add 4 = .ok (.aload_n 0, 1) := by decide +kernel
theorem dX2_add_5 : decode cX2_add 5 = .ok (.getfield 15, 3) := by decide +kernel
theorem dX2_add_8 : decode cX2_add 8 = .ok (.lload_n 1, 1) := by decide +kernel
theorem dX2_add_9 : decode cX2_add 9 = .ok (.lastore, 1) := by decide +kernel
theorem dX2_add_10 : decode cX2_add 10 = .ok (.aload_n 0, 1) := by decide +kernel
theorem dX2_add_11 : decode cX2_add 11 = .ok (.dup, 1) := by decide +kernel
theorem dX2_add_12 : decode cX2_add 12 = .ok (.getfield 15, 3) := by decide +kernel
theorem dX2_add_15 : decode cX2_add 15 = .ok (.iconst 1, 1) := by decide +kernel
theorem dX2_add_16 : decode cX2_add 16 = .ok (.iadd, 1) := by decide +kernel
theorem dX2_add_17 : decode cX2_add 17 = .ok (.putfield 15, 3) := by decide +kernel
theorem dX2_add_20 : decode cX2_add 20 = .ok (.aload_n 0, 1) := by decide +kernel
theorem dX2_add_21 : decode cX2_add 21 = .ok (.getfield 15, 3) := by decide +kernel
theorem dX2_add_24 : decode cX2_add 24 = .ok (.iconst 1, 1) := by decide +kernel
theorem dX2_add_25 : decode cX2_add 25 = .ok (.isub, 1) := by decide +kernel
theorem dX2_add_26 : decode cX2_add 26 = .ok (.ireturn, 1) := by decide +kernel
theorem dX3_init_0 : decode cX3_init 0 = .ok (.aload_n 0, 1) := by decide +kernel
theorem dX3_init_1 : decode cX3_init 1 = .ok (.invokespecial 3, 3) := by decide +kernel
theorem dX3_init_4 : decode cX3_init 4 = .ok (.aload_n 0, 1) := by decide +kernel
theorem dX3_init_5 : decode cX3_init 5 = .ok (.iconst (-1), 1) := by decide +kernel
theorem dX3_init_6 : decode cX3_init 6 = .ok (.putfield 9, 3) := by decide +kernel
theorem dX3_init_9 : decode cX3_init 9 = .ok (.aload_n 0, 1) := by decide +kernel
theorem dX3_init_10 : decode cX3_init 10 = .ok (.aload_n 1, 1) := by decide +kernel
theorem dX3_init_11 : decode cX3_init 11 = .ok (.putfield 15, 3) := by decide +kernel
theorem dX3_init_14 : decode cX3_init 14 = .ok (.aload_n 0, 1) := by decide +kernel
theorem dX3_init_15 : decode cX3_init 15 = .ok (.aload_n 2, 1) := by decide +kernel
theorem dX3_init_16 : decode cX3_init 16 = .ok (.putfield 19, 3) := by decide +kernel
theorem dX3_init_19 : decode cX3_init 19 = .ok (.return_, 1) := by decide +kernel
theorem dX3_read_0 : decode cX3_read 0 = .ok (.aload_n 0, 1) := by decide +kernel
theorem dX3_read_1 : decode cX3_read 1 = .ok (.getfield 19, 3) := by decide +kernel
theorem dX3_read_4 : decode cX3_read 4 = .ok (.invokevirtual 23, 3) := by decide +kernel
theorem dX3_read_7 : decode cX3_read 7 = .ok (.aload_n 0, 1) := by decide +kernel
theorem dX3_read_8 : decode cX3_read 8 = .ok (.getfield 15, 3) := by decide +kernel
theorem dX3_read_11 : decode cX3_read 11 = .ok (.invokevirtual 28, 3) := by decide +kernel
theorem dX3_read_14 : decode cX3_read 14 = .ok (.aload_n 0, 1) := by decide +kernel
theorem dX3_read_15 : decode cX3_read 15 = .ok (.invokevirtual 33, 3) := by decide +kernel
theorem dX3_read_18 : decode cX3_read 18 = .ok (.istore_n 1, 1) := by decide +kernel
theorem dX3_read_19 : decode cX3_read 19 = .ok (.iconst 0, 1) := by decide +kernel
theorem dX3_read_20 : decode cX3_read 20 = .ok (.istore_n 2, 1) := by decide +kernel
theorem dX3_read_21 : decode cX3_read 21 = .ok (.iload_n 2, 1) := by decide +kernel
theorem dX3_read_22 : decode cX3_read 22 = .ok (.sipush 600, 3) := by decide +kernel
theorem dX3_read_25 : decode cX3_read 25 = .ok (.if_icmp .ge 43, 3) := by decide +kernel
theorem dX3_read_28 : decode cX3_read 28 = .ok (.iload_n 1, 1) := by decide +kernel
theorem dX3_read_29 : decode cX3_read 29 = .ok (.ifCond .eq 39, 3) := by decide +kernel
theorem dX3_read_32 : decode cX3_read 32 = .ok (.aload_n 0, 1) := by decide +kernel
theorem dX3_read_33 : decode cX3_read 33 = .ok (.getfield 15, 3) := by decide +kernel
theorem dX3_read_36 : decode cX3_read 36 = .ok (.getfield 37, 3) := by decide +kernel
theorem dX3_read_39 : decode cX3_read 39 = .ok (.ifCond .eq 29, 3) := by decide +kernel
theorem dX3_read_42 : decode cX3_read 42 = .ok (.aload_n 0, 1) := by decide +kernel
theorem dX3_read_43 : decode cX3_read 43 = .ok (.invokevirtual 40, 3) := by decide +kernel
theorem dX3_read_46 : decode cX3_read 46 = .ok (.ifCond .eq 14, 3) := by decide +kernel
theorem dX3_read_49 : decode cX3_read 49 = .ok (.aload_n 0, 1) := by decide +kernel
theorem dX3_read_50 : decode cX3_read 50 = .ok (.invokevirtual 43, 3) := by decide +kernel
theorem dX3_read_53 : decode cX3_read 53 = .ok (.ifCond .eq 7, 3) := by decide +kernel
theorem dX3_read_56 : decode cX3_read 56 = .ok (.iconst 1, 1) := by decide +kernel
theorem dX3_read_57 : decode cX3_read 57 = .ok (.goto 4, 3) := by decide +kernel
theorem dX3_read_60 : decode cX3_read 60 = .ok (.iconst 0, 1) := by decide +kernel
theorem dX3_read_61 : decode cX3_read 61 = .ok (.istore_n 1, 1) := by decide +kernel
theorem dX3_read_62 : decode cX3_read 62 = .ok (.iinc 2 1, 3) := by decide +kernel
theorem dX3_read_65 : decode cX3_read 65 = .ok (.goto (-44), 3) := by decide +kernel
theorem dX3_read_68 : decode cX3_read 68 = .ok (.return_, 1) := by decide +kernel
theorem dX3_readDays_0 : decode cX3_readDays 0 = .ok (.aload_n 0, 1) := by decide +kernel
theorem dX3_readDays_1 : decode cX3_readDays 1 = .ok (.getfield 15, 3) := by decide +kernel
theorem dX3_readDays_4 : decode cX3_readDays 4 = .ok (.getfield 37, 3) := by decide +kernel
theorem dX3_readDays_7 : decode cX3_readDays 7 = .ok (.iconst 1, 1) := by decide +kernel
theorem dX3_readDays_8 : decode cX3_readDays 8 = .ok (.if_icmp .ne 19, 3) := by decide +kernel
theorem dX3_readDays_11 : decode cX3_readDays 11 = .ok (.aload_n 0, 1) := by decide +kernel
theorem dX3_readDays_12 : decode cX3_readDays 12 = .ok (.getfield 15, 3) := by decide +kernel
theorem dX3_readDays_15 : decode cX3_readDays 15 = .ok (.getfield 46, 3) := by decide +kernel
theorem dX3_readDays_18 : decode cX3_readDays 18 = .ok (.ldc 50, 2) := by decide +kernel
theorem dX3_readDays_20 : decode cX3_readDays 20 = .ok (.invokestatic 52, 3) := by decide +kernel
theorem dX3_readDays_23 : decode cX3_readDays 23 = .ok (.lcmp, 1) := by decide +kernel
theorem dX3_readDays_24 : decode cX3_readDays 24 = .ok (.ifCond .eq 9, 3) := by decide +kernel
theorem dX3_readDays_27 : decode cX3_readDays 27 = .ok (.aload_n 0, 1) := by decide +kernel
theorem dX3_readDays_28 : decode cX3_readDays 28 = .ok (.iconst 1, 1) := by decide +kernel
theorem dX3_readDays_29 : decode cX3_readDays 29 = .ok (.invokevirtual 56, 3) := by decide +kernel
theorem dX3_readDays_32 : decode cX3_readDays 32 = .ok (.ireturn, 1) := by decide +kernel
theorem dX3_readDays_33 : decode cX3_readDays 33 = .ok (.aload_n 0, 1) := by decide +kernel
theorem dX3_readDays_34 : decode cX3_readDays 34 = .ok (.getfield 15, 3) := by decide +kernel
theorem dX3_readDays_37 : decode cX3_readDays 37 = .ok (.invokevirtual 28, 3) := by decide +kernel
theorem dX3_readDays_40 : decode cX3_readDays 40 = .ok (.aload_n 0, 1) := by decide +kernel
theorem dX3_readDays_41 : decode cX3_readDays 41 = .ok (.iconst 1, 1) := by decide +kernel
theorem dX3_readDays_42 : decode cX3_readDays 42 = .ok (.bipush 30, 2) := by decide +kernel
theorem dX3_readDays_44 : decode cX3_readDays 44 = .ok (.invokevirtual 60, 3) := by decide +kernel
theorem dX3_readDays_47 : decode cX3_readDays 47 = .ok (.ifCond .ne 5, 3) := by decide +kernel
theorem dX3_readDays_50 : decode cX3_readDays 50 = .ok (.iconst 0, 1) := by decide +kernel
theorem dX3_readDays_51 : decode cX3_readDays 51 = .ok (.ireturn, 1) := by decide +kernel
theorem dX3_readDays_52 : decode cX3_readDays 52 = .ok (.aload_n 0, 1) := by decide +kernel
theorem dX3_readDays_53 : decode cX3_readDays 53 = .ok (.getfield 19, 3) := by decide +kernel
theorem dX3_readDays_56 : decode cX3_readDays 56 = .ok (.aload_n 0, 1) := by decide +kernel
theorem dX3_readDays_57 : decode cX3_readDays 57 = .ok (.invokevirtual 64, 3) := by decide +kernel
theorem dX3_readDays_60 : decode cX3_readDays 60 = .ok (.putfield 68, 3) := by decide +kernel
theorem dX3_readDays_63 : decode cX3_readDays 63 = .ok (.aload_n 0, 1) := by decide +kernel
theorem dX3_readDays_64 : decode cX3_readDays 64 = .ok (.invokevirtual 43, 3) := by decide +kernel
theorem dX3_readDays_67 : decode cX3_readDays 67 = .ok (.ireturn, 1) := by decide +kernel
theorem dX3_readStatement_0 : decode cX3_readStatement 0 = .ok (.aload_n 0, 1) := by decide +kernel
theorem dX3_readStatement_1 : decode cX3_readStatement 1 = .ok (.getfield 15, 3) := by decide +kernel
theorem dX3_readStatement_4 : decode cX3_readStatement 4 = .ok (.getfield 37, 3) := by decide +kernel
theorem dX3_readStatement_7 : decode cX3_readStatement 7 = .ok (.iconst 1, 1) := by decide +kernel
theorem dX3_readStatement_8 : decode cX3_readStatement 8 = .ok (.if_icmp .eq 9, 3) := by decide +kernel
theorem dX3_readStatement_11 : decode cX3_readStatement 11 = .ok (.aload_n 0, 1) := by decide +kernel
theorem dX3_readStatement_12 : decode cX3_readStatement 12 = .ok (.iconst 1, 1) := by decide +kernel
theorem dX3_readStatement_13 : decode cX3_readStatement 13 = .ok (.invokevirtual 56, 3) := by decide +kernel
theorem dX3_readStatement_16 : decode cX3_readStatement 16 = .ok (.ireturn, 1) := by decide +kernel
theorem dX3_readStatement_17 : decode cX3_readStatement 17 = .ok (.aload_n 0, 1) := by decide +kernel
theorem dX3_readStatement_18 : decode cX3_readStatement 18 = .ok (.getfield 15, 3) := by decide +kernel
theorem dX3_readStatement_21 : decode cX3_readStatement 21 = .ok (.getfield 46, 3) := by decide +kernel
theorem dX3_readStatement_24 : decode cX3_readStatement 24 = .ok (.ldc 70, 2) := by decide +kernel
theorem dX3_readStatement_26 : decode cX3_readStatement 26 = .ok (.invokestatic 52, 3) := by decide +kernel
theorem dX3_readStatement_29 : decode cX3_readStatement 29 = .ok (.lcmp, 1) := by decide +kernel
theorem dX3_readStatement_30 : decode cX3_readStatement 30 = .ok (.ifCond .ne 8, 3) := by decide +kernel
theorem dX3_readStatement_33 : decode cX3_readStatement 33 = .ok (.aload_n 0, 1) := by decide +kernel
theorem dX3_readStatement_34 : decode cX3_readStatement 34 = .ok (.invokevirtual 72, 3) := by decide +kernel
theorem dX3_readStatement_37 : decode cX3_readStatement 37 = .ok (.ireturn, 1) := by decide +kernel
theorem dX3_readStatement_38 : decode cX3_readStatement 38 = .ok (.aload_n 0, 1) := by decide +kernel
theorem dX3_readStatement_39 : decode cX3_readStatement 39 = .ok (.getfield 15, 3) := by decide +kernel
theorem dX3_readStatement_42 : decode cX3_readStatement 42 = .ok (.getfield 46, 3) := by decide +kernel
theorem dX3_readStatement_45 : decode cX3_readStatement 45 = .ok (.ldc 75, 2) := by decide +kernel
theorem dX3_readStatement_47 : decode cX3_readStatement 47 = .ok (.invokestatic 52, 3) := by decide +kernel
theorem dX3_readStatement_50 : decode cX3_readStatement 50 = .ok (.lcmp, 1) := by decide +kernel
theorem dX3_readStatement_51 : decode cX3_readStatement 51 = .ok (.ifCond .ne 8, 3) := by decide +kernel
theorem dX3_readStatement_54 : decode cX3_readStatement 54 = .ok (.aload_n 0, 1) := by decide +kernel
theorem dX3_readStatement_55 : decode cX3_readStatement 55 = .ok (.invokevirtual 77, 3) := by decide +kernel
theorem dX3_readStatement_58 : decode cX3_readStatement 58 = .ok (.ireturn, 1) := by decide +kernel
theorem dX3_readStatement_59 : decode cX3_readStatement 59 = .ok (.aload_n 0, 1) := by decide +kernel
theorem dX3_readStatement_60 : decode cX3_readStatement 60 = .ok (.getfield 15, 3) := by decide +kernel
theorem dX3_readStatement_63 : decode cX3_readStatement 63 = .ok (.getfield 46, 3) := by decide +kernel
theorem dX3_readStatement_66 : decode cX3_readStatement 66 = .ok (.ldc 80, 2) := by decide +kernel
theorem dX3_readStatement_68 : decode cX3_readStatement 68 = .ok (.invokestatic 52, 3) := by decide +kernel
theorem dX3_readStatement_71 : decode cX3_readStatement 71 = .ok (.lcmp, 1) := by decide +kernel
theorem dX3_readStatement_72 : decode cX3_readStatement 72 = .ok (.ifCond .ne 8, 3) := by decide +kernel
theorem dX3_readStatement_75 : decode cX3_readStatement 75 = .ok (.aload_n 0, 1) := by decide +kernel
theorem dX3_readStatement_76 : decode cX3_readStatement 76 = .ok (.invokevirtual 82, 3) := by decide +kernel
theorem dX3_readStatement_79 : decode cX3_readStatement 79 = .ok (.ireturn, 1) := by decide +kernel
theorem dX3_readStatement_80 : decode cX3_readStatement 80 = .ok (.aload_n 0, 1) := by decide +kernel
theorem dX3_readStatement_81 : decode cX3_readStatement 81 = .ok (.getfield 15, 3) := by decide +kernel
theorem dX3_readStatement_84 : decode cX3_readStatement 84 = .ok (.getfield 46, 3) := by decide +kernel
theorem dX3_readStatement_87 : decode cX3_readStatement 87 = .ok (.ldc 85, 2) := by decide +kernel
theorem dX3_readStatement_89 : decode cX3_readStatement 89 = .ok (.invokestatic 52, 3) := by decide +kernel
theorem dX3_readStatement_92 : decode cX3_readStatement 92 = .ok (.lcmp, 1) := by decide +kernel
theorem dX3_readStatement_93 : decode cX3_readStatement 93 = .ok (.ifCond .ne 8, 3) := by decide +kernel
theorem dX3_readStatement_96 : decode cX3_readStatement 96 = .ok (.aload_n 0, 1) := by decide +kernel
theorem dX3_readStatement_97 : decode cX3_readStatement 97 = .ok (.invokevirtual 87, 3) := by decide +kernel
theorem dX3_readStatement_100 : decode cX3_readStatement 100 = .ok (.ireturn, 1) := by decide +kernel
theorem dX3_readStatement_101 : decode cX3_readStatement 101 = .ok (.aload_n 0, 1) := by decide +kernel
theorem dX3_readStatement_102 : decode cX3_readStatement 102 = .ok (.getfield 15, 3) := by decide +kernel
theorem dX3_readStatement_105 : decode cX3_readStatement 105 = .ok (.getfield 46, 3) := by decide +kernel
theorem dX3_readStatement_108 : decode cX3_readStatement 108 = .ok (.ldc 90, 2) := by decide +kernel
theorem dX3_readStatement_110 : decode cX3_readStatement 110 = .ok (.invokestatic 52, 3) := by decide +kernel
theorem dX3_readStatement_113 : decode cX3_readStatement 113 = .ok (.lcmp, 1) := by decide +kernel
theorem dX3_readStatement_114 : decode cX3_readStatement 114 = .ok (.ifCond .ne 8, 3) := by decide +kernel
theorem dX3_readStatement_117 : decode cX3_readStatement 117 = .ok (.aload_n 0, 1) := by decide +kernel
theorem dX3_readStatement_118 : decode cX3_readStatement 118 = .ok (.invokevirtual 92, 3) := by decide +kernel
theorem dX3_readStatement_121 : decode cX3_readStatement 121 = .ok (.ireturn, 1) := by decide +kernel
theorem dX3_readStatement_122 : decode cX3_readStatement 122 = .ok (.aload_n 0, 1) := by decide +kernel
theorem dX3_readStatement_123 : decode cX3_readStatement 123 = .ok (.iconst 1, 1) := by decide +kernel
theorem dX3_readStatement_124 : decode cX3_readStatement 124 = .ok (.invokevirtual 56, 3) := by decide +kernel
theorem dX3_readStatement_127 : decode cX3_readStatement 127 = .ok (.ireturn, 1) := by decide +kernel
theorem dX3_readHall_0 : decode cX3_readHall 0 = .ok (.aload_n 0, 1) := by decide +kernel
theorem dX3_readHall_1 : decode cX3_readHall 1 = .ok (.getfield 19, 3) := by decide +kernel
theorem dX3_readHall_4 : decode cX3_readHall 4 = .ok (.getfield 95, 3) := by decide +kernel
theorem dX3_readHall_7 : decode cX3_readHall 7 = .ok (.getfield 99, 3) := by decide +kernel
theorem dX3_readHall_10 : decode cX3_readHall 10 = .ok (.istore_n 1, 1) := by decide +kernel
theorem dX3_readHall_11 : decode cX3_readHall 11 = .ok (.aload_n 0, 1) := by decide +kernel
theorem dX3_readHall_12 : decode cX3_readHall 12 = .ok (.aload_n 0, 1) := by decide +kernel
theorem dX3_readHall_13 : decode cX3_readHall 13 = .ok (.getfield 19, 3) := by decide +kernel
theorem dX3_readHall_16 : decode cX3_readHall 16 = .ok (.getfield 95, 3) := by decide +kernel
theorem dX3_readHall_19 : decode cX3_readHall 19 = .ok (.invokevirtual 104, 3) := by decide +kernel
theorem dX3_readHall_22 : decode cX3_readHall 22 = .ok (.ifCond .eq 13, 3) := by decide +kernel
theorem dX3_readHall_25 : decode cX3_readHall 25 = .ok (.aload_n 0, 1) := by decide +kernel
theorem dX3_readHall_26 : decode cX3_readHall 26 = .ok (.iconst 0, 1) := by decide +kernel
theorem dX3_readHall_27 : decode cX3_readHall 27 = .ok (.bipush 9, 2) := by decide +kernel
theorem dX3_readHall_29 : decode cX3_readHall 29 = .ok (.invokevirtual 60, 3) := by decide +kernel
theorem dX3_readHall_32 : decode cX3_readHall 32 = .ok (.ifCond .ne 5, 3) := by decide +kernel
theorem dX3_readHall_35 : decode cX3_readHall 35 = .ok (.iconst 0, 1) := by decide +kernel
theorem dX3_readHall_36 : decode cX3_readHall 36 = .ok (.ireturn, 1) := by decide +kernel
theorem dX3_readHall_37 : decode cX3_readHall 37 = .ok (.aload_n 0, 1) := by decide +kernel
theorem dX3_readHall_38 : decode cX3_readHall 38 = .ok (.getfield 19, 3) := by decide +kernel
theorem dX3_readHall_41 : decode cX3_readHall 41 = .ok (.getfield 108, 3) := by decide +kernel
theorem dX3_readHall_44 : decode cX3_readHall 44 = .ok (.iload_n 1, 1) := by decide +kernel
theorem dX3_readHall_45 : decode cX3_readHall 45 = .ok (.aload_n 0, 1) := by decide +kernel
theorem dX3_readHall_46 : decode cX3_readHall 46 = .ok (.invokevirtual 64, 3) := by decide +kernel
theorem dX3_readHall_49 : decode cX3_readHall 49 = .ok (.iastore, 1) := by decide +kernel
theorem dX3_readHall_50 : decode cX3_readHall 50 = .ok (.iconst 1, 1) := by decide +kernel
theorem dX3_readHall_51 : decode cX3_readHall 51 = .ok (.ireturn, 1) := by decide +kernel
theorem dX3_readPlayer_0 : decode cX3_readPlayer 0 = .ok (.aload_n 0, 1) := by decide +kernel
theorem dX3_readPlayer_1 : decode cX3_readPlayer 1 = .ok (.getfield 19, 3) := by decide +kernel
theorem dX3_readPlayer_4 : decode cX3_readPlayer 4 = .ok (.getfield 112, 3) := by decide +kernel
theorem dX3_readPlayer_7 : decode cX3_readPlayer 7 = .ok (.getfield 99, 3) := by decide +kernel
theorem dX3_readPlayer_10 : decode cX3_readPlayer 10 = .ok (.istore_n 1, 1) := by decide +kernel
theorem dX3_readPlayer_11 : decode cX3_readPlayer 11 = .ok (.aload_n 0, 1) := by decide +kernel
theorem dX3_readPlayer_12 : decode cX3_readPlayer 12 = .ok (.aload_n 0, 1) := by decide +kernel
theorem dX3_readPlayer_13 : decode cX3_readPlayer 13 = .ok (.getfield 19, 3) := by decide +kernel
theorem dX3_readPlayer_16 : decode cX3_readPlayer 16 = .ok (.getfield 112, 3) := by decide +kernel
theorem dX3_readPlayer_19 : decode cX3_readPlayer 19 = .ok (.invokevirtual 104, 3) := by decide +kernel
theorem dX3_readPlayer_22 : decode cX3_readPlayer 22 = .ok (.ifCond .eq 13, 3) := by decide +kernel
theorem dX3_readPlayer_25 : decode cX3_readPlayer 25 = .ok (.aload_n 0, 1) := by decide +kernel
theorem dX3_readPlayer_26 : decode cX3_readPlayer 26 = .ok (.iconst 0, 1) := by decide +kernel
theorem dX3_readPlayer_27 : decode cX3_readPlayer 27 = .ok (.bipush 40, 2) := by decide +kernel
theorem dX3_readPlayer_29 : decode cX3_readPlayer 29 = .ok (.invokevirtual 60, 3) := by decide +kernel
theorem dX3_readPlayer_32 : decode cX3_readPlayer 32 = .ok (.ifCond .ne 5, 3) := by decide +kernel
theorem dX3_readPlayer_35 : decode cX3_readPlayer 35 = .ok (.iconst 0, 1) := by decide +kernel
theorem dX3_readPlayer_36 : decode cX3_readPlayer 36 = .ok (.ireturn, 1) := by decide +kernel
theorem dX3_readPlayer_37 : decode cX3_readPlayer 37 = .ok (.aload_n 0, 1) := by decide +kernel
theorem dX3_readPlayer_38 : decode cX3_readPlayer 38 = .ok (.getfield 19, 3) := by decide +kernel
theorem dX3_readPlayer_41 : decode cX3_readPlayer 41 = .ok (.getfield 115, 3) := by decide +kernel
theorem dX3_readPlayer_44 : decode cX3_readPlayer 44 = .ok (.iload_n 1, 1) := by decide +kernel
theorem dX3_readPlayer_45 : decode cX3_readPlayer 45 = .ok (.aload_n 0, 1) := by decide +kernel
theorem dX3_readPlayer_46 : decode cX3_readPlayer 46 = .ok (.invokevirtual 64, 3) := by decide +kernel
theorem dX3_readPlayer_49 : decode cX3_readPlayer 49 = .ok (.iastore, 1) := by decide +kernel
theorem dX3_readPlayer_50 : decode cX3_readPlayer 50 = .ok (.aload_n 0, 1) := by decide +kernel
theorem dX3_readPlayer_51 : decode cX3_readPlayer 51 = .ok (.iconst 0, 1) := by decide +kernel
theorem dX3_readPlayer_52 : decode cX3_readPlayer 52 = .ok (.sipush 999, 3) := by decide +kernel
theorem dX3_readPlayer_55 : decode cX3_readPlayer 55 = .ok (.invokevirtual 60, 3) := by decide +kernel
theorem dX3_readPlayer_58 : decode cX3_readPlayer 58 = .ok (.ifCond .ne 5, 3) := by decide +kernel
theorem dX3_readPlayer_61 : decode cX3_readPlayer 61 = .ok (.iconst 0, 1) := by decide +kernel
theorem dX3_readPlayer_62 : decode cX3_readPlayer 62 = .ok (.ireturn, 1) := by decide +kernel
theorem dX3_readPlayer_63 : decode cX3_readPlayer 63 = .ok (.aload_n 0, 1) := by decide +kernel
theorem dX3_readPlayer_64 : decode cX3_readPlayer 64 = .ok (.getfield 19, 3) := by decide +kernel
theorem dX3_readPlayer_67 : decode cX3_readPlayer 67 = .ok (.getfield 118, 3) := by decide +kernel
theorem dX3_readPlayer_70 : decode cX3_readPlayer 70 = .ok (.iload_n 1, 1) := by decide +kernel
theorem dX3_readPlayer_71 : decode cX3_readPlayer 71 = .ok (.aload_n 0, 1) := by decide +kernel
theorem dX3_readPlayer_72 : decode cX3_readPlayer 72 = .ok (.invokevirtual 64, 3) := by decide +kernel
theorem dX3_readPlayer_75 : decode cX3_readPlayer 75 = .ok (.iastore, 1) := by decide +kernel
theorem dX3_readPlayer_76 : decode cX3_readPlayer 76 = .ok (.iconst 0, 1) := by decide +kernel
theorem dX3_readPlayer_77 : decode cX3_readPlayer 77 = .ok (.istore_n 2, 1) := by decide +kernel
theorem dX3_readPlayer_78 : decode cX3_readPlayer 78 = .ok (.iload_n 2, 1) := by decide +kernel
theorem dX3_readPlayer_79 : decode cX3_readPlayer 79 = .ok (.ifCond .eq 21, 3) := by decide +kernel
theorem dX3_readPlayer_82 : decode cX3_readPlayer 82 = .ok (.iload_n 2, 1) := by decide +kernel
theorem dX3_readPlayer_83 : decode cX3_readPlayer 83 = .ok (.sipush 600, 3) := by decide +kernel
theorem dX3_readPlayer_86 : decode cX3_readPlayer 86 = .ok (.if_icmp .ge 31, 3) := by decide +kernel
theorem dX3_readPlayer_89 : decode cX3_readPlayer 89 = .ok (.aload_n 0, 1) := by decide +kernel
theorem dX3_readPlayer_90 : decode cX3_readPlayer 90 = .ok (.getfield 15, 3) := by decide +kernel
theorem dX3_readPlayer_93 : decode cX3_readPlayer 93 = .ok (.getfield 37, 3) := by decide +kernel
theorem dX3_readPlayer_96 : decode cX3_readPlayer 96 = .ok (.iconst 1, 1) := by decide +kernel
theorem dX3_readPlayer_97 : decode cX3_readPlayer 97 = .ok (.if_icmp .ne 20, 3) := by decide +kernel
theorem dX3_readPlayer_100 : decode cX3_readPlayer 100 = .ok (.aload_n 0, 1) := by decide +kernel
theorem dX3_readPlayer_101 : decode cX3_readPlayer 101 = .ok (.iload_n 1, 1) := by decide +kernel
theorem dX3_readPlayer_102 : decode cX3_readPlayer 102 = .ok (.iload_n 2, 1) := by decide +kernel
theorem dX3_readPlayer_103 : decode cX3_readPlayer 103 = .ok (.invokevirtual 121, 3) := by decide +kernel
theorem dX3_readPlayer_106 : decode cX3_readPlayer 106 = .ok (.ifCond .ne 5, 3) := by decide +kernel
theorem dX3_readPlayer_109 : decode cX3_readPlayer 109 = .ok (.iconst 0, 1) := by decide +kernel
theorem dX3_readPlayer_110 : decode cX3_readPlayer 110 = .ok (.ireturn, 1) := by decide +kernel
theorem dX3_readPlayer_111 : decode cX3_readPlayer 111 = .ok (.iinc 2 1, 3) := by decide +kernel
theorem dX3_readPlayer_114 : decode cX3_readPlayer 114 = .ok (.goto (-36), 3) := by decide +kernel
theorem dX3_readPlayer_117 : decode cX3_readPlayer 117 = .ok (.iconst 1, 1) := by decide +kernel
theorem dX3_readPlayer_118 : decode cX3_readPlayer 118 = .ok (.ireturn, 1) := by decide +kernel
theorem dX3_readInstrument_0 : decode cX3_readInstrument 0 = .ok (.aload_n 0, 1) := by decide +kernel
theorem dX3_readInstrument_1 : decode cX3_readInstrument 1 = .ok (.getfield 15, 3) := by decide +kernel
theorem dX3_readInstrument_4 : decode cX3_readInstrument 4 = .ok (.getfield 37, 3) := by decide +kernel
theorem dX3_readInstrument_7 : decode cX3_readInstrument 7 = .ok (.iconst 1, 1) := by decide +kernel
theorem dX3_readInstrument_8 : decode cX3_readInstrument 8 = .ok (.if_icmp .eq 9, 3) := by decide +kernel
theorem dX3_readInstrument_11 : decode cX3_readInstrument 11 = .ok (.aload_n 0, 1) := by decide +kernel
theorem dX3_readInstrument_12 : decode cX3_readInstrument 12 = .ok (.iconst 1, 1) := by decide +kernel
theorem dX3_readInstrument_13 : decode cX3_readInstrument 13 = .ok (.invokevirtual 56, 3) := by decide +kernel
theorem dX3_readInstrument_16 : decode cX3_readInstrument 16 = .ok (.ireturn, 1) := by decide +kernel
theorem dX3_readInstrument_17 : decode cX3_readInstrument 17 = .ok (.aload_n 0, 1) := by decide +kernel
theorem dX3_readInstrument_18 : decode cX3_readInstrument 18 = .ok (.getfield 19, 3) := by decide +kernel
theorem dX3_readInstrument_21 : decode cX3_readInstrument 21 = .ok (.getfield 124, 3) := by decide +kernel
theorem dX3_readInstrument_24 : decode cX3_readInstrument 24 = .ok (.aload_n 0, 1) := by decide +kernel
theorem dX3_readInstrument_25 : decode cX3_readInstrument 25 = .ok (.getfield 15, 3) := by decide +kernel
theorem dX3_readInstrument_28 : decode cX3_readInstrument 28 = .ok (.getfield 46, 3) := by decide +kernel
theorem dX3_readInstrument_31 : decode cX3_readInstrument 31 = .ok (.invokevirtual 127, 3) := by decide +kernel
theorem dX3_readInstrument_34 : decode cX3_readInstrument 34 = .ok (.istore_n 3, 1) := by decide +kernel
theorem dX3_readInstrument_35 : decode cX3_readInstrument 35 = .ok (.iload_n 3, 1) := by decide +kernel
theorem dX3_readInstrument_36 : decode cX3_readInstrument 36 = .ok (.iconst (-1), 1) := by decide +kernel
theorem dX3_readInstrument_37 : decode cX3_readInstrument 37 = .ok (.if_icmp .eq 25, 3) := by decide +kernel
theorem dX3_readInstrument_40 : decode cX3_readInstrument 40 = .ok (.aload_n 0, 1) := by decide +kernel
theorem dX3_readInstrument_41 : decode cX3_readInstrument 41 = .ok (.getfield 19, 3) := by decide +kernel
theorem dX3_readInstrument_44 : decode cX3_readInstrument 44 = .ok (.getfield 131, 3) := by decide +kernel
theorem dX3_readInstrument_47 : decode cX3_readInstrument 47 = .ok (.iload_n 1, 1) := by decide +kernel
theorem dX3_readInstrument_48 : decode cX3_readInstrument 48 = .ok (.iaload, 1) := by decide +kernel
theorem dX3_readInstrument_49 : decode cX3_readInstrument 49 = .ok (.iload_n 3, 1) := by decide +kernel
theorem dX3_readInstrument_50 : decode cX3_readInstrument 50 = .ok (.invokestatic 134, 3) := by decide +kernel
theorem dX3_readInstrument_53 : decode cX3_readInstrument 53 = .ok (.ifCond .eq 9, 3) := by decide +kernel
theorem dX3_readInstrument_56 : decode cX3_readInstrument 56 = .ok (.aload_n 0, 1) := by decide +kernel
theorem dX3_readInstrument_57 : decode cX3_readInstrument 57 = .ok (.iconst 2, 1) := by decide +kernel
theorem dX3_readInstrument_58 : decode cX3_readInstrument 58 = .ok (.invokevirtual 56, 3) := by decide +kernel
theorem dX3_readInstrument_61 : decode cX3_readInstrument 61 = .ok (.ireturn, 1) := by decide +kernel
theorem dX3_readInstrument_62 : decode cX3_readInstrument 62 = .ok (.iload_n 2, 1) := by decide +kernel
theorem dX3_readInstrument_63 : decode cX3_readInstrument 63 = .ok (.iconst 4, 1) := by decide +kernel
theorem dX3_readInstrument_64 : decode cX3_readInstrument 64 = .ok (.if_icmp .ge 21, 3) := by decide +kernel
theorem dX3_readInstrument_67 : decode cX3_readInstrument 67 = .ok (.iload_n 3, 1) := by decide +kernel
theorem dX3_readInstrument_68 : decode cX3_readInstrument 68 = .ok (.iconst (-1), 1) := by decide +kernel
theorem dX3_readInstrument_69 : decode cX3_readInstrument 69 = .ok (.if_icmp .ne 22, 3) := by decide +kernel
theorem dX3_readInstrument_72 : decode cX3_readInstrument 72 = .ok (.aload_n 0, 1) := by decide +kernel
theorem dX3_readInstrument_73 : decode cX3_readInstrument 73 = .ok (.getfield 19, 3) := by decide +kernel
theorem dX3_readInstrument_76 : decode cX3_readInstrument 76 = .ok (.getfield 124, 3) := by decide +kernel
theorem dX3_readInstrument_79 : decode cX3_readInstrument 79 = .ok (.invokevirtual 137, 3) := by decide +kernel
theorem dX3_readInstrument_82 : decode cX3_readInstrument 82 = .ok (.ifCond .eq 9, 3) := by decide +kernel
theorem dX3_readInstrument_85 : decode cX3_readInstrument 85 = .ok (.aload_n 0, 1) := by decide +kernel
theorem dX3_readInstrument_86 : decode cX3_readInstrument 86 = .ok (.iconst 5, 1) := by decide +kernel
theorem dX3_readInstrument_87 : decode cX3_readInstrument 87 = .ok (.invokevirtual 56, 3) := by decide +kernel
theorem dX3_readInstrument_90 : decode cX3_readInstrument 90 = .ok (.ireturn, 1) := by decide +kernel
theorem dX3_readInstrument_91 : decode cX3_readInstrument 91 = .ok (.iload_n 3, 1) := by decide +kernel
theorem dX3_readInstrument_92 : decode cX3_readInstrument 92 = .ok (.iconst (-1), 1) := by decide +kernel
theorem dX3_readInstrument_93 : decode cX3_readInstrument 93 = .ok (.if_icmp .ne 21, 3) := by decide +kernel
theorem dX3_readInstrument_96 : decode cX3_readInstrument 96 = .ok (.aload_n 0, 1) := by decide +kernel
theorem dX3_readInstrument_97 : decode cX3_readInstrument 97 = .ok (.getfield 19, 3) := by decide +kernel
theorem dX3_readInstrument_100 : decode cX3_readInstrument 100 = .ok (.getfield 124, 3) := by decide +kernel
theorem dX3_readInstrument_103 : decode cX3_readInstrument 103 = .ok (.aload_n 0, 1) := by decide +kernel
theorem dX3_readInstrument_104 : decode cX3_readInstrument 104 = .ok (.getfield 15, 3) := by decide +kernel
theorem dX3_readInstrument_107 : decode cX3_readInstrument 107 = .ok (.getfield 46, 3) := by decide +kernel
theorem dX3_readInstrument_110 : decode cX3_readInstrument 110 = .ok (.invokevirtual 140, 3) := by decide +kernel
theorem dX3_readInstrument_113 : decode cX3_readInstrument 113 = .ok (.istore_n 3, 1) := by decide +kernel
theorem dX3_readInstrument_114 : decode cX3_readInstrument 114 = .ok (.iload_n 2, 1) := by decide +kernel
theorem dX3_readInstrument_115 : decode cX3_readInstrument 115 = .ok (.ifCond .ne 13, 3) := by decide +kernel
theorem dX3_readInstrument_118 : decode cX3_readInstrument 118 = .ok (.aload_n 0, 1) := by decide +kernel
theorem dX3_readInstrument_119 : decode cX3_readInstrument 119 = .ok (.getfield 19, 3) := by decide +kernel
theorem dX3_readInstrument_122 : decode cX3_readInstrument 122 = .ok (.getfield 143, 3) := by decide +kernel
theorem dX3_readInstrument_125 : decode cX3_readInstrument 125 = .ok (.iload_n 1, 1) := by decide +kernel
theorem dX3_readInstrument_126 : decode cX3_readInstrument 126 = .ok (.iload_n 3, 1) := by decide +kernel
theorem dX3_readInstrument_127 : decode cX3_readInstrument 127 = .ok (.iastore, 1) := by decide +kernel
theorem dX3_readInstrument_128 : decode cX3_readInstrument 128 = .ok (.aload_n 0, 1) := by decide +kernel
theorem dX3_readInstrument_129 : decode cX3_readInstrument 129 = .ok (.getfield 19, 3) := by decide +kernel
theorem dX3_readInstrument_132 : decode cX3_readInstrument 132 = .ok (.getfield 131, 3) := by decide +kernel
theorem dX3_readInstrument_135 : decode cX3_readInstrument 135 = .ok (.iload_n 1, 1) := by decide +kernel
theorem dX3_readInstrument_136 : decode cX3_readInstrument 136 = .ok (.dup2, 1) := by decide +kernel
theorem dX3_readInstrument_137 : decode cX3_readInstrument 137 = .ok (.iaload, 1) := by decide +kernel
theorem dX3_readInstrument_138 : decode cX3_readInstrument 138 = .ok (.iconst 1, 1) := by decide +kernel
theorem dX3_readInstrument_139 : decode cX3_readInstrument 139 = .ok (.iload_n 3, 1) := by decide +kernel
theorem dX3_readInstrument_140 : decode cX3_readInstrument 140 = .ok (.ishl, 1) := by decide +kernel
theorem dX3_readInstrument_141 : decode cX3_readInstrument 141 = .ok (.ior, 1) := by decide +kernel
theorem dX3_readInstrument_142 : decode cX3_readInstrument 142 = .ok (.iastore, 1) := by decide +kernel
theorem dX3_readInstrument_143 : decode cX3_readInstrument 143 = .ok (.aload_n 0, 1) := by decide +kernel
theorem dX3_readInstrument_144 : decode cX3_readInstrument 144 = .ok (.getfield 15, 3) := by decide +kernel
theorem dX3_readInstrument_147 : decode cX3_readInstrument 147 = .ok (.invokevirtual 28, 3) := by decide +kernel
theorem dX3_readInstrument_150 : decode cX3_readInstrument 150 = .ok (.iconst 1, 1) := by decide +kernel
theorem dX3_readInstrument_151 : decode cX3_readInstrument 151 = .ok (.ireturn, 1) := by decide +kernel
theorem dX3_readAbsence_0 : decode cX3_readAbsence 0 = .ok (.aload_n 0, 1) := by decide +kernel
theorem dX3_readAbsence_1 : decode cX3_readAbsence 1 = .ok (.getfield 15, 3) := by decide +kernel
theorem dX3_readAbsence_4 : decode cX3_readAbsence 4 = .ok (.invokevirtual 28, 3) := by decide +kernel
theorem dX3_readAbsence_7 : decode cX3_readAbsence 7 = .ok (.aload_n 0, 1) := by decide +kernel
theorem dX3_readAbsence_8 : decode cX3_readAbsence 8 = .ok (.getfield 15, 3) := by decide +kernel
theorem dX3_readAbsence_11 : decode cX3_readAbsence 11 = .ok (.getfield 37, 3) := by decide +kernel
theorem dX3_readAbsence_14 : decode cX3_readAbsence 14 = .ok (.iconst 1, 1) := by decide +kernel
theorem dX3_readAbsence_15 : decode cX3_readAbsence 15 = .ok (.if_icmp .eq 9, 3) := by decide +kernel
theorem dX3_readAbsence_18 : decode cX3_readAbsence 18 = .ok (.aload_n 0, 1) := by decide +kernel
theorem dX3_readAbsence_19 : decode cX3_readAbsence 19 = .ok (.iconst 1, 1) := by decide +kernel
theorem dX3_readAbsence_20 : decode cX3_readAbsence 20 = .ok (.invokevirtual 56, 3) := by decide +kernel
theorem dX3_readAbsence_23 : decode cX3_readAbsence 23 = .ok (.ireturn, 1) := by decide +kernel
theorem dX3_readAbsence_24 : decode cX3_readAbsence 24 = .ok (.aload_n 0, 1) := by decide +kernel
theorem dX3_readAbsence_25 : decode cX3_readAbsence 25 = .ok (.getfield 19, 3) := by decide +kernel
theorem dX3_readAbsence_28 : decode cX3_readAbsence 28 = .ok (.getfield 112, 3) := by decide +kernel
theorem dX3_readAbsence_31 : decode cX3_readAbsence 31 = .ok (.aload_n 0, 1) := by decide +kernel
theorem dX3_readAbsence_32 : decode cX3_readAbsence 32 = .ok (.getfield 15, 3) := by decide +kernel
theorem dX3_readAbsence_35 : decode cX3_readAbsence 35 = .ok (.getfield 46, 3) := by decide +kernel
theorem dX3_readAbsence_38 : decode cX3_readAbsence 38 = .ok (.invokevirtual 127, 3) := by decide +kernel
theorem dX3_readAbsence_41 : decode cX3_readAbsence 41 = .ok (.istore_n 1, 1) := by decide +kernel
theorem dX3_readAbsence_42 : decode cX3_readAbsence 42 = .ok (.iload_n 1, 1) := by decide +kernel
theorem dX3_readAbsence_43 : decode cX3_readAbsence 43 = .ok (.iconst (-1), 1) := by decide +kernel
theorem dX3_readAbsence_44 : decode cX3_readAbsence 44 = .ok (.if_icmp .ne 9, 3) := by decide +kernel
theorem dX3_readAbsence_47 : decode cX3_readAbsence 47 = .ok (.aload_n 0, 1) := by decide +kernel
theorem dX3_readAbsence_48 : decode cX3_readAbsence 48 = .ok (.iconst 4, 1) := by decide +kernel
theorem dX3_readAbsence_49 : decode cX3_readAbsence 49 = .ok (.invokevirtual 56, 3) := by decide +kernel
theorem dX3_readAbsence_52 : decode cX3_readAbsence 52 = .ok (.ireturn, 1) := by decide +kernel
theorem dX3_readAbsence_53 : decode cX3_readAbsence 53 = .ok (.aload_n 0, 1) := by decide +kernel
theorem dX3_readAbsence_54 : decode cX3_readAbsence 54 = .ok (.getfield 15, 3) := by decide +kernel
theorem dX3_readAbsence_57 : decode cX3_readAbsence 57 = .ok (.invokevirtual 28, 3) := by decide +kernel
theorem dX3_readAbsence_60 : decode cX3_readAbsence 60 = .ok (.aload_n 0, 1) := by decide +kernel
theorem dX3_readAbsence_61 : decode cX3_readAbsence 61 = .ok (.iconst 0, 1) := by decide +kernel
theorem dX3_readAbsence_62 : decode cX3_readAbsence 62 = .ok (.aload_n 0, 1) := by decide +kernel
theorem dX3_readAbsence_63 : decode cX3_readAbsence 63 = .ok (.getfield 19, 3) := by decide +kernel
theorem dX3_readAbsence_66 : decode cX3_readAbsence 66 = .ok (.getfield 68, 3) := by decide +kernel
theorem dX3_readAbsence_69 : decode cX3_readAbsence 69 = .ok (.iconst 1, 1) := by decide +kernel
theorem dX3_readAbsence_70 : decode cX3_readAbsence 70 = .ok (.isub, 1) := by decide +kernel
theorem dX3_readAbsence_71 : decode cX3_readAbsence 71 = .ok (.invokevirtual 60, 3) := by decide +kernel
theorem dX3_readAbsence_74 : decode cX3_readAbsence 74 = .ok (.ifCond .ne 5, 3) := by decide +kernel
theorem dX3_readAbsence_77 : decode cX3_readAbsence 77 = .ok (.iconst 0, 1) := by decide +kernel
theorem dX3_readAbsence_78 : decode cX3_readAbsence 78 = .ok (.ireturn, 1) := by decide +kernel
theorem dX3_readAbsence_79 : decode cX3_readAbsence 79 = .ok (.aload_n 0, 1) := by decide +kernel
theorem dX3_readAbsence_80 : decode cX3_readAbsence 80 = .ok (.getfield 19, 3) := by decide +kernel
theorem dX3_readAbsence_83 : decode cX3_readAbsence 83 = .ok (.getfield 146, 3) := by decide +kernel
theorem dX3_readAbsence_86 : decode cX3_readAbsence 86 = .ok (.iload_n 1, 1) := by decide +kernel
theorem dX3_readAbsence_87 : decode cX3_readAbsence 87 = .ok (.iaload, 1) := by decide +kernel
theorem dX3_readAbsence_88 : decode cX3_readAbsence 88 = .ok (.aload_n 0, 1) := by decide +kernel
theorem dX3_readAbsence_89 : decode cX3_readAbsence 89 = .ok (.getfield 15, 3) := by decide +kernel
theorem dX3_readAbsence_92 : decode cX3_readAbsence 92 = .ok (.getfield 149, 3) := by decide +kernel
theorem dX3_readAbsence_95 : decode cX3_readAbsence 95 = .ok (.invokestatic 134, 3) := by decide +kernel
theorem dX3_readAbsence_98 : decode cX3_readAbsence 98 = .ok (.ifCond .eq 9, 3) := by decide +kernel
theorem dX3_readAbsence_101 : decode cX3_readAbsence 101 = .ok (.aload_n 0, 1) := by decide +kernel
theorem dX3_readAbsence_102 : decode cX3_readAbsence 102 = .ok (.iconst 2, 1) := by decide +kernel
theorem dX3_readAbsence_103 : decode cX3_readAbsence 103 = .ok (.invokevirtual 56, 3) := by decide +kernel
theorem dX3_readAbsence_106 : decode cX3_readAbsence 106 = .ok (.ireturn, 1) := by decide +kernel
theorem dX3_readAbsence_107 : decode cX3_readAbsence 107 = .ok (.aload_n 0, 1) := by decide +kernel
theorem dX3_readAbsence_108 : decode cX3_readAbsence 108 = .ok (.getfield 19, 3) := by decide +kernel
theorem dX3_readAbsence_111 : decode cX3_readAbsence 111 = .ok (.getfield 146, 3) := by decide +kernel
theorem dX3_readAbsence_114 : decode cX3_readAbsence 114 = .ok (.iload_n 1, 1) := by decide +kernel
theorem dX3_readAbsence_115 : decode cX3_readAbsence 115 = .ok (.dup2, 1) := by decide +kernel
theorem dX3_readAbsence_116 : decode cX3_readAbsence 116 = .ok (.iaload, 1) := by decide +kernel
theorem dX3_readAbsence_117 : decode cX3_readAbsence 117 = .ok (.iconst 1, 1) := by decide +kernel
theorem dX3_readAbsence_118 : decode cX3_readAbsence 118 = .ok (.aload_n 0, 1) := by decide +kernel
theorem dX3_readAbsence_119 : decode cX3_readAbsence 119 = .ok (.invokevirtual 64, 3) := by decide +kernel
theorem dX3_readAbsence_122 : decode cX3_readAbsence 122 = .ok (.ishl, 1) := by decide +kernel
theorem dX3_readAbsence_123 : decode cX3_readAbsence 123 = .ok (.ior, 1) := by decide +kernel
theorem dX3_readAbsence_124 : decode cX3_readAbsence 124 = .ok (.iastore, 1) := by decide +kernel
theorem dX3_readAbsence_125 : decode cX3_readAbsence 125 = .ok (.iconst 1, 1) := by decide +kernel
theorem dX3_readAbsence_126 : decode cX3_readAbsence 126 = .ok (.ireturn, 1) := by decide +kernel
theorem dX3_readWork_0 : decode cX3_readWork 0 = .ok (.aload_n 0, 1) := by decide +kernel
theorem dX3_readWork_1 : decode cX3_readWork 1 = .ok (.getfield 19, 3) := by decide +kernel
theorem dX3_readWork_4 : decode cX3_readWork 4 = .ok (.getfield 152, 3) := by decide +kernel
theorem dX3_readWork_7 : decode cX3_readWork 7 = .ok (.getfield 99, 3) := by decide +kernel
theorem dX3_readWork_10 : decode cX3_readWork 10 = .ok (.istore_n 1, 1) := by decide +kernel
theorem dX3_readWork_11 : decode cX3_readWork 11 = .ok (.aload_n 0, 1) := by decide +kernel
theorem dX3_readWork_12 : decode cX3_readWork 12 = .ok (.aload_n 0, 1) := by decide +kernel
theorem dX3_readWork_13 : decode cX3_readWork 13 = .ok (.getfield 19, 3) := by decide +kernel
theorem dX3_readWork_16 : decode cX3_readWork 16 = .ok (.getfield 152, 3) := by decide +kernel
theorem dX3_readWork_19 : decode cX3_readWork 19 = .ok (.invokevirtual 104, 3) := by decide +kernel
theorem dX3_readWork_22 : decode cX3_readWork 22 = .ok (.ifCond .eq 13, 3) := by decide +kernel
theorem dX3_readWork_25 : decode cX3_readWork 25 = .ok (.aload_n 0, 1) := by decide +kernel
theorem dX3_readWork_26 : decode cX3_readWork 26 = .ok (.iconst 0, 1) := by decide +kernel
theorem dX3_readWork_27 : decode cX3_readWork 27 = .ok (.bipush 9, 2) := by decide +kernel
theorem dX3_readWork_29 : decode cX3_readWork 29 = .ok (.invokevirtual 60, 3) := by decide +kernel
theorem dX3_readWork_32 : decode cX3_readWork 32 = .ok (.ifCond .ne 5, 3) := by decide +kernel
theorem dX3_readWork_35 : decode cX3_readWork 35 = .ok (.iconst 0, 1) := by decide +kernel
theorem dX3_readWork_36 : decode cX3_readWork 36 = .ok (.ireturn, 1) := by decide +kernel
theorem dX3_readWork_37 : decode cX3_readWork 37 = .ok (.aload_n 0, 1) := by decide +kernel
theorem dX3_readWork_38 : decode cX3_readWork 38 = .ok (.getfield 19, 3) := by decide +kernel
theorem dX3_readWork_41 : decode cX3_readWork 41 = .ok (.getfield 155, 3) := by decide +kernel
theorem dX3_readWork_44 : decode cX3_readWork 44 = .ok (.iload_n 1, 1) := by decide +kernel
theorem dX3_readWork_45 : decode cX3_readWork 45 = .ok (.aload_n 0, 1) := by decide +kernel
theorem dX3_readWork_46 : decode cX3_readWork 46 = .ok (.invokevirtual 64, 3) := by decide +kernel
theorem dX3_readWork_49 : decode cX3_readWork 49 = .ok (.iastore, 1) := by decide +kernel
theorem dX3_readWork_50 : decode cX3_readWork 50 = .ok (.aload_n 0, 1) := by decide +kernel
theorem dX3_readWork_51 : decode cX3_readWork 51 = .ok (.iconst 0, 1) := by decide +kernel
theorem dX3_readWork_52 : decode cX3_readWork 52 = .ok (.aload_n 0, 1) := by decide +kernel
theorem dX3_readWork_53 : decode cX3_readWork 53 = .ok (.getfield 19, 3) := by decide +kernel
theorem dX3_readWork_56 : decode cX3_readWork 56 = .ok (.getfield 68, 3) := by decide +kernel
theorem dX3_readWork_59 : decode cX3_readWork 59 = .ok (.iconst 1, 1) := by decide +kernel
theorem dX3_readWork_60 : decode cX3_readWork 60 = .ok (.isub, 1) := by decide +kernel
theorem dX3_readWork_61 : decode cX3_readWork 61 = .ok (.invokevirtual 60, 3) := by decide +kernel
theorem dX3_readWork_64 : decode cX3_readWork 64 = .ok (.ifCond .ne 5, 3) := by decide +kernel
theorem dX3_readWork_67 : decode cX3_readWork 67 = .ok (.iconst 0, 1) := by decide +kernel
theorem dX3_readWork_68 : decode cX3_readWork 68 = .ok (.ireturn, 1) := by decide +kernel
theorem dX3_readWork_69 : decode cX3_readWork 69 = .ok (.aload_n 0, 1) := by decide +kernel
theorem dX3_readWork_70 : decode cX3_readWork 70 = .ok (.getfield 19, 3) := by decide +kernel
theorem dX3_readWork_73 : decode cX3_readWork 73 = .ok (.getfield 158, 3) := by decide +kernel
theorem dX3_readWork_76 : decode cX3_readWork 76 = .ok (.iload_n 1, 1) := by decide +kernel
theorem dX3_readWork_77 : decode cX3_readWork 77 = .ok (.aload_n 0, 1) := by decide +kernel
theorem dX3_readWork_78 : decode cX3_readWork 78 = .ok (.invokevirtual 64, 3) := by decide +kernel
theorem dX3_readWork_81 : decode cX3_readWork 81 = .ok (.iastore, 1) := by decide +kernel
theorem dX3_readWork_82 : decode cX3_readWork 82 = .ok (.aload_n 0, 1) := by decide +kernel
theorem dX3_readWork_83 : decode cX3_readWork 83 = .ok (.aload_n 0, 1) := by decide +kernel
theorem dX3_readWork_84 : decode cX3_readWork 84 = .ok (.getfield 19, 3) := by decide +kernel
theorem dX3_readWork_87 : decode cX3_readWork 87 = .ok (.getfield 158, 3) := by decide +kernel
theorem dX3_readWork_90 : decode cX3_readWork 90 = .ok (.iload_n 1, 1) := by decide +kernel
theorem dX3_readWork_91 : decode cX3_readWork 91 = .ok (.iaload, 1) := by decide +kernel
theorem dX3_readWork_92 : decode cX3_readWork 92 = .ok (.aload_n 0, 1) := by decide +kernel
theorem dX3_readWork_93 : decode cX3_readWork 93 = .ok (.getfield 19, 3) := by decide +kernel
theorem dX3_readWork_96 : decode cX3_readWork 96 = .ok (.getfield 68, 3) := by decide +kernel
theorem dX3_readWork_99 : decode cX3_readWork 99 = .ok (.iconst 1, 1) := by decide +kernel
theorem dX3_readWork_100 : decode cX3_readWork 100 = .ok (.isub, 1) := by decide +kernel
theorem dX3_readWork_101 : decode cX3_readWork 101 = .ok (.invokevirtual 60, 3) := by decide +kernel
theorem dX3_readWork_104 : decode cX3_readWork 104 = .ok (.ifCond .ne 5, 3) := by decide +kernel
theorem dX3_readWork_107 : decode cX3_readWork 107 = .ok (.iconst 0, 1) := by decide +kernel
theorem dX3_readWork_108 : decode cX3_readWork 108 = .ok (.ireturn, 1) := by decide +kernel
theorem dX3_readWork_109 : decode cX3_readWork 109 = .ok (.aload_n 0, 1) := by decide +kernel
theorem dX3_readWork_110 : decode cX3_readWork 110 = .ok (.getfield 19, 3) := by decide +kernel
theorem dX3_readWork_113 : decode cX3_readWork 113 = .ok (.getfield 161, 3) := by decide +kernel
theorem dX3_readWork_116 : decode cX3_readWork 116 = .ok (.iload_n 1, 1) := by decide +kernel
theorem dX3_readWork_117 : decode cX3_readWork 117 = .ok (.aload_n 0, 1) := by decide +kernel
theorem dX3_readWork_118 : decode cX3_readWork 118 = .ok (.invokevirtual 64, 3) := by decide +kernel
theorem dX3_readWork_121 : decode cX3_readWork 121 = .ok (.iastore, 1) := by decide +kernel
theorem dX3_readWork_122 : decode cX3_readWork 122 = .ok (.aload_n 0, 1) := by decide +kernel
theorem dX3_readWork_123 : decode cX3_readWork 123 = .ok (.iconst 0, 1) := by decide +kernel
theorem dX3_readWork_124 : decode cX3_readWork 124 = .ok (.sipush 999, 3) := by decide +kernel
theorem dX3_readWork_127 : decode cX3_readWork 127 = .ok (.invokevirtual 60, 3) := by decide +kernel
theorem dX3_readWork_130 : decode cX3_readWork 130 = .ok (.ifCond .ne 5, 3) := by decide +kernel
theorem dX3_readWork_133 : decode cX3_readWork 133 = .ok (.iconst 0, 1) := by decide +kernel
theorem dX3_readWork_134 : decode cX3_readWork 134 = .ok (.ireturn, 1) := by decide +kernel
theorem dX3_readWork_135 : decode cX3_readWork 135 = .ok (.aload_n 0, 1) := by decide +kernel
theorem dX3_readWork_136 : decode cX3_readWork 136 = .ok (.getfield 19, 3) := by decide +kernel
theorem dX3_readWork_139 : decode cX3_readWork 139 = .ok (.getfield 164, 3) := by decide +kernel
theorem dX3_readWork_142 : decode cX3_readWork 142 = .ok (.iload_n 1, 1) := by decide +kernel
theorem dX3_readWork_143 : decode cX3_readWork 143 = .ok (.aload_n 0, 1) := by decide +kernel
theorem dX3_readWork_144 : decode cX3_readWork 144 = .ok (.invokevirtual 64, 3) := by decide +kernel
theorem dX3_readWork_147 : decode cX3_readWork 147 = .ok (.iastore, 1) := by decide +kernel
theorem dX3_readWork_148 : decode cX3_readWork 148 = .ok (.iconst 0, 1) := by decide +kernel
theorem dX3_readWork_149 : decode cX3_readWork 149 = .ok (.istore_n 2, 1) := by decide +kernel
theorem dX3_readWork_150 : decode cX3_readWork 150 = .ok (.iload_n 2, 1) := by decide +kernel
theorem dX3_readWork_151 : decode cX3_readWork 151 = .ok (.ifCond .eq 21, 3) := by decide +kernel
theorem dX3_readWork_154 : decode cX3_readWork 154 = .ok (.iload_n 2, 1) := by decide +kernel
theorem dX3_readWork_155 : decode cX3_readWork 155 = .ok (.sipush 600, 3) := by decide +kernel
theorem dX3_readWork_158 : decode cX3_readWork 158 = .ok (.if_icmp .ge 30, 3) := by decide +kernel
theorem dX3_readWork_161 : decode cX3_readWork 161 = .ok (.aload_n 0, 1) := by decide +kernel
theorem dX3_readWork_162 : decode cX3_readWork 162 = .ok (.getfield 15, 3) := by decide +kernel
theorem dX3_readWork_165 : decode cX3_readWork 165 = .ok (.getfield 37, 3) := by decide +kernel
theorem dX3_readWork_168 : decode cX3_readWork 168 = .ok (.iconst 1, 1) := by decide +kernel
theorem dX3_readWork_169 : decode cX3_readWork 169 = .ok (.if_icmp .ne 19, 3) := by decide +kernel
theorem dX3_readWork_172 : decode cX3_readWork 172 = .ok (.aload_n 0, 1) := by decide +kernel
theorem dX3_readWork_173 : decode cX3_readWork 173 = .ok (.iload_n 1, 1) := by decide +kernel
theorem dX3_readWork_174 : decode cX3_readWork 174 = .ok (.invokevirtual 167, 3) := by decide +kernel
theorem dX3_readWork_177 : decode cX3_readWork 177 = .ok (.ifCond .ne 5, 3) := by decide +kernel
theorem dX3_readWork_180 : decode cX3_readWork 180 = .ok (.iconst 0, 1) := by decide +kernel
theorem dX3_readWork_181 : decode cX3_readWork 181 = .ok (.ireturn, 1) := by decide +kernel
theorem dX3_readWork_182 : decode cX3_readWork 182 = .ok (.iinc 2 1, 3) := by decide +kernel
theorem dX3_readWork_185 : decode cX3_readWork 185 = .ok (.goto (-35), 3) := by decide +kernel
theorem dX3_readWork_188 : decode cX3_readWork 188 = .ok (.iconst 1, 1) := by decide +kernel
theorem dX3_readWork_189 : decode cX3_readWork 189 = .ok (.ireturn, 1) := by decide +kernel
theorem dX3_readSeat_0 : decode cX3_readSeat 0 = .ok (.aload_n 0, 1) := by decide +kernel
theorem dX3_readSeat_1 : decode cX3_readSeat 1 = .ok (.getfield 15, 3) := by decide +kernel
theorem dX3_readSeat_4 : decode cX3_readSeat 4 = .ok (.getfield 37, 3) := by decide +kernel
theorem dX3_readSeat_7 : decode cX3_readSeat 7 = .ok (.iconst 1, 1) := by decide +kernel
theorem dX3_readSeat_8 : decode cX3_readSeat 8 = .ok (.if_icmp .eq 9, 3) := by decide +kernel
theorem dX3_readSeat_11 : decode cX3_readSeat 11 = .ok (.aload_n 0, 1) := by decide +kernel
theorem dX3_readSeat_12 : decode cX3_readSeat 12 = .ok (.iconst 1, 1) := by decide +kernel
theorem dX3_readSeat_13 : decode cX3_readSeat 13 = .ok (.invokevirtual 56, 3) := by decide +kernel
theorem dX3_readSeat_16 : decode cX3_readSeat 16 = .ok (.ireturn, 1) := by decide +kernel
theorem dX3_readSeat_17 : decode cX3_readSeat 17 = .ok (.aload_n 0, 1) := by decide +kernel
theorem dX3_readSeat_18 : decode cX3_readSeat 18 = .ok (.getfield 19, 3) := by decide +kernel
theorem dX3_readSeat_21 : decode cX3_readSeat 21 = .ok (.getfield 124, 3) := by decide +kernel
theorem dX3_readSeat_24 : decode cX3_readSeat 24 = .ok (.aload_n 0, 1) := by decide +kernel
theorem dX3_readSeat_25 : decode cX3_readSeat 25 = .ok (.getfield 15, 3) := by decide +kernel
theorem dX3_readSeat_28 : decode cX3_readSeat 28 = .ok (.getfield 46, 3) := by decide +kernel
theorem dX3_readSeat_31 : decode cX3_readSeat 31 = .ok (.invokevirtual 127, 3) := by decide +kernel
theorem dX3_readSeat_34 : decode cX3_readSeat 34 = .ok (.istore_n 2, 1) := by decide +kernel
theorem dX3_readSeat_35 : decode cX3_readSeat 35 = .ok (.iload_n 2, 1) := by decide +kernel
theorem dX3_readSeat_36 : decode cX3_readSeat 36 = .ok (.iconst (-1), 1) := by decide +kernel
theorem dX3_readSeat_37 : decode cX3_readSeat 37 = .ok (.if_icmp .ne 9, 3) := by decide +kernel
theorem dX3_readSeat_40 : decode cX3_readSeat 40 = .ok (.aload_n 0, 1) := by decide +kernel
theorem dX3_readSeat_41 : decode cX3_readSeat 41 = .ok (.iconst 4, 1) := by decide +kernel
theorem dX3_readSeat_42 : decode cX3_readSeat 42 = .ok (.invokevirtual 56, 3) := by decide +kernel
theorem dX3_readSeat_45 : decode cX3_readSeat 45 = .ok (.ireturn, 1) := by decide +kernel
theorem dX3_readSeat_46 : decode cX3_readSeat 46 = .ok (.aload_n 0, 1) := by decide +kernel
theorem dX3_readSeat_47 : decode cX3_readSeat 47 = .ok (.getfield 19, 3) := by decide +kernel
theorem dX3_readSeat_50 : decode cX3_readSeat 50 = .ok (.getfield 170, 3) := by decide +kernel
theorem dX3_readSeat_53 : decode cX3_readSeat 53 = .ok (.iload_n 1, 1) := by decide +kernel
theorem dX3_readSeat_54 : decode cX3_readSeat 54 = .ok (.iaload, 1) := by decide +kernel
theorem dX3_readSeat_55 : decode cX3_readSeat 55 = .ok (.bipush 6, 2) := by decide +kernel
theorem dX3_readSeat_57 : decode cX3_readSeat 57 = .ok (.if_icmp .lt 9, 3) := by decide +kernel
theorem dX3_readSeat_60 : decode cX3_readSeat 60 = .ok (.aload_n 0, 1) := by decide +kernel
theorem dX3_readSeat_61 : decode cX3_readSeat 61 = .ok (.iconst 5, 1) := by decide +kernel
theorem dX3_readSeat_62 : decode cX3_readSeat 62 = .ok (.invokevirtual 56, 3) := by decide +kernel
theorem dX3_readSeat_65 : decode cX3_readSeat 65 = .ok (.ireturn, 1) := by decide +kernel
theorem dX3_readSeat_66 : decode cX3_readSeat 66 = .ok (.aload_n 0, 1) := by decide +kernel
theorem dX3_readSeat_67 : decode cX3_readSeat 67 = .ok (.getfield 19, 3) := by decide +kernel
theorem dX3_readSeat_70 : decode cX3_readSeat 70 = .ok (.iload_n 1, 1) := by decide +kernel
theorem dX3_readSeat_71 : decode cX3_readSeat 71 = .ok (.iload_n 2, 1) := by decide +kernel
theorem dX3_readSeat_72 : decode cX3_readSeat 72 = .ok (.invokevirtual 173, 3) := by decide +kernel
theorem dX3_readSeat_75 : decode cX3_readSeat 75 = .ok (.aload_n 0, 1) := by decide +kernel
theorem dX3_readSeat_76 : decode cX3_readSeat 76 = .ok (.getfield 15, 3) := by decide +kernel
theorem dX3_readSeat_79 : decode cX3_readSeat 79 = .ok (.invokevirtual 28, 3) := by decide +kernel
theorem dX3_readSeat_82 : decode cX3_readSeat 82 = .ok (.iconst 1, 1) := by decide +kernel
theorem dX3_readSeat_83 : decode cX3_readSeat 83 = .ok (.ireturn, 1) := by decide +kernel
theorem dX3_readDouble_0 : decode cX3_readDouble 0 = .ok (.aload_n 0, 1) := by decide +kernel
theorem dX3_readDouble_1 : decode cX3_readDouble 1 = .ok (.getfield 19, 3) := by decide +kernel
theorem dX3_readDouble_4 : decode cX3_readDouble 4 = .ok (.getfield 177, 3) := by decide +kernel
theorem dX3_readDouble_7 : decode cX3_readDouble 7 = .ok (.ifCond .eq 9, 3) := by decide +kernel
theorem dX3_readDouble_10 : decode cX3_readDouble 10 = .ok (.aload_n 0, 1) := by decide +kernel
theorem dX3_readDouble_11 : decode cX3_readDouble 11 = .ok (.iconst 2, 1) := by decide +kernel
theorem dX3_readDouble_12 : decode cX3_readDouble 12 = .ok (.invokevirtual 56, 3) := by decide +kernel
theorem dX3_readDouble_15 : decode cX3_readDouble 15 = .ok (.ireturn, 1) := by decide +kernel
theorem dX3_readDouble_16 : decode cX3_readDouble 16 = .ok (.aload_n 0, 1) := by decide +kernel
theorem dX3_readDouble_17 : decode cX3_readDouble 17 = .ok (.getfield 19, 3) := by decide +kernel
theorem dX3_readDouble_20 : decode cX3_readDouble 20 = .ok (.iconst 1, 1) := by decide +kernel
theorem dX3_readDouble_21 : decode cX3_readDouble 21 = .ok (.putfield 177, 3) := by decide +kernel
theorem dX3_readDouble_24 : decode cX3_readDouble 24 = .ok (.aload_n 0, 1) := by decide +kernel
theorem dX3_readDouble_25 : decode cX3_readDouble 25 = .ok (.getfield 15, 3) := by decide +kernel
theorem dX3_readDouble_28 : decode cX3_readDouble 28 = .ok (.invokevirtual 28, 3) := by decide +kernel
theorem dX3_readDouble_31 : decode cX3_readDouble 31 = .ok (.aload_n 0, 1) := by decide +kernel
theorem dX3_readDouble_32 : decode cX3_readDouble 32 = .ok (.iconst 0, 1) := by decide +kernel
theorem dX3_readDouble_33 : decode cX3_readDouble 33 = .ok (.sipush 999, 3) := by decide +kernel
theorem dX3_readDouble_36 : decode cX3_readDouble 36 = .ok (.invokevirtual 60, 3) := by decide +kernel
theorem dX3_readDouble_39 : decode cX3_readDouble 39 = .ok (.ifCond .ne 5, 3) := by decide +kernel
theorem dX3_readDouble_42 : decode cX3_readDouble 42 = .ok (.iconst 0, 1) := by decide +kernel
theorem dX3_readDouble_43 : decode cX3_readDouble 43 = .ok (.ireturn, 1) := by decide +kernel
theorem dX3_readDouble_44 : decode cX3_readDouble 44 = .ok (.aload_n 0, 1) := by decide +kernel
theorem dX3_readDouble_45 : decode cX3_readDouble 45 = .ok (.getfield 19, 3) := by decide +kernel
theorem dX3_readDouble_48 : decode cX3_readDouble 48 = .ok (.aload_n 0, 1) := by decide +kernel
theorem dX3_readDouble_49 : decode cX3_readDouble 49 = .ok (.invokevirtual 64, 3) := by decide +kernel
theorem dX3_readDouble_52 : decode cX3_readDouble 52 = .ok (.putfield 181, 3) := by decide +kernel
theorem dX3_readDouble_55 : decode cX3_readDouble 55 = .ok (.iconst 1, 1) := by decide +kernel
theorem dX3_readDouble_56 : decode cX3_readDouble 56 = .ok (.ireturn, 1) := by decide +kernel
theorem dX3_readNewName_0 : decode cX3_readNewName 0 = .ok (.aload_n 1, 1) := by decide +kernel
theorem dX3_readNewName_1 : decode cX3_readNewName 1 = .ok (.invokevirtual 137, 3) := by decide +kernel
theorem dX3_readNewName_4 : decode cX3_readNewName 4 = .ok (.ifCond .eq 9, 3) := by decide +kernel
theorem dX3_readNewName_7 : decode cX3_readNewName 7 = .ok (.aload_n 0, 1) := by decide +kernel
theorem dX3_readNewName_8 : decode cX3_readNewName 8 = .ok (.iconst 5, 1) := by decide +kernel
theorem dX3_readNewName_9 : decode cX3_readNewName 9 = .ok (.invokevirtual 56, 3) := by decide +kernel
theorem dX3_readNewName_12 : decode cX3_readNewName 12 = .ok (.ireturn, 1) := by decide +kernel
theorem dX3_readNewName_13 : decode cX3_readNewName 13 = .ok (.aload_n 0, 1) := by decide +kernel
theorem dX3_readNewName_14 : decode cX3_readNewName 14 = .ok (.getfield 15, 3) := by decide +kernel
theorem dX3_readNewName_17 : decode cX3_readNewName 17 = .ok (.invokevirtual 28, 3) := by decide +kernel
theorem dX3_readNewName_20 : decode cX3_readNewName 20 = .ok (.aload_n 0, 1) := by decide +kernel
theorem dX3_readNewName_21 : decode cX3_readNewName 21 = .ok (.getfield 15, 3) := by decide +kernel
theorem dX3_readNewName_24 : decode cX3_readNewName 24 = .ok (.getfield 37, 3) := by decide +kernel
theorem dX3_readNewName_27 : decode cX3_readNewName 27 = .ok (.iconst 1, 1) := by decide +kernel
theorem dX3_readNewName_28 : decode cX3_readNewName 28 = .ok (.if_icmp .eq 9, 3) := by decide +kernel
theorem dX3_readNewName_31 : decode cX3_readNewName 31 = .ok (.aload_n 0, 1) := by decide +kernel
theorem dX3_readNewName_32 : decode cX3_readNewName 32 = .ok (.iconst 1, 1) := by decide +kernel
theorem dX3_readNewName_33 : decode cX3_readNewName 33 = .ok (.invokevirtual 56, 3) := by decide +kernel
theorem dX3_readNewName_36 : decode cX3_readNewName 36 = .ok (.ireturn, 1) := by decide +kernel
theorem dX3_readNewName_37 : decode cX3_readNewName 37 = .ok (.aload_n 1, 1) := by decide +kernel
theorem dX3_readNewName_38 : decode cX3_readNewName 38 = .ok (.aload_n 0, 1) := by decide +kernel
theorem dX3_readNewName_39 : decode cX3_readNewName 39 = .ok (.getfield 15, 3) := by decide +kernel
theorem dX3_readNewName_42 : decode cX3_readNewName 42 = .ok (.getfield 46, 3) := by decide +kernel
theorem dX3_readNewName_45 : decode cX3_readNewName 45 = .ok (.invokevirtual 127, 3) := by decide +kernel
theorem dX3_readNewName_48 : decode cX3_readNewName 48 = .ok (.iconst (-1), 1) := by decide +kernel
theorem dX3_readNewName_49 : decode cX3_readNewName 49 = .ok (.if_icmp .eq 9, 3) := by decide +kernel
theorem dX3_readNewName_52 : decode cX3_readNewName 52 = .ok (.aload_n 0, 1) := by decide +kernel
theorem dX3_readNewName_53 : decode cX3_readNewName 53 = .ok (.iconst 2, 1) := by decide +kernel
theorem dX3_readNewName_54 : decode cX3_readNewName 54 = .ok (.invokevirtual 56, 3) := by decide +kernel
theorem dX3_readNewName_57 : decode cX3_readNewName 57 = .ok (.ireturn, 1) := by decide +kernel
theorem dX3_readNewName_58 : decode cX3_readNewName 58 = .ok (.aload_n 1, 1) := by decide +kernel
theorem dX3_readNewName_59 : decode cX3_readNewName 59 = .ok (.aload_n 0, 1) := by decide +kernel
theorem dX3_readNewName_60 : decode cX3_readNewName 60 = .ok (.getfield 15, 3) := by decide +kernel
theorem dX3_readNewName_63 : decode cX3_readNewName 63 = .ok (.getfield 46, 3) := by decide +kernel
theorem dX3_readNewName_66 : decode cX3_readNewName 66 = .ok (.invokevirtual 140, 3) := by decide +kernel
theorem dX3_readNewName_69 : decode cX3_readNewName 69 = .ok (.pop, 1) := by decide +kernel
theorem dX3_readNewName_70 : decode cX3_readNewName 70 = .ok (.aload_n 0, 1) := by decide +kernel
theorem dX3_readNewName_71 : decode cX3_readNewName 71 = .ok (.getfield 15, 3) := by decide +kernel
theorem dX3_readNewName_74 : decode cX3_readNewName 74 = .ok (.invokevirtual 28, 3) := by decide +kernel
theorem dX3_readNewName_77 : decode cX3_readNewName 77 = .ok (.iconst 1, 1) := by decide +kernel
theorem dX3_readNewName_78 : decode cX3_readNewName 78 = .ok (.ireturn, 1) := by decide +kernel
theorem dX3_isNumber_0 : decode cX3_isNumber 0 = .ok (.aload_n 0, 1) := by decide +kernel
theorem dX3_isNumber_1 : decode cX3_isNumber 1 = .ok (.getfield 15, 3) := by decide +kernel
theorem dX3_isNumber_4 : decode cX3_isNumber 4 = .ok (.getfield 37, 3) := by decide +kernel
theorem dX3_isNumber_7 : decode cX3_isNumber 7 = .ok (.iconst 2, 1) := by decide +kernel
theorem dX3_isNumber_8 : decode cX3_isNumber 8 = .ok (.if_icmp .eq 9, 3) := by decide +kernel
theorem dX3_isNumber_11 : decode cX3_isNumber 11 = .ok (.aload_n 0, 1) := by decide +kernel
theorem dX3_isNumber_12 : decode cX3_isNumber 12 = .ok (.iconst 1, 1) := by decide +kernel
theorem dX3_isNumber_13 : decode cX3_isNumber 13 = .ok (.invokevirtual 56, 3) := by decide +kernel
theorem dX3_isNumber_16 : decode cX3_isNumber 16 = .ok (.ireturn, 1) := by decide +kernel
theorem dX3_isNumber_17 : decode cX3_isNumber 17 = .ok (.aload_n 0, 1) := by decide +kernel
theorem dX3_isNumber_18 : decode cX3_isNumber 18 = .ok (.getfield 15, 3) := by decide +kernel
theorem dX3_isNumber_21 : decode cX3_isNumber 21 = .ok (.getfield 149, 3) := by decide +kernel
theorem dX3_isNumber_24 : decode cX3_isNumber 24 = .ok (.iload_n 1, 1) := by decide +kernel
theorem dX3_isNumber_25 : decode cX3_isNumber 25 = .ok (.if_icmp .lt 14, 3) := by decide +kernel
theorem dX3_isNumber_28 : decode cX3_isNumber 28 = .ok (.aload_n 0, 1) := by decide +kernel
theorem dX3_isNumber_29 : decode cX3_isNumber 29 = .ok (.getfield 15, 3) := by decide +kernel
theorem dX3_isNumber_32 : decode cX3_isNumber 32 = .ok (.getfield 149, 3) := by decide +kernel
theorem dX3_isNumber_35 : decode cX3_isNumber 35 = .ok (.iload_n 2, 1) := by decide +kernel
theorem dX3_isNumber_36 : decode cX3_isNumber 36 = .ok (.if_icmp .le 11, 3) := by decide +kernel
theorem dX3_isNumber_39 : decode cX3_isNumber 39 = .ok (.aload_n 0, 1) := by decide +kernel
theorem dX3_isNumber_40 : decode cX3_isNumber 40 = .ok (.iconst 3, 1) := by decide +kernel
theorem dX3_isNumber_41 : decode cX3_isNumber 41 = .ok (.invokevirtual 56, 3) := by decide +kernel
theorem dX3_isNumber_44 : decode cX3_isNumber 44 = .ok (.ifCond .eq 7, 3) := by decide +kernel
theorem dX3_isNumber_47 : decode cX3_isNumber 47 = .ok (.iconst 1, 1) := by decide +kernel
theorem dX3_isNumber_48 : decode cX3_isNumber 48 = .ok (.goto 4, 3) := by decide +kernel
theorem dX3_isNumber_51 : decode cX3_isNumber 51 = .ok (.iconst 0, 1) := by decide +kernel
theorem dX3_isNumber_52 : decode cX3_isNumber 52 = .ok (.ireturn, 1) := by decide +kernel
theorem dX3_takeNumber_0 : decode cX3_takeNumber 0 = .ok (.aload_n 0, 1) := by decide +kernel
theorem dX3_takeNumber_1 : decode cX3_takeNumber 1 = .ok (.getfield 15, 3) := by decide +kernel
theorem dX3_takeNumber_4 : decode cX3_takeNumber 4 = .ok (.getfield 149, 3) := by decide +kernel
theorem dX3_takeNumber_7 : decode cX3_takeNumber 7 = .ok (.istore_n 1, 1) := by decide +kernel
theorem dX3_takeNumber_8 : decode cX3_takeNumber 8 = .ok (.aload_n 0, 1) := by decide +kernel
theorem dX3_takeNumber_9 : decode cX3_takeNumber 9 = .ok (.getfield 15, 3) := by decide +kernel
theorem dX3_takeNumber_12 : decode cX3_takeNumber 12 = .ok (.invokevirtual 28, 3) := by decide +kernel
theorem dX3_takeNumber_15 : decode cX3_takeNumber 15 = .ok (.iload_n 1, 1) := by decide +kernel
theorem dX3_takeNumber_16 : decode cX3_takeNumber 16 = .ok (.ireturn, 1) := by decide +kernel
theorem dX3_readSemicolon_0 : decode cX3_readSemicolon 0 = .ok (.aload_n 0, 1) := by decide +kernel
theorem dX3_readSemicolon_1 : decode cX3_readSemicolon 1 = .ok (.getfield 15, 3) := by decide +kernel
theorem dX3_readSemicolon_4 : decode cX3_readSemicolon 4 = .ok (.getfield 37, 3) := by decide +kernel
theorem dX3_readSemicolon_7 : decode cX3_readSemicolon 7 = .ok (.iconst 3, 1) := by decide +kernel
theorem dX3_readSemicolon_8 : decode cX3_readSemicolon 8 = .ok (.if_icmp .eq 9, 3) := by decide +kernel
theorem dX3_readSemicolon_11 : decode cX3_readSemicolon 11 = .ok (.aload_n 0, 1) := by decide +kernel
theorem dX3_readSemicolon_12 : decode cX3_readSemicolon 12 = .ok (.iconst 1, 1) := by decide +kernel
theorem dX3_readSemicolon_13 : decode cX3_readSemicolon 13 = .ok (.invokevirtual 56, 3) := by decide +kernel
theorem dX3_readSemicolon_16 : decode cX3_readSemicolon 16 = .ok (.ireturn, 1) := by decide +kernel
theorem dX3_readSemicolon_17 : decode cX3_readSemicolon 17 = .ok (.aload_n 0, 1) := by decide +kernel
theorem dX3_readSemicolon_18 : decode cX3_readSemicolon 18 = .ok (.getfield 15, 3) := by decide +kernel
theorem dX3_readSemicolon_21 : decode cX3_readSemicolon 21 = .ok (.invokevirtual 28, 3) := by decide +kernel
theorem dX3_readSemicolon_24 : decode cX3_readSemicolon 24 = .ok (.iconst 1, 1) := by decide +kernel
theorem dX3_readSemicolon_25 : decode cX3_readSemicolon 25 = .ok (.ireturn, 1) := by decide +kernel
theorem dX3_fail_0 : decode cX3_fail 0 = .ok (.aload_n 0, 1) := by decide +kernel
theorem dX3_fail_1 : decode cX3_fail 1 = .ok (.iload_n 1, 1) := by decide +kernel
theorem dX3_fail_2 : decode cX3_fail 2 = .ok (.putfield 184, 3) := by decide +kernel
theorem dX3_fail_5 : decode cX3_fail 5 = .ok (.aload_n 0, 1) := by decide +kernel
theorem dX3_fail_6 : decode cX3_fail 6 = .ok (.aload_n 0, 1) := by decide +kernel
theorem dX3_fail_7 : decode cX3_fail 7 = .ok (.getfield 15, 3) := by decide +kernel
theorem dX3_fail_10 : decode cX3_fail 10 = .ok (.getfield 187, 3) := by decide +kernel
theorem dX3_fail_13 : decode cX3_fail 13 = .ok (.putfield 9, 3) := by decide +kernel
theorem dX3_fail_16 : decode cX3_fail 16 = .ok (.iconst 0, 1) := by decide +kernel
theorem dX3_fail_17 : decode cX3_fail 17 = .ok (.ireturn, 1) := by decide +kernel
theorem dX4_init_0 : decode cX4_init 0 = .ok (.aload_n 0, 1) := by decide +kernel
theorem dX4_init_1 : decode cX4_init 1 = .ok (.invokespecial 3, 3) := by decide +kernel
theorem dX4_init_4 : decode cX4_init 4 = .ok (.aload_n 0, 1) := by decide +kernel
theorem dX4_init_5 : decode cX4_init 5 = .ok (.bipush 20, 2) := by decide +kernel
theorem dX4_init_7 : decode cX4_init 7 = .ok (.newarray .int, 2) := by decide +kernel
theorem dX4_init_9 : decode cX4_init 9 = .ok (.putfield 9, 3) := by decide +kernel
theorem dX4_init_12 : decode cX4_init 12 = .ok (.aload_n 0, 1) := by decide +kernel
theorem dX4_init_13 : decode cX4_init 13 = .ok (.bipush 20, 2) := by decide +kernel
theorem dX4_init_15 : decode cX4_init 15 = .ok (.newarray .int, 2) := by decide +kernel
theorem dX4_init_17 : decode cX4_init 17 = .ok (.putfield 15, 3) := by decide +kernel
theorem dX4_init_20 : decode cX4_init 20 = .ok (.aload_n 0, 1) := by decide +kernel
theorem dX4_init_21 : decode cX4_init 21 = .ok (.bipush 20, 2) := by decide +kernel
theorem dX4_init_23 : decode cX4_init 23 = .ok (.newarray .int, 2) := by decide +kernel
theorem dX4_init_25 : decode cX4_init 25 = .ok (.putfield 18, 3) := by decide +kernel
theorem dX4_init_28 : decode cX4_init 28 = .ok (.aload_n 0, 1) := by decide +kernel
theorem dX4_init_29 : decode cX4_init 29 = .ok (.bipush 20, 2) := by decide +kernel
theorem dX4_init_31 : decode cX4_init 31 = .ok (.newarray .int, 2) := by decide +kernel
theorem dX4_init_33 : decode cX4_init 33 = .ok (.putfield 21, 3) := by decide +kernel
theorem dX4_init_36 : decode cX4_init 36 = .ok (.aload_n 0, 1) := by decide +kernel
theorem dX4_init_37 : decode cX4_init 37 = .ok (.sipush 600, 3) := by decide +kernel
theorem dX4_init_40 : decode cX4_init 40 = .ok (.newarray .int, 2) := by decide +kernel
theorem dX4_init_42 : decode cX4_init 42 = .ok (.putfield 24, 3) := by decide +kernel
theorem dX4_init_45 : decode cX4_init 45 = .ok (.aload_n 0, 1) := by decide +kernel
theorem dX4_init_46 : decode cX4_init 46 = .ok (.bipush 8, 2) := by decide +kernel
theorem dX4_init_48 : decode cX4_init 48 = .ok (.newarray .int, 2) := by decide +kernel
theorem dX4_init_50 : decode cX4_init 50 = .ok (.putfield 27, 3) := by decide +kernel
theorem dX4_init_53 : decode cX4_init 53 = .ok (.return_, 1) := by decide +kernel
theorem dX4_begin_0 : decode cX4_begin 0 = .ok (.aload_n 0, 1) := by decide +kernel
theorem dX4_begin_1 : decode cX4_begin 1 = .ok (.iconst 0, 1) := by decide +kernel
theorem dX4_begin_2 : decode cX4_begin 2 = .ok (.putfield 30, 3) := by decide +kernel
theorem dX4_begin_5 : decode cX4_begin 5 = .ok (.aload_n 1, 1) := by decide +kernel
theorem dX4_begin_6 : decode cX4_begin 6 = .ok (.iconst 0, 1) := by decide +kernel
theorem dX4_begin_7 : decode cX4_begin 7 = .ok (.aload_n 0, 1) := by decide +kernel
theorem dX4_begin_8 : decode cX4_begin 8 = .ok (.getfield 27, 3) := by decide +kernel
theorem dX4_begin_11 : decode cX4_begin 11 = .ok (.iconst 0, 1) := by decide +kernel
theorem dX4_begin_12 : decode cX4_begin 12 = .ok (.bipush 8, 2) := by decide +kernel
theorem dX4_begin_14 : decode cX4_begin 14 = .ok (.invokestatic 34, 3) := by decide +kernel
theorem dX4_begin_17 : decode cX4_begin 17 = .ok (.return_, 1) := by decide +kernel
theorem dX4_copyFrom_0 : decode cX4_copyFrom 0 = .ok (.aload_n 0, 1) := by decide +kernel
theorem dX4_copyFrom_1 : decode cX4_copyFrom 1 = .ok (.aload_n 1, 1) := by decide +kernel
theorem dX4_copyFrom_2 : decode cX4_copyFrom 2 = .ok (.getfield 30, 3) := by decide +kernel
theorem dX4_copyFrom_5 : decode cX4_copyFrom 5 = .ok (.putfield 30, 3) := by decide +kernel
theorem dX4_copyFrom_8 : decode cX4_copyFrom 8 = .ok (.aload_n 1, 1) := by decide +kernel
theorem dX4_copyFrom_9 : decode cX4_copyFrom 9 = .ok (.getfield 27, 3) := by decide +kernel
theorem dX4_copyFrom_12 : decode cX4_copyFrom 12 = .ok (.iconst 0, 1) := by decide +kernel
theorem dX4_copyFrom_13 : decode cX4_copyFrom 13 = .ok (.aload_n 0, 1) := by decide +kernel
theorem dX4_copyFrom_14 : decode cX4_copyFrom 14 = .ok (.getfield 27, 3) := by decide +kernel
theorem dX4_copyFrom_17 : decode cX4_copyFrom 17 = .ok (.iconst 0, 1) := by decide +kernel
theorem dX4_copyFrom_18 : decode cX4_copyFrom 18 = .ok (.bipush 8, 2) := by decide +kernel
theorem dX4_copyFrom_20 : decode cX4_copyFrom 20 = .ok (.invokestatic 34, 3) := by decide +kernel
theorem dX4_copyFrom_23 : decode cX4_copyFrom 23 = .ok (.aload_n 0, 1) := by decide +kernel
theorem dX4_copyFrom_24 : decode cX4_copyFrom 24 = .ok (.aload_n 1, 1) := by decide +kernel
theorem dX4_copyFrom_25 : decode cX4_copyFrom 25 = .ok (.iconst 0, 1) := by decide +kernel
theorem dX4_copyFrom_26 : decode cX4_copyFrom 26 = .ok (.iconst 0, 1) := by decide +kernel
theorem dX4_copyFrom_27 : decode cX4_copyFrom 27 = .ok (.aload_n 1, 1) := by decide +kernel
theorem dX4_copyFrom_28 : decode cX4_copyFrom 28 = .ok (.getfield 30, 3) := by decide +kernel
theorem dX4_copyFrom_31 : decode cX4_copyFrom 31 = .ok (.invokevirtual 40, 3) := by decide +kernel
theorem dX4_copyFrom_34 : decode cX4_copyFrom 34 = .ok (.return_, 1) := by decide +kernel
theorem dX4_copyServices_0 : decode cX4_copyServices 0 = .ok (.aload_n 1, 1) := by decide +kernel
theorem dX4_copyServices_1 : decode cX4_copyServices 1 = .ok (.getfield 9, 3) := by decide +kernel
theorem dX4_copyServices_4 : decode cX4_copyServices 4 = .ok (.iload_n 2, 1) := by decide +kernel
theorem dX4_copyServices_5 : decode cX4_copyServices 5 = .ok (.aload_n 0, 1) := by decide +kernel
theorem dX4_copyServices_6 : decode cX4_copyServices 6 = .ok (.getfield 9, 3) := by decide +kernel
theorem dX4_copyServices_9 : decode cX4_copyServices 9 = .ok (.iload_n 3, 1) := by decide +kernel
theorem dX4_copyServices_10 : decode cX4_copyServices 10 = .ok (.iload 4, 2) := by decide +kernel
theorem dX4_copyServices_12 : decode cX4_copyServices 12 = .ok (.invokestatic 34, 3) := by decide +kernel
theorem dX4_copyServices_15 : decode cX4_copyServices 15 = .ok (.aload_n 1, 1) := by decide +kernel
theorem dX4_copyServices_16 : decode cX4_copyServices 16 = .ok (.getfield 15, 3) := by decide +kernel
theorem dX4_copyServices_19 : decode cX4_copyServices 19 = .ok (.iload_n 2, 1) := by decide +kernel
theorem dX4_copyServices_20 : decode cX4_copyServices 20 = .ok (.aload_n 0, 1) := by decide +kernel
theorem dX4_copyServices_21 : decode cX4_copyServices 21 = .ok (.getfield 15, 3) := by decide +kernel
theorem dX4_copyServices_24 : decode cX4_copyServices 24 = .ok (.iload_n 3, 1) := by decide +kernel
theorem dX4_copyServices_25 : decode cX4_copyServices 25 = .ok (.iload 4, 2) := by decide +kernel
theorem dX4_copyServices_27 : decode cX4_copyServices 27 = .ok (.invokestatic 34, 3) := by decide +kernel
theorem dX4_copyServices_30 : decode cX4_copyServices 30 = .ok (.aload_n 1, 1) := by decide +kernel
theorem dX4_copyServices_31 : decode cX4_copyServices 31 = .ok (.getfield 18, 3) := by decide +kernel
theorem dX4_copyServices_34 : decode cX4_copyServices 34 = .ok (.iload_n 2, 1) := by decide +kernel
theorem dX4_copyServices_35 : decode cX4_copyServices 35 = .ok (.aload_n 0, 1) := by decide +kernel
theorem dX4_copyServices_36 : decode cX4_copyServices 36 = .ok (.getfield 18, 3) := by decide +kernel
theorem dX4_copyServices_39 : decode cX4_copyServices 39 = .ok (.iload_n 3, 1) := by decide +kernel
theorem dX4_copyServices_40 : decode cX4_copyServices 40 = .ok (.iload 4, 2) := by decide +kernel
theorem dX4_copyServices_42 : decode cX4_copyServices 42 = .ok (.invokestatic 34, 3) := by decide +kernel
theorem dX4_copyServices_45 : decode cX4_copyServices 45 = .ok (.aload_n 1, 1) := by decide +kernel
theorem dX4_copyServices_46 : decode cX4_copyServices 46 = .ok (.getfield 21, 3) := by decide +kernel
theorem dX4_copyServices_49 : decode cX4_copyServices 49 = .ok (.iload_n 2, 1) := by decide +kernel
theorem dX4_copyServices_50 : decode cX4_copyServices 50 = .ok (.aload_n 0, 1) := by decide +kernel
theorem dX4_copyServices_51 : decode cX4_copyServices 51 = .ok (.getfield 21, 3) := by decide +kernel
theorem dX4_copyServices_54 : decode cX4_copyServices 54 = .ok (.iload_n 3, 1) := by decide +kernel
theorem dX4_copyServices_55 : decode cX4_copyServices 55 = .ok (.iload 4, 2) := by decide +kernel
theorem dX4_copyServices_57 : decode cX4_copyServices 57 = .ok (.invokestatic 34, 3) := by decide +kernel
theorem dX4_copyServices_60 : decode cX4_copyServices 60 = .ok (.aload_n 1, 1) := by decide +kernel
theorem dX4_copyServices_61 : decode cX4_copyServices 61 = .ok (.getfield 24, 3) := by decide +kernel
theorem dX4_copyServices_64 : decode cX4_copyServices 64 = .ok (.iload_n 2, 1) := by decide +kernel
theorem dX4_copyServices_65 : decode cX4_copyServices 65 = .ok (.bipush 30, 2) := by decide +kernel
theorem dX4_copyServices_67 : decode cX4_copyServices 67 = .ok (.imul, 1) := by decide +kernel
theorem dX4_copyServices_68 : decode cX4_copyServices 68 = .ok (.aload_n 0, 1) := by decide +kernel
theorem dX4_copyServices_69 : decode cX4_copyServices 69 = .ok (.getfield 24, 3) := by decide +kernel
theorem dX4_copyServices_72 : decode cX4_copyServices 72 = .ok (.iload_n 3, 1) := by decide +kernel
theorem dX4_copyServices_73 : decode cX4_copyServices 73 = .ok (.bipush 30, 2) := by decide +kernel
theorem dX4_copyServices_75 : decode cX4_copyServices 75 = .ok (.imul, 1) := by decide +kernel
theorem dX4_copyServices_76 : decode cX4_copyServices 76 = .ok (.iload 4, 2) := by decide +kernel
theorem dX4_copyServices_78 : decode cX4_copyServices 78 = .ok (.bipush 30, 2) := by decide +kernel
theorem dX4_copyServices_80 : decode cX4_copyServices 80 = .ok (.imul, 1) := by decide +kernel
theorem dX4_copyServices_81 : decode cX4_copyServices 81 = .ok (.invokestatic 34, 3) := by decide +kernel
theorem dX4_copyServices_84 : decode cX4_copyServices 84 = .ok (.return_, 1) := by decide +kernel
theorem dX4_insert_0 : decode cX4_insert 0 = .ok (.iconst 0, 1) := by decide +kernel
theorem dX4_insert_1 : decode cX4_insert 1 = .ok (.istore 5, 2) := by decide +kernel
theorem dX4_insert_3 : decode cX4_insert 3 = .ok (.iload 5, 2) := by decide +kernel
theorem dX4_insert_5 : decode cX4_insert 5 = .ok (.aload_n 0, 1) := by decide +kernel
theorem dX4_insert_6 : decode cX4_insert 6 = .ok (.getfield 30, 3) := by decide +kernel
theorem dX4_insert_9 : decode cX4_insert 9 = .ok (.if_icmp .ge 20, 3) := by decide +kernel
theorem dX4_insert_12 : decode cX4_insert 12 = .ok (.aload_n 0, 1) := by decide +kernel
theorem dX4_insert_13 : decode cX4_insert 13 = .ok (.iload 5, 2) := by decide +kernel
theorem dX4_insert_15 : decode cX4_insert 15 = .ok (.iload_n 1, 1) := by decide +kernel
theorem dX4_insert_16 : decode cX4_insert 16 = .ok (.iload_n 2, 1) := by decide +kernel
theorem dX4_insert_17 : decode cX4_insert 17 = .ok (.invokevirtual 44, 3) := by decide +kernel
theorem dX4_insert_20 : decode cX4_insert 20 = .ok (.ifCond .eq 9, 3) := by decide +kernel
theorem dX4_insert_23 : decode cX4_insert 23 = .ok (.iinc 5 1, 3) := by decide +kernel
theorem dX4_insert_26 : decode cX4_insert 26 = .ok (.goto (-23), 3) := by decide +kernel
theorem dX4_insert_29 : decode cX4_insert 29 = .ok (.aload_n 0, 1) := by decide +kernel
theorem dX4_insert_30 : decode cX4_insert 30 = .ok (.aload_n 0, 1) := by decide +kernel
theorem dX4_insert_31 : decode cX4_insert 31 = .ok (.iload 5, 2) := by decide +kernel
theorem dX4_insert_33 : decode cX4_insert 33 = .ok (.iload 5, 2) := by decide +kernel
theorem dX4_insert_35 : decode cX4_insert 35 = .ok (.iconst 1, 1) := by decide +kernel
theorem dX4_insert_36 : decode cX4_insert 36 = .ok (.iadd, 1) := by decide +kernel
theorem dX4_insert_37 : decode cX4_insert 37 = .ok (.aload_n 0, 1) := by decide +kernel
theorem dX4_insert_38 : decode cX4_insert 38 = .ok (.getfield 30, 3) := by decide +kernel
theorem dX4_insert_41 : decode cX4_insert 41 = .ok (.iload 5, 2) := by decide +kernel
theorem dX4_insert_43 : decode cX4_insert 43 = .ok (.isub, 1) := by decide +kernel
theorem dX4_insert_44 : decode cX4_insert 44 = .ok (.invokevirtual 40, 3) := by decide +kernel
theorem dX4_insert_47 : decode cX4_insert 47 = .ok (.aload_n 0, 1) := by decide +kernel
theorem dX4_insert_48 : decode cX4_insert 48 = .ok (.dup, 1) := by decide +kernel
theorem dX4_insert_49 : decode cX4_insert 49 = .ok (.getfield 30, 3) := by decide +kernel
theorem dX4_insert_52 : decode cX4_insert 52 = .ok (.iconst 1, 1) := by decide +kernel
theorem dX4_insert_53 : decode cX4_insert 53 = .ok (.iadd, 1) := by decide +kernel
theorem dX4_insert_54 : decode cX4_insert 54 = .ok (.putfield 30, 3) := by decide +kernel
theorem dX4_insert_57 : decode cX4_insert 57 = .ok (.aload_n 0, 1) := by decide +kernel
theorem dX4_insert_58 : decode cX4_insert 58 = .ok (.getfield 9, 3) := by decide +kernel
theorem dX4_insert_61 : decode cX4_insert 61 = .ok (.iload 5, 2) := by decide +kernel
theorem dX4_insert_63 : decode cX4_insert 63 = .ok (.iload_n 2, 1) := by decide +kernel
theorem dX4_insert_64 : decode cX4_insert 64 = .ok (.iastore, 1) := by decide +kernel
theorem dX4_insert_65 : decode cX4_insert 65 = .ok (.aload_n 0, 1) := by decide +kernel
theorem dX4_insert_66 : decode cX4_insert 66 = .ok (.getfield 15, 3) := by decide +kernel
theorem dX4_insert_69 : decode cX4_insert 69 = .ok (.iload 5, 2) := by decide +kernel
theorem dX4_insert_71 : decode cX4_insert 71 = .ok (.iload_n 1, 1) := by decide +kernel
theorem dX4_insert_72 : decode cX4_insert 72 = .ok (.iastore, 1) := by decide +kernel
theorem dX4_insert_73 : decode cX4_insert 73 = .ok (.aload_n 0, 1) := by decide +kernel
theorem dX4_insert_74 : decode cX4_insert 74 = .ok (.getfield 18, 3) := by decide +kernel
theorem dX4_insert_77 : decode cX4_insert 77 = .ok (.iload 5, 2) := by decide +kernel
theorem dX4_insert_79 : decode cX4_insert 79 = .ok (.iload 4, 2) := by decide +kernel
theorem dX4_insert_81 : decode cX4_insert 81 = .ok (.ifCond .eq 7, 3) := by decide +kernel
theorem dX4_insert_84 : decode cX4_insert 84 = .ok (.iconst 1, 1) := by decide +kernel
theorem dX4_insert_85 : decode cX4_insert 85 = .ok (.goto 4, 3) := by decide +kernel
theorem dX4_insert_88 : decode cX4_insert 88 = .ok (.iconst 0, 1) := by decide +kernel
theorem dX4_insert_89 : decode cX4_insert 89 = .ok (.iastore, 1) := by decide +kernel
theorem dX4_insert_90 : decode cX4_insert 90 = .ok (.aload_n 0, 1) := by decide +kernel
theorem dX4_insert_91 : decode cX4_insert 91 = .ok (.getfield 21, 3) := by decide +kernel
theorem dX4_insert_94 : decode cX4_insert 94 = .ok (.iload 5, 2) := by decide +kernel
theorem dX4_insert_96 : decode cX4_insert 96 = .ok (.iload_n 3, 1) := by decide +kernel
theorem dX4_insert_97 : decode cX4_insert 97 = .ok (.iastore, 1) := by decide +kernel
theorem dX4_insert_98 : decode cX4_insert 98 = .ok (.aload_n 0, 1) := by decide +kernel
theorem dX4_insert_99 : decode cX4_insert 99 = .ok (.iload 5, 2) := by decide +kernel
theorem dX4_insert_101 : decode cX4_insert 101 = .ok (.invokevirtual 48, 3) := by decide +kernel
theorem dX4_insert_104 : decode cX4_insert 104 = .ok (.iload 5, 2) := by decide +kernel
theorem dX4_insert_106 : decode cX4_insert 106 = .ok (.ireturn, 1) := by decide +kernel
theorem dX4_isEarlier_0 : decode cX4_isEarlier 0 = .ok (.aload_n 0, 1) := by decide +kernel
theorem dX4_isEarlier_1 : decode cX4_isEarlier 1 = .ok (.getfield 9, 3) := by decide +kernel
theorem dX4_isEarlier_4 : decode cX4_isEarlier 4 = .ok (.iload_n 1, 1) := by decide +kernel
theorem dX4_isEarlier_5 : decode cX4_isEarlier 5 = .ok (.iaload, 1) := by decide +kernel
theorem dX4_isEarlier_6 : decode cX4_isEarlier 6 = .ok (.iload_n 3, 1) := by decide +kernel
theorem dX4_isEarlier_7 : decode cX4_isEarlier 7 = .ok (.if_icmp .lt 23, 3) := by decide +kernel
theorem dX4_isEarlier_10 : decode cX4_isEarlier 10 = .ok (.aload_n 0, 1) := by decide +kernel
theorem dX4_isEarlier_11 : decode cX4_isEarlier 11 = .ok (.getfield 9, 3) := by decide +kernel
theorem dX4_isEarlier_14 : decode cX4_isEarlier 14 = .ok (.iload_n 1, 1) := by decide +kernel
theorem dX4_isEarlier_15 : decode cX4_isEarlier 15 = .ok (.iaload, 1) := by decide +kernel
theorem dX4_isEarlier_16 : decode cX4_isEarlier 16 = .ok (.iload_n 3, 1) := by decide +kernel
theorem dX4_isEarlier_17 : decode cX4_isEarlier 17 = .ok (.if_icmp .ne 17, 3) := by decide +kernel
theorem dX4_isEarlier_20 : decode cX4_isEarlier 20 = .ok (.aload_n 0, 1) := by decide +kernel
theorem dX4_isEarlier_21 : decode cX4_isEarlier 21 = .ok (.getfield 15, 3) := by decide +kernel
theorem dX4_isEarlier_24 : decode cX4_isEarlier 24 = .ok (.iload_n 1, 1) := by decide +kernel
theorem dX4_isEarlier_25 : decode cX4_isEarlier 25 = .ok (.iaload, 1) := by decide +kernel
theorem dX4_isEarlier_26 : decode cX4_isEarlier 26 = .ok (.iload_n 2, 1) := by decide +kernel
theorem dX4_isEarlier_27 : decode cX4_isEarlier 27 = .ok (.if_icmp .ge 7, 3) := by decide +kernel
theorem dX4_isEarlier_30 : decode cX4_isEarlier 30 = .ok (.iconst 1, 1) := by decide +kernel
theorem dX4_isEarlier_31 : decode cX4_isEarlier 31 = .ok (.goto 4, 3) := by decide +kernel
theorem dX4_isEarlier_34 : decode cX4_isEarlier 34 = .ok (.iconst 0, 1) := by decide +kernel
theorem dX4_isEarlier_35 : decode cX4_isEarlier 35 = .ok (.ireturn, 1) := by decide +kernel
theorem dX4_remove_0 : decode cX4_remove 0 = .ok (.aload_n 0, 1) := by decide +kernel
theorem dX4_remove_1 : decode cX4_remove 1 = .ok (.aload_n 0, 1) := by decide +kernel
theorem dX4_remove_2 : decode cX4_remove 2 = .ok (.iload_n 1, 1) := by decide +kernel
theorem dX4_remove_3 : decode cX4_remove 3 = .ok (.iconst 1, 1) := by decide +kernel
theorem dX4_remove_4 : decode cX4_remove 4 = .ok (.iadd, 1) := by decide +kernel
theorem dX4_remove_5 : decode cX4_remove 5 = .ok (.iload_n 1, 1) := by decide +kernel
theorem dX4_remove_6 : decode cX4_remove 6 = .ok (.aload_n 0, 1) := by decide +kernel
theorem dX4_remove_7 : decode cX4_remove 7 = .ok (.getfield 30, 3) := by decide +kernel
theorem dX4_remove_10 : decode cX4_remove 10 = .ok (.iload_n 1, 1) := by decide +kernel
theorem dX4_remove_11 : decode cX4_remove 11 = .ok (.isub, 1) := by decide +kernel
theorem dX4_remove_12 : decode cX4_remove 12 = .ok (.iconst 1, 1) := by decide +kernel
theorem dX4_remove_13 : decode cX4_remove 13 = .ok (.isub, 1) := by decide +kernel
theorem dX4_remove_14 : decode cX4_remove 14 = .ok (.invokevirtual 40, 3) := by decide +kernel
theorem dX4_remove_17 : decode cX4_remove 17 = .ok (.aload_n 0, 1) := by decide +kernel
theorem dX4_remove_18 : decode cX4_remove 18 = .ok (.dup, 1) := by decide +kernel
theorem dX4_remove_19 : decode cX4_remove 19 = .ok (.getfield 30, 3) := by decide +kernel
theorem dX4_remove_22 : decode cX4_remove 22 = .ok (.iconst 1, 1) := by decide +kernel
theorem dX4_remove_23 : decode cX4_remove 23 = .ok (.isub, 1) := by decide +kernel
theorem dX4_remove_24 : decode cX4_remove 24 = .ok (.putfield 30, 3) := by decide +kernel
theorem dX4_remove_27 : decode cX4_remove 27 = .ok (.return_, 1) := by decide +kernel
theorem dX4_clearCast_0 : decode cX4_clearCast 0 = .ok (.iconst 0, 1) := by decide +kernel
theorem dX4_clearCast_1 : decode cX4_clearCast 1 = .ok (.istore_n 2, 1) := by decide +kernel
theorem dX4_clearCast_2 : decode cX4_clearCast 2 = .ok (.iload_n 2, 1) := by decide +kernel
theorem dX4_clearCast_3 : decode cX4_clearCast 3 = .ok (.bipush 30, 2) := by decide +kernel
theorem dX4_clearCast_5 : decode cX4_clearCast 5 = .ok (.if_icmp .ge 21, 3) := by decide +kernel
theorem dX4_clearCast_8 : decode cX4_clearCast 8 = .ok (.aload_n 0, 1) := by decide +kernel
theorem dX4_clearCast_9 : decode cX4_clearCast 9 = .ok (.getfield 24, 3) := by decide +kernel
theorem dX4_clearCast_12 : decode cX4_clearCast 12 = .ok (.iload_n 1, 1) := by decide +kernel
theorem dX4_clearCast_13 : decode cX4_clearCast 13 = .ok (.bipush 30, 2) := by decide +kernel
theorem dX4_clearCast_15 : decode cX4_clearCast 15 = .ok (.imul, 1) := by decide +kernel
theorem dX4_clearCast_16 : decode cX4_clearCast 16 = .ok (.iload_n 2, 1) := by decide +kernel
theorem dX4_clearCast_17 : decode cX4_clearCast 17 = .ok (.iadd, 1) := by decide +kernel
theorem dX4_clearCast_18 : decode cX4_clearCast 18 = .ok (.iconst (-1), 1) := by decide +kernel
theorem dX4_clearCast_19 : decode cX4_clearCast 19 = .ok (.iastore, 1) := by decide +kernel
theorem dX4_clearCast_20 : decode cX4_clearCast 20 = .ok (.iinc 2 1, 3) := by decide +kernel
theorem dX4_clearCast_23 : decode cX4_clearCast 23 = .ok (.goto (-21), 3) := by decide +kernel
theorem dX4_clearCast_26 : decode cX4_clearCast 26 = .ok (.return_, 1) := by decide +kernel
theorem dX4_setCast_0 : decode cX4_setCast 0 = .ok (.aload_n 3, 1) := by decide +kernel
theorem dX4_setCast_1 : decode cX4_setCast 1 = .ok (.iconst 0, 1) := by decide +kernel
theorem dX4_setCast_2 : decode cX4_setCast 2 = .ok (.aload_n 0, 1) := by decide +kernel
theorem dX4_setCast_3 : decode cX4_setCast 3 = .ok (.getfield 24, 3) := by decide +kernel
theorem dX4_setCast_6 : decode cX4_setCast 6 = .ok (.iload_n 1, 1) := by decide +kernel
theorem dX4_setCast_7 : decode cX4_setCast 7 = .ok (.iload_n 2, 1) := by decide +kernel
theorem dX4_setCast_8 : decode cX4_setCast 8 = .ok (.invokestatic 52, 3) := by decide +kernel
theorem dX4_setCast_11 : decode cX4_setCast 11 = .ok (.iload 4, 2) := by decide +kernel
theorem dX4_setCast_13 : decode cX4_setCast 13 = .ok (.invokestatic 34, 3) := by decide +kernel
theorem dX4_setCast_16 : decode cX4_setCast 16 = .ok (.return_, 1) := by decide +kernel
theorem dX4_playerOn_0 : decode cX4_playerOn 0 = .ok (.aload_n 0, 1) := by decide +kernel
theorem dX4_playerOn_1 : decode cX4_playerOn 1 = .ok (.getfield 24, 3) := by decide +kernel
theorem dX4_playerOn_4 : decode cX4_playerOn 4 = .ok (.iload_n 1, 1) := by decide +kernel
theorem dX4_playerOn_5 : decode cX4_playerOn 5 = .ok (.iload_n 2, 1) := by decide +kernel
theorem dX4_playerOn_6 : decode cX4_playerOn 6 = .ok (.invokestatic 52, 3) := by decide +kernel
theorem dX4_playerOn_9 : decode cX4_playerOn 9 = .ok (.iload_n 3, 1) := by decide +kernel
theorem dX4_playerOn_10 : decode cX4_playerOn 10 = .ok (.iadd, 1) := by decide +kernel
theorem dX4_playerOn_11 : decode cX4_playerOn 11 = .ok (.iaload, 1) := by decide +kernel
theorem dX4_playerOn_12 : decode cX4_playerOn 12 = .ok (.ireturn, 1) := by decide +kernel
theorem dX4_placeOf_0 : decode cX4_placeOf 0 = .ok (.iload_n 0, 1) := by decide +kernel
theorem dX4_placeOf_1 : decode cX4_placeOf 1 = .ok (.bipush 30, 2) := by decide +kernel
theorem dX4_placeOf_3 : decode cX4_placeOf 3 = .ok (.imul, 1) := by decide +kernel
theorem dX4_placeOf_4 : decode cX4_placeOf 4 = .ok (.iload_n 1, 1) := by decide +kernel
theorem dX4_placeOf_5 : decode cX4_placeOf 5 = .ok (.bipush 6, 2) := by decide +kernel
theorem dX4_placeOf_7 : decode cX4_placeOf 7 = .ok (.imul, 1) := by decide +kernel
theorem dX4_placeOf_8 : decode cX4_placeOf 8 = .ok (.iadd, 1) := by decide +kernel
theorem dX4_placeOf_9 : decode cX4_placeOf 9 = .ok (.ireturn, 1) := by decide +kernel
theorem dX4_isConcert_0 : decode cX4_isConcert 0 = .ok (.aload_n 0, 1) := by decide +kernel
theorem dX4_isConcert_1 : decode cX4_isConcert 1 = .ok (.getfield 18, 3) := by decide +kernel
theorem dX4_isConcert_4 : decode cX4_isConcert 4 = .ok (.iload_n 1, 1) := by decide +kernel
theorem dX4_isConcert_5 : decode cX4_isConcert 5 = .ok (.iaload, 1) := by decide +kernel
theorem dX4_isConcert_6 : decode cX4_isConcert 6 = .ok (.iconst 1, 1) := by decide +kernel
theorem dX4_isConcert_7 : decode cX4_isConcert 7 = .ok (.if_icmp .ne 7, 3) := by decide +kernel
theorem dX4_isConcert_10 : decode cX4_isConcert 10 = .ok (.iconst 1, 1) := by decide +kernel
theorem dX4_isConcert_11 : decode cX4_isConcert 11 = .ok (.goto 4, 3) := by decide +kernel
theorem dX4_isConcert_14 : decode cX4_isConcert 14 = .ok (.iconst 0, 1) := by decide +kernel
theorem dX4_isConcert_15 : decode cX4_isConcert 15 = .ok (.ireturn, 1) := by decide +kernel
theorem dX4_playersIn_0 : decode cX4_playersIn 0 = .ok (.iconst 0, 1) := by decide +kernel
theorem dX4_playersIn_1 : decode cX4_playersIn 1 = .ok (.istore_n 2, 1) := by decide +kernel
theorem dX4_playersIn_2 : decode cX4_playersIn 2 = .ok (.iconst 0, 1) := by decide +kernel
theorem dX4_playersIn_3 : decode cX4_playersIn 3 = .ok (.istore_n 3, 1) := by decide +kernel
theorem dX4_playersIn_4 : decode cX4_playersIn 4 = .ok (.iload_n 3, 1) := by decide +kernel
theorem dX4_playersIn_5 : decode cX4_playersIn 5 = .ok (.bipush 30, 2) := by decide +kernel
theorem dX4_playersIn_7 : decode cX4_playersIn 7 = .ok (.if_icmp .ge 35, 3) := by decide +kernel
theorem dX4_playersIn_10 : decode cX4_playersIn 10 = .ok (.aload_n 0, 1) := by decide +kernel
theorem dX4_playersIn_11 : decode cX4_playersIn 11 = .ok (.getfield 24, 3) := by decide +kernel
theorem dX4_playersIn_14 : decode cX4_playersIn 14 = .ok (.iload_n 1, 1) := by decide +kernel
theorem dX4_playersIn_15 : decode cX4_playersIn 15 = .ok (.bipush 30, 2) := by decide +kernel
theorem dX4_playersIn_17 : decode cX4_playersIn 17 = .ok (.imul, 1) := by decide +kernel
theorem dX4_playersIn_18 : decode cX4_playersIn 18 = .ok (.iload_n 3, 1) := by decide +kernel
theorem dX4_playersIn_19 : decode cX4_playersIn 19 = .ok (.iadd, 1) := by decide +kernel
theorem dX4_playersIn_20 : decode cX4_playersIn 20 = .ok (.iaload, 1) := by decide +kernel
theorem dX4_playersIn_21 : decode cX4_playersIn 21 = .ok (.istore 4, 2) := by decide +kernel
theorem dX4_playersIn_23 : decode cX4_playersIn 23 = .ok (.iload 4, 2) := by decide +kernel
theorem dX4_playersIn_25 : decode cX4_playersIn 25 = .ok (.iconst (-1), 1) := by decide +kernel
theorem dX4_playersIn_26 : decode cX4_playersIn 26 = .ok (.if_icmp .eq 10, 3) := by decide +kernel
theorem dX4_playersIn_29 : decode cX4_playersIn 29 = .ok (.iload_n 2, 1) := by decide +kernel
theorem dX4_playersIn_30 : decode cX4_playersIn 30 = .ok (.iconst 1, 1) := by decide +kernel
theorem dX4_playersIn_31 : decode cX4_playersIn 31 = .ok (.iload 4, 2) := by decide +kernel
theorem dX4_playersIn_33 : decode cX4_playersIn 33 = .ok (.ishl, 1) := by decide +kernel
theorem dX4_playersIn_34 : decode cX4_playersIn 34 = .ok (.ior, 1) := by decide +kernel
theorem dX4_playersIn_35 : decode cX4_playersIn 35 = .ok (.istore_n 2, 1) := by decide +kernel
theorem dX4_playersIn_36 : decode cX4_playersIn 36 = .ok (.iinc 3 1, 3) := by decide +kernel
theorem dX4_playersIn_39 : decode cX4_playersIn 39 = .ok (.goto (-35), 3) := by decide +kernel
theorem dX4_playersIn_42 : decode cX4_playersIn 42 = .ok (.iload_n 2, 1) := by decide +kernel
theorem dX4_playersIn_43 : decode cX4_playersIn 43 = .ok (.ireturn, 1) := by decide +kernel
theorem dX4_playersAt_0 : decode cX4_playersAt 0 = .ok (.iconst 0, 1) := by decide +kernel
theorem dX4_playersAt_1 : decode cX4_playersAt 1 = .ok (.istore_n 2, 1) := by decide +kernel
theorem dX4_playersAt_2 : decode cX4_playersAt 2 = .ok (.iconst 0, 1) := by decide +kernel
theorem dX4_playersAt_3 : decode cX4_playersAt 3 = .ok (.istore_n 3, 1) := by decide +kernel
theorem dX4_playersAt_4 : decode cX4_playersAt 4 = .ok (.iload_n 3, 1) := by decide +kernel
theorem dX4_playersAt_5 : decode cX4_playersAt 5 = .ok (.aload_n 0, 1) := by decide +kernel
theorem dX4_playersAt_6 : decode cX4_playersAt 6 = .ok (.getfield 30, 3) := by decide +kernel
theorem dX4_playersAt_9 : decode cX4_playersAt 9 = .ok (.if_icmp .ge 27, 3) := by decide +kernel
theorem dX4_playersAt_12 : decode cX4_playersAt 12 = .ok (.aload_n 0, 1) := by decide +kernel
theorem dX4_playersAt_13 : decode cX4_playersAt 13 = .ok (.getfield 9, 3) := by decide +kernel
theorem dX4_playersAt_16 : decode cX4_playersAt 16 = .ok (.iload_n 3, 1) := by decide +kernel
theorem dX4_playersAt_17 : decode cX4_playersAt 17 = .ok (.iaload, 1) := by decide +kernel
theorem dX4_playersAt_18 : decode cX4_playersAt 18 = .ok (.iload_n 1, 1) := by decide +kernel
theorem dX4_playersAt_19 : decode cX4_playersAt 19 = .ok (.if_icmp .ne 11, 3) := by decide +kernel
theorem dX4_playersAt_22 : decode cX4_playersAt 22 = .ok (.iload_n 2, 1) := by decide +kernel
theorem dX4_playersAt_23 : decode cX4_playersAt 23 = .ok (.aload_n 0, 1) := by decide +kernel
theorem dX4_playersAt_24 : decode cX4_playersAt 24 = .ok (.iload_n 3, 1) := by decide +kernel
theorem dX4_playersAt_25 : decode cX4_playersAt 25 = .ok (.invokevirtual 56, 3) := by decide +kernel
theorem dX4_playersAt_28 : decode cX4_playersAt 28 = .ok (.ior, 1) := by decide +kernel
theorem dX4_playersAt_29 : decode cX4_playersAt 29 = .ok (.istore_n 2, 1) := by decide +kernel
theorem dX4_playersAt_30 : decode cX4_playersAt 30 = .ok (.iinc 3 1, 3) := by decide +kernel
theorem dX4_playersAt_33 : decode cX4_playersAt 33 = .ok (.goto (-29), 3) := by decide +kernel
theorem dX4_playersAt_36 : decode cX4_playersAt 36 = .ok (.iload_n 2, 1) := by decide +kernel
theorem dX4_playersAt_37 : decode cX4_playersAt 37 = .ok (.ireturn, 1) := by decide +kernel
theorem dX4_servicesOf_0 : decode cX4_servicesOf 0 = .ok (.iconst 0, 1) := by decide +kernel
theorem dX4_servicesOf_1 : decode cX4_servicesOf 1 = .ok (.istore_n 2, 1) := by decide +kernel
theorem dX4_servicesOf_2 : decode cX4_servicesOf 2 = .ok (.iconst 0, 1) := by decide +kernel
theorem dX4_servicesOf_3 : decode cX4_servicesOf 3 = .ok (.istore_n 3, 1) := by decide +kernel
theorem dX4_servicesOf_4 : decode cX4_servicesOf 4 = .ok (.iload_n 3, 1) := by decide +kernel
theorem dX4_servicesOf_5 : decode cX4_servicesOf 5 = .ok (.aload_n 0, 1) := by decide +kernel
theorem dX4_servicesOf_6 : decode cX4_servicesOf 6 = .ok (.getfield 30, 3) := by decide +kernel
theorem dX4_servicesOf_9 : decode cX4_servicesOf 9 = .ok (.if_icmp .ge 24, 3) := by decide +kernel
theorem dX4_servicesOf_12 : decode cX4_servicesOf 12 = .ok (.aload_n 0, 1) := by decide +kernel
theorem dX4_servicesOf_13 : decode cX4_servicesOf 13 = .ok (.iload_n 3, 1) := by decide +kernel
theorem dX4_servicesOf_14 : decode cX4_servicesOf 14 = .ok (.invokevirtual 56, 3) := by decide +kernel
theorem dX4_servicesOf_17 : decode cX4_servicesOf 17 = .ok (.iload_n 1, 1) := by decide +kernel
theorem dX4_servicesOf_18 : decode cX4_servicesOf 18 = .ok (.invokestatic 60, 3) := by decide +kernel
theorem dX4_servicesOf_21 : decode cX4_servicesOf 21 = .ok (.ifCond .eq 6, 3) := by decide +kernel
theorem dX4_servicesOf_24 : decode cX4_servicesOf 24 = .ok (.iinc 2 1, 3) := by decide +kernel
theorem dX4_servicesOf_27 : decode cX4_servicesOf 27 = .ok (.iinc 3 1, 3) := by decide +kernel
theorem dX4_servicesOf_30 : decode cX4_servicesOf 30 = .ok (.goto (-26), 3) := by decide +kernel
theorem dX4_servicesOf_33 : decode cX4_servicesOf 33 = .ok (.iload_n 2, 1) := by decide +kernel
theorem dX4_servicesOf_34 : decode cX4_servicesOf 34 = .ok (.ireturn, 1) := by decide +kernel
theorem dX4_beyondContract_0 : decode cX4_beyondContract 0 = .ok (.aload_n 0, 1) := by decide +kernel
theorem dX4_beyondContract_1 : decode cX4_beyondContract 1 = .ok (.iload_n 1, 1) := by decide +kernel
theorem dX4_beyondContract_2 : decode cX4_beyondContract 2 = .ok (.invokevirtual 64, 3) := by decide +kernel
theorem dX4_beyondContract_5 : decode cX4_beyondContract 5 = .ok (.aload_n 0, 1) := by decide +kernel
theorem dX4_beyondContract_6 : decode cX4_beyondContract 6 = .ok (.getfield 27, 3) := by decide +kernel
theorem dX4_beyondContract_9 : decode cX4_beyondContract 9 = .ok (.iload_n 1, 1) := by decide +kernel
theorem dX4_beyondContract_10 : decode cX4_beyondContract 10 = .ok (.iaload, 1) := by decide +kernel
theorem dX4_beyondContract_11 : decode cX4_beyondContract 11 = .ok (.isub, 1) := by decide +kernel
theorem dX4_beyondContract_12 : decode cX4_beyondContract 12 = .ok (.ireturn, 1) := by decide +kernel
theorem dX4_servicesWith_0 : decode cX4_servicesWith 0 = .ok (.iconst 0, 1) := by decide +kernel
theorem dX4_servicesWith_1 : decode cX4_servicesWith 1 = .ok (.istore 4, 2) := by decide +kernel
theorem dX4_servicesWith_3 : decode cX4_servicesWith 3 = .ok (.iconst 0, 1) := by decide +kernel
theorem dX4_servicesWith_4 : decode cX4_servicesWith 4 = .ok (.istore 5, 2) := by decide +kernel
theorem dX4_servicesWith_6 : decode cX4_servicesWith 6 = .ok (.iload 5, 2) := by decide +kernel
theorem dX4_servicesWith_8 : decode cX4_servicesWith 8 = .ok (.aload_n 0, 1) := by decide +kernel
theorem dX4_servicesWith_9 : decode cX4_servicesWith 9 = .ok (.getfield 30, 3) := by decide +kernel
theorem dX4_servicesWith_12 : decode cX4_servicesWith 12 = .ok (.if_icmp .ge 47, 3) := by decide +kernel
theorem dX4_servicesWith_15 : decode cX4_servicesWith 15 = .ok (.aload_n 0, 1) := by decide +kernel
theorem dX4_servicesWith_16 : decode cX4_servicesWith 16 = .ok (.iload 5, 2) := by decide +kernel
theorem dX4_servicesWith_18 : decode cX4_servicesWith 18 = .ok (.invokevirtual 67, 3) := by decide +kernel
theorem dX4_servicesWith_21 : decode cX4_servicesWith 21 = .ok (.iload_n 2, 1) := by decide +kernel
theorem dX4_servicesWith_22 : decode cX4_servicesWith 22 = .ok (.if_icmp .ne 31, 3) := by decide +kernel
theorem dX4_servicesWith_25 : decode cX4_servicesWith 25 = .ok (.aload_n 0, 1) := by decide +kernel
theorem dX4_servicesWith_26 : decode cX4_servicesWith 26 = .ok (.getfield 21, 3) := by decide +kernel
theorem dX4_servicesWith_29 : decode cX4_servicesWith 29 = .ok (.iload 5, 2) := by decide +kernel
theorem dX4_servicesWith_31 : decode cX4_servicesWith 31 = .ok (.iaload, 1) := by decide +kernel
theorem dX4_servicesWith_32 : decode cX4_servicesWith 32 = .ok (.iload_n 1, 1) := by decide +kernel
theorem dX4_servicesWith_33 : decode cX4_servicesWith 33 = .ok (.invokestatic 60, 3) := by decide +kernel
theorem dX4_servicesWith_36 : decode cX4_servicesWith 36 = .ok (.ifCond .eq 17, 3) := by decide +kernel
theorem dX4_servicesWith_39 : decode cX4_servicesWith 39 = .ok (.aload_n 0, 1) := by decide +kernel
theorem dX4_servicesWith_40 : decode cX4_servicesWith 40 = .ok (.getfield 9, 3) := by decide +kernel
theorem dX4_servicesWith_43 : decode cX4_servicesWith 43 = .ok (.iload 5, 2) := by decide +kernel
theorem dX4_servicesWith_45 : decode cX4_servicesWith 45 = .ok (.iaload, 1) := by decide +kernel
theorem dX4_servicesWith_46 : decode cX4_servicesWith 46 = .ok (.iload_n 3, 1) := by decide +kernel
theorem dX4_servicesWith_47 : decode cX4_servicesWith 47 = .ok (.if_icmp .ge 6, 3) := by decide +kernel
theorem dX4_servicesWith_50 : decode cX4_servicesWith 50 = .ok (.iinc 4 1, 3) := by decide +kernel
theorem dX4_servicesWith_53 : decode cX4_servicesWith 53 = .ok (.iinc 5 1, 3) := by decide +kernel
theorem dX4_servicesWith_56 : decode cX4_servicesWith 56 = .ok (.goto (-50), 3) := by decide +kernel
theorem dX4_servicesWith_59 : decode cX4_servicesWith 59 = .ok (.iload 4, 2) := by decide +kernel
theorem dX4_servicesWith_61 : decode cX4_servicesWith 61 = .ok (.ireturn, 1) := by decide +kernel
theorem dX4_numberAt_0 : decode cX4_numberAt 0 = .ok (.iconst 0, 1) := by decide +kernel
theorem dX4_numberAt_1 : decode cX4_numberAt 1 = .ok (.istore_n 3, 1) := by decide +kernel
theorem dX4_numberAt_2 : decode cX4_numberAt 2 = .ok (.iload_n 3, 1) := by decide +kernel
theorem dX4_numberAt_3 : decode cX4_numberAt 3 = .ok (.aload_n 0, 1) := by decide +kernel
theorem dX4_numberAt_4 : decode cX4_numberAt 4 = .ok (.getfield 30, 3) := by decide +kernel
theorem dX4_numberAt_7 : decode cX4_numberAt 7 = .ok (.if_icmp .ge 31, 3) := by decide +kernel
theorem dX4_numberAt_10 : decode cX4_numberAt 10 = .ok (.aload_n 0, 1) := by decide +kernel
theorem dX4_numberAt_11 : decode cX4_numberAt 11 = .ok (.getfield 15, 3) := by decide +kernel
theorem dX4_numberAt_14 : decode cX4_numberAt 14 = .ok (.iload_n 3, 1) := by decide +kernel
theorem dX4_numberAt_15 : decode cX4_numberAt 15 = .ok (.iaload, 1) := by decide +kernel
theorem dX4_numberAt_16 : decode cX4_numberAt 16 = .ok (.iload_n 1, 1) := by decide +kernel
theorem dX4_numberAt_17 : decode cX4_numberAt 17 = .ok (.if_icmp .ne 15, 3) := by decide +kernel
theorem dX4_numberAt_20 : decode cX4_numberAt 20 = .ok (.aload_n 0, 1) := by decide +kernel
theorem dX4_numberAt_21 : decode cX4_numberAt 21 = .ok (.getfield 9, 3) := by decide +kernel
theorem dX4_numberAt_24 : decode cX4_numberAt 24 = .ok (.iload_n 3, 1) := by decide +kernel
theorem dX4_numberAt_25 : decode cX4_numberAt 25 = .ok (.iaload, 1) := by decide +kernel
theorem dX4_numberAt_26 : decode cX4_numberAt 26 = .ok (.iload_n 2, 1) := by decide +kernel
theorem dX4_numberAt_27 : decode cX4_numberAt 27 = .ok (.if_icmp .ne 5, 3) := by decide +kernel
theorem dX4_numberAt_30 : decode cX4_numberAt 30 = .ok (.iload_n 3, 1) := by decide +kernel
theorem dX4_numberAt_31 : decode cX4_numberAt 31 = .ok (.ireturn, 1) := by decide +kernel
theorem dX4_numberAt_32 : decode cX4_numberAt 32 = .ok (.iinc 3 1, 3) := by decide +kernel
theorem dX4_numberAt_35 : decode cX4_numberAt 35 = .ok (.goto (-33), 3) := by decide +kernel
theorem dX4_numberAt_38 : decode cX4_numberAt 38 = .ok (.iconst (-1), 1) := by decide +kernel
theorem dX4_numberAt_39 : decode cX4_numberAt 39 = .ok (.ireturn, 1) := by decide +kernel
theorem dX4_isHallTaken_0 : decode cX4_isHallTaken 0 = .ok (.iconst 0, 1) := by decide +kernel
theorem dX4_isHallTaken_1 : decode cX4_isHallTaken 1 = .ok (.istore 4, 2) := by decide +kernel
theorem dX4_isHallTaken_3 : decode cX4_isHallTaken 3 = .ok (.iload 4, 2) := by decide +kernel
theorem dX4_isHallTaken_5 : decode cX4_isHallTaken 5 = .ok (.aload_n 0, 1) := by decide +kernel
theorem dX4_isHallTaken_6 : decode cX4_isHallTaken 6 = .ok (.getfield 30, 3) := by decide +kernel
theorem dX4_isHallTaken_9 : decode cX4_isHallTaken 9 = .ok (.if_icmp .ge 38, 3) := by decide +kernel
theorem dX4_isHallTaken_12 : decode cX4_isHallTaken 12 = .ok (.aload_n 0, 1) := by decide +kernel
theorem dX4_isHallTaken_13 : decode cX4_isHallTaken 13 = .ok (.getfield 15, 3) := by decide +kernel
theorem dX4_isHallTaken_16 : decode cX4_isHallTaken 16 = .ok (.iload 4, 2) := by decide +kernel
theorem dX4_isHallTaken_18 : decode cX4_isHallTaken 18 = .ok (.iaload, 1) := by decide +kernel
theorem dX4_isHallTaken_19 : decode cX4_isHallTaken 19 = .ok (.iload_n 1, 1) := by decide +kernel
theorem dX4_isHallTaken_20 : decode cX4_isHallTaken 20 = .ok (.if_icmp .ne 21, 3) := by decide +kernel
theorem dX4_isHallTaken_23 : decode cX4_isHallTaken 23 = .ok (.aload_n 0, 1) := by decide +kernel
theorem dX4_isHallTaken_24 : decode cX4_isHallTaken 24 = .ok (.getfield 9, 3) := by decide +kernel
theorem dX4_isHallTaken_27 : decode cX4_isHallTaken 27 = .ok (.iload 4, 2) := by decide +kernel
theorem dX4_isHallTaken_29 : decode cX4_isHallTaken 29 = .ok (.iaload, 1) := by decide +kernel
theorem dX4_isHallTaken_30 : decode cX4_isHallTaken 30 = .ok (.iload_n 2, 1) := by decide +kernel
theorem dX4_isHallTaken_31 : decode cX4_isHallTaken 31 = .ok (.isub, 1) := by decide +kernel
theorem dX4_isHallTaken_32 : decode cX4_isHallTaken 32 = .ok (.invokestatic 71, 3) := by decide +kernel
theorem dX4_isHallTaken_35 : decode cX4_isHallTaken 35 = .ok (.iload_n 3, 1) := by decide +kernel
theorem dX4_isHallTaken_36 : decode cX4_isHallTaken 36 = .ok (.if_icmp .gt 5, 3) := by decide +kernel
theorem dX4_isHallTaken_39 : decode cX4_isHallTaken 39 = .ok (.iconst 1, 1) := by decide +kernel
theorem dX4_isHallTaken_40 : decode cX4_isHallTaken 40 = .ok (.ireturn, 1) := by decide +kernel
theorem dX4_isHallTaken_41 : decode cX4_isHallTaken 41 = .ok (.iinc 4 1, 3) := by decide +kernel
theorem dX4_isHallTaken_44 : decode cX4_isHallTaken 44 = .ok (.goto (-41), 3) := by decide +kernel
theorem dX4_isHallTaken_47 : decode cX4_isHallTaken 47 = .ok (.iconst 0, 1) := by decide +kernel
theorem dX4_isHallTaken_48 : decode cX4_isHallTaken 48 = .ok (.ireturn, 1) := by decide +kernel
theorem dX4_sharesPlayers_0 : decode cX4_sharesPlayers 0 = .ok (.iconst 0, 1) := by decide +kernel
theorem dX4_sharesPlayers_1 : decode cX4_sharesPlayers 1 = .ok (.istore_n 2, 1) := by decide +kernel
theorem dX4_sharesPlayers_2 : decode cX4_sharesPlayers 2 = .ok (.iload_n 2, 1) := by decide +kernel
theorem dX4_sharesPlayers_3 : decode cX4_sharesPlayers 3 = .ok (.aload_n 0, 1) := by decide +kernel
theorem dX4_sharesPlayers_4 : decode cX4_sharesPlayers 4 = .ok (.getfield 30, 3) := by decide +kernel
theorem dX4_sharesPlayers_7 : decode cX4_sharesPlayers 7 = .ok (.if_icmp .ge 45, 3) := by decide +kernel
theorem dX4_sharesPlayers_10 : decode cX4_sharesPlayers 10 = .ok (.iload_n 2, 1) := by decide +kernel
theorem dX4_sharesPlayers_11 : decode cX4_sharesPlayers 11 = .ok (.iload_n 1, 1) := by decide +kernel
theorem dX4_sharesPlayers_12 : decode cX4_sharesPlayers 12 = .ok (.if_icmp .eq 34, 3) := by decide +kernel
theorem dX4_sharesPlayers_15 : decode cX4_sharesPlayers 15 = .ok (.aload_n 0, 1) := by decide +kernel
theorem dX4_sharesPlayers_16 : decode cX4_sharesPlayers 16 = .ok (.getfield 9, 3) := by decide +kernel
theorem dX4_sharesPlayers_19 : decode cX4_sharesPlayers 19 = .ok (.iload_n 2, 1) := by decide +kernel
theorem dX4_sharesPlayers_20 : decode cX4_sharesPlayers 20 = .ok (.iaload, 1) := by decide +kernel
theorem dX4_sharesPlayers_21 : decode cX4_sharesPlayers 21 = .ok (.aload_n 0, 1) := by decide +kernel
theorem dX4_sharesPlayers_22 : decode cX4_sharesPlayers 22 = .ok (.getfield 9, 3) := by decide +kernel
theorem dX4_sharesPlayers_25 : decode cX4_sharesPlayers 25 = .ok (.iload_n 1, 1) := by decide +kernel
theorem dX4_sharesPlayers_26 : decode cX4_sharesPlayers 26 = .ok (.iaload, 1) := by decide +kernel
theorem dX4_sharesPlayers_27 : decode cX4_sharesPlayers 27 = .ok (.if_icmp .ne 19, 3) := by decide +kernel
theorem dX4_sharesPlayers_30 : decode cX4_sharesPlayers 30 = .ok (.aload_n 0, 1) := by decide +kernel
theorem dX4_sharesPlayers_31 : decode cX4_sharesPlayers 31 = .ok (.iload_n 2, 1) := by decide +kernel
theorem dX4_sharesPlayers_32 : decode cX4_sharesPlayers 32 = .ok (.invokevirtual 56, 3) := by decide +kernel
theorem dX4_sharesPlayers_35 : decode cX4_sharesPlayers 35 = .ok (.aload_n 0, 1) := by decide +kernel
theorem dX4_sharesPlayers_36 : decode cX4_sharesPlayers 36 = .ok (.iload_n 1, 1) := by decide +kernel
theorem dX4_sharesPlayers_37 : decode cX4_sharesPlayers 37 = .ok (.invokevirtual 56, 3) := by decide +kernel
theorem dX4_sharesPlayers_40 : decode cX4_sharesPlayers 40 = .ok (.iand, 1) := by decide +kernel
theorem dX4_sharesPlayers_41 : decode cX4_sharesPlayers 41 = .ok (.ifCond .eq 5, 3) := by decide +kernel
theorem dX4_sharesPlayers_44 : decode cX4_sharesPlayers 44 = .ok (.iconst 1, 1) := by decide +kernel
theorem dX4_sharesPlayers_45 : decode cX4_sharesPlayers 45 = .ok (.ireturn, 1) := by decide +kernel
theorem dX4_sharesPlayers_46 : decode cX4_sharesPlayers 46 = .ok (.iinc 2 1, 3) := by decide +kernel
theorem dX4_sharesPlayers_49 : decode cX4_sharesPlayers 49 = .ok (.goto (-47), 3) := by decide +kernel
theorem dX4_sharesPlayers_52 : decode cX4_sharesPlayers 52 = .ok (.iconst 0, 1) := by decide +kernel
theorem dX4_sharesPlayers_53 : decode cX4_sharesPlayers 53 = .ok (.ireturn, 1) := by decide +kernel
theorem dX4_hasPlayerTwice_0 : decode cX4_hasPlayerTwice 0 = .ok (.iconst 0, 1) := by decide +kernel
theorem dX4_hasPlayerTwice_1 : decode cX4_hasPlayerTwice 1 = .ok (.istore_n 2, 1) := by decide +kernel
theorem dX4_hasPlayerTwice_2 : decode cX4_hasPlayerTwice 2 = .ok (.iload_n 2, 1) := by decide +kernel
theorem dX4_hasPlayerTwice_3 : decode cX4_hasPlayerTwice 3 = .ok (.iconst 5, 1) := by decide +kernel
theorem dX4_hasPlayerTwice_4 : decode cX4_hasPlayerTwice 4 = .ok (.if_icmp .ge 71, 3) := by decide +kernel
theorem dX4_hasPlayerTwice_7 : decode cX4_hasPlayerTwice 7 = .ok (.iconst 0, 1) := by decide +kernel
theorem dX4_hasPlayerTwice_8 : decode cX4_hasPlayerTwice 8 = .ok (.istore_n 3, 1) := by decide +kernel
theorem dX4_hasPlayerTwice_9 : decode cX4_hasPlayerTwice 9 = .ok (.iconst 0, 1) := by decide +kernel
theorem dX4_hasPlayerTwice_10 : decode cX4_hasPlayerTwice 10 = .ok (.istore 4, 2) := by decide +kernel
theorem dX4_hasPlayerTwice_12 : decode cX4_hasPlayerTwice 12 = .ok (.iload 4, 2) := by decide +kernel
theorem dX4_hasPlayerTwice_14 : decode cX4_hasPlayerTwice 14 = .ok (.bipush 6, 2) := by decide +kernel
theorem dX4_hasPlayerTwice_16 : decode cX4_hasPlayerTwice 16 = .ok (.if_icmp .ge 53, 3) := by decide +kernel
theorem dX4_hasPlayerTwice_19 : decode cX4_hasPlayerTwice 19 = .ok (.aload_n 0, 1) := by decide +kernel
theorem dX4_hasPlayerTwice_20 : decode cX4_hasPlayerTwice 20 = .ok (.iload_n 1, 1) := by decide +kernel
theorem dX4_hasPlayerTwice_21 : decode cX4_hasPlayerTwice 21 = .ok (.iload_n 2, 1) := by decide +kernel
theorem dX4_hasPlayerTwice_22 : decode cX4_hasPlayerTwice 22 = .ok (.iload 4, 2) := by decide +kernel
theorem dX4_hasPlayerTwice_24 : decode cX4_hasPlayerTwice 24 = .ok (.invokevirtual 76, 3) := by decide +kernel
theorem dX4_hasPlayerTwice_27 : decode cX4_hasPlayerTwice 27 = .ok (.istore 5, 2) := by decide +kernel
theorem dX4_hasPlayerTwice_29 : decode cX4_hasPlayerTwice 29 = .ok (.iload 5, 2) := by decide +kernel
theorem dX4_hasPlayerTwice_31 : decode cX4_hasPlayerTwice 31 = .ok (.iconst (-1), 1) := by decide +kernel
theorem dX4_hasPlayerTwice_32 : decode cX4_hasPlayerTwice 32 = .ok (.if_icmp .eq 14, 3) := by decide +kernel
theorem dX4_hasPlayerTwice_35 : decode cX4_hasPlayerTwice 35 = .ok (.iload_n 3, 1) := by decide +kernel
theorem dX4_hasPlayerTwice_36 : decode cX4_hasPlayerTwice 36 = .ok (.iload 5, 2) := by decide +kernel
theorem dX4_hasPlayerTwice_38 : decode cX4_hasPlayerTwice 38 = .ok (.invokestatic 60, 3) := by decide +kernel
theorem dX4_hasPlayerTwice_41 : decode cX4_hasPlayerTwice 41 = .ok (.ifCond .eq 5, 3) := by decide +kernel
theorem dX4_hasPlayerTwice_44 : decode cX4_hasPlayerTwice 44 = .ok (.iconst 1, 1) := by decide +kernel
theorem dX4_hasPlayerTwice_45 : decode cX4_hasPlayerTwice 45 = .ok (.ireturn, 1) := by decide +kernel
theorem dX4_hasPlayerTwice_46 : decode cX4_hasPlayerTwice 46 = .ok (.iload_n 3, 1) := by decide +kernel
theorem dX4_hasPlayerTwice_47 : decode cX4_hasPlayerTwice 47 = .ok (.iload 5, 2) := by decide +kernel
theorem dX4_hasPlayerTwice_49 : decode cX4_hasPlayerTwice 49 = .ok (.iconst (-1), 1) := by decide +kernel
theorem dX4_hasPlayerTwice_50 : decode cX4_hasPlayerTwice 50 = .ok (.if_icmp .ne 7, 3) := by decide +kernel
theorem dX4_hasPlayerTwice_53 : decode cX4_hasPlayerTwice 53 = .ok (.iconst 0, 1) := by decide +kernel
theorem dX4_hasPlayerTwice_54 : decode cX4_hasPlayerTwice 54 = .ok (.goto 7, 3) := by decide +kernel
theorem dX4_hasPlayerTwice_57 : decode cX4_hasPlayerTwice 57 = .ok (.iconst 1, 1) := by decide +kernel
theorem dX4_hasPlayerTwice_58 : decode cX4_hasPlayerTwice 58 = .ok (.iload 5, 2) := by decide +kernel
theorem dX4_hasPlayerTwice_60 : decode cX4_hasPlayerTwice 60 = .ok (.ishl, 1) := by decide +kernel
theorem dX4_hasPlayerTwice_61 : decode cX4_hasPlayerTwice 61 = .ok (.ior, 1) := by decide +kernel
theorem dX4_hasPlayerTwice_62 : decode cX4_hasPlayerTwice 62 = .ok (.istore_n 3, 1) := by decide +kernel
theorem dX4_hasPlayerTwice_63 : decode cX4_hasPlayerTwice 63 = .ok (.iinc 4 1, 3) := by decide +kernel
theorem dX4_hasPlayerTwice_66 : decode cX4_hasPlayerTwice 66 = .ok (.goto (-54), 3) := by decide +kernel
theorem dX4_hasPlayerTwice_69 : decode cX4_hasPlayerTwice 69 = .ok (.iinc 2 1, 3) := by decide +kernel
theorem dX4_hasPlayerTwice_72 : decode cX4_hasPlayerTwice 72 = .ok (.goto (-70), 3) := by decide +kernel
theorem dX4_hasPlayerTwice_75 : decode cX4_hasPlayerTwice 75 = .ok (.iconst 0, 1) := by decide +kernel
theorem dX4_hasPlayerTwice_76 : decode cX4_hasPlayerTwice 76 = .ok (.ireturn, 1) := by decide +kernel
theorem dX5_init_0 : decode cX5_init 0 = .ok (.aload_n 0, 1) := by decide +kernel
theorem dX5_init_1 : decode cX5_init 1 = .ok (.invokespecial 3, 3) := by decide +kernel
theorem dX5_init_4 : decode cX5_init 4 = .ok (.aload_n 0, 1) := by decide +kernel
theorem dX5_init_5 : decode cX5_init 5 = .ok (.aload_n 1, 1) := by decide +kernel
theorem dX5_init_6 : decode cX5_init 6 = .ok (.putfield 9, 3) := by decide +kernel
theorem dX5_init_9 : decode cX5_init 9 = .ok (.aload_n 0, 1) := by decide +kernel
theorem dX5_init_10 : decode cX5_init 10 = .ok (.iload_n 2, 1) := by decide +kernel
theorem dX5_init_11 : decode cX5_init 11 = .ok (.putfield 15, 3) := by decide +kernel
theorem dX5_init_14 : decode cX5_init 14 = .ok (.return_, 1) := by decide +kernel
theorem dX5_advance_0 : decode cX5_advance 0 = .ok (.aload_n 0, 1) := by decide +kernel
theorem dX5_advance_1 : decode cX5_advance 1 = .ok (.getfield 19, 3) := by decide +kernel
theorem dX5_advance_4 : decode cX5_advance 4 = .ok (.aload_n 0, 1) := by decide +kernel
theorem dX5_advance_5 : decode cX5_advance 5 = .ok (.getfield 15, 3) := by decide +kernel
theorem dX5_advance_8 : decode cX5_advance 8 = .ok (.if_icmp .ge 44, 3) := by decide +kernel
theorem dX5_advance_11 : decode cX5_advance 11 = .ok (.aload_n 0, 1) := by decide +kernel
theorem dX5_advance_12 : decode cX5_advance 12 = .ok (.getfield 9, 3) := by decide +kernel
theorem dX5_advance_15 : decode cX5_advance 15 = .ok (.aload_n 0, 1) := by decide +kernel
theorem dX5_advance_16 : decode cX5_advance 16 = .ok (.getfield 19, 3) := by decide +kernel
theorem dX5_advance_19 : decode cX5_advance 19 = .ok (.baload, 1) := by decide +kernel
theorem dX5_advance_20 : decode cX5_advance 20 = .ok (.bipush 32, 2) := by decide +kernel
theorem dX5_advance_22 : decode cX5_advance 22 = .ok (.if_icmp .eq 17, 3) := by decide +kernel
theorem dX5_advance_25 : decode cX5_advance 25 = .ok (.aload_n 0, 1) := by decide +kernel
theorem dX5_advance_26 : decode cX5_advance 26 = .ok (.getfield 9, 3) := by decide +kernel
theorem dX5_advance_29 : decode cX5_advance 29 = .ok (.aload_n 0, 1) := by decide +kernel
theorem dX5_advance_30 : decode cX5_advance 30 = .ok (.getfield 19, 3) := by decide +kernel
theorem dX5_advance_33 : decode cX5_advance 33 = .ok (.baload, 1) := by decide +kernel
theorem dX5_advance_34 : decode cX5_advance 34 = .ok (.bipush 10, 2) := by decide +kernel
theorem dX5_advance_36 : decode cX5_advance 36 = .ok (.if_icmp .ne 16, 3) := by decide +kernel
theorem dX5_advance_39 : decode cX5_advance 39 = .ok (.aload_n 0, 1) := by decide +kernel
theorem dX5_advance_40 : decode cX5_advance 40 = .ok (.dup, 1) := by decide +kernel
theorem dX5_advance_41 : decode cX5_advance 41 = .ok (.getfield 19, 3) := by decide +kernel
theorem dX5_advance_44 : decode cX5_advance 44 = .ok (.iconst 1, 1) := by decide +kernel
theorem dX5_advance_45 : decode cX5_advance 45 = .ok (.iadd, 1) := by decide +kernel
theorem dX5_advance_46 : decode cX5_advance 46 = .ok (.putfield 19, 3) := by decide +kernel
theorem dX5_advance_49 : decode cX5_advance 49 = .ok (.goto (-49), 3) := by decide +kernel
theorem dX5_advance_52 : decode cX5_advance 52 = .ok (.aload_n 0, 1) := by decide +kernel
theorem dX5_advance_53 : decode cX5_advance 53 = .ok (.aload_n 0, 1) := by decide +kernel
theorem dX5_advance_54 : decode cX5_advance 54 = .ok (.getfield 19, 3) := by decide +kernel
theorem dX5_advance_57 : decode cX5_advance 57 = .ok (.putfield 22, 3) := by decide +kernel
theorem dX5_advance_60 : decode cX5_advance 60 = .ok (.aload_n 0, 1) := by decide +kernel
theorem dX5_advance_61 : decode cX5_advance 61 = .ok (.lconst 0, 1) := by decide +kernel
theorem dX5_advance_62 : decode cX5_advance 62 = .ok (.putfield 25, 3) := by decide +kernel
theorem dX5_advance_65 : decode cX5_advance 65 = .ok (.aload_n 0, 1) := by decide +kernel
theorem dX5_advance_66 : decode cX5_advance 66 = .ok (.iconst 0, 1) := by decide +kernel
theorem dX5_advance_67 : decode cX5_advance 67 = .ok (.putfield 29, 3) := by decide +kernel
theorem dX5_advance_70 : decode cX5_advance 70 = .ok (.aload_n 0, 1) := by decide +kernel
theorem dX5_advance_71 : decode cX5_advance 71 = .ok (.getfield 19, 3) := by decide +kernel
theorem dX5_advance_74 : decode cX5_advance 74 = .ok (.aload_n 0, 1) := by decide +kernel
theorem dX5_advance_75 : decode cX5_advance 75 = .ok (.getfield 15, 3) := by decide +kernel
theorem dX5_advance_78 : decode cX5_advance 78 = .ok (.if_icmp .lt 11, 3) := by decide +kernel
theorem dX5_advance_81 : decode cX5_advance 81 = .ok (.aload_n 0, 1) := by decide +kernel
theorem dX5_advance_82 : decode cX5_advance 82 = .ok (.iconst 0, 1) := by decide +kernel
theorem dX5_advance_83 : decode cX5_advance 83 = .ok (.putfield 32, 3) := by decide +kernel
theorem dX5_advance_86 : decode cX5_advance 86 = .ok (.goto 239, 3) := by decide +kernel
theorem dX5_advance_89 : decode cX5_advance 89 = .ok (.aload_n 0, 1) := by decide +kernel
theorem dX5_advance_90 : decode cX5_advance 90 = .ok (.getfield 9, 3) := by decide +kernel
theorem dX5_advance_93 : decode cX5_advance 93 = .ok (.aload_n 0, 1) := by decide +kernel
theorem dX5_advance_94 : decode cX5_advance 94 = .ok (.getfield 19, 3) := by decide +kernel
theorem dX5_advance_97 : decode cX5_advance 97 = .ok (.baload, 1) := by decide +kernel
theorem dX5_advance_98 : decode cX5_advance 98 = .ok (.invokestatic 35, 3) := by decide +kernel
theorem dX5_advance_101 : decode cX5_advance 101 = .ok (.ifCond .eq 88, 3) := by decide +kernel
theorem dX5_advance_104 : decode cX5_advance 104 = .ok (.aload_n 0, 1) := by decide +kernel
theorem dX5_advance_105 : decode cX5_advance 105 = .ok (.getfield 19, 3) := by decide +kernel
theorem dX5_advance_108 : decode cX5_advance 108 = .ok (.aload_n 0, 1) := by decide +kernel
theorem dX5_advance_109 : decode cX5_advance 109 = .ok (.getfield 15, 3) := by decide +kernel
theorem dX5_advance_112 : decode cX5_advance 112 = .ok (.if_icmp .ge 51, 3) := by decide +kernel
theorem dX5_advance_115 : decode cX5_advance 115 = .ok (.aload_n 0, 1) := by decide +kernel
theorem dX5_advance_116 : decode cX5_advance 116 = .ok (.getfield 9, 3) := by decide +kernel
theorem dX5_advance_119 : decode cX5_advance 119 = .ok (.aload_n 0, 1) := by decide +kernel
theorem dX5_advance_120 : decode cX5_advance 120 = .ok (.getfield 19, 3) := by decide +kernel
theorem dX5_advance_123 : decode cX5_advance 123 = .ok (.baload, 1) := by decide +kernel
theorem dX5_advance_124 : decode cX5_advance 124 = .ok (.invokestatic 35, 3) := by decide +kernel
theorem dX5_advance_127 : decode cX5_advance 127 = .ok (.ifCond .eq 36, 3) := by decide +kernel
theorem dX5_advance_130 : decode cX5_advance 130 = .ok (.aload_n 0, 1) := by decide +kernel
theorem dX5_advance_131 : decode cX5_advance 131 = .ok (.aload_n 0, 1) := by decide +kernel
theorem dX5_advance_132 : decode cX5_advance 132 = .ok (.getfield 25, 3) := by decide +kernel
theorem dX5_advance_135 : decode cX5_advance 135 = .ok (.aload_n 0, 1) := by decide +kernel
theorem dX5_advance_136 : decode cX5_advance 136 = .ok (.getfield 9, 3) := by decide +kernel
theorem dX5_advance_139 : decode cX5_advance 139 = .ok (.aload_n 0, 1) := by decide +kernel
theorem dX5_advance_140 : decode cX5_advance 140 = .ok (.getfield 19, 3) := by decide +kernel
theorem dX5_advance_143 : decode cX5_advance 143 = .ok (.baload, 1) := by decide +kernel
theorem dX5_advance_144 : decode cX5_advance 144 = .ok (.invokestatic 39, 3) := by decide +kernel
theorem dX5_advance_147 : decode cX5_advance 147 = .ok (.putfield 25, 3) := by decide +kernel
theorem dX5_advance_150 : decode cX5_advance 150 = .ok (.aload_n 0, 1) := by decide +kernel
theorem dX5_advance_151 : decode cX5_advance 151 = .ok (.dup, 1) := by decide +kernel
theorem dX5_advance_152 : decode cX5_advance 152 = .ok (.getfield 19, 3) := by decide +kernel
theorem dX5_advance_155 : decode cX5_advance 155 = .ok (.iconst 1, 1) := by decide +kernel
theorem dX5_advance_156 : decode cX5_advance 156 = .ok (.iadd, 1) := by decide +kernel
theorem dX5_advance_157 : decode cX5_advance 157 = .ok (.putfield 19, 3) := by decide +kernel
theorem dX5_advance_160 : decode cX5_advance 160 = .ok (.goto (-56), 3) := by decide +kernel
theorem dX5_advance_163 : decode cX5_advance 163 = .ok (.aload_n 0, 1) := by decide +kernel
theorem dX5_advance_164 : decode cX5_advance 164 = .ok (.aload_n 0, 1) := by decide +kernel
theorem dX5_advance_165 : decode cX5_advance 165 = .ok (.getfield 19, 3) := by decide +kernel
theorem dX5_advance_168 : decode cX5_advance 168 = .ok (.aload_n 0, 1) := by decide +kernel
theorem dX5_advance_169 : decode cX5_advance 169 = .ok (.getfield 22, 3) := by decide +kernel
theorem dX5_advance_172 : decode cX5_advance 172 = .ok (.isub, 1) := by decide +kernel
theorem dX5_advance_173 : decode cX5_advance 173 = .ok (.bipush 8, 2) := by decide +kernel
theorem dX5_advance_175 : decode cX5_advance 175 = .ok (.if_icmp .gt 7, 3) := by decide +kernel
theorem dX5_advance_178 : decode cX5_advance 178 = .ok (.iconst 1, 1) := by decide +kernel
theorem dX5_advance_179 : decode cX5_advance 179 = .ok (.goto 4, 3) := by decide +kernel
theorem dX5_advance_182 : decode cX5_advance 182 = .ok (.iconst 4, 1) := by decide +kernel
theorem dX5_advance_183 : decode cX5_advance 183 = .ok (.putfield 32, 3) := by decide +kernel
theorem dX5_advance_186 : decode cX5_advance 186 = .ok (.goto 139, 3) := by decide +kernel
theorem dX5_advance_189 : decode cX5_advance 189 = .ok (.aload_n 0, 1) := by decide +kernel
theorem dX5_advance_190 : decode cX5_advance 190 = .ok (.getfield 9, 3) := by decide +kernel
theorem dX5_advance_193 : decode cX5_advance 193 = .ok (.aload_n 0, 1) := by decide +kernel
theorem dX5_advance_194 : decode cX5_advance 194 = .ok (.getfield 19, 3) := by decide +kernel
theorem dX5_advance_197 : decode cX5_advance 197 = .ok (.baload, 1) := by decide +kernel
theorem dX5_advance_198 : decode cX5_advance 198 = .ok (.invokestatic 43, 3) := by decide +kernel
theorem dX5_advance_201 : decode cX5_advance 201 = .ok (.ifCond .eq 91, 3) := by decide +kernel
theorem dX5_advance_204 : decode cX5_advance 204 = .ok (.aload_n 0, 1) := by decide +kernel
theorem dX5_advance_205 : decode cX5_advance 205 = .ok (.getfield 19, 3) := by decide +kernel
theorem dX5_advance_208 : decode cX5_advance 208 = .ok (.aload_n 0, 1) := by decide +kernel
theorem dX5_advance_209 : decode cX5_advance 209 = .ok (.getfield 15, 3) := by decide +kernel
theorem dX5_advance_212 : decode cX5_advance 212 = .ok (.if_icmp .ge 55, 3) := by decide +kernel
theorem dX5_advance_215 : decode cX5_advance 215 = .ok (.aload_n 0, 1) := by decide +kernel
theorem dX5_advance_216 : decode cX5_advance 216 = .ok (.getfield 9, 3) := by decide +kernel
theorem dX5_advance_219 : decode cX5_advance 219 = .ok (.aload_n 0, 1) := by decide +kernel
theorem dX5_advance_220 : decode cX5_advance 220 = .ok (.getfield 19, 3) := by decide +kernel
theorem dX5_advance_223 : decode cX5_advance 223 = .ok (.baload, 1) := by decide +kernel
theorem dX5_advance_224 : decode cX5_advance 224 = .ok (.invokestatic 43, 3) := by decide +kernel
theorem dX5_advance_227 : decode cX5_advance 227 = .ok (.ifCond .eq 40, 3) := by decide +kernel
theorem dX5_advance_230 : decode cX5_advance 230 = .ok (.aload_n 0, 1) := by decide +kernel
theorem dX5_advance_231 : decode cX5_advance 231 = .ok (.aload_n 0, 1) := by decide +kernel
theorem dX5_advance_232 : decode cX5_advance 232 = .ok (.getfield 29, 3) := by decide +kernel
theorem dX5_advance_235 : decode cX5_advance 235 = .ok (.bipush 10, 2) := by decide +kernel
theorem dX5_advance_237 : decode cX5_advance 237 = .ok (.imul, 1) := by decide +kernel
theorem dX5_advance_238 : decode cX5_advance 238 = .ok (.aload_n 0, 1) := by decide +kernel
theorem dX5_advance_239 : decode cX5_advance 239 = .ok (.getfield 9, 3) := by decide +kernel
theorem dX5_advance_242 : decode cX5_advance 242 = .ok (.aload_n 0, 1) := by decide +kernel
theorem dX5_advance_243 : decode cX5_advance 243 = .ok (.getfield 19, 3) := by decide +kernel
theorem dX5_advance_246 : decode cX5_advance 246 = .ok (.baload, 1) := by decide +kernel
theorem dX5_advance_247 : decode cX5_advance 247 = .ok (.bipush 48, 2) := by decide +kernel
theorem dX5_advance_249 : decode cX5_advance 249 = .ok (.isub, 1) := by decide +kernel
theorem dX5_advance_250 : decode cX5_advance 250 = .ok (.iadd, 1) := by decide +kernel
theorem dX5_advance_251 : decode cX5_advance 251 = .ok (.putfield 29, 3) := by decide +kernel
theorem dX5_advance_254 : decode cX5_advance 254 = .ok (.aload_n 0, 1) := by decide +kernel
theorem dX5_advance_255 : decode cX5_advance 255 = .ok (.dup, 1) := by decide +kernel
theorem dX5_advance_256 : decode cX5_advance 256 = .ok (.getfield 19, 3) := by decide +kernel
theorem dX5_advance_259 : decode cX5_advance 259 = .ok (.iconst 1, 1) := by decide +kernel
theorem dX5_advance_260 : decode cX5_advance 260 = .ok (.iadd, 1) := by decide +kernel
theorem dX5_advance_261 : decode cX5_advance 261 = .ok (.putfield 19, 3) := by decide +kernel
theorem dX5_advance_264 : decode cX5_advance 264 = .ok (.goto (-60), 3) := by decide +kernel
theorem dX5_advance_267 : decode cX5_advance 267 = .ok (.aload_n 0, 1) := by decide +kernel
theorem dX5_advance_268 : decode cX5_advance 268 = .ok (.aload_n 0, 1) := by decide +kernel
theorem dX5_advance_269 : decode cX5_advance 269 = .ok (.getfield 19, 3) := by decide +kernel
theorem dX5_advance_272 : decode cX5_advance 272 = .ok (.aload_n 0, 1) := by decide +kernel
theorem dX5_advance_273 : decode cX5_advance 273 = .ok (.getfield 22, 3) := by decide +kernel
theorem dX5_advance_276 : decode cX5_advance 276 = .ok (.isub, 1) := by decide +kernel
theorem dX5_advance_277 : decode cX5_advance 277 = .ok (.iconst 3, 1) := by decide +kernel
theorem dX5_advance_278 : decode cX5_advance 278 = .ok (.if_icmp .gt 7, 3) := by decide +kernel
theorem dX5_advance_281 : decode cX5_advance 281 = .ok (.iconst 2, 1) := by decide +kernel
theorem dX5_advance_282 : decode cX5_advance 282 = .ok (.goto 4, 3) := by decide +kernel
theorem dX5_advance_285 : decode cX5_advance 285 = .ok (.iconst 4, 1) := by decide +kernel
theorem dX5_advance_286 : decode cX5_advance 286 = .ok (.putfield 32, 3) := by decide +kernel
theorem dX5_advance_289 : decode cX5_advance 289 = .ok (.goto 36, 3) := by decide +kernel
theorem dX5_advance_292 : decode cX5_advance 292 = .ok (.aload_n 0, 1) := by decide +kernel
theorem dX5_advance_293 : decode cX5_advance 293 = .ok (.aload_n 0, 1) := by decide +kernel
theorem dX5_advance_294 : decode cX5_advance 294 = .ok (.getfield 9, 3) := by decide +kernel
theorem dX5_advance_297 : decode cX5_advance 297 = .ok (.aload_n 0, 1) := by decide +kernel
theorem dX5_advance_298 : decode cX5_advance 298 = .ok (.getfield 19, 3) := by decide +kernel
theorem dX5_advance_301 : decode cX5_advance 301 = .ok (.baload, 1) := by decide +kernel
theorem dX5_advance_302 : decode cX5_advance 302 = .ok (.bipush 59, 2) := by decide +kernel
theorem dX5_advance_304 : decode cX5_advance 304 = .ok (.if_icmp .ne 7, 3) := by decide +kernel
theorem dX5_advance_307 : decode cX5_advance 307 = .ok (.iconst 3, 1) := by decide +kernel
theorem dX5_advance_308 : decode cX5_advance 308 = .ok (.goto 4, 3) := by decide +kernel
theorem dX5_advance_311 : decode cX5_advance 311 = .ok (.iconst 4, 1) := by decide +kernel
theorem dX5_advance_312 : decode cX5_advance 312 = .ok (.putfield 32, 3) := by decide +kernel
theorem dX5_advance_315 : decode cX5_advance 315 = .ok (.aload_n 0, 1) := by decide +kernel
theorem dX5_advance_316 : decode cX5_advance 316 = .ok (.dup, 1) := by decide +kernel
theorem dX5_advance_317 : decode cX5_advance 317 = .ok (.getfield 19, 3) := by decide +kernel
theorem dX5_advance_320 : decode cX5_advance 320 = .ok (.iconst 1, 1) := by decide +kernel
theorem dX5_advance_321 : decode cX5_advance 321 = .ok (.iadd, 1) := by decide +kernel
theorem dX5_advance_322 : decode cX5_advance 322 = .ok (.putfield 19, 3) := by decide +kernel
theorem dX5_advance_325 : decode cX5_advance 325 = .ok (.return_, 1) := by decide +kernel
theorem dX6_init_0 : decode cX6_init 0 = .ok (.aload_n 0, 1) := by decide +kernel
theorem dX6_init_1 : decode cX6_init 1 = .ok (.invokespecial 3, 3) := by decide +kernel
theorem dX6_init_4 : decode cX6_init 4 = .ok (.aload_n 0, 1) := by decide +kernel
theorem dX6_init_5 : decode cX6_init 5 = .ok (.iconst 1, 1) := by decide +kernel
theorem dX6_init_6 : decode cX6_init 6 = .ok (.putfield 9, 3) := by decide +kernel
theorem dX6_init_9 : decode cX6_init 9 = .ok (.aload_n 0, 1) := by decide +kernel
theorem dX6_init_10 : decode cX6_init 10 = .ok (.new 15, 3) := by decide +kernel
theorem dX6_init_13 : decode cX6_init 13 = .ok (.dup, 1) := by decide +kernel
theorem dX6_init_14 : decode cX6_init 14 = .ok (.iconst 3, 1) := by decide +kernel
theorem dX6_init_15 : decode cX6_init 15 = .ok (.invokespecial 17, 3) := by decide +kernel
theorem dX6_init_18 : decode cX6_init 18 = .ok (.putfield 20, 3) := by decide +kernel
theorem dX6_init_21 : decode cX6_init 21 = .ok (.aload_n 0, 1) := by decide +kernel
theorem dX6_init_22 : decode cX6_init 22 = .ok (.iconst 3, 1) := by decide +kernel
theorem dX6_init_23 : decode cX6_init 23 = .ok (.newarray .int, 2) := by decide +kernel
theorem dX6_init_25 : decode cX6_init 25 = .ok (.putfield 24, 3) := by decide +kernel
theorem dX6_init_28 : decode cX6_init 28 = .ok (.aload_n 0, 1) := by decide +kernel
theorem dX6_init_29 : decode cX6_init 29 = .ok (.new 15, 3) := by decide +kernel
theorem dX6_init_32 : decode cX6_init 32 = .ok (.dup, 1) := by decide +kernel
theorem dX6_init_33 : decode cX6_init 33 = .ok (.bipush 8, 2) := by decide +kernel
theorem dX6_init_35 : decode cX6_init 35 = .ok (.invokespecial 17, 3) := by decide +kernel
theorem dX6_init_38 : decode cX6_init 38 = .ok (.putfield 28, 3) := by decide +kernel
theorem dX6_init_41 : decode cX6_init 41 = .ok (.aload_n 0, 1) := by decide +kernel
theorem dX6_init_42 : decode cX6_init 42 = .ok (.bipush 8, 2) := by decide +kernel
theorem dX6_init_44 : decode cX6_init 44 = .ok (.newarray .int, 2) := by decide +kernel
theorem dX6_init_46 : decode cX6_init 46 = .ok (.putfield 31, 3) := by decide +kernel
theorem dX6_init_49 : decode cX6_init 49 = .ok (.aload_n 0, 1) := by decide +kernel
theorem dX6_init_50 : decode cX6_init 50 = .ok (.bipush 8, 2) := by decide +kernel
theorem dX6_init_52 : decode cX6_init 52 = .ok (.newarray .int, 2) := by decide +kernel
theorem dX6_init_54 : decode cX6_init 54 = .ok (.putfield 34, 3) := by decide +kernel
theorem dX6_init_57 : decode cX6_init 57 = .ok (.aload_n 0, 1) := by decide +kernel
theorem dX6_init_58 : decode cX6_init 58 = .ok (.bipush 8, 2) := by decide +kernel
theorem dX6_init_60 : decode cX6_init 60 = .ok (.newarray .int, 2) := by decide +kernel
theorem dX6_init_62 : decode cX6_init 62 = .ok (.putfield 37, 3) := by decide +kernel
theorem dX6_init_65 : decode cX6_init 65 = .ok (.aload_n 0, 1) := by decide +kernel
theorem dX6_init_66 : decode cX6_init 66 = .ok (.bipush 8, 2) := by decide +kernel
theorem dX6_init_68 : decode cX6_init 68 = .ok (.newarray .int, 2) := by decide +kernel
theorem dX6_init_70 : decode cX6_init 70 = .ok (.putfield 40, 3) := by decide +kernel
theorem dX6_init_73 : decode cX6_init 73 = .ok (.aload_n 0, 1) := by decide +kernel
theorem dX6_init_74 : decode cX6_init 74 = .ok (.bipush 8, 2) := by decide +kernel
theorem dX6_init_76 : decode cX6_init 76 = .ok (.newarray .int, 2) := by decide +kernel
theorem dX6_init_78 : decode cX6_init 78 = .ok (.putfield 43, 3) := by decide +kernel
theorem dX6_init_81 : decode cX6_init 81 = .ok (.aload_n 0, 1) := by decide +kernel
theorem dX6_init_82 : decode cX6_init 82 = .ok (.new 15, 3) := by decide +kernel
theorem dX6_init_85 : decode cX6_init 85 = .ok (.dup, 1) := by decide +kernel
theorem dX6_init_86 : decode cX6_init 86 = .ok (.bipush 8, 2) := by decide +kernel
theorem dX6_init_88 : decode cX6_init 88 = .ok (.invokespecial 17, 3) := by decide +kernel
theorem dX6_init_91 : decode cX6_init 91 = .ok (.putfield 46, 3) := by decide +kernel
theorem dX6_init_94 : decode cX6_init 94 = .ok (.aload_n 0, 1) := by decide +kernel
theorem dX6_init_95 : decode cX6_init 95 = .ok (.new 15, 3) := by decide +kernel
theorem dX6_init_98 : decode cX6_init 98 = .ok (.dup, 1) := by decide +kernel
theorem dX6_init_99 : decode cX6_init 99 = .ok (.iconst 5, 1) := by decide +kernel
theorem dX6_init_100 : decode cX6_init 100 = .ok (.invokespecial 17, 3) := by decide +kernel
theorem dX6_init_103 : decode cX6_init 103 = .ok (.putfield 49, 3) := by decide +kernel
theorem dX6_init_106 : decode cX6_init 106 = .ok (.aload_n 0, 1) := by decide +kernel
theorem dX6_init_107 : decode cX6_init 107 = .ok (.iconst 5, 1) := by decide +kernel
theorem dX6_init_108 : decode cX6_init 108 = .ok (.newarray .int, 2) := by decide +kernel
theorem dX6_init_110 : decode cX6_init 110 = .ok (.putfield 52, 3) := by decide +kernel
theorem dX6_init_113 : decode cX6_init 113 = .ok (.aload_n 0, 1) := by decide +kernel
theorem dX6_init_114 : decode cX6_init 114 = .ok (.iconst 5, 1) := by decide +kernel
theorem dX6_init_115 : decode cX6_init 115 = .ok (.newarray .int, 2) := by decide +kernel
theorem dX6_init_117 : decode cX6_init 117 = .ok (.putfield 55, 3) := by decide +kernel
theorem dX6_init_120 : decode cX6_init 120 = .ok (.aload_n 0, 1) := by decide +kernel
theorem dX6_init_121 : decode cX6_init 121 = .ok (.iconst 5, 1) := by decide +kernel
theorem dX6_init_122 : decode cX6_init 122 = .ok (.newarray .int, 2) := by decide +kernel
theorem dX6_init_124 : decode cX6_init 124 = .ok (.putfield 58, 3) := by decide +kernel
theorem dX6_init_127 : decode cX6_init 127 = .ok (.aload_n 0, 1) := by decide +kernel
theorem dX6_init_128 : decode cX6_init 128 = .ok (.iconst 5, 1) := by decide +kernel
theorem dX6_init_129 : decode cX6_init 129 = .ok (.newarray .int, 2) := by decide +kernel
theorem dX6_init_131 : decode cX6_init 131 = .ok (.putfield 61, 3) := by decide +kernel
theorem dX6_init_134 : decode cX6_init 134 = .ok (.aload_n 0, 1) := by decide +kernel
theorem dX6_init_135 : decode cX6_init 135 = .ok (.iconst 5, 1) := by decide +kernel
theorem dX6_init_136 : decode cX6_init 136 = .ok (.newarray .int, 2) := by decide +kernel
theorem dX6_init_138 : decode cX6_init 138 = .ok (.putfield 64, 3) := by decide +kernel
theorem dX6_init_141 : decode cX6_init 141 = .ok (.aload_n 0, 1) := by decide +kernel
theorem dX6_init_142 : decode cX6_init 142 = .ok (.bipush 30, 2) := by decide +kernel
theorem dX6_init_144 : decode cX6_init 144 = .ok (.newarray .int, 2) := by decide +kernel
theorem dX6_init_146 : decode cX6_init 146 = .ok (.putfield 67, 3) := by decide +kernel
theorem dX6_init_149 : decode cX6_init 149 = .ok (.return_, 1) := by decide +kernel
theorem dX6_clear_0 : decode cX6_clear 0 = .ok (.aload_n 0, 1) := by decide +kernel
theorem dX6_clear_1 : decode cX6_clear 1 = .ok (.iconst 0, 1) := by decide +kernel
theorem dX6_clear_2 : decode cX6_clear 2 = .ok (.putfield 70, 3) := by decide +kernel
theorem dX6_clear_5 : decode cX6_clear 5 = .ok (.aload_n 0, 1) := by decide +kernel
theorem dX6_clear_6 : decode cX6_clear 6 = .ok (.iconst 0, 1) := by decide +kernel
theorem dX6_clear_7 : decode cX6_clear 7 = .ok (.putfield 73, 3) := by decide +kernel
theorem dX6_clear_10 : decode cX6_clear 10 = .ok (.aload_n 0, 1) := by decide +kernel
theorem dX6_clear_11 : decode cX6_clear 11 = .ok (.getfield 20, 3) := by decide +kernel
theorem dX6_clear_14 : decode cX6_clear 14 = .ok (.iconst 0, 1) := by decide +kernel
theorem dX6_clear_15 : decode cX6_clear 15 = .ok (.putfield 77, 3) := by decide +kernel
theorem dX6_clear_18 : decode cX6_clear 18 = .ok (.aload_n 0, 1) := by decide +kernel
theorem dX6_clear_19 : decode cX6_clear 19 = .ok (.getfield 28, 3) := by decide +kernel
theorem dX6_clear_22 : decode cX6_clear 22 = .ok (.iconst 0, 1) := by decide +kernel
theorem dX6_clear_23 : decode cX6_clear 23 = .ok (.putfield 77, 3) := by decide +kernel
theorem dX6_clear_26 : decode cX6_clear 26 = .ok (.aload_n 0, 1) := by decide +kernel
theorem dX6_clear_27 : decode cX6_clear 27 = .ok (.getfield 46, 3) := by decide +kernel
theorem dX6_clear_30 : decode cX6_clear 30 = .ok (.iconst 0, 1) := by decide +kernel
theorem dX6_clear_31 : decode cX6_clear 31 = .ok (.putfield 77, 3) := by decide +kernel
theorem dX6_clear_34 : decode cX6_clear 34 = .ok (.aload_n 0, 1) := by decide +kernel
theorem dX6_clear_35 : decode cX6_clear 35 = .ok (.getfield 49, 3) := by decide +kernel
theorem dX6_clear_38 : decode cX6_clear 38 = .ok (.iconst 0, 1) := by decide +kernel
theorem dX6_clear_39 : decode cX6_clear 39 = .ok (.putfield 77, 3) := by decide +kernel
theorem dX6_clear_42 : decode cX6_clear 42 = .ok (.iconst 0, 1) := by decide +kernel
theorem dX6_clear_43 : decode cX6_clear 43 = .ok (.istore_n 1, 1) := by decide +kernel
theorem dX6_clear_44 : decode cX6_clear 44 = .ok (.iload_n 1, 1) := by decide +kernel
theorem dX6_clear_45 : decode cX6_clear 45 = .ok (.bipush 8, 2) := by decide +kernel
theorem dX6_clear_47 : decode cX6_clear 47 = .ok (.if_icmp .ge 23, 3) := by decide +kernel
theorem dX6_clear_50 : decode cX6_clear 50 = .ok (.aload_n 0, 1) := by decide +kernel
theorem dX6_clear_51 : decode cX6_clear 51 = .ok (.getfield 40, 3) := by decide +kernel
theorem dX6_clear_54 : decode cX6_clear 54 = .ok (.iload_n 1, 1) := by decide +kernel
theorem dX6_clear_55 : decode cX6_clear 55 = .ok (.iconst 0, 1) := by decide +kernel
theorem dX6_clear_56 : decode cX6_clear 56 = .ok (.iastore, 1) := by decide +kernel
theorem dX6_clear_57 : decode cX6_clear 57 = .ok (.aload_n 0, 1) := by decide +kernel
theorem dX6_clear_58 : decode cX6_clear 58 = .ok (.getfield 43, 3) := by decide +kernel
theorem dX6_clear_61 : decode cX6_clear 61 = .ok (.iload_n 1, 1) := by decide +kernel
theorem dX6_clear_62 : decode cX6_clear 62 = .ok (.iconst 0, 1) := by decide +kernel
theorem dX6_clear_63 : decode cX6_clear 63 = .ok (.iastore, 1) := by decide +kernel
theorem dX6_clear_64 : decode cX6_clear 64 = .ok (.iinc 1 1, 3) := by decide +kernel
theorem dX6_clear_67 : decode cX6_clear 67 = .ok (.goto (-23), 3) := by decide +kernel
theorem dX6_clear_70 : decode cX6_clear 70 = .ok (.iconst 0, 1) := by decide +kernel
theorem dX6_clear_71 : decode cX6_clear 71 = .ok (.istore_n 1, 1) := by decide +kernel
theorem dX6_clear_72 : decode cX6_clear 72 = .ok (.iload_n 1, 1) := by decide +kernel
theorem dX6_clear_73 : decode cX6_clear 73 = .ok (.iconst 5, 1) := by decide +kernel
theorem dX6_clear_74 : decode cX6_clear 74 = .ok (.if_icmp .ge 16, 3) := by decide +kernel
theorem dX6_clear_77 : decode cX6_clear 77 = .ok (.aload_n 0, 1) := by decide +kernel
theorem dX6_clear_78 : decode cX6_clear 78 = .ok (.getfield 64, 3) := by decide +kernel
theorem dX6_clear_81 : decode cX6_clear 81 = .ok (.iload_n 1, 1) := by decide +kernel
theorem dX6_clear_82 : decode cX6_clear 82 = .ok (.iconst 0, 1) := by decide +kernel
theorem dX6_clear_83 : decode cX6_clear 83 = .ok (.iastore, 1) := by decide +kernel
theorem dX6_clear_84 : decode cX6_clear 84 = .ok (.iinc 1 1, 3) := by decide +kernel
theorem dX6_clear_87 : decode cX6_clear 87 = .ok (.goto (-15), 3) := by decide +kernel
theorem dX6_clear_90 : decode cX6_clear 90 = .ok (.return_, 1) := by decide +kernel
theorem dX6_slotCount_0 : decode cX6_slotCount 0 = .ok (.aload_n 0, 1) := by decide +kernel
theorem dX6_slotCount_1 : decode cX6_slotCount 1 = .ok (.getfield 9, 3) := by decide +kernel
theorem dX6_slotCount_4 : decode cX6_slotCount 4 = .ok (.iconst 3, 1) := by decide +kernel
theorem dX6_slotCount_5 : decode cX6_slotCount 5 = .ok (.imul, 1) := by decide +kernel
theorem dX6_slotCount_6 : decode cX6_slotCount 6 = .ok (.ireturn, 1) := by decide +kernel
theorem dX6_instrumentOfSeat_0 : decode cX6_instrumentOfSeat 0 = .ok (.aload_n 0, 1) := by decide +kernel
theorem dX6_instrumentOfSeat_1 : decode cX6_instrumentOfSeat 1 = .ok (.getfield 67, 3) := by decide +kernel
theorem dX6_instrumentOfSeat_4 : decode cX6_instrumentOfSeat 4 = .ok (.iload_n 1, 1) := by decide +kernel
theorem dX6_instrumentOfSeat_5 : decode cX6_instrumentOfSeat 5 = .ok (.bipush 6, 2) := by decide +kernel
theorem dX6_instrumentOfSeat_7 : decode cX6_instrumentOfSeat 7 = .ok (.imul, 1) := by decide +kernel
theorem dX6_instrumentOfSeat_8 : decode cX6_instrumentOfSeat 8 = .ok (.iload_n 2, 1) := by decide +kernel
theorem dX6_instrumentOfSeat_9 : decode cX6_instrumentOfSeat 9 = .ok (.iadd, 1) := by decide +kernel
theorem dX6_instrumentOfSeat_10 : decode cX6_instrumentOfSeat 10 = .ok (.iaload, 1) := by decide +kernel
theorem dX6_instrumentOfSeat_11 : decode cX6_instrumentOfSeat 11 = .ok (.ireturn, 1) := by decide +kernel
theorem dX6_addSeat_0 : decode cX6_addSeat 0 = .ok (.aload_n 0, 1) := by decide +kernel
theorem dX6_addSeat_1 : decode cX6_addSeat 1 = .ok (.getfield 67, 3) := by decide +kernel
theorem dX6_addSeat_4 : decode cX6_addSeat 4 = .ok (.iload_n 1, 1) := by decide +kernel
theorem dX6_addSeat_5 : decode cX6_addSeat 5 = .ok (.bipush 6, 2) := by decide +kernel
theorem dX6_addSeat_7 : decode cX6_addSeat 7 = .ok (.imul, 1) := by decide +kernel
theorem dX6_addSeat_8 : decode cX6_addSeat 8 = .ok (.aload_n 0, 1) := by decide +kernel
theorem dX6_addSeat_9 : decode cX6_addSeat 9 = .ok (.getfield 64, 3) := by decide +kernel
theorem dX6_addSeat_12 : decode cX6_addSeat 12 = .ok (.iload_n 1, 1) := by decide +kernel
theorem dX6_addSeat_13 : decode cX6_addSeat 13 = .ok (.iaload, 1) := by decide +kernel
theorem dX6_addSeat_14 : decode cX6_addSeat 14 = .ok (.iadd, 1) := by decide +kernel
theorem dX6_addSeat_15 : decode cX6_addSeat 15 = .ok (.iload_n 2, 1) := by decide +kernel
theorem dX6_addSeat_16 : decode cX6_addSeat 16 = .ok (.iastore, 1) := by decide +kernel
theorem dX6_addSeat_17 : decode cX6_addSeat 17 = .ok (.aload_n 0, 1) := by decide +kernel
theorem dX6_addSeat_18 : decode cX6_addSeat 18 = .ok (.getfield 64, 3) := by decide +kernel
theorem dX6_addSeat_21 : decode cX6_addSeat 21 = .ok (.iload_n 1, 1) := by decide +kernel
theorem dX6_addSeat_22 : decode cX6_addSeat 22 = .ok (.dup2, 1) := by decide +kernel
theorem dX6_addSeat_23 : decode cX6_addSeat 23 = .ok (.iaload, 1) := by decide +kernel
theorem dX6_addSeat_24 : decode cX6_addSeat 24 = .ok (.iconst 1, 1) := by decide +kernel
theorem dX6_addSeat_25 : decode cX6_addSeat 25 = .ok (.iadd, 1) := by decide +kernel
theorem dX6_addSeat_26 : decode cX6_addSeat 26 = .ok (.iastore, 1) := by decide +kernel
theorem dX6_addSeat_27 : decode cX6_addSeat 27 = .ok (.return_, 1) := by decide +kernel
theorem dX6_doublingOn_0 : decode cX6_doublingOn 0 = .ok (.aload_n 0, 1) := by decide +kernel
theorem dX6_doublingOn_1 : decode cX6_doublingOn 1 = .ok (.getfield 37, 3) := by decide +kernel
theorem dX6_doublingOn_4 : decode cX6_doublingOn 4 = .ok (.iload_n 1, 1) := by decide +kernel
theorem dX6_doublingOn_5 : decode cX6_doublingOn 5 = .ok (.iaload, 1) := by decide +kernel
theorem dX6_doublingOn_6 : decode cX6_doublingOn 6 = .ok (.iload_n 2, 1) := by decide +kernel
theorem dX6_doublingOn_7 : decode cX6_doublingOn 7 = .ok (.if_icmp .ne 7, 3) := by decide +kernel
theorem dX6_doublingOn_10 : decode cX6_doublingOn 10 = .ok (.iconst 0, 1) := by decide +kernel
theorem dX6_doublingOn_11 : decode cX6_doublingOn 11 = .ok (.goto 4, 3) := by decide +kernel
theorem dX6_doublingOn_14 : decode cX6_doublingOn 14 = .ok (.iconst 1, 1) := by decide +kernel
theorem dX6_doublingOn_15 : decode cX6_doublingOn 15 = .ok (.ireturn, 1) := by decide +kernel
theorem dX6_playersPresent_0 : decode cX6_playersPresent 0 = .ok (.iconst 0, 1) := by decide +kernel
theorem dX6_playersPresent_1 : decode cX6_playersPresent 1 = .ok (.istore_n 2, 1) := by decide +kernel
theorem dX6_playersPresent_2 : decode cX6_playersPresent 2 = .ok (.iconst 0, 1) := by decide +kernel
theorem dX6_playersPresent_3 : decode cX6_playersPresent 3 = .ok (.istore_n 3, 1) := by decide +kernel
theorem dX6_playersPresent_4 : decode cX6_playersPresent 4 = .ok (.iload_n 3, 1) := by decide +kernel
theorem dX6_playersPresent_5 : decode cX6_playersPresent 5 = .ok (.aload_n 0, 1) := by decide +kernel
theorem dX6_playersPresent_6 : decode cX6_playersPresent 6 = .ok (.getfield 28, 3) := by decide +kernel
theorem dX6_playersPresent_9 : decode cX6_playersPresent 9 = .ok (.getfield 77, 3) := by decide +kernel
theorem dX6_playersPresent_12 : decode cX6_playersPresent 12 = .ok (.if_icmp .ge 28, 3) := by decide +kernel
theorem dX6_playersPresent_15 : decode cX6_playersPresent 15 = .ok (.aload_n 0, 1) := by decide +kernel
theorem dX6_playersPresent_16 : decode cX6_playersPresent 16 = .ok (.getfield 43, 3) := by decide +kernel
theorem dX6_playersPresent_19 : decode cX6_playersPresent 19 = .ok (.iload_n 3, 1) := by decide +kernel
theorem dX6_playersPresent_20 : decode cX6_playersPresent 20 = .ok (.iaload, 1) := by decide +kernel
theorem dX6_playersPresent_21 : decode cX6_playersPresent 21 = .ok (.iload_n 1, 1) := by decide +kernel
theorem dX6_playersPresent_22 : decode cX6_playersPresent 22 = .ok (.invokestatic 80, 3) := by decide +kernel
theorem dX6_playersPresent_25 : decode cX6_playersPresent 25 = .ok (.ifCond .ne 9, 3) := by decide +kernel
theorem dX6_playersPresent_28 : decode cX6_playersPresent 28 = .ok (.iload_n 2, 1) := by decide +kernel
theorem dX6_playersPresent_29 : decode cX6_playersPresent 29 = .ok (.iconst 1, 1) := by decide +kernel
theorem dX6_playersPresent_30 : decode cX6_playersPresent 30 = .ok (.iload_n 3, 1) := by decide +kernel
theorem dX6_playersPresent_31 : decode cX6_playersPresent 31 = .ok (.ishl, 1) := by decide +kernel
theorem dX6_playersPresent_32 : decode cX6_playersPresent 32 = .ok (.ior, 1) := by decide +kernel
theorem dX6_playersPresent_33 : decode cX6_playersPresent 33 = .ok (.istore_n 2, 1) := by decide +kernel
theorem dX6_playersPresent_34 : decode cX6_playersPresent 34 = .ok (.iinc 3 1, 3) := by decide +kernel
theorem dX6_playersPresent_37 : decode cX6_playersPresent 37 = .ok (.goto (-33), 3) := by decide +kernel
theorem dX6_playersPresent_40 : decode cX6_playersPresent 40 = .ok (.iload_n 2, 1) := by decide +kernel
theorem dX6_playersPresent_41 : decode cX6_playersPresent 41 = .ok (.ireturn, 1) := by decide +kernel
theorem dX6_areRentedOn_0 : decode cX6_areRentedOn 0 = .ok (.iconst 0, 1) := by decide +kernel
theorem dX6_areRentedOn_1 : decode cX6_areRentedOn 1 = .ok (.istore_n 3, 1) := by decide +kernel
theorem dX6_areRentedOn_2 : decode cX6_areRentedOn 2 = .ok (.iload_n 3, 1) := by decide +kernel
theorem dX6_areRentedOn_3 : decode cX6_areRentedOn 3 = .ok (.aload_n 0, 1) := by decide +kernel
theorem dX6_areRentedOn_4 : decode cX6_areRentedOn 4 = .ok (.getfield 49, 3) := by decide +kernel
theorem dX6_areRentedOn_7 : decode cX6_areRentedOn 7 = .ok (.getfield 77, 3) := by decide +kernel
theorem dX6_areRentedOn_10 : decode cX6_areRentedOn 10 = .ok (.if_icmp .ge 39, 3) := by decide +kernel
theorem dX6_areRentedOn_13 : decode cX6_areRentedOn 13 = .ok (.iload_n 1, 1) := by decide +kernel
theorem dX6_areRentedOn_14 : decode cX6_areRentedOn 14 = .ok (.iload_n 3, 1) := by decide +kernel
theorem dX6_areRentedOn_15 : decode cX6_areRentedOn 15 = .ok (.invokestatic 80, 3) := by decide +kernel
theorem dX6_areRentedOn_18 : decode cX6_areRentedOn 18 = .ok (.ifCond .eq 25, 3) := by decide +kernel
theorem dX6_areRentedOn_21 : decode cX6_areRentedOn 21 = .ok (.iload_n 2, 1) := by decide +kernel
theorem dX6_areRentedOn_22 : decode cX6_areRentedOn 22 = .ok (.aload_n 0, 1) := by decide +kernel
theorem dX6_areRentedOn_23 : decode cX6_areRentedOn 23 = .ok (.getfield 55, 3) := by decide +kernel
theorem dX6_areRentedOn_26 : decode cX6_areRentedOn 26 = .ok (.iload_n 3, 1) := by decide +kernel
theorem dX6_areRentedOn_27 : decode cX6_areRentedOn 27 = .ok (.iaload, 1) := by decide +kernel
theorem dX6_areRentedOn_28 : decode cX6_areRentedOn 28 = .ok (.if_icmp .lt 13, 3) := by decide +kernel
theorem dX6_areRentedOn_31 : decode cX6_areRentedOn 31 = .ok (.iload_n 2, 1) := by decide +kernel
theorem dX6_areRentedOn_32 : decode cX6_areRentedOn 32 = .ok (.aload_n 0, 1) := by decide +kernel
theorem dX6_areRentedOn_33 : decode cX6_areRentedOn 33 = .ok (.getfield 58, 3) := by decide +kernel
theorem dX6_areRentedOn_36 : decode cX6_areRentedOn 36 = .ok (.iload_n 3, 1) := by decide +kernel
theorem dX6_areRentedOn_37 : decode cX6_areRentedOn 37 = .ok (.iaload, 1) := by decide +kernel
theorem dX6_areRentedOn_38 : decode cX6_areRentedOn 38 = .ok (.if_icmp .le 5, 3) := by decide +kernel
theorem dX6_areRentedOn_41 : decode cX6_areRentedOn 41 = .ok (.iconst 0, 1) := by decide +kernel
theorem dX6_areRentedOn_42 : decode cX6_areRentedOn 42 = .ok (.ireturn, 1) := by decide +kernel
theorem dX6_areRentedOn_43 : decode cX6_areRentedOn 43 = .ok (.iinc 3 1, 3) := by decide +kernel
theorem dX6_areRentedOn_46 : decode cX6_areRentedOn 46 = .ok (.goto (-44), 3) := by decide +kernel
theorem dX6_areRentedOn_49 : decode cX6_areRentedOn 49 = .ok (.iconst 1, 1) := by decide +kernel
theorem dX6_areRentedOn_50 : decode cX6_areRentedOn 50 = .ok (.ireturn, 1) := by decide +kernel
theorem dJ5_init_d00df_0 : decode cJ5_init_d00df 0 = .ok (.aload_n 0, 1) := by decide +kernel
theorem dJ5_init_d00df_1 : decode cJ5_init_d00df 1 = .ok (.invokespecial 3, 3) := by decide +kernel
theorem dJ5_init_d00df_4 : decode cJ5_init_d00df 4 = .ok (.getstatic 18, 3) := by decide +kernel
theorem dJ5_init_d00df_7 : decode cJ5_init_d00df 7 = .ok (.ifCond .eq 18, 3) := by decide +kernel
theorem dJ5_init_d00df_10 : decode cJ5_init_d00df 10 = .ok (.aload_n 0, 1) := by decide +kernel
theorem dJ5_init_d00df_11 : decode cJ5_init_d00df 11 = .ok (.iload_n 1, 1) := by decide +kernel
theorem dJ5_init_d00df_12 : decode cJ5_init_d00df 12 = .ok (.newarray .byte, 2) := by decide +kernel
theorem dJ5_init_d00df_14 : decode cJ5_init_d00df 14 = .ok (.putfield 15, 3) := by decide +kernel
theorem dJ5_init_d00df_17 : decode cJ5_init_d00df 17 = .ok (.aload_n 0, 1) := by decide +kernel
theorem dJ5_init_d00df_18 : decode cJ5_init_d00df 18 = .ok (.iconst 0, 1) := by decide +kernel
theorem dJ5_init_d00df_19 : decode cJ5_init_d00df 19 = .ok (.putfield 22, 3) := by decide +kernel
theorem dJ5_init_d00df_22 : decode cJ5_init_d00df 22 = .ok (.goto 16, 3) := by decide +kernel
theorem dJ5_init_d00df_25 : decode cJ5_init_d00df 25 = .ok (.aload_n 0, 1) := by decide +kernel
theorem dJ5_init_d00df_26 : decode cJ5_init_d00df 26 = .ok (.iload_n 1, 1) := by decide +kernel
theorem dJ5_init_d00df_27 : decode cJ5_init_d00df 27 = .ok (.invokestatic 26, 3) := by decide +kernel
theorem dJ5_init_d00df_30 : decode cJ5_init_d00df 30 = .ok (.putfield 15, 3) := by decide +kernel
theorem dJ5_init_d00df_33 : decode cJ5_init_d00df 33 = .ok (.aload_n 0, 1) := by decide +kernel
theorem dJ5_init_d00df_34 : decode cJ5_init_d00df 34 = .ok (.iconst 1, 1) := by decide +kernel
theorem dJ5_init_d00df_35 : decode cJ5_init_d00df 35 = .ok (.putfield 22, 3) := by decide +kernel
theorem dJ5_init_d00df_38 : decode cJ5_init_d00df 38 = .ok (.return_, 1) := by decide +kernel
theorem dJ5_length_8abf5_0 : decode cJ5_length_8abf5 0 = .ok (.aload_n 0, 1) := by decide +kernel
theorem dJ5_length_8abf5_1 : decode cJ5_length_8abf5 1 = .ok (.getfield 79, 3) := by decide +kernel
theorem dJ5_length_8abf5_4 : decode cJ5_length_8abf5 4 = .ok (.ireturn, 1) := by decide +kernel
theorem dJ5_ensureCapacityInternal_d00df_0 : decode cJ5_ensureCapacityInternal_d00df 0 = .ok (.aload_n 0, 1) := by decide +kernel
theorem dJ5_ensureCapacityInternal_d00df_1 : decode cJ5_ensureCapacityInternal_d00df 1 = .ok (.getfield 15, 3) := by decide +kernel
theorem dJ5_ensureCapacityInternal_d00df_4 : decode cJ5_ensureCapacityInternal_d00df 4 = .ok (.arraylength, 1) := by decide +kernel
theorem dJ5_ensureCapacityInternal_d00df_5 : decode cJ5_ensureCapacityInternal_d00df 5 = .ok (.aload_n 0, 1) := by decide +kernel
theorem dJ5_ensureCapacityInternal_d00df_6 : decode cJ5_ensureCapacityInternal_d00df 6 = .ok (.getfield 22, 3) := by decide +kernel
theorem dJ5_ensureCapacityInternal_d00df_9 : decode cJ5_ensureCapacityInternal_d00df 9 = .ok (.ishr, 1) := by decide +kernel
theorem dJ5_ensureCapacityInternal_d00df_10 : decode cJ5_ensureCapacityInternal_d00df 10 = .ok (.istore_n 2, 1) := by decide +kernel
theorem dJ5_ensureCapacityInternal_d00df_11 : decode cJ5_ensureCapacityInternal_d00df 11 = .ok (.iload_n 1, 1) := by decide +kernel
theorem dJ5_ensureCapacityInternal_d00df_12 : decode cJ5_ensureCapacityInternal_d00df 12 = .ok (.iload_n 2, 1) := by decide +kernel
theorem dJ5_ensureCapacityInternal_d00df_13 : decode cJ5_ensureCapacityInternal_d00df 13 = .ok (.isub, 1) := by decide +kernel
theorem dJ5_ensureCapacityInternal_d00df_14 : decode cJ5_ensureCapacityInternal_d00df 14 = .ok (.ifCond .le 24, 3) := by decide +kernel
theorem dJ5_ensureCapacityInternal_d00df_17 : decode cJ5_ensureCapacityInternal_d00df 17 = .ok (.aload_n 0, 1) := by decide +kernel
theorem dJ5_ensureCapacityInternal_d00df_18 : decode cJ5_ensureCapacityInternal_d00df 18 = .ok (.aload_n 0, 1) := by decide +kernel
theorem dJ5_ensureCapacityInternal_d00df_19 : decode cJ5_ensureCapacityInternal_d00df 19 = .ok (.getfield 15, 3) := by decide +kernel
theorem dJ5_ensureCapacityInternal_d00df_22 : decode cJ5_ensureCapacityInternal_d00df 22 = .ok (.aload_n 0, 1) := by decide +kernel
theorem dJ5_ensureCapacityInternal_d00df_23 : decode cJ5_ensureCapacityInternal_d00df 23 = .ok (.iload_n 1, 1) := by decide +kernel
theorem dJ5_ensureCapacityInternal_d00df_24 : decode cJ5_ensureCapacityInternal_d00df 24 = .ok (.invokevirtual 104, 3) := by decide +kernel
theorem dJ5_ensureCapacityInternal_d00df_27 : decode cJ5_ensureCapacityInternal_d00df 27 = .ok (.aload_n 0, 1) := by decide +kernel
theorem dJ5_ensureCapacityInternal_d00df_28 : decode cJ5_ensureCapacityInternal_d00df 28 = .ok (.getfield 22, 3) := by decide +kernel
theorem dJ5_ensureCapacityInternal_d00df_31 : decode cJ5_ensureCapacityInternal_d00df 31 = .ok (.ishl, 1) := by decide +kernel
theorem dJ5_ensureCapacityInternal_d00df_32 : decode cJ5_ensureCapacityInternal_d00df 32 = .ok (.invokestatic 108, 3) := by decide +kernel
theorem dJ5_ensureCapacityInternal_d00df_35 : decode cJ5_ensureCapacityInternal_d00df 35 = .ok (.putfield 15, 3) := by decide +kernel
theorem dJ5_ensureCapacityInternal_d00df_38 : decode cJ5_ensureCapacityInternal_d00df 38 = .ok (.return_, 1) := by decide +kernel
theorem dJ5_newCapacity_0f7a4_0 : decode cJ5_newCapacity_0f7a4 0 = .ok (.aload_n 0, 1) := by decide +kernel
theorem dJ5_newCapacity_0f7a4_1 : decode cJ5_newCapacity_0f7a4 1 = .ok (.getfield 15, 3) := by decide +kernel
theorem dJ5_newCapacity_0f7a4_4 : decode cJ5_newCapacity_0f7a4 4 = .ok (.arraylength, 1) := by decide +kernel
theorem dJ5_newCapacity_0f7a4_5 : decode cJ5_newCapacity_0f7a4 5 = .ok (.istore_n 2, 1) := by decide +kernel
theorem dJ5_newCapacity_0f7a4_6 : decode cJ5_newCapacity_0f7a4 6 = .ok (.iload_n 1, 1) := by decide +kernel
theorem dJ5_newCapacity_0f7a4_7 : decode cJ5_newCapacity_0f7a4 7 = .ok (.aload_n 0, 1) := by decide +kernel
theorem dJ5_newCapacity_0f7a4_8 : decode cJ5_newCapacity_0f7a4 8 = .ok (.getfield 22, 3) := by decide +kernel
theorem dJ5_newCapacity_0f7a4_11 : decode cJ5_newCapacity_0f7a4 11 = .ok (.ishl, 1) := by decide +kernel
theorem dJ5_newCapacity_0f7a4_12 : decode cJ5_newCapacity_0f7a4 12 = .ok (.istore_n 3, 1) := by decide +kernel
theorem dJ5_newCapacity_0f7a4_13 : decode cJ5_newCapacity_0f7a4 13 = .ok (.iload_n 3, 1) := by decide +kernel
theorem dJ5_newCapacity_0f7a4_14 : decode cJ5_newCapacity_0f7a4 14 = .ok (.iload_n 2, 1) := by decide +kernel
theorem dJ5_newCapacity_0f7a4_15 : decode cJ5_newCapacity_0f7a4 15 = .ok (.isub, 1) := by decide +kernel
theorem dJ5_newCapacity_0f7a4_16 : decode cJ5_newCapacity_0f7a4 16 = .ok (.istore 4, 2) := by decide +kernel
theorem dJ5_newCapacity_0f7a4_18 : decode cJ5_newCapacity_0f7a4 18 = .ok (.iload_n 2, 1) := by decide +kernel
theorem dJ5_newCapacity_0f7a4_19 : decode cJ5_newCapacity_0f7a4 19 = .ok (.iload 4, 2) := by decide +kernel
theorem dJ5_newCapacity_0f7a4_21 : decode cJ5_newCapacity_0f7a4 21 = .ok (.iload_n 2, 1) := by decide +kernel
theorem dJ5_newCapacity_0f7a4_22 : decode cJ5_newCapacity_0f7a4 22 = .ok (.iconst 2, 1) := by decide +kernel
theorem dJ5_newCapacity_0f7a4_23 : decode cJ5_newCapacity_0f7a4 23 = .ok (.aload_n 0, 1) := by decide +kernel
theorem dJ5_newCapacity_0f7a4_24 : decode cJ5_newCapacity_0f7a4 24 = .ok (.getfield 22, 3) := by decide +kernel
theorem dJ5_newCapacity_0f7a4_27 : decode cJ5_newCapacity_0f7a4 27 = .ok (.ishl, 1) := by decide +kernel
theorem dJ5_newCapacity_0f7a4_28 : decode cJ5_newCapacity_0f7a4 28 = .ok (.iadd, 1) := by decide +kernel
theorem dJ5_newCapacity_0f7a4_29 : decode cJ5_newCapacity_0f7a4 29 = .ok (.invokestatic 114, 3) := by decide +kernel
theorem dJ5_newCapacity_0f7a4_32 : decode cJ5_newCapacity_0f7a4 32 = .ok (.istore 5, 2) := by decide +kernel
theorem dJ5_newCapacity_0f7a4_34 : decode cJ5_newCapacity_0f7a4 34 = .ok (.iload 5, 2) := by decide +kernel
theorem dJ5_newCapacity_0f7a4_36 : decode cJ5_newCapacity_0f7a4 36 = .ok (.ldc 39, 2) := by decide +kernel
theorem dJ5_newCapacity_0f7a4_38 : decode cJ5_newCapacity_0f7a4 38 = .ok (.if_icmp .ne 13, 3) := by decide +kernel
theorem dJ5_newCapacity_0f7a4_41 : decode cJ5_newCapacity_0f7a4 41 = .ok (.new 120, 3) := by decide +kernel
theorem dJ5_newCapacity_0f7a4_44 : decode cJ5_newCapacity_0f7a4 44 = .ok (.dup, 1) := by decide +kernel
theorem dJ5_newCapacity_0f7a4_45 : decode cJ5_newCapacity_0f7a4 45 = .ok (.ldc 122, 2) := by decide +kernel
theorem dJ5_newCapacity_0f7a4_47 : decode cJ5_newCapacity_0f7a4 47 = .ok (.invokespecial 124, 3) := by decide +kernel
theorem dJ5_newCapacity_0f7a4_50 : decode cJ5_newCapacity_0f7a4 50 = .ok (.athrow, 1) := by decide +kernel
theorem dJ5_newCapacity_0f7a4_51 : decode cJ5_newCapacity_0f7a4 51 = .ok (.iload 5, 2) := by decide +kernel
theorem dJ5_newCapacity_0f7a4_53 : decode cJ5_newCapacity_0f7a4 53 = .ok (.aload_n 0, 1) := by decide +kernel
theorem dJ5_newCapacity_0f7a4_54 : decode cJ5_newCapacity_0f7a4 54 = .ok (.getfield 22, 3) := by decide +kernel
theorem dJ5_newCapacity_0f7a4_57 : decode cJ5_newCapacity_0f7a4 57 = .ok (.ishr, 1) := by decide +kernel
theorem dJ5_newCapacity_0f7a4_58 : decode cJ5_newCapacity_0f7a4 58 = .ok (.ireturn, 1) := by decide +kernel
theorem dJ5_inflate_da8c8_0 : decode cJ5_inflate_da8c8 0 = .ok (.aload_n 0, 1) := by decide +kernel
theorem dJ5_inflate_da8c8_1 : decode cJ5_inflate_da8c8 1 = .ok (.invokevirtual 83, 3) := by decide +kernel
theorem dJ5_inflate_da8c8_4 : decode cJ5_inflate_da8c8 4 = .ok (.ifCond .ne 4, 3) := by decide +kernel
theorem dJ5_inflate_da8c8_7 : decode cJ5_inflate_da8c8 7 = .ok (.return_, 1) := by decide +kernel
theorem dJ5_inflate_da8c8_8 : decode cJ5_inflate_da8c8 8 = .ok (.aload_n 0, 1) := by decide +kernel
theorem dJ5_inflate_da8c8_9 : decode cJ5_inflate_da8c8 9 = .ok (.getfield 15, 3) := by decide +kernel
theorem dJ5_inflate_da8c8_12 : decode cJ5_inflate_da8c8 12 = .ok (.arraylength, 1) := by decide +kernel
theorem dJ5_inflate_da8c8_13 : decode cJ5_inflate_da8c8 13 = .ok (.invokestatic 26, 3) := by decide +kernel
theorem dJ5_inflate_da8c8_16 : decode cJ5_inflate_da8c8 16 = .ok (.astore_n 1, 1) := by decide +kernel
theorem dJ5_inflate_da8c8_17 : decode cJ5_inflate_da8c8 17 = .ok (.aload_n 0, 1) := by decide +kernel
theorem dJ5_inflate_da8c8_18 : decode cJ5_inflate_da8c8 18 = .ok (.getfield 15, 3) := by decide +kernel
theorem dJ5_inflate_da8c8_21 : decode cJ5_inflate_da8c8 21 = .ok (.iconst 0, 1) := by decide +kernel
theorem dJ5_inflate_da8c8_22 : decode cJ5_inflate_da8c8 22 = .ok (.aload_n 1, 1) := by decide +kernel
theorem dJ5_inflate_da8c8_23 : decode cJ5_inflate_da8c8 23 = .ok (.iconst 0, 1) := by decide +kernel
theorem dJ5_inflate_da8c8_24 : decode cJ5_inflate_da8c8 24 = .ok (.aload_n 0, 1) := by decide +kernel
theorem dJ5_inflate_da8c8_25 : decode cJ5_inflate_da8c8 25 = .ok (.getfield 79, 3) := by decide +kernel
theorem dJ5_inflate_da8c8_28 : decode cJ5_inflate_da8c8 28 = .ok (.invokestatic 125, 3) := by decide +kernel
theorem dJ5_inflate_da8c8_31 : decode cJ5_inflate_da8c8 31 = .ok (.aload_n 0, 1) := by decide +kernel
theorem dJ5_inflate_da8c8_32 : decode cJ5_inflate_da8c8 32 = .ok (.aload_n 1, 1) := by decide +kernel
theorem dJ5_inflate_da8c8_33 : decode cJ5_inflate_da8c8 33 = .ok (.putfield 15, 3) := by decide +kernel
theorem dJ5_inflate_da8c8_36 : decode cJ5_inflate_da8c8 36 = .ok (.aload_n 0, 1) := by decide +kernel
theorem dJ5_inflate_da8c8_37 : decode cJ5_inflate_da8c8 37 = .ok (.iconst 1, 1) := by decide +kernel
theorem dJ5_inflate_da8c8_38 : decode cJ5_inflate_da8c8 38 = .ok (.putfield 22, 3) := by decide +kernel
theorem dJ5_inflate_da8c8_41 : decode cJ5_inflate_da8c8 41 = .ok (.return_, 1) := by decide +kernel
theorem dJ5_append_cf1ce_0 : decode cJ5_append_cf1ce 0 = .ok (.aload_n 1, 1) := by decide +kernel
theorem dJ5_append_cf1ce_1 : decode cJ5_append_cf1ce 1 = .ok (.ifnonnull 8, 3) := by decide +kernel
theorem dJ5_append_cf1ce_4 : decode cJ5_append_cf1ce 4 = .ok (.aload_n 0, 1) := by decide +kernel
theorem dJ5_append_cf1ce_5 : decode cJ5_append_cf1ce 5 = .ok (.invokevirtual 204, 3) := by decide +kernel
theorem dJ5_append_cf1ce_8 : decode cJ5_append_cf1ce 8 = .ok (.areturn, 1) := by decide +kernel
theorem dJ5_append_cf1ce_9 : decode cJ5_append_cf1ce 9 = .ok (.aload_n 1, 1) := by decide +kernel
theorem dJ5_append_cf1ce_10 : decode cJ5_append_cf1ce 10 = .ok (.invokevirtual 32, 3) := by decide +kernel
theorem dJ5_append_cf1ce_13 : decode cJ5_append_cf1ce 13 = .ok (.istore_n 2, 1) := by decide +kernel
theorem dJ5_append_cf1ce_14 : decode cJ5_append_cf1ce 14 = .ok (.aload_n 0, 1) := by decide +kernel
theorem dJ5_append_cf1ce_15 : decode cJ5_append_cf1ce 15 = .ok (.aload_n 0, 1) := by decide +kernel
theorem dJ5_append_cf1ce_16 : decode cJ5_append_cf1ce 16 = .ok (.getfield 79, 3) := by decide +kernel
theorem dJ5_append_cf1ce_19 : decode cJ5_append_cf1ce 19 = .ok (.iload_n 2, 1) := by decide +kernel
theorem dJ5_append_cf1ce_20 : decode cJ5_append_cf1ce 20 = .ok (.iadd, 1) := by decide +kernel
theorem dJ5_append_cf1ce_21 : decode cJ5_append_cf1ce 21 = .ok (.invokevirtual 100, 3) := by decide +kernel
theorem dJ5_append_cf1ce_24 : decode cJ5_append_cf1ce 24 = .ok (.aload_n 0, 1) := by decide +kernel
theorem dJ5_append_cf1ce_25 : decode cJ5_append_cf1ce 25 = .ok (.aload_n 0, 1) := by decide +kernel
theorem dJ5_append_cf1ce_26 : decode cJ5_append_cf1ce 26 = .ok (.getfield 79, 3) := by decide +kernel
theorem dJ5_append_cf1ce_29 : decode cJ5_append_cf1ce 29 = .ok (.aload_n 1, 1) := by decide +kernel
theorem dJ5_append_cf1ce_30 : decode cJ5_append_cf1ce 30 = .ok (.invokevirtual 208, 3) := by decide +kernel
theorem dJ5_append_cf1ce_33 : decode cJ5_append_cf1ce 33 = .ok (.aload_n 0, 1) := by decide +kernel
theorem dJ5_append_cf1ce_34 : decode cJ5_append_cf1ce 34 = .ok (.dup, 1) := by decide +kernel
theorem dJ5_append_cf1ce_35 : decode cJ5_append_cf1ce 35 = .ok (.getfield 79, 3) := by decide +kernel
theorem dJ5_append_cf1ce_38 : decode cJ5_append_cf1ce 38 = .ok (.iload_n 2, 1) := by decide +kernel
theorem dJ5_append_cf1ce_39 : decode cJ5_append_cf1ce 39 = .ok (.iadd, 1) := by decide +kernel
theorem dJ5_append_cf1ce_40 : decode cJ5_append_cf1ce 40 = .ok (.putfield 79, 3) := by decide +kernel
theorem dJ5_append_cf1ce_43 : decode cJ5_append_cf1ce 43 = .ok (.aload_n 0, 1) := by decide +kernel
theorem dJ5_append_cf1ce_44 : decode cJ5_append_cf1ce 44 = .ok (.areturn, 1) := by decide +kernel
theorem dJ5_appendNull_278bc_0 : decode cJ5_appendNull_278bc 0 = .ok (.aload_n 0, 1) := by decide +kernel
theorem dJ5_appendNull_278bc_1 : decode cJ5_appendNull_278bc 1 = .ok (.aload_n 0, 1) := by decide +kernel
theorem dJ5_appendNull_278bc_2 : decode cJ5_appendNull_278bc 2 = .ok (.getfield 79, 3) := by decide +kernel
theorem dJ5_appendNull_278bc_5 : decode cJ5_appendNull_278bc 5 = .ok (.iconst 4, 1) := by decide +kernel
theorem dJ5_appendNull_278bc_6 : decode cJ5_appendNull_278bc 6 = .ok (.iadd, 1) := by decide +kernel
theorem dJ5_appendNull_278bc_7 : decode cJ5_appendNull_278bc 7 = .ok (.invokevirtual 100, 3) := by decide +kernel
theorem dJ5_appendNull_278bc_10 : decode cJ5_appendNull_278bc 10 = .ok (.aload_n 0, 1) := by decide +kernel
theorem dJ5_appendNull_278bc_11 : decode cJ5_appendNull_278bc 11 = .ok (.getfield 79, 3) := by decide +kernel
theorem dJ5_appendNull_278bc_14 : decode cJ5_appendNull_278bc 14 = .ok (.istore_n 1, 1) := by decide +kernel
theorem dJ5_appendNull_278bc_15 : decode cJ5_appendNull_278bc 15 = .ok (.aload_n 0, 1) := by decide +kernel
theorem dJ5_appendNull_278bc_16 : decode cJ5_appendNull_278bc 16 = .ok (.getfield 15, 3) := by decide +kernel
theorem dJ5_appendNull_278bc_19 : decode cJ5_appendNull_278bc 19 = .ok (.astore_n 2, 1) := by decide +kernel
theorem dJ5_appendNull_278bc_20 : decode cJ5_appendNull_278bc 20 = .ok (.aload_n 0, 1) := by decide +kernel
theorem dJ5_appendNull_278bc_21 : decode cJ5_appendNull_278bc 21 = .ok (.invokevirtual 83, 3) := by decide +kernel
theorem dJ5_appendNull_278bc_24 : decode cJ5_appendNull_278bc 24 = .ok (.ifCond .eq 38, 3) := by decide +kernel
theorem dJ5_appendNull_278bc_27 : decode cJ5_appendNull_278bc 27 = .ok (.aload_n 2, 1) := by decide +kernel
theorem dJ5_appendNull_278bc_28 : decode cJ5_appendNull_278bc 28 = .ok (.iload_n 1, 1) := by decide +kernel
theorem dJ5_appendNull_278bc_29 : decode cJ5_appendNull_278bc 29 = .ok (.iinc 1 1, 3) := by decide +kernel
theorem dJ5_appendNull_278bc_32 : decode cJ5_appendNull_278bc 32 = .ok (.bipush 110, 2) := by decide +kernel
theorem dJ5_appendNull_278bc_34 : decode cJ5_appendNull_278bc 34 = .ok (.bastore, 1) := by decide +kernel
theorem dJ5_appendNull_278bc_35 : decode cJ5_appendNull_278bc 35 = .ok (.aload_n 2, 1) := by decide +kernel
theorem dJ5_appendNull_278bc_36 : decode cJ5_appendNull_278bc 36 = .ok (.iload_n 1, 1) := by decide +kernel
theorem dJ5_appendNull_278bc_37 : decode cJ5_appendNull_278bc 37 = .ok (.iinc 1 1, 3) := by decide +kernel
theorem dJ5_appendNull_278bc_40 : decode cJ5_appendNull_278bc 40 = .ok (.bipush 117, 2) := by decide +kernel
theorem dJ5_appendNull_278bc_42 : decode cJ5_appendNull_278bc 42 = .ok (.bastore, 1) := by decide +kernel
theorem dJ5_appendNull_278bc_43 : decode cJ5_appendNull_278bc 43 = .ok (.aload_n 2, 1) := by decide +kernel
theorem dJ5_appendNull_278bc_44 : decode cJ5_appendNull_278bc 44 = .ok (.iload_n 1, 1) := by decide +kernel
theorem dJ5_appendNull_278bc_45 : decode cJ5_appendNull_278bc 45 = .ok (.iinc 1 1, 3) := by decide +kernel
theorem dJ5_appendNull_278bc_48 : decode cJ5_appendNull_278bc 48 = .ok (.bipush 108, 2) := by decide +kernel
theorem dJ5_appendNull_278bc_50 : decode cJ5_appendNull_278bc 50 = .ok (.bastore, 1) := by decide +kernel
theorem dJ5_appendNull_278bc_51 : decode cJ5_appendNull_278bc 51 = .ok (.aload_n 2, 1) := by decide +kernel
theorem dJ5_appendNull_278bc_52 : decode cJ5_appendNull_278bc 52 = .ok (.iload_n 1, 1) := by decide +kernel
theorem dJ5_appendNull_278bc_53 : decode cJ5_appendNull_278bc 53 = .ok (.iinc 1 1, 3) := by decide +kernel
theorem dJ5_appendNull_278bc_56 : decode cJ5_appendNull_278bc 56 = .ok (.bipush 108, 2) := by decide +kernel
theorem dJ5_appendNull_278bc_58 : decode cJ5_appendNull_278bc 58 = .ok (.bastore, 1) := by decide +kernel
theorem dJ5_appendNull_278bc_59 : decode cJ5_appendNull_278bc 59 = .ok (.goto 17, 3) := by decide +kernel
theorem dJ5_appendNull_278bc_62 : decode cJ5_appendNull_278bc 62 = .ok (.aload_n 2, 1) := by decide +kernel
theorem dJ5_appendNull_278bc_63 : decode cJ5_appendNull_278bc 63 = .ok (.iload_n 1, 1) := by decide +kernel
theorem dJ5_appendNull_278bc_64 : decode cJ5_appendNull_278bc 64 = .ok (.bipush 110, 2) := by decide +kernel
theorem dJ5_appendNull_278bc_66 : decode cJ5_appendNull_278bc 66 = .ok (.bipush 117, 2) := by decide +kernel
theorem dJ5_appendNull_278bc_68 : decode cJ5_appendNull_278bc 68 = .ok (.bipush 108, 2) := by decide +kernel
theorem dJ5_appendNull_278bc_70 : decode cJ5_appendNull_278bc 70 = .ok (.bipush 108, 2) := by decide +kernel
theorem dJ5_appendNull_278bc_72 : decode cJ5_appendNull_278bc 72 = .ok (.invokestatic 226, 3) := by decide +kernel
theorem dJ5_appendNull_278bc_75 : decode cJ5_appendNull_278bc 75 = .ok (.istore_n 1, 1) := by decide +kernel
theorem dJ5_appendNull_278bc_76 : decode cJ5_appendNull_278bc 76 = .ok (.aload_n 0, 1) := by decide +kernel
theorem dJ5_appendNull_278bc_77 : decode cJ5_appendNull_278bc 77 = .ok (.iload_n 1, 1) := by decide +kernel
theorem dJ5_appendNull_278bc_78 : decode cJ5_appendNull_278bc 78 = .ok (.putfield 79, 3) := by decide +kernel
theorem dJ5_appendNull_278bc_81 : decode cJ5_appendNull_278bc 81 = .ok (.aload_n 0, 1) := by decide +kernel
theorem dJ5_appendNull_278bc_82 : decode cJ5_appendNull_278bc 82 = .ok (.areturn, 1) := by decide +kernel
theorem dJ5_append_3fe6f_0 : decode cJ5_append_3fe6f 0 = .ok (.aload_n 0, 1) := by decide +kernel
theorem dJ5_append_3fe6f_1 : decode cJ5_append_3fe6f 1 = .ok (.aload_n 0, 1) := by decide +kernel
theorem dJ5_append_3fe6f_2 : decode cJ5_append_3fe6f 2 = .ok (.getfield 79, 3) := by decide +kernel
theorem dJ5_append_3fe6f_5 : decode cJ5_append_3fe6f 5 = .ok (.iconst 1, 1) := by decide +kernel
theorem dJ5_append_3fe6f_6 : decode cJ5_append_3fe6f 6 = .ok (.iadd, 1) := by decide +kernel
theorem dJ5_append_3fe6f_7 : decode cJ5_append_3fe6f 7 = .ok (.invokevirtual 100, 3) := by decide +kernel
theorem dJ5_append_3fe6f_10 : decode cJ5_append_3fe6f 10 = .ok (.aload_n 0, 1) := by decide +kernel
theorem dJ5_append_3fe6f_11 : decode cJ5_append_3fe6f 11 = .ok (.invokevirtual 83, 3) := by decide +kernel
theorem dJ5_append_3fe6f_14 : decode cJ5_append_3fe6f 14 = .ok (.ifCond .eq 31, 3) := by decide +kernel
theorem dJ5_append_3fe6f_17 : decode cJ5_append_3fe6f 17 = .ok (.iload_n 1, 1) := by decide +kernel
theorem dJ5_append_3fe6f_18 : decode cJ5_append_3fe6f 18 = .ok (.invokestatic 191, 3) := by decide +kernel
theorem dJ5_append_3fe6f_21 : decode cJ5_append_3fe6f 21 = .ok (.ifCond .eq 24, 3) := by decide +kernel
theorem dJ5_append_3fe6f_24 : decode cJ5_append_3fe6f 24 = .ok (.aload_n 0, 1) := by decide +kernel
theorem dJ5_append_3fe6f_25 : decode cJ5_append_3fe6f 25 = .ok (.getfield 15, 3) := by decide +kernel
theorem dJ5_append_3fe6f_28 : decode cJ5_append_3fe6f 28 = .ok (.aload_n 0, 1) := by decide +kernel
theorem dJ5_append_3fe6f_29 : decode cJ5_append_3fe6f 29 = .ok (.dup, 1) := by decide +kernel
theorem dJ5_append_3fe6f_30 : decode cJ5_append_3fe6f 30 = .ok (.getfield 79, 3) := by decide +kernel
theorem dJ5_append_3fe6f_33 : decode cJ5_append_3fe6f 33 = .ok (.dup_x1, 1) := by decide +kernel
theorem dJ5_append_3fe6f_34 : decode cJ5_append_3fe6f 34 = .ok (.iconst 1, 1) := by decide +kernel
theorem dJ5_append_3fe6f_35 : decode cJ5_append_3fe6f 35 = .ok (.iadd, 1) := by decide +kernel
theorem dJ5_append_3fe6f_36 : decode cJ5_append_3fe6f 36 = .ok (.putfield 79, 3) := by decide +kernel
theorem dJ5_append_3fe6f_39 : decode cJ5_append_3fe6f 39 = .ok (.iload_n 1, 1) := by decide +kernel
theorem dJ5_append_3fe6f_40 : decode cJ5_append_3fe6f 40 = .ok (.i2b, 1) := by decide +kernel
theorem dJ5_append_3fe6f_41 : decode cJ5_append_3fe6f 41 = .ok (.bastore, 1) := by decide +kernel
theorem dJ5_append_3fe6f_42 : decode cJ5_append_3fe6f 42 = .ok (.goto 33, 3) := by decide +kernel
theorem dJ5_append_3fe6f_45 : decode cJ5_append_3fe6f 45 = .ok (.aload_n 0, 1) := by decide +kernel
theorem dJ5_append_3fe6f_46 : decode cJ5_append_3fe6f 46 = .ok (.invokevirtual 83, 3) := by decide +kernel
theorem dJ5_append_3fe6f_49 : decode cJ5_append_3fe6f 49 = .ok (.ifCond .eq 7, 3) := by decide +kernel
theorem dJ5_append_3fe6f_52 : decode cJ5_append_3fe6f 52 = .ok (.aload_n 0, 1) := by decide +kernel
theorem dJ5_append_3fe6f_53 : decode cJ5_append_3fe6f 53 = .ok (.invokevirtual 195, 3) := by decide +kernel
theorem dJ5_append_3fe6f_56 : decode cJ5_append_3fe6f 56 = .ok (.aload_n 0, 1) := by decide +kernel
theorem dJ5_append_3fe6f_57 : decode cJ5_append_3fe6f 57 = .ok (.getfield 15, 3) := by decide +kernel
theorem dJ5_append_3fe6f_60 : decode cJ5_append_3fe6f 60 = .ok (.aload_n 0, 1) := by decide +kernel
theorem dJ5_append_3fe6f_61 : decode cJ5_append_3fe6f 61 = .ok (.dup, 1) := by decide +kernel
theorem dJ5_append_3fe6f_62 : decode cJ5_append_3fe6f 62 = .ok (.getfield 79, 3) := by decide +kernel
theorem dJ5_append_3fe6f_65 : decode cJ5_append_3fe6f 65 = .ok (.dup_x1, 1) := by decide +kernel
theorem dJ5_append_3fe6f_66 : decode cJ5_append_3fe6f 66 = .ok (.iconst 1, 1) := by decide +kernel
theorem dJ5_append_3fe6f_67 : decode cJ5_append_3fe6f 67 = .ok (.iadd, 1) := by decide +kernel
theorem dJ5_append_3fe6f_68 : decode cJ5_append_3fe6f 68 = .ok (.putfield 79, 3) := by decide +kernel
theorem dJ5_append_3fe6f_71 : decode cJ5_append_3fe6f 71 = .ok (.iload_n 1, 1) := by decide +kernel
theorem dJ5_append_3fe6f_72 : decode cJ5_append_3fe6f 72 = .ok (.invokestatic 197, 3) := by decide +kernel
theorem dJ5_append_3fe6f_75 : decode cJ5_append_3fe6f 75 = .ok (.aload_n 0, 1) := by decide +kernel
theorem dJ5_append_3fe6f_76 : decode cJ5_append_3fe6f 76 = .ok (.areturn, 1) := by decide +kernel
theorem dJ5_append_c97b9_0 : decode cJ5_append_c97b9 0 = .ok (.aload_n 0, 1) := by decide +kernel
theorem dJ5_append_c97b9_1 : decode cJ5_append_c97b9 1 = .ok (.getfield 79, 3) := by decide +kernel
theorem dJ5_append_c97b9_4 : decode cJ5_append_c97b9 4 = .ok (.istore_n 2, 1) := by decide +kernel
theorem dJ5_append_c97b9_5 : decode cJ5_append_c97b9 5 = .ok (.iload_n 2, 1) := by decide +kernel
theorem dJ5_append_c97b9_6 : decode cJ5_append_c97b9 6 = .ok (.iload_n 1, 1) := by decide +kernel
theorem dJ5_append_c97b9_7 : decode cJ5_append_c97b9 7 = .ok (.invokestatic 245, 3) := by decide +kernel
theorem dJ5_append_c97b9_10 : decode cJ5_append_c97b9 10 = .ok (.iadd, 1) := by decide +kernel
theorem dJ5_append_c97b9_11 : decode cJ5_append_c97b9 11 = .ok (.istore_n 3, 1) := by decide +kernel
theorem dJ5_append_c97b9_12 : decode cJ5_append_c97b9 12 = .ok (.aload_n 0, 1) := by decide +kernel
theorem dJ5_append_c97b9_13 : decode cJ5_append_c97b9 13 = .ok (.iload_n 3, 1) := by decide +kernel
theorem dJ5_append_c97b9_14 : decode cJ5_append_c97b9 14 = .ok (.invokevirtual 100, 3) := by decide +kernel
theorem dJ5_append_c97b9_17 : decode cJ5_append_c97b9 17 = .ok (.aload_n 0, 1) := by decide +kernel
theorem dJ5_append_c97b9_18 : decode cJ5_append_c97b9 18 = .ok (.invokevirtual 83, 3) := by decide +kernel
theorem dJ5_append_c97b9_21 : decode cJ5_append_c97b9 21 = .ok (.ifCond .eq 16, 3) := by decide +kernel
theorem dJ5_append_c97b9_24 : decode cJ5_append_c97b9 24 = .ok (.iload_n 1, 1) := by decide +kernel
theorem dJ5_append_c97b9_25 : decode cJ5_append_c97b9 25 = .ok (.iload_n 3, 1) := by decide +kernel
theorem dJ5_append_c97b9_26 : decode cJ5_append_c97b9 26 = .ok (.aload_n 0, 1) := by decide +kernel
theorem dJ5_append_c97b9_27 : decode cJ5_append_c97b9 27 = .ok (.getfield 15, 3) := by decide +kernel
theorem dJ5_append_c97b9_30 : decode cJ5_append_c97b9 30 = .ok (.invokestatic 248, 3) := by decide +kernel
theorem dJ5_append_c97b9_33 : decode cJ5_append_c97b9 33 = .ok (.pop, 1) := by decide +kernel
theorem dJ5_append_c97b9_34 : decode cJ5_append_c97b9 34 = .ok (.goto 14, 3) := by decide +kernel
theorem dJ5_append_c97b9_37 : decode cJ5_append_c97b9 37 = .ok (.iload_n 1, 1) := by decide +kernel
theorem dJ5_append_c97b9_38 : decode cJ5_append_c97b9 38 = .ok (.iload_n 2, 1) := by decide +kernel
theorem dJ5_append_c97b9_39 : decode cJ5_append_c97b9 39 = .ok (.iload_n 3, 1) := by decide +kernel
theorem dJ5_append_c97b9_40 : decode cJ5_append_c97b9 40 = .ok (.aload_n 0, 1) := by decide +kernel
theorem dJ5_append_c97b9_41 : decode cJ5_append_c97b9 41 = .ok (.getfield 15, 3) := by decide +kernel
theorem dJ5_append_c97b9_44 : decode cJ5_append_c97b9 44 = .ok (.invokestatic 251, 3) := by decide +kernel
theorem dJ5_append_c97b9_47 : decode cJ5_append_c97b9 47 = .ok (.pop, 1) := by decide +kernel
theorem dJ5_append_c97b9_48 : decode cJ5_append_c97b9 48 = .ok (.aload_n 0, 1) := by decide +kernel
theorem dJ5_append_c97b9_49 : decode cJ5_append_c97b9 49 = .ok (.iload_n 3, 1) := by decide +kernel
theorem dJ5_append_c97b9_50 : decode cJ5_append_c97b9 50 = .ok (.putfield 79, 3) := by decide +kernel
theorem dJ5_append_c97b9_53 : decode cJ5_append_c97b9 53 = .ok (.aload_n 0, 1) := by decide +kernel
theorem dJ5_append_c97b9_54 : decode cJ5_append_c97b9 54 = .ok (.areturn, 1) := by decide +kernel
theorem dJ5_getValue_6d5f1_0 : decode cJ5_getValue_6d5f1 0 = .ok (.aload_n 0, 1) := by decide +kernel
theorem dJ5_getValue_6d5f1_1 : decode cJ5_getValue_6d5f1 1 = .ok (.getfield 15, 3) := by decide +kernel
theorem dJ5_getValue_6d5f1_4 : decode cJ5_getValue_6d5f1 4 = .ok (.areturn, 1) := by decide +kernel
theorem dJ5_isLatin1_aae02_0 : decode cJ5_isLatin1_aae02 0 = .ok (.getstatic 18, 3) := by decide +kernel
theorem dJ5_isLatin1_aae02_3 : decode cJ5_isLatin1_aae02 3 = .ok (.ifCond .eq 14, 3) := by decide +kernel
theorem dJ5_isLatin1_aae02_6 : decode cJ5_isLatin1_aae02 6 = .ok (.aload_n 0, 1) := by decide +kernel
theorem dJ5_isLatin1_aae02_7 : decode cJ5_isLatin1_aae02 7 = .ok (.getfield 22, 3) := by decide +kernel
theorem dJ5_isLatin1_aae02_10 : decode cJ5_isLatin1_aae02 10 = .ok (.ifCond .ne 7, 3) := by decide +kernel
theorem dJ5_isLatin1_aae02_13 : decode cJ5_isLatin1_aae02 13 = .ok (.iconst 1, 1) := by decide +kernel
theorem dJ5_isLatin1_aae02_14 : decode cJ5_isLatin1_aae02 14 = .ok (.goto 4, 3) := by decide +kernel
theorem dJ5_isLatin1_aae02_17 : decode cJ5_isLatin1_aae02 17 = .ok (.iconst 0, 1) := by decide +kernel
theorem dJ5_isLatin1_aae02_18 : decode cJ5_isLatin1_aae02 18 = .ok (.ireturn, 1) := by decide +kernel
theorem dJ5_inflateIfNeededFor_a7421_0 : decode cJ5_inflateIfNeededFor_a7421 0 = .ok (.getstatic 18, 3) := by decide +kernel
theorem dJ5_inflateIfNeededFor_a7421_3 : decode cJ5_inflateIfNeededFor_a7421 3 = .ok (.ifCond .eq 18, 3) := by decide +kernel
theorem dJ5_inflateIfNeededFor_a7421_6 : decode cJ5_inflateIfNeededFor_a7421 6 = .ok (.aload_n 0, 1) := by decide +kernel
theorem dJ5_inflateIfNeededFor_a7421_7 : decode cJ5_inflateIfNeededFor_a7421 7 = .ok (.getfield 22, 3) := by decide +kernel
theorem dJ5_inflateIfNeededFor_a7421_10 : decode cJ5_inflateIfNeededFor_a7421 10 = .ok (.aload_n 1, 1) := by decide +kernel
theorem dJ5_inflateIfNeededFor_a7421_11 : decode cJ5_inflateIfNeededFor_a7421 11 = .ok (.invokevirtual 40, 3) := by decide +kernel
theorem dJ5_inflateIfNeededFor_a7421_14 : decode cJ5_inflateIfNeededFor_a7421 14 = .ok (.if_icmp .eq 7, 3) := by decide +kernel
theorem dJ5_inflateIfNeededFor_a7421_17 : decode cJ5_inflateIfNeededFor_a7421 17 = .ok (.aload_n 0, 1) := by decide +kernel
theorem dJ5_inflateIfNeededFor_a7421_18 : decode cJ5_inflateIfNeededFor_a7421 18 = .ok (.invokevirtual 195, 3) := by decide +kernel
theorem dJ5_inflateIfNeededFor_a7421_21 : decode cJ5_inflateIfNeededFor_a7421 21 = .ok (.return_, 1) := by decide +kernel
theorem dJ5_putStringAt_47b60_0 : decode cJ5_putStringAt_47b60 0 = .ok (.aload_n 0, 1) := by decide +kernel
theorem dJ5_putStringAt_47b60_1 : decode cJ5_putStringAt_47b60 1 = .ok (.aload_n 2, 1) := by decide +kernel
theorem dJ5_putStringAt_47b60_2 : decode cJ5_putStringAt_47b60 2 = .ok (.invokevirtual 397, 3) := by decide +kernel
theorem dJ5_putStringAt_47b60_5 : decode cJ5_putStringAt_47b60 5 = .ok (.aload_n 2, 1) := by decide +kernel
theorem dJ5_putStringAt_47b60_6 : decode cJ5_putStringAt_47b60 6 = .ok (.aload_n 0, 1) := by decide +kernel
theorem dJ5_putStringAt_47b60_7 : decode cJ5_putStringAt_47b60 7 = .ok (.getfield 15, 3) := by decide +kernel
theorem dJ5_putStringAt_47b60_10 : decode cJ5_putStringAt_47b60 10 = .ok (.iload_n 1, 1) := by decide +kernel
theorem dJ5_putStringAt_47b60_11 : decode cJ5_putStringAt_47b60 11 = .ok (.aload_n 0, 1) := by decide +kernel
theorem dJ5_putStringAt_47b60_12 : decode cJ5_putStringAt_47b60 12 = .ok (.getfield 22, 3) := by decide +kernel
theorem dJ5_putStringAt_47b60_15 : decode cJ5_putStringAt_47b60 15 = .ok (.invokevirtual 399, 3) := by decide +kernel
theorem dJ5_putStringAt_47b60_18 : decode cJ5_putStringAt_47b60 18 = .ok (.return_, 1) := by decide +kernel
theorem dJ6_getChars_ba4f3_0 : decode cJ6_getChars_ba4f3 0 = .ok (.iload_n 1, 1) := by decide +kernel
theorem dJ6_getChars_ba4f3_1 : decode cJ6_getChars_ba4f3 1 = .ok (.istore 5, 2) := by decide +kernel
theorem dJ6_getChars_ba4f3_3 : decode cJ6_getChars_ba4f3 3 = .ok (.iload_n 0, 1) := by decide +kernel
theorem dJ6_getChars_ba4f3_4 : decode cJ6_getChars_ba4f3 4 = .ok (.ifCond .ge 7, 3) := by decide +kernel
theorem dJ6_getChars_ba4f3_7 : decode cJ6_getChars_ba4f3 7 = .ok (.iconst 1, 1) := by decide +kernel
theorem dJ6_getChars_ba4f3_8 : decode cJ6_getChars_ba4f3 8 = .ok (.goto 4, 3) := by decide +kernel
theorem dJ6_getChars_ba4f3_11 : decode cJ6_getChars_ba4f3 11 = .ok (.iconst 0, 1) := by decide +kernel
theorem dJ6_getChars_ba4f3_12 : decode cJ6_getChars_ba4f3 12 = .ok (.istore 6, 2) := by decide +kernel
theorem dJ6_getChars_ba4f3_14 : decode cJ6_getChars_ba4f3 14 = .ok (.iload 6, 2) := by decide +kernel
theorem dJ6_getChars_ba4f3_16 : decode cJ6_getChars_ba4f3 16 = .ok (.ifCond .ne 6, 3) := by decide +kernel
theorem dJ6_getChars_ba4f3_19 : decode cJ6_getChars_ba4f3 19 = .ok (.iload_n 0, 1) := by decide +kernel
theorem dJ6_getChars_ba4f3_20 : decode cJ6_getChars_ba4f3 20 = .ok (.ineg, 1) := by decide +kernel
theorem dJ6_getChars_ba4f3_21 : decode cJ6_getChars_ba4f3 21 = .ok (.istore_n 0, 1) := by decide +kernel
theorem dJ6_getChars_ba4f3_22 : decode cJ6_getChars_ba4f3 22 = .ok (.iload_n 0, 1) := by decide +kernel
theorem dJ6_getChars_ba4f3_23 : decode cJ6_getChars_ba4f3 23 = .ok (.bipush (-100), 2) := by decide +kernel
theorem dJ6_getChars_ba4f3_25 : decode cJ6_getChars_ba4f3 25 = .ok (.if_icmp .gt 47, 3) := by decide +kernel
theorem dJ6_getChars_ba4f3_28 : decode cJ6_getChars_ba4f3 28 = .ok (.iload_n 0, 1) := by decide +kernel
theorem dJ6_getChars_ba4f3_29 : decode cJ6_getChars_ba4f3 29 = .ok (.bipush 100, 2) := by decide +kernel
theorem dJ6_getChars_ba4f3_31 : decode cJ6_getChars_ba4f3 31 = .ok (.idiv, 1) := by decide +kernel
theorem dJ6_getChars_ba4f3_32 : decode cJ6_getChars_ba4f3 32 = .ok (.istore_n 3, 1) := by decide +kernel
theorem dJ6_getChars_ba4f3_33 : decode cJ6_getChars_ba4f3 33 = .ok (.iload_n 3, 1) := by decide +kernel
theorem dJ6_getChars_ba4f3_34 : decode cJ6_getChars_ba4f3 34 = .ok (.bipush 100, 2) := by decide +kernel
theorem dJ6_getChars_ba4f3_36 : decode cJ6_getChars_ba4f3 36 = .ok (.imul, 1) := by decide +kernel
theorem dJ6_getChars_ba4f3_37 : decode cJ6_getChars_ba4f3 37 = .ok (.iload_n 0, 1) := by decide +kernel
theorem dJ6_getChars_ba4f3_38 : decode cJ6_getChars_ba4f3 38 = .ok (.isub, 1) := by decide +kernel
theorem dJ6_getChars_ba4f3_39 : decode cJ6_getChars_ba4f3 39 = .ok (.istore 4, 2) := by decide +kernel
theorem dJ6_getChars_ba4f3_41 : decode cJ6_getChars_ba4f3 41 = .ok (.iload_n 3, 1) := by decide +kernel
theorem dJ6_getChars_ba4f3_42 : decode cJ6_getChars_ba4f3 42 = .ok (.istore_n 0, 1) := by decide +kernel
theorem dJ6_getChars_ba4f3_43 : decode cJ6_getChars_ba4f3 43 = .ok (.aload_n 2, 1) := by decide +kernel
theorem dJ6_getChars_ba4f3_44 : decode cJ6_getChars_ba4f3 44 = .ok (.iinc 5 (-1), 3) := by decide +kernel
theorem dJ6_getChars_ba4f3_47 : decode cJ6_getChars_ba4f3 47 = .ok (.iload 5, 2) := by decide +kernel
theorem dJ6_getChars_ba4f3_49 : decode cJ6_getChars_ba4f3 49 = .ok (.getstatic 83, 3) := by decide +kernel
theorem dJ6_getChars_ba4f3_52 : decode cJ6_getChars_ba4f3 52 = .ok (.iload 4, 2) := by decide +kernel
theorem dJ6_getChars_ba4f3_54 : decode cJ6_getChars_ba4f3 54 = .ok (.baload, 1) := by decide +kernel
theorem dJ6_getChars_ba4f3_55 : decode cJ6_getChars_ba4f3 55 = .ok (.bastore, 1) := by decide +kernel
theorem dJ6_getChars_ba4f3_56 : decode cJ6_getChars_ba4f3 56 = .ok (.aload_n 2, 1) := by decide +kernel
theorem dJ6_getChars_ba4f3_57 : decode cJ6_getChars_ba4f3 57 = .ok (.iinc 5 (-1), 3) := by decide +kernel
theorem dJ6_getChars_ba4f3_60 : decode cJ6_getChars_ba4f3 60 = .ok (.iload 5, 2) := by decide +kernel
theorem dJ6_getChars_ba4f3_62 : decode cJ6_getChars_ba4f3 62 = .ok (.getstatic 87, 3) := by decide +kernel
theorem dJ6_getChars_ba4f3_65 : decode cJ6_getChars_ba4f3 65 = .ok (.iload 4, 2) := by decide +kernel
theorem dJ6_getChars_ba4f3_67 : decode cJ6_getChars_ba4f3 67 = .ok (.baload, 1) := by decide +kernel
theorem dJ6_getChars_ba4f3_68 : decode cJ6_getChars_ba4f3 68 = .ok (.bastore, 1) := by decide +kernel
theorem dJ6_getChars_ba4f3_69 : decode cJ6_getChars_ba4f3 69 = .ok (.goto (-47), 3) := by decide +kernel
theorem dJ6_getChars_ba4f3_72 : decode cJ6_getChars_ba4f3 72 = .ok (.aload_n 2, 1) := by decide +kernel
theorem dJ6_getChars_ba4f3_73 : decode cJ6_getChars_ba4f3 73 = .ok (.iinc 5 (-1), 3) := by decide +kernel
theorem dJ6_getChars_ba4f3_76 : decode cJ6_getChars_ba4f3 76 = .ok (.iload 5, 2) := by decide +kernel
theorem dJ6_getChars_ba4f3_78 : decode cJ6_getChars_ba4f3 78 = .ok (.getstatic 83, 3) := by decide +kernel
theorem dJ6_getChars_ba4f3_81 : decode cJ6_getChars_ba4f3 81 = .ok (.iload_n 0, 1) := by decide +kernel
theorem dJ6_getChars_ba4f3_82 : decode cJ6_getChars_ba4f3 82 = .ok (.ineg, 1) := by decide +kernel
theorem dJ6_getChars_ba4f3_83 : decode cJ6_getChars_ba4f3 83 = .ok (.baload, 1) := by decide +kernel
theorem dJ6_getChars_ba4f3_84 : decode cJ6_getChars_ba4f3 84 = .ok (.bastore, 1) := by decide +kernel
theorem dJ6_getChars_ba4f3_85 : decode cJ6_getChars_ba4f3 85 = .ok (.iload_n 0, 1) := by decide +kernel
theorem dJ6_getChars_ba4f3_86 : decode cJ6_getChars_ba4f3 86 = .ok (.bipush (-9), 2) := by decide +kernel
theorem dJ6_getChars_ba4f3_88 : decode cJ6_getChars_ba4f3 88 = .ok (.if_icmp .ge 16, 3) := by decide +kernel
theorem dJ6_getChars_ba4f3_91 : decode cJ6_getChars_ba4f3 91 = .ok (.aload_n 2, 1) := by decide +kernel
theorem dJ6_getChars_ba4f3_92 : decode cJ6_getChars_ba4f3 92 = .ok (.iinc 5 (-1), 3) := by decide +kernel
theorem dJ6_getChars_ba4f3_95 : decode cJ6_getChars_ba4f3 95 = .ok (.iload 5, 2) := by decide +kernel
theorem dJ6_getChars_ba4f3_97 : decode cJ6_getChars_ba4f3 97 = .ok (.getstatic 87, 3) := by decide +kernel
theorem dJ6_getChars_ba4f3_100 : decode cJ6_getChars_ba4f3 100 = .ok (.iload_n 0, 1) := by decide +kernel
theorem dJ6_getChars_ba4f3_101 : decode cJ6_getChars_ba4f3 101 = .ok (.ineg, 1) := by decide +kernel
theorem dJ6_getChars_ba4f3_102 : decode cJ6_getChars_ba4f3 102 = .ok (.baload, 1) := by decide +kernel
theorem dJ6_getChars_ba4f3_103 : decode cJ6_getChars_ba4f3 103 = .ok (.bastore, 1) := by decide +kernel
theorem dJ6_getChars_ba4f3_104 : decode cJ6_getChars_ba4f3 104 = .ok (.iload 6, 2) := by decide +kernel
theorem dJ6_getChars_ba4f3_106 : decode cJ6_getChars_ba4f3 106 = .ok (.ifCond .eq 12, 3) := by decide +kernel
theorem dJ6_getChars_ba4f3_109 : decode cJ6_getChars_ba4f3 109 = .ok (.aload_n 2, 1) := by decide +kernel
theorem dJ6_getChars_ba4f3_110 : decode cJ6_getChars_ba4f3 110 = .ok (.iinc 5 (-1), 3) := by decide +kernel
theorem dJ6_getChars_ba4f3_113 : decode cJ6_getChars_ba4f3 113 = .ok (.iload 5, 2) := by decide +kernel
theorem dJ6_getChars_ba4f3_115 : decode cJ6_getChars_ba4f3 115 = .ok (.bipush 45, 2) := by decide +kernel
theorem dJ6_getChars_ba4f3_117 : decode cJ6_getChars_ba4f3 117 = .ok (.bastore, 1) := by decide +kernel
theorem dJ6_getChars_ba4f3_118 : decode cJ6_getChars_ba4f3 118 = .ok (.iload 5, 2) := by decide +kernel
theorem dJ6_getChars_ba4f3_120 : decode cJ6_getChars_ba4f3 120 = .ok (.ireturn, 1) := by decide +kernel
theorem dJ6_stringSize_0f7a4_0 : decode cJ6_stringSize_0f7a4 0 = .ok (.iconst 1, 1) := by decide +kernel
theorem dJ6_stringSize_0f7a4_1 : decode cJ6_stringSize_0f7a4 1 = .ok (.istore_n 1, 1) := by decide +kernel
theorem dJ6_stringSize_0f7a4_2 : decode cJ6_stringSize_0f7a4 2 = .ok (.iload_n 0, 1) := by decide +kernel
theorem dJ6_stringSize_0f7a4_3 : decode cJ6_stringSize_0f7a4 3 = .ok (.ifCond .lt 8, 3) := by decide +kernel
theorem dJ6_stringSize_0f7a4_6 : decode cJ6_stringSize_0f7a4 6 = .ok (.iconst 0, 1) := by decide +kernel
theorem dJ6_stringSize_0f7a4_7 : decode cJ6_stringSize_0f7a4 7 = .ok (.istore_n 1, 1) := by decide +kernel
theorem dJ6_stringSize_0f7a4_8 : decode cJ6_stringSize_0f7a4 8 = .ok (.iload_n 0, 1) := by decide +kernel
theorem dJ6_stringSize_0f7a4_9 : decode cJ6_stringSize_0f7a4 9 = .ok (.ineg, 1) := by decide +kernel
theorem dJ6_stringSize_0f7a4_10 : decode cJ6_stringSize_0f7a4 10 = .ok (.istore_n 0, 1) := by decide +kernel
theorem dJ6_stringSize_0f7a4_11 : decode cJ6_stringSize_0f7a4 11 = .ok (.bipush (-10), 2) := by decide +kernel
theorem dJ6_stringSize_0f7a4_13 : decode cJ6_stringSize_0f7a4 13 = .ok (.istore_n 2, 1) := by decide +kernel
theorem dJ6_stringSize_0f7a4_14 : decode cJ6_stringSize_0f7a4 14 = .ok (.iconst 1, 1) := by decide +kernel
theorem dJ6_stringSize_0f7a4_15 : decode cJ6_stringSize_0f7a4 15 = .ok (.istore_n 3, 1) := by decide +kernel
theorem dJ6_stringSize_0f7a4_16 : decode cJ6_stringSize_0f7a4 16 = .ok (.iload_n 3, 1) := by decide +kernel
theorem dJ6_stringSize_0f7a4_17 : decode cJ6_stringSize_0f7a4 17 = .ok (.bipush 10, 2) := by decide +kernel
theorem dJ6_stringSize_0f7a4_19 : decode cJ6_stringSize_0f7a4 19 = .ok (.if_icmp .ge 23, 3) := by decide +kernel
theorem dJ6_stringSize_0f7a4_22 : decode cJ6_stringSize_0f7a4 22 = .ok (.iload_n 0, 1) := by decide +kernel
theorem dJ6_stringSize_0f7a4_23 : decode cJ6_stringSize_0f7a4 23 = .ok (.iload_n 2, 1) := by decide +kernel
theorem dJ6_stringSize_0f7a4_24 : decode cJ6_stringSize_0f7a4 24 = .ok (.if_icmp .le 7, 3) := by decide +kernel
theorem dJ6_stringSize_0f7a4_27 : decode cJ6_stringSize_0f7a4 27 = .ok (.iload_n 3, 1) := by decide +kernel
theorem dJ6_stringSize_0f7a4_28 : decode cJ6_stringSize_0f7a4 28 = .ok (.iload_n 1, 1) := by decide +kernel
theorem dJ6_stringSize_0f7a4_29 : decode cJ6_stringSize_0f7a4 29 = .ok (.iadd, 1) := by decide +kernel
theorem dJ6_stringSize_0f7a4_30 : decode cJ6_stringSize_0f7a4 30 = .ok (.ireturn, 1) := by decide +kernel
theorem dJ6_stringSize_0f7a4_31 : decode cJ6_stringSize_0f7a4 31 = .ok (.bipush 10, 2) := by decide +kernel
theorem dJ6_stringSize_0f7a4_33 : decode cJ6_stringSize_0f7a4 33 = .ok (.iload_n 2, 1) := by decide +kernel
theorem dJ6_stringSize_0f7a4_34 : decode cJ6_stringSize_0f7a4 34 = .ok (.imul, 1) := by decide +kernel
theorem dJ6_stringSize_0f7a4_35 : decode cJ6_stringSize_0f7a4 35 = .ok (.istore_n 2, 1) := by decide +kernel
theorem dJ6_stringSize_0f7a4_36 : decode cJ6_stringSize_0f7a4 36 = .ok (.iinc 3 1, 3) := by decide +kernel
theorem dJ6_stringSize_0f7a4_39 : decode cJ6_stringSize_0f7a4 39 = .ok (.goto (-23), 3) := by decide +kernel
theorem dJ6_stringSize_0f7a4_42 : decode cJ6_stringSize_0f7a4 42 = .ok (.bipush 10, 2) := by decide +kernel
theorem dJ6_stringSize_0f7a4_44 : decode cJ6_stringSize_0f7a4 44 = .ok (.iload_n 1, 1) := by decide +kernel
theorem dJ6_stringSize_0f7a4_45 : decode cJ6_stringSize_0f7a4 45 = .ok (.iadd, 1) := by decide +kernel
theorem dJ6_stringSize_0f7a4_46 : decode cJ6_stringSize_0f7a4 46 = .ok (.ireturn, 1) := by decide +kernel
theorem dJ6_bitCount_0f7a4_0 : decode cJ6_bitCount_0f7a4 0 = .ok (.iload_n 0, 1) := by decide +kernel
theorem dJ6_bitCount_0f7a4_1 : decode cJ6_bitCount_0f7a4 1 = .ok (.iload_n 0, 1) := by decide +kernel
theorem dJ6_bitCount_0f7a4_2 : decode cJ6_bitCount_0f7a4 2 = .ok (.iconst 1, 1) := by decide +kernel
theorem dJ6_bitCount_0f7a4_3 : decode cJ6_bitCount_0f7a4 3 = .ok (.iushr, 1) := by decide +kernel
theorem dJ6_bitCount_0f7a4_4 : decode cJ6_bitCount_0f7a4 4 = .ok (.ldc_w 265, 3) := by decide +kernel
theorem dJ6_bitCount_0f7a4_7 : decode cJ6_bitCount_0f7a4 7 = .ok (.iand, 1) := by decide +kernel
theorem dJ6_bitCount_0f7a4_8 : decode cJ6_bitCount_0f7a4 8 = .ok (.isub, 1) := by decide +kernel
theorem dJ6_bitCount_0f7a4_9 : decode cJ6_bitCount_0f7a4 9 = .ok (.istore_n 0, 1) := by decide +kernel
theorem dJ6_bitCount_0f7a4_10 : decode cJ6_bitCount_0f7a4 10 = .ok (.iload_n 0, 1) := by decide +kernel
theorem dJ6_bitCount_0f7a4_11 : decode cJ6_bitCount_0f7a4 11 = .ok (.ldc_w 266, 3) := by decide +kernel
theorem dJ6_bitCount_0f7a4_14 : decode cJ6_bitCount_0f7a4 14 = .ok (.iand, 1) := by decide +kernel
theorem dJ6_bitCount_0f7a4_15 : decode cJ6_bitCount_0f7a4 15 = .ok (.iload_n 0, 1) := by decide +kernel
theorem dJ6_bitCount_0f7a4_16 : decode cJ6_bitCount_0f7a4 16 = .ok (.iconst 2, 1) := by decide +kernel
theorem dJ6_bitCount_0f7a4_17 : decode cJ6_bitCount_0f7a4 17 = .ok (.iushr, 1) := by decide +kernel
theorem dJ6_bitCount_0f7a4_18 : decode cJ6_bitCount_0f7a4 18 = .ok (.ldc_w 266, 3) := by decide +kernel
theorem dJ6_bitCount_0f7a4_21 : decode cJ6_bitCount_0f7a4 21 = .ok (.iand, 1) := by decide +kernel
theorem dJ6_bitCount_0f7a4_22 : decode cJ6_bitCount_0f7a4 22 = .ok (.iadd, 1) := by decide +kernel
theorem dJ6_bitCount_0f7a4_23 : decode cJ6_bitCount_0f7a4 23 = .ok (.istore_n 0, 1) := by decide +kernel
theorem dJ6_bitCount_0f7a4_24 : decode cJ6_bitCount_0f7a4 24 = .ok (.iload_n 0, 1) := by decide +kernel
theorem dJ6_bitCount_0f7a4_25 : decode cJ6_bitCount_0f7a4 25 = .ok (.iload_n 0, 1) := by decide +kernel
theorem dJ6_bitCount_0f7a4_26 : decode cJ6_bitCount_0f7a4 26 = .ok (.iconst 4, 1) := by decide +kernel
theorem dJ6_bitCount_0f7a4_27 : decode cJ6_bitCount_0f7a4 27 = .ok (.iushr, 1) := by decide +kernel
theorem dJ6_bitCount_0f7a4_28 : decode cJ6_bitCount_0f7a4 28 = .ok (.iadd, 1) := by decide +kernel
theorem dJ6_bitCount_0f7a4_29 : decode cJ6_bitCount_0f7a4 29 = .ok (.ldc_w 267, 3) := by decide +kernel
theorem dJ6_bitCount_0f7a4_32 : decode cJ6_bitCount_0f7a4 32 = .ok (.iand, 1) := by decide +kernel
theorem dJ6_bitCount_0f7a4_33 : decode cJ6_bitCount_0f7a4 33 = .ok (.istore_n 0, 1) := by decide +kernel
theorem dJ6_bitCount_0f7a4_34 : decode cJ6_bitCount_0f7a4 34 = .ok (.iload_n 0, 1) := by decide +kernel
theorem dJ6_bitCount_0f7a4_35 : decode cJ6_bitCount_0f7a4 35 = .ok (.iload_n 0, 1) := by decide +kernel
theorem dJ6_bitCount_0f7a4_36 : decode cJ6_bitCount_0f7a4 36 = .ok (.bipush 8, 2) := by decide +kernel
theorem dJ6_bitCount_0f7a4_38 : decode cJ6_bitCount_0f7a4 38 = .ok (.iushr, 1) := by decide +kernel
theorem dJ6_bitCount_0f7a4_39 : decode cJ6_bitCount_0f7a4 39 = .ok (.iadd, 1) := by decide +kernel
theorem dJ6_bitCount_0f7a4_40 : decode cJ6_bitCount_0f7a4 40 = .ok (.istore_n 0, 1) := by decide +kernel
theorem dJ6_bitCount_0f7a4_41 : decode cJ6_bitCount_0f7a4 41 = .ok (.iload_n 0, 1) := by decide +kernel
theorem dJ6_bitCount_0f7a4_42 : decode cJ6_bitCount_0f7a4 42 = .ok (.iload_n 0, 1) := by decide +kernel
theorem dJ6_bitCount_0f7a4_43 : decode cJ6_bitCount_0f7a4 43 = .ok (.bipush 16, 2) := by decide +kernel
theorem dJ6_bitCount_0f7a4_45 : decode cJ6_bitCount_0f7a4 45 = .ok (.iushr, 1) := by decide +kernel
theorem dJ6_bitCount_0f7a4_46 : decode cJ6_bitCount_0f7a4 46 = .ok (.iadd, 1) := by decide +kernel
theorem dJ6_bitCount_0f7a4_47 : decode cJ6_bitCount_0f7a4 47 = .ok (.istore_n 0, 1) := by decide +kernel
theorem dJ6_bitCount_0f7a4_48 : decode cJ6_bitCount_0f7a4 48 = .ok (.iload_n 0, 1) := by decide +kernel
theorem dJ6_bitCount_0f7a4_49 : decode cJ6_bitCount_0f7a4 49 = .ok (.bipush 63, 2) := by decide +kernel
theorem dJ6_bitCount_0f7a4_51 : decode cJ6_bitCount_0f7a4 51 = .ok (.iand, 1) := by decide +kernel
theorem dJ6_bitCount_0f7a4_52 : decode cJ6_bitCount_0f7a4 52 = .ok (.ireturn, 1) := by decide +kernel
theorem dJ9_abs_0f7a4_0 : decode cJ9_abs_0f7a4 0 = .ok (.iload_n 0, 1) := by decide +kernel
theorem dJ9_abs_0f7a4_1 : decode cJ9_abs_0f7a4 1 = .ok (.ifCond .ge 8, 3) := by decide +kernel
theorem dJ9_abs_0f7a4_4 : decode cJ9_abs_0f7a4 4 = .ok (.iload_n 0, 1) := by decide +kernel
theorem dJ9_abs_0f7a4_5 : decode cJ9_abs_0f7a4 5 = .ok (.ineg, 1) := by decide +kernel
theorem dJ9_abs_0f7a4_6 : decode cJ9_abs_0f7a4 6 = .ok (.goto 4, 3) := by decide +kernel
theorem dJ9_abs_0f7a4_9 : decode cJ9_abs_0f7a4 9 = .ok (.iload_n 0, 1) := by decide +kernel
theorem dJ9_abs_0f7a4_10 : decode cJ9_abs_0f7a4 10 = .ok (.ireturn, 1) := by decide +kernel
theorem dJ9_max_7cf53_0 : decode cJ9_max_7cf53 0 = .ok (.iload_n 0, 1) := by decide +kernel
theorem dJ9_max_7cf53_1 : decode cJ9_max_7cf53 1 = .ok (.iload_n 1, 1) := by decide +kernel
theorem dJ9_max_7cf53_2 : decode cJ9_max_7cf53 2 = .ok (.if_icmp .lt 7, 3) := by decide +kernel
theorem dJ9_max_7cf53_5 : decode cJ9_max_7cf53 5 = .ok (.iload_n 0, 1) := by decide +kernel
theorem dJ9_max_7cf53_6 : decode cJ9_max_7cf53 6 = .ok (.goto 4, 3) := by decide +kernel
theorem dJ9_max_7cf53_9 : decode cJ9_max_7cf53 9 = .ok (.iload_n 1, 1) := by decide +kernel
theorem dJ9_max_7cf53_10 : decode cJ9_max_7cf53 10 = .ok (.ireturn, 1) := by decide +kernel
theorem dJ9_min_7cf53_0 : decode cJ9_min_7cf53 0 = .ok (.iload_n 0, 1) := by decide +kernel
theorem dJ9_min_7cf53_1 : decode cJ9_min_7cf53 1 = .ok (.iload_n 1, 1) := by decide +kernel
theorem dJ9_min_7cf53_2 : decode cJ9_min_7cf53 2 = .ok (.if_icmp .gt 7, 3) := by decide +kernel
theorem dJ9_min_7cf53_5 : decode cJ9_min_7cf53 5 = .ok (.iload_n 0, 1) := by decide +kernel
theorem dJ9_min_7cf53_6 : decode cJ9_min_7cf53 6 = .ok (.goto 4, 3) := by decide +kernel
theorem dJ9_min_7cf53_9 : decode cJ9_min_7cf53 9 = .ok (.iload_n 1, 1) := by decide +kernel
theorem dJ9_min_7cf53_10 : decode cJ9_min_7cf53 10 = .ok (.ireturn, 1) := by decide +kernel
theorem dJ0_init_81219_0 : decode cJ0_init_81219 0 = .ok (.aload_n 0, 1) := by decide +kernel
theorem dJ0_init_81219_1 : decode cJ0_init_81219 1 = .ok (.aload_n 1, 1) := by decide +kernel
theorem dJ0_init_81219_2 : decode cJ0_init_81219 2 = .ok (.aconst_null, 1) := by decide +kernel
theorem dJ0_init_81219_3 : decode cJ0_init_81219 3 = .ok (.invokespecial 489, 3) := by decide +kernel
theorem dJ0_init_81219_6 : decode cJ0_init_81219 6 = .ok (.return_, 1) := by decide +kernel
theorem dJ0_length_8abf5_0 : decode cJ0_length_8abf5 0 = .ok (.aload_n 0, 1) := by decide +kernel
theorem dJ0_length_8abf5_1 : decode cJ0_length_8abf5 1 = .ok (.getfield 9, 3) := by decide +kernel
theorem dJ0_length_8abf5_4 : decode cJ0_length_8abf5 4 = .ok (.arraylength, 1) := by decide +kernel
theorem dJ0_length_8abf5_5 : decode cJ0_length_8abf5 5 = .ok (.aload_n 0, 1) := by decide +kernel
theorem dJ0_length_8abf5_6 : decode cJ0_length_8abf5 6 = .ok (.invokevirtual 335, 3) := by decide +kernel
theorem dJ0_length_8abf5_9 : decode cJ0_length_8abf5 9 = .ok (.ishr, 1) := by decide +kernel
theorem dJ0_length_8abf5_10 : decode cJ0_length_8abf5 10 = .ok (.ireturn, 1) := by decide +kernel
theorem dJ0_charAt_5068e_0 : decode cJ0_charAt_5068e 0 = .ok (.aload_n 0, 1) := by decide +kernel
theorem dJ0_charAt_5068e_1 : decode cJ0_charAt_5068e 1 = .ok (.invokevirtual 492, 3) := by decide +kernel
theorem dJ0_charAt_5068e_4 : decode cJ0_charAt_5068e 4 = .ok (.ifCond .eq 12, 3) := by decide +kernel
theorem dJ0_charAt_5068e_7 : decode cJ0_charAt_5068e 7 = .ok (.aload_n 0, 1) := by decide +kernel
theorem dJ0_charAt_5068e_8 : decode cJ0_charAt_5068e 8 = .ok (.getfield 9, 3) := by decide +kernel
theorem dJ0_charAt_5068e_11 : decode cJ0_charAt_5068e 11 = .ok (.iload_n 1, 1) := by decide +kernel
theorem dJ0_charAt_5068e_12 : decode cJ0_charAt_5068e 12 = .ok (.invokestatic 495, 3) := by decide +kernel
theorem dJ0_charAt_5068e_15 : decode cJ0_charAt_5068e 15 = .ok (.ireturn, 1) := by decide +kernel
theorem dJ0_charAt_5068e_16 : decode cJ0_charAt_5068e 16 = .ok (.aload_n 0, 1) := by decide +kernel
theorem dJ0_charAt_5068e_17 : decode cJ0_charAt_5068e 17 = .ok (.getfield 9, 3) := by decide +kernel
theorem dJ0_charAt_5068e_20 : decode cJ0_charAt_5068e 20 = .ok (.iload_n 1, 1) := by decide +kernel
theorem dJ0_charAt_5068e_21 : decode cJ0_charAt_5068e 21 = .ok (.invokestatic 498, 3) := by decide +kernel
theorem dJ0_charAt_5068e_24 : decode cJ0_charAt_5068e 24 = .ok (.ireturn, 1) := by decide +kernel
theorem dJ0_valueOf_756af_0 : decode cJ0_valueOf_756af 0 = .ok (.getstatic 38, 3) := by decide +kernel
theorem dJ0_valueOf_756af_3 : decode cJ0_valueOf_756af 3 = .ok (.ifCond .eq 23, 3) := by decide +kernel
theorem dJ0_valueOf_756af_6 : decode cJ0_valueOf_756af 6 = .ok (.iload_n 0, 1) := by decide +kernel
theorem dJ0_valueOf_756af_7 : decode cJ0_valueOf_756af 7 = .ok (.invokestatic 1015, 3) := by decide +kernel
theorem dJ0_valueOf_756af_10 : decode cJ0_valueOf_756af 10 = .ok (.ifCond .eq 16, 3) := by decide +kernel
theorem dJ0_valueOf_756af_13 : decode cJ0_valueOf_756af 13 = .ok (.new 10, 3) := by decide +kernel
theorem dJ0_valueOf_756af_16 : decode cJ0_valueOf_756af 16 = .ok (.dup, 1) := by decide +kernel
theorem dJ0_valueOf_756af_17 : decode cJ0_valueOf_756af 17 = .ok (.iload_n 0, 1) := by decide +kernel
theorem dJ0_valueOf_756af_18 : decode cJ0_valueOf_756af 18 = .ok (.invokestatic 1018, 3) := by decide +kernel
theorem dJ0_valueOf_756af_21 : decode cJ0_valueOf_756af 21 = .ok (.iconst 0, 1) := by decide +kernel
theorem dJ0_valueOf_756af_22 : decode cJ0_valueOf_756af 22 = .ok (.invokespecial 209, 3) := by decide +kernel
theorem dJ0_valueOf_756af_25 : decode cJ0_valueOf_756af 25 = .ok (.areturn, 1) := by decide +kernel
theorem dJ0_valueOf_756af_26 : decode cJ0_valueOf_756af 26 = .ok (.new 10, 3) := by decide +kernel
theorem dJ0_valueOf_756af_29 : decode cJ0_valueOf_756af 29 = .ok (.dup, 1) := by decide +kernel
theorem dJ0_valueOf_756af_30 : decode cJ0_valueOf_756af 30 = .ok (.iload_n 0, 1) := by decide +kernel
theorem dJ0_valueOf_756af_31 : decode cJ0_valueOf_756af 31 = .ok (.invokestatic 1021, 3) := by decide +kernel
theorem dJ0_valueOf_756af_34 : decode cJ0_valueOf_756af 34 = .ok (.iconst 1, 1) := by decide +kernel
theorem dJ0_valueOf_756af_35 : decode cJ0_valueOf_756af 35 = .ok (.invokespecial 209, 3) := by decide +kernel
theorem dJ0_valueOf_756af_38 : decode cJ0_valueOf_756af 38 = .ok (.areturn, 1) := by decide +kernel
theorem dJ0_getBytes_840e7_0 : decode cJ0_getBytes_840e7 0 = .ok (.aload_n 0, 1) := by decide +kernel
theorem dJ0_getBytes_840e7_1 : decode cJ0_getBytes_840e7 1 = .ok (.invokevirtual 335, 3) := by decide +kernel
theorem dJ0_getBytes_840e7_4 : decode cJ0_getBytes_840e7 4 = .ok (.iload_n 3, 1) := by decide +kernel
theorem dJ0_getBytes_840e7_5 : decode cJ0_getBytes_840e7 5 = .ok (.if_icmp .ne 23, 3) := by decide +kernel
theorem dJ0_getBytes_840e7_8 : decode cJ0_getBytes_840e7 8 = .ok (.aload_n 0, 1) := by decide +kernel
theorem dJ0_getBytes_840e7_9 : decode cJ0_getBytes_840e7 9 = .ok (.getfield 9, 3) := by decide +kernel
theorem dJ0_getBytes_840e7_12 : decode cJ0_getBytes_840e7 12 = .ok (.iconst 0, 1) := by decide +kernel
theorem dJ0_getBytes_840e7_13 : decode cJ0_getBytes_840e7 13 = .ok (.aload_n 1, 1) := by decide +kernel
theorem dJ0_getBytes_840e7_14 : decode cJ0_getBytes_840e7 14 = .ok (.iload_n 2, 1) := by decide +kernel
theorem dJ0_getBytes_840e7_15 : decode cJ0_getBytes_840e7 15 = .ok (.iload_n 3, 1) := by decide +kernel
theorem dJ0_getBytes_840e7_16 : decode cJ0_getBytes_840e7 16 = .ok (.ishl, 1) := by decide +kernel
theorem dJ0_getBytes_840e7_17 : decode cJ0_getBytes_840e7 17 = .ok (.aload_n 0, 1) := by decide +kernel
theorem dJ0_getBytes_840e7_18 : decode cJ0_getBytes_840e7 18 = .ok (.getfield 9, 3) := by decide +kernel
theorem dJ0_getBytes_840e7_21 : decode cJ0_getBytes_840e7 21 = .ok (.arraylength, 1) := by decide +kernel
theorem dJ0_getBytes_840e7_22 : decode cJ0_getBytes_840e7 22 = .ok (.invokestatic 212, 3) := by decide +kernel
theorem dJ0_getBytes_840e7_25 : decode cJ0_getBytes_840e7 25 = .ok (.goto 18, 3) := by decide +kernel
theorem dJ0_getBytes_840e7_28 : decode cJ0_getBytes_840e7 28 = .ok (.aload_n 0, 1) := by decide +kernel
theorem dJ0_getBytes_840e7_29 : decode cJ0_getBytes_840e7 29 = .ok (.getfield 9, 3) := by decide +kernel
theorem dJ0_getBytes_840e7_32 : decode cJ0_getBytes_840e7 32 = .ok (.iconst 0, 1) := by decide +kernel
theorem dJ0_getBytes_840e7_33 : decode cJ0_getBytes_840e7 33 = .ok (.aload_n 1, 1) := by decide +kernel
theorem dJ0_getBytes_840e7_34 : decode cJ0_getBytes_840e7 34 = .ok (.iload_n 2, 1) := by decide +kernel
theorem dJ0_getBytes_840e7_35 : decode cJ0_getBytes_840e7 35 = .ok (.aload_n 0, 1) := by decide +kernel
theorem dJ0_getBytes_840e7_36 : decode cJ0_getBytes_840e7 36 = .ok (.getfield 9, 3) := by decide +kernel
theorem dJ0_getBytes_840e7_39 : decode cJ0_getBytes_840e7 39 = .ok (.arraylength, 1) := by decide +kernel
theorem dJ0_getBytes_840e7_40 : decode cJ0_getBytes_840e7 40 = .ok (.invokestatic 106, 3) := by decide +kernel
theorem dJ0_getBytes_840e7_43 : decode cJ0_getBytes_840e7 43 = .ok (.return_, 1) := by decide +kernel
theorem dJ0_init_db425_0 : decode cJ0_init_db425 0 = .ok (.aload_n 0, 1) := by decide +kernel
theorem dJ0_init_db425_1 : decode cJ0_init_db425 1 = .ok (.invokespecial 1, 3) := by decide +kernel
theorem dJ0_init_db425_4 : decode cJ0_init_db425 4 = .ok (.aload_n 1, 1) := by decide +kernel
theorem dJ0_init_db425_5 : decode cJ0_init_db425 5 = .ok (.invokevirtual 552, 3) := by decide +kernel
theorem dJ0_init_db425_8 : decode cJ0_init_db425 8 = .ok (.astore_n 3, 1) := by decide +kernel
theorem dJ0_init_db425_9 : decode cJ0_init_db425 9 = .ok (.aload_n 1, 1) := by decide +kernel
theorem dJ0_init_db425_10 : decode cJ0_init_db425 10 = .ok (.invokevirtual 549, 3) := by decide +kernel
theorem dJ0_init_db425_13 : decode cJ0_init_db425 13 = .ok (.istore 4, 2) := by decide +kernel
theorem dJ0_init_db425_15 : decode cJ0_init_db425 15 = .ok (.aload_n 1, 1) := by decide +kernel
theorem dJ0_init_db425_16 : decode cJ0_init_db425 16 = .ok (.invokevirtual 1047, 3) := by decide +kernel
theorem dJ0_init_db425_19 : decode cJ0_init_db425 19 = .ok (.ifCond .eq 22, 3) := by decide +kernel
theorem dJ0_init_db425_22 : decode cJ0_init_db425 22 = .ok (.aload_n 0, 1) := by decide +kernel
theorem dJ0_init_db425_23 : decode cJ0_init_db425 23 = .ok (.iconst 0, 1) := by decide +kernel
theorem dJ0_init_db425_24 : decode cJ0_init_db425 24 = .ok (.putfield 15, 3) := by decide +kernel
theorem dJ0_init_db425_27 : decode cJ0_init_db425 27 = .ok (.aload_n 0, 1) := by decide +kernel
theorem dJ0_init_db425_28 : decode cJ0_init_db425 28 = .ok (.aload_n 3, 1) := by decide +kernel
theorem dJ0_init_db425_29 : decode cJ0_init_db425 29 = .ok (.iconst 0, 1) := by decide +kernel
theorem dJ0_init_db425_30 : decode cJ0_init_db425 30 = .ok (.iload 4, 2) := by decide +kernel
theorem dJ0_init_db425_32 : decode cJ0_init_db425 32 = .ok (.invokestatic 54, 3) := by decide +kernel
theorem dJ0_init_db425_35 : decode cJ0_init_db425 35 = .ok (.putfield 9, 3) := by decide +kernel
theorem dJ0_init_db425_38 : decode cJ0_init_db425 38 = .ok (.goto 59, 3) := by decide +kernel
theorem dJ0_init_db425_41 : decode cJ0_init_db425 41 = .ok (.getstatic 38, 3) := by decide +kernel
theorem dJ0_init_db425_44 : decode cJ0_init_db425 44 = .ok (.ifCond .eq 35, 3) := by decide +kernel
theorem dJ0_init_db425_47 : decode cJ0_init_db425 47 = .ok (.aload_n 1, 1) := by decide +kernel
theorem dJ0_init_db425_48 : decode cJ0_init_db425 48 = .ok (.getfield 1048, 3) := by decide +kernel
theorem dJ0_init_db425_51 : decode cJ0_init_db425 51 = .ok (.ifCond .eq 28, 3) := by decide +kernel
theorem dJ0_init_db425_54 : decode cJ0_init_db425 54 = .ok (.aload_n 0, 1) := by decide +kernel
theorem dJ0_init_db425_55 : decode cJ0_init_db425 55 = .ok (.aload_n 3, 1) := by decide +kernel
theorem dJ0_init_db425_56 : decode cJ0_init_db425 56 = .ok (.iconst 0, 1) := by decide +kernel
theorem dJ0_init_db425_57 : decode cJ0_init_db425 57 = .ok (.iload 4, 2) := by decide +kernel
theorem dJ0_init_db425_59 : decode cJ0_init_db425 59 = .ok (.invokestatic 1051, 3) := by decide +kernel
theorem dJ0_init_db425_62 : decode cJ0_init_db425 62 = .ok (.putfield 9, 3) := by decide +kernel
theorem dJ0_init_db425_65 : decode cJ0_init_db425 65 = .ok (.aload_n 0, 1) := by decide +kernel
theorem dJ0_init_db425_66 : decode cJ0_init_db425 66 = .ok (.aload_n 0, 1) := by decide +kernel
theorem dJ0_init_db425_67 : decode cJ0_init_db425 67 = .ok (.getfield 9, 3) := by decide +kernel
theorem dJ0_init_db425_70 : decode cJ0_init_db425 70 = .ok (.iload 4, 2) := by decide +kernel
theorem dJ0_init_db425_72 : decode cJ0_init_db425 72 = .ok (.invokestatic 47, 3) := by decide +kernel
theorem dJ0_init_db425_75 : decode cJ0_init_db425 75 = .ok (.putfield 15, 3) := by decide +kernel
theorem dJ0_init_db425_78 : decode cJ0_init_db425 78 = .ok (.return_, 1) := by decide +kernel
theorem dJ0_init_db425_79 : decode cJ0_init_db425 79 = .ok (.aload_n 0, 1) := by decide +kernel
theorem dJ0_init_db425_80 : decode cJ0_init_db425 80 = .ok (.iconst 1, 1) := by decide +kernel
theorem dJ0_init_db425_81 : decode cJ0_init_db425 81 = .ok (.putfield 15, 3) := by decide +kernel
theorem dJ0_init_db425_84 : decode cJ0_init_db425 84 = .ok (.aload_n 0, 1) := by decide +kernel
theorem dJ0_init_db425_85 : decode cJ0_init_db425 85 = .ok (.aload_n 3, 1) := by decide +kernel
theorem dJ0_init_db425_86 : decode cJ0_init_db425 86 = .ok (.iconst 0, 1) := by decide +kernel
theorem dJ0_init_db425_87 : decode cJ0_init_db425 87 = .ok (.iload 4, 2) := by decide +kernel
theorem dJ0_init_db425_89 : decode cJ0_init_db425 89 = .ok (.iconst 1, 1) := by decide +kernel
theorem dJ0_init_db425_90 : decode cJ0_init_db425 90 = .ok (.ishl, 1) := by decide +kernel
theorem dJ0_init_db425_91 : decode cJ0_init_db425 91 = .ok (.invokestatic 54, 3) := by decide +kernel
theorem dJ0_init_db425_94 : decode cJ0_init_db425 94 = .ok (.putfield 9, 3) := by decide +kernel
theorem dJ0_init_db425_97 : decode cJ0_init_db425 97 = .ok (.return_, 1) := by decide +kernel
theorem dJ0_init_031fb_0 : decode cJ0_init_031fb 0 = .ok (.aload_n 0, 1) := by decide +kernel
theorem dJ0_init_031fb_1 : decode cJ0_init_031fb 1 = .ok (.invokespecial 1, 3) := by decide +kernel
theorem dJ0_init_031fb_4 : decode cJ0_init_031fb 4 = .ok (.aload_n 0, 1) := by decide +kernel
theorem dJ0_init_031fb_5 : decode cJ0_init_031fb 5 = .ok (.aload_n 1, 1) := by decide +kernel
theorem dJ0_init_031fb_6 : decode cJ0_init_031fb 6 = .ok (.putfield 9, 3) := by decide +kernel
theorem dJ0_init_031fb_9 : decode cJ0_init_031fb 9 = .ok (.aload_n 0, 1) := by decide +kernel
theorem dJ0_init_031fb_10 : decode cJ0_init_031fb 10 = .ok (.iload_n 2, 1) := by decide +kernel
theorem dJ0_init_031fb_11 : decode cJ0_init_031fb 11 = .ok (.putfield 15, 3) := by decide +kernel
theorem dJ0_init_031fb_14 : decode cJ0_init_031fb 14 = .ok (.return_, 1) := by decide +kernel
theorem dJ0_coder_7d493_0 : decode cJ0_coder_7d493 0 = .ok (.getstatic 38, 3) := by decide +kernel
theorem dJ0_coder_7d493_3 : decode cJ0_coder_7d493 3 = .ok (.ifCond .eq 10, 3) := by decide +kernel
theorem dJ0_coder_7d493_6 : decode cJ0_coder_7d493 6 = .ok (.aload_n 0, 1) := by decide +kernel
theorem dJ0_coder_7d493_7 : decode cJ0_coder_7d493 7 = .ok (.getfield 15, 3) := by decide +kernel
theorem dJ0_coder_7d493_10 : decode cJ0_coder_7d493 10 = .ok (.goto 4, 3) := by decide +kernel
theorem dJ0_coder_7d493_13 : decode cJ0_coder_7d493 13 = .ok (.iconst 1, 1) := by decide +kernel
theorem dJ0_coder_7d493_14 : decode cJ0_coder_7d493 14 = .ok (.ireturn, 1) := by decide +kernel
theorem dJ0_isLatin1_aae02_0 : decode cJ0_isLatin1_aae02 0 = .ok (.getstatic 38, 3) := by decide +kernel
theorem dJ0_isLatin1_aae02_3 : decode cJ0_isLatin1_aae02 3 = .ok (.ifCond .eq 14, 3) := by decide +kernel
theorem dJ0_isLatin1_aae02_6 : decode cJ0_isLatin1_aae02 6 = .ok (.aload_n 0, 1) := by decide +kernel
theorem dJ0_isLatin1_aae02_7 : decode cJ0_isLatin1_aae02 7 = .ok (.getfield 15, 3) := by decide +kernel
theorem dJ0_isLatin1_aae02_10 : decode cJ0_isLatin1_aae02 10 = .ok (.ifCond .ne 7, 3) := by decide +kernel
theorem dJ0_isLatin1_aae02_13 : decode cJ0_isLatin1_aae02 13 = .ok (.iconst 1, 1) := by decide +kernel
theorem dJ0_isLatin1_aae02_14 : decode cJ0_isLatin1_aae02 14 = .ok (.goto 4, 3) := by decide +kernel
theorem dJ0_isLatin1_aae02_17 : decode cJ0_isLatin1_aae02 17 = .ok (.iconst 0, 1) := by decide +kernel
theorem dJ0_isLatin1_aae02_18 : decode cJ0_isLatin1_aae02 18 = .ok (.ireturn, 1) := by decide +kernel
theorem dJ0_checkIndex_df160_0 : decode cJ0_checkIndex_df160 0 = .ok (.iload_n 0, 1) := by decide +kernel
theorem dJ0_checkIndex_df160_1 : decode cJ0_checkIndex_df160 1 = .ok (.iload_n 1, 1) := by decide +kernel
theorem dJ0_checkIndex_df160_2 : decode cJ0_checkIndex_df160 2 = .ok (.getstatic 1053, 3) := by decide +kernel
theorem dJ0_checkIndex_df160_5 : decode cJ0_checkIndex_df160 5 = .ok (.invokestatic 1059, 3) := by decide +kernel
theorem dJ0_checkIndex_df160_8 : decode cJ0_checkIndex_df160 8 = .ok (.pop, 1) := by decide +kernel
theorem dJ0_checkIndex_df160_9 : decode cJ0_checkIndex_df160 9 = .ok (.return_, 1) := by decide +kernel
theorem dJ0_checkBoundsOffCount_cabcc_0 : decode cJ0_checkBoundsOffCount_cabcc 0 = .ok (.iload_n 0, 1) := by decide +kernel
theorem dJ0_checkBoundsOffCount_cabcc_1 : decode cJ0_checkBoundsOffCount_cabcc 1 = .ok (.iload_n 1, 1) := by decide +kernel
theorem dJ0_checkBoundsOffCount_cabcc_2 : decode cJ0_checkBoundsOffCount_cabcc 2 = .ok (.iload_n 2, 1) := by decide +kernel
theorem dJ0_checkBoundsOffCount_cabcc_3 : decode cJ0_checkBoundsOffCount_cabcc 3 = .ok (.getstatic 1053, 3) := by decide +kernel
theorem dJ0_checkBoundsOffCount_cabcc_6 : decode cJ0_checkBoundsOffCount_cabcc 6 = .ok (.invokestatic 1065, 3) := by decide +kernel
theorem dJ0_checkBoundsOffCount_cabcc_9 : decode cJ0_checkBoundsOffCount_cabcc 9 = .ok (.ireturn, 1) := by decide +kernel
theorem dJ0_checkBoundsBeginEnd_23922_0 : decode cJ0_checkBoundsBeginEnd_23922 0 = .ok (.iload_n 0, 1) := by decide +kernel
theorem dJ0_checkBoundsBeginEnd_23922_1 : decode cJ0_checkBoundsBeginEnd_23922 1 = .ok (.iload_n 1, 1) := by decide +kernel
theorem dJ0_checkBoundsBeginEnd_23922_2 : decode cJ0_checkBoundsBeginEnd_23922 2 = .ok (.iload_n 2, 1) := by decide +kernel
theorem dJ0_checkBoundsBeginEnd_23922_3 : decode cJ0_checkBoundsBeginEnd_23922 3 = .ok (.getstatic 1053, 3) := by decide +kernel
theorem dJ0_checkBoundsBeginEnd_23922_6 : decode cJ0_checkBoundsBeginEnd_23922 6 = .ok (.invokestatic 1062, 3) := by decide +kernel
theorem dJ0_checkBoundsBeginEnd_23922_9 : decode cJ0_checkBoundsBeginEnd_23922 9 = .ok (.pop, 1) := by decide +kernel
theorem dJ0_checkBoundsBeginEnd_23922_10 : decode cJ0_checkBoundsBeginEnd_23922 10 = .ok (.return_, 1) := by decide +kernel
theorem dJ4_init_da8c8_0 : decode cJ4_init_da8c8 0 = .ok (.aload_n 0, 1) := by decide +kernel
theorem dJ4_init_da8c8_1 : decode cJ4_init_da8c8 1 = .ok (.bipush 16, 2) := by decide +kernel
theorem dJ4_init_da8c8_3 : decode cJ4_init_da8c8 3 = .ok (.invokespecial 1, 3) := by decide +kernel
theorem dJ4_init_da8c8_6 : decode cJ4_init_da8c8 6 = .ok (.return_, 1) := by decide +kernel
theorem dJ4_append_15ec4_0 : decode cJ4_append_15ec4 0 = .ok (.aload_n 0, 1) := by decide +kernel
theorem dJ4_append_15ec4_1 : decode cJ4_append_15ec4 1 = .ok (.aload_n 1, 1) := by decide +kernel
theorem dJ4_append_15ec4_2 : decode cJ4_append_15ec4 2 = .ok (.invokespecial 29, 3) := by decide +kernel
theorem dJ4_append_15ec4_5 : decode cJ4_append_15ec4 5 = .ok (.pop, 1) := by decide +kernel
theorem dJ4_append_15ec4_6 : decode cJ4_append_15ec4 6 = .ok (.aload_n 0, 1) := by decide +kernel
theorem dJ4_append_15ec4_7 : decode cJ4_append_15ec4 7 = .ok (.areturn, 1) := by decide +kernel
theorem dJ4_append_cf468_0 : decode cJ4_append_cf468 0 = .ok (.aload_n 0, 1) := by decide +kernel
theorem dJ4_append_cf468_1 : decode cJ4_append_cf468 1 = .ok (.iload_n 1, 1) := by decide +kernel
theorem dJ4_append_cf468_2 : decode cJ4_append_cf468 2 = .ok (.invokespecial 50, 3) := by decide +kernel
theorem dJ4_append_cf468_5 : decode cJ4_append_cf468 5 = .ok (.pop, 1) := by decide +kernel
theorem dJ4_append_cf468_6 : decode cJ4_append_cf468 6 = .ok (.aload_n 0, 1) := by decide +kernel
theorem dJ4_append_cf468_7 : decode cJ4_append_cf468 7 = .ok (.areturn, 1) := by decide +kernel
theorem dJ4_append_bf812_0 : decode cJ4_append_bf812 0 = .ok (.aload_n 0, 1) := by decide +kernel
theorem dJ4_append_bf812_1 : decode cJ4_append_bf812 1 = .ok (.iload_n 1, 1) := by decide +kernel
theorem dJ4_append_bf812_2 : decode cJ4_append_bf812 2 = .ok (.invokespecial 53, 3) := by decide +kernel
theorem dJ4_append_bf812_5 : decode cJ4_append_bf812 5 = .ok (.pop, 1) := by decide +kernel
theorem dJ4_append_bf812_6 : decode cJ4_append_bf812 6 = .ok (.aload_n 0, 1) := by decide +kernel
theorem dJ4_append_bf812_7 : decode cJ4_append_bf812 7 = .ok (.areturn, 1) := by decide +kernel
theorem dJ4_toString_0e30d_0 : decode cJ4_toString_0e30d 0 = .ok (.new 18, 3) := by decide +kernel
theorem dJ4_toString_0e30d_3 : decode cJ4_toString_0e30d 3 = .ok (.dup, 1) := by decide +kernel
theorem dJ4_toString_0e30d_4 : decode cJ4_toString_0e30d 4 = .ok (.aload_n 0, 1) := by decide +kernel
theorem dJ4_toString_0e30d_5 : decode cJ4_toString_0e30d 5 = .ok (.invokespecial 137, 3) := by decide +kernel
theorem dJ4_toString_0e30d_8 : decode cJ4_toString_0e30d 8 = .ok (.areturn, 1) := by decide +kernel
theorem dJ4_length_8abf5_0 : decode cJ4_length_8abf5 0 = .ok (.aload_n 0, 1) := by decide +kernel
theorem dJ4_length_8abf5_1 : decode cJ4_length_8abf5 1 = .ok (.invokespecial 343, 3) := by decide +kernel
theorem dJ4_length_8abf5_4 : decode cJ4_length_8abf5 4 = .ok (.ireturn, 1) := by decide +kernel
theorem dJ1_charAt_3b067_0 : decode cJ1_charAt_3b067 0 = .ok (.iload_n 1, 1) := by decide +kernel
theorem dJ1_charAt_3b067_1 : decode cJ1_charAt_3b067 1 = .ok (.aload_n 0, 1) := by decide +kernel
theorem dJ1_charAt_3b067_2 : decode cJ1_charAt_3b067 2 = .ok (.arraylength, 1) := by decide +kernel
theorem dJ1_charAt_3b067_3 : decode cJ1_charAt_3b067 3 = .ok (.invokestatic 9, 3) := by decide +kernel
theorem dJ1_charAt_3b067_6 : decode cJ1_charAt_3b067 6 = .ok (.aload_n 0, 1) := by decide +kernel
theorem dJ1_charAt_3b067_7 : decode cJ1_charAt_3b067 7 = .ok (.iload_n 1, 1) := by decide +kernel
theorem dJ1_charAt_3b067_8 : decode cJ1_charAt_3b067 8 = .ok (.baload, 1) := by decide +kernel
theorem dJ1_charAt_3b067_9 : decode cJ1_charAt_3b067 9 = .ok (.sipush 255, 3) := by decide +kernel
theorem dJ1_charAt_3b067_12 : decode cJ1_charAt_3b067 12 = .ok (.iand, 1) := by decide +kernel
theorem dJ1_charAt_3b067_13 : decode cJ1_charAt_3b067 13 = .ok (.i2c, 1) := by decide +kernel
theorem dJ1_charAt_3b067_14 : decode cJ1_charAt_3b067 14 = .ok (.ireturn, 1) := by decide +kernel
theorem dJ1_canEncode_fc78d_0 : decode cJ1_canEncode_fc78d 0 = .ok (.iload_n 0, 1) := by decide +kernel
theorem dJ1_canEncode_fc78d_1 : decode cJ1_canEncode_fc78d 1 = .ok (.sipush 255, 3) := by decide +kernel
theorem dJ1_canEncode_fc78d_4 : decode cJ1_canEncode_fc78d 4 = .ok (.if_icmp .gt 7, 3) := by decide +kernel
theorem dJ1_canEncode_fc78d_7 : decode cJ1_canEncode_fc78d 7 = .ok (.iconst 1, 1) := by decide +kernel
theorem dJ1_canEncode_fc78d_8 : decode cJ1_canEncode_fc78d 8 = .ok (.goto 4, 3) := by decide +kernel
theorem dJ1_canEncode_fc78d_11 : decode cJ1_canEncode_fc78d 11 = .ok (.iconst 0, 1) := by decide +kernel
theorem dJ1_canEncode_fc78d_12 : decode cJ1_canEncode_fc78d 12 = .ok (.ireturn, 1) := by decide +kernel
theorem dJ1_toBytes_a14e5_0 : decode cJ1_toBytes_a14e5 0 = .ok (.iconst 1, 1) := by decide +kernel
theorem dJ1_toBytes_a14e5_1 : decode cJ1_toBytes_a14e5 1 = .ok (.newarray .byte, 2) := by decide +kernel
theorem dJ1_toBytes_a14e5_3 : decode cJ1_toBytes_a14e5 3 = .ok (.dup, 1) := by decide +kernel
theorem dJ1_toBytes_a14e5_4 : decode cJ1_toBytes_a14e5 4 = .ok (.iconst 0, 1) := by decide +kernel
theorem dJ1_toBytes_a14e5_5 : decode cJ1_toBytes_a14e5 5 = .ok (.iload_n 0, 1) := by decide +kernel
theorem dJ1_toBytes_a14e5_6 : decode cJ1_toBytes_a14e5 6 = .ok (.i2b, 1) := by decide +kernel
theorem dJ1_toBytes_a14e5_7 : decode cJ1_toBytes_a14e5 7 = .ok (.bastore, 1) := by decide +kernel
theorem dJ1_toBytes_a14e5_8 : decode cJ1_toBytes_a14e5 8 = .ok (.areturn, 1) := by decide +kernel
theorem dJ1_inflate_0e8fd_0 : decode cJ1_inflate_0e8fd 0 = .ok (.aload_n 0, 1) := by decide +kernel
theorem dJ1_inflate_0e8fd_1 : decode cJ1_inflate_0e8fd 1 = .ok (.iload_n 1, 1) := by decide +kernel
theorem dJ1_inflate_0e8fd_2 : decode cJ1_inflate_0e8fd 2 = .ok (.aload_n 2, 1) := by decide +kernel
theorem dJ1_inflate_0e8fd_3 : decode cJ1_inflate_0e8fd 3 = .ok (.iload_n 3, 1) := by decide +kernel
theorem dJ1_inflate_0e8fd_4 : decode cJ1_inflate_0e8fd 4 = .ok (.iload 4, 2) := by decide +kernel
theorem dJ1_inflate_0e8fd_6 : decode cJ1_inflate_0e8fd 6 = .ok (.invokestatic 240, 3) := by decide +kernel
theorem dJ1_inflate_0e8fd_9 : decode cJ1_inflate_0e8fd 9 = .ok (.return_, 1) := by decide +kernel
theorem dJ2_newBytesFor_77867_0 : decode cJ2_newBytesFor_77867 0 = .ok (.iload_n 0, 1) := by decide +kernel
theorem dJ2_newBytesFor_77867_1 : decode cJ2_newBytesFor_77867 1 = .ok (.invokestatic 11, 3) := by decide +kernel
theorem dJ2_newBytesFor_77867_4 : decode cJ2_newBytesFor_77867 4 = .ok (.newarray .byte, 2) := by decide +kernel
theorem dJ2_newBytesFor_77867_6 : decode cJ2_newBytesFor_77867 6 = .ok (.areturn, 1) := by decide +kernel
theorem dJ2_newBytesLength_0f7a4_0 : decode cJ2_newBytesLength_0f7a4 0 = .ok (.iload_n 0, 1) := by decide +kernel
theorem dJ2_newBytesLength_0f7a4_1 : decode cJ2_newBytesLength_0f7a4 1 = .ok (.ifCond .ge 11, 3) := by decide +kernel
theorem dJ2_newBytesLength_0f7a4_4 : decode cJ2_newBytesLength_0f7a4 4 = .ok (.new 17, 3) := by decide +kernel
theorem dJ2_newBytesLength_0f7a4_7 : decode cJ2_newBytesLength_0f7a4 7 = .ok (.dup, 1) := by decide +kernel
theorem dJ2_newBytesLength_0f7a4_8 : decode cJ2_newBytesLength_0f7a4 8 = .ok (.invokespecial 19, 3) := by decide +kernel
theorem dJ2_newBytesLength_0f7a4_11 : decode cJ2_newBytesLength_0f7a4 11 = .ok (.athrow, 1) := by decide +kernel
theorem dJ2_newBytesLength_0f7a4_12 : decode cJ2_newBytesLength_0f7a4 12 = .ok (.iload_n 0, 1) := by decide +kernel
theorem dJ2_newBytesLength_0f7a4_13 : decode cJ2_newBytesLength_0f7a4 13 = .ok (.ldc 20, 2) := by decide +kernel
theorem dJ2_newBytesLength_0f7a4_15 : decode cJ2_newBytesLength_0f7a4 15 = .ok (.if_icmp .lt 40, 3) := by decide +kernel
theorem dJ2_newBytesLength_0f7a4_18 : decode cJ2_newBytesLength_0f7a4 18 = .ok (.new 21, 3) := by decide +kernel
theorem dJ2_newBytesLength_0f7a4_21 : decode cJ2_newBytesLength_0f7a4 21 = .ok (.dup, 1) := by decide +kernel
theorem dJ2_newBytesLength_0f7a4_22 : decode cJ2_newBytesLength_0f7a4 22 = .ok (.new 23, 3) := by decide +kernel
theorem dJ2_newBytesLength_0f7a4_25 : decode cJ2_newBytesLength_0f7a4 25 = .ok (.dup, 1) := by decide +kernel
theorem dJ2_newBytesLength_0f7a4_26 : decode cJ2_newBytesLength_0f7a4 26 = .ok (.invokespecial 25, 3) := by decide +kernel
theorem dJ2_newBytesLength_0f7a4_29 : decode cJ2_newBytesLength_0f7a4 29 = .ok (.ldc 26, 2) := by decide +kernel
theorem dJ2_newBytesLength_0f7a4_31 : decode cJ2_newBytesLength_0f7a4 31 = .ok (.invokevirtual 28, 3) := by decide +kernel
theorem dJ2_newBytesLength_0f7a4_34 : decode cJ2_newBytesLength_0f7a4 34 = .ok (.iload_n 0, 1) := by decide +kernel
theorem dJ2_newBytesLength_0f7a4_35 : decode cJ2_newBytesLength_0f7a4 35 = .ok (.invokevirtual 32, 3) := by decide +kernel
theorem dJ2_newBytesLength_0f7a4_38 : decode cJ2_newBytesLength_0f7a4 38 = .ok (.ldc 35, 2) := by decide +kernel
theorem dJ2_newBytesLength_0f7a4_40 : decode cJ2_newBytesLength_0f7a4 40 = .ok (.invokevirtual 28, 3) := by decide +kernel
theorem dJ2_newBytesLength_0f7a4_43 : decode cJ2_newBytesLength_0f7a4 43 = .ok (.ldc 20, 2) := by decide +kernel
theorem dJ2_newBytesLength_0f7a4_45 : decode cJ2_newBytesLength_0f7a4 45 = .ok (.invokevirtual 32, 3) := by decide +kernel
theorem dJ2_newBytesLength_0f7a4_48 : decode cJ2_newBytesLength_0f7a4 48 = .ok (.invokevirtual 37, 3) := by decide +kernel
theorem dJ2_newBytesLength_0f7a4_51 : decode cJ2_newBytesLength_0f7a4 51 = .ok (.invokespecial 41, 3) := by decide +kernel
theorem dJ2_newBytesLength_0f7a4_54 : decode cJ2_newBytesLength_0f7a4 54 = .ok (.athrow, 1) := by decide +kernel
theorem dJ2_newBytesLength_0f7a4_55 : decode cJ2_newBytesLength_0f7a4 55 = .ok (.iload_n 0, 1) := by decide +kernel
theorem dJ2_newBytesLength_0f7a4_56 : decode cJ2_newBytesLength_0f7a4 56 = .ok (.iconst 1, 1) := by decide +kernel
theorem dJ2_newBytesLength_0f7a4_57 : decode cJ2_newBytesLength_0f7a4 57 = .ok (.ishl, 1) := by decide +kernel
theorem dJ2_newBytesLength_0f7a4_58 : decode cJ2_newBytesLength_0f7a4 58 = .ok (.ireturn, 1) := by decide +kernel
theorem dJ2_putChar_b72d1_0 : decode cJ2_putChar_b72d1 0 = .ok (.getstatic 44, 3) := by decide +kernel
theorem dJ2_putChar_b72d1_3 : decode cJ2_putChar_b72d1 3 = .ok (.ifCond .ne 25, 3) := by decide +kernel
theorem dJ2_putChar_b72d1_6 : decode cJ2_putChar_b72d1 6 = .ok (.iload_n 1, 1) := by decide +kernel
theorem dJ2_putChar_b72d1_7 : decode cJ2_putChar_b72d1 7 = .ok (.ifCond .lt 11, 3) := by decide +kernel
theorem dJ2_putChar_b72d1_10 : decode cJ2_putChar_b72d1 10 = .ok (.iload_n 1, 1) := by decide +kernel
theorem dJ2_putChar_b72d1_11 : decode cJ2_putChar_b72d1 11 = .ok (.aload_n 0, 1) := by decide +kernel
theorem dJ2_putChar_b72d1_12 : decode cJ2_putChar_b72d1 12 = .ok (.invokestatic 48, 3) := by decide +kernel
theorem dJ2_putChar_b72d1_15 : decode cJ2_putChar_b72d1 15 = .ok (.if_icmp .lt 13, 3) := by decide +kernel
theorem dJ2_putChar_b72d1_18 : decode cJ2_putChar_b72d1 18 = .ok (.new 52, 3) := by decide +kernel
theorem dJ2_putChar_b72d1_21 : decode cJ2_putChar_b72d1 21 = .ok (.dup, 1) := by decide +kernel
theorem dJ2_putChar_b72d1_22 : decode cJ2_putChar_b72d1 22 = .ok (.ldc 54, 2) := by decide +kernel
theorem dJ2_putChar_b72d1_24 : decode cJ2_putChar_b72d1 24 = .ok (.invokespecial 56, 3) := by decide +kernel
theorem dJ2_putChar_b72d1_27 : decode cJ2_putChar_b72d1 27 = .ok (.athrow, 1) := by decide +kernel
theorem dJ2_putChar_b72d1_28 : decode cJ2_putChar_b72d1 28 = .ok (.iload_n 1, 1) := by decide +kernel
theorem dJ2_putChar_b72d1_29 : decode cJ2_putChar_b72d1 29 = .ok (.iconst 1, 1) := by decide +kernel
theorem dJ2_putChar_b72d1_30 : decode cJ2_putChar_b72d1 30 = .ok (.ishl, 1) := by decide +kernel
theorem dJ2_putChar_b72d1_31 : decode cJ2_putChar_b72d1 31 = .ok (.istore_n 1, 1) := by decide +kernel
theorem dJ2_putChar_b72d1_32 : decode cJ2_putChar_b72d1 32 = .ok (.aload_n 0, 1) := by decide +kernel
theorem dJ2_putChar_b72d1_33 : decode cJ2_putChar_b72d1 33 = .ok (.iload_n 1, 1) := by decide +kernel
theorem dJ2_putChar_b72d1_34 : decode cJ2_putChar_b72d1 34 = .ok (.iinc 1 1, 3) := by decide +kernel
theorem dJ2_putChar_b72d1_37 : decode cJ2_putChar_b72d1 37 = .ok (.iload_n 2, 1) := by decide +kernel
theorem dJ2_putChar_b72d1_38 : decode cJ2_putChar_b72d1 38 = .ok (.getstatic 59, 3) := by decide +kernel
theorem dJ2_putChar_b72d1_41 : decode cJ2_putChar_b72d1 41 = .ok (.ishr, 1) := by decide +kernel
theorem dJ2_putChar_b72d1_42 : decode cJ2_putChar_b72d1 42 = .ok (.i2b, 1) := by decide +kernel
theorem dJ2_putChar_b72d1_43 : decode cJ2_putChar_b72d1 43 = .ok (.bastore, 1) := by decide +kernel
theorem dJ2_putChar_b72d1_44 : decode cJ2_putChar_b72d1 44 = .ok (.aload_n 0, 1) := by decide +kernel
theorem dJ2_putChar_b72d1_45 : decode cJ2_putChar_b72d1 45 = .ok (.iload_n 1, 1) := by decide +kernel
theorem dJ2_putChar_b72d1_46 : decode cJ2_putChar_b72d1 46 = .ok (.iload_n 2, 1) := by decide +kernel
theorem dJ2_putChar_b72d1_47 : decode cJ2_putChar_b72d1 47 = .ok (.getstatic 63, 3) := by decide +kernel
theorem dJ2_putChar_b72d1_50 : decode cJ2_putChar_b72d1 50 = .ok (.ishr, 1) := by decide +kernel
theorem dJ2_putChar_b72d1_51 : decode cJ2_putChar_b72d1 51 = .ok (.i2b, 1) := by decide +kernel
theorem dJ2_putChar_b72d1_52 : decode cJ2_putChar_b72d1 52 = .ok (.bastore, 1) := by decide +kernel
theorem dJ2_putChar_b72d1_53 : decode cJ2_putChar_b72d1 53 = .ok (.return_, 1) := by decide +kernel
theorem dJ2_getChar_3b067_0 : decode cJ2_getChar_3b067 0 = .ok (.getstatic 44, 3) := by decide +kernel
theorem dJ2_getChar_3b067_3 : decode cJ2_getChar_3b067 3 = .ok (.ifCond .ne 25, 3) := by decide +kernel
theorem dJ2_getChar_3b067_6 : decode cJ2_getChar_3b067 6 = .ok (.iload_n 1, 1) := by decide +kernel
theorem dJ2_getChar_3b067_7 : decode cJ2_getChar_3b067 7 = .ok (.ifCond .lt 11, 3) := by decide +kernel
theorem dJ2_getChar_3b067_10 : decode cJ2_getChar_3b067 10 = .ok (.iload_n 1, 1) := by decide +kernel
theorem dJ2_getChar_3b067_11 : decode cJ2_getChar_3b067 11 = .ok (.aload_n 0, 1) := by decide +kernel
theorem dJ2_getChar_3b067_12 : decode cJ2_getChar_3b067 12 = .ok (.invokestatic 48, 3) := by decide +kernel
theorem dJ2_getChar_3b067_15 : decode cJ2_getChar_3b067 15 = .ok (.if_icmp .lt 13, 3) := by decide +kernel
theorem dJ2_getChar_3b067_18 : decode cJ2_getChar_3b067 18 = .ok (.new 52, 3) := by decide +kernel
theorem dJ2_getChar_3b067_21 : decode cJ2_getChar_3b067 21 = .ok (.dup, 1) := by decide +kernel
theorem dJ2_getChar_3b067_22 : decode cJ2_getChar_3b067 22 = .ok (.ldc 54, 2) := by decide +kernel
theorem dJ2_getChar_3b067_24 : decode cJ2_getChar_3b067 24 = .ok (.invokespecial 56, 3) := by decide +kernel
theorem dJ2_getChar_3b067_27 : decode cJ2_getChar_3b067 27 = .ok (.athrow, 1) := by decide +kernel
theorem dJ2_getChar_3b067_28 : decode cJ2_getChar_3b067 28 = .ok (.iload_n 1, 1) := by decide +kernel
theorem dJ2_getChar_3b067_29 : decode cJ2_getChar_3b067 29 = .ok (.iconst 1, 1) := by decide +kernel
theorem dJ2_getChar_3b067_30 : decode cJ2_getChar_3b067 30 = .ok (.ishl, 1) := by decide +kernel
theorem dJ2_getChar_3b067_31 : decode cJ2_getChar_3b067 31 = .ok (.istore_n 1, 1) := by decide +kernel
theorem dJ2_getChar_3b067_32 : decode cJ2_getChar_3b067 32 = .ok (.aload_n 0, 1) := by decide +kernel
theorem dJ2_getChar_3b067_33 : decode cJ2_getChar_3b067 33 = .ok (.iload_n 1, 1) := by decide +kernel
theorem dJ2_getChar_3b067_34 : decode cJ2_getChar_3b067 34 = .ok (.iinc 1 1, 3) := by decide +kernel
theorem dJ2_getChar_3b067_37 : decode cJ2_getChar_3b067 37 = .ok (.baload, 1) := by decide +kernel
theorem dJ2_getChar_3b067_38 : decode cJ2_getChar_3b067 38 = .ok (.sipush 255, 3) := by decide +kernel
theorem dJ2_getChar_3b067_41 : decode cJ2_getChar_3b067 41 = .ok (.iand, 1) := by decide +kernel
theorem dJ2_getChar_3b067_42 : decode cJ2_getChar_3b067 42 = .ok (.getstatic 59, 3) := by decide +kernel
theorem dJ2_getChar_3b067_45 : decode cJ2_getChar_3b067 45 = .ok (.ishl, 1) := by decide +kernel
theorem dJ2_getChar_3b067_46 : decode cJ2_getChar_3b067 46 = .ok (.aload_n 0, 1) := by decide +kernel
theorem dJ2_getChar_3b067_47 : decode cJ2_getChar_3b067 47 = .ok (.iload_n 1, 1) := by decide +kernel
theorem dJ2_getChar_3b067_48 : decode cJ2_getChar_3b067 48 = .ok (.baload, 1) := by decide +kernel
theorem dJ2_getChar_3b067_49 : decode cJ2_getChar_3b067 49 = .ok (.sipush 255, 3) := by decide +kernel
theorem dJ2_getChar_3b067_52 : decode cJ2_getChar_3b067 52 = .ok (.iand, 1) := by decide +kernel
theorem dJ2_getChar_3b067_53 : decode cJ2_getChar_3b067 53 = .ok (.getstatic 63, 3) := by decide +kernel
theorem dJ2_getChar_3b067_56 : decode cJ2_getChar_3b067 56 = .ok (.ishl, 1) := by decide +kernel
theorem dJ2_getChar_3b067_57 : decode cJ2_getChar_3b067 57 = .ok (.ior, 1) := by decide +kernel
theorem dJ2_getChar_3b067_58 : decode cJ2_getChar_3b067 58 = .ok (.i2c, 1) := by decide +kernel
theorem dJ2_getChar_3b067_59 : decode cJ2_getChar_3b067 59 = .ok (.ireturn, 1) := by decide +kernel
theorem dJ2_length_9d52b_0 : decode cJ2_length_9d52b 0 = .ok (.aload_n 0, 1) := by decide +kernel
theorem dJ2_length_9d52b_1 : decode cJ2_length_9d52b 1 = .ok (.arraylength, 1) := by decide +kernel
theorem dJ2_length_9d52b_2 : decode cJ2_length_9d52b 2 = .ok (.iconst 1, 1) := by decide +kernel
theorem dJ2_length_9d52b_3 : decode cJ2_length_9d52b 3 = .ok (.ishr, 1) := by decide +kernel
theorem dJ2_length_9d52b_4 : decode cJ2_length_9d52b 4 = .ok (.ireturn, 1) := by decide +kernel
theorem dJ2_coderFromArrayLen_85cad_0 : decode cJ2_coderFromArrayLen_85cad 0 = .ok (.iload_n 1, 1) := by decide +kernel
theorem dJ2_coderFromArrayLen_85cad_1 : decode cJ2_coderFromArrayLen_85cad 1 = .ok (.aload_n 0, 1) := by decide +kernel
theorem dJ2_coderFromArrayLen_85cad_2 : decode cJ2_coderFromArrayLen_85cad 2 = .ok (.arraylength, 1) := by decide +kernel
theorem dJ2_coderFromArrayLen_85cad_3 : decode cJ2_coderFromArrayLen_85cad 3 = .ok (.isub, 1) := by decide +kernel
theorem dJ2_coderFromArrayLen_85cad_4 : decode cJ2_coderFromArrayLen_85cad 4 = .ok (.bipush 31, 2) := by decide +kernel
theorem dJ2_coderFromArrayLen_85cad_6 : decode cJ2_coderFromArrayLen_85cad 6 = .ok (.iushr, 1) := by decide +kernel
theorem dJ2_coderFromArrayLen_85cad_7 : decode cJ2_coderFromArrayLen_85cad 7 = .ok (.i2b, 1) := by decide +kernel
theorem dJ2_coderFromArrayLen_85cad_8 : decode cJ2_coderFromArrayLen_85cad 8 = .ok (.ireturn, 1) := by decide +kernel
theorem dJ2_compress_39247_0 : decode cJ2_compress_39247 0 = .ok (.iload_n 2, 1) := by decide +kernel
theorem dJ2_compress_39247_1 : decode cJ2_compress_39247 1 = .ok (.newarray .byte, 2) := by decide +kernel
theorem dJ2_compress_39247_3 : decode cJ2_compress_39247 3 = .ok (.astore_n 3, 1) := by decide +kernel
theorem dJ2_compress_39247_4 : decode cJ2_compress_39247 4 = .ok (.aload_n 0, 1) := by decide +kernel
theorem dJ2_compress_39247_5 : decode cJ2_compress_39247 5 = .ok (.iload_n 1, 1) := by decide +kernel
theorem dJ2_compress_39247_6 : decode cJ2_compress_39247 6 = .ok (.aload_n 3, 1) := by decide +kernel
theorem dJ2_compress_39247_7 : decode cJ2_compress_39247 7 = .ok (.iconst 0, 1) := by decide +kernel
theorem dJ2_compress_39247_8 : decode cJ2_compress_39247 8 = .ok (.iload_n 2, 1) := by decide +kernel
theorem dJ2_compress_39247_9 : decode cJ2_compress_39247 9 = .ok (.invokestatic 123, 3) := by decide +kernel
theorem dJ2_compress_39247_12 : decode cJ2_compress_39247 12 = .ok (.istore 4, 2) := by decide +kernel
theorem dJ2_compress_39247_14 : decode cJ2_compress_39247 14 = .ok (.iload 4, 2) := by decide +kernel
theorem dJ2_compress_39247_16 : decode cJ2_compress_39247 16 = .ok (.iload_n 2, 1) := by decide +kernel
theorem dJ2_compress_39247_17 : decode cJ2_compress_39247 17 = .ok (.if_icmp .eq 47, 3) := by decide +kernel
theorem dJ2_compress_39247_20 : decode cJ2_compress_39247 20 = .ok (.aload_n 0, 1) := by decide +kernel
theorem dJ2_compress_39247_21 : decode cJ2_compress_39247 21 = .ok (.iload_n 1, 1) := by decide +kernel
theorem dJ2_compress_39247_22 : decode cJ2_compress_39247 22 = .ok (.iconst 1, 1) := by decide +kernel
theorem dJ2_compress_39247_23 : decode cJ2_compress_39247 23 = .ok (.ishl, 1) := by decide +kernel
theorem dJ2_compress_39247_24 : decode cJ2_compress_39247 24 = .ok (.iload_n 1, 1) := by decide +kernel
theorem dJ2_compress_39247_25 : decode cJ2_compress_39247 25 = .ok (.iload_n 2, 1) := by decide +kernel
theorem dJ2_compress_39247_26 : decode cJ2_compress_39247 26 = .ok (.iadd, 1) := by decide +kernel
theorem dJ2_compress_39247_27 : decode cJ2_compress_39247 27 = .ok (.invokestatic 11, 3) := by decide +kernel
theorem dJ2_compress_39247_30 : decode cJ2_compress_39247 30 = .ok (.invokestatic 126, 3) := by decide +kernel
theorem dJ2_compress_39247_33 : decode cJ2_compress_39247 33 = .ok (.astore 5, 2) := by decide +kernel
theorem dJ2_compress_39247_35 : decode cJ2_compress_39247 35 = .ok (.aload 5, 2) := by decide +kernel
theorem dJ2_compress_39247_37 : decode cJ2_compress_39247 37 = .ok (.iload 4, 2) := by decide +kernel
theorem dJ2_compress_39247_39 : decode cJ2_compress_39247 39 = .ok (.invokestatic 71, 3) := by decide +kernel
theorem dJ2_compress_39247_42 : decode cJ2_compress_39247 42 = .ok (.sipush 255, 3) := by decide +kernel
theorem dJ2_compress_39247_45 : decode cJ2_compress_39247 45 = .ok (.if_icmp .gt 16, 3) := by decide +kernel
theorem dJ2_compress_39247_48 : decode cJ2_compress_39247 48 = .ok (.aload 5, 2) := by decide +kernel
theorem dJ2_compress_39247_50 : decode cJ2_compress_39247 50 = .ok (.iconst 0, 1) := by decide +kernel
theorem dJ2_compress_39247_51 : decode cJ2_compress_39247 51 = .ok (.aload_n 3, 1) := by decide +kernel
theorem dJ2_compress_39247_52 : decode cJ2_compress_39247 52 = .ok (.iconst 0, 1) := by decide +kernel
theorem dJ2_compress_39247_53 : decode cJ2_compress_39247 53 = .ok (.iload_n 2, 1) := by decide +kernel
theorem dJ2_compress_39247_54 : decode cJ2_compress_39247 54 = .ok (.invokestatic 123, 3) := by decide +kernel
theorem dJ2_compress_39247_57 : decode cJ2_compress_39247 57 = .ok (.iload_n 2, 1) := by decide +kernel
theorem dJ2_compress_39247_58 : decode cJ2_compress_39247 58 = .ok (.if_icmp .eq 6, 3) := by decide +kernel
theorem dJ2_compress_39247_61 : decode cJ2_compress_39247 61 = .ok (.aload 5, 2) := by decide +kernel
theorem dJ2_compress_39247_63 : decode cJ2_compress_39247 63 = .ok (.areturn, 1) := by decide +kernel
theorem dJ2_compress_39247_64 : decode cJ2_compress_39247 64 = .ok (.aload_n 3, 1) := by decide +kernel
theorem dJ2_compress_39247_65 : decode cJ2_compress_39247 65 = .ok (.areturn, 1) := by decide +kernel
theorem dJ2_compress_5af95_0 : decode cJ2_compress_5af95 0 = .ok (.iload_n 1, 1) := by decide +kernel
theorem dJ2_compress_5af95_1 : decode cJ2_compress_5af95 1 = .ok (.iload 4, 2) := by decide +kernel
theorem dJ2_compress_5af95_3 : decode cJ2_compress_5af95 3 = .ok (.aload_n 0, 1) := by decide +kernel
theorem dJ2_compress_5af95_4 : decode cJ2_compress_5af95 4 = .ok (.invokestatic 173, 3) := by decide +kernel
theorem dJ2_compress_5af95_7 : decode cJ2_compress_5af95 7 = .ok (.iconst 0, 1) := by decide +kernel
theorem dJ2_compress_5af95_8 : decode cJ2_compress_5af95 8 = .ok (.istore 5, 2) := by decide +kernel
theorem dJ2_compress_5af95_10 : decode cJ2_compress_5af95 10 = .ok (.iload 5, 2) := by decide +kernel
theorem dJ2_compress_5af95_12 : decode cJ2_compress_5af95 12 = .ok (.iload 4, 2) := by decide +kernel
theorem dJ2_compress_5af95_14 : decode cJ2_compress_5af95 14 = .ok (.if_icmp .ge 39, 3) := by decide +kernel
theorem dJ2_compress_5af95_17 : decode cJ2_compress_5af95 17 = .ok (.aload_n 0, 1) := by decide +kernel
theorem dJ2_compress_5af95_18 : decode cJ2_compress_5af95 18 = .ok (.iload_n 1, 1) := by decide +kernel
theorem dJ2_compress_5af95_19 : decode cJ2_compress_5af95 19 = .ok (.invokestatic 71, 3) := by decide +kernel
theorem dJ2_compress_5af95_22 : decode cJ2_compress_5af95 22 = .ok (.istore 6, 2) := by decide +kernel
theorem dJ2_compress_5af95_24 : decode cJ2_compress_5af95 24 = .ok (.iload 6, 2) := by decide +kernel
theorem dJ2_compress_5af95_26 : decode cJ2_compress_5af95 26 = .ok (.sipush 255, 3) := by decide +kernel
theorem dJ2_compress_5af95_29 : decode cJ2_compress_5af95 29 = .ok (.if_icmp .le 6, 3) := by decide +kernel
theorem dJ2_compress_5af95_32 : decode cJ2_compress_5af95 32 = .ok (.iload 5, 2) := by decide +kernel
theorem dJ2_compress_5af95_34 : decode cJ2_compress_5af95 34 = .ok (.ireturn, 1) := by decide +kernel
theorem dJ2_compress_5af95_35 : decode cJ2_compress_5af95 35 = .ok (.aload_n 2, 1) := by decide +kernel
theorem dJ2_compress_5af95_36 : decode cJ2_compress_5af95 36 = .ok (.iload_n 3, 1) := by decide +kernel
theorem dJ2_compress_5af95_37 : decode cJ2_compress_5af95 37 = .ok (.iload 6, 2) := by decide +kernel
theorem dJ2_compress_5af95_39 : decode cJ2_compress_5af95 39 = .ok (.i2b, 1) := by decide +kernel
theorem dJ2_compress_5af95_40 : decode cJ2_compress_5af95 40 = .ok (.bastore, 1) := by decide +kernel
theorem dJ2_compress_5af95_41 : decode cJ2_compress_5af95 41 = .ok (.iinc 1 1, 3) := by decide +kernel
theorem dJ2_compress_5af95_44 : decode cJ2_compress_5af95 44 = .ok (.iinc 3 1, 3) := by decide +kernel
theorem dJ2_compress_5af95_47 : decode cJ2_compress_5af95 47 = .ok (.iinc 5 1, 3) := by decide +kernel
theorem dJ2_compress_5af95_50 : decode cJ2_compress_5af95 50 = .ok (.goto (-40), 3) := by decide +kernel
theorem dJ2_compress_5af95_53 : decode cJ2_compress_5af95 53 = .ok (.iload 4, 2) := by decide +kernel
theorem dJ2_compress_5af95_55 : decode cJ2_compress_5af95 55 = .ok (.ireturn, 1) := by decide +kernel
theorem dJ2_toBytes_a14e5_0 : decode cJ2_toBytes_a14e5 0 = .ok (.iconst 2, 1) := by decide +kernel
theorem dJ2_toBytes_a14e5_1 : decode cJ2_toBytes_a14e5 1 = .ok (.newarray .byte, 2) := by decide +kernel
theorem dJ2_toBytes_a14e5_3 : decode cJ2_toBytes_a14e5 3 = .ok (.astore_n 1, 1) := by decide +kernel
theorem dJ2_toBytes_a14e5_4 : decode cJ2_toBytes_a14e5 4 = .ok (.aload_n 1, 1) := by decide +kernel
theorem dJ2_toBytes_a14e5_5 : decode cJ2_toBytes_a14e5 5 = .ok (.iconst 0, 1) := by decide +kernel
theorem dJ2_toBytes_a14e5_6 : decode cJ2_toBytes_a14e5 6 = .ok (.iload_n 0, 1) := by decide +kernel
theorem dJ2_toBytes_a14e5_7 : decode cJ2_toBytes_a14e5 7 = .ok (.invokestatic 111, 3) := by decide +kernel
theorem dJ2_toBytes_a14e5_10 : decode cJ2_toBytes_a14e5 10 = .ok (.aload_n 1, 1) := by decide +kernel
theorem dJ2_toBytes_a14e5_11 : decode cJ2_toBytes_a14e5 11 = .ok (.areturn, 1) := by decide +kernel
theorem dJ2_putCharSB_b72d1_0 : decode cJ2_putCharSB_b72d1 0 = .ok (.iload_n 1, 1) := by decide +kernel
theorem dJ2_putCharSB_b72d1_1 : decode cJ2_putCharSB_b72d1 1 = .ok (.aload_n 0, 1) := by decide +kernel
theorem dJ2_putCharSB_b72d1_2 : decode cJ2_putCharSB_b72d1 2 = .ok (.invokestatic 67, 3) := by decide +kernel
theorem dJ2_putCharSB_b72d1_5 : decode cJ2_putCharSB_b72d1 5 = .ok (.aload_n 0, 1) := by decide +kernel
theorem dJ2_putCharSB_b72d1_6 : decode cJ2_putCharSB_b72d1 6 = .ok (.iload_n 1, 1) := by decide +kernel
theorem dJ2_putCharSB_b72d1_7 : decode cJ2_putCharSB_b72d1 7 = .ok (.iload_n 2, 1) := by decide +kernel
theorem dJ2_putCharSB_b72d1_8 : decode cJ2_putCharSB_b72d1 8 = .ok (.invokestatic 111, 3) := by decide +kernel
theorem dJ2_putCharSB_b72d1_11 : decode cJ2_putCharSB_b72d1 11 = .ok (.return_, 1) := by decide +kernel
theorem dJ2_getChars_46870_0 : decode cJ2_getChars_46870 0 = .ok (.iload_n 1, 1) := by decide +kernel
theorem dJ2_getChars_46870_1 : decode cJ2_getChars_46870 1 = .ok (.iload_n 2, 1) := by decide +kernel
theorem dJ2_getChars_46870_2 : decode cJ2_getChars_46870 2 = .ok (.aload_n 3, 1) := by decide +kernel
theorem dJ2_getChars_46870_3 : decode cJ2_getChars_46870 3 = .ok (.invokestatic 96, 3) := by decide +kernel
theorem dJ2_getChars_46870_6 : decode cJ2_getChars_46870 6 = .ok (.iload_n 0, 1) := by decide +kernel
theorem dJ2_getChars_46870_7 : decode cJ2_getChars_46870 7 = .ok (.iload_n 2, 1) := by decide +kernel
theorem dJ2_getChars_46870_8 : decode cJ2_getChars_46870 8 = .ok (.aload_n 3, 1) := by decide +kernel
theorem dJ2_getChars_46870_9 : decode cJ2_getChars_46870 9 = .ok (.invokestatic 393, 3) := by decide +kernel
theorem dJ2_getChars_46870_12 : decode cJ2_getChars_46870 12 = .ok (.istore 4, 2) := by decide +kernel
theorem dJ2_getChars_46870_14 : decode cJ2_getChars_46870 14 = .ok (.getstatic 44, 3) := by decide +kernel
theorem dJ2_getChars_46870_17 : decode cJ2_getChars_46870 17 = .ok (.ifCond .ne 17, 3) := by decide +kernel
theorem dJ2_getChars_46870_20 : decode cJ2_getChars_46870 20 = .ok (.iload_n 1, 1) := by decide +kernel
theorem dJ2_getChars_46870_21 : decode cJ2_getChars_46870 21 = .ok (.iload 4, 2) := by decide +kernel
theorem dJ2_getChars_46870_23 : decode cJ2_getChars_46870 23 = .ok (.if_icmp .eq 11, 3) := by decide +kernel
theorem dJ2_getChars_46870_26 : decode cJ2_getChars_46870 26 = .ok (.new 52, 3) := by decide +kernel
theorem dJ2_getChars_46870_29 : decode cJ2_getChars_46870 29 = .ok (.dup, 1) := by decide +kernel
theorem dJ2_getChars_46870_30 : decode cJ2_getChars_46870 30 = .ok (.invokespecial 66, 3) := by decide +kernel
theorem dJ2_getChars_46870_33 : decode cJ2_getChars_46870 33 = .ok (.athrow, 1) := by decide +kernel
theorem dJ2_getChars_46870_34 : decode cJ2_getChars_46870 34 = .ok (.iload 4, 2) := by decide +kernel
theorem dJ2_getChars_46870_36 : decode cJ2_getChars_46870 36 = .ok (.ireturn, 1) := by decide +kernel
theorem dJ2_putCharsAt_cd4e5_0 : decode cJ2_putCharsAt_cd4e5 0 = .ok (.iload_n 1, 1) := by decide +kernel
theorem dJ2_putCharsAt_cd4e5_1 : decode cJ2_putCharsAt_cd4e5 1 = .ok (.iconst 4, 1) := by decide +kernel
theorem dJ2_putCharsAt_cd4e5_2 : decode cJ2_putCharsAt_cd4e5 2 = .ok (.iadd, 1) := by decide +kernel
theorem dJ2_putCharsAt_cd4e5_3 : decode cJ2_putCharsAt_cd4e5 3 = .ok (.istore 6, 2) := by decide +kernel
theorem dJ2_putCharsAt_cd4e5_5 : decode cJ2_putCharsAt_cd4e5 5 = .ok (.iload_n 1, 1) := by decide +kernel
theorem dJ2_putCharsAt_cd4e5_6 : decode cJ2_putCharsAt_cd4e5 6 = .ok (.iload 6, 2) := by decide +kernel
theorem dJ2_putCharsAt_cd4e5_8 : decode cJ2_putCharsAt_cd4e5 8 = .ok (.aload_n 0, 1) := by decide +kernel
theorem dJ2_putCharsAt_cd4e5_9 : decode cJ2_putCharsAt_cd4e5 9 = .ok (.invokestatic 96, 3) := by decide +kernel
theorem dJ2_putCharsAt_cd4e5_12 : decode cJ2_putCharsAt_cd4e5 12 = .ok (.aload_n 0, 1) := by decide +kernel
theorem dJ2_putCharsAt_cd4e5_13 : decode cJ2_putCharsAt_cd4e5 13 = .ok (.iload_n 1, 1) := by decide +kernel
theorem dJ2_putCharsAt_cd4e5_14 : decode cJ2_putCharsAt_cd4e5 14 = .ok (.iinc 1 1, 3) := by decide +kernel
theorem dJ2_putCharsAt_cd4e5_17 : decode cJ2_putCharsAt_cd4e5 17 = .ok (.iload_n 2, 1) := by decide +kernel
theorem dJ2_putCharsAt_cd4e5_18 : decode cJ2_putCharsAt_cd4e5 18 = .ok (.invokestatic 111, 3) := by decide +kernel
theorem dJ2_putCharsAt_cd4e5_21 : decode cJ2_putCharsAt_cd4e5 21 = .ok (.aload_n 0, 1) := by decide +kernel
theorem dJ2_putCharsAt_cd4e5_22 : decode cJ2_putCharsAt_cd4e5 22 = .ok (.iload_n 1, 1) := by decide +kernel
theorem dJ2_putCharsAt_cd4e5_23 : decode cJ2_putCharsAt_cd4e5 23 = .ok (.iinc 1 1, 3) := by decide +kernel
theorem dJ2_putCharsAt_cd4e5_26 : decode cJ2_putCharsAt_cd4e5 26 = .ok (.iload_n 3, 1) := by decide +kernel
theorem dJ2_putCharsAt_cd4e5_27 : decode cJ2_putCharsAt_cd4e5 27 = .ok (.invokestatic 111, 3) := by decide +kernel
theorem dJ2_putCharsAt_cd4e5_30 : decode cJ2_putCharsAt_cd4e5 30 = .ok (.aload_n 0, 1) := by decide +kernel
theorem dJ2_putCharsAt_cd4e5_31 : decode cJ2_putCharsAt_cd4e5 31 = .ok (.iload_n 1, 1) := by decide +kernel
theorem dJ2_putCharsAt_cd4e5_32 : decode cJ2_putCharsAt_cd4e5 32 = .ok (.iinc 1 1, 3) := by decide +kernel
theorem dJ2_putCharsAt_cd4e5_35 : decode cJ2_putCharsAt_cd4e5 35 = .ok (.iload 4, 2) := by decide +kernel
theorem dJ2_putCharsAt_cd4e5_37 : decode cJ2_putCharsAt_cd4e5 37 = .ok (.invokestatic 111, 3) := by decide +kernel
theorem dJ2_putCharsAt_cd4e5_40 : decode cJ2_putCharsAt_cd4e5 40 = .ok (.aload_n 0, 1) := by decide +kernel
theorem dJ2_putCharsAt_cd4e5_41 : decode cJ2_putCharsAt_cd4e5 41 = .ok (.iload_n 1, 1) := by decide +kernel
theorem dJ2_putCharsAt_cd4e5_42 : decode cJ2_putCharsAt_cd4e5 42 = .ok (.iinc 1 1, 3) := by decide +kernel
theorem dJ2_putCharsAt_cd4e5_45 : decode cJ2_putCharsAt_cd4e5 45 = .ok (.iload 5, 2) := by decide +kernel
theorem dJ2_putCharsAt_cd4e5_47 : decode cJ2_putCharsAt_cd4e5 47 = .ok (.invokestatic 111, 3) := by decide +kernel
theorem dJ2_putCharsAt_cd4e5_50 : decode cJ2_putCharsAt_cd4e5 50 = .ok (.getstatic 44, 3) := by decide +kernel
theorem dJ2_putCharsAt_cd4e5_53 : decode cJ2_putCharsAt_cd4e5 53 = .ok (.ifCond .ne 17, 3) := by decide +kernel
theorem dJ2_putCharsAt_cd4e5_56 : decode cJ2_putCharsAt_cd4e5 56 = .ok (.iload_n 1, 1) := by decide +kernel
theorem dJ2_putCharsAt_cd4e5_57 : decode cJ2_putCharsAt_cd4e5 57 = .ok (.iload 6, 2) := by decide +kernel
theorem dJ2_putCharsAt_cd4e5_59 : decode cJ2_putCharsAt_cd4e5 59 = .ok (.if_icmp .eq 11, 3) := by decide +kernel
theorem dJ2_putCharsAt_cd4e5_62 : decode cJ2_putCharsAt_cd4e5 62 = .ok (.new 52, 3) := by decide +kernel
theorem dJ2_putCharsAt_cd4e5_65 : decode cJ2_putCharsAt_cd4e5 65 = .ok (.dup, 1) := by decide +kernel
theorem dJ2_putCharsAt_cd4e5_66 : decode cJ2_putCharsAt_cd4e5 66 = .ok (.invokespecial 66, 3) := by decide +kernel
theorem dJ2_putCharsAt_cd4e5_69 : decode cJ2_putCharsAt_cd4e5 69 = .ok (.athrow, 1) := by decide +kernel
theorem dJ2_putCharsAt_cd4e5_70 : decode cJ2_putCharsAt_cd4e5 70 = .ok (.iload 6, 2) := by decide +kernel
theorem dJ2_putCharsAt_cd4e5_72 : decode cJ2_putCharsAt_cd4e5 72 = .ok (.ireturn, 1) := by decide +kernel
theorem dJ2_charAt_3b067_0 : decode cJ2_charAt_3b067 0 = .ok (.iload_n 1, 1) := by decide +kernel
theorem dJ2_charAt_3b067_1 : decode cJ2_charAt_3b067 1 = .ok (.aload_n 0, 1) := by decide +kernel
theorem dJ2_charAt_3b067_2 : decode cJ2_charAt_3b067 2 = .ok (.invokestatic 67, 3) := by decide +kernel
theorem dJ2_charAt_3b067_5 : decode cJ2_charAt_3b067 5 = .ok (.aload_n 0, 1) := by decide +kernel
theorem dJ2_charAt_3b067_6 : decode cJ2_charAt_3b067 6 = .ok (.iload_n 1, 1) := by decide +kernel
theorem dJ2_charAt_3b067_7 : decode cJ2_charAt_3b067 7 = .ok (.invokestatic 71, 3) := by decide +kernel
theorem dJ2_charAt_3b067_10 : decode cJ2_charAt_3b067 10 = .ok (.ireturn, 1) := by decide +kernel
theorem dJ2_inflate_0e8fd_0 : decode cJ2_inflate_0e8fd 0 = .ok (.iload_n 3, 1) := by decide +kernel
theorem dJ2_inflate_0e8fd_1 : decode cJ2_inflate_0e8fd 1 = .ok (.iload 4, 2) := by decide +kernel
theorem dJ2_inflate_0e8fd_3 : decode cJ2_inflate_0e8fd 3 = .ok (.aload_n 2, 1) := by decide +kernel
theorem dJ2_inflate_0e8fd_4 : decode cJ2_inflate_0e8fd 4 = .ok (.invokestatic 173, 3) := by decide +kernel
theorem dJ2_inflate_0e8fd_7 : decode cJ2_inflate_0e8fd 7 = .ok (.iconst 0, 1) := by decide +kernel
theorem dJ2_inflate_0e8fd_8 : decode cJ2_inflate_0e8fd 8 = .ok (.istore 5, 2) := by decide +kernel
theorem dJ2_inflate_0e8fd_10 : decode cJ2_inflate_0e8fd 10 = .ok (.iload 5, 2) := by decide +kernel
theorem dJ2_inflate_0e8fd_12 : decode cJ2_inflate_0e8fd 12 = .ok (.iload 4, 2) := by decide +kernel
theorem dJ2_inflate_0e8fd_14 : decode cJ2_inflate_0e8fd 14 = .ok (.if_icmp .ge 27, 3) := by decide +kernel
theorem dJ2_inflate_0e8fd_17 : decode cJ2_inflate_0e8fd 17 = .ok (.aload_n 2, 1) := by decide +kernel
theorem dJ2_inflate_0e8fd_18 : decode cJ2_inflate_0e8fd 18 = .ok (.iload_n 3, 1) := by decide +kernel
theorem dJ2_inflate_0e8fd_19 : decode cJ2_inflate_0e8fd 19 = .ok (.iinc 3 1, 3) := by decide +kernel
theorem dJ2_inflate_0e8fd_22 : decode cJ2_inflate_0e8fd 22 = .ok (.aload_n 0, 1) := by decide +kernel
theorem dJ2_inflate_0e8fd_23 : decode cJ2_inflate_0e8fd 23 = .ok (.iload_n 1, 1) := by decide +kernel
theorem dJ2_inflate_0e8fd_24 : decode cJ2_inflate_0e8fd 24 = .ok (.iinc 1 1, 3) := by decide +kernel
theorem dJ2_inflate_0e8fd_27 : decode cJ2_inflate_0e8fd 27 = .ok (.baload, 1) := by decide +kernel
theorem dJ2_inflate_0e8fd_28 : decode cJ2_inflate_0e8fd 28 = .ok (.sipush 255, 3) := by decide +kernel
theorem dJ2_inflate_0e8fd_31 : decode cJ2_inflate_0e8fd 31 = .ok (.iand, 1) := by decide +kernel
theorem dJ2_inflate_0e8fd_32 : decode cJ2_inflate_0e8fd 32 = .ok (.invokestatic 111, 3) := by decide +kernel
theorem dJ2_inflate_0e8fd_35 : decode cJ2_inflate_0e8fd 35 = .ok (.iinc 5 1, 3) := by decide +kernel
theorem dJ2_inflate_0e8fd_38 : decode cJ2_inflate_0e8fd 38 = .ok (.goto (-28), 3) := by decide +kernel
theorem dJ2_inflate_0e8fd_41 : decode cJ2_inflate_0e8fd 41 = .ok (.return_, 1) := by decide +kernel
theorem dJ2_getChars_ba4f3_0 : decode cJ2_getChars_ba4f3 0 = .ok (.iload_n 1, 1) := by decide +kernel
theorem dJ2_getChars_ba4f3_1 : decode cJ2_getChars_ba4f3 1 = .ok (.istore 5, 2) := by decide +kernel
theorem dJ2_getChars_ba4f3_3 : decode cJ2_getChars_ba4f3 3 = .ok (.iload_n 0, 1) := by decide +kernel
theorem dJ2_getChars_ba4f3_4 : decode cJ2_getChars_ba4f3 4 = .ok (.ifCond .ge 7, 3) := by decide +kernel
theorem dJ2_getChars_ba4f3_7 : decode cJ2_getChars_ba4f3 7 = .ok (.iconst 1, 1) := by decide +kernel
theorem dJ2_getChars_ba4f3_8 : decode cJ2_getChars_ba4f3 8 = .ok (.goto 4, 3) := by decide +kernel
theorem dJ2_getChars_ba4f3_11 : decode cJ2_getChars_ba4f3 11 = .ok (.iconst 0, 1) := by decide +kernel
theorem dJ2_getChars_ba4f3_12 : decode cJ2_getChars_ba4f3 12 = .ok (.istore 6, 2) := by decide +kernel
theorem dJ2_getChars_ba4f3_14 : decode cJ2_getChars_ba4f3 14 = .ok (.iload 6, 2) := by decide +kernel
theorem dJ2_getChars_ba4f3_16 : decode cJ2_getChars_ba4f3 16 = .ok (.ifCond .ne 6, 3) := by decide +kernel
theorem dJ2_getChars_ba4f3_19 : decode cJ2_getChars_ba4f3 19 = .ok (.iload_n 0, 1) := by decide +kernel
theorem dJ2_getChars_ba4f3_20 : decode cJ2_getChars_ba4f3 20 = .ok (.ineg, 1) := by decide +kernel
theorem dJ2_getChars_ba4f3_21 : decode cJ2_getChars_ba4f3 21 = .ok (.istore_n 0, 1) := by decide +kernel
theorem dJ2_getChars_ba4f3_22 : decode cJ2_getChars_ba4f3 22 = .ok (.iload_n 0, 1) := by decide +kernel
theorem dJ2_getChars_ba4f3_23 : decode cJ2_getChars_ba4f3 23 = .ok (.bipush (-100), 2) := by decide +kernel
theorem dJ2_getChars_ba4f3_25 : decode cJ2_getChars_ba4f3 25 = .ok (.if_icmp .gt 51, 3) := by decide +kernel
theorem dJ2_getChars_ba4f3_28 : decode cJ2_getChars_ba4f3 28 = .ok (.iload_n 0, 1) := by decide +kernel
theorem dJ2_getChars_ba4f3_29 : decode cJ2_getChars_ba4f3 29 = .ok (.bipush 100, 2) := by decide +kernel
theorem dJ2_getChars_ba4f3_31 : decode cJ2_getChars_ba4f3 31 = .ok (.idiv, 1) := by decide +kernel
theorem dJ2_getChars_ba4f3_32 : decode cJ2_getChars_ba4f3 32 = .ok (.istore_n 3, 1) := by decide +kernel
theorem dJ2_getChars_ba4f3_33 : decode cJ2_getChars_ba4f3 33 = .ok (.iload_n 3, 1) := by decide +kernel
theorem dJ2_getChars_ba4f3_34 : decode cJ2_getChars_ba4f3 34 = .ok (.bipush 100, 2) := by decide +kernel
theorem dJ2_getChars_ba4f3_36 : decode cJ2_getChars_ba4f3 36 = .ok (.imul, 1) := by decide +kernel
theorem dJ2_getChars_ba4f3_37 : decode cJ2_getChars_ba4f3 37 = .ok (.iload_n 0, 1) := by decide +kernel
theorem dJ2_getChars_ba4f3_38 : decode cJ2_getChars_ba4f3 38 = .ok (.isub, 1) := by decide +kernel
theorem dJ2_getChars_ba4f3_39 : decode cJ2_getChars_ba4f3 39 = .ok (.istore 4, 2) := by decide +kernel
theorem dJ2_getChars_ba4f3_41 : decode cJ2_getChars_ba4f3 41 = .ok (.iload_n 3, 1) := by decide +kernel
theorem dJ2_getChars_ba4f3_42 : decode cJ2_getChars_ba4f3 42 = .ok (.istore_n 0, 1) := by decide +kernel
theorem dJ2_getChars_ba4f3_43 : decode cJ2_getChars_ba4f3 43 = .ok (.aload_n 2, 1) := by decide +kernel
theorem dJ2_getChars_ba4f3_44 : decode cJ2_getChars_ba4f3 44 = .ok (.iinc 5 (-1), 3) := by decide +kernel
theorem dJ2_getChars_ba4f3_47 : decode cJ2_getChars_ba4f3 47 = .ok (.iload 5, 2) := by decide +kernel
theorem dJ2_getChars_ba4f3_49 : decode cJ2_getChars_ba4f3 49 = .ok (.getstatic 403, 3) := by decide +kernel
theorem dJ2_getChars_ba4f3_52 : decode cJ2_getChars_ba4f3 52 = .ok (.iload 4, 2) := by decide +kernel
theorem dJ2_getChars_ba4f3_54 : decode cJ2_getChars_ba4f3 54 = .ok (.baload, 1) := by decide +kernel
theorem dJ2_getChars_ba4f3_55 : decode cJ2_getChars_ba4f3 55 = .ok (.invokestatic 111, 3) := by decide +kernel
theorem dJ2_getChars_ba4f3_58 : decode cJ2_getChars_ba4f3 58 = .ok (.aload_n 2, 1) := by decide +kernel
theorem dJ2_getChars_ba4f3_59 : decode cJ2_getChars_ba4f3 59 = .ok (.iinc 5 (-1), 3) := by decide +kernel
theorem dJ2_getChars_ba4f3_62 : decode cJ2_getChars_ba4f3 62 = .ok (.iload 5, 2) := by decide +kernel
theorem dJ2_getChars_ba4f3_64 : decode cJ2_getChars_ba4f3 64 = .ok (.getstatic 407, 3) := by decide +kernel
theorem dJ2_getChars_ba4f3_67 : decode cJ2_getChars_ba4f3 67 = .ok (.iload 4, 2) := by decide +kernel
theorem dJ2_getChars_ba4f3_69 : decode cJ2_getChars_ba4f3 69 = .ok (.baload, 1) := by decide +kernel
theorem dJ2_getChars_ba4f3_70 : decode cJ2_getChars_ba4f3 70 = .ok (.invokestatic 111, 3) := by decide +kernel
theorem dJ2_getChars_ba4f3_73 : decode cJ2_getChars_ba4f3 73 = .ok (.goto (-51), 3) := by decide +kernel
theorem dJ2_getChars_ba4f3_76 : decode cJ2_getChars_ba4f3 76 = .ok (.aload_n 2, 1) := by decide +kernel
theorem dJ2_getChars_ba4f3_77 : decode cJ2_getChars_ba4f3 77 = .ok (.iinc 5 (-1), 3) := by decide +kernel
theorem dJ2_getChars_ba4f3_80 : decode cJ2_getChars_ba4f3 80 = .ok (.iload 5, 2) := by decide +kernel
theorem dJ2_getChars_ba4f3_82 : decode cJ2_getChars_ba4f3 82 = .ok (.getstatic 403, 3) := by decide +kernel
theorem dJ2_getChars_ba4f3_85 : decode cJ2_getChars_ba4f3 85 = .ok (.iload_n 0, 1) := by decide +kernel
theorem dJ2_getChars_ba4f3_86 : decode cJ2_getChars_ba4f3 86 = .ok (.ineg, 1) := by decide +kernel
theorem dJ2_getChars_ba4f3_87 : decode cJ2_getChars_ba4f3 87 = .ok (.baload, 1) := by decide +kernel
theorem dJ2_getChars_ba4f3_88 : decode cJ2_getChars_ba4f3 88 = .ok (.invokestatic 111, 3) := by decide +kernel
theorem dJ2_getChars_ba4f3_91 : decode cJ2_getChars_ba4f3 91 = .ok (.iload_n 0, 1) := by decide +kernel
theorem dJ2_getChars_ba4f3_92 : decode cJ2_getChars_ba4f3 92 = .ok (.bipush (-9), 2) := by decide +kernel
theorem dJ2_getChars_ba4f3_94 : decode cJ2_getChars_ba4f3 94 = .ok (.if_icmp .ge 18, 3) := by decide +kernel
theorem dJ2_getChars_ba4f3_97 : decode cJ2_getChars_ba4f3 97 = .ok (.aload_n 2, 1) := by decide +kernel
theorem dJ2_getChars_ba4f3_98 : decode cJ2_getChars_ba4f3 98 = .ok (.iinc 5 (-1), 3) := by decide +kernel
theorem dJ2_getChars_ba4f3_101 : decode cJ2_getChars_ba4f3 101 = .ok (.iload 5, 2) := by decide +kernel
theorem dJ2_getChars_ba4f3_103 : decode cJ2_getChars_ba4f3 103 = .ok (.getstatic 407, 3) := by decide +kernel
theorem dJ2_getChars_ba4f3_106 : decode cJ2_getChars_ba4f3 106 = .ok (.iload_n 0, 1) := by decide +kernel
theorem dJ2_getChars_ba4f3_107 : decode cJ2_getChars_ba4f3 107 = .ok (.ineg, 1) := by decide +kernel
theorem dJ2_getChars_ba4f3_108 : decode cJ2_getChars_ba4f3 108 = .ok (.baload, 1) := by decide +kernel
theorem dJ2_getChars_ba4f3_109 : decode cJ2_getChars_ba4f3 109 = .ok (.invokestatic 111, 3) := by decide +kernel
theorem dJ2_getChars_ba4f3_112 : decode cJ2_getChars_ba4f3 112 = .ok (.iload 6, 2) := by decide +kernel
theorem dJ2_getChars_ba4f3_114 : decode cJ2_getChars_ba4f3 114 = .ok (.ifCond .eq 14, 3) := by decide +kernel
theorem dJ2_getChars_ba4f3_117 : decode cJ2_getChars_ba4f3 117 = .ok (.aload_n 2, 1) := by decide +kernel
theorem dJ2_getChars_ba4f3_118 : decode cJ2_getChars_ba4f3 118 = .ok (.iinc 5 (-1), 3) := by decide +kernel
theorem dJ2_getChars_ba4f3_121 : decode cJ2_getChars_ba4f3 121 = .ok (.iload 5, 2) := by decide +kernel
theorem dJ2_getChars_ba4f3_123 : decode cJ2_getChars_ba4f3 123 = .ok (.bipush 45, 2) := by decide +kernel
theorem dJ2_getChars_ba4f3_125 : decode cJ2_getChars_ba4f3 125 = .ok (.invokestatic 111, 3) := by decide +kernel
theorem dJ2_getChars_ba4f3_128 : decode cJ2_getChars_ba4f3 128 = .ok (.iload 5, 2) := by decide +kernel
theorem dJ2_getChars_ba4f3_130 : decode cJ2_getChars_ba4f3 130 = .ok (.ireturn, 1) := by decide +kernel
theorem dJ2_checkIndex_2214a_0 : decode cJ2_checkIndex_2214a 0 = .ok (.iload_n 0, 1) := by decide +kernel
theorem dJ2_checkIndex_2214a_1 : decode cJ2_checkIndex_2214a 1 = .ok (.aload_n 1, 1) := by decide +kernel
theorem dJ2_checkIndex_2214a_2 : decode cJ2_checkIndex_2214a 2 = .ok (.invokestatic 48, 3) := by decide +kernel
theorem dJ2_checkIndex_2214a_5 : decode cJ2_checkIndex_2214a 5 = .ok (.invokestatic 414, 3) := by decide +kernel
theorem dJ2_checkIndex_2214a_8 : decode cJ2_checkIndex_2214a 8 = .ok (.return_, 1) := by decide +kernel
theorem dJ2_checkBoundsBeginEnd_d044e_0 : decode cJ2_checkBoundsBeginEnd_d044e 0 = .ok (.iload_n 0, 1) := by decide +kernel
theorem dJ2_checkBoundsBeginEnd_d044e_1 : decode cJ2_checkBoundsBeginEnd_d044e 1 = .ok (.iload_n 1, 1) := by decide +kernel
theorem dJ2_checkBoundsBeginEnd_d044e_2 : decode cJ2_checkBoundsBeginEnd_d044e 2 = .ok (.aload_n 2, 1) := by decide +kernel
theorem dJ2_checkBoundsBeginEnd_d044e_3 : decode cJ2_checkBoundsBeginEnd_d044e 3 = .ok (.invokestatic 48, 3) := by decide +kernel
theorem dJ2_checkBoundsBeginEnd_d044e_6 : decode cJ2_checkBoundsBeginEnd_d044e 6 = .ok (.invokestatic 241, 3) := by decide +kernel
theorem dJ2_checkBoundsBeginEnd_d044e_9 : decode cJ2_checkBoundsBeginEnd_d044e 9 = .ok (.return_, 1) := by decide +kernel
theorem dJ2_checkBoundsOffCount_d044e_0 : decode cJ2_checkBoundsOffCount_d044e 0 = .ok (.iload_n 0, 1) := by decide +kernel
theorem dJ2_checkBoundsOffCount_d044e_1 : decode cJ2_checkBoundsOffCount_d044e 1 = .ok (.iload_n 1, 1) := by decide +kernel
theorem dJ2_checkBoundsOffCount_d044e_2 : decode cJ2_checkBoundsOffCount_d044e 2 = .ok (.aload_n 2, 1) := by decide +kernel
theorem dJ2_checkBoundsOffCount_d044e_3 : decode cJ2_checkBoundsOffCount_d044e 3 = .ok (.invokestatic 48, 3) := by decide +kernel
theorem dJ2_checkBoundsOffCount_d044e_6 : decode cJ2_checkBoundsOffCount_d044e 6 = .ok (.invokestatic 419, 3) := by decide +kernel
theorem dJ2_checkBoundsOffCount_d044e_9 : decode cJ2_checkBoundsOffCount_d044e 9 = .ok (.pop, 1) := by decide +kernel
theorem dJ2_checkBoundsOffCount_d044e_10 : decode cJ2_checkBoundsOffCount_d044e 10 = .ok (.return_, 1) := by decide +kernel
theorem dJ7_copyOf_9075b_0 : decode cJ7_copyOf_9075b 0 = .ok (.iload_n 1, 1) := by decide +kernel
theorem dJ7_copyOf_9075b_1 : decode cJ7_copyOf_9075b 1 = .ok (.aload_n 0, 1) := by decide +kernel
theorem dJ7_copyOf_9075b_2 : decode cJ7_copyOf_9075b 2 = .ok (.arraylength, 1) := by decide +kernel
theorem dJ7_copyOf_9075b_3 : decode cJ7_copyOf_9075b 3 = .ok (.if_icmp .ne 11, 3) := by decide +kernel
theorem dJ7_copyOf_9075b_6 : decode cJ7_copyOf_9075b 6 = .ok (.aload_n 0, 1) := by decide +kernel
theorem dJ7_copyOf_9075b_7 : decode cJ7_copyOf_9075b 7 = .ok (.invokevirtual 310, 3) := by decide +kernel
theorem dJ7_copyOf_9075b_10 : decode cJ7_copyOf_9075b 10 = .ok (.checkcast 311, 3) := by decide +kernel
theorem dJ7_copyOf_9075b_13 : decode cJ7_copyOf_9075b 13 = .ok (.areturn, 1) := by decide +kernel
theorem dJ7_copyOf_9075b_14 : decode cJ7_copyOf_9075b 14 = .ok (.iload_n 1, 1) := by decide +kernel
theorem dJ7_copyOf_9075b_15 : decode cJ7_copyOf_9075b 15 = .ok (.newarray .byte, 2) := by decide +kernel
theorem dJ7_copyOf_9075b_17 : decode cJ7_copyOf_9075b 17 = .ok (.astore_n 2, 1) := by decide +kernel
theorem dJ7_copyOf_9075b_18 : decode cJ7_copyOf_9075b 18 = .ok (.aload_n 0, 1) := by decide +kernel
theorem dJ7_copyOf_9075b_19 : decode cJ7_copyOf_9075b 19 = .ok (.iconst 0, 1) := by decide +kernel
theorem dJ7_copyOf_9075b_20 : decode cJ7_copyOf_9075b 20 = .ok (.aload_n 2, 1) := by decide +kernel
theorem dJ7_copyOf_9075b_21 : decode cJ7_copyOf_9075b 21 = .ok (.iconst 0, 1) := by decide +kernel
theorem dJ7_copyOf_9075b_22 : decode cJ7_copyOf_9075b 22 = .ok (.aload_n 0, 1) := by decide +kernel
theorem dJ7_copyOf_9075b_23 : decode cJ7_copyOf_9075b 23 = .ok (.arraylength, 1) := by decide +kernel
theorem dJ7_copyOf_9075b_24 : decode cJ7_copyOf_9075b 24 = .ok (.iload_n 1, 1) := by decide +kernel
theorem dJ7_copyOf_9075b_25 : decode cJ7_copyOf_9075b 25 = .ok (.invokestatic 304, 3) := by decide +kernel
theorem dJ7_copyOf_9075b_28 : decode cJ7_copyOf_9075b 28 = .ok (.invokestatic 150, 3) := by decide +kernel
theorem dJ7_copyOf_9075b_31 : decode cJ7_copyOf_9075b 31 = .ok (.aload_n 2, 1) := by decide +kernel
theorem dJ7_copyOf_9075b_32 : decode cJ7_copyOf_9075b 32 = .ok (.areturn, 1) := by decide +kernel
theorem dJ7_checkLength_df160_0 : decode cJ7_checkLength_df160 0 = .ok (.iload_n 1, 1) := by decide +kernel
theorem dJ7_checkLength_df160_1 : decode cJ7_checkLength_df160 1 = .ok (.iload_n 0, 1) := by decide +kernel
theorem dJ7_checkLength_df160_2 : decode cJ7_checkLength_df160 2 = .ok (.if_icmp .ge 35, 3) := by decide +kernel
theorem dJ7_checkLength_df160_5 : decode cJ7_checkLength_df160 5 = .ok (.new 43, 3) := by decide +kernel
theorem dJ7_checkLength_df160_8 : decode cJ7_checkLength_df160 8 = .ok (.dup, 1) := by decide +kernel
theorem dJ7_checkLength_df160_9 : decode cJ7_checkLength_df160 9 = .ok (.new 45, 3) := by decide +kernel
theorem dJ7_checkLength_df160_12 : decode cJ7_checkLength_df160 12 = .ok (.dup, 1) := by decide +kernel
theorem dJ7_checkLength_df160_13 : decode cJ7_checkLength_df160 13 = .ok (.invokespecial 47, 3) := by decide +kernel
theorem dJ7_checkLength_df160_16 : decode cJ7_checkLength_df160 16 = .ok (.iload_n 0, 1) := by decide +kernel
theorem dJ7_checkLength_df160_17 : decode cJ7_checkLength_df160 17 = .ok (.invokevirtual 54, 3) := by decide +kernel
theorem dJ7_checkLength_df160_20 : decode cJ7_checkLength_df160 20 = .ok (.ldc_w 337, 3) := by decide +kernel
theorem dJ7_checkLength_df160_23 : decode cJ7_checkLength_df160 23 = .ok (.invokevirtual 50, 3) := by decide +kernel
theorem dJ7_checkLength_df160_26 : decode cJ7_checkLength_df160 26 = .ok (.iload_n 1, 1) := by decide +kernel
theorem dJ7_checkLength_df160_27 : decode cJ7_checkLength_df160 27 = .ok (.invokevirtual 54, 3) := by decide +kernel
theorem dJ7_checkLength_df160_30 : decode cJ7_checkLength_df160 30 = .ok (.invokevirtual 61, 3) := by decide +kernel
theorem dJ7_checkLength_df160_33 : decode cJ7_checkLength_df160 33 = .ok (.invokespecial 65, 3) := by decide +kernel
theorem dJ7_checkLength_df160_36 : decode cJ7_checkLength_df160 36 = .ok (.athrow, 1) := by decide +kernel
theorem dJ7_checkLength_df160_37 : decode cJ7_checkLength_df160 37 = .ok (.return_, 1) := by decide +kernel
theorem dJ7_copyOfRange_39247_0 : decode cJ7_copyOfRange_39247 0 = .ok (.iload_n 1, 1) := by decide +kernel
theorem dJ7_copyOfRange_39247_1 : decode cJ7_copyOfRange_39247 1 = .ok (.ifCond .ne 9, 3) := by decide +kernel
theorem dJ7_copyOfRange_39247_4 : decode cJ7_copyOfRange_39247 4 = .ok (.iload_n 2, 1) := by decide +kernel
theorem dJ7_copyOfRange_39247_5 : decode cJ7_copyOfRange_39247 5 = .ok (.aload_n 0, 1) := by decide +kernel
theorem dJ7_copyOfRange_39247_6 : decode cJ7_copyOfRange_39247 6 = .ok (.arraylength, 1) := by decide +kernel
theorem dJ7_copyOfRange_39247_7 : decode cJ7_copyOfRange_39247 7 = .ok (.if_icmp .eq 10, 3) := by decide +kernel
theorem dJ7_copyOfRange_39247_10 : decode cJ7_copyOfRange_39247 10 = .ok (.aload_n 0, 1) := by decide +kernel
theorem dJ7_copyOfRange_39247_11 : decode cJ7_copyOfRange_39247 11 = .ok (.iload_n 1, 1) := by decide +kernel
theorem dJ7_copyOfRange_39247_12 : decode cJ7_copyOfRange_39247 12 = .ok (.iload_n 2, 1) := by decide +kernel
theorem dJ7_copyOfRange_39247_13 : decode cJ7_copyOfRange_39247 13 = .ok (.invokestatic 339, 3) := by decide +kernel
theorem dJ7_copyOfRange_39247_16 : decode cJ7_copyOfRange_39247 16 = .ok (.areturn, 1) := by decide +kernel
theorem dJ7_copyOfRange_39247_17 : decode cJ7_copyOfRange_39247 17 = .ok (.aload_n 0, 1) := by decide +kernel
theorem dJ7_copyOfRange_39247_18 : decode cJ7_copyOfRange_39247 18 = .ok (.invokevirtual 310, 3) := by decide +kernel
theorem dJ7_copyOfRange_39247_21 : decode cJ7_copyOfRange_39247 21 = .ok (.checkcast 311, 3) := by decide +kernel
theorem dJ7_copyOfRange_39247_24 : decode cJ7_copyOfRange_39247 24 = .ok (.areturn, 1) := by decide +kernel
theorem dJ7_copyOfRangeByte_39247_0 : decode cJ7_copyOfRangeByte_39247 0 = .ok (.iload_n 1, 1) := by decide +kernel
theorem dJ7_copyOfRangeByte_39247_1 : decode cJ7_copyOfRangeByte_39247 1 = .ok (.iload_n 2, 1) := by decide +kernel
theorem dJ7_copyOfRangeByte_39247_2 : decode cJ7_copyOfRangeByte_39247 2 = .ok (.invokestatic 343, 3) := by decide +kernel
theorem dJ7_copyOfRangeByte_39247_5 : decode cJ7_copyOfRangeByte_39247 5 = .ok (.iload_n 2, 1) := by decide +kernel
theorem dJ7_copyOfRangeByte_39247_6 : decode cJ7_copyOfRangeByte_39247 6 = .ok (.iload_n 1, 1) := by decide +kernel
theorem dJ7_copyOfRangeByte_39247_7 : decode cJ7_copyOfRangeByte_39247 7 = .ok (.isub, 1) := by decide +kernel
theorem dJ7_copyOfRangeByte_39247_8 : decode cJ7_copyOfRangeByte_39247 8 = .ok (.istore_n 3, 1) := by decide +kernel
theorem dJ7_copyOfRangeByte_39247_9 : decode cJ7_copyOfRangeByte_39247 9 = .ok (.iload_n 3, 1) := by decide +kernel
theorem dJ7_copyOfRangeByte_39247_10 : decode cJ7_copyOfRangeByte_39247 10 = .ok (.newarray .byte, 2) := by decide +kernel
theorem dJ7_copyOfRangeByte_39247_12 : decode cJ7_copyOfRangeByte_39247 12 = .ok (.astore 4, 2) := by decide +kernel
theorem dJ7_copyOfRangeByte_39247_14 : decode cJ7_copyOfRangeByte_39247 14 = .ok (.aload_n 0, 1) := by decide +kernel
theorem dJ7_copyOfRangeByte_39247_15 : decode cJ7_copyOfRangeByte_39247 15 = .ok (.iload_n 1, 1) := by decide +kernel
theorem dJ7_copyOfRangeByte_39247_16 : decode cJ7_copyOfRangeByte_39247 16 = .ok (.aload 4, 2) := by decide +kernel
theorem dJ7_copyOfRangeByte_39247_18 : decode cJ7_copyOfRangeByte_39247 18 = .ok (.iconst 0, 1) := by decide +kernel
theorem dJ7_copyOfRangeByte_39247_19 : decode cJ7_copyOfRangeByte_39247 19 = .ok (.aload_n 0, 1) := by decide +kernel
theorem dJ7_copyOfRangeByte_39247_20 : decode cJ7_copyOfRangeByte_39247 20 = .ok (.arraylength, 1) := by decide +kernel
theorem dJ7_copyOfRangeByte_39247_21 : decode cJ7_copyOfRangeByte_39247 21 = .ok (.iload_n 1, 1) := by decide +kernel
theorem dJ7_copyOfRangeByte_39247_22 : decode cJ7_copyOfRangeByte_39247 22 = .ok (.isub, 1) := by decide +kernel
theorem dJ7_copyOfRangeByte_39247_23 : decode cJ7_copyOfRangeByte_39247 23 = .ok (.iload_n 3, 1) := by decide +kernel
theorem dJ7_copyOfRangeByte_39247_24 : decode cJ7_copyOfRangeByte_39247 24 = .ok (.invokestatic 304, 3) := by decide +kernel
theorem dJ7_copyOfRangeByte_39247_27 : decode cJ7_copyOfRangeByte_39247 27 = .ok (.invokestatic 150, 3) := by decide +kernel
theorem dJ7_copyOfRangeByte_39247_30 : decode cJ7_copyOfRangeByte_39247 30 = .ok (.aload 4, 2) := by decide +kernel
theorem dJ7_copyOfRangeByte_39247_32 : decode cJ7_copyOfRangeByte_39247 32 = .ok (.areturn, 1) := by decide +kernel
theorem dJ8_newLength_cabcc_0 : decode cJ8_newLength_cabcc 0 = .ok (.iload_n 0, 1) := by decide +kernel
theorem dJ8_newLength_cabcc_1 : decode cJ8_newLength_cabcc 1 = .ok (.iload_n 1, 1) := by decide +kernel
theorem dJ8_newLength_cabcc_2 : decode cJ8_newLength_cabcc 2 = .ok (.iload_n 2, 1) := by decide +kernel
theorem dJ8_newLength_cabcc_3 : decode cJ8_newLength_cabcc 3 = .ok (.invokestatic 194, 3) := by decide +kernel
theorem dJ8_newLength_cabcc_6 : decode cJ8_newLength_cabcc 6 = .ok (.iadd, 1) := by decide +kernel
theorem dJ8_newLength_cabcc_7 : decode cJ8_newLength_cabcc 7 = .ok (.istore_n 3, 1) := by decide +kernel
theorem dJ8_newLength_cabcc_8 : decode cJ8_newLength_cabcc 8 = .ok (.iconst 0, 1) := by decide +kernel
theorem dJ8_newLength_cabcc_9 : decode cJ8_newLength_cabcc 9 = .ok (.iload_n 3, 1) := by decide +kernel
theorem dJ8_newLength_cabcc_10 : decode cJ8_newLength_cabcc 10 = .ok (.if_icmp .ge 11, 3) := by decide +kernel
theorem dJ8_newLength_cabcc_13 : decode cJ8_newLength_cabcc 13 = .ok (.iload_n 3, 1) := by decide +kernel
theorem dJ8_newLength_cabcc_14 : decode cJ8_newLength_cabcc 14 = .ok (.ldc 200, 2) := by decide +kernel
theorem dJ8_newLength_cabcc_16 : decode cJ8_newLength_cabcc 16 = .ok (.if_icmp .gt 5, 3) := by decide +kernel
theorem dJ8_newLength_cabcc_19 : decode cJ8_newLength_cabcc 19 = .ok (.iload_n 3, 1) := by decide +kernel
theorem dJ8_newLength_cabcc_20 : decode cJ8_newLength_cabcc 20 = .ok (.ireturn, 1) := by decide +kernel
theorem dJ8_newLength_cabcc_21 : decode cJ8_newLength_cabcc 21 = .ok (.iload_n 0, 1) := by decide +kernel
theorem dJ8_newLength_cabcc_22 : decode cJ8_newLength_cabcc 22 = .ok (.iload_n 1, 1) := by decide +kernel
theorem dJ8_newLength_cabcc_23 : decode cJ8_newLength_cabcc 23 = .ok (.invokestatic 201, 3) := by decide +kernel
theorem dJ8_newLength_cabcc_26 : decode cJ8_newLength_cabcc 26 = .ok (.ireturn, 1) := by decide +kernel
theorem dJ8_hugeLength_7cf53_0 : decode cJ8_hugeLength_7cf53 0 = .ok (.iload_n 0, 1) := by decide +kernel
theorem dJ8_hugeLength_7cf53_1 : decode cJ8_hugeLength_7cf53 1 = .ok (.iload_n 1, 1) := by decide +kernel
theorem dJ8_hugeLength_7cf53_2 : decode cJ8_hugeLength_7cf53 2 = .ok (.iadd, 1) := by decide +kernel
theorem dJ8_hugeLength_7cf53_3 : decode cJ8_hugeLength_7cf53 3 = .ok (.istore_n 2, 1) := by decide +kernel
theorem dJ8_hugeLength_7cf53_4 : decode cJ8_hugeLength_7cf53 4 = .ok (.iload_n 2, 1) := by decide +kernel
theorem dJ8_hugeLength_7cf53_5 : decode cJ8_hugeLength_7cf53 5 = .ok (.ifCond .ge 44, 3) := by decide +kernel
theorem dJ8_hugeLength_7cf53_8 : decode cJ8_hugeLength_7cf53 8 = .ok (.new 204, 3) := by decide +kernel
theorem dJ8_hugeLength_7cf53_11 : decode cJ8_hugeLength_7cf53 11 = .ok (.dup, 1) := by decide +kernel
theorem dJ8_hugeLength_7cf53_12 : decode cJ8_hugeLength_7cf53 12 = .ok (.new 89, 3) := by decide +kernel
theorem dJ8_hugeLength_7cf53_15 : decode cJ8_hugeLength_7cf53 15 = .ok (.dup, 1) := by decide +kernel
theorem dJ8_hugeLength_7cf53_16 : decode cJ8_hugeLength_7cf53 16 = .ok (.invokespecial 91, 3) := by decide +kernel
theorem dJ8_hugeLength_7cf53_19 : decode cJ8_hugeLength_7cf53 19 = .ok (.ldc 206, 2) := by decide +kernel
theorem dJ8_hugeLength_7cf53_21 : decode cJ8_hugeLength_7cf53 21 = .ok (.invokevirtual 94, 3) := by decide +kernel
theorem dJ8_hugeLength_7cf53_24 : decode cJ8_hugeLength_7cf53 24 = .ok (.iload_n 0, 1) := by decide +kernel
theorem dJ8_hugeLength_7cf53_25 : decode cJ8_hugeLength_7cf53 25 = .ok (.invokevirtual 98, 3) := by decide +kernel
theorem dJ8_hugeLength_7cf53_28 : decode cJ8_hugeLength_7cf53 28 = .ok (.ldc 208, 2) := by decide +kernel
theorem dJ8_hugeLength_7cf53_30 : decode cJ8_hugeLength_7cf53 30 = .ok (.invokevirtual 94, 3) := by decide +kernel
theorem dJ8_hugeLength_7cf53_33 : decode cJ8_hugeLength_7cf53 33 = .ok (.iload_n 1, 1) := by decide +kernel
theorem dJ8_hugeLength_7cf53_34 : decode cJ8_hugeLength_7cf53 34 = .ok (.invokevirtual 98, 3) := by decide +kernel
theorem dJ8_hugeLength_7cf53_37 : decode cJ8_hugeLength_7cf53 37 = .ok (.ldc 210, 2) := by decide +kernel
theorem dJ8_hugeLength_7cf53_39 : decode cJ8_hugeLength_7cf53 39 = .ok (.invokevirtual 94, 3) := by decide +kernel
theorem dJ8_hugeLength_7cf53_42 : decode cJ8_hugeLength_7cf53 42 = .ok (.invokevirtual 101, 3) := by decide +kernel
theorem dJ8_hugeLength_7cf53_45 : decode cJ8_hugeLength_7cf53 45 = .ok (.invokespecial 212, 3) := by decide +kernel
theorem dJ8_hugeLength_7cf53_48 : decode cJ8_hugeLength_7cf53 48 = .ok (.athrow, 1) := by decide +kernel
theorem dJ8_hugeLength_7cf53_49 : decode cJ8_hugeLength_7cf53 49 = .ok (.iload_n 2, 1) := by decide +kernel
theorem dJ8_hugeLength_7cf53_50 : decode cJ8_hugeLength_7cf53 50 = .ok (.ldc 200, 2) := by decide +kernel
theorem dJ8_hugeLength_7cf53_52 : decode cJ8_hugeLength_7cf53 52 = .ok (.if_icmp .gt 6, 3) := by decide +kernel
theorem dJ8_hugeLength_7cf53_55 : decode cJ8_hugeLength_7cf53 55 = .ok (.ldc 200, 2) := by decide +kernel
theorem dJ8_hugeLength_7cf53_57 : decode cJ8_hugeLength_7cf53 57 = .ok (.ireturn, 1) := by decide +kernel
theorem dJ8_hugeLength_7cf53_58 : decode cJ8_hugeLength_7cf53 58 = .ok (.iload_n 2, 1) := by decide +kernel
theorem dJ8_hugeLength_7cf53_59 : decode cJ8_hugeLength_7cf53 59 = .ok (.ireturn, 1) := by decide +kernel
theorem dJ3_checkIndex_8e157_0 : decode cJ3_checkIndex_8e157 0 = .ok (.iload_n 0, 1) := by decide +kernel
theorem dJ3_checkIndex_8e157_1 : decode cJ3_checkIndex_8e157 1 = .ok (.ifCond .lt 8, 3) := by decide +kernel
theorem dJ3_checkIndex_8e157_4 : decode cJ3_checkIndex_8e157 4 = .ok (.iload_n 0, 1) := by decide +kernel
theorem dJ3_checkIndex_8e157_5 : decode cJ3_checkIndex_8e157 5 = .ok (.iload_n 1, 1) := by decide +kernel
theorem dJ3_checkIndex_8e157_6 : decode cJ3_checkIndex_8e157 6 = .ok (.if_icmp .lt 10, 3) := by decide +kernel
theorem dJ3_checkIndex_8e157_9 : decode cJ3_checkIndex_8e157 9 = .ok (.aload_n 2, 1) := by decide +kernel
theorem dJ3_checkIndex_8e157_10 : decode cJ3_checkIndex_8e157 10 = .ok (.iload_n 0, 1) := by decide +kernel
theorem dJ3_checkIndex_8e157_11 : decode cJ3_checkIndex_8e157 11 = .ok (.iload_n 1, 1) := by decide +kernel
theorem dJ3_checkIndex_8e157_12 : decode cJ3_checkIndex_8e157 12 = .ok (.invokestatic 95, 3) := by decide +kernel
theorem dJ3_checkIndex_8e157_15 : decode cJ3_checkIndex_8e157 15 = .ok (.athrow, 1) := by decide +kernel
theorem dJ3_checkIndex_8e157_16 : decode cJ3_checkIndex_8e157 16 = .ok (.iload_n 0, 1) := by decide +kernel
theorem dJ3_checkIndex_8e157_17 : decode cJ3_checkIndex_8e157 17 = .ok (.ireturn, 1) := by decide +kernel
theorem dJ3_checkFromToIndex_8c36e_0 : decode cJ3_checkFromToIndex_8c36e 0 = .ok (.iload_n 0, 1) := by decide +kernel
theorem dJ3_checkFromToIndex_8c36e_1 : decode cJ3_checkFromToIndex_8c36e 1 = .ok (.ifCond .lt 13, 3) := by decide +kernel
theorem dJ3_checkFromToIndex_8c36e_4 : decode cJ3_checkFromToIndex_8c36e 4 = .ok (.iload_n 0, 1) := by decide +kernel
theorem dJ3_checkFromToIndex_8c36e_5 : decode cJ3_checkFromToIndex_8c36e 5 = .ok (.iload_n 1, 1) := by decide +kernel
theorem dJ3_checkFromToIndex_8c36e_6 : decode cJ3_checkFromToIndex_8c36e 6 = .ok (.if_icmp .gt 8, 3) := by decide +kernel
theorem dJ3_checkFromToIndex_8c36e_9 : decode cJ3_checkFromToIndex_8c36e 9 = .ok (.iload_n 1, 1) := by decide +kernel
theorem dJ3_checkFromToIndex_8c36e_10 : decode cJ3_checkFromToIndex_8c36e 10 = .ok (.iload_n 2, 1) := by decide +kernel
theorem dJ3_checkFromToIndex_8c36e_11 : decode cJ3_checkFromToIndex_8c36e 11 = .ok (.if_icmp .le 11, 3) := by decide +kernel
theorem dJ3_checkFromToIndex_8c36e_14 : decode cJ3_checkFromToIndex_8c36e 14 = .ok (.aload_n 3, 1) := by decide +kernel
theorem dJ3_checkFromToIndex_8c36e_15 : decode cJ3_checkFromToIndex_8c36e 15 = .ok (.iload_n 0, 1) := by decide +kernel
theorem dJ3_checkFromToIndex_8c36e_16 : decode cJ3_checkFromToIndex_8c36e 16 = .ok (.iload_n 1, 1) := by decide +kernel
theorem dJ3_checkFromToIndex_8c36e_17 : decode cJ3_checkFromToIndex_8c36e 17 = .ok (.iload_n 2, 1) := by decide +kernel
theorem dJ3_checkFromToIndex_8c36e_18 : decode cJ3_checkFromToIndex_8c36e 18 = .ok (.invokestatic 99, 3) := by decide +kernel
theorem dJ3_checkFromToIndex_8c36e_21 : decode cJ3_checkFromToIndex_8c36e 21 = .ok (.athrow, 1) := by decide +kernel
theorem dJ3_checkFromToIndex_8c36e_22 : decode cJ3_checkFromToIndex_8c36e 22 = .ok (.iload_n 0, 1) := by decide +kernel
theorem dJ3_checkFromToIndex_8c36e_23 : decode cJ3_checkFromToIndex_8c36e 23 = .ok (.ireturn, 1) := by decide +kernel
theorem dJ3_checkFromIndexSize_8c36e_0 : decode cJ3_checkFromIndexSize_8c36e 0 = .ok (.iload_n 2, 1) := by decide +kernel
theorem dJ3_checkFromIndexSize_8c36e_1 : decode cJ3_checkFromIndexSize_8c36e 1 = .ok (.iload_n 0, 1) := by decide +kernel
theorem dJ3_checkFromIndexSize_8c36e_2 : decode cJ3_checkFromIndexSize_8c36e 2 = .ok (.ior, 1) := by decide +kernel
theorem dJ3_checkFromIndexSize_8c36e_3 : decode cJ3_checkFromIndexSize_8c36e 3 = .ok (.iload_n 1, 1) := by decide +kernel
theorem dJ3_checkFromIndexSize_8c36e_4 : decode cJ3_checkFromIndexSize_8c36e 4 = .ok (.ior, 1) := by decide +kernel
theorem dJ3_checkFromIndexSize_8c36e_5 : decode cJ3_checkFromIndexSize_8c36e 5 = .ok (.ifCond .lt 10, 3) := by decide +kernel
theorem dJ3_checkFromIndexSize_8c36e_8 : decode cJ3_checkFromIndexSize_8c36e 8 = .ok (.iload_n 1, 1) := by decide +kernel
theorem dJ3_checkFromIndexSize_8c36e_9 : decode cJ3_checkFromIndexSize_8c36e 9 = .ok (.iload_n 2, 1) := by decide +kernel
theorem dJ3_checkFromIndexSize_8c36e_10 : decode cJ3_checkFromIndexSize_8c36e 10 = .ok (.iload_n 0, 1) := by decide +kernel
theorem dJ3_checkFromIndexSize_8c36e_11 : decode cJ3_checkFromIndexSize_8c36e 11 = .ok (.isub, 1) := by decide +kernel
theorem dJ3_checkFromIndexSize_8c36e_12 : decode cJ3_checkFromIndexSize_8c36e 12 = .ok (.if_icmp .le 11, 3) := by decide +kernel
theorem dJ3_checkFromIndexSize_8c36e_15 : decode cJ3_checkFromIndexSize_8c36e 15 = .ok (.aload_n 3, 1) := by decide +kernel
theorem dJ3_checkFromIndexSize_8c36e_16 : decode cJ3_checkFromIndexSize_8c36e 16 = .ok (.iload_n 0, 1) := by decide +kernel
theorem dJ3_checkFromIndexSize_8c36e_17 : decode cJ3_checkFromIndexSize_8c36e 17 = .ok (.iload_n 1, 1) := by decide +kernel
theorem dJ3_checkFromIndexSize_8c36e_18 : decode cJ3_checkFromIndexSize_8c36e 18 = .ok (.iload_n 2, 1) := by decide +kernel
theorem dJ3_checkFromIndexSize_8c36e_19 : decode cJ3_checkFromIndexSize_8c36e 19 = .ok (.invokestatic 103, 3) := by decide +kernel
theorem dJ3_checkFromIndexSize_8c36e_22 : decode cJ3_checkFromIndexSize_8c36e 22 = .ok (.athrow, 1) := by decide +kernel
theorem dJ3_checkFromIndexSize_8c36e_23 : decode cJ3_checkFromIndexSize_8c36e 23 = .ok (.iload_n 0, 1) := by decide +kernel
theorem dJ3_checkFromIndexSize_8c36e_24 : decode cJ3_checkFromIndexSize_8c36e 24 = .ok (.ireturn, 1) := by decide +kernel
