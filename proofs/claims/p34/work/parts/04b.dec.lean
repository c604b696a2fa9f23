theorem dX7_init_0 : decode cX7_init 0 = .ok (.aload_n 0, 1) := by decide +kernel
theorem dX7_init_1 : decode cX7_init 1 = .ok (.invokespecial 1, 3) := by decide +kernel
theorem dX7_init_4 : decode cX7_init 4 = .ok (.aload_n 0, 1) := by decide +kernel
theorem dX7_init_5 : decode cX7_init 5 = .ok (.sipush 600, 3) := by decide +kernel
theorem dX7_init_8 : decode cX7_init 8 = .ok (.newarray .byte, 2) := by decide +kernel
theorem dX7_init_10 : decode cX7_init 10 = .ok (.putfield 9, 3) := by decide +kernel
theorem dX7_init_13 : decode cX7_init 13 = .ok (.aload_n 0, 1) := by decide +kernel
theorem dX7_init_14 : decode cX7_init 14 = .ok (.new 13, 3) := by decide +kernel
theorem dX7_init_17 : decode cX7_init 17 = .ok (.dup, 1) := by decide +kernel
theorem dX7_init_18 : decode cX7_init 18 = .ok (.invokespecial 15, 3) := by decide +kernel
theorem dX7_init_21 : decode cX7_init 21 = .ok (.putfield 16, 3) := by decide +kernel
theorem dX7_init_24 : decode cX7_init 24 = .ok (.aload_n 0, 1) := by decide +kernel
theorem dX7_init_25 : decode cX7_init 25 = .ok (.new 20, 3) := by decide +kernel
theorem dX7_init_28 : decode cX7_init 28 = .ok (.dup, 1) := by decide +kernel
theorem dX7_init_29 : decode cX7_init 29 = .ok (.invokespecial 22, 3) := by decide +kernel
theorem dX7_init_32 : decode cX7_init 32 = .ok (.putfield 23, 3) := by decide +kernel
theorem dX7_init_35 : decode cX7_init 35 = .ok (.aload_n 0, 1) := by decide +kernel
theorem dX7_init_36 : decode cX7_init 36 = .ok (.new 20, 3) := by decide +kernel
theorem dX7_init_39 : decode cX7_init 39 = .ok (.dup, 1) := by decide +kernel
theorem dX7_init_40 : decode cX7_init 40 = .ok (.invokespecial 22, 3) := by decide +kernel
theorem dX7_init_43 : decode cX7_init 43 = .ok (.putfield 27, 3) := by decide +kernel
theorem dX7_init_46 : decode cX7_init 46 = .ok (.aload_n 0, 1) := by decide +kernel
theorem dX7_init_47 : decode cX7_init 47 = .ok (.bipush 10, 2) := by decide +kernel
theorem dX7_init_49 : decode cX7_init 49 = .ok (.anewarray 20, 3) := by decide +kernel
theorem dX7_init_52 : decode cX7_init 52 = .ok (.putfield 30, 3) := by decide +kernel
theorem dX7_init_55 : decode cX7_init 55 = .ok (.aload_n 0, 1) := by decide +kernel
theorem dX7_init_56 : decode cX7_init 56 = .ok (.iconst 2, 1) := by decide +kernel
theorem dX7_init_57 : decode cX7_init 57 = .ok (.anewarray 20, 3) := by decide +kernel
theorem dX7_init_60 : decode cX7_init 60 = .ok (.putfield 34, 3) := by decide +kernel
theorem dX7_init_63 : decode cX7_init 63 = .ok (.aload_n 0, 1) := by decide +kernel
theorem dX7_init_64 : decode cX7_init 64 = .ok (.iconst 2, 1) := by decide +kernel
theorem dX7_init_65 : decode cX7_init 65 = .ok (.newarray .boolean, 2) := by decide +kernel
theorem dX7_init_67 : decode cX7_init 67 = .ok (.putfield 37, 3) := by decide +kernel
theorem dX7_init_70 : decode cX7_init 70 = .ok (.aload_n 0, 1) := by decide +kernel
theorem dX7_init_71 : decode cX7_init 71 = .ok (.iconst (-1), 1) := by decide +kernel
theorem dX7_init_72 : decode cX7_init 72 = .ok (.putfield 41, 3) := by decide +kernel
theorem dX7_init_75 : decode cX7_init 75 = .ok (.aload_n 0, 1) := by decide +kernel
theorem dX7_init_76 : decode cX7_init 76 = .ok (.new 45, 3) := by decide +kernel
theorem dX7_init_79 : decode cX7_init 79 = .ok (.dup, 1) := by decide +kernel
theorem dX7_init_80 : decode cX7_init 80 = .ok (.invokespecial 47, 3) := by decide +kernel
theorem dX7_init_83 : decode cX7_init 83 = .ok (.putfield 48, 3) := by decide +kernel
theorem dX7_init_86 : decode cX7_init 86 = .ok (.aload_n 0, 1) := by decide +kernel
theorem dX7_init_87 : decode cX7_init 87 = .ok (.new 45, 3) := by decide +kernel
theorem dX7_init_90 : decode cX7_init 90 = .ok (.dup, 1) := by decide +kernel
theorem dX7_init_91 : decode cX7_init 91 = .ok (.invokespecial 47, 3) := by decide +kernel
theorem dX7_init_94 : decode cX7_init 94 = .ok (.putfield 52, 3) := by decide +kernel
theorem dX7_init_97 : decode cX7_init 97 = .ok (.iconst 0, 1) := by decide +kernel
theorem dX7_init_98 : decode cX7_init 98 = .ok (.istore_n 1, 1) := by decide +kernel
theorem dX7_init_99 : decode cX7_init 99 = .ok (.iload_n 1, 1) := by decide +kernel
theorem dX7_init_100 : decode cX7_init 100 = .ok (.bipush 10, 2) := by decide +kernel
theorem dX7_init_102 : decode cX7_init 102 = .ok (.if_icmp .ge 22, 3) := by decide +kernel
theorem dX7_init_105 : decode cX7_init 105 = .ok (.aload_n 0, 1) := by decide +kernel
theorem dX7_init_106 : decode cX7_init 106 = .ok (.getfield 30, 3) := by decide +kernel
theorem dX7_init_109 : decode cX7_init 109 = .ok (.iload_n 1, 1) := by decide +kernel
theorem dX7_init_110 : decode cX7_init 110 = .ok (.new 20, 3) := by decide +kernel
theorem dX7_init_113 : decode cX7_init 113 = .ok (.dup, 1) := by decide +kernel
theorem dX7_init_114 : decode cX7_init 114 = .ok (.invokespecial 22, 3) := by decide +kernel
theorem dX7_init_117 : decode cX7_init 117 = .ok (.aastore, 1) := by decide +kernel
theorem dX7_init_118 : decode cX7_init 118 = .ok (.iinc 1 1, 3) := by decide +kernel
theorem dX7_init_121 : decode cX7_init 121 = .ok (.goto (-22), 3) := by decide +kernel
theorem dX7_init_124 : decode cX7_init 124 = .ok (.iconst 0, 1) := by decide +kernel
theorem dX7_init_125 : decode cX7_init 125 = .ok (.istore_n 1, 1) := by decide +kernel
theorem dX7_init_126 : decode cX7_init 126 = .ok (.iload_n 1, 1) := by decide +kernel
theorem dX7_init_127 : decode cX7_init 127 = .ok (.iconst 2, 1) := by decide +kernel
theorem dX7_init_128 : decode cX7_init 128 = .ok (.if_icmp .ge 22, 3) := by decide +kernel
theorem dX7_init_131 : decode cX7_init 131 = .ok (.aload_n 0, 1) := by decide +kernel
theorem dX7_init_132 : decode cX7_init 132 = .ok (.getfield 34, 3) := by decide +kernel
theorem dX7_init_135 : decode cX7_init 135 = .ok (.iload_n 1, 1) := by decide +kernel
theorem dX7_init_136 : decode cX7_init 136 = .ok (.new 20, 3) := by decide +kernel
theorem dX7_init_139 : decode cX7_init 139 = .ok (.dup, 1) := by decide +kernel
theorem dX7_init_140 : decode cX7_init 140 = .ok (.invokespecial 22, 3) := by decide +kernel
theorem dX7_init_143 : decode cX7_init 143 = .ok (.aastore, 1) := by decide +kernel
theorem dX7_init_144 : decode cX7_init 144 = .ok (.iinc 1 1, 3) := by decide +kernel
theorem dX7_init_147 : decode cX7_init 147 = .ok (.goto (-21), 3) := by decide +kernel
theorem dX7_init_150 : decode cX7_init 150 = .ok (.return_, 1) := by decide +kernel
theorem dX7_append_0 : decode cX7_append 0 = .ok (.aload_n 0, 1) := by decide +kernel
theorem dX7_append_1 : decode cX7_append 1 = .ok (.getfield 55, 3) := by decide +kernel
theorem dX7_append_4 : decode cX7_append 4 = .ok (.sipush 580, 3) := by decide +kernel
theorem dX7_append_7 : decode cX7_append 7 = .ok (.if_icmp .le 5, 3) := by decide +kernel
theorem dX7_append_10 : decode cX7_append 10 = .ok (.iconst (-1), 1) := by decide +kernel
theorem dX7_append_11 : decode cX7_append 11 = .ok (.ireturn, 1) := by decide +kernel
theorem dX7_append_12 : decode cX7_append 12 = .ok (.aload_n 0, 1) := by decide +kernel
theorem dX7_append_13 : decode cX7_append 13 = .ok (.iload_n 1, 1) := by decide +kernel
theorem dX7_append_14 : decode cX7_append 14 = .ok (.invokevirtual 58, 3) := by decide +kernel
theorem dX7_append_17 : decode cX7_append 17 = .ok (.aload_n 0, 1) := by decide +kernel
theorem dX7_append_18 : decode cX7_append 18 = .ok (.iload_n 2, 1) := by decide +kernel
theorem dX7_append_19 : decode cX7_append 19 = .ok (.invokevirtual 58, 3) := by decide +kernel
theorem dX7_append_22 : decode cX7_append 22 = .ok (.aload_n 0, 1) := by decide +kernel
theorem dX7_append_23 : decode cX7_append 23 = .ok (.iload_n 3, 1) := by decide +kernel
theorem dX7_append_24 : decode cX7_append 24 = .ok (.invokevirtual 58, 3) := by decide +kernel
theorem dX7_append_27 : decode cX7_append 27 = .ok (.aload_n 0, 1) := by decide +kernel
theorem dX7_append_28 : decode cX7_append 28 = .ok (.iload 4, 2) := by decide +kernel
theorem dX7_append_30 : decode cX7_append 30 = .ok (.invokevirtual 58, 3) := by decide +kernel
theorem dX7_append_33 : decode cX7_append 33 = .ok (.aload_n 0, 1) := by decide +kernel
theorem dX7_append_34 : decode cX7_append 34 = .ok (.iload 5, 2) := by decide +kernel
theorem dX7_append_36 : decode cX7_append 36 = .ok (.invokevirtual 58, 3) := by decide +kernel
theorem dX7_append_39 : decode cX7_append 39 = .ok (.aload_n 0, 1) := by decide +kernel
theorem dX7_append_40 : decode cX7_append 40 = .ok (.getfield 55, 3) := by decide +kernel
theorem dX7_append_43 : decode cX7_append 43 = .ok (.ireturn, 1) := by decide +kernel
theorem dX7_appendFour_0 : decode cX7_appendFour 0 = .ok (.bipush 24, 2) := by decide +kernel
theorem dX7_appendFour_2 : decode cX7_appendFour 2 = .ok (.istore_n 2, 1) := by decide +kernel
theorem dX7_appendFour_3 : decode cX7_appendFour 3 = .ok (.iload_n 2, 1) := by decide +kernel
theorem dX7_appendFour_4 : decode cX7_appendFour 4 = .ok (.ifCond .lt 32, 3) := by decide +kernel
theorem dX7_appendFour_7 : decode cX7_appendFour 7 = .ok (.aload_n 0, 1) := by decide +kernel
theorem dX7_appendFour_8 : decode cX7_appendFour 8 = .ok (.getfield 9, 3) := by decide +kernel
theorem dX7_appendFour_11 : decode cX7_appendFour 11 = .ok (.aload_n 0, 1) := by decide +kernel
theorem dX7_appendFour_12 : decode cX7_appendFour 12 = .ok (.getfield 55, 3) := by decide +kernel
theorem dX7_appendFour_15 : decode cX7_appendFour 15 = .ok (.iload_n 1, 1) := by decide +kernel
theorem dX7_appendFour_16 : decode cX7_appendFour 16 = .ok (.iload_n 2, 1) := by decide +kernel
theorem dX7_appendFour_17 : decode cX7_appendFour 17 = .ok (.ishr, 1) := by decide +kernel
theorem dX7_appendFour_18 : decode cX7_appendFour 18 = .ok (.i2b, 1) := by decide +kernel
theorem dX7_appendFour_19 : decode cX7_appendFour 19 = .ok (.bastore, 1) := by decide +kernel
theorem dX7_appendFour_20 : decode cX7_appendFour 20 = .ok (.aload_n 0, 1) := by decide +kernel
theorem dX7_appendFour_21 : decode cX7_appendFour 21 = .ok (.dup, 1) := by decide +kernel
theorem dX7_appendFour_22 : decode cX7_appendFour 22 = .ok (.getfield 55, 3) := by decide +kernel
theorem dX7_appendFour_25 : decode cX7_appendFour 25 = .ok (.iconst 1, 1) := by decide +kernel
theorem dX7_appendFour_26 : decode cX7_appendFour 26 = .ok (.iadd, 1) := by decide +kernel
theorem dX7_appendFour_27 : decode cX7_appendFour 27 = .ok (.putfield 55, 3) := by decide +kernel
theorem dX7_appendFour_30 : decode cX7_appendFour 30 = .ok (.iinc 2 (-8), 3) := by decide +kernel
theorem dX7_appendFour_33 : decode cX7_appendFour 33 = .ok (.goto (-30), 3) := by decide +kernel
theorem dX7_appendFour_36 : decode cX7_appendFour 36 = .ok (.return_, 1) := by decide +kernel
theorem dX7_parse_0 : decode cX7_parse 0 = .ok (.iload_n 1, 1) := by decide +kernel
theorem dX7_parse_1 : decode cX7_parse 1 = .ok (.ifCond .lt 15, 3) := by decide +kernel
theorem dX7_parse_4 : decode cX7_parse 4 = .ok (.iload_n 1, 1) := by decide +kernel
theorem dX7_parse_5 : decode cX7_parse 5 = .ok (.aload_n 0, 1) := by decide +kernel
theorem dX7_parse_6 : decode cX7_parse 6 = .ok (.getfield 55, 3) := by decide +kernel
theorem dX7_parse_9 : decode cX7_parse 9 = .ok (.if_icmp .gt 7, 3) := by decide +kernel
theorem dX7_parse_12 : decode cX7_parse 12 = .ok (.iconst 1, 1) := by decide +kernel
theorem dX7_parse_13 : decode cX7_parse 13 = .ok (.goto 4, 3) := by decide +kernel
theorem dX7_parse_16 : decode cX7_parse 16 = .ok (.iconst 0, 1) := by decide +kernel
theorem dX7_parse_17 : decode cX7_parse 17 = .ok (.invokestatic 62, 3) := by decide +kernel
theorem dX7_parse_20 : decode cX7_parse 20 = .ok (.new 66, 3) := by decide +kernel
theorem dX7_parse_23 : decode cX7_parse 23 = .ok (.dup, 1) := by decide +kernel
theorem dX7_parse_24 : decode cX7_parse 24 = .ok (.new 68, 3) := by decide +kernel
theorem dX7_parse_27 : decode cX7_parse 27 = .ok (.dup, 1) := by decide +kernel
theorem dX7_parse_28 : decode cX7_parse 28 = .ok (.aload_n 0, 1) := by decide +kernel
theorem dX7_parse_29 : decode cX7_parse 29 = .ok (.getfield 9, 3) := by decide +kernel
theorem dX7_parse_32 : decode cX7_parse 32 = .ok (.iload_n 1, 1) := by decide +kernel
theorem dX7_parse_33 : decode cX7_parse 33 = .ok (.invokespecial 70, 3) := by decide +kernel
theorem dX7_parse_36 : decode cX7_parse 36 = .ok (.aload_n 0, 1) := by decide +kernel
theorem dX7_parse_37 : decode cX7_parse 37 = .ok (.getfield 52, 3) := by decide +kernel
theorem dX7_parse_40 : decode cX7_parse 40 = .ok (.invokespecial 73, 3) := by decide +kernel
theorem dX7_parse_43 : decode cX7_parse 43 = .ok (.astore_n 2, 1) := by decide +kernel
theorem dX7_parse_44 : decode cX7_parse 44 = .ok (.aload_n 2, 1) := by decide +kernel
theorem dX7_parse_45 : decode cX7_parse 45 = .ok (.invokevirtual 76, 3) := by decide +kernel
theorem dX7_parse_48 : decode cX7_parse 48 = .ok (.aload_n 0, 1) := by decide +kernel
theorem dX7_parse_49 : decode cX7_parse 49 = .ok (.aload_n 2, 1) := by decide +kernel
theorem dX7_parse_50 : decode cX7_parse 50 = .ok (.getfield 79, 3) := by decide +kernel
theorem dX7_parse_53 : decode cX7_parse 53 = .ok (.putfield 41, 3) := by decide +kernel
theorem dX7_parse_56 : decode cX7_parse 56 = .ok (.aload_n 0, 1) := by decide +kernel
theorem dX7_parse_57 : decode cX7_parse 57 = .ok (.iconst 0, 1) := by decide +kernel
theorem dX7_parse_58 : decode cX7_parse 58 = .ok (.putfield 55, 3) := by decide +kernel
theorem dX7_parse_61 : decode cX7_parse 61 = .ok (.aload_n 2, 1) := by decide +kernel
theorem dX7_parse_62 : decode cX7_parse 62 = .ok (.getfield 82, 3) := by decide +kernel
theorem dX7_parse_65 : decode cX7_parse 65 = .ok (.ifCond .ne 7, 3) := by decide +kernel
theorem dX7_parse_68 : decode cX7_parse 68 = .ok (.aload_n 0, 1) := by decide +kernel
theorem dX7_parse_69 : decode cX7_parse 69 = .ok (.invokevirtual 85, 3) := by decide +kernel
theorem dX7_parse_72 : decode cX7_parse 72 = .ok (.aload_n 2, 1) := by decide +kernel
theorem dX7_parse_73 : decode cX7_parse 73 = .ok (.getfield 82, 3) := by decide +kernel
theorem dX7_parse_76 : decode cX7_parse 76 = .ok (.ireturn, 1) := by decide +kernel
theorem dX7_begin_0 : decode cX7_begin 0 = .ok (.aload_n 0, 1) := by decide +kernel
theorem dX7_begin_1 : decode cX7_begin 1 = .ok (.getfield 52, 3) := by decide +kernel
theorem dX7_begin_4 : decode cX7_begin 4 = .ok (.astore_n 1, 1) := by decide +kernel
theorem dX7_begin_5 : decode cX7_begin 5 = .ok (.aload_n 0, 1) := by decide +kernel
theorem dX7_begin_6 : decode cX7_begin 6 = .ok (.aload_n 0, 1) := by decide +kernel
theorem dX7_begin_7 : decode cX7_begin 7 = .ok (.getfield 48, 3) := by decide +kernel
theorem dX7_begin_10 : decode cX7_begin 10 = .ok (.putfield 52, 3) := by decide +kernel
theorem dX7_begin_13 : decode cX7_begin 13 = .ok (.aload_n 0, 1) := by decide +kernel
theorem dX7_begin_14 : decode cX7_begin 14 = .ok (.aload_n 1, 1) := by decide +kernel
theorem dX7_begin_15 : decode cX7_begin 15 = .ok (.putfield 48, 3) := by decide +kernel
theorem dX7_begin_18 : decode cX7_begin 18 = .ok (.aload_n 0, 1) := by decide +kernel
theorem dX7_begin_19 : decode cX7_begin 19 = .ok (.getfield 23, 3) := by decide +kernel
theorem dX7_begin_22 : decode cX7_begin 22 = .ok (.aload_n 0, 1) := by decide +kernel
theorem dX7_begin_23 : decode cX7_begin 23 = .ok (.getfield 48, 3) := by decide +kernel
theorem dX7_begin_26 : decode cX7_begin 26 = .ok (.getfield 88, 3) := by decide +kernel
theorem dX7_begin_29 : decode cX7_begin 29 = .ok (.invokevirtual 92, 3) := by decide +kernel
theorem dX7_begin_32 : decode cX7_begin 32 = .ok (.aload_n 0, 1) := by decide +kernel
theorem dX7_begin_33 : decode cX7_begin 33 = .ok (.iconst 0, 1) := by decide +kernel
theorem dX7_begin_34 : decode cX7_begin 34 = .ok (.putfield 95, 3) := by decide +kernel
theorem dX7_begin_37 : decode cX7_begin 37 = .ok (.iconst 0, 1) := by decide +kernel
theorem dX7_begin_38 : decode cX7_begin 38 = .ok (.istore_n 2, 1) := by decide +kernel
theorem dX7_begin_39 : decode cX7_begin 39 = .ok (.iload_n 2, 1) := by decide +kernel
theorem dX7_begin_40 : decode cX7_begin 40 = .ok (.iconst 2, 1) := by decide +kernel
theorem dX7_begin_41 : decode cX7_begin 41 = .ok (.if_icmp .ge 16, 3) := by decide +kernel
theorem dX7_begin_44 : decode cX7_begin 44 = .ok (.aload_n 0, 1) := by decide +kernel
theorem dX7_begin_45 : decode cX7_begin 45 = .ok (.getfield 37, 3) := by decide +kernel
theorem dX7_begin_48 : decode cX7_begin 48 = .ok (.iload_n 2, 1) := by decide +kernel
theorem dX7_begin_49 : decode cX7_begin 49 = .ok (.iconst 0, 1) := by decide +kernel
theorem dX7_begin_50 : decode cX7_begin 50 = .ok (.bastore, 1) := by decide +kernel
theorem dX7_begin_51 : decode cX7_begin 51 = .ok (.iinc 2 1, 3) := by decide +kernel
theorem dX7_begin_54 : decode cX7_begin 54 = .ok (.goto (-15), 3) := by decide +kernel
theorem dX7_begin_57 : decode cX7_begin 57 = .ok (.return_, 1) := by decide +kernel
theorem dX7_size_0 : decode cX7_size 0 = .ok (.iload_n 1, 1) := by decide +kernel
theorem dX7_size_1 : decode cX7_size 1 = .ok (.tableswitch 120 0 7 #[47, 55, 66, 77, 88, 99, 107, 115], 47) := by decide +kernel
theorem dX7_size_48 : decode cX7_size 48 = .ok (.aload_n 0, 1) := by decide +kernel
theorem dX7_size_49 : decode cX7_size 49 = .ok (.getfield 48, 3) := by decide +kernel
theorem dX7_size_52 : decode cX7_size 52 = .ok (.getfield 98, 3) := by decide +kernel
theorem dX7_size_55 : decode cX7_size 55 = .ok (.ireturn, 1) := by decide +kernel
theorem dX7_size_56 : decode cX7_size 56 = .ok (.aload_n 0, 1) := by decide +kernel
theorem dX7_size_57 : decode cX7_size 57 = .ok (.getfield 48, 3) := by decide +kernel
theorem dX7_size_60 : decode cX7_size 60 = .ok (.getfield 101, 3) := by decide +kernel
theorem dX7_size_63 : decode cX7_size 63 = .ok (.getfield 105, 3) := by decide +kernel
theorem dX7_size_66 : decode cX7_size 66 = .ok (.ireturn, 1) := by decide +kernel
theorem dX7_size_67 : decode cX7_size 67 = .ok (.aload_n 0, 1) := by decide +kernel
theorem dX7_size_68 : decode cX7_size 68 = .ok (.getfield 48, 3) := by decide +kernel
theorem dX7_size_71 : decode cX7_size 71 = .ok (.getfield 110, 3) := by decide +kernel
theorem dX7_size_74 : decode cX7_size 74 = .ok (.getfield 105, 3) := by decide +kernel
theorem dX7_size_77 : decode cX7_size 77 = .ok (.ireturn, 1) := by decide +kernel
theorem dX7_size_78 : decode cX7_size 78 = .ok (.aload_n 0, 1) := by decide +kernel
theorem dX7_size_79 : decode cX7_size 79 = .ok (.getfield 48, 3) := by decide +kernel
theorem dX7_size_82 : decode cX7_size 82 = .ok (.getfield 113, 3) := by decide +kernel
theorem dX7_size_85 : decode cX7_size 85 = .ok (.getfield 105, 3) := by decide +kernel
theorem dX7_size_88 : decode cX7_size 88 = .ok (.ireturn, 1) := by decide +kernel
theorem dX7_size_89 : decode cX7_size 89 = .ok (.aload_n 0, 1) := by decide +kernel
theorem dX7_size_90 : decode cX7_size 90 = .ok (.getfield 48, 3) := by decide +kernel
theorem dX7_size_93 : decode cX7_size 93 = .ok (.getfield 116, 3) := by decide +kernel
theorem dX7_size_96 : decode cX7_size 96 = .ok (.getfield 105, 3) := by decide +kernel
theorem dX7_size_99 : decode cX7_size 99 = .ok (.ireturn, 1) := by decide +kernel
theorem dX7_size_100 : decode cX7_size 100 = .ok (.aload_n 0, 1) := by decide +kernel
theorem dX7_size_101 : decode cX7_size 101 = .ok (.getfield 23, 3) := by decide +kernel
theorem dX7_size_104 : decode cX7_size 104 = .ok (.getfield 119, 3) := by decide +kernel
theorem dX7_size_107 : decode cX7_size 107 = .ok (.ireturn, 1) := by decide +kernel
theorem dX7_size_108 : decode cX7_size 108 = .ok (.aload_n 0, 1) := by decide +kernel
theorem dX7_size_109 : decode cX7_size 109 = .ok (.getfield 48, 3) := by decide +kernel
theorem dX7_size_112 : decode cX7_size 112 = .ok (.getfield 120, 3) := by decide +kernel
theorem dX7_size_115 : decode cX7_size 115 = .ok (.ireturn, 1) := by decide +kernel
theorem dX7_size_116 : decode cX7_size 116 = .ok (.aload_n 0, 1) := by decide +kernel
theorem dX7_size_117 : decode cX7_size 117 = .ok (.getfield 95, 3) := by decide +kernel
theorem dX7_size_120 : decode cX7_size 120 = .ok (.ireturn, 1) := by decide +kernel
theorem dX7_size_121 : decode cX7_size 121 = .ok (.new 123, 3) := by decide +kernel
theorem dX7_size_124 : decode cX7_size 124 = .ok (.dup, 1) := by decide +kernel
theorem dX7_size_125 : decode cX7_size 125 = .ok (.invokespecial 125, 3) := by decide +kernel
theorem dX7_size_128 : decode cX7_size 128 = .ok (.athrow, 1) := by decide +kernel
theorem dX7_player_0 : decode cX7_player 0 = .ok (.aload_n 0, 1) := by decide +kernel
theorem dX7_player_1 : decode cX7_player 1 = .ok (.iload_n 1, 1) := by decide +kernel
theorem dX7_player_2 : decode cX7_player 2 = .ok (.invokevirtual 148, 3) := by decide +kernel
theorem dX7_player_5 : decode cX7_player 5 = .ok (.iload_n 2, 1) := by decide +kernel
theorem dX7_player_6 : decode cX7_player 6 = .ok (.tableswitch 135 0 7 #[46, 56, 66, 76, 86, 95, 108, 122], 46) := by decide +kernel
theorem dX7_player_52 : decode cX7_player 52 = .ok (.aload_n 0, 1) := by decide +kernel
theorem dX7_player_53 : decode cX7_player 53 = .ok (.getfield 23, 3) := by decide +kernel
theorem dX7_player_56 : decode cX7_player 56 = .ok (.getfield 151, 3) := by decide +kernel
theorem dX7_player_59 : decode cX7_player 59 = .ok (.iload_n 1, 1) := by decide +kernel
theorem dX7_player_60 : decode cX7_player 60 = .ok (.iaload, 1) := by decide +kernel
theorem dX7_player_61 : decode cX7_player 61 = .ok (.ireturn, 1) := by decide +kernel
theorem dX7_player_62 : decode cX7_player 62 = .ok (.aload_n 0, 1) := by decide +kernel
theorem dX7_player_63 : decode cX7_player 63 = .ok (.getfield 48, 3) := by decide +kernel
theorem dX7_player_66 : decode cX7_player 66 = .ok (.getfield 152, 3) := by decide +kernel
theorem dX7_player_69 : decode cX7_player 69 = .ok (.iload_n 1, 1) := by decide +kernel
theorem dX7_player_70 : decode cX7_player 70 = .ok (.iaload, 1) := by decide +kernel
theorem dX7_player_71 : decode cX7_player 71 = .ok (.ireturn, 1) := by decide +kernel
theorem dX7_player_72 : decode cX7_player 72 = .ok (.aload_n 0, 1) := by decide +kernel
theorem dX7_player_73 : decode cX7_player 73 = .ok (.getfield 48, 3) := by decide +kernel
theorem dX7_player_76 : decode cX7_player 76 = .ok (.getfield 155, 3) := by decide +kernel
theorem dX7_player_79 : decode cX7_player 79 = .ok (.iload_n 1, 1) := by decide +kernel
theorem dX7_player_80 : decode cX7_player 80 = .ok (.iaload, 1) := by decide +kernel
theorem dX7_player_81 : decode cX7_player 81 = .ok (.ireturn, 1) := by decide +kernel
theorem dX7_player_82 : decode cX7_player 82 = .ok (.aload_n 0, 1) := by decide +kernel
theorem dX7_player_83 : decode cX7_player 83 = .ok (.getfield 48, 3) := by decide +kernel
theorem dX7_player_86 : decode cX7_player 86 = .ok (.getfield 158, 3) := by decide +kernel
theorem dX7_player_89 : decode cX7_player 89 = .ok (.iload_n 1, 1) := by decide +kernel
theorem dX7_player_90 : decode cX7_player 90 = .ok (.iaload, 1) := by decide +kernel
theorem dX7_player_91 : decode cX7_player 91 = .ok (.ireturn, 1) := by decide +kernel
theorem dX7_player_92 : decode cX7_player 92 = .ok (.aload_n 0, 1) := by decide +kernel
theorem dX7_player_93 : decode cX7_player 93 = .ok (.getfield 23, 3) := by decide +kernel
theorem dX7_player_96 : decode cX7_player 96 = .ok (.iload_n 1, 1) := by decide +kernel
theorem dX7_player_97 : decode cX7_player 97 = .ok (.invokevirtual 161, 3) := by decide +kernel
theorem dX7_player_100 : decode cX7_player 100 = .ok (.ireturn, 1) := by decide +kernel
theorem dX7_player_101 : decode cX7_player 101 = .ok (.aload_n 0, 1) := by decide +kernel
theorem dX7_player_102 : decode cX7_player 102 = .ok (.getfield 48, 3) := by decide +kernel
theorem dX7_player_105 : decode cX7_player 105 = .ok (.aload_n 0, 1) := by decide +kernel
theorem dX7_player_106 : decode cX7_player 106 = .ok (.getfield 23, 3) := by decide +kernel
theorem dX7_player_109 : decode cX7_player 109 = .ok (.iload_n 1, 1) := by decide +kernel
theorem dX7_player_110 : decode cX7_player 110 = .ok (.invokestatic 165, 3) := by decide +kernel
theorem dX7_player_113 : decode cX7_player 113 = .ok (.ireturn, 1) := by decide +kernel
theorem dX7_player_114 : decode cX7_player 114 = .ok (.iconst 0, 1) := by decide +kernel
theorem dX7_player_115 : decode cX7_player 115 = .ok (.aload_n 0, 1) := by decide +kernel
theorem dX7_player_116 : decode cX7_player 116 = .ok (.getfield 23, 3) := by decide +kernel
theorem dX7_player_119 : decode cX7_player 119 = .ok (.iload_n 1, 1) := by decide +kernel
theorem dX7_player_120 : decode cX7_player 120 = .ok (.invokevirtual 171, 3) := by decide +kernel
theorem dX7_player_123 : decode cX7_player 123 = .ok (.ineg, 1) := by decide +kernel
theorem dX7_player_124 : decode cX7_player 124 = .ok (.invokestatic 174, 3) := by decide +kernel
theorem dX7_player_127 : decode cX7_player 127 = .ok (.ireturn, 1) := by decide +kernel
theorem dX7_player_128 : decode cX7_player 128 = .ok (.aload_n 0, 1) := by decide +kernel
theorem dX7_player_129 : decode cX7_player 129 = .ok (.getfield 48, 3) := by decide +kernel
theorem dX7_player_132 : decode cX7_player 132 = .ok (.aload_n 0, 1) := by decide +kernel
theorem dX7_player_133 : decode cX7_player 133 = .ok (.getfield 23, 3) := by decide +kernel
theorem dX7_player_136 : decode cX7_player 136 = .ok (.iload_n 1, 1) := by decide +kernel
theorem dX7_player_137 : decode cX7_player 137 = .ok (.invokestatic 180, 3) := by decide +kernel
theorem dX7_player_140 : decode cX7_player 140 = .ok (.ireturn, 1) := by decide +kernel
theorem dX7_player_141 : decode cX7_player 141 = .ok (.new 123, 3) := by decide +kernel
theorem dX7_player_144 : decode cX7_player 144 = .ok (.dup, 1) := by decide +kernel
theorem dX7_player_145 : decode cX7_player 145 = .ok (.invokespecial 125, 3) := by decide +kernel
theorem dX7_player_148 : decode cX7_player 148 = .ok (.athrow, 1) := by decide +kernel
theorem dX7_isFree_0 : decode cX7_isFree 0 = .ok (.aload_n 0, 1) := by decide +kernel
theorem dX7_isFree_1 : decode cX7_isFree 1 = .ok (.iload_n 1, 1) := by decide +kernel
theorem dX7_isFree_2 : decode cX7_isFree 2 = .ok (.invokevirtual 148, 3) := by decide +kernel
theorem dX7_isFree_5 : decode cX7_isFree 5 = .ok (.aload_n 0, 1) := by decide +kernel
theorem dX7_isFree_6 : decode cX7_isFree 6 = .ok (.iload_n 2, 1) := by decide +kernel
theorem dX7_isFree_7 : decode cX7_isFree 7 = .ok (.invokevirtual 183, 3) := by decide +kernel
theorem dX7_isFree_10 : decode cX7_isFree 10 = .ok (.aload_n 0, 1) := by decide +kernel
theorem dX7_isFree_11 : decode cX7_isFree 11 = .ok (.aload_n 0, 1) := by decide +kernel
theorem dX7_isFree_12 : decode cX7_isFree 12 = .ok (.getfield 23, 3) := by decide +kernel
theorem dX7_isFree_15 : decode cX7_isFree 15 = .ok (.iload_n 2, 1) := by decide +kernel
theorem dX7_isFree_16 : decode cX7_isFree 16 = .ok (.invokevirtual 186, 3) := by decide +kernel
theorem dX7_isFree_19 : decode cX7_isFree 19 = .ok (.iload_n 1, 1) := by decide +kernel
theorem dX7_isFree_20 : decode cX7_isFree 20 = .ok (.invokestatic 190, 3) := by decide +kernel
theorem dX7_isFree_23 : decode cX7_isFree 23 = .ok (.ireturn, 1) := by decide +kernel
theorem dX7_work_0 : decode cX7_work 0 = .ok (.aload_n 0, 1) := by decide +kernel
theorem dX7_work_1 : decode cX7_work 1 = .ok (.iload_n 1, 1) := by decide +kernel
theorem dX7_work_2 : decode cX7_work 2 = .ok (.invokevirtual 194, 3) := by decide +kernel
theorem dX7_work_5 : decode cX7_work 5 = .ok (.iload_n 2, 1) := by decide +kernel
theorem dX7_work_6 : decode cX7_work 6 = .ok (.tableswitch 143 0 7 #[46, 56, 66, 76, 86, 96, 113, 130], 46) := by decide +kernel
theorem dX7_work_52 : decode cX7_work 52 = .ok (.aload_n 0, 1) := by decide +kernel
theorem dX7_work_53 : decode cX7_work 53 = .ok (.getfield 48, 3) := by decide +kernel
theorem dX7_work_56 : decode cX7_work 56 = .ok (.getfield 197, 3) := by decide +kernel
theorem dX7_work_59 : decode cX7_work 59 = .ok (.iload_n 1, 1) := by decide +kernel
theorem dX7_work_60 : decode cX7_work 60 = .ok (.iaload, 1) := by decide +kernel
theorem dX7_work_61 : decode cX7_work 61 = .ok (.ireturn, 1) := by decide +kernel
theorem dX7_work_62 : decode cX7_work 62 = .ok (.aload_n 0, 1) := by decide +kernel
theorem dX7_work_63 : decode cX7_work 63 = .ok (.getfield 48, 3) := by decide +kernel
theorem dX7_work_66 : decode cX7_work 66 = .ok (.getfield 200, 3) := by decide +kernel
theorem dX7_work_69 : decode cX7_work 69 = .ok (.iload_n 1, 1) := by decide +kernel
theorem dX7_work_70 : decode cX7_work 70 = .ok (.iaload, 1) := by decide +kernel
theorem dX7_work_71 : decode cX7_work 71 = .ok (.ireturn, 1) := by decide +kernel
theorem dX7_work_72 : decode cX7_work 72 = .ok (.aload_n 0, 1) := by decide +kernel
theorem dX7_work_73 : decode cX7_work 73 = .ok (.getfield 48, 3) := by decide +kernel
theorem dX7_work_76 : decode cX7_work 76 = .ok (.getfield 203, 3) := by decide +kernel
theorem dX7_work_79 : decode cX7_work 79 = .ok (.iload_n 1, 1) := by decide +kernel
theorem dX7_work_80 : decode cX7_work 80 = .ok (.iaload, 1) := by decide +kernel
theorem dX7_work_81 : decode cX7_work 81 = .ok (.ireturn, 1) := by decide +kernel
theorem dX7_work_82 : decode cX7_work 82 = .ok (.aload_n 0, 1) := by decide +kernel
theorem dX7_work_83 : decode cX7_work 83 = .ok (.getfield 48, 3) := by decide +kernel
theorem dX7_work_86 : decode cX7_work 86 = .ok (.getfield 206, 3) := by decide +kernel
theorem dX7_work_89 : decode cX7_work 89 = .ok (.iload_n 1, 1) := by decide +kernel
theorem dX7_work_90 : decode cX7_work 90 = .ok (.iaload, 1) := by decide +kernel
theorem dX7_work_91 : decode cX7_work 91 = .ok (.ireturn, 1) := by decide +kernel
theorem dX7_work_92 : decode cX7_work 92 = .ok (.aload_n 0, 1) := by decide +kernel
theorem dX7_work_93 : decode cX7_work 93 = .ok (.getfield 48, 3) := by decide +kernel
theorem dX7_work_96 : decode cX7_work 96 = .ok (.getfield 209, 3) := by decide +kernel
theorem dX7_work_99 : decode cX7_work 99 = .ok (.iload_n 1, 1) := by decide +kernel
theorem dX7_work_100 : decode cX7_work 100 = .ok (.iaload, 1) := by decide +kernel
theorem dX7_work_101 : decode cX7_work 101 = .ok (.ireturn, 1) := by decide +kernel
theorem dX7_work_102 : decode cX7_work 102 = .ok (.aload_n 0, 1) := by decide +kernel
theorem dX7_work_103 : decode cX7_work 103 = .ok (.getfield 23, 3) := by decide +kernel
theorem dX7_work_106 : decode cX7_work 106 = .ok (.iload_n 1, 1) := by decide +kernel
theorem dX7_work_107 : decode cX7_work 107 = .ok (.iconst 0, 1) := by decide +kernel
theorem dX7_work_108 : decode cX7_work 108 = .ok (.aload_n 0, 1) := by decide +kernel
theorem dX7_work_109 : decode cX7_work 109 = .ok (.getfield 48, 3) := by decide +kernel
theorem dX7_work_112 : decode cX7_work 112 = .ok (.invokevirtual 212, 3) := by decide +kernel
theorem dX7_work_115 : decode cX7_work 115 = .ok (.invokevirtual 216, 3) := by decide +kernel
theorem dX7_work_118 : decode cX7_work 118 = .ok (.ireturn, 1) := by decide +kernel
theorem dX7_work_119 : decode cX7_work 119 = .ok (.aload_n 0, 1) := by decide +kernel
theorem dX7_work_120 : decode cX7_work 120 = .ok (.getfield 23, 3) := by decide +kernel
theorem dX7_work_123 : decode cX7_work 123 = .ok (.iload_n 1, 1) := by decide +kernel
theorem dX7_work_124 : decode cX7_work 124 = .ok (.iconst 1, 1) := by decide +kernel
theorem dX7_work_125 : decode cX7_work 125 = .ok (.aload_n 0, 1) := by decide +kernel
theorem dX7_work_126 : decode cX7_work 126 = .ok (.getfield 48, 3) := by decide +kernel
theorem dX7_work_129 : decode cX7_work 129 = .ok (.invokevirtual 212, 3) := by decide +kernel
theorem dX7_work_132 : decode cX7_work 132 = .ok (.invokevirtual 216, 3) := by decide +kernel
theorem dX7_work_135 : decode cX7_work 135 = .ok (.ireturn, 1) := by decide +kernel
theorem dX7_work_136 : decode cX7_work 136 = .ok (.aload_n 0, 1) := by decide +kernel
theorem dX7_work_137 : decode cX7_work 137 = .ok (.getfield 48, 3) := by decide +kernel
theorem dX7_work_140 : decode cX7_work 140 = .ok (.aload_n 0, 1) := by decide +kernel
theorem dX7_work_141 : decode cX7_work 141 = .ok (.getfield 23, 3) := by decide +kernel
theorem dX7_work_144 : decode cX7_work 144 = .ok (.iload_n 1, 1) := by decide +kernel
theorem dX7_work_145 : decode cX7_work 145 = .ok (.invokestatic 220, 3) := by decide +kernel
theorem dX7_work_148 : decode cX7_work 148 = .ok (.ireturn, 1) := by decide +kernel
theorem dX7_work_149 : decode cX7_work 149 = .ok (.new 123, 3) := by decide +kernel
theorem dX7_work_152 : decode cX7_work 152 = .ok (.dup, 1) := by decide +kernel
theorem dX7_work_153 : decode cX7_work 153 = .ok (.invokespecial 125, 3) := by decide +kernel
theorem dX7_work_156 : decode cX7_work 156 = .ok (.athrow, 1) := by decide +kernel
theorem dX7_service_0 : decode cX7_service 0 = .ok (.aload_n 0, 1) := by decide +kernel
theorem dX7_service_1 : decode cX7_service 1 = .ok (.iload_n 1, 1) := by decide +kernel
theorem dX7_service_2 : decode cX7_service 2 = .ok (.invokevirtual 230, 3) := by decide +kernel
theorem dX7_service_5 : decode cX7_service 5 = .ok (.iload_n 2, 1) := by decide +kernel
theorem dX7_service_6 : decode cX7_service 6 = .ok (.tableswitch 100 0 5 #[38, 48, 58, 68, 78, 87], 38) := by decide +kernel
theorem dX7_service_44 : decode cX7_service 44 = .ok (.aload_n 0, 1) := by decide +kernel
theorem dX7_service_45 : decode cX7_service 45 = .ok (.getfield 23, 3) := by decide +kernel
theorem dX7_service_48 : decode cX7_service 48 = .ok (.getfield 233, 3) := by decide +kernel
theorem dX7_service_51 : decode cX7_service 51 = .ok (.iload_n 1, 1) := by decide +kernel
theorem dX7_service_52 : decode cX7_service 52 = .ok (.iaload, 1) := by decide +kernel
theorem dX7_service_53 : decode cX7_service 53 = .ok (.ireturn, 1) := by decide +kernel
theorem dX7_service_54 : decode cX7_service 54 = .ok (.aload_n 0, 1) := by decide +kernel
theorem dX7_service_55 : decode cX7_service 55 = .ok (.getfield 23, 3) := by decide +kernel
theorem dX7_service_58 : decode cX7_service 58 = .ok (.getfield 236, 3) := by decide +kernel
theorem dX7_service_61 : decode cX7_service 61 = .ok (.iload_n 1, 1) := by decide +kernel
theorem dX7_service_62 : decode cX7_service 62 = .ok (.iaload, 1) := by decide +kernel
theorem dX7_service_63 : decode cX7_service 63 = .ok (.ireturn, 1) := by decide +kernel
theorem dX7_service_64 : decode cX7_service 64 = .ok (.aload_n 0, 1) := by decide +kernel
theorem dX7_service_65 : decode cX7_service 65 = .ok (.getfield 23, 3) := by decide +kernel
theorem dX7_service_68 : decode cX7_service 68 = .ok (.getfield 238, 3) := by decide +kernel
theorem dX7_service_71 : decode cX7_service 71 = .ok (.iload_n 1, 1) := by decide +kernel
theorem dX7_service_72 : decode cX7_service 72 = .ok (.iaload, 1) := by decide +kernel
theorem dX7_service_73 : decode cX7_service 73 = .ok (.ireturn, 1) := by decide +kernel
theorem dX7_service_74 : decode cX7_service 74 = .ok (.aload_n 0, 1) := by decide +kernel
theorem dX7_service_75 : decode cX7_service 75 = .ok (.getfield 23, 3) := by decide +kernel
theorem dX7_service_78 : decode cX7_service 78 = .ok (.getfield 241, 3) := by decide +kernel
theorem dX7_service_81 : decode cX7_service 81 = .ok (.iload_n 1, 1) := by decide +kernel
theorem dX7_service_82 : decode cX7_service 82 = .ok (.iaload, 1) := by decide +kernel
theorem dX7_service_83 : decode cX7_service 83 = .ok (.ireturn, 1) := by decide +kernel
theorem dX7_service_84 : decode cX7_service 84 = .ok (.aload_n 0, 1) := by decide +kernel
theorem dX7_service_85 : decode cX7_service 85 = .ok (.getfield 23, 3) := by decide +kernel
theorem dX7_service_88 : decode cX7_service 88 = .ok (.iload_n 1, 1) := by decide +kernel
theorem dX7_service_89 : decode cX7_service 89 = .ok (.invokevirtual 244, 3) := by decide +kernel
theorem dX7_service_92 : decode cX7_service 92 = .ok (.ireturn, 1) := by decide +kernel
theorem dX7_service_93 : decode cX7_service 93 = .ok (.aload_n 0, 1) := by decide +kernel
theorem dX7_service_94 : decode cX7_service 94 = .ok (.getfield 48, 3) := by decide +kernel
theorem dX7_service_97 : decode cX7_service 97 = .ok (.aload_n 0, 1) := by decide +kernel
theorem dX7_service_98 : decode cX7_service 98 = .ok (.getfield 23, 3) := by decide +kernel
theorem dX7_service_101 : decode cX7_service 101 = .ok (.iload_n 1, 1) := by decide +kernel
theorem dX7_service_102 : decode cX7_service 102 = .ok (.invokestatic 247, 3) := by decide +kernel
theorem dX7_service_105 : decode cX7_service 105 = .ok (.ireturn, 1) := by decide +kernel
theorem dX7_service_106 : decode cX7_service 106 = .ok (.new 123, 3) := by decide +kernel
theorem dX7_service_109 : decode cX7_service 109 = .ok (.dup, 1) := by decide +kernel
theorem dX7_service_110 : decode cX7_service 110 = .ok (.invokespecial 125, 3) := by decide +kernel
theorem dX7_service_113 : decode cX7_service 113 = .ok (.athrow, 1) := by decide +kernel
theorem dX7_cast_0 : decode cX7_cast 0 = .ok (.aload_n 0, 1) := by decide +kernel
theorem dX7_cast_1 : decode cX7_cast 1 = .ok (.iload_n 1, 1) := by decide +kernel
theorem dX7_cast_2 : decode cX7_cast 2 = .ok (.invokevirtual 230, 3) := by decide +kernel
theorem dX7_cast_5 : decode cX7_cast 5 = .ok (.aload_n 0, 1) := by decide +kernel
theorem dX7_cast_6 : decode cX7_cast 6 = .ok (.iload_n 2, 1) := by decide +kernel
theorem dX7_cast_7 : decode cX7_cast 7 = .ok (.invokevirtual 194, 3) := by decide +kernel
theorem dX7_cast_10 : decode cX7_cast 10 = .ok (.aload_n 0, 1) := by decide +kernel
theorem dX7_cast_11 : decode cX7_cast 11 = .ok (.iload_n 2, 1) := by decide +kernel
theorem dX7_cast_12 : decode cX7_cast 12 = .ok (.iload_n 3, 1) := by decide +kernel
theorem dX7_cast_13 : decode cX7_cast 13 = .ok (.invokevirtual 223, 3) := by decide +kernel
theorem dX7_cast_16 : decode cX7_cast 16 = .ok (.aload_n 0, 1) := by decide +kernel
theorem dX7_cast_17 : decode cX7_cast 17 = .ok (.getfield 23, 3) := by decide +kernel
theorem dX7_cast_20 : decode cX7_cast 20 = .ok (.iload_n 1, 1) := by decide +kernel
theorem dX7_cast_21 : decode cX7_cast 21 = .ok (.iload_n 2, 1) := by decide +kernel
theorem dX7_cast_22 : decode cX7_cast 22 = .ok (.iload_n 3, 1) := by decide +kernel
theorem dX7_cast_23 : decode cX7_cast 23 = .ok (.invokevirtual 250, 3) := by decide +kernel
theorem dX7_cast_26 : decode cX7_cast 26 = .ok (.ireturn, 1) := by decide +kernel
theorem dX7_serviceAt_0 : decode cX7_serviceAt 0 = .ok (.aload_n 0, 1) := by decide +kernel
theorem dX7_serviceAt_1 : decode cX7_serviceAt 1 = .ok (.iload_n 1, 1) := by decide +kernel
theorem dX7_serviceAt_2 : decode cX7_serviceAt 2 = .ok (.invokevirtual 142, 3) := by decide +kernel
theorem dX7_serviceAt_5 : decode cX7_serviceAt 5 = .ok (.aload_n 0, 1) := by decide +kernel
theorem dX7_serviceAt_6 : decode cX7_serviceAt 6 = .ok (.iload_n 2, 1) := by decide +kernel
theorem dX7_serviceAt_7 : decode cX7_serviceAt 7 = .ok (.invokevirtual 183, 3) := by decide +kernel
theorem dX7_serviceAt_10 : decode cX7_serviceAt 10 = .ok (.aload_n 0, 1) := by decide +kernel
theorem dX7_serviceAt_11 : decode cX7_serviceAt 11 = .ok (.getfield 23, 3) := by decide +kernel
theorem dX7_serviceAt_14 : decode cX7_serviceAt 14 = .ok (.iload_n 1, 1) := by decide +kernel
theorem dX7_serviceAt_15 : decode cX7_serviceAt 15 = .ok (.iload_n 2, 1) := by decide +kernel
theorem dX7_serviceAt_16 : decode cX7_serviceAt 16 = .ok (.invokevirtual 254, 3) := by decide +kernel
theorem dX7_serviceAt_19 : decode cX7_serviceAt 19 = .ok (.ireturn, 1) := by decide +kernel
theorem dX7_fewestDoublings_0 : decode cX7_fewestDoublings 0 = .ok (.aload_n 0, 1) := by decide +kernel
theorem dX7_fewestDoublings_1 : decode cX7_fewestDoublings 1 = .ok (.iload_n 1, 1) := by decide +kernel
theorem dX7_fewestDoublings_2 : decode cX7_fewestDoublings 2 = .ok (.invokevirtual 194, 3) := by decide +kernel
theorem dX7_fewestDoublings_5 : decode cX7_fewestDoublings 5 = .ok (.aload_n 0, 1) := by decide +kernel
theorem dX7_fewestDoublings_6 : decode cX7_fewestDoublings 6 = .ok (.iload_n 2, 1) := by decide +kernel
theorem dX7_fewestDoublings_7 : decode cX7_fewestDoublings 7 = .ok (.invokevirtual 183, 3) := by decide +kernel
theorem dX7_fewestDoublings_10 : decode cX7_fewestDoublings 10 = .ok (.aload_n 0, 1) := by decide +kernel
theorem dX7_fewestDoublings_11 : decode cX7_fewestDoublings 11 = .ok (.getfield 16, 3) := by decide +kernel
theorem dX7_fewestDoublings_14 : decode cX7_fewestDoublings 14 = .ok (.aload_n 0, 1) := by decide +kernel
theorem dX7_fewestDoublings_15 : decode cX7_fewestDoublings 15 = .ok (.getfield 48, 3) := by decide +kernel
theorem dX7_fewestDoublings_18 : decode cX7_fewestDoublings 18 = .ok (.iload_n 1, 1) := by decide +kernel
theorem dX7_fewestDoublings_19 : decode cX7_fewestDoublings 19 = .ok (.aload_n 0, 1) := by decide +kernel
theorem dX7_fewestDoublings_20 : decode cX7_fewestDoublings 20 = .ok (.aload_n 0, 1) := by decide +kernel
theorem dX7_fewestDoublings_21 : decode cX7_fewestDoublings 21 = .ok (.getfield 23, 3) := by decide +kernel
theorem dX7_fewestDoublings_24 : decode cX7_fewestDoublings 24 = .ok (.iload_n 2, 1) := by decide +kernel
theorem dX7_fewestDoublings_25 : decode cX7_fewestDoublings 25 = .ok (.invokevirtual 186, 3) := by decide +kernel
theorem dX7_fewestDoublings_28 : decode cX7_fewestDoublings 28 = .ok (.invokevirtual 257, 3) := by decide +kernel
theorem dX7_fewestDoublings_31 : decode cX7_fewestDoublings 31 = .ok (.ireturn, 1) := by decide +kernel
theorem dX7_whyNot_0 : decode cX7_whyNot 0 = .ok (.aload_n 0, 1) := by decide +kernel
theorem dX7_whyNot_1 : decode cX7_whyNot 1 = .ok (.iload_n 1, 1) := by decide +kernel
theorem dX7_whyNot_2 : decode cX7_whyNot 2 = .ok (.iload_n 2, 1) := by decide +kernel
theorem dX7_whyNot_3 : decode cX7_whyNot 3 = .ok (.iload_n 3, 1) := by decide +kernel
theorem dX7_whyNot_4 : decode cX7_whyNot 4 = .ok (.iload 4, 2) := by decide +kernel
theorem dX7_whyNot_6 : decode cX7_whyNot 6 = .ok (.invokevirtual 261, 3) := by decide +kernel
theorem dX7_whyNot_9 : decode cX7_whyNot 9 = .ok (.aload_n 0, 1) := by decide +kernel
theorem dX7_whyNot_10 : decode cX7_whyNot 10 = .ok (.aload_n 0, 1) := by decide +kernel
theorem dX7_whyNot_11 : decode cX7_whyNot 11 = .ok (.getfield 23, 3) := by decide +kernel
theorem dX7_whyNot_14 : decode cX7_whyNot 14 = .ok (.iload_n 1, 1) := by decide +kernel
theorem dX7_whyNot_15 : decode cX7_whyNot 15 = .ok (.iload_n 2, 1) := by decide +kernel
theorem dX7_whyNot_16 : decode cX7_whyNot 16 = .ok (.iload_n 3, 1) := by decide +kernel
theorem dX7_whyNot_17 : decode cX7_whyNot 17 = .ok (.iload 4, 2) := by decide +kernel
theorem dX7_whyNot_19 : decode cX7_whyNot 19 = .ok (.invokevirtual 265, 3) := by decide +kernel
theorem dX7_whyNot_22 : decode cX7_whyNot 22 = .ok (.ireturn, 1) := by decide +kernel
theorem dX7_earliest_0 : decode cX7_earliest 0 = .ok (.aload_n 0, 1) := by decide +kernel
theorem dX7_earliest_1 : decode cX7_earliest 1 = .ok (.iload_n 1, 1) := by decide +kernel
theorem dX7_earliest_2 : decode cX7_earliest 2 = .ok (.iload_n 2, 1) := by decide +kernel
theorem dX7_earliest_3 : decode cX7_earliest 3 = .ok (.iload_n 3, 1) := by decide +kernel
theorem dX7_earliest_4 : decode cX7_earliest 4 = .ok (.iload 4, 2) := by decide +kernel
theorem dX7_earliest_6 : decode cX7_earliest 6 = .ok (.invokevirtual 261, 3) := by decide +kernel
theorem dX7_earliest_9 : decode cX7_earliest 9 = .ok (.iload_n 2, 1) := by decide +kernel
theorem dX7_earliest_10 : decode cX7_earliest 10 = .ok (.istore 5, 2) := by decide +kernel
theorem dX7_earliest_12 : decode cX7_earliest 12 = .ok (.iload 5, 2) := by decide +kernel
theorem dX7_earliest_14 : decode cX7_earliest 14 = .ok (.aload_n 0, 1) := by decide +kernel
theorem dX7_earliest_15 : decode cX7_earliest 15 = .ok (.getfield 48, 3) := by decide +kernel
theorem dX7_earliest_18 : decode cX7_earliest 18 = .ok (.invokevirtual 212, 3) := by decide +kernel
theorem dX7_earliest_21 : decode cX7_earliest 21 = .ok (.if_icmp .ge 29, 3) := by decide +kernel
theorem dX7_earliest_24 : decode cX7_earliest 24 = .ok (.aload_n 0, 1) := by decide +kernel
theorem dX7_earliest_25 : decode cX7_earliest 25 = .ok (.aload_n 0, 1) := by decide +kernel
theorem dX7_earliest_26 : decode cX7_earliest 26 = .ok (.getfield 23, 3) := by decide +kernel
theorem dX7_earliest_29 : decode cX7_earliest 29 = .ok (.iload_n 1, 1) := by decide +kernel
theorem dX7_earliest_30 : decode cX7_earliest 30 = .ok (.iload 5, 2) := by decide +kernel
theorem dX7_earliest_32 : decode cX7_earliest 32 = .ok (.iload_n 3, 1) := by decide +kernel
theorem dX7_earliest_33 : decode cX7_earliest 33 = .ok (.iload 4, 2) := by decide +kernel
theorem dX7_earliest_35 : decode cX7_earliest 35 = .ok (.invokevirtual 265, 3) := by decide +kernel
theorem dX7_earliest_38 : decode cX7_earliest 38 = .ok (.ifCond .ne 6, 3) := by decide +kernel
theorem dX7_earliest_41 : decode cX7_earliest 41 = .ok (.iload 5, 2) := by decide +kernel
theorem dX7_earliest_43 : decode cX7_earliest 43 = .ok (.ireturn, 1) := by decide +kernel
theorem dX7_earliest_44 : decode cX7_earliest 44 = .ok (.iinc 5 1, 3) := by decide +kernel
theorem dX7_earliest_47 : decode cX7_earliest 47 = .ok (.goto (-35), 3) := by decide +kernel
theorem dX7_earliest_50 : decode cX7_earliest 50 = .ok (.iconst (-1), 1) := by decide +kernel
theorem dX7_earliest_51 : decode cX7_earliest 51 = .ok (.ireturn, 1) := by decide +kernel
theorem dX7_whyNotMove_0 : decode cX7_whyNotMove 0 = .ok (.aload_n 0, 1) := by decide +kernel
theorem dX7_whyNotMove_1 : decode cX7_whyNotMove 1 = .ok (.iload_n 1, 1) := by decide +kernel
theorem dX7_whyNotMove_2 : decode cX7_whyNotMove 2 = .ok (.invokevirtual 230, 3) := by decide +kernel
theorem dX7_whyNotMove_5 : decode cX7_whyNotMove 5 = .ok (.aload_n 0, 1) := by decide +kernel
theorem dX7_whyNotMove_6 : decode cX7_whyNotMove 6 = .ok (.iload_n 2, 1) := by decide +kernel
theorem dX7_whyNotMove_7 : decode cX7_whyNotMove 7 = .ok (.invokevirtual 183, 3) := by decide +kernel
theorem dX7_whyNotMove_10 : decode cX7_whyNotMove 10 = .ok (.aload_n 0, 1) := by decide +kernel
theorem dX7_whyNotMove_11 : decode cX7_whyNotMove 11 = .ok (.iload_n 1, 1) := by decide +kernel
theorem dX7_whyNotMove_12 : decode cX7_whyNotMove 12 = .ok (.iload_n 2, 1) := by decide +kernel
theorem dX7_whyNotMove_13 : decode cX7_whyNotMove 13 = .ok (.invokevirtual 269, 3) := by decide +kernel
theorem dX7_whyNotMove_16 : decode cX7_whyNotMove 16 = .ok (.ireturn, 1) := by decide +kernel
theorem dX7_costs_0 : decode cX7_costs 0 = .ok (.iload_n 1, 1) := by decide +kernel
theorem dX7_costs_1 : decode cX7_costs 1 = .ok (.ifCond .lt 12, 3) := by decide +kernel
theorem dX7_costs_4 : decode cX7_costs 4 = .ok (.iload_n 1, 1) := by decide +kernel
theorem dX7_costs_5 : decode cX7_costs 5 = .ok (.iconst 3, 1) := by decide +kernel
theorem dX7_costs_6 : decode cX7_costs 6 = .ok (.if_icmp .gt 7, 3) := by decide +kernel
theorem dX7_costs_9 : decode cX7_costs 9 = .ok (.iconst 1, 1) := by decide +kernel
theorem dX7_costs_10 : decode cX7_costs 10 = .ok (.goto 4, 3) := by decide +kernel
theorem dX7_costs_13 : decode cX7_costs 13 = .ok (.iconst 0, 1) := by decide +kernel
theorem dX7_costs_14 : decode cX7_costs 14 = .ok (.invokestatic 62, 3) := by decide +kernel
theorem dX7_costs_17 : decode cX7_costs 17 = .ok (.aload_n 0, 1) := by decide +kernel
theorem dX7_costs_18 : decode cX7_costs 18 = .ok (.getfield 48, 3) := by decide +kernel
theorem dX7_costs_21 : decode cX7_costs 21 = .ok (.aload_n 0, 1) := by decide +kernel
theorem dX7_costs_22 : decode cX7_costs 22 = .ok (.getfield 23, 3) := by decide +kernel
theorem dX7_costs_25 : decode cX7_costs 25 = .ok (.iload_n 1, 1) := by decide +kernel
theorem dX7_costs_26 : decode cX7_costs 26 = .ok (.invokestatic 272, 3) := by decide +kernel
theorem dX7_costs_29 : decode cX7_costs 29 = .ok (.ireturn, 1) := by decide +kernel
theorem dX7_costsWith_0 : decode cX7_costsWith 0 = .ok (.aload_n 0, 1) := by decide +kernel
theorem dX7_costsWith_1 : decode cX7_costsWith 1 = .ok (.iload_n 1, 1) := by decide +kernel
theorem dX7_costsWith_2 : decode cX7_costsWith 2 = .ok (.iload_n 2, 1) := by decide +kernel
theorem dX7_costsWith_3 : decode cX7_costsWith 3 = .ok (.iload_n 3, 1) := by decide +kernel
theorem dX7_costsWith_4 : decode cX7_costsWith 4 = .ok (.iload 4, 2) := by decide +kernel
theorem dX7_costsWith_6 : decode cX7_costsWith 6 = .ok (.invokevirtual 261, 3) := by decide +kernel
theorem dX7_costsWith_9 : decode cX7_costsWith 9 = .ok (.aload_n 0, 1) := by decide +kernel
theorem dX7_costsWith_10 : decode cX7_costsWith 10 = .ok (.aload_n 0, 1) := by decide +kernel
theorem dX7_costsWith_11 : decode cX7_costsWith 11 = .ok (.getfield 23, 3) := by decide +kernel
theorem dX7_costsWith_14 : decode cX7_costsWith 14 = .ok (.iload_n 1, 1) := by decide +kernel
theorem dX7_costsWith_15 : decode cX7_costsWith 15 = .ok (.iload_n 2, 1) := by decide +kernel
theorem dX7_costsWith_16 : decode cX7_costsWith 16 = .ok (.iload_n 3, 1) := by decide +kernel
theorem dX7_costsWith_17 : decode cX7_costsWith 17 = .ok (.iload 4, 2) := by decide +kernel
theorem dX7_costsWith_19 : decode cX7_costsWith 19 = .ok (.invokevirtual 265, 3) := by decide +kernel
theorem dX7_costsWith_22 : decode cX7_costsWith 22 = .ok (.ifCond .eq 5, 3) := by decide +kernel
theorem dX7_costsWith_25 : decode cX7_costsWith 25 = .ok (.iconst (-1), 1) := by decide +kernel
theorem dX7_costsWith_26 : decode cX7_costsWith 26 = .ok (.ireturn, 1) := by decide +kernel
theorem dX7_costsWith_27 : decode cX7_costsWith 27 = .ok (.aload_n 0, 1) := by decide +kernel
theorem dX7_costsWith_28 : decode cX7_costsWith 28 = .ok (.getfield 27, 3) := by decide +kernel
theorem dX7_costsWith_31 : decode cX7_costsWith 31 = .ok (.aload_n 0, 1) := by decide +kernel
theorem dX7_costsWith_32 : decode cX7_costsWith 32 = .ok (.getfield 23, 3) := by decide +kernel
theorem dX7_costsWith_35 : decode cX7_costsWith 35 = .ok (.invokevirtual 275, 3) := by decide +kernel
theorem dX7_costsWith_38 : decode cX7_costsWith 38 = .ok (.aload_n 0, 1) := by decide +kernel
theorem dX7_costsWith_39 : decode cX7_costsWith 39 = .ok (.iload_n 1, 1) := by decide +kernel
theorem dX7_costsWith_40 : decode cX7_costsWith 40 = .ok (.iload_n 2, 1) := by decide +kernel
theorem dX7_costsWith_41 : decode cX7_costsWith 41 = .ok (.iload_n 3, 1) := by decide +kernel
theorem dX7_costsWith_42 : decode cX7_costsWith 42 = .ok (.iload 4, 2) := by decide +kernel
theorem dX7_costsWith_44 : decode cX7_costsWith 44 = .ok (.invokevirtual 279, 3) := by decide +kernel
theorem dX7_costsWith_47 : decode cX7_costsWith 47 = .ok (.pop, 1) := by decide +kernel
theorem dX7_costsWith_48 : decode cX7_costsWith 48 = .ok (.aload_n 0, 1) := by decide +kernel
theorem dX7_costsWith_49 : decode cX7_costsWith 49 = .ok (.getfield 48, 3) := by decide +kernel
theorem dX7_costsWith_52 : decode cX7_costsWith 52 = .ok (.aload_n 0, 1) := by decide +kernel
theorem dX7_costsWith_53 : decode cX7_costsWith 53 = .ok (.getfield 27, 3) := by decide +kernel
theorem dX7_costsWith_56 : decode cX7_costsWith 56 = .ok (.iconst 3, 1) := by decide +kernel
theorem dX7_costsWith_57 : decode cX7_costsWith 57 = .ok (.invokestatic 272, 3) := by decide +kernel
theorem dX7_costsWith_60 : decode cX7_costsWith 60 = .ok (.ireturn, 1) := by decide +kernel
theorem dX7_isBalanced_0 : decode cX7_isBalanced 0 = .ok (.iconst 0, 1) := by decide +kernel
theorem dX7_isBalanced_1 : decode cX7_isBalanced 1 = .ok (.istore_n 1, 1) := by decide +kernel
theorem dX7_isBalanced_2 : decode cX7_isBalanced 2 = .ok (.iload_n 1, 1) := by decide +kernel
theorem dX7_isBalanced_3 : decode cX7_isBalanced 3 = .ok (.aload_n 0, 1) := by decide +kernel
theorem dX7_isBalanced_4 : decode cX7_isBalanced 4 = .ok (.getfield 48, 3) := by decide +kernel
theorem dX7_isBalanced_7 : decode cX7_isBalanced 7 = .ok (.getfield 110, 3) := by decide +kernel
theorem dX7_isBalanced_10 : decode cX7_isBalanced 10 = .ok (.getfield 105, 3) := by decide +kernel
theorem dX7_isBalanced_13 : decode cX7_isBalanced 13 = .ok (.if_icmp .ge 22, 3) := by decide +kernel
theorem dX7_isBalanced_16 : decode cX7_isBalanced 16 = .ok (.aload_n 0, 1) := by decide +kernel
theorem dX7_isBalanced_17 : decode cX7_isBalanced 17 = .ok (.getfield 23, 3) := by decide +kernel
theorem dX7_isBalanced_20 : decode cX7_isBalanced 20 = .ok (.iload_n 1, 1) := by decide +kernel
theorem dX7_isBalanced_21 : decode cX7_isBalanced 21 = .ok (.invokevirtual 171, 3) := by decide +kernel
theorem dX7_isBalanced_24 : decode cX7_isBalanced 24 = .ok (.ifCond .eq 5, 3) := by decide +kernel
theorem dX7_isBalanced_27 : decode cX7_isBalanced 27 = .ok (.iconst 0, 1) := by decide +kernel
theorem dX7_isBalanced_28 : decode cX7_isBalanced 28 = .ok (.ireturn, 1) := by decide +kernel
theorem dX7_isBalanced_29 : decode cX7_isBalanced 29 = .ok (.iinc 1 1, 3) := by decide +kernel
theorem dX7_isBalanced_32 : decode cX7_isBalanced 32 = .ok (.goto (-30), 3) := by decide +kernel
theorem dX7_isBalanced_35 : decode cX7_isBalanced 35 = .ok (.iconst 1, 1) := by decide +kernel
theorem dX7_isBalanced_36 : decode cX7_isBalanced 36 = .ok (.ireturn, 1) := by decide +kernel
theorem dX7_isWithoutClash_0 : decode cX7_isWithoutClash 0 = .ok (.iconst 0, 1) := by decide +kernel
theorem dX7_isWithoutClash_1 : decode cX7_isWithoutClash 1 = .ok (.istore_n 1, 1) := by decide +kernel
theorem dX7_isWithoutClash_2 : decode cX7_isWithoutClash 2 = .ok (.iload_n 1, 1) := by decide +kernel
theorem dX7_isWithoutClash_3 : decode cX7_isWithoutClash 3 = .ok (.aload_n 0, 1) := by decide +kernel
theorem dX7_isWithoutClash_4 : decode cX7_isWithoutClash 4 = .ok (.getfield 23, 3) := by decide +kernel
theorem dX7_isWithoutClash_7 : decode cX7_isWithoutClash 7 = .ok (.getfield 119, 3) := by decide +kernel
theorem dX7_isWithoutClash_10 : decode cX7_isWithoutClash 10 = .ok (.if_icmp .ge 33, 3) := by decide +kernel
theorem dX7_isWithoutClash_13 : decode cX7_isWithoutClash 13 = .ok (.aload_n 0, 1) := by decide +kernel
theorem dX7_isWithoutClash_14 : decode cX7_isWithoutClash 14 = .ok (.getfield 23, 3) := by decide +kernel
theorem dX7_isWithoutClash_17 : decode cX7_isWithoutClash 17 = .ok (.iload_n 1, 1) := by decide +kernel
theorem dX7_isWithoutClash_18 : decode cX7_isWithoutClash 18 = .ok (.invokevirtual 283, 3) := by decide +kernel
theorem dX7_isWithoutClash_21 : decode cX7_isWithoutClash 21 = .ok (.ifCond .ne 14, 3) := by decide +kernel
theorem dX7_isWithoutClash_24 : decode cX7_isWithoutClash 24 = .ok (.aload_n 0, 1) := by decide +kernel
theorem dX7_isWithoutClash_25 : decode cX7_isWithoutClash 25 = .ok (.getfield 23, 3) := by decide +kernel
theorem dX7_isWithoutClash_28 : decode cX7_isWithoutClash 28 = .ok (.iload_n 1, 1) := by decide +kernel
theorem dX7_isWithoutClash_29 : decode cX7_isWithoutClash 29 = .ok (.invokevirtual 287, 3) := by decide +kernel
theorem dX7_isWithoutClash_32 : decode cX7_isWithoutClash 32 = .ok (.ifCond .eq 5, 3) := by decide +kernel
theorem dX7_isWithoutClash_35 : decode cX7_isWithoutClash 35 = .ok (.iconst 0, 1) := by decide +kernel
theorem dX7_isWithoutClash_36 : decode cX7_isWithoutClash 36 = .ok (.ireturn, 1) := by decide +kernel
theorem dX7_isWithoutClash_37 : decode cX7_isWithoutClash 37 = .ok (.iinc 1 1, 3) := by decide +kernel
theorem dX7_isWithoutClash_40 : decode cX7_isWithoutClash 40 = .ok (.goto (-38), 3) := by decide +kernel
theorem dX7_isWithoutClash_43 : decode cX7_isWithoutClash 43 = .ok (.iconst 1, 1) := by decide +kernel
theorem dX7_isWithoutClash_44 : decode cX7_isWithoutClash 44 = .ok (.ireturn, 1) := by decide +kernel
theorem dX7_busiest_0 : decode cX7_busiest 0 = .ok (.iconst (-1), 1) := by decide +kernel
theorem dX7_busiest_1 : decode cX7_busiest 1 = .ok (.istore_n 1, 1) := by decide +kernel
theorem dX7_busiest_2 : decode cX7_busiest 2 = .ok (.iconst 0, 1) := by decide +kernel
theorem dX7_busiest_3 : decode cX7_busiest 3 = .ok (.istore_n 2, 1) := by decide +kernel
theorem dX7_busiest_4 : decode cX7_busiest 4 = .ok (.iconst 0, 1) := by decide +kernel
theorem dX7_busiest_5 : decode cX7_busiest 5 = .ok (.istore_n 3, 1) := by decide +kernel
theorem dX7_busiest_6 : decode cX7_busiest 6 = .ok (.iload_n 3, 1) := by decide +kernel
theorem dX7_busiest_7 : decode cX7_busiest 7 = .ok (.aload_n 0, 1) := by decide +kernel
theorem dX7_busiest_8 : decode cX7_busiest 8 = .ok (.getfield 48, 3) := by decide +kernel
theorem dX7_busiest_11 : decode cX7_busiest 11 = .ok (.getfield 110, 3) := by decide +kernel
theorem dX7_busiest_14 : decode cX7_busiest 14 = .ok (.getfield 105, 3) := by decide +kernel
theorem dX7_busiest_17 : decode cX7_busiest 17 = .ok (.if_icmp .ge 35, 3) := by decide +kernel
theorem dX7_busiest_20 : decode cX7_busiest 20 = .ok (.aload_n 0, 1) := by decide +kernel
theorem dX7_busiest_21 : decode cX7_busiest 21 = .ok (.getfield 23, 3) := by decide +kernel
theorem dX7_busiest_24 : decode cX7_busiest 24 = .ok (.iload_n 3, 1) := by decide +kernel
theorem dX7_busiest_25 : decode cX7_busiest 25 = .ok (.invokevirtual 171, 3) := by decide +kernel
theorem dX7_busiest_28 : decode cX7_busiest 28 = .ok (.istore 4, 2) := by decide +kernel
theorem dX7_busiest_30 : decode cX7_busiest 30 = .ok (.iload_n 1, 1) := by decide +kernel
theorem dX7_busiest_31 : decode cX7_busiest 31 = .ok (.iconst (-1), 1) := by decide +kernel
theorem dX7_busiest_32 : decode cX7_busiest 32 = .ok (.if_icmp .eq 9, 3) := by decide +kernel
theorem dX7_busiest_35 : decode cX7_busiest 35 = .ok (.iload 4, 2) := by decide +kernel
theorem dX7_busiest_37 : decode cX7_busiest 37 = .ok (.iload_n 2, 1) := by decide +kernel
theorem dX7_busiest_38 : decode cX7_busiest 38 = .ok (.if_icmp .le 8, 3) := by decide +kernel
theorem dX7_busiest_41 : decode cX7_busiest 41 = .ok (.iload_n 3, 1) := by decide +kernel
theorem dX7_busiest_42 : decode cX7_busiest 42 = .ok (.istore_n 1, 1) := by decide +kernel
theorem dX7_busiest_43 : decode cX7_busiest 43 = .ok (.iload 4, 2) := by decide +kernel
theorem dX7_busiest_45 : decode cX7_busiest 45 = .ok (.istore_n 2, 1) := by decide +kernel
theorem dX7_busiest_46 : decode cX7_busiest 46 = .ok (.iinc 3 1, 3) := by decide +kernel
theorem dX7_busiest_49 : decode cX7_busiest 49 = .ok (.goto (-43), 3) := by decide +kernel
theorem dX7_busiest_52 : decode cX7_busiest 52 = .ok (.iload_n 1, 1) := by decide +kernel
theorem dX7_busiest_53 : decode cX7_busiest 53 = .ok (.ireturn, 1) := by decide +kernel
theorem dX7_rehearse_0 : decode cX7_rehearse 0 = .ok (.aload_n 0, 1) := by decide +kernel
theorem dX7_rehearse_1 : decode cX7_rehearse 1 = .ok (.iload_n 1, 1) := by decide +kernel
theorem dX7_rehearse_2 : decode cX7_rehearse 2 = .ok (.invokevirtual 142, 3) := by decide +kernel
theorem dX7_rehearse_5 : decode cX7_rehearse 5 = .ok (.aload_n 0, 1) := by decide +kernel
theorem dX7_rehearse_6 : decode cX7_rehearse 6 = .ok (.iload_n 2, 1) := by decide +kernel
theorem dX7_rehearse_7 : decode cX7_rehearse 7 = .ok (.invokevirtual 183, 3) := by decide +kernel
theorem dX7_rehearse_10 : decode cX7_rehearse 10 = .ok (.aload_n 0, 1) := by decide +kernel
theorem dX7_rehearse_11 : decode cX7_rehearse 11 = .ok (.iload_n 3, 1) := by decide +kernel
theorem dX7_rehearse_12 : decode cX7_rehearse 12 = .ok (.invokevirtual 194, 3) := by decide +kernel
theorem dX7_rehearse_15 : decode cX7_rehearse 15 = .ok (.aload_n 0, 1) := by decide +kernel
theorem dX7_rehearse_16 : decode cX7_rehearse 16 = .ok (.iload_n 1, 1) := by decide +kernel
theorem dX7_rehearse_17 : decode cX7_rehearse 17 = .ok (.iload_n 2, 1) := by decide +kernel
theorem dX7_rehearse_18 : decode cX7_rehearse 18 = .ok (.iconst 1, 1) := by decide +kernel
theorem dX7_rehearse_19 : decode cX7_rehearse 19 = .ok (.iload_n 3, 1) := by decide +kernel
theorem dX7_rehearse_20 : decode cX7_rehearse 20 = .ok (.ishl, 1) := by decide +kernel
theorem dX7_rehearse_21 : decode cX7_rehearse 21 = .ok (.iconst 0, 1) := by decide +kernel
theorem dX7_rehearse_22 : decode cX7_rehearse 22 = .ok (.invokevirtual 290, 3) := by decide +kernel
theorem dX7_rehearse_25 : decode cX7_rehearse 25 = .ok (.ireturn, 1) := by decide +kernel
theorem dX7_concert_0 : decode cX7_concert 0 = .ok (.aload_n 0, 1) := by decide +kernel
theorem dX7_concert_1 : decode cX7_concert 1 = .ok (.iload_n 1, 1) := by decide +kernel
theorem dX7_concert_2 : decode cX7_concert 2 = .ok (.iload_n 2, 1) := by decide +kernel
theorem dX7_concert_3 : decode cX7_concert 3 = .ok (.iload_n 3, 1) := by decide +kernel
theorem dX7_concert_4 : decode cX7_concert 4 = .ok (.iconst 1, 1) := by decide +kernel
theorem dX7_concert_5 : decode cX7_concert 5 = .ok (.invokevirtual 261, 3) := by decide +kernel
theorem dX7_concert_8 : decode cX7_concert 8 = .ok (.aload_n 0, 1) := by decide +kernel
theorem dX7_concert_9 : decode cX7_concert 9 = .ok (.iload_n 1, 1) := by decide +kernel
theorem dX7_concert_10 : decode cX7_concert 10 = .ok (.iload_n 2, 1) := by decide +kernel
theorem dX7_concert_11 : decode cX7_concert 11 = .ok (.iload_n 3, 1) := by decide +kernel
theorem dX7_concert_12 : decode cX7_concert 12 = .ok (.iconst 1, 1) := by decide +kernel
theorem dX7_concert_13 : decode cX7_concert 13 = .ok (.invokevirtual 290, 3) := by decide +kernel
theorem dX7_concert_16 : decode cX7_concert 16 = .ok (.ireturn, 1) := by decide +kernel
theorem dX7_addService_0 : decode cX7_addService 0 = .ok (.aload_n 0, 1) := by decide +kernel
theorem dX7_addService_1 : decode cX7_addService 1 = .ok (.aload_n 0, 1) := by decide +kernel
theorem dX7_addService_2 : decode cX7_addService 2 = .ok (.getfield 23, 3) := by decide +kernel
theorem dX7_addService_5 : decode cX7_addService 5 = .ok (.iload_n 1, 1) := by decide +kernel
theorem dX7_addService_6 : decode cX7_addService 6 = .ok (.iload_n 2, 1) := by decide +kernel
theorem dX7_addService_7 : decode cX7_addService 7 = .ok (.iload_n 3, 1) := by decide +kernel
theorem dX7_addService_8 : decode cX7_addService 8 = .ok (.iload 4, 2) := by decide +kernel
theorem dX7_addService_10 : decode cX7_addService 10 = .ok (.invokevirtual 265, 3) := by decide +kernel
theorem dX7_addService_13 : decode cX7_addService 13 = .ok (.ifCond .ne 7, 3) := by decide +kernel
theorem dX7_addService_16 : decode cX7_addService 16 = .ok (.iconst 1, 1) := by decide +kernel
theorem dX7_addService_17 : decode cX7_addService 17 = .ok (.goto 4, 3) := by decide +kernel
theorem dX7_addService_20 : decode cX7_addService 20 = .ok (.iconst 0, 1) := by decide +kernel
theorem dX7_addService_21 : decode cX7_addService 21 = .ok (.invokestatic 293, 3) := by decide +kernel
theorem dX7_addService_24 : decode cX7_addService 24 = .ok (.aload_n 0, 1) := by decide +kernel
theorem dX7_addService_25 : decode cX7_addService 25 = .ok (.getfield 27, 3) := by decide +kernel
theorem dX7_addService_28 : decode cX7_addService 28 = .ok (.aload_n 0, 1) := by decide +kernel
theorem dX7_addService_29 : decode cX7_addService 29 = .ok (.getfield 23, 3) := by decide +kernel
theorem dX7_addService_32 : decode cX7_addService 32 = .ok (.invokevirtual 275, 3) := by decide +kernel
theorem dX7_addService_35 : decode cX7_addService 35 = .ok (.aload_n 0, 1) := by decide +kernel
theorem dX7_addService_36 : decode cX7_addService 36 = .ok (.iload_n 1, 1) := by decide +kernel
theorem dX7_addService_37 : decode cX7_addService 37 = .ok (.iload_n 2, 1) := by decide +kernel
theorem dX7_addService_38 : decode cX7_addService 38 = .ok (.iload_n 3, 1) := by decide +kernel
theorem dX7_addService_39 : decode cX7_addService 39 = .ok (.iload 4, 2) := by decide +kernel
theorem dX7_addService_41 : decode cX7_addService 41 = .ok (.invokevirtual 279, 3) := by decide +kernel
theorem dX7_addService_44 : decode cX7_addService 44 = .ok (.istore 5, 2) := by decide +kernel
theorem dX7_addService_46 : decode cX7_addService 46 = .ok (.aload_n 0, 1) := by decide +kernel
theorem dX7_addService_47 : decode cX7_addService 47 = .ok (.invokevirtual 296, 3) := by decide +kernel
theorem dX7_addService_50 : decode cX7_addService 50 = .ok (.iload 5, 2) := by decide +kernel
theorem dX7_addService_52 : decode cX7_addService 52 = .ok (.ireturn, 1) := by decide +kernel
theorem dX7_cancel_0 : decode cX7_cancel 0 = .ok (.aload_n 0, 1) := by decide +kernel
theorem dX7_cancel_1 : decode cX7_cancel 1 = .ok (.iload_n 1, 1) := by decide +kernel
theorem dX7_cancel_2 : decode cX7_cancel 2 = .ok (.invokevirtual 230, 3) := by decide +kernel
theorem dX7_cancel_5 : decode cX7_cancel 5 = .ok (.aload_n 0, 1) := by decide +kernel
theorem dX7_cancel_6 : decode cX7_cancel 6 = .ok (.getfield 27, 3) := by decide +kernel
theorem dX7_cancel_9 : decode cX7_cancel 9 = .ok (.aload_n 0, 1) := by decide +kernel
theorem dX7_cancel_10 : decode cX7_cancel 10 = .ok (.getfield 23, 3) := by decide +kernel
theorem dX7_cancel_13 : decode cX7_cancel 13 = .ok (.invokevirtual 275, 3) := by decide +kernel
theorem dX7_cancel_16 : decode cX7_cancel 16 = .ok (.aload_n 0, 1) := by decide +kernel
theorem dX7_cancel_17 : decode cX7_cancel 17 = .ok (.getfield 27, 3) := by decide +kernel
theorem dX7_cancel_20 : decode cX7_cancel 20 = .ok (.iload_n 1, 1) := by decide +kernel
theorem dX7_cancel_21 : decode cX7_cancel 21 = .ok (.invokevirtual 299, 3) := by decide +kernel
theorem dX7_cancel_24 : decode cX7_cancel 24 = .ok (.aload_n 0, 1) := by decide +kernel
theorem dX7_cancel_25 : decode cX7_cancel 25 = .ok (.aload_n 0, 1) := by decide +kernel
theorem dX7_cancel_26 : decode cX7_cancel 26 = .ok (.getfield 27, 3) := by decide +kernel
theorem dX7_cancel_29 : decode cX7_cancel 29 = .ok (.invokevirtual 302, 3) := by decide +kernel
theorem dX7_cancel_32 : decode cX7_cancel 32 = .ok (.invokestatic 293, 3) := by decide +kernel
theorem dX7_cancel_35 : decode cX7_cancel 35 = .ok (.aload_n 0, 1) := by decide +kernel
theorem dX7_cancel_36 : decode cX7_cancel 36 = .ok (.invokevirtual 296, 3) := by decide +kernel
theorem dX7_cancel_39 : decode cX7_cancel 39 = .ok (.aload_n 0, 1) := by decide +kernel
theorem dX7_cancel_40 : decode cX7_cancel 40 = .ok (.getfield 23, 3) := by decide +kernel
theorem dX7_cancel_43 : decode cX7_cancel 43 = .ok (.getfield 119, 3) := by decide +kernel
theorem dX7_cancel_46 : decode cX7_cancel 46 = .ok (.ireturn, 1) := by decide +kernel
theorem dX7_move_0 : decode cX7_move 0 = .ok (.aload_n 0, 1) := by decide +kernel
theorem dX7_move_1 : decode cX7_move 1 = .ok (.iload_n 1, 1) := by decide +kernel
theorem dX7_move_2 : decode cX7_move 2 = .ok (.invokevirtual 230, 3) := by decide +kernel
theorem dX7_move_5 : decode cX7_move 5 = .ok (.aload_n 0, 1) := by decide +kernel
theorem dX7_move_6 : decode cX7_move 6 = .ok (.iload_n 2, 1) := by decide +kernel
theorem dX7_move_7 : decode cX7_move 7 = .ok (.invokevirtual 183, 3) := by decide +kernel
theorem dX7_move_10 : decode cX7_move 10 = .ok (.aload_n 0, 1) := by decide +kernel
theorem dX7_move_11 : decode cX7_move 11 = .ok (.getfield 23, 3) := by decide +kernel
theorem dX7_move_14 : decode cX7_move 14 = .ok (.getfield 236, 3) := by decide +kernel
theorem dX7_move_17 : decode cX7_move 17 = .ok (.iload_n 1, 1) := by decide +kernel
theorem dX7_move_18 : decode cX7_move 18 = .ok (.iaload, 1) := by decide +kernel
theorem dX7_move_19 : decode cX7_move 19 = .ok (.istore_n 3, 1) := by decide +kernel
theorem dX7_move_20 : decode cX7_move 20 = .ok (.aload_n 0, 1) := by decide +kernel
theorem dX7_move_21 : decode cX7_move 21 = .ok (.iload_n 1, 1) := by decide +kernel
theorem dX7_move_22 : decode cX7_move 22 = .ok (.iload_n 2, 1) := by decide +kernel
theorem dX7_move_23 : decode cX7_move 23 = .ok (.invokevirtual 269, 3) := by decide +kernel
theorem dX7_move_26 : decode cX7_move 26 = .ok (.ifCond .ne 7, 3) := by decide +kernel
theorem dX7_move_29 : decode cX7_move 29 = .ok (.iconst 1, 1) := by decide +kernel
theorem dX7_move_30 : decode cX7_move 30 = .ok (.goto 4, 3) := by decide +kernel
theorem dX7_move_33 : decode cX7_move 33 = .ok (.iconst 0, 1) := by decide +kernel
theorem dX7_move_34 : decode cX7_move 34 = .ok (.invokestatic 293, 3) := by decide +kernel
theorem dX7_move_37 : decode cX7_move 37 = .ok (.aload_n 0, 1) := by decide +kernel
theorem dX7_move_38 : decode cX7_move 38 = .ok (.invokevirtual 296, 3) := by decide +kernel
theorem dX7_move_41 : decode cX7_move 41 = .ok (.aload_n 0, 1) := by decide +kernel
theorem dX7_move_42 : decode cX7_move 42 = .ok (.getfield 23, 3) := by decide +kernel
theorem dX7_move_45 : decode cX7_move 45 = .ok (.iload_n 3, 1) := by decide +kernel
theorem dX7_move_46 : decode cX7_move 46 = .ok (.iload_n 2, 1) := by decide +kernel
theorem dX7_move_47 : decode cX7_move 47 = .ok (.invokevirtual 254, 3) := by decide +kernel
theorem dX7_move_50 : decode cX7_move 50 = .ok (.ireturn, 1) := by decide +kernel
theorem dX7_recast_0 : decode cX7_recast 0 = .ok (.aload_n 0, 1) := by decide +kernel
theorem dX7_recast_1 : decode cX7_recast 1 = .ok (.iload_n 1, 1) := by decide +kernel
theorem dX7_recast_2 : decode cX7_recast 2 = .ok (.invokevirtual 230, 3) := by decide +kernel
theorem dX7_recast_5 : decode cX7_recast 5 = .ok (.aload_n 0, 1) := by decide +kernel
theorem dX7_recast_6 : decode cX7_recast 6 = .ok (.getfield 27, 3) := by decide +kernel
theorem dX7_recast_9 : decode cX7_recast 9 = .ok (.aload_n 0, 1) := by decide +kernel
theorem dX7_recast_10 : decode cX7_recast 10 = .ok (.getfield 23, 3) := by decide +kernel
theorem dX7_recast_13 : decode cX7_recast 13 = .ok (.invokevirtual 275, 3) := by decide +kernel
theorem dX7_recast_16 : decode cX7_recast 16 = .ok (.aload_n 0, 1) := by decide +kernel
theorem dX7_recast_17 : decode cX7_recast 17 = .ok (.getfield 27, 3) := by decide +kernel
theorem dX7_recast_20 : decode cX7_recast 20 = .ok (.iload_n 1, 1) := by decide +kernel
theorem dX7_recast_21 : decode cX7_recast 21 = .ok (.invokevirtual 306, 3) := by decide +kernel
theorem dX7_recast_24 : decode cX7_recast 24 = .ok (.aload_n 0, 1) := by decide +kernel
theorem dX7_recast_25 : decode cX7_recast 25 = .ok (.iload_n 1, 1) := by decide +kernel
theorem dX7_recast_26 : decode cX7_recast 26 = .ok (.invokevirtual 309, 3) := by decide +kernel
theorem dX7_recast_29 : decode cX7_recast 29 = .ok (.aload_n 0, 1) := by decide +kernel
theorem dX7_recast_30 : decode cX7_recast 30 = .ok (.invokevirtual 296, 3) := by decide +kernel
theorem dX7_recast_33 : decode cX7_recast 33 = .ok (.aload_n 0, 1) := by decide +kernel
theorem dX7_recast_34 : decode cX7_recast 34 = .ok (.getfield 48, 3) := by decide +kernel
theorem dX7_recast_37 : decode cX7_recast 37 = .ok (.aload_n 0, 1) := by decide +kernel
theorem dX7_recast_38 : decode cX7_recast 38 = .ok (.getfield 23, 3) := by decide +kernel
theorem dX7_recast_41 : decode cX7_recast 41 = .ok (.iload_n 1, 1) := by decide +kernel
theorem dX7_recast_42 : decode cX7_recast 42 = .ok (.invokestatic 247, 3) := by decide +kernel
theorem dX7_recast_45 : decode cX7_recast 45 = .ok (.ireturn, 1) := by decide +kernel
theorem dX7_setContract_0 : decode cX7_setContract 0 = .ok (.aload_n 0, 1) := by decide +kernel
theorem dX7_setContract_1 : decode cX7_setContract 1 = .ok (.iload_n 1, 1) := by decide +kernel
theorem dX7_setContract_2 : decode cX7_setContract 2 = .ok (.invokevirtual 148, 3) := by decide +kernel
theorem dX7_setContract_5 : decode cX7_setContract 5 = .ok (.iload_n 2, 1) := by decide +kernel
theorem dX7_setContract_6 : decode cX7_setContract 6 = .ok (.ifCond .lt 13, 3) := by decide +kernel
theorem dX7_setContract_9 : decode cX7_setContract 9 = .ok (.iload_n 2, 1) := by decide +kernel
theorem dX7_setContract_10 : decode cX7_setContract 10 = .ok (.bipush 40, 2) := by decide +kernel
theorem dX7_setContract_12 : decode cX7_setContract 12 = .ok (.if_icmp .gt 7, 3) := by decide +kernel
theorem dX7_setContract_15 : decode cX7_setContract 15 = .ok (.iconst 1, 1) := by decide +kernel
theorem dX7_setContract_16 : decode cX7_setContract 16 = .ok (.goto 4, 3) := by decide +kernel
theorem dX7_setContract_19 : decode cX7_setContract 19 = .ok (.iconst 0, 1) := by decide +kernel
theorem dX7_setContract_20 : decode cX7_setContract 20 = .ok (.invokestatic 62, 3) := by decide +kernel
theorem dX7_setContract_23 : decode cX7_setContract 23 = .ok (.aload_n 0, 1) := by decide +kernel
theorem dX7_setContract_24 : decode cX7_setContract 24 = .ok (.getfield 23, 3) := by decide +kernel
theorem dX7_setContract_27 : decode cX7_setContract 27 = .ok (.getfield 151, 3) := by decide +kernel
theorem dX7_setContract_30 : decode cX7_setContract 30 = .ok (.iload_n 1, 1) := by decide +kernel
theorem dX7_setContract_31 : decode cX7_setContract 31 = .ok (.iaload, 1) := by decide +kernel
theorem dX7_setContract_32 : decode cX7_setContract 32 = .ok (.istore_n 3, 1) := by decide +kernel
theorem dX7_setContract_33 : decode cX7_setContract 33 = .ok (.aload_n 0, 1) := by decide +kernel
theorem dX7_setContract_34 : decode cX7_setContract 34 = .ok (.getfield 27, 3) := by decide +kernel
theorem dX7_setContract_37 : decode cX7_setContract 37 = .ok (.aload_n 0, 1) := by decide +kernel
theorem dX7_setContract_38 : decode cX7_setContract 38 = .ok (.getfield 23, 3) := by decide +kernel
theorem dX7_setContract_41 : decode cX7_setContract 41 = .ok (.invokevirtual 275, 3) := by decide +kernel
theorem dX7_setContract_44 : decode cX7_setContract 44 = .ok (.aload_n 0, 1) := by decide +kernel
theorem dX7_setContract_45 : decode cX7_setContract 45 = .ok (.getfield 27, 3) := by decide +kernel
theorem dX7_setContract_48 : decode cX7_setContract 48 = .ok (.getfield 151, 3) := by decide +kernel
theorem dX7_setContract_51 : decode cX7_setContract 51 = .ok (.iload_n 1, 1) := by decide +kernel
theorem dX7_setContract_52 : decode cX7_setContract 52 = .ok (.iload_n 2, 1) := by decide +kernel
theorem dX7_setContract_53 : decode cX7_setContract 53 = .ok (.iastore, 1) := by decide +kernel
theorem dX7_setContract_54 : decode cX7_setContract 54 = .ok (.aload_n 0, 1) := by decide +kernel
theorem dX7_setContract_55 : decode cX7_setContract 55 = .ok (.invokevirtual 296, 3) := by decide +kernel
theorem dX7_setContract_58 : decode cX7_setContract 58 = .ok (.iload_n 3, 1) := by decide +kernel
theorem dX7_setContract_59 : decode cX7_setContract 59 = .ok (.ireturn, 1) := by decide +kernel
theorem dX7_acceptDraft_0 : decode cX7_acceptDraft 0 = .ok (.aload_n 0, 1) := by decide +kernel
theorem dX7_acceptDraft_1 : decode cX7_acceptDraft 1 = .ok (.getfield 95, 3) := by decide +kernel
theorem dX7_acceptDraft_4 : decode cX7_acceptDraft 4 = .ok (.bipush 10, 2) := by decide +kernel
theorem dX7_acceptDraft_6 : decode cX7_acceptDraft 6 = .ok (.if_icmp .ne 7, 3) := by decide +kernel
theorem dX7_acceptDraft_9 : decode cX7_acceptDraft 9 = .ok (.aload_n 0, 1) := by decide +kernel
theorem dX7_acceptDraft_10 : decode cX7_acceptDraft 10 = .ok (.invokevirtual 315, 3) := by decide +kernel
theorem dX7_acceptDraft_13 : decode cX7_acceptDraft 13 = .ok (.aload_n 0, 1) := by decide +kernel
theorem dX7_acceptDraft_14 : decode cX7_acceptDraft 14 = .ok (.getfield 30, 3) := by decide +kernel
theorem dX7_acceptDraft_17 : decode cX7_acceptDraft 17 = .ok (.aload_n 0, 1) := by decide +kernel
theorem dX7_acceptDraft_18 : decode cX7_acceptDraft 18 = .ok (.getfield 95, 3) := by decide +kernel
theorem dX7_acceptDraft_21 : decode cX7_acceptDraft 21 = .ok (.aaload, 1) := by decide +kernel
theorem dX7_acceptDraft_22 : decode cX7_acceptDraft 22 = .ok (.aload_n 0, 1) := by decide +kernel
theorem dX7_acceptDraft_23 : decode cX7_acceptDraft 23 = .ok (.getfield 23, 3) := by decide +kernel
theorem dX7_acceptDraft_26 : decode cX7_acceptDraft 26 = .ok (.invokevirtual 275, 3) := by decide +kernel
theorem dX7_acceptDraft_29 : decode cX7_acceptDraft 29 = .ok (.aload_n 0, 1) := by decide +kernel
theorem dX7_acceptDraft_30 : decode cX7_acceptDraft 30 = .ok (.dup, 1) := by decide +kernel
theorem dX7_acceptDraft_31 : decode cX7_acceptDraft 31 = .ok (.getfield 95, 3) := by decide +kernel
theorem dX7_acceptDraft_34 : decode cX7_acceptDraft 34 = .ok (.iconst 1, 1) := by decide +kernel
theorem dX7_acceptDraft_35 : decode cX7_acceptDraft 35 = .ok (.iadd, 1) := by decide +kernel
theorem dX7_acceptDraft_36 : decode cX7_acceptDraft 36 = .ok (.putfield 95, 3) := by decide +kernel
theorem dX7_acceptDraft_39 : decode cX7_acceptDraft 39 = .ok (.aload_n 0, 1) := by decide +kernel
theorem dX7_acceptDraft_40 : decode cX7_acceptDraft 40 = .ok (.getfield 23, 3) := by decide +kernel
theorem dX7_acceptDraft_43 : decode cX7_acceptDraft 43 = .ok (.aload_n 0, 1) := by decide +kernel
theorem dX7_acceptDraft_44 : decode cX7_acceptDraft 44 = .ok (.getfield 27, 3) := by decide +kernel
theorem dX7_acceptDraft_47 : decode cX7_acceptDraft 47 = .ok (.invokevirtual 275, 3) := by decide +kernel
theorem dX7_acceptDraft_50 : decode cX7_acceptDraft 50 = .ok (.return_, 1) := by decide +kernel
theorem dX7_forgetOldestChange_0 : decode cX7_forgetOldestChange 0 = .ok (.aload_n 0, 1) := by decide +kernel
theorem dX7_forgetOldestChange_1 : decode cX7_forgetOldestChange 1 = .ok (.getfield 30, 3) := by decide +kernel
theorem dX7_forgetOldestChange_4 : decode cX7_forgetOldestChange 4 = .ok (.iconst 0, 1) := by decide +kernel
theorem dX7_forgetOldestChange_5 : decode cX7_forgetOldestChange 5 = .ok (.aaload, 1) := by decide +kernel
theorem dX7_forgetOldestChange_6 : decode cX7_forgetOldestChange 6 = .ok (.astore_n 1, 1) := by decide +kernel
theorem dX7_forgetOldestChange_7 : decode cX7_forgetOldestChange 7 = .ok (.iconst 1, 1) := by decide +kernel
theorem dX7_forgetOldestChange_8 : decode cX7_forgetOldestChange 8 = .ok (.istore_n 2, 1) := by decide +kernel
theorem dX7_forgetOldestChange_9 : decode cX7_forgetOldestChange 9 = .ok (.iload_n 2, 1) := by decide +kernel
theorem dX7_forgetOldestChange_10 : decode cX7_forgetOldestChange 10 = .ok (.bipush 10, 2) := by decide +kernel
theorem dX7_forgetOldestChange_12 : decode cX7_forgetOldestChange 12 = .ok (.if_icmp .ge 23, 3) := by decide +kernel
theorem dX7_forgetOldestChange_15 : decode cX7_forgetOldestChange 15 = .ok (.aload_n 0, 1) := by decide +kernel
theorem dX7_forgetOldestChange_16 : decode cX7_forgetOldestChange 16 = .ok (.getfield 30, 3) := by decide +kernel
theorem dX7_forgetOldestChange_19 : decode cX7_forgetOldestChange 19 = .ok (.iload_n 2, 1) := by decide +kernel
theorem dX7_forgetOldestChange_20 : decode cX7_forgetOldestChange 20 = .ok (.iconst 1, 1) := by decide +kernel
theorem dX7_forgetOldestChange_21 : decode cX7_forgetOldestChange 21 = .ok (.isub, 1) := by decide +kernel
theorem dX7_forgetOldestChange_22 : decode cX7_forgetOldestChange 22 = .ok (.aload_n 0, 1) := by decide +kernel
theorem dX7_forgetOldestChange_23 : decode cX7_forgetOldestChange 23 = .ok (.getfield 30, 3) := by decide +kernel
theorem dX7_forgetOldestChange_26 : decode cX7_forgetOldestChange 26 = .ok (.iload_n 2, 1) := by decide +kernel
theorem dX7_forgetOldestChange_27 : decode cX7_forgetOldestChange 27 = .ok (.aaload, 1) := by decide +kernel
theorem dX7_forgetOldestChange_28 : decode cX7_forgetOldestChange 28 = .ok (.aastore, 1) := by decide +kernel
theorem dX7_forgetOldestChange_29 : decode cX7_forgetOldestChange 29 = .ok (.iinc 2 1, 3) := by decide +kernel
theorem dX7_forgetOldestChange_32 : decode cX7_forgetOldestChange 32 = .ok (.goto (-23), 3) := by decide +kernel
theorem dX7_forgetOldestChange_35 : decode cX7_forgetOldestChange 35 = .ok (.aload_n 0, 1) := by decide +kernel
theorem dX7_forgetOldestChange_36 : decode cX7_forgetOldestChange 36 = .ok (.getfield 30, 3) := by decide +kernel
theorem dX7_forgetOldestChange_39 : decode cX7_forgetOldestChange 39 = .ok (.bipush 9, 2) := by decide +kernel
theorem dX7_forgetOldestChange_41 : decode cX7_forgetOldestChange 41 = .ok (.aload_n 1, 1) := by decide +kernel
theorem dX7_forgetOldestChange_42 : decode cX7_forgetOldestChange 42 = .ok (.aastore, 1) := by decide +kernel
theorem dX7_forgetOldestChange_43 : decode cX7_forgetOldestChange 43 = .ok (.aload_n 0, 1) := by decide +kernel
theorem dX7_forgetOldestChange_44 : decode cX7_forgetOldestChange 44 = .ok (.dup, 1) := by decide +kernel
theorem dX7_forgetOldestChange_45 : decode cX7_forgetOldestChange 45 = .ok (.getfield 95, 3) := by decide +kernel
theorem dX7_forgetOldestChange_48 : decode cX7_forgetOldestChange 48 = .ok (.iconst 1, 1) := by decide +kernel
theorem dX7_forgetOldestChange_49 : decode cX7_forgetOldestChange 49 = .ok (.isub, 1) := by decide +kernel
theorem dX7_forgetOldestChange_50 : decode cX7_forgetOldestChange 50 = .ok (.putfield 95, 3) := by decide +kernel
theorem dX7_forgetOldestChange_53 : decode cX7_forgetOldestChange 53 = .ok (.return_, 1) := by decide +kernel
theorem dX7_draftMove_0 : decode cX7_draftMove 0 = .ok (.aload_n 0, 1) := by decide +kernel
theorem dX7_draftMove_1 : decode cX7_draftMove 1 = .ok (.getfield 23, 3) := by decide +kernel
theorem dX7_draftMove_4 : decode cX7_draftMove 4 = .ok (.getfield 236, 3) := by decide +kernel
theorem dX7_draftMove_7 : decode cX7_draftMove 7 = .ok (.iload_n 1, 1) := by decide +kernel
theorem dX7_draftMove_8 : decode cX7_draftMove 8 = .ok (.iaload, 1) := by decide +kernel
theorem dX7_draftMove_9 : decode cX7_draftMove 9 = .ok (.istore_n 3, 1) := by decide +kernel
theorem dX7_draftMove_10 : decode cX7_draftMove 10 = .ok (.aload_n 0, 1) := by decide +kernel
theorem dX7_draftMove_11 : decode cX7_draftMove 11 = .ok (.getfield 23, 3) := by decide +kernel
theorem dX7_draftMove_14 : decode cX7_draftMove 14 = .ok (.getfield 241, 3) := by decide +kernel
theorem dX7_draftMove_17 : decode cX7_draftMove 17 = .ok (.iload_n 1, 1) := by decide +kernel
theorem dX7_draftMove_18 : decode cX7_draftMove 18 = .ok (.iaload, 1) := by decide +kernel
theorem dX7_draftMove_19 : decode cX7_draftMove 19 = .ok (.istore 4, 2) := by decide +kernel
theorem dX7_draftMove_21 : decode cX7_draftMove 21 = .ok (.aload_n 0, 1) := by decide +kernel
theorem dX7_draftMove_22 : decode cX7_draftMove 22 = .ok (.getfield 23, 3) := by decide +kernel
theorem dX7_draftMove_25 : decode cX7_draftMove 25 = .ok (.iload_n 1, 1) := by decide +kernel
theorem dX7_draftMove_26 : decode cX7_draftMove 26 = .ok (.invokevirtual 318, 3) := by decide +kernel
theorem dX7_draftMove_29 : decode cX7_draftMove 29 = .ok (.istore 5, 2) := by decide +kernel
theorem dX7_draftMove_31 : decode cX7_draftMove 31 = .ok (.aload_n 0, 1) := by decide +kernel
theorem dX7_draftMove_32 : decode cX7_draftMove 32 = .ok (.getfield 27, 3) := by decide +kernel
theorem dX7_draftMove_35 : decode cX7_draftMove 35 = .ok (.aload_n 0, 1) := by decide +kernel
theorem dX7_draftMove_36 : decode cX7_draftMove 36 = .ok (.getfield 23, 3) := by decide +kernel
theorem dX7_draftMove_39 : decode cX7_draftMove 39 = .ok (.invokevirtual 275, 3) := by decide +kernel
theorem dX7_draftMove_42 : decode cX7_draftMove 42 = .ok (.aload_n 0, 1) := by decide +kernel
theorem dX7_draftMove_43 : decode cX7_draftMove 43 = .ok (.getfield 27, 3) := by decide +kernel
theorem dX7_draftMove_46 : decode cX7_draftMove 46 = .ok (.iload_n 1, 1) := by decide +kernel
theorem dX7_draftMove_47 : decode cX7_draftMove 47 = .ok (.invokevirtual 299, 3) := by decide +kernel
theorem dX7_draftMove_50 : decode cX7_draftMove 50 = .ok (.aload_n 0, 1) := by decide +kernel
theorem dX7_draftMove_51 : decode cX7_draftMove 51 = .ok (.aload_n 0, 1) := by decide +kernel
theorem dX7_draftMove_52 : decode cX7_draftMove 52 = .ok (.getfield 27, 3) := by decide +kernel
theorem dX7_draftMove_55 : decode cX7_draftMove 55 = .ok (.iload_n 3, 1) := by decide +kernel
theorem dX7_draftMove_56 : decode cX7_draftMove 56 = .ok (.iload_n 2, 1) := by decide +kernel
theorem dX7_draftMove_57 : decode cX7_draftMove 57 = .ok (.iload 4, 2) := by decide +kernel
theorem dX7_draftMove_59 : decode cX7_draftMove 59 = .ok (.iload 5, 2) := by decide +kernel
theorem dX7_draftMove_61 : decode cX7_draftMove 61 = .ok (.invokevirtual 265, 3) := by decide +kernel
theorem dX7_draftMove_64 : decode cX7_draftMove 64 = .ok (.istore 6, 2) := by decide +kernel
theorem dX7_draftMove_66 : decode cX7_draftMove 66 = .ok (.iload 6, 2) := by decide +kernel
theorem dX7_draftMove_68 : decode cX7_draftMove 68 = .ok (.ifCond .eq 6, 3) := by decide +kernel
theorem dX7_draftMove_71 : decode cX7_draftMove 71 = .ok (.iload 6, 2) := by decide +kernel
theorem dX7_draftMove_73 : decode cX7_draftMove 73 = .ok (.ireturn, 1) := by decide +kernel
theorem dX7_draftMove_74 : decode cX7_draftMove 74 = .ok (.aload_n 0, 1) := by decide +kernel
theorem dX7_draftMove_75 : decode cX7_draftMove 75 = .ok (.iload_n 3, 1) := by decide +kernel
theorem dX7_draftMove_76 : decode cX7_draftMove 76 = .ok (.iload_n 2, 1) := by decide +kernel
theorem dX7_draftMove_77 : decode cX7_draftMove 77 = .ok (.iload 4, 2) := by decide +kernel
theorem dX7_draftMove_79 : decode cX7_draftMove 79 = .ok (.iload 5, 2) := by decide +kernel
theorem dX7_draftMove_81 : decode cX7_draftMove 81 = .ok (.invokevirtual 279, 3) := by decide +kernel
theorem dX7_draftMove_84 : decode cX7_draftMove 84 = .ok (.pop, 1) := by decide +kernel
theorem dX7_draftMove_85 : decode cX7_draftMove 85 = .ok (.aload_n 0, 1) := by decide +kernel
theorem dX7_draftMove_86 : decode cX7_draftMove 86 = .ok (.aload_n 0, 1) := by decide +kernel
theorem dX7_draftMove_87 : decode cX7_draftMove 87 = .ok (.getfield 27, 3) := by decide +kernel
theorem dX7_draftMove_90 : decode cX7_draftMove 90 = .ok (.invokevirtual 302, 3) := by decide +kernel
theorem dX7_draftMove_93 : decode cX7_draftMove 93 = .ok (.ifCond .eq 7, 3) := by decide +kernel
theorem dX7_draftMove_96 : decode cX7_draftMove 96 = .ok (.iconst 0, 1) := by decide +kernel
theorem dX7_draftMove_97 : decode cX7_draftMove 97 = .ok (.goto 5, 3) := by decide +kernel
theorem dX7_draftMove_100 : decode cX7_draftMove 100 = .ok (.bipush 6, 2) := by decide +kernel
theorem dX7_draftMove_102 : decode cX7_draftMove 102 = .ok (.ireturn, 1) := by decide +kernel
theorem dX7_addToDraft_0 : decode cX7_addToDraft 0 = .ok (.aload_n 0, 1) := by decide +kernel
theorem dX7_addToDraft_1 : decode cX7_addToDraft 1 = .ok (.getfield 27, 3) := by decide +kernel
theorem dX7_addToDraft_4 : decode cX7_addToDraft 4 = .ok (.iload_n 1, 1) := by decide +kernel
theorem dX7_addToDraft_5 : decode cX7_addToDraft 5 = .ok (.iload_n 2, 1) := by decide +kernel
theorem dX7_addToDraft_6 : decode cX7_addToDraft 6 = .ok (.iload_n 3, 1) := by decide +kernel
theorem dX7_addToDraft_7 : decode cX7_addToDraft 7 = .ok (.iload 4, 2) := by decide +kernel
theorem dX7_addToDraft_9 : decode cX7_addToDraft 9 = .ok (.invokevirtual 321, 3) := by decide +kernel
theorem dX7_addToDraft_12 : decode cX7_addToDraft 12 = .ok (.istore 5, 2) := by decide +kernel
theorem dX7_addToDraft_14 : decode cX7_addToDraft 14 = .ok (.aload_n 0, 1) := by decide +kernel
theorem dX7_addToDraft_15 : decode cX7_addToDraft 15 = .ok (.iload 5, 2) := by decide +kernel
theorem dX7_addToDraft_17 : decode cX7_addToDraft 17 = .ok (.invokevirtual 309, 3) := by decide +kernel
theorem dX7_addToDraft_20 : decode cX7_addToDraft 20 = .ok (.iload 5, 2) := by decide +kernel
theorem dX7_addToDraft_22 : decode cX7_addToDraft 22 = .ok (.ireturn, 1) := by decide +kernel
theorem dX7_castInDraft_0 : decode cX7_castInDraft 0 = .ok (.aload_n 0, 1) := by decide +kernel
theorem dX7_castInDraft_1 : decode cX7_castInDraft 1 = .ok (.aload_n 0, 1) := by decide +kernel
theorem dX7_castInDraft_2 : decode cX7_castInDraft 2 = .ok (.getfield 27, 3) := by decide +kernel
theorem dX7_castInDraft_5 : decode cX7_castInDraft 5 = .ok (.aload_n 0, 1) := by decide +kernel
theorem dX7_castInDraft_6 : decode cX7_castInDraft 6 = .ok (.getfield 27, 3) := by decide +kernel
theorem dX7_castInDraft_9 : decode cX7_castInDraft 9 = .ok (.getfield 233, 3) := by decide +kernel
theorem dX7_castInDraft_12 : decode cX7_castInDraft 12 = .ok (.iload_n 1, 1) := by decide +kernel
theorem dX7_castInDraft_13 : decode cX7_castInDraft 13 = .ok (.iaload, 1) := by decide +kernel
theorem dX7_castInDraft_14 : decode cX7_castInDraft 14 = .ok (.invokevirtual 186, 3) := by decide +kernel
theorem dX7_castInDraft_17 : decode cX7_castInDraft 17 = .ok (.istore_n 2, 1) := by decide +kernel
theorem dX7_castInDraft_18 : decode cX7_castInDraft 18 = .ok (.iconst 0, 1) := by decide +kernel
theorem dX7_castInDraft_19 : decode cX7_castInDraft 19 = .ok (.istore_n 3, 1) := by decide +kernel
theorem dX7_castInDraft_20 : decode cX7_castInDraft 20 = .ok (.iload_n 3, 1) := by decide +kernel
theorem dX7_castInDraft_21 : decode cX7_castInDraft 21 = .ok (.aload_n 0, 1) := by decide +kernel
theorem dX7_castInDraft_22 : decode cX7_castInDraft 22 = .ok (.getfield 48, 3) := by decide +kernel
theorem dX7_castInDraft_25 : decode cX7_castInDraft 25 = .ok (.getfield 113, 3) := by decide +kernel
theorem dX7_castInDraft_28 : decode cX7_castInDraft 28 = .ok (.getfield 105, 3) := by decide +kernel
theorem dX7_castInDraft_31 : decode cX7_castInDraft 31 = .ok (.if_icmp .ge 67, 3) := by decide +kernel
theorem dX7_castInDraft_34 : decode cX7_castInDraft 34 = .ok (.aload_n 0, 1) := by decide +kernel
theorem dX7_castInDraft_35 : decode cX7_castInDraft 35 = .ok (.getfield 27, 3) := by decide +kernel
theorem dX7_castInDraft_38 : decode cX7_castInDraft 38 = .ok (.getfield 241, 3) := by decide +kernel
theorem dX7_castInDraft_41 : decode cX7_castInDraft 41 = .ok (.iload_n 1, 1) := by decide +kernel
theorem dX7_castInDraft_42 : decode cX7_castInDraft 42 = .ok (.iaload, 1) := by decide +kernel
theorem dX7_castInDraft_43 : decode cX7_castInDraft 43 = .ok (.iload_n 3, 1) := by decide +kernel
theorem dX7_castInDraft_44 : decode cX7_castInDraft 44 = .ok (.invokestatic 190, 3) := by decide +kernel
theorem dX7_castInDraft_47 : decode cX7_castInDraft 47 = .ok (.ifCond .eq 45, 3) := by decide +kernel
theorem dX7_castInDraft_50 : decode cX7_castInDraft 50 = .ok (.aload_n 0, 1) := by decide +kernel
theorem dX7_castInDraft_51 : decode cX7_castInDraft 51 = .ok (.getfield 16, 3) := by decide +kernel
theorem dX7_castInDraft_54 : decode cX7_castInDraft 54 = .ok (.aload_n 0, 1) := by decide +kernel
theorem dX7_castInDraft_55 : decode cX7_castInDraft 55 = .ok (.getfield 48, 3) := by decide +kernel
theorem dX7_castInDraft_58 : decode cX7_castInDraft 58 = .ok (.iload_n 3, 1) := by decide +kernel
theorem dX7_castInDraft_59 : decode cX7_castInDraft 59 = .ok (.iload_n 2, 1) := by decide +kernel
theorem dX7_castInDraft_60 : decode cX7_castInDraft 60 = .ok (.invokevirtual 257, 3) := by decide +kernel
theorem dX7_castInDraft_63 : decode cX7_castInDraft 63 = .ok (.iconst (-1), 1) := by decide +kernel
theorem dX7_castInDraft_64 : decode cX7_castInDraft 64 = .ok (.if_icmp .eq 28, 3) := by decide +kernel
theorem dX7_castInDraft_67 : decode cX7_castInDraft 67 = .ok (.aload_n 0, 1) := by decide +kernel
theorem dX7_castInDraft_68 : decode cX7_castInDraft 68 = .ok (.getfield 27, 3) := by decide +kernel
theorem dX7_castInDraft_71 : decode cX7_castInDraft 71 = .ok (.iload_n 1, 1) := by decide +kernel
theorem dX7_castInDraft_72 : decode cX7_castInDraft 72 = .ok (.iload_n 3, 1) := by decide +kernel
theorem dX7_castInDraft_73 : decode cX7_castInDraft 73 = .ok (.aload_n 0, 1) := by decide +kernel
theorem dX7_castInDraft_74 : decode cX7_castInDraft 74 = .ok (.getfield 16, 3) := by decide +kernel
theorem dX7_castInDraft_77 : decode cX7_castInDraft 77 = .ok (.getfield 324, 3) := by decide +kernel
theorem dX7_castInDraft_80 : decode cX7_castInDraft 80 = .ok (.aload_n 0, 1) := by decide +kernel
theorem dX7_castInDraft_81 : decode cX7_castInDraft 81 = .ok (.getfield 48, 3) := by decide +kernel
theorem dX7_castInDraft_84 : decode cX7_castInDraft 84 = .ok (.getfield 209, 3) := by decide +kernel
theorem dX7_castInDraft_87 : decode cX7_castInDraft 87 = .ok (.iload_n 3, 1) := by decide +kernel
theorem dX7_castInDraft_88 : decode cX7_castInDraft 88 = .ok (.iaload, 1) := by decide +kernel
theorem dX7_castInDraft_89 : decode cX7_castInDraft 89 = .ok (.invokevirtual 327, 3) := by decide +kernel
theorem dX7_castInDraft_92 : decode cX7_castInDraft 92 = .ok (.iinc 3 1, 3) := by decide +kernel
theorem dX7_castInDraft_95 : decode cX7_castInDraft 95 = .ok (.goto (-75), 3) := by decide +kernel
theorem dX7_castInDraft_98 : decode cX7_castInDraft 98 = .ok (.return_, 1) := by decide +kernel
theorem dX7_freePlayers_0 : decode cX7_freePlayers 0 = .ok (.aload_n 0, 1) := by decide +kernel
theorem dX7_freePlayers_1 : decode cX7_freePlayers 1 = .ok (.getfield 48, 3) := by decide +kernel
theorem dX7_freePlayers_4 : decode cX7_freePlayers 4 = .ok (.iload_n 2, 1) := by decide +kernel
theorem dX7_freePlayers_5 : decode cX7_freePlayers 5 = .ok (.iconst 3, 1) := by decide +kernel
theorem dX7_freePlayers_6 : decode cX7_freePlayers 6 = .ok (.idiv, 1) := by decide +kernel
theorem dX7_freePlayers_7 : decode cX7_freePlayers 7 = .ok (.invokevirtual 331, 3) := by decide +kernel
theorem dX7_freePlayers_10 : decode cX7_freePlayers 10 = .ok (.aload_n 1, 1) := by decide +kernel
theorem dX7_freePlayers_11 : decode cX7_freePlayers 11 = .ok (.iload_n 2, 1) := by decide +kernel
theorem dX7_freePlayers_12 : decode cX7_freePlayers 12 = .ok (.invokevirtual 334, 3) := by decide +kernel
theorem dX7_freePlayers_15 : decode cX7_freePlayers 15 = .ok (.iconst (-1), 1) := by decide +kernel
theorem dX7_freePlayers_16 : decode cX7_freePlayers 16 = .ok (.ixor, 1) := by decide +kernel
theorem dX7_freePlayers_17 : decode cX7_freePlayers 17 = .ok (.iand, 1) := by decide +kernel
theorem dX7_freePlayers_18 : decode cX7_freePlayers 18 = .ok (.ireturn, 1) := by decide +kernel
theorem dX7_reasonAgainst_0 : decode cX7_reasonAgainst 0 = .ok (.aload_n 1, 1) := by decide +kernel
theorem dX7_reasonAgainst_1 : decode cX7_reasonAgainst 1 = .ok (.getfield 119, 3) := by decide +kernel
theorem dX7_reasonAgainst_4 : decode cX7_reasonAgainst 4 = .ok (.bipush 20, 2) := by decide +kernel
theorem dX7_reasonAgainst_6 : decode cX7_reasonAgainst 6 = .ok (.if_icmp .lt 5, 3) := by decide +kernel
theorem dX7_reasonAgainst_9 : decode cX7_reasonAgainst 9 = .ok (.iconst 1, 1) := by decide +kernel
theorem dX7_reasonAgainst_10 : decode cX7_reasonAgainst 10 = .ok (.ireturn, 1) := by decide +kernel
theorem dX7_reasonAgainst_11 : decode cX7_reasonAgainst 11 = .ok (.aload_n 0, 1) := by decide +kernel
theorem dX7_reasonAgainst_12 : decode cX7_reasonAgainst 12 = .ok (.getfield 48, 3) := by decide +kernel
theorem dX7_reasonAgainst_15 : decode cX7_reasonAgainst 15 = .ok (.iload 4, 2) := by decide +kernel
theorem dX7_reasonAgainst_17 : decode cX7_reasonAgainst 17 = .ok (.iload_n 3, 1) := by decide +kernel
theorem dX7_reasonAgainst_18 : decode cX7_reasonAgainst 18 = .ok (.iconst 3, 1) := by decide +kernel
theorem dX7_reasonAgainst_19 : decode cX7_reasonAgainst 19 = .ok (.idiv, 1) := by decide +kernel
theorem dX7_reasonAgainst_20 : decode cX7_reasonAgainst 20 = .ok (.invokevirtual 337, 3) := by decide +kernel
theorem dX7_reasonAgainst_23 : decode cX7_reasonAgainst 23 = .ok (.ifCond .ne 5, 3) := by decide +kernel
theorem dX7_reasonAgainst_26 : decode cX7_reasonAgainst 26 = .ok (.iconst 2, 1) := by decide +kernel
theorem dX7_reasonAgainst_27 : decode cX7_reasonAgainst 27 = .ok (.ireturn, 1) := by decide +kernel
theorem dX7_reasonAgainst_28 : decode cX7_reasonAgainst 28 = .ok (.aload_n 1, 1) := by decide +kernel
theorem dX7_reasonAgainst_29 : decode cX7_reasonAgainst 29 = .ok (.iload_n 2, 1) := by decide +kernel
theorem dX7_reasonAgainst_30 : decode cX7_reasonAgainst 30 = .ok (.iload_n 3, 1) := by decide +kernel
theorem dX7_reasonAgainst_31 : decode cX7_reasonAgainst 31 = .ok (.aload_n 0, 1) := by decide +kernel
theorem dX7_reasonAgainst_32 : decode cX7_reasonAgainst 32 = .ok (.getfield 48, 3) := by decide +kernel
theorem dX7_reasonAgainst_35 : decode cX7_reasonAgainst 35 = .ok (.getfield 145, 3) := by decide +kernel
theorem dX7_reasonAgainst_38 : decode cX7_reasonAgainst 38 = .ok (.iload_n 2, 1) := by decide +kernel
theorem dX7_reasonAgainst_39 : decode cX7_reasonAgainst 39 = .ok (.iaload, 1) := by decide +kernel
theorem dX7_reasonAgainst_40 : decode cX7_reasonAgainst 40 = .ok (.invokevirtual 340, 3) := by decide +kernel
theorem dX7_reasonAgainst_43 : decode cX7_reasonAgainst 43 = .ok (.ifCond .eq 5, 3) := by decide +kernel
theorem dX7_reasonAgainst_46 : decode cX7_reasonAgainst 46 = .ok (.iconst 3, 1) := by decide +kernel
theorem dX7_reasonAgainst_47 : decode cX7_reasonAgainst 47 = .ok (.ireturn, 1) := by decide +kernel
theorem dX7_reasonAgainst_48 : decode cX7_reasonAgainst 48 = .ok (.iload 5, 2) := by decide +kernel
theorem dX7_reasonAgainst_50 : decode cX7_reasonAgainst 50 = .ok (.ifCond .eq 16, 3) := by decide +kernel
theorem dX7_reasonAgainst_53 : decode cX7_reasonAgainst 53 = .ok (.aload_n 0, 1) := by decide +kernel
theorem dX7_reasonAgainst_54 : decode cX7_reasonAgainst 54 = .ok (.aload_n 1, 1) := by decide +kernel
theorem dX7_reasonAgainst_55 : decode cX7_reasonAgainst 55 = .ok (.iload 4, 2) := by decide +kernel
theorem dX7_reasonAgainst_57 : decode cX7_reasonAgainst 57 = .ok (.iload_n 3, 1) := by decide +kernel
theorem dX7_reasonAgainst_58 : decode cX7_reasonAgainst 58 = .ok (.invokevirtual 344, 3) := by decide +kernel
theorem dX7_reasonAgainst_61 : decode cX7_reasonAgainst 61 = .ok (.ifCond .ne 5, 3) := by decide +kernel
theorem dX7_reasonAgainst_64 : decode cX7_reasonAgainst 64 = .ok (.iconst 4, 1) := by decide +kernel
theorem dX7_reasonAgainst_65 : decode cX7_reasonAgainst 65 = .ok (.ireturn, 1) := by decide +kernel
theorem dX7_reasonAgainst_66 : decode cX7_reasonAgainst 66 = .ok (.aload_n 0, 1) := by decide +kernel
theorem dX7_reasonAgainst_67 : decode cX7_reasonAgainst 67 = .ok (.iload 4, 2) := by decide +kernel
theorem dX7_reasonAgainst_69 : decode cX7_reasonAgainst 69 = .ok (.aload_n 0, 1) := by decide +kernel
theorem dX7_reasonAgainst_70 : decode cX7_reasonAgainst 70 = .ok (.aload_n 1, 1) := by decide +kernel
theorem dX7_reasonAgainst_71 : decode cX7_reasonAgainst 71 = .ok (.iload_n 3, 1) := by decide +kernel
theorem dX7_reasonAgainst_72 : decode cX7_reasonAgainst 72 = .ok (.invokevirtual 186, 3) := by decide +kernel
theorem dX7_reasonAgainst_75 : decode cX7_reasonAgainst 75 = .ok (.invokevirtual 348, 3) := by decide +kernel
theorem dX7_reasonAgainst_78 : decode cX7_reasonAgainst 78 = .ok (.ifCond .eq 7, 3) := by decide +kernel
theorem dX7_reasonAgainst_81 : decode cX7_reasonAgainst 81 = .ok (.iconst 0, 1) := by decide +kernel
theorem dX7_reasonAgainst_82 : decode cX7_reasonAgainst 82 = .ok (.goto 4, 3) := by decide +kernel
theorem dX7_reasonAgainst_85 : decode cX7_reasonAgainst 85 = .ok (.iconst 5, 1) := by decide +kernel
theorem dX7_reasonAgainst_86 : decode cX7_reasonAgainst 86 = .ok (.ireturn, 1) := by decide +kernel
theorem dX7_areRehearsed_0 : decode cX7_areRehearsed 0 = .ok (.iconst 0, 1) := by decide +kernel
theorem dX7_areRehearsed_1 : decode cX7_areRehearsed 1 = .ok (.istore 4, 2) := by decide +kernel
theorem dX7_areRehearsed_3 : decode cX7_areRehearsed 3 = .ok (.iload 4, 2) := by decide +kernel
theorem dX7_areRehearsed_5 : decode cX7_areRehearsed 5 = .ok (.aload_n 0, 1) := by decide +kernel
theorem dX7_areRehearsed_6 : decode cX7_areRehearsed 6 = .ok (.getfield 48, 3) := by decide +kernel
theorem dX7_areRehearsed_9 : decode cX7_areRehearsed 9 = .ok (.getfield 113, 3) := by decide +kernel
theorem dX7_areRehearsed_12 : decode cX7_areRehearsed 12 = .ok (.getfield 105, 3) := by decide +kernel
theorem dX7_areRehearsed_15 : decode cX7_areRehearsed 15 = .ok (.if_icmp .ge 41, 3) := by decide +kernel
theorem dX7_areRehearsed_18 : decode cX7_areRehearsed 18 = .ok (.iload_n 2, 1) := by decide +kernel
theorem dX7_areRehearsed_19 : decode cX7_areRehearsed 19 = .ok (.iload 4, 2) := by decide +kernel
theorem dX7_areRehearsed_21 : decode cX7_areRehearsed 21 = .ok (.invokestatic 190, 3) := by decide +kernel
theorem dX7_areRehearsed_24 : decode cX7_areRehearsed 24 = .ok (.ifCond .eq 26, 3) := by decide +kernel
theorem dX7_areRehearsed_27 : decode cX7_areRehearsed 27 = .ok (.aload_n 1, 1) := by decide +kernel
theorem dX7_areRehearsed_28 : decode cX7_areRehearsed 28 = .ok (.iload 4, 2) := by decide +kernel
theorem dX7_areRehearsed_30 : decode cX7_areRehearsed 30 = .ok (.iconst 0, 1) := by decide +kernel
theorem dX7_areRehearsed_31 : decode cX7_areRehearsed 31 = .ok (.iload_n 3, 1) := by decide +kernel
theorem dX7_areRehearsed_32 : decode cX7_areRehearsed 32 = .ok (.invokevirtual 216, 3) := by decide +kernel
theorem dX7_areRehearsed_35 : decode cX7_areRehearsed 35 = .ok (.aload_n 0, 1) := by decide +kernel
theorem dX7_areRehearsed_36 : decode cX7_areRehearsed 36 = .ok (.getfield 48, 3) := by decide +kernel
theorem dX7_areRehearsed_39 : decode cX7_areRehearsed 39 = .ok (.getfield 197, 3) := by decide +kernel
theorem dX7_areRehearsed_42 : decode cX7_areRehearsed 42 = .ok (.iload 4, 2) := by decide +kernel
theorem dX7_areRehearsed_44 : decode cX7_areRehearsed 44 = .ok (.iaload, 1) := by decide +kernel
theorem dX7_areRehearsed_45 : decode cX7_areRehearsed 45 = .ok (.if_icmp .ge 5, 3) := by decide +kernel
theorem dX7_areRehearsed_48 : decode cX7_areRehearsed 48 = .ok (.iconst 0, 1) := by decide +kernel
theorem dX7_areRehearsed_49 : decode cX7_areRehearsed 49 = .ok (.ireturn, 1) := by decide +kernel
theorem dX7_areRehearsed_50 : decode cX7_areRehearsed 50 = .ok (.iinc 4 1, 3) := by decide +kernel
theorem dX7_areRehearsed_53 : decode cX7_areRehearsed 53 = .ok (.goto (-50), 3) := by decide +kernel
theorem dX7_areRehearsed_56 : decode cX7_areRehearsed 56 = .ok (.iconst 1, 1) := by decide +kernel
theorem dX7_areRehearsed_57 : decode cX7_areRehearsed 57 = .ok (.ireturn, 1) := by decide +kernel
theorem dX7_isEveryConcertRehearsed_0 : decode cX7_isEveryConcertRehearsed 0 = .ok (.iconst 0, 1) := by decide +kernel
theorem dX7_isEveryConcertRehearsed_1 : decode cX7_isEveryConcertRehearsed 1 = .ok (.istore_n 2, 1) := by decide +kernel
theorem dX7_isEveryConcertRehearsed_2 : decode cX7_isEveryConcertRehearsed 2 = .ok (.iload_n 2, 1) := by decide +kernel
theorem dX7_isEveryConcertRehearsed_3 : decode cX7_isEveryConcertRehearsed 3 = .ok (.aload_n 1, 1) := by decide +kernel
theorem dX7_isEveryConcertRehearsed_4 : decode cX7_isEveryConcertRehearsed 4 = .ok (.getfield 119, 3) := by decide +kernel
theorem dX7_isEveryConcertRehearsed_7 : decode cX7_isEveryConcertRehearsed 7 = .ok (.if_icmp .ge 39, 3) := by decide +kernel
theorem dX7_isEveryConcertRehearsed_10 : decode cX7_isEveryConcertRehearsed 10 = .ok (.aload_n 1, 1) := by decide +kernel
theorem dX7_isEveryConcertRehearsed_11 : decode cX7_isEveryConcertRehearsed 11 = .ok (.iload_n 2, 1) := by decide +kernel
theorem dX7_isEveryConcertRehearsed_12 : decode cX7_isEveryConcertRehearsed 12 = .ok (.invokevirtual 318, 3) := by decide +kernel
theorem dX7_isEveryConcertRehearsed_15 : decode cX7_isEveryConcertRehearsed 15 = .ok (.ifCond .eq 25, 3) := by decide +kernel
theorem dX7_isEveryConcertRehearsed_18 : decode cX7_isEveryConcertRehearsed 18 = .ok (.aload_n 0, 1) := by decide +kernel
theorem dX7_isEveryConcertRehearsed_19 : decode cX7_isEveryConcertRehearsed 19 = .ok (.aload_n 1, 1) := by decide +kernel
theorem dX7_isEveryConcertRehearsed_20 : decode cX7_isEveryConcertRehearsed 20 = .ok (.aload_n 1, 1) := by decide +kernel
theorem dX7_isEveryConcertRehearsed_21 : decode cX7_isEveryConcertRehearsed 21 = .ok (.getfield 241, 3) := by decide +kernel
theorem dX7_isEveryConcertRehearsed_24 : decode cX7_isEveryConcertRehearsed 24 = .ok (.iload_n 2, 1) := by decide +kernel
theorem dX7_isEveryConcertRehearsed_25 : decode cX7_isEveryConcertRehearsed 25 = .ok (.iaload, 1) := by decide +kernel
theorem dX7_isEveryConcertRehearsed_26 : decode cX7_isEveryConcertRehearsed 26 = .ok (.aload_n 1, 1) := by decide +kernel
theorem dX7_isEveryConcertRehearsed_27 : decode cX7_isEveryConcertRehearsed 27 = .ok (.getfield 233, 3) := by decide +kernel
theorem dX7_isEveryConcertRehearsed_30 : decode cX7_isEveryConcertRehearsed 30 = .ok (.iload_n 2, 1) := by decide +kernel
theorem dX7_isEveryConcertRehearsed_31 : decode cX7_isEveryConcertRehearsed 31 = .ok (.iaload, 1) := by decide +kernel
theorem dX7_isEveryConcertRehearsed_32 : decode cX7_isEveryConcertRehearsed 32 = .ok (.invokevirtual 344, 3) := by decide +kernel
theorem dX7_isEveryConcertRehearsed_35 : decode cX7_isEveryConcertRehearsed 35 = .ok (.ifCond .ne 5, 3) := by decide +kernel
theorem dX7_isEveryConcertRehearsed_38 : decode cX7_isEveryConcertRehearsed 38 = .ok (.iconst 0, 1) := by decide +kernel
theorem dX7_isEveryConcertRehearsed_39 : decode cX7_isEveryConcertRehearsed 39 = .ok (.ireturn, 1) := by decide +kernel
theorem dX7_isEveryConcertRehearsed_40 : decode cX7_isEveryConcertRehearsed 40 = .ok (.iinc 2 1, 3) := by decide +kernel
theorem dX7_isEveryConcertRehearsed_43 : decode cX7_isEveryConcertRehearsed 43 = .ok (.goto (-41), 3) := by decide +kernel
theorem dX7_isEveryConcertRehearsed_46 : decode cX7_isEveryConcertRehearsed 46 = .ok (.iconst 1, 1) := by decide +kernel
theorem dX7_isEveryConcertRehearsed_47 : decode cX7_isEveryConcertRehearsed 47 = .ok (.ireturn, 1) := by decide +kernel
theorem dX7_haveCasts_0 : decode cX7_haveCasts 0 = .ok (.iconst 0, 1) := by decide +kernel
theorem dX7_haveCasts_1 : decode cX7_haveCasts 1 = .ok (.istore_n 3, 1) := by decide +kernel
theorem dX7_haveCasts_2 : decode cX7_haveCasts 2 = .ok (.iload_n 3, 1) := by decide +kernel
theorem dX7_haveCasts_3 : decode cX7_haveCasts 3 = .ok (.aload_n 0, 1) := by decide +kernel
theorem dX7_haveCasts_4 : decode cX7_haveCasts 4 = .ok (.getfield 48, 3) := by decide +kernel
theorem dX7_haveCasts_7 : decode cX7_haveCasts 7 = .ok (.getfield 113, 3) := by decide +kernel
theorem dX7_haveCasts_10 : decode cX7_haveCasts 10 = .ok (.getfield 105, 3) := by decide +kernel
theorem dX7_haveCasts_13 : decode cX7_haveCasts 13 = .ok (.if_icmp .ge 36, 3) := by decide +kernel
theorem dX7_haveCasts_16 : decode cX7_haveCasts 16 = .ok (.iload_n 1, 1) := by decide +kernel
theorem dX7_haveCasts_17 : decode cX7_haveCasts 17 = .ok (.iload_n 3, 1) := by decide +kernel
theorem dX7_haveCasts_18 : decode cX7_haveCasts 18 = .ok (.invokestatic 190, 3) := by decide +kernel
theorem dX7_haveCasts_21 : decode cX7_haveCasts 21 = .ok (.ifCond .eq 22, 3) := by decide +kernel
theorem dX7_haveCasts_24 : decode cX7_haveCasts 24 = .ok (.aload_n 0, 1) := by decide +kernel
theorem dX7_haveCasts_25 : decode cX7_haveCasts 25 = .ok (.getfield 16, 3) := by decide +kernel
theorem dX7_haveCasts_28 : decode cX7_haveCasts 28 = .ok (.aload_n 0, 1) := by decide +kernel
theorem dX7_haveCasts_29 : decode cX7_haveCasts 29 = .ok (.getfield 48, 3) := by decide +kernel
theorem dX7_haveCasts_32 : decode cX7_haveCasts 32 = .ok (.iload_n 3, 1) := by decide +kernel
theorem dX7_haveCasts_33 : decode cX7_haveCasts 33 = .ok (.iload_n 2, 1) := by decide +kernel
theorem dX7_haveCasts_34 : decode cX7_haveCasts 34 = .ok (.invokevirtual 257, 3) := by decide +kernel
theorem dX7_haveCasts_37 : decode cX7_haveCasts 37 = .ok (.iconst (-1), 1) := by decide +kernel
theorem dX7_haveCasts_38 : decode cX7_haveCasts 38 = .ok (.if_icmp .ne 5, 3) := by decide +kernel
theorem dX7_haveCasts_41 : decode cX7_haveCasts 41 = .ok (.iconst 0, 1) := by decide +kernel
theorem dX7_haveCasts_42 : decode cX7_haveCasts 42 = .ok (.ireturn, 1) := by decide +kernel
theorem dX7_haveCasts_43 : decode cX7_haveCasts 43 = .ok (.iinc 3 1, 3) := by decide +kernel
theorem dX7_haveCasts_46 : decode cX7_haveCasts 46 = .ok (.goto (-44), 3) := by decide +kernel
theorem dX7_haveCasts_49 : decode cX7_haveCasts 49 = .ok (.iconst 1, 1) := by decide +kernel
theorem dX7_haveCasts_50 : decode cX7_haveCasts 50 = .ok (.ireturn, 1) := by decide +kernel
theorem dX7_requirePlaceAndWorks_0 : decode cX7_requirePlaceAndWorks 0 = .ok (.aload_n 0, 1) := by decide +kernel
theorem dX7_requirePlaceAndWorks_1 : decode cX7_requirePlaceAndWorks 1 = .ok (.iload_n 1, 1) := by decide +kernel
theorem dX7_requirePlaceAndWorks_2 : decode cX7_requirePlaceAndWorks 2 = .ok (.invokevirtual 142, 3) := by decide +kernel
theorem dX7_requirePlaceAndWorks_5 : decode cX7_requirePlaceAndWorks 5 = .ok (.aload_n 0, 1) := by decide +kernel
theorem dX7_requirePlaceAndWorks_6 : decode cX7_requirePlaceAndWorks 6 = .ok (.iload_n 2, 1) := by decide +kernel
theorem dX7_requirePlaceAndWorks_7 : decode cX7_requirePlaceAndWorks 7 = .ok (.invokevirtual 183, 3) := by decide +kernel
theorem dX7_requirePlaceAndWorks_10 : decode cX7_requirePlaceAndWorks 10 = .ok (.iload_n 3, 1) := by decide +kernel
theorem dX7_requirePlaceAndWorks_11 : decode cX7_requirePlaceAndWorks 11 = .ok (.aload_n 0, 1) := by decide +kernel
theorem dX7_requirePlaceAndWorks_12 : decode cX7_requirePlaceAndWorks 12 = .ok (.getfield 48, 3) := by decide +kernel
theorem dX7_requirePlaceAndWorks_15 : decode cX7_requirePlaceAndWorks 15 = .ok (.getfield 113, 3) := by decide +kernel
theorem dX7_requirePlaceAndWorks_18 : decode cX7_requirePlaceAndWorks 18 = .ok (.getfield 105, 3) := by decide +kernel
theorem dX7_requirePlaceAndWorks_21 : decode cX7_requirePlaceAndWorks 21 = .ok (.invokestatic 351, 3) := by decide +kernel
theorem dX7_requirePlaceAndWorks_24 : decode cX7_requirePlaceAndWorks 24 = .ok (.iconst (-1), 1) := by decide +kernel
theorem dX7_requirePlaceAndWorks_25 : decode cX7_requirePlaceAndWorks 25 = .ok (.ixor, 1) := by decide +kernel
theorem dX7_requirePlaceAndWorks_26 : decode cX7_requirePlaceAndWorks 26 = .ok (.iand, 1) := by decide +kernel
theorem dX7_requirePlaceAndWorks_27 : decode cX7_requirePlaceAndWorks 27 = .ok (.ifCond .ne 7, 3) := by decide +kernel
theorem dX7_requirePlaceAndWorks_30 : decode cX7_requirePlaceAndWorks 30 = .ok (.iconst 1, 1) := by decide +kernel
theorem dX7_requirePlaceAndWorks_31 : decode cX7_requirePlaceAndWorks 31 = .ok (.goto 4, 3) := by decide +kernel
theorem dX7_requirePlaceAndWorks_34 : decode cX7_requirePlaceAndWorks 34 = .ok (.iconst 0, 1) := by decide +kernel
theorem dX7_requirePlaceAndWorks_35 : decode cX7_requirePlaceAndWorks 35 = .ok (.invokestatic 62, 3) := by decide +kernel
theorem dX7_requirePlaceAndWorks_38 : decode cX7_requirePlaceAndWorks 38 = .ok (.iload_n 3, 1) := by decide +kernel
theorem dX7_requirePlaceAndWorks_39 : decode cX7_requirePlaceAndWorks 39 = .ok (.invokestatic 354, 3) := by decide +kernel
theorem dX7_requirePlaceAndWorks_42 : decode cX7_requirePlaceAndWorks 42 = .ok (.istore 5, 2) := by decide +kernel
theorem dX7_requirePlaceAndWorks_44 : decode cX7_requirePlaceAndWorks 44 = .ok (.iload 5, 2) := by decide +kernel
theorem dX7_requirePlaceAndWorks_46 : decode cX7_requirePlaceAndWorks 46 = .ok (.iconst 1, 1) := by decide +kernel
theorem dX7_requirePlaceAndWorks_47 : decode cX7_requirePlaceAndWorks 47 = .ok (.if_icmp .lt 22, 3) := by decide +kernel
theorem dX7_requirePlaceAndWorks_50 : decode cX7_requirePlaceAndWorks 50 = .ok (.iload 5, 2) := by decide +kernel
theorem dX7_requirePlaceAndWorks_52 : decode cX7_requirePlaceAndWorks 52 = .ok (.iload 4, 2) := by decide +kernel
theorem dX7_requirePlaceAndWorks_54 : decode cX7_requirePlaceAndWorks 54 = .ok (.ifCond .eq 7, 3) := by decide +kernel
theorem dX7_requirePlaceAndWorks_57 : decode cX7_requirePlaceAndWorks 57 = .ok (.iconst 3, 1) := by decide +kernel
theorem dX7_requirePlaceAndWorks_58 : decode cX7_requirePlaceAndWorks 58 = .ok (.goto 4, 3) := by decide +kernel
theorem dX7_requirePlaceAndWorks_61 : decode cX7_requirePlaceAndWorks 61 = .ok (.iconst 1, 1) := by decide +kernel
theorem dX7_requirePlaceAndWorks_62 : decode cX7_requirePlaceAndWorks 62 = .ok (.if_icmp .gt 7, 3) := by decide +kernel
theorem dX7_requirePlaceAndWorks_65 : decode cX7_requirePlaceAndWorks 65 = .ok (.iconst 1, 1) := by decide +kernel
theorem dX7_requirePlaceAndWorks_66 : decode cX7_requirePlaceAndWorks 66 = .ok (.goto 4, 3) := by decide +kernel
theorem dX7_requirePlaceAndWorks_69 : decode cX7_requirePlaceAndWorks 69 = .ok (.iconst 0, 1) := by decide +kernel
theorem dX7_requirePlaceAndWorks_70 : decode cX7_requirePlaceAndWorks 70 = .ok (.invokestatic 62, 3) := by decide +kernel
theorem dX7_requirePlaceAndWorks_73 : decode cX7_requirePlaceAndWorks 73 = .ok (.return_, 1) := by decide +kernel
theorem dX7_requireHall_0 : decode cX7_requireHall 0 = .ok (.iload_n 1, 1) := by decide +kernel
theorem dX7_requireHall_1 : decode cX7_requireHall 1 = .ok (.aload_n 0, 1) := by decide +kernel
theorem dX7_requireHall_2 : decode cX7_requireHall 2 = .ok (.getfield 48, 3) := by decide +kernel
theorem dX7_requireHall_5 : decode cX7_requireHall 5 = .ok (.getfield 101, 3) := by decide +kernel
theorem dX7_requireHall_8 : decode cX7_requireHall 8 = .ok (.getfield 105, 3) := by decide +kernel
theorem dX7_requireHall_11 : decode cX7_requireHall 11 = .ok (.invokestatic 312, 3) := by decide +kernel
theorem dX7_requireHall_14 : decode cX7_requireHall 14 = .ok (.return_, 1) := by decide +kernel
theorem dX7_requireSlot_0 : decode cX7_requireSlot 0 = .ok (.iload_n 1, 1) := by decide +kernel
theorem dX7_requireSlot_1 : decode cX7_requireSlot 1 = .ok (.aload_n 0, 1) := by decide +kernel
theorem dX7_requireSlot_2 : decode cX7_requireSlot 2 = .ok (.getfield 48, 3) := by decide +kernel
theorem dX7_requireSlot_5 : decode cX7_requireSlot 5 = .ok (.invokevirtual 212, 3) := by decide +kernel
theorem dX7_requireSlot_8 : decode cX7_requireSlot 8 = .ok (.invokestatic 312, 3) := by decide +kernel
theorem dX7_requireSlot_11 : decode cX7_requireSlot 11 = .ok (.return_, 1) := by decide +kernel
theorem dX7_requirePlayer_0 : decode cX7_requirePlayer 0 = .ok (.iload_n 1, 1) := by decide +kernel
theorem dX7_requirePlayer_1 : decode cX7_requirePlayer 1 = .ok (.aload_n 0, 1) := by decide +kernel
theorem dX7_requirePlayer_2 : decode cX7_requirePlayer 2 = .ok (.getfield 48, 3) := by decide +kernel
theorem dX7_requirePlayer_5 : decode cX7_requirePlayer 5 = .ok (.getfield 110, 3) := by decide +kernel
theorem dX7_requirePlayer_8 : decode cX7_requirePlayer 8 = .ok (.getfield 105, 3) := by decide +kernel
theorem dX7_requirePlayer_11 : decode cX7_requirePlayer 11 = .ok (.invokestatic 312, 3) := by decide +kernel
theorem dX7_requirePlayer_14 : decode cX7_requirePlayer 14 = .ok (.return_, 1) := by decide +kernel
theorem dX7_requireWork_0 : decode cX7_requireWork 0 = .ok (.iload_n 1, 1) := by decide +kernel
theorem dX7_requireWork_1 : decode cX7_requireWork 1 = .ok (.aload_n 0, 1) := by decide +kernel
theorem dX7_requireWork_2 : decode cX7_requireWork 2 = .ok (.getfield 48, 3) := by decide +kernel
theorem dX7_requireWork_5 : decode cX7_requireWork 5 = .ok (.getfield 113, 3) := by decide +kernel
theorem dX7_requireWork_8 : decode cX7_requireWork 8 = .ok (.getfield 105, 3) := by decide +kernel
theorem dX7_requireWork_11 : decode cX7_requireWork 11 = .ok (.invokestatic 312, 3) := by decide +kernel
theorem dX7_requireWork_14 : decode cX7_requireWork 14 = .ok (.return_, 1) := by decide +kernel
theorem dX7_requireSeat_0 : decode cX7_requireSeat 0 = .ok (.iload_n 2, 1) := by decide +kernel
theorem dX7_requireSeat_1 : decode cX7_requireSeat 1 = .ok (.aload_n 0, 1) := by decide +kernel
theorem dX7_requireSeat_2 : decode cX7_requireSeat 2 = .ok (.getfield 48, 3) := by decide +kernel
theorem dX7_requireSeat_5 : decode cX7_requireSeat 5 = .ok (.getfield 209, 3) := by decide +kernel
theorem dX7_requireSeat_8 : decode cX7_requireSeat 8 = .ok (.iload_n 1, 1) := by decide +kernel
theorem dX7_requireSeat_9 : decode cX7_requireSeat 9 = .ok (.iaload, 1) := by decide +kernel
theorem dX7_requireSeat_10 : decode cX7_requireSeat 10 = .ok (.invokestatic 312, 3) := by decide +kernel
theorem dX7_requireSeat_13 : decode cX7_requireSeat 13 = .ok (.return_, 1) := by decide +kernel
theorem dX7_requireService_0 : decode cX7_requireService 0 = .ok (.iload_n 1, 1) := by decide +kernel
theorem dX7_requireService_1 : decode cX7_requireService 1 = .ok (.aload_n 0, 1) := by decide +kernel
theorem dX7_requireService_2 : decode cX7_requireService 2 = .ok (.getfield 23, 3) := by decide +kernel
theorem dX7_requireService_5 : decode cX7_requireService 5 = .ok (.getfield 119, 3) := by decide +kernel
theorem dX7_requireService_8 : decode cX7_requireService 8 = .ok (.invokestatic 312, 3) := by decide +kernel
theorem dX7_requireService_11 : decode cX7_requireService 11 = .ok (.return_, 1) := by decide +kernel
theorem dX7_requireIndex_0 : decode cX7_requireIndex 0 = .ok (.iload_n 0, 1) := by decide +kernel
theorem dX7_requireIndex_1 : decode cX7_requireIndex 1 = .ok (.ifCond .lt 8, 3) := by decide +kernel
theorem dX7_requireIndex_4 : decode cX7_requireIndex 4 = .ok (.iload_n 0, 1) := by decide +kernel
theorem dX7_requireIndex_5 : decode cX7_requireIndex 5 = .ok (.iload_n 1, 1) := by decide +kernel
theorem dX7_requireIndex_6 : decode cX7_requireIndex 6 = .ok (.if_icmp .lt 11, 3) := by decide +kernel
theorem dX7_requireIndex_9 : decode cX7_requireIndex 9 = .ok (.new 359, 3) := by decide +kernel
theorem dX7_requireIndex_12 : decode cX7_requireIndex 12 = .ok (.dup, 1) := by decide +kernel
theorem dX7_requireIndex_13 : decode cX7_requireIndex 13 = .ok (.invokespecial 361, 3) := by decide +kernel
theorem dX7_requireIndex_16 : decode cX7_requireIndex 16 = .ok (.athrow, 1) := by decide +kernel
theorem dX7_requireIndex_17 : decode cX7_requireIndex 17 = .ok (.return_, 1) := by decide +kernel
theorem dX7_requireArgument_0 : decode cX7_requireArgument 0 = .ok (.iload_n 0, 1) := by decide +kernel
theorem dX7_requireArgument_1 : decode cX7_requireArgument 1 = .ok (.ifCond .ne 11, 3) := by decide +kernel
theorem dX7_requireArgument_4 : decode cX7_requireArgument 4 = .ok (.new 123, 3) := by decide +kernel
theorem dX7_requireArgument_7 : decode cX7_requireArgument 7 = .ok (.dup, 1) := by decide +kernel
theorem dX7_requireArgument_8 : decode cX7_requireArgument 8 = .ok (.invokespecial 125, 3) := by decide +kernel
theorem dX7_requireArgument_11 : decode cX7_requireArgument 11 = .ok (.athrow, 1) := by decide +kernel
theorem dX7_requireArgument_12 : decode cX7_requireArgument 12 = .ok (.return_, 1) := by decide +kernel
theorem dX7_requireState_0 : decode cX7_requireState 0 = .ok (.iload_n 0, 1) := by decide +kernel
theorem dX7_requireState_1 : decode cX7_requireState 1 = .ok (.ifCond .ne 11, 3) := by decide +kernel
theorem dX7_requireState_4 : decode cX7_requireState 4 = .ok (.new 362, 3) := by decide +kernel
theorem dX7_requireState_7 : decode cX7_requireState 7 = .ok (.dup, 1) := by decide +kernel
theorem dX7_requireState_8 : decode cX7_requireState 8 = .ok (.invokespecial 364, 3) := by decide +kernel
theorem dX7_requireState_11 : decode cX7_requireState 11 = .ok (.athrow, 1) := by decide +kernel
theorem dX7_requireState_12 : decode cX7_requireState 12 = .ok (.return_, 1) := by decide +kernel
theorem dX7_has_0 : decode cX7_has 0 = .ok (.iload_n 0, 1) := by decide +kernel
theorem dX7_has_1 : decode cX7_has 1 = .ok (.iload_n 1, 1) := by decide +kernel
theorem dX7_has_2 : decode cX7_has 2 = .ok (.ishr, 1) := by decide +kernel
theorem dX7_has_3 : decode cX7_has 3 = .ok (.iconst 1, 1) := by decide +kernel
theorem dX7_has_4 : decode cX7_has 4 = .ok (.iand, 1) := by decide +kernel
theorem dX7_has_5 : decode cX7_has 5 = .ok (.ifCond .eq 7, 3) := by decide +kernel
theorem dX7_has_8 : decode cX7_has 8 = .ok (.iconst 1, 1) := by decide +kernel
theorem dX7_has_9 : decode cX7_has 9 = .ok (.goto 4, 3) := by decide +kernel
theorem dX7_has_12 : decode cX7_has 12 = .ok (.iconst 0, 1) := by decide +kernel
theorem dX7_has_13 : decode cX7_has 13 = .ok (.ireturn, 1) := by decide +kernel
theorem dX7_firstBits_0 : decode cX7_firstBits 0 = .ok (.iconst 1, 1) := by decide +kernel
theorem dX7_firstBits_1 : decode cX7_firstBits 1 = .ok (.iload_n 0, 1) := by decide +kernel
theorem dX7_firstBits_2 : decode cX7_firstBits 2 = .ok (.ishl, 1) := by decide +kernel
theorem dX7_firstBits_3 : decode cX7_firstBits 3 = .ok (.iconst 1, 1) := by decide +kernel
theorem dX7_firstBits_4 : decode cX7_firstBits 4 = .ok (.isub, 1) := by decide +kernel
theorem dX7_firstBits_5 : decode cX7_firstBits 5 = .ok (.ireturn, 1) := by decide +kernel
theorem dX7_isLetter_0 : decode cX7_isLetter 0 = .ok (.iload_n 0, 1) := by decide +kernel
theorem dX7_isLetter_1 : decode cX7_isLetter 1 = .ok (.bipush 97, 2) := by decide +kernel
theorem dX7_isLetter_3 : decode cX7_isLetter 3 = .ok (.if_icmp .lt 13, 3) := by decide +kernel
theorem dX7_isLetter_6 : decode cX7_isLetter 6 = .ok (.iload_n 0, 1) := by decide +kernel
theorem dX7_isLetter_7 : decode cX7_isLetter 7 = .ok (.bipush 122, 2) := by decide +kernel
theorem dX7_isLetter_9 : decode cX7_isLetter 9 = .ok (.if_icmp .gt 7, 3) := by decide +kernel
theorem dX7_isLetter_12 : decode cX7_isLetter 12 = .ok (.iconst 1, 1) := by decide +kernel
theorem dX7_isLetter_13 : decode cX7_isLetter 13 = .ok (.goto 4, 3) := by decide +kernel
theorem dX7_isLetter_16 : decode cX7_isLetter 16 = .ok (.iconst 0, 1) := by decide +kernel
theorem dX7_isLetter_17 : decode cX7_isLetter 17 = .ok (.ireturn, 1) := by decide +kernel
theorem dX7_isDigit_0 : decode cX7_isDigit 0 = .ok (.iload_n 0, 1) := by decide +kernel
theorem dX7_isDigit_1 : decode cX7_isDigit 1 = .ok (.bipush 48, 2) := by decide +kernel
theorem dX7_isDigit_3 : decode cX7_isDigit 3 = .ok (.if_icmp .lt 13, 3) := by decide +kernel
theorem dX7_isDigit_6 : decode cX7_isDigit 6 = .ok (.iload_n 0, 1) := by decide +kernel
theorem dX7_isDigit_7 : decode cX7_isDigit 7 = .ok (.bipush 57, 2) := by decide +kernel
theorem dX7_isDigit_9 : decode cX7_isDigit 9 = .ok (.if_icmp .gt 7, 3) := by decide +kernel
theorem dX7_isDigit_12 : decode cX7_isDigit 12 = .ok (.iconst 1, 1) := by decide +kernel
theorem dX7_isDigit_13 : decode cX7_isDigit 13 = .ok (.goto 4, 3) := by decide +kernel
theorem dX7_isDigit_16 : decode cX7_isDigit 16 = .ok (.iconst 0, 1) := by decide +kernel
theorem dX7_isDigit_17 : decode cX7_isDigit 17 = .ok (.ireturn, 1) := by decide +kernel
theorem dX7_withLetter_0 : decode cX7_withLetter 0 = .ok (.lload_n 0, 1) := by decide +kernel
theorem dX7_withLetter_1 : decode cX7_withLetter 1 = .ok (.iconst 5, 1) := by decide +kernel
theorem dX7_withLetter_2 : decode cX7_withLetter 2 = .ok (.lshl, 1) := by decide +kernel
theorem dX7_withLetter_3 : decode cX7_withLetter 3 = .ok (.iload_n 2, 1) := by decide +kernel
theorem dX7_withLetter_4 : decode cX7_withLetter 4 = .ok (.bipush 97, 2) := by decide +kernel
theorem dX7_withLetter_6 : decode cX7_withLetter 6 = .ok (.isub, 1) := by decide +kernel
theorem dX7_withLetter_7 : decode cX7_withLetter 7 = .ok (.iconst 1, 1) := by decide +kernel
theorem dX7_withLetter_8 : decode cX7_withLetter 8 = .ok (.iadd, 1) := by decide +kernel
theorem dX7_withLetter_9 : decode cX7_withLetter 9 = .ok (.i2l, 1) := by decide +kernel
theorem dX7_withLetter_10 : decode cX7_withLetter 10 = .ok (.lor, 1) := by decide +kernel
theorem dX7_withLetter_11 : decode cX7_withLetter 11 = .ok (.lreturn, 1) := by decide +kernel
theorem dX7_codeOf_0 : decode cX7_codeOf 0 = .ok (.lconst 0, 1) := by decide +kernel
theorem dX7_codeOf_1 : decode cX7_codeOf 1 = .ok (.lstore_n 1, 1) := by decide +kernel
theorem dX7_codeOf_2 : decode cX7_codeOf 2 = .ok (.iconst 0, 1) := by decide +kernel
theorem dX7_codeOf_3 : decode cX7_codeOf 3 = .ok (.istore_n 3, 1) := by decide +kernel
theorem dX7_codeOf_4 : decode cX7_codeOf 4 = .ok (.iload_n 3, 1) := by decide +kernel
theorem dX7_codeOf_5 : decode cX7_codeOf 5 = .ok (.aload_n 0, 1) := by decide +kernel
theorem dX7_codeOf_6 : decode cX7_codeOf 6 = .ok (.invokevirtual 365, 3) := by decide +kernel
theorem dX7_codeOf_9 : decode cX7_codeOf 9 = .ok (.if_icmp .ge 19, 3) := by decide +kernel
theorem dX7_codeOf_12 : decode cX7_codeOf 12 = .ok (.lload_n 1, 1) := by decide +kernel
theorem dX7_codeOf_13 : decode cX7_codeOf 13 = .ok (.aload_n 0, 1) := by decide +kernel
theorem dX7_codeOf_14 : decode cX7_codeOf 14 = .ok (.iload_n 3, 1) := by decide +kernel
theorem dX7_codeOf_15 : decode cX7_codeOf 15 = .ok (.invokevirtual 370, 3) := by decide +kernel
theorem dX7_codeOf_18 : decode cX7_codeOf 18 = .ok (.invokestatic 138, 3) := by decide +kernel
theorem dX7_codeOf_21 : decode cX7_codeOf 21 = .ok (.lstore_n 1, 1) := by decide +kernel
theorem dX7_codeOf_22 : decode cX7_codeOf 22 = .ok (.iinc 3 1, 3) := by decide +kernel
theorem dX7_codeOf_25 : decode cX7_codeOf 25 = .ok (.goto (-21), 3) := by decide +kernel
theorem dX7_codeOf_28 : decode cX7_codeOf 28 = .ok (.lload_n 1, 1) := by decide +kernel
theorem dX7_codeOf_29 : decode cX7_codeOf 29 = .ok (.lreturn, 1) := by decide +kernel
