theorem dX8_init_0 : decode cX8_init 0 = .ok (.aload_n 0, 1) := by decide +kernel
theorem dX8_init_1 : decode cX8_init 1 = .ok (.invokespecial 1, 3) := by decide +kernel
theorem dX8_init_4 : decode cX8_init 4 = .ok (.aload_n 0, 1) := by decide +kernel
theorem dX8_init_5 : decode cX8_init 5 = .ok (.bipush 120, 2) := by decide +kernel
theorem dX8_init_7 : decode cX8_init 7 = .ok (.newarray .int, 2) := by decide +kernel
theorem dX8_init_9 : decode cX8_init 9 = .ok (.putfield 7, 3) := by decide +kernel
theorem dX8_init_12 : decode cX8_init 12 = .ok (.aload_n 0, 1) := by decide +kernel
theorem dX8_init_13 : decode cX8_init 13 = .ok (.sipush 689, 3) := by decide +kernel
theorem dX8_init_16 : decode cX8_init 16 = .ok (.newarray .int, 2) := by decide +kernel
theorem dX8_init_18 : decode cX8_init 18 = .ok (.putfield 13, 3) := by decide +kernel
theorem dX8_init_21 : decode cX8_init 21 = .ok (.aload_n 0, 1) := by decide +kernel
theorem dX8_init_22 : decode cX8_init 22 = .ok (.bipush 32, 2) := by decide +kernel
theorem dX8_init_24 : decode cX8_init 24 = .ok (.newarray .long, 2) := by decide +kernel
theorem dX8_init_26 : decode cX8_init 26 = .ok (.putfield 16, 3) := by decide +kernel
theorem dX8_init_29 : decode cX8_init 29 = .ok (.aload_n 0, 1) := by decide +kernel
theorem dX8_init_30 : decode cX8_init 30 = .ok (.sipush 600, 3) := by decide +kernel
theorem dX8_init_33 : decode cX8_init 33 = .ok (.newarray .byte, 2) := by decide +kernel
theorem dX8_init_35 : decode cX8_init 35 = .ok (.putfield 20, 3) := by decide +kernel
theorem dX8_init_38 : decode cX8_init 38 = .ok (.aload_n 0, 1) := by decide +kernel
theorem dX8_init_39 : decode cX8_init 39 = .ok (.iconst (-1), 1) := by decide +kernel
theorem dX8_init_40 : decode cX8_init 40 = .ok (.putfield 24, 3) := by decide +kernel
theorem dX8_init_43 : decode cX8_init 43 = .ok (.aload_n 0, 1) := by decide +kernel
theorem dX8_init_44 : decode cX8_init 44 = .ok (.bipush 120, 2) := by decide +kernel
theorem dX8_init_46 : decode cX8_init 46 = .ok (.newarray .int, 2) := by decide +kernel
theorem dX8_init_48 : decode cX8_init 48 = .ok (.putfield 28, 3) := by decide +kernel
theorem dX8_init_51 : decode cX8_init 51 = .ok (.aload_n 0, 1) := by decide +kernel
theorem dX8_init_52 : decode cX8_init 52 = .ok (.bipush 8, 2) := by decide +kernel
theorem dX8_init_54 : decode cX8_init 54 = .ok (.newarray .int, 2) := by decide +kernel
theorem dX8_init_56 : decode cX8_init 56 = .ok (.putfield 31, 3) := by decide +kernel
theorem dX8_init_59 : decode cX8_init 59 = .ok (.aload_n 0, 1) := by decide +kernel
theorem dX8_init_60 : decode cX8_init 60 = .ok (.bipush 32, 2) := by decide +kernel
theorem dX8_init_62 : decode cX8_init 62 = .ok (.newarray .long, 2) := by decide +kernel
theorem dX8_init_64 : decode cX8_init 64 = .ok (.putfield 34, 3) := by decide +kernel
theorem dX8_init_67 : decode cX8_init 67 = .ok (.aload_n 0, 1) := by decide +kernel
theorem dX8_init_68 : decode cX8_init 68 = .ok (.bipush 6, 2) := by decide +kernel
theorem dX8_init_70 : decode cX8_init 70 = .ok (.newarray .int, 2) := by decide +kernel
theorem dX8_init_72 : decode cX8_init 72 = .ok (.putfield 37, 3) := by decide +kernel
theorem dX8_init_75 : decode cX8_init 75 = .ok (.aload_n 0, 1) := by decide +kernel
theorem dX8_init_76 : decode cX8_init 76 = .ok (.bipush 6, 2) := by decide +kernel
theorem dX8_init_78 : decode cX8_init 78 = .ok (.newarray .int, 2) := by decide +kernel
theorem dX8_init_80 : decode cX8_init 80 = .ok (.putfield 40, 3) := by decide +kernel
theorem dX8_init_83 : decode cX8_init 83 = .ok (.aload_n 0, 1) := by decide +kernel
theorem dX8_init_84 : decode cX8_init 84 = .ok (.sipush 689, 3) := by decide +kernel
theorem dX8_init_87 : decode cX8_init 87 = .ok (.newarray .int, 2) := by decide +kernel
theorem dX8_init_89 : decode cX8_init 89 = .ok (.putfield 43, 3) := by decide +kernel
theorem dX8_init_92 : decode cX8_init 92 = .ok (.aload_n 0, 1) := by decide +kernel
theorem dX8_init_93 : decode cX8_init 93 = .ok (.sipush 6890, 3) := by decide +kernel
theorem dX8_init_96 : decode cX8_init 96 = .ok (.newarray .int, 2) := by decide +kernel
theorem dX8_init_98 : decode cX8_init 98 = .ok (.putfield 46, 3) := by decide +kernel
theorem dX8_init_101 : decode cX8_init 101 = .ok (.aload_n 0, 1) := by decide +kernel
theorem dX8_init_102 : decode cX8_init 102 = .ok (.sipush 1378, 3) := by decide +kernel
theorem dX8_init_105 : decode cX8_init 105 = .ok (.newarray .int, 2) := by decide +kernel
theorem dX8_init_107 : decode cX8_init 107 = .ok (.putfield 49, 3) := by decide +kernel
theorem dX8_init_110 : decode cX8_init 110 = .ok (.aload_n 0, 1) := by decide +kernel
theorem dX8_init_111 : decode cX8_init 111 = .ok (.iconst 2, 1) := by decide +kernel
theorem dX8_init_112 : decode cX8_init 112 = .ok (.newarray .boolean, 2) := by decide +kernel
theorem dX8_init_114 : decode cX8_init 114 = .ok (.putfield 52, 3) := by decide +kernel
theorem dX8_init_117 : decode cX8_init 117 = .ok (.aload_n 0, 1) := by decide +kernel
theorem dX8_init_118 : decode cX8_init 118 = .ok (.getfield 7, 3) := by decide +kernel
theorem dX8_init_121 : decode cX8_init 121 = .ok (.iconst 0, 1) := by decide +kernel
theorem dX8_init_122 : decode cX8_init 122 = .ok (.iconst 1, 1) := by decide +kernel
theorem dX8_init_123 : decode cX8_init 123 = .ok (.iastore, 1) := by decide +kernel
theorem dX8_init_124 : decode cX8_init 124 = .ok (.return_, 1) := by decide +kernel
theorem dX8_thrown_0 : decode cX8_thrown 0 = .ok (.aload_n 0, 1) := by decide +kernel
theorem dX8_thrown_1 : decode cX8_thrown 1 = .ok (.getfield 56, 3) := by decide +kernel
theorem dX8_thrown_4 : decode cX8_thrown 4 = .ok (.ireturn, 1) := by decide +kernel
theorem dX8_within_0 : decode cX8_within 0 = .ok (.iload_n 0, 1) := by decide +kernel
theorem dX8_within_1 : decode cX8_within 1 = .ok (.iload_n 1, 1) := by decide +kernel
theorem dX8_within_2 : decode cX8_within 2 = .ok (.if_icmp .lt 12, 3) := by decide +kernel
theorem dX8_within_5 : decode cX8_within 5 = .ok (.iload_n 0, 1) := by decide +kernel
theorem dX8_within_6 : decode cX8_within 6 = .ok (.iload_n 2, 1) := by decide +kernel
theorem dX8_within_7 : decode cX8_within 7 = .ok (.if_icmp .gt 7, 3) := by decide +kernel
theorem dX8_within_10 : decode cX8_within 10 = .ok (.iconst 1, 1) := by decide +kernel
theorem dX8_within_11 : decode cX8_within 11 = .ok (.goto 4, 3) := by decide +kernel
theorem dX8_within_14 : decode cX8_within 14 = .ok (.iconst 0, 1) := by decide +kernel
theorem dX8_within_15 : decode cX8_within 15 = .ok (.ireturn, 1) := by decide +kernel
theorem dX8_throwsIf_0 : decode cX8_throwsIf 0 = .ok (.aload_n 0, 1) := by decide +kernel
theorem dX8_throwsIf_1 : decode cX8_throwsIf 1 = .ok (.getfield 56, 3) := by decide +kernel
theorem dX8_throwsIf_4 : decode cX8_throwsIf 4 = .ok (.ifCond .ne 12, 3) := by decide +kernel
theorem dX8_throwsIf_7 : decode cX8_throwsIf 7 = .ok (.iload_n 1, 1) := by decide +kernel
theorem dX8_throwsIf_8 : decode cX8_throwsIf 8 = .ok (.ifCond .eq 8, 3) := by decide +kernel
theorem dX8_throwsIf_11 : decode cX8_throwsIf 11 = .ok (.aload_n 0, 1) := by decide +kernel
theorem dX8_throwsIf_12 : decode cX8_throwsIf 12 = .ok (.iload_n 2, 1) := by decide +kernel
theorem dX8_throwsIf_13 : decode cX8_throwsIf 13 = .ok (.putfield 56, 3) := by decide +kernel
theorem dX8_throwsIf_16 : decode cX8_throwsIf 16 = .ok (.aload_n 0, 1) := by decide +kernel
theorem dX8_throwsIf_17 : decode cX8_throwsIf 17 = .ok (.getfield 56, 3) := by decide +kernel
theorem dX8_throwsIf_20 : decode cX8_throwsIf 20 = .ok (.ifCond .le 7, 3) := by decide +kernel
theorem dX8_throwsIf_23 : decode cX8_throwsIf 23 = .ok (.iconst 1, 1) := by decide +kernel
theorem dX8_throwsIf_24 : decode cX8_throwsIf 24 = .ok (.goto 4, 3) := by decide +kernel
theorem dX8_throwsIf_27 : decode cX8_throwsIf 27 = .ok (.iconst 0, 1) := by decide +kernel
theorem dX8_throwsIf_28 : decode cX8_throwsIf 28 = .ok (.ireturn, 1) := by decide +kernel
theorem dX8_append_0 : decode cX8_append 0 = .ok (.aload_n 0, 1) := by decide +kernel
theorem dX8_append_1 : decode cX8_append 1 = .ok (.iconst 0, 1) := by decide +kernel
theorem dX8_append_2 : decode cX8_append 2 = .ok (.putfield 56, 3) := by decide +kernel
theorem dX8_append_5 : decode cX8_append 5 = .ok (.aload_n 0, 1) := by decide +kernel
theorem dX8_append_6 : decode cX8_append 6 = .ok (.getfield 59, 3) := by decide +kernel
theorem dX8_append_9 : decode cX8_append 9 = .ok (.bipush 20, 2) := by decide +kernel
theorem dX8_append_11 : decode cX8_append 11 = .ok (.iadd, 1) := by decide +kernel
theorem dX8_append_12 : decode cX8_append 12 = .ok (.sipush 600, 3) := by decide +kernel
theorem dX8_append_15 : decode cX8_append 15 = .ok (.if_icmp .le 5, 3) := by decide +kernel
theorem dX8_append_18 : decode cX8_append 18 = .ok (.iconst (-1), 1) := by decide +kernel
theorem dX8_append_19 : decode cX8_append 19 = .ok (.ireturn, 1) := by decide +kernel
theorem dX8_append_20 : decode cX8_append 20 = .ok (.aload_n 0, 1) := by decide +kernel
theorem dX8_append_21 : decode cX8_append 21 = .ok (.iload_n 1, 1) := by decide +kernel
theorem dX8_append_22 : decode cX8_append 22 = .ok (.invokevirtual 62, 3) := by decide +kernel
theorem dX8_append_25 : decode cX8_append 25 = .ok (.aload_n 0, 1) := by decide +kernel
theorem dX8_append_26 : decode cX8_append 26 = .ok (.iload_n 2, 1) := by decide +kernel
theorem dX8_append_27 : decode cX8_append 27 = .ok (.invokevirtual 62, 3) := by decide +kernel
theorem dX8_append_30 : decode cX8_append 30 = .ok (.aload_n 0, 1) := by decide +kernel
theorem dX8_append_31 : decode cX8_append 31 = .ok (.iload_n 3, 1) := by decide +kernel
theorem dX8_append_32 : decode cX8_append 32 = .ok (.invokevirtual 62, 3) := by decide +kernel
theorem dX8_append_35 : decode cX8_append 35 = .ok (.aload_n 0, 1) := by decide +kernel
theorem dX8_append_36 : decode cX8_append 36 = .ok (.iload 4, 2) := by decide +kernel
theorem dX8_append_38 : decode cX8_append 38 = .ok (.invokevirtual 62, 3) := by decide +kernel
theorem dX8_append_41 : decode cX8_append 41 = .ok (.aload_n 0, 1) := by decide +kernel
theorem dX8_append_42 : decode cX8_append 42 = .ok (.iload 5, 2) := by decide +kernel
theorem dX8_append_44 : decode cX8_append 44 = .ok (.invokevirtual 62, 3) := by decide +kernel
theorem dX8_append_47 : decode cX8_append 47 = .ok (.aload_n 0, 1) := by decide +kernel
theorem dX8_append_48 : decode cX8_append 48 = .ok (.getfield 59, 3) := by decide +kernel
theorem dX8_append_51 : decode cX8_append 51 = .ok (.ireturn, 1) := by decide +kernel
theorem dX8_bytesOf_0 : decode cX8_bytesOf 0 = .ok (.bipush 24, 2) := by decide +kernel
theorem dX8_bytesOf_2 : decode cX8_bytesOf 2 = .ok (.istore_n 2, 1) := by decide +kernel
theorem dX8_bytesOf_3 : decode cX8_bytesOf 3 = .ok (.iload_n 2, 1) := by decide +kernel
theorem dX8_bytesOf_4 : decode cX8_bytesOf 4 = .ok (.ifCond .lt 32, 3) := by decide +kernel
theorem dX8_bytesOf_7 : decode cX8_bytesOf 7 = .ok (.aload_n 0, 1) := by decide +kernel
theorem dX8_bytesOf_8 : decode cX8_bytesOf 8 = .ok (.getfield 20, 3) := by decide +kernel
theorem dX8_bytesOf_11 : decode cX8_bytesOf 11 = .ok (.aload_n 0, 1) := by decide +kernel
theorem dX8_bytesOf_12 : decode cX8_bytesOf 12 = .ok (.getfield 59, 3) := by decide +kernel
theorem dX8_bytesOf_15 : decode cX8_bytesOf 15 = .ok (.iload_n 1, 1) := by decide +kernel
theorem dX8_bytesOf_16 : decode cX8_bytesOf 16 = .ok (.iload_n 2, 1) := by decide +kernel
theorem dX8_bytesOf_17 : decode cX8_bytesOf 17 = .ok (.ishr, 1) := by decide +kernel
theorem dX8_bytesOf_18 : decode cX8_bytesOf 18 = .ok (.i2b, 1) := by decide +kernel
theorem dX8_bytesOf_19 : decode cX8_bytesOf 19 = .ok (.bastore, 1) := by decide +kernel
theorem dX8_bytesOf_20 : decode cX8_bytesOf 20 = .ok (.aload_n 0, 1) := by decide +kernel
theorem dX8_bytesOf_21 : decode cX8_bytesOf 21 = .ok (.dup, 1) := by decide +kernel
theorem dX8_bytesOf_22 : decode cX8_bytesOf 22 = .ok (.getfield 59, 3) := by decide +kernel
theorem dX8_bytesOf_25 : decode cX8_bytesOf 25 = .ok (.iconst 1, 1) := by decide +kernel
theorem dX8_bytesOf_26 : decode cX8_bytesOf 26 = .ok (.iadd, 1) := by decide +kernel
theorem dX8_bytesOf_27 : decode cX8_bytesOf 27 = .ok (.putfield 59, 3) := by decide +kernel
theorem dX8_bytesOf_30 : decode cX8_bytesOf 30 = .ok (.iinc 2 (-8), 3) := by decide +kernel
theorem dX8_bytesOf_33 : decode cX8_bytesOf 33 = .ok (.goto (-30), 3) := by decide +kernel
theorem dX8_bytesOf_36 : decode cX8_bytesOf 36 = .ok (.return_, 1) := by decide +kernel
theorem dX8_byteAt_0 : decode cX8_byteAt 0 = .ok (.iload_n 1, 1) := by decide +kernel
theorem dX8_byteAt_1 : decode cX8_byteAt 1 = .ok (.aload_n 0, 1) := by decide +kernel
theorem dX8_byteAt_2 : decode cX8_byteAt 2 = .ok (.getfield 66, 3) := by decide +kernel
theorem dX8_byteAt_5 : decode cX8_byteAt 5 = .ok (.if_icmp .ge 16, 3) := by decide +kernel
theorem dX8_byteAt_8 : decode cX8_byteAt 8 = .ok (.aload_n 0, 1) := by decide +kernel
theorem dX8_byteAt_9 : decode cX8_byteAt 9 = .ok (.getfield 20, 3) := by decide +kernel
theorem dX8_byteAt_12 : decode cX8_byteAt 12 = .ok (.iload_n 1, 1) := by decide +kernel
theorem dX8_byteAt_13 : decode cX8_byteAt 13 = .ok (.baload, 1) := by decide +kernel
theorem dX8_byteAt_14 : decode cX8_byteAt 14 = .ok (.sipush 255, 3) := by decide +kernel
theorem dX8_byteAt_17 : decode cX8_byteAt 17 = .ok (.iand, 1) := by decide +kernel
theorem dX8_byteAt_18 : decode cX8_byteAt 18 = .ok (.goto 4, 3) := by decide +kernel
theorem dX8_byteAt_21 : decode cX8_byteAt 21 = .ok (.iconst (-1), 1) := by decide +kernel
theorem dX8_byteAt_22 : decode cX8_byteAt 22 = .ok (.ireturn, 1) := by decide +kernel
theorem dX8_takesLetters_0 : decode cX8_takesLetters 0 = .ok (.aload_n 0, 1) := by decide +kernel
theorem dX8_takesLetters_1 : decode cX8_takesLetters 1 = .ok (.lconst 0, 1) := by decide +kernel
theorem dX8_takesLetters_2 : decode cX8_takesLetters 2 = .ok (.putfield 69, 3) := by decide +kernel
theorem dX8_takesLetters_5 : decode cX8_takesLetters 5 = .ok (.aload_n 0, 1) := by decide +kernel
theorem dX8_takesLetters_6 : decode cX8_takesLetters 6 = .ok (.aload_n 0, 1) := by decide +kernel
theorem dX8_takesLetters_7 : decode cX8_takesLetters 7 = .ok (.getfield 73, 3) := by decide +kernel
theorem dX8_takesLetters_10 : decode cX8_takesLetters 10 = .ok (.invokevirtual 76, 3) := by decide +kernel
theorem dX8_takesLetters_13 : decode cX8_takesLetters 13 = .ok (.bipush 97, 2) := by decide +kernel
theorem dX8_takesLetters_15 : decode cX8_takesLetters 15 = .ok (.bipush 122, 2) := by decide +kernel
theorem dX8_takesLetters_17 : decode cX8_takesLetters 17 = .ok (.invokestatic 80, 3) := by decide +kernel
theorem dX8_takesLetters_20 : decode cX8_takesLetters 20 = .ok (.ifCond .eq 58, 3) := by decide +kernel
theorem dX8_takesLetters_23 : decode cX8_takesLetters 23 = .ok (.aload_n 0, 1) := by decide +kernel
theorem dX8_takesLetters_24 : decode cX8_takesLetters 24 = .ok (.aload_n 0, 1) := by decide +kernel
theorem dX8_takesLetters_25 : decode cX8_takesLetters 25 = .ok (.getfield 73, 3) := by decide +kernel
theorem dX8_takesLetters_28 : decode cX8_takesLetters 28 = .ok (.aload_n 0, 1) := by decide +kernel
theorem dX8_takesLetters_29 : decode cX8_takesLetters 29 = .ok (.getfield 84, 3) := by decide +kernel
theorem dX8_takesLetters_32 : decode cX8_takesLetters 32 = .ok (.isub, 1) := by decide +kernel
theorem dX8_takesLetters_33 : decode cX8_takesLetters 33 = .ok (.bipush 8, 2) := by decide +kernel
theorem dX8_takesLetters_35 : decode cX8_takesLetters 35 = .ok (.if_icmp .ge 23, 3) := by decide +kernel
theorem dX8_takesLetters_38 : decode cX8_takesLetters 38 = .ok (.aload_n 0, 1) := by decide +kernel
theorem dX8_takesLetters_39 : decode cX8_takesLetters 39 = .ok (.getfield 69, 3) := by decide +kernel
theorem dX8_takesLetters_42 : decode cX8_takesLetters 42 = .ok (.bipush 8, 2) := by decide +kernel
theorem dX8_takesLetters_44 : decode cX8_takesLetters 44 = .ok (.lshl, 1) := by decide +kernel
theorem dX8_takesLetters_45 : decode cX8_takesLetters 45 = .ok (.aload_n 0, 1) := by decide +kernel
theorem dX8_takesLetters_46 : decode cX8_takesLetters 46 = .ok (.aload_n 0, 1) := by decide +kernel
theorem dX8_takesLetters_47 : decode cX8_takesLetters 47 = .ok (.getfield 73, 3) := by decide +kernel
theorem dX8_takesLetters_50 : decode cX8_takesLetters 50 = .ok (.invokevirtual 76, 3) := by decide +kernel
theorem dX8_takesLetters_53 : decode cX8_takesLetters 53 = .ok (.i2l, 1) := by decide +kernel
theorem dX8_takesLetters_54 : decode cX8_takesLetters 54 = .ok (.lor, 1) := by decide +kernel
theorem dX8_takesLetters_55 : decode cX8_takesLetters 55 = .ok (.goto 7, 3) := by decide +kernel
theorem dX8_takesLetters_58 : decode cX8_takesLetters 58 = .ok (.aload_n 0, 1) := by decide +kernel
theorem dX8_takesLetters_59 : decode cX8_takesLetters 59 = .ok (.getfield 69, 3) := by decide +kernel
theorem dX8_takesLetters_62 : decode cX8_takesLetters 62 = .ok (.putfield 69, 3) := by decide +kernel
theorem dX8_takesLetters_65 : decode cX8_takesLetters 65 = .ok (.aload_n 0, 1) := by decide +kernel
theorem dX8_takesLetters_66 : decode cX8_takesLetters 66 = .ok (.dup, 1) := by decide +kernel
theorem dX8_takesLetters_67 : decode cX8_takesLetters 67 = .ok (.getfield 73, 3) := by decide +kernel
theorem dX8_takesLetters_70 : decode cX8_takesLetters 70 = .ok (.iconst 1, 1) := by decide +kernel
theorem dX8_takesLetters_71 : decode cX8_takesLetters 71 = .ok (.iadd, 1) := by decide +kernel
theorem dX8_takesLetters_72 : decode cX8_takesLetters 72 = .ok (.putfield 73, 3) := by decide +kernel
theorem dX8_takesLetters_75 : decode cX8_takesLetters 75 = .ok (.goto (-70), 3) := by decide +kernel
theorem dX8_takesLetters_78 : decode cX8_takesLetters 78 = .ok (.return_, 1) := by decide +kernel
theorem dX8_advance_0 : decode cX8_advance 0 = .ok (.aload_n 0, 1) := by decide +kernel
theorem dX8_advance_1 : decode cX8_advance 1 = .ok (.aload_n 0, 1) := by decide +kernel
theorem dX8_advance_2 : decode cX8_advance 2 = .ok (.getfield 73, 3) := by decide +kernel
theorem dX8_advance_5 : decode cX8_advance 5 = .ok (.invokevirtual 76, 3) := by decide +kernel
theorem dX8_advance_8 : decode cX8_advance 8 = .ok (.bipush 32, 2) := by decide +kernel
theorem dX8_advance_10 : decode cX8_advance 10 = .ok (.if_icmp .eq 16, 3) := by decide +kernel
theorem dX8_advance_13 : decode cX8_advance 13 = .ok (.aload_n 0, 1) := by decide +kernel
theorem dX8_advance_14 : decode cX8_advance 14 = .ok (.aload_n 0, 1) := by decide +kernel
theorem dX8_advance_15 : decode cX8_advance 15 = .ok (.getfield 73, 3) := by decide +kernel
theorem dX8_advance_18 : decode cX8_advance 18 = .ok (.invokevirtual 76, 3) := by decide +kernel
theorem dX8_advance_21 : decode cX8_advance 21 = .ok (.bipush 10, 2) := by decide +kernel
theorem dX8_advance_23 : decode cX8_advance 23 = .ok (.if_icmp .ne 16, 3) := by decide +kernel
theorem dX8_advance_26 : decode cX8_advance 26 = .ok (.aload_n 0, 1) := by decide +kernel
theorem dX8_advance_27 : decode cX8_advance 27 = .ok (.dup, 1) := by decide +kernel
theorem dX8_advance_28 : decode cX8_advance 28 = .ok (.getfield 73, 3) := by decide +kernel
theorem dX8_advance_31 : decode cX8_advance 31 = .ok (.iconst 1, 1) := by decide +kernel
theorem dX8_advance_32 : decode cX8_advance 32 = .ok (.iadd, 1) := by decide +kernel
theorem dX8_advance_33 : decode cX8_advance 33 = .ok (.putfield 73, 3) := by decide +kernel
theorem dX8_advance_36 : decode cX8_advance 36 = .ok (.goto (-36), 3) := by decide +kernel
theorem dX8_advance_39 : decode cX8_advance 39 = .ok (.aload_n 0, 1) := by decide +kernel
theorem dX8_advance_40 : decode cX8_advance 40 = .ok (.aload_n 0, 1) := by decide +kernel
theorem dX8_advance_41 : decode cX8_advance 41 = .ok (.getfield 73, 3) := by decide +kernel
theorem dX8_advance_44 : decode cX8_advance 44 = .ok (.putfield 84, 3) := by decide +kernel
theorem dX8_advance_47 : decode cX8_advance 47 = .ok (.aload_n 0, 1) := by decide +kernel
theorem dX8_advance_48 : decode cX8_advance 48 = .ok (.iconst 0, 1) := by decide +kernel
theorem dX8_advance_49 : decode cX8_advance 49 = .ok (.putfield 87, 3) := by decide +kernel
theorem dX8_advance_52 : decode cX8_advance 52 = .ok (.aload_n 0, 1) := by decide +kernel
theorem dX8_advance_53 : decode cX8_advance 53 = .ok (.aload_n 0, 1) := by decide +kernel
theorem dX8_advance_54 : decode cX8_advance 54 = .ok (.getfield 73, 3) := by decide +kernel
theorem dX8_advance_57 : decode cX8_advance 57 = .ok (.invokevirtual 76, 3) := by decide +kernel
theorem dX8_advance_60 : decode cX8_advance 60 = .ok (.istore_n 1, 1) := by decide +kernel
theorem dX8_advance_61 : decode cX8_advance 61 = .ok (.iload_n 1, 1) := by decide +kernel
theorem dX8_advance_62 : decode cX8_advance 62 = .ok (.iconst (-1), 1) := by decide +kernel
theorem dX8_advance_63 : decode cX8_advance 63 = .ok (.if_icmp .ne 11, 3) := by decide +kernel
theorem dX8_advance_66 : decode cX8_advance 66 = .ok (.aload_n 0, 1) := by decide +kernel
theorem dX8_advance_67 : decode cX8_advance 67 = .ok (.iconst 0, 1) := by decide +kernel
theorem dX8_advance_68 : decode cX8_advance 68 = .ok (.putfield 90, 3) := by decide +kernel
theorem dX8_advance_71 : decode cX8_advance 71 = .ok (.goto 179, 3) := by decide +kernel
theorem dX8_advance_74 : decode cX8_advance 74 = .ok (.iload_n 1, 1) := by decide +kernel
theorem dX8_advance_75 : decode cX8_advance 75 = .ok (.bipush 97, 2) := by decide +kernel
theorem dX8_advance_77 : decode cX8_advance 77 = .ok (.bipush 122, 2) := by decide +kernel
theorem dX8_advance_79 : decode cX8_advance 79 = .ok (.invokestatic 80, 3) := by decide +kernel
theorem dX8_advance_82 : decode cX8_advance 82 = .ok (.ifCond .eq 33, 3) := by decide +kernel
theorem dX8_advance_85 : decode cX8_advance 85 = .ok (.aload_n 0, 1) := by decide +kernel
theorem dX8_advance_86 : decode cX8_advance 86 = .ok (.invokevirtual 93, 3) := by decide +kernel
theorem dX8_advance_89 : decode cX8_advance 89 = .ok (.aload_n 0, 1) := by decide +kernel
theorem dX8_advance_90 : decode cX8_advance 90 = .ok (.aload_n 0, 1) := by decide +kernel
theorem dX8_advance_91 : decode cX8_advance 91 = .ok (.getfield 73, 3) := by decide +kernel
theorem dX8_advance_94 : decode cX8_advance 94 = .ok (.aload_n 0, 1) := by decide +kernel
theorem dX8_advance_95 : decode cX8_advance 95 = .ok (.getfield 84, 3) := by decide +kernel
theorem dX8_advance_98 : decode cX8_advance 98 = .ok (.isub, 1) := by decide +kernel
theorem dX8_advance_99 : decode cX8_advance 99 = .ok (.bipush 8, 2) := by decide +kernel
theorem dX8_advance_101 : decode cX8_advance 101 = .ok (.if_icmp .le 7, 3) := by decide +kernel
theorem dX8_advance_104 : decode cX8_advance 104 = .ok (.iconst 4, 1) := by decide +kernel
theorem dX8_advance_105 : decode cX8_advance 105 = .ok (.goto 4, 3) := by decide +kernel
theorem dX8_advance_108 : decode cX8_advance 108 = .ok (.iconst 1, 1) := by decide +kernel
theorem dX8_advance_109 : decode cX8_advance 109 = .ok (.putfield 90, 3) := by decide +kernel
theorem dX8_advance_112 : decode cX8_advance 112 = .ok (.goto 138, 3) := by decide +kernel
theorem dX8_advance_115 : decode cX8_advance 115 = .ok (.iload_n 1, 1) := by decide +kernel
theorem dX8_advance_116 : decode cX8_advance 116 = .ok (.bipush 48, 2) := by decide +kernel
theorem dX8_advance_118 : decode cX8_advance 118 = .ok (.bipush 57, 2) := by decide +kernel
theorem dX8_advance_120 : decode cX8_advance 120 = .ok (.invokestatic 80, 3) := by decide +kernel
theorem dX8_advance_123 : decode cX8_advance 123 = .ok (.ifCond .eq 102, 3) := by decide +kernel
theorem dX8_advance_126 : decode cX8_advance 126 = .ok (.aload_n 0, 1) := by decide +kernel
theorem dX8_advance_127 : decode cX8_advance 127 = .ok (.aload_n 0, 1) := by decide +kernel
theorem dX8_advance_128 : decode cX8_advance 128 = .ok (.getfield 73, 3) := by decide +kernel
theorem dX8_advance_131 : decode cX8_advance 131 = .ok (.invokevirtual 76, 3) := by decide +kernel
theorem dX8_advance_134 : decode cX8_advance 134 = .ok (.bipush 48, 2) := by decide +kernel
theorem dX8_advance_136 : decode cX8_advance 136 = .ok (.bipush 57, 2) := by decide +kernel
theorem dX8_advance_138 : decode cX8_advance 138 = .ok (.invokestatic 80, 3) := by decide +kernel
theorem dX8_advance_141 : decode cX8_advance 141 = .ok (.ifCond .eq 59, 3) := by decide +kernel
theorem dX8_advance_144 : decode cX8_advance 144 = .ok (.aload_n 0, 1) := by decide +kernel
theorem dX8_advance_145 : decode cX8_advance 145 = .ok (.aload_n 0, 1) := by decide +kernel
theorem dX8_advance_146 : decode cX8_advance 146 = .ok (.getfield 73, 3) := by decide +kernel
theorem dX8_advance_149 : decode cX8_advance 149 = .ok (.aload_n 0, 1) := by decide +kernel
theorem dX8_advance_150 : decode cX8_advance 150 = .ok (.getfield 84, 3) := by decide +kernel
theorem dX8_advance_153 : decode cX8_advance 153 = .ok (.isub, 1) := by decide +kernel
theorem dX8_advance_154 : decode cX8_advance 154 = .ok (.iconst 3, 1) := by decide +kernel
theorem dX8_advance_155 : decode cX8_advance 155 = .ok (.if_icmp .ge 25, 3) := by decide +kernel
theorem dX8_advance_158 : decode cX8_advance 158 = .ok (.bipush 10, 2) := by decide +kernel
theorem dX8_advance_160 : decode cX8_advance 160 = .ok (.aload_n 0, 1) := by decide +kernel
theorem dX8_advance_161 : decode cX8_advance 161 = .ok (.getfield 87, 3) := by decide +kernel
theorem dX8_advance_164 : decode cX8_advance 164 = .ok (.imul, 1) := by decide +kernel
theorem dX8_advance_165 : decode cX8_advance 165 = .ok (.aload_n 0, 1) := by decide +kernel
theorem dX8_advance_166 : decode cX8_advance 166 = .ok (.aload_n 0, 1) := by decide +kernel
theorem dX8_advance_167 : decode cX8_advance 167 = .ok (.getfield 73, 3) := by decide +kernel
theorem dX8_advance_170 : decode cX8_advance 170 = .ok (.invokevirtual 76, 3) := by decide +kernel
theorem dX8_advance_173 : decode cX8_advance 173 = .ok (.iadd, 1) := by decide +kernel
theorem dX8_advance_174 : decode cX8_advance 174 = .ok (.bipush 48, 2) := by decide +kernel
theorem dX8_advance_176 : decode cX8_advance 176 = .ok (.isub, 1) := by decide +kernel
theorem dX8_advance_177 : decode cX8_advance 177 = .ok (.goto 7, 3) := by decide +kernel
theorem dX8_advance_180 : decode cX8_advance 180 = .ok (.aload_n 0, 1) := by decide +kernel
theorem dX8_advance_181 : decode cX8_advance 181 = .ok (.getfield 87, 3) := by decide +kernel
theorem dX8_advance_184 : decode cX8_advance 184 = .ok (.putfield 87, 3) := by decide +kernel
theorem dX8_advance_187 : decode cX8_advance 187 = .ok (.aload_n 0, 1) := by decide +kernel
theorem dX8_advance_188 : decode cX8_advance 188 = .ok (.dup, 1) := by decide +kernel
theorem dX8_advance_189 : decode cX8_advance 189 = .ok (.getfield 73, 3) := by decide +kernel
theorem dX8_advance_192 : decode cX8_advance 192 = .ok (.iconst 1, 1) := by decide +kernel
theorem dX8_advance_193 : decode cX8_advance 193 = .ok (.iadd, 1) := by decide +kernel
theorem dX8_advance_194 : decode cX8_advance 194 = .ok (.putfield 73, 3) := by decide +kernel
theorem dX8_advance_197 : decode cX8_advance 197 = .ok (.goto (-71), 3) := by decide +kernel
theorem dX8_advance_200 : decode cX8_advance 200 = .ok (.aload_n 0, 1) := by decide +kernel
theorem dX8_advance_201 : decode cX8_advance 201 = .ok (.aload_n 0, 1) := by decide +kernel
theorem dX8_advance_202 : decode cX8_advance 202 = .ok (.getfield 73, 3) := by decide +kernel
theorem dX8_advance_205 : decode cX8_advance 205 = .ok (.aload_n 0, 1) := by decide +kernel
theorem dX8_advance_206 : decode cX8_advance 206 = .ok (.getfield 84, 3) := by decide +kernel
theorem dX8_advance_209 : decode cX8_advance 209 = .ok (.isub, 1) := by decide +kernel
theorem dX8_advance_210 : decode cX8_advance 210 = .ok (.iconst 3, 1) := by decide +kernel
theorem dX8_advance_211 : decode cX8_advance 211 = .ok (.if_icmp .le 7, 3) := by decide +kernel
theorem dX8_advance_214 : decode cX8_advance 214 = .ok (.iconst 4, 1) := by decide +kernel
theorem dX8_advance_215 : decode cX8_advance 215 = .ok (.goto 4, 3) := by decide +kernel
theorem dX8_advance_218 : decode cX8_advance 218 = .ok (.iconst 2, 1) := by decide +kernel
theorem dX8_advance_219 : decode cX8_advance 219 = .ok (.putfield 90, 3) := by decide +kernel
theorem dX8_advance_222 : decode cX8_advance 222 = .ok (.goto 28, 3) := by decide +kernel
theorem dX8_advance_225 : decode cX8_advance 225 = .ok (.aload_n 0, 1) := by decide +kernel
theorem dX8_advance_226 : decode cX8_advance 226 = .ok (.dup, 1) := by decide +kernel
theorem dX8_advance_227 : decode cX8_advance 227 = .ok (.getfield 73, 3) := by decide +kernel
theorem dX8_advance_230 : decode cX8_advance 230 = .ok (.iconst 1, 1) := by decide +kernel
theorem dX8_advance_231 : decode cX8_advance 231 = .ok (.iadd, 1) := by decide +kernel
theorem dX8_advance_232 : decode cX8_advance 232 = .ok (.putfield 73, 3) := by decide +kernel
theorem dX8_advance_235 : decode cX8_advance 235 = .ok (.aload_n 0, 1) := by decide +kernel
theorem dX8_advance_236 : decode cX8_advance 236 = .ok (.iload_n 1, 1) := by decide +kernel
theorem dX8_advance_237 : decode cX8_advance 237 = .ok (.bipush 59, 2) := by decide +kernel
theorem dX8_advance_239 : decode cX8_advance 239 = .ok (.if_icmp .ne 7, 3) := by decide +kernel
theorem dX8_advance_242 : decode cX8_advance 242 = .ok (.iconst 3, 1) := by decide +kernel
theorem dX8_advance_243 : decode cX8_advance 243 = .ok (.goto 4, 3) := by decide +kernel
theorem dX8_advance_246 : decode cX8_advance 246 = .ok (.iconst 4, 1) := by decide +kernel
theorem dX8_advance_247 : decode cX8_advance 247 = .ok (.putfield 90, 3) := by decide +kernel
theorem dX8_advance_250 : decode cX8_advance 250 = .ok (.return_, 1) := by decide +kernel
theorem dX8_isWord_0 : decode cX8_isWord 0 = .ok (.aload_n 0, 1) := by decide +kernel
theorem dX8_isWord_1 : decode cX8_isWord 1 = .ok (.getfield 90, 3) := by decide +kernel
theorem dX8_isWord_4 : decode cX8_isWord 4 = .ok (.iconst 1, 1) := by decide +kernel
theorem dX8_isWord_5 : decode cX8_isWord 5 = .ok (.if_icmp .ne 23, 3) := by decide +kernel
theorem dX8_isWord_8 : decode cX8_isWord 8 = .ok (.aload_n 0, 1) := by decide +kernel
theorem dX8_isWord_9 : decode cX8_isWord 9 = .ok (.getfield 73, 3) := by decide +kernel
theorem dX8_isWord_12 : decode cX8_isWord 12 = .ok (.aload_n 0, 1) := by decide +kernel
theorem dX8_isWord_13 : decode cX8_isWord 13 = .ok (.getfield 84, 3) := by decide +kernel
theorem dX8_isWord_16 : decode cX8_isWord 16 = .ok (.isub, 1) := by decide +kernel
theorem dX8_isWord_17 : decode cX8_isWord 17 = .ok (.aload_n 1, 1) := by decide +kernel
theorem dX8_isWord_18 : decode cX8_isWord 18 = .ok (.invokevirtual 96, 3) := by decide +kernel
theorem dX8_isWord_21 : decode cX8_isWord 21 = .ok (.if_icmp .ne 7, 3) := by decide +kernel
theorem dX8_isWord_24 : decode cX8_isWord 24 = .ok (.iconst 1, 1) := by decide +kernel
theorem dX8_isWord_25 : decode cX8_isWord 25 = .ok (.goto 4, 3) := by decide +kernel
theorem dX8_isWord_28 : decode cX8_isWord 28 = .ok (.iconst 0, 1) := by decide +kernel
theorem dX8_isWord_29 : decode cX8_isWord 29 = .ok (.istore_n 2, 1) := by decide +kernel
theorem dX8_isWord_30 : decode cX8_isWord 30 = .ok (.iconst 0, 1) := by decide +kernel
theorem dX8_isWord_31 : decode cX8_isWord 31 = .ok (.istore_n 3, 1) := by decide +kernel
theorem dX8_isWord_32 : decode cX8_isWord 32 = .ok (.iload_n 3, 1) := by decide +kernel
theorem dX8_isWord_33 : decode cX8_isWord 33 = .ok (.aload_n 1, 1) := by decide +kernel
theorem dX8_isWord_34 : decode cX8_isWord 34 = .ok (.invokevirtual 96, 3) := by decide +kernel
theorem dX8_isWord_37 : decode cX8_isWord 37 = .ok (.if_icmp .ge 38, 3) := by decide +kernel
theorem dX8_isWord_40 : decode cX8_isWord 40 = .ok (.iload_n 2, 1) := by decide +kernel
theorem dX8_isWord_41 : decode cX8_isWord 41 = .ok (.ifCond .eq 34, 3) := by decide +kernel
theorem dX8_isWord_44 : decode cX8_isWord 44 = .ok (.aload_n 0, 1) := by decide +kernel
theorem dX8_isWord_45 : decode cX8_isWord 45 = .ok (.getfield 20, 3) := by decide +kernel
theorem dX8_isWord_48 : decode cX8_isWord 48 = .ok (.aload_n 0, 1) := by decide +kernel
theorem dX8_isWord_49 : decode cX8_isWord 49 = .ok (.getfield 84, 3) := by decide +kernel
theorem dX8_isWord_52 : decode cX8_isWord 52 = .ok (.iload_n 3, 1) := by decide +kernel
theorem dX8_isWord_53 : decode cX8_isWord 53 = .ok (.iadd, 1) := by decide +kernel
theorem dX8_isWord_54 : decode cX8_isWord 54 = .ok (.baload, 1) := by decide +kernel
theorem dX8_isWord_55 : decode cX8_isWord 55 = .ok (.aload_n 1, 1) := by decide +kernel
theorem dX8_isWord_56 : decode cX8_isWord 56 = .ok (.iload_n 3, 1) := by decide +kernel
theorem dX8_isWord_57 : decode cX8_isWord 57 = .ok (.invokevirtual 101, 3) := by decide +kernel
theorem dX8_isWord_60 : decode cX8_isWord 60 = .ok (.if_icmp .ne 7, 3) := by decide +kernel
theorem dX8_isWord_63 : decode cX8_isWord 63 = .ok (.iconst 1, 1) := by decide +kernel
theorem dX8_isWord_64 : decode cX8_isWord 64 = .ok (.goto 4, 3) := by decide +kernel
theorem dX8_isWord_67 : decode cX8_isWord 67 = .ok (.iconst 0, 1) := by decide +kernel
theorem dX8_isWord_68 : decode cX8_isWord 68 = .ok (.istore_n 2, 1) := by decide +kernel
theorem dX8_isWord_69 : decode cX8_isWord 69 = .ok (.iinc 3 1, 3) := by decide +kernel
theorem dX8_isWord_72 : decode cX8_isWord 72 = .ok (.goto (-40), 3) := by decide +kernel
theorem dX8_isWord_75 : decode cX8_isWord 75 = .ok (.iload_n 2, 1) := by decide +kernel
theorem dX8_isWord_76 : decode cX8_isWord 76 = .ok (.ireturn, 1) := by decide +kernel
theorem dX8_fails_0 : decode cX8_fails 0 = .ok (.aload_n 0, 1) := by decide +kernel
theorem dX8_fails_1 : decode cX8_fails 1 = .ok (.getfield 105, 3) := by decide +kernel
theorem dX8_fails_4 : decode cX8_fails 4 = .ok (.ifCond .ne 16, 3) := by decide +kernel
theorem dX8_fails_7 : decode cX8_fails 7 = .ok (.aload_n 0, 1) := by decide +kernel
theorem dX8_fails_8 : decode cX8_fails 8 = .ok (.iload_n 1, 1) := by decide +kernel
theorem dX8_fails_9 : decode cX8_fails 9 = .ok (.putfield 105, 3) := by decide +kernel
theorem dX8_fails_12 : decode cX8_fails 12 = .ok (.aload_n 0, 1) := by decide +kernel
theorem dX8_fails_13 : decode cX8_fails 13 = .ok (.aload_n 0, 1) := by decide +kernel
theorem dX8_fails_14 : decode cX8_fails 14 = .ok (.getfield 84, 3) := by decide +kernel
theorem dX8_fails_17 : decode cX8_fails 17 = .ok (.putfield 24, 3) := by decide +kernel
theorem dX8_fails_20 : decode cX8_fails 20 = .ok (.iconst 0, 1) := by decide +kernel
theorem dX8_fails_21 : decode cX8_fails 21 = .ok (.ireturn, 1) := by decide +kernel
theorem dX8_starts_0 : decode cX8_starts 0 = .ok (.iload_n 2, 1) := by decide +kernel
theorem dX8_starts_1 : decode cX8_starts 1 = .ok (.ifCond .ne 9, 3) := by decide +kernel
theorem dX8_starts_4 : decode cX8_starts 4 = .ok (.aload_n 0, 1) := by decide +kernel
theorem dX8_starts_5 : decode cX8_starts 5 = .ok (.iload_n 1, 1) := by decide +kernel
theorem dX8_starts_6 : decode cX8_starts 6 = .ok (.invokevirtual 108, 3) := by decide +kernel
theorem dX8_starts_9 : decode cX8_starts 9 = .ok (.ireturn, 1) := by decide +kernel
theorem dX8_starts_10 : decode cX8_starts 10 = .ok (.aload_n 0, 1) := by decide +kernel
theorem dX8_starts_11 : decode cX8_starts 11 = .ok (.invokevirtual 112, 3) := by decide +kernel
theorem dX8_starts_14 : decode cX8_starts 14 = .ok (.iconst 1, 1) := by decide +kernel
theorem dX8_starts_15 : decode cX8_starts 15 = .ok (.ireturn, 1) := by decide +kernel
theorem dX8_takes_0 : decode cX8_takes 0 = .ok (.aload_n 0, 1) := by decide +kernel
theorem dX8_takes_1 : decode cX8_takes 1 = .ok (.getfield 90, 3) := by decide +kernel
theorem dX8_takes_4 : decode cX8_takes 4 = .ok (.iconst 2, 1) := by decide +kernel
theorem dX8_takes_5 : decode cX8_takes 5 = .ok (.if_icmp .eq 9, 3) := by decide +kernel
theorem dX8_takes_8 : decode cX8_takes 8 = .ok (.aload_n 0, 1) := by decide +kernel
theorem dX8_takes_9 : decode cX8_takes 9 = .ok (.iconst 1, 1) := by decide +kernel
theorem dX8_takes_10 : decode cX8_takes 10 = .ok (.invokevirtual 108, 3) := by decide +kernel
theorem dX8_takes_13 : decode cX8_takes 13 = .ok (.ireturn, 1) := by decide +kernel
theorem dX8_takes_14 : decode cX8_takes 14 = .ok (.aload_n 0, 1) := by decide +kernel
theorem dX8_takes_15 : decode cX8_takes 15 = .ok (.getfield 87, 3) := by decide +kernel
theorem dX8_takes_18 : decode cX8_takes 18 = .ok (.iload_n 1, 1) := by decide +kernel
theorem dX8_takes_19 : decode cX8_takes 19 = .ok (.iload_n 2, 1) := by decide +kernel
theorem dX8_takes_20 : decode cX8_takes 20 = .ok (.invokestatic 80, 3) := by decide +kernel
theorem dX8_takes_23 : decode cX8_takes 23 = .ok (.ifCond .ne 9, 3) := by decide +kernel
theorem dX8_takes_26 : decode cX8_takes 26 = .ok (.aload_n 0, 1) := by decide +kernel
theorem dX8_takes_27 : decode cX8_takes 27 = .ok (.iconst 3, 1) := by decide +kernel
theorem dX8_takes_28 : decode cX8_takes 28 = .ok (.invokevirtual 108, 3) := by decide +kernel
theorem dX8_takes_31 : decode cX8_takes 31 = .ok (.ireturn, 1) := by decide +kernel
theorem dX8_takes_32 : decode cX8_takes 32 = .ok (.aload_n 0, 1) := by decide +kernel
theorem dX8_takes_33 : decode cX8_takes 33 = .ok (.aload_n 0, 1) := by decide +kernel
theorem dX8_takes_34 : decode cX8_takes 34 = .ok (.getfield 87, 3) := by decide +kernel
theorem dX8_takes_37 : decode cX8_takes 37 = .ok (.putfield 115, 3) := by decide +kernel
theorem dX8_takes_40 : decode cX8_takes 40 = .ok (.aload_n 0, 1) := by decide +kernel
theorem dX8_takes_41 : decode cX8_takes 41 = .ok (.invokevirtual 112, 3) := by decide +kernel
theorem dX8_takes_44 : decode cX8_takes 44 = .ok (.iconst 1, 1) := by decide +kernel
theorem dX8_takes_45 : decode cX8_takes 45 = .ok (.ireturn, 1) := by decide +kernel
theorem dX8_lays_0 : decode cX8_lays 0 = .ok (.aload_n 0, 1) := by decide +kernel
theorem dX8_lays_1 : decode cX8_lays 1 = .ok (.iload_n 2, 1) := by decide +kernel
theorem dX8_lays_2 : decode cX8_lays 2 = .ok (.iload_n 3, 1) := by decide +kernel
theorem dX8_lays_3 : decode cX8_lays 3 = .ok (.invokevirtual 118, 3) := by decide +kernel
theorem dX8_lays_6 : decode cX8_lays 6 = .ok (.ifCond .ne 5, 3) := by decide +kernel
theorem dX8_lays_9 : decode cX8_lays 9 = .ok (.iconst 0, 1) := by decide +kernel
theorem dX8_lays_10 : decode cX8_lays 10 = .ok (.ireturn, 1) := by decide +kernel
theorem dX8_lays_11 : decode cX8_lays 11 = .ok (.aload_n 0, 1) := by decide +kernel
theorem dX8_lays_12 : decode cX8_lays 12 = .ok (.getfield 28, 3) := by decide +kernel
theorem dX8_lays_15 : decode cX8_lays 15 = .ok (.iload_n 1, 1) := by decide +kernel
theorem dX8_lays_16 : decode cX8_lays 16 = .ok (.aload_n 0, 1) := by decide +kernel
theorem dX8_lays_17 : decode cX8_lays 17 = .ok (.getfield 115, 3) := by decide +kernel
theorem dX8_lays_20 : decode cX8_lays 20 = .ok (.iastore, 1) := by decide +kernel
theorem dX8_lays_21 : decode cX8_lays 21 = .ok (.iconst 1, 1) := by decide +kernel
theorem dX8_lays_22 : decode cX8_lays 22 = .ok (.ireturn, 1) := by decide +kernel
theorem dX8_closes_0 : decode cX8_closes 0 = .ok (.aload_n 0, 1) := by decide +kernel
theorem dX8_closes_1 : decode cX8_closes 1 = .ok (.iconst 1, 1) := by decide +kernel
theorem dX8_closes_2 : decode cX8_closes 2 = .ok (.aload_n 0, 1) := by decide +kernel
theorem dX8_closes_3 : decode cX8_closes 3 = .ok (.getfield 90, 3) := by decide +kernel
theorem dX8_closes_6 : decode cX8_closes 6 = .ok (.iconst 3, 1) := by decide +kernel
theorem dX8_closes_7 : decode cX8_closes 7 = .ok (.if_icmp .ne 7, 3) := by decide +kernel
theorem dX8_closes_10 : decode cX8_closes 10 = .ok (.iconst 1, 1) := by decide +kernel
theorem dX8_closes_11 : decode cX8_closes 11 = .ok (.goto 4, 3) := by decide +kernel
theorem dX8_closes_14 : decode cX8_closes 14 = .ok (.iconst 0, 1) := by decide +kernel
theorem dX8_closes_15 : decode cX8_closes 15 = .ok (.invokevirtual 122, 3) := by decide +kernel
theorem dX8_closes_18 : decode cX8_closes 18 = .ok (.ireturn, 1) := by decide +kernel
theorem dX8_named_0 : decode cX8_named 0 = .ok (.iconst 0, 1) := by decide +kernel
theorem dX8_named_1 : decode cX8_named 1 = .ok (.istore 5, 2) := by decide +kernel
theorem dX8_named_3 : decode cX8_named 3 = .ok (.iload 5, 2) := by decide +kernel
theorem dX8_named_5 : decode cX8_named 5 = .ok (.iload_n 2, 1) := by decide +kernel
theorem dX8_named_6 : decode cX8_named 6 = .ok (.if_icmp .ge 26, 3) := by decide +kernel
theorem dX8_named_9 : decode cX8_named 9 = .ok (.aload_n 0, 1) := by decide +kernel
theorem dX8_named_10 : decode cX8_named 10 = .ok (.bipush 8, 2) := by decide +kernel
theorem dX8_named_12 : decode cX8_named 12 = .ok (.iload_n 1, 1) := by decide +kernel
theorem dX8_named_13 : decode cX8_named 13 = .ok (.imul, 1) := by decide +kernel
theorem dX8_named_14 : decode cX8_named 14 = .ok (.iload 5, 2) := by decide +kernel
theorem dX8_named_16 : decode cX8_named 16 = .ok (.iadd, 1) := by decide +kernel
theorem dX8_named_17 : decode cX8_named 17 = .ok (.laload, 1) := by decide +kernel
theorem dX8_named_18 : decode cX8_named 18 = .ok (.lload_n 3, 1) := by decide +kernel
theorem dX8_named_19 : decode cX8_named 19 = .ok (.lcmp, 1) := by decide +kernel
theorem dX8_named_20 : decode cX8_named 20 = .ok (.ifCond .ne 6, 3) := by decide +kernel
theorem dX8_named_23 : decode cX8_named 23 = .ok (.iload 5, 2) := by decide +kernel
theorem dX8_named_25 : decode cX8_named 25 = .ok (.ireturn, 1) := by decide +kernel
theorem dX8_named_26 : decode cX8_named 26 = .ok (.iinc 5 1, 3) := by decide +kernel
theorem dX8_named_29 : decode cX8_named 29 = .ok (.goto (-26), 3) := by decide +kernel
theorem dX8_named_32 : decode cX8_named 32 = .ok (.iconst (-1), 1) := by decide +kernel
theorem dX8_named_33 : decode cX8_named 33 = .ok (.ireturn, 1) := by decide +kernel
theorem dX8_nameRead_0 : decode cX8_nameRead 0 = .ok (.aload_n 0, 1) := by decide +kernel
theorem dX8_nameRead_1 : decode cX8_nameRead 1 = .ok (.getfield 90, 3) := by decide +kernel
theorem dX8_nameRead_4 : decode cX8_nameRead 4 = .ok (.iconst 1, 1) := by decide +kernel
theorem dX8_nameRead_5 : decode cX8_nameRead 5 = .ok (.if_icmp .eq 9, 3) := by decide +kernel
theorem dX8_nameRead_8 : decode cX8_nameRead 8 = .ok (.aload_n 0, 1) := by decide +kernel
theorem dX8_nameRead_9 : decode cX8_nameRead 9 = .ok (.iconst 1, 1) := by decide +kernel
theorem dX8_nameRead_10 : decode cX8_nameRead 10 = .ok (.invokevirtual 108, 3) := by decide +kernel
theorem dX8_nameRead_13 : decode cX8_nameRead 13 = .ok (.ireturn, 1) := by decide +kernel
theorem dX8_nameRead_14 : decode cX8_nameRead 14 = .ok (.aload_n 0, 1) := by decide +kernel
theorem dX8_nameRead_15 : decode cX8_nameRead 15 = .ok (.getfield 34, 3) := by decide +kernel
theorem dX8_nameRead_18 : decode cX8_nameRead 18 = .ok (.iload_n 1, 1) := by decide +kernel
theorem dX8_nameRead_19 : decode cX8_nameRead 19 = .ok (.iload_n 2, 1) := by decide +kernel
theorem dX8_nameRead_20 : decode cX8_nameRead 20 = .ok (.aload_n 0, 1) := by decide +kernel
theorem dX8_nameRead_21 : decode cX8_nameRead 21 = .ok (.getfield 69, 3) := by decide +kernel
theorem dX8_nameRead_24 : decode cX8_nameRead 24 = .ok (.invokestatic 126, 3) := by decide +kernel
theorem dX8_nameRead_27 : decode cX8_nameRead 27 = .ok (.iconst (-1), 1) := by decide +kernel
theorem dX8_nameRead_28 : decode cX8_nameRead 28 = .ok (.if_icmp .ne 7, 3) := by decide +kernel
theorem dX8_nameRead_31 : decode cX8_nameRead 31 = .ok (.iconst 1, 1) := by decide +kernel
theorem dX8_nameRead_32 : decode cX8_nameRead 32 = .ok (.goto 4, 3) := by decide +kernel
theorem dX8_nameRead_35 : decode cX8_nameRead 35 = .ok (.iconst 0, 1) := by decide +kernel
theorem dX8_nameRead_36 : decode cX8_nameRead 36 = .ok (.istore_n 3, 1) := by decide +kernel
theorem dX8_nameRead_37 : decode cX8_nameRead 37 = .ok (.iload_n 3, 1) := by decide +kernel
theorem dX8_nameRead_38 : decode cX8_nameRead 38 = .ok (.ifCond .eq 18, 3) := by decide +kernel
theorem dX8_nameRead_41 : decode cX8_nameRead 41 = .ok (.aload_n 0, 1) := by decide +kernel
theorem dX8_nameRead_42 : decode cX8_nameRead 42 = .ok (.getfield 34, 3) := by decide +kernel
theorem dX8_nameRead_45 : decode cX8_nameRead 45 = .ok (.bipush 8, 2) := by decide +kernel
theorem dX8_nameRead_47 : decode cX8_nameRead 47 = .ok (.iload_n 1, 1) := by decide +kernel
theorem dX8_nameRead_48 : decode cX8_nameRead 48 = .ok (.imul, 1) := by decide +kernel
theorem dX8_nameRead_49 : decode cX8_nameRead 49 = .ok (.iload_n 2, 1) := by decide +kernel
theorem dX8_nameRead_50 : decode cX8_nameRead 50 = .ok (.iadd, 1) := by decide +kernel
theorem dX8_nameRead_51 : decode cX8_nameRead 51 = .ok (.aload_n 0, 1) := by decide +kernel
theorem dX8_nameRead_52 : decode cX8_nameRead 52 = .ok (.getfield 69, 3) := by decide +kernel
theorem dX8_nameRead_55 : decode cX8_nameRead 55 = .ok (.lastore, 1) := by decide +kernel
theorem dX8_nameRead_56 : decode cX8_nameRead 56 = .ok (.aload_n 0, 1) := by decide +kernel
theorem dX8_nameRead_57 : decode cX8_nameRead 57 = .ok (.iconst 2, 1) := by decide +kernel
theorem dX8_nameRead_58 : decode cX8_nameRead 58 = .ok (.iload_n 3, 1) := by decide +kernel
theorem dX8_nameRead_59 : decode cX8_nameRead 59 = .ok (.invokevirtual 122, 3) := by decide +kernel
theorem dX8_nameRead_62 : decode cX8_nameRead 62 = .ok (.ireturn, 1) := by decide +kernel
theorem dX8_hallLine_0 : decode cX8_hallLine 0 = .ok (.aload_n 0, 1) := by decide +kernel
theorem dX8_hallLine_1 : decode cX8_hallLine 1 = .ok (.getfield 28, 3) := by decide +kernel
theorem dX8_hallLine_4 : decode cX8_hallLine 4 = .ok (.iconst 1, 1) := by decide +kernel
theorem dX8_hallLine_5 : decode cX8_hallLine 5 = .ok (.iaload, 1) := by decide +kernel
theorem dX8_hallLine_6 : decode cX8_hallLine 6 = .ok (.istore_n 1, 1) := by decide +kernel
theorem dX8_hallLine_7 : decode cX8_hallLine 7 = .ok (.aload_n 0, 1) := by decide +kernel
theorem dX8_hallLine_8 : decode cX8_hallLine 8 = .ok (.iconst 5, 1) := by decide +kernel
theorem dX8_hallLine_9 : decode cX8_hallLine 9 = .ok (.iload_n 1, 1) := by decide +kernel
theorem dX8_hallLine_10 : decode cX8_hallLine 10 = .ok (.iconst 3, 1) := by decide +kernel
theorem dX8_hallLine_11 : decode cX8_hallLine 11 = .ok (.if_icmp .ge 7, 3) := by decide +kernel
theorem dX8_hallLine_14 : decode cX8_hallLine 14 = .ok (.iconst 1, 1) := by decide +kernel
theorem dX8_hallLine_15 : decode cX8_hallLine 15 = .ok (.goto 4, 3) := by decide +kernel
theorem dX8_hallLine_18 : decode cX8_hallLine 18 = .ok (.iconst 0, 1) := by decide +kernel
theorem dX8_hallLine_19 : decode cX8_hallLine 19 = .ok (.invokevirtual 122, 3) := by decide +kernel
theorem dX8_hallLine_22 : decode cX8_hallLine 22 = .ok (.ifCond .eq 26, 3) := by decide +kernel
theorem dX8_hallLine_25 : decode cX8_hallLine 25 = .ok (.aload_n 0, 1) := by decide +kernel
theorem dX8_hallLine_26 : decode cX8_hallLine 26 = .ok (.iconst 0, 1) := by decide +kernel
theorem dX8_hallLine_27 : decode cX8_hallLine 27 = .ok (.iload_n 1, 1) := by decide +kernel
theorem dX8_hallLine_28 : decode cX8_hallLine 28 = .ok (.invokevirtual 130, 3) := by decide +kernel
theorem dX8_hallLine_31 : decode cX8_hallLine 31 = .ok (.ifCond .eq 17, 3) := by decide +kernel
theorem dX8_hallLine_34 : decode cX8_hallLine 34 = .ok (.aload_n 0, 1) := by decide +kernel
theorem dX8_hallLine_35 : decode cX8_hallLine 35 = .ok (.bipush 6, 2) := by decide +kernel
theorem dX8_hallLine_37 : decode cX8_hallLine 37 = .ok (.iload_n 1, 1) := by decide +kernel
theorem dX8_hallLine_38 : decode cX8_hallLine 38 = .ok (.iadd, 1) := by decide +kernel
theorem dX8_hallLine_39 : decode cX8_hallLine 39 = .ok (.iconst 0, 1) := by decide +kernel
theorem dX8_hallLine_40 : decode cX8_hallLine 40 = .ok (.bipush 9, 2) := by decide +kernel
theorem dX8_hallLine_42 : decode cX8_hallLine 42 = .ok (.invokevirtual 133, 3) := by decide +kernel
theorem dX8_hallLine_45 : decode cX8_hallLine 45 = .ok (.ifCond .ne 5, 3) := by decide +kernel
theorem dX8_hallLine_48 : decode cX8_hallLine 48 = .ok (.iconst 0, 1) := by decide +kernel
theorem dX8_hallLine_49 : decode cX8_hallLine 49 = .ok (.ireturn, 1) := by decide +kernel
theorem dX8_hallLine_50 : decode cX8_hallLine 50 = .ok (.aload_n 0, 1) := by decide +kernel
theorem dX8_hallLine_51 : decode cX8_hallLine 51 = .ok (.getfield 28, 3) := by decide +kernel
theorem dX8_hallLine_54 : decode cX8_hallLine 54 = .ok (.iconst 1, 1) := by decide +kernel
theorem dX8_hallLine_55 : decode cX8_hallLine 55 = .ok (.dup2, 1) := by decide +kernel
theorem dX8_hallLine_56 : decode cX8_hallLine 56 = .ok (.iaload, 1) := by decide +kernel
theorem dX8_hallLine_57 : decode cX8_hallLine 57 = .ok (.iconst 1, 1) := by decide +kernel
theorem dX8_hallLine_58 : decode cX8_hallLine 58 = .ok (.iadd, 1) := by decide +kernel
theorem dX8_hallLine_59 : decode cX8_hallLine 59 = .ok (.iastore, 1) := by decide +kernel
theorem dX8_hallLine_60 : decode cX8_hallLine 60 = .ok (.iconst 1, 1) := by decide +kernel
theorem dX8_hallLine_61 : decode cX8_hallLine 61 = .ok (.ireturn, 1) := by decide +kernel
theorem dX8_ownRead_0 : decode cX8_ownRead 0 = .ok (.aload_n 0, 1) := by decide +kernel
theorem dX8_ownRead_1 : decode cX8_ownRead 1 = .ok (.getfield 90, 3) := by decide +kernel
theorem dX8_ownRead_4 : decode cX8_ownRead 4 = .ok (.iconst 1, 1) := by decide +kernel
theorem dX8_ownRead_5 : decode cX8_ownRead 5 = .ok (.if_icmp .eq 9, 3) := by decide +kernel
theorem dX8_ownRead_8 : decode cX8_ownRead 8 = .ok (.aload_n 0, 1) := by decide +kernel
theorem dX8_ownRead_9 : decode cX8_ownRead 9 = .ok (.iconst 1, 1) := by decide +kernel
theorem dX8_ownRead_10 : decode cX8_ownRead 10 = .ok (.invokevirtual 108, 3) := by decide +kernel
theorem dX8_ownRead_13 : decode cX8_ownRead 13 = .ok (.ireturn, 1) := by decide +kernel
theorem dX8_ownRead_14 : decode cX8_ownRead 14 = .ok (.aload_n 0, 1) := by decide +kernel
theorem dX8_ownRead_15 : decode cX8_ownRead 15 = .ok (.getfield 34, 3) := by decide +kernel
theorem dX8_ownRead_18 : decode cX8_ownRead 18 = .ok (.iconst 3, 1) := by decide +kernel
theorem dX8_ownRead_19 : decode cX8_ownRead 19 = .ok (.aload_n 0, 1) := by decide +kernel
theorem dX8_ownRead_20 : decode cX8_ownRead 20 = .ok (.getfield 28, 3) := by decide +kernel
theorem dX8_ownRead_23 : decode cX8_ownRead 23 = .ok (.iconst 4, 1) := by decide +kernel
theorem dX8_ownRead_24 : decode cX8_ownRead 24 = .ok (.iaload, 1) := by decide +kernel
theorem dX8_ownRead_25 : decode cX8_ownRead 25 = .ok (.aload_n 0, 1) := by decide +kernel
theorem dX8_ownRead_26 : decode cX8_ownRead 26 = .ok (.getfield 69, 3) := by decide +kernel
theorem dX8_ownRead_29 : decode cX8_ownRead 29 = .ok (.invokestatic 126, 3) := by decide +kernel
theorem dX8_ownRead_32 : decode cX8_ownRead 32 = .ok (.istore_n 2, 1) := by decide +kernel
theorem dX8_ownRead_33 : decode cX8_ownRead 33 = .ok (.iconst 0, 1) := by decide +kernel
theorem dX8_ownRead_34 : decode cX8_ownRead 34 = .ok (.istore_n 3, 1) := by decide +kernel
theorem dX8_ownRead_35 : decode cX8_ownRead 35 = .ok (.iconst 0, 1) := by decide +kernel
theorem dX8_ownRead_36 : decode cX8_ownRead 36 = .ok (.istore 4, 2) := by decide +kernel
theorem dX8_ownRead_38 : decode cX8_ownRead 38 = .ok (.iload 4, 2) := by decide +kernel
theorem dX8_ownRead_40 : decode cX8_ownRead 40 = .ok (.aload_n 0, 1) := by decide +kernel
theorem dX8_ownRead_41 : decode cX8_ownRead 41 = .ok (.getfield 28, 3) := by decide +kernel
theorem dX8_ownRead_44 : decode cX8_ownRead 44 = .ok (.iload_n 1, 1) := by decide +kernel
theorem dX8_ownRead_45 : decode cX8_ownRead 45 = .ok (.iconst 2, 1) := by decide +kernel
theorem dX8_ownRead_46 : decode cX8_ownRead 46 = .ok (.iadd, 1) := by decide +kernel
theorem dX8_ownRead_47 : decode cX8_ownRead 47 = .ok (.iaload, 1) := by decide +kernel
theorem dX8_ownRead_48 : decode cX8_ownRead 48 = .ok (.if_icmp .ge 34, 3) := by decide +kernel
theorem dX8_ownRead_51 : decode cX8_ownRead 51 = .ok (.iload_n 3, 1) := by decide +kernel
theorem dX8_ownRead_52 : decode cX8_ownRead 52 = .ok (.ifCond .ne 18, 3) := by decide +kernel
theorem dX8_ownRead_55 : decode cX8_ownRead 55 = .ok (.iload_n 2, 1) := by decide +kernel
theorem dX8_ownRead_56 : decode cX8_ownRead 56 = .ok (.aload_n 0, 1) := by decide +kernel
theorem dX8_ownRead_57 : decode cX8_ownRead 57 = .ok (.getfield 28, 3) := by decide +kernel
theorem dX8_ownRead_60 : decode cX8_ownRead 60 = .ok (.iload_n 1, 1) := by decide +kernel
theorem dX8_ownRead_61 : decode cX8_ownRead 61 = .ok (.iconst 3, 1) := by decide +kernel
theorem dX8_ownRead_62 : decode cX8_ownRead 62 = .ok (.iadd, 1) := by decide +kernel
theorem dX8_ownRead_63 : decode cX8_ownRead 63 = .ok (.iload 4, 2) := by decide +kernel
theorem dX8_ownRead_65 : decode cX8_ownRead 65 = .ok (.iadd, 1) := by decide +kernel
theorem dX8_ownRead_66 : decode cX8_ownRead 66 = .ok (.iaload, 1) := by decide +kernel
theorem dX8_ownRead_67 : decode cX8_ownRead 67 = .ok (.if_icmp .ne 7, 3) := by decide +kernel
theorem dX8_ownRead_70 : decode cX8_ownRead 70 = .ok (.iconst 1, 1) := by decide +kernel
theorem dX8_ownRead_71 : decode cX8_ownRead 71 = .ok (.goto 4, 3) := by decide +kernel
theorem dX8_ownRead_74 : decode cX8_ownRead 74 = .ok (.iconst 0, 1) := by decide +kernel
theorem dX8_ownRead_75 : decode cX8_ownRead 75 = .ok (.istore_n 3, 1) := by decide +kernel
theorem dX8_ownRead_76 : decode cX8_ownRead 76 = .ok (.iinc 4 1, 3) := by decide +kernel
theorem dX8_ownRead_79 : decode cX8_ownRead 79 = .ok (.goto (-41), 3) := by decide +kernel
theorem dX8_ownRead_82 : decode cX8_ownRead 82 = .ok (.iload_n 3, 1) := by decide +kernel
theorem dX8_ownRead_83 : decode cX8_ownRead 83 = .ok (.ifCond .eq 9, 3) := by decide +kernel
theorem dX8_ownRead_86 : decode cX8_ownRead 86 = .ok (.aload_n 0, 1) := by decide +kernel
theorem dX8_ownRead_87 : decode cX8_ownRead 87 = .ok (.iconst 2, 1) := by decide +kernel
theorem dX8_ownRead_88 : decode cX8_ownRead 88 = .ok (.invokevirtual 108, 3) := by decide +kernel
theorem dX8_ownRead_91 : decode cX8_ownRead 91 = .ok (.ireturn, 1) := by decide +kernel
theorem dX8_ownRead_92 : decode cX8_ownRead 92 = .ok (.aload_n 0, 1) := by decide +kernel
theorem dX8_ownRead_93 : decode cX8_ownRead 93 = .ok (.getfield 28, 3) := by decide +kernel
theorem dX8_ownRead_96 : decode cX8_ownRead 96 = .ok (.iload_n 1, 1) := by decide +kernel
theorem dX8_ownRead_97 : decode cX8_ownRead 97 = .ok (.iconst 2, 1) := by decide +kernel
theorem dX8_ownRead_98 : decode cX8_ownRead 98 = .ok (.iadd, 1) := by decide +kernel
theorem dX8_ownRead_99 : decode cX8_ownRead 99 = .ok (.iaload, 1) := by decide +kernel
theorem dX8_ownRead_100 : decode cX8_ownRead 100 = .ok (.iconst 4, 1) := by decide +kernel
theorem dX8_ownRead_101 : decode cX8_ownRead 101 = .ok (.if_icmp .eq 19, 3) := by decide +kernel
theorem dX8_ownRead_104 : decode cX8_ownRead 104 = .ok (.iload_n 2, 1) := by decide +kernel
theorem dX8_ownRead_105 : decode cX8_ownRead 105 = .ok (.iconst (-1), 1) := by decide +kernel
theorem dX8_ownRead_106 : decode cX8_ownRead 106 = .ok (.if_icmp .ne 20, 3) := by decide +kernel
theorem dX8_ownRead_109 : decode cX8_ownRead 109 = .ok (.aload_n 0, 1) := by decide +kernel
theorem dX8_ownRead_110 : decode cX8_ownRead 110 = .ok (.getfield 28, 3) := by decide +kernel
theorem dX8_ownRead_113 : decode cX8_ownRead 113 = .ok (.iconst 4, 1) := by decide +kernel
theorem dX8_ownRead_114 : decode cX8_ownRead 114 = .ok (.iaload, 1) := by decide +kernel
theorem dX8_ownRead_115 : decode cX8_ownRead 115 = .ok (.bipush 8, 2) := by decide +kernel
theorem dX8_ownRead_117 : decode cX8_ownRead 117 = .ok (.if_icmp .ne 9, 3) := by decide +kernel
theorem dX8_ownRead_120 : decode cX8_ownRead 120 = .ok (.aload_n 0, 1) := by decide +kernel
theorem dX8_ownRead_121 : decode cX8_ownRead 121 = .ok (.iconst 5, 1) := by decide +kernel
theorem dX8_ownRead_122 : decode cX8_ownRead 122 = .ok (.invokevirtual 108, 3) := by decide +kernel
theorem dX8_ownRead_125 : decode cX8_ownRead 125 = .ok (.ireturn, 1) := by decide +kernel
theorem dX8_ownRead_126 : decode cX8_ownRead 126 = .ok (.iload_n 2, 1) := by decide +kernel
theorem dX8_ownRead_127 : decode cX8_ownRead 127 = .ok (.iconst (-1), 1) := by decide +kernel
theorem dX8_ownRead_128 : decode cX8_ownRead 128 = .ok (.if_icmp .ne 33, 3) := by decide +kernel
theorem dX8_ownRead_131 : decode cX8_ownRead 131 = .ok (.aload_n 0, 1) := by decide +kernel
theorem dX8_ownRead_132 : decode cX8_ownRead 132 = .ok (.getfield 28, 3) := by decide +kernel
theorem dX8_ownRead_135 : decode cX8_ownRead 135 = .ok (.iconst 4, 1) := by decide +kernel
theorem dX8_ownRead_136 : decode cX8_ownRead 136 = .ok (.iaload, 1) := by decide +kernel
theorem dX8_ownRead_137 : decode cX8_ownRead 137 = .ok (.istore_n 2, 1) := by decide +kernel
theorem dX8_ownRead_138 : decode cX8_ownRead 138 = .ok (.aload_n 0, 1) := by decide +kernel
theorem dX8_ownRead_139 : decode cX8_ownRead 139 = .ok (.getfield 34, 3) := by decide +kernel
theorem dX8_ownRead_142 : decode cX8_ownRead 142 = .ok (.bipush 24, 2) := by decide +kernel
theorem dX8_ownRead_144 : decode cX8_ownRead 144 = .ok (.iload_n 2, 1) := by decide +kernel
theorem dX8_ownRead_145 : decode cX8_ownRead 145 = .ok (.iadd, 1) := by decide +kernel
theorem dX8_ownRead_146 : decode cX8_ownRead 146 = .ok (.aload_n 0, 1) := by decide +kernel
theorem dX8_ownRead_147 : decode cX8_ownRead 147 = .ok (.getfield 69, 3) := by decide +kernel
theorem dX8_ownRead_150 : decode cX8_ownRead 150 = .ok (.lastore, 1) := by decide +kernel
theorem dX8_ownRead_151 : decode cX8_ownRead 151 = .ok (.aload_n 0, 1) := by decide +kernel
theorem dX8_ownRead_152 : decode cX8_ownRead 152 = .ok (.getfield 28, 3) := by decide +kernel
theorem dX8_ownRead_155 : decode cX8_ownRead 155 = .ok (.iconst 4, 1) := by decide +kernel
theorem dX8_ownRead_156 : decode cX8_ownRead 156 = .ok (.dup2, 1) := by decide +kernel
theorem dX8_ownRead_157 : decode cX8_ownRead 157 = .ok (.iaload, 1) := by decide +kernel
theorem dX8_ownRead_158 : decode cX8_ownRead 158 = .ok (.iconst 1, 1) := by decide +kernel
theorem dX8_ownRead_159 : decode cX8_ownRead 159 = .ok (.iadd, 1) := by decide +kernel
theorem dX8_ownRead_160 : decode cX8_ownRead 160 = .ok (.iastore, 1) := by decide +kernel
theorem dX8_ownRead_161 : decode cX8_ownRead 161 = .ok (.aload_n 0, 1) := by decide +kernel
theorem dX8_ownRead_162 : decode cX8_ownRead 162 = .ok (.getfield 28, 3) := by decide +kernel
theorem dX8_ownRead_165 : decode cX8_ownRead 165 = .ok (.iload_n 1, 1) := by decide +kernel
theorem dX8_ownRead_166 : decode cX8_ownRead 166 = .ok (.iconst 3, 1) := by decide +kernel
theorem dX8_ownRead_167 : decode cX8_ownRead 167 = .ok (.iadd, 1) := by decide +kernel
theorem dX8_ownRead_168 : decode cX8_ownRead 168 = .ok (.aload_n 0, 1) := by decide +kernel
theorem dX8_ownRead_169 : decode cX8_ownRead 169 = .ok (.getfield 28, 3) := by decide +kernel
theorem dX8_ownRead_172 : decode cX8_ownRead 172 = .ok (.iload_n 1, 1) := by decide +kernel
theorem dX8_ownRead_173 : decode cX8_ownRead 173 = .ok (.iconst 2, 1) := by decide +kernel
theorem dX8_ownRead_174 : decode cX8_ownRead 174 = .ok (.iadd, 1) := by decide +kernel
theorem dX8_ownRead_175 : decode cX8_ownRead 175 = .ok (.iaload, 1) := by decide +kernel
theorem dX8_ownRead_176 : decode cX8_ownRead 176 = .ok (.iadd, 1) := by decide +kernel
theorem dX8_ownRead_177 : decode cX8_ownRead 177 = .ok (.iload_n 2, 1) := by decide +kernel
theorem dX8_ownRead_178 : decode cX8_ownRead 178 = .ok (.iastore, 1) := by decide +kernel
theorem dX8_ownRead_179 : decode cX8_ownRead 179 = .ok (.aload_n 0, 1) := by decide +kernel
theorem dX8_ownRead_180 : decode cX8_ownRead 180 = .ok (.getfield 28, 3) := by decide +kernel
theorem dX8_ownRead_183 : decode cX8_ownRead 183 = .ok (.iload_n 1, 1) := by decide +kernel
theorem dX8_ownRead_184 : decode cX8_ownRead 184 = .ok (.iconst 2, 1) := by decide +kernel
theorem dX8_ownRead_185 : decode cX8_ownRead 185 = .ok (.iadd, 1) := by decide +kernel
theorem dX8_ownRead_186 : decode cX8_ownRead 186 = .ok (.dup2, 1) := by decide +kernel
theorem dX8_ownRead_187 : decode cX8_ownRead 187 = .ok (.iaload, 1) := by decide +kernel
theorem dX8_ownRead_188 : decode cX8_ownRead 188 = .ok (.iconst 1, 1) := by decide +kernel
theorem dX8_ownRead_189 : decode cX8_ownRead 189 = .ok (.iadd, 1) := by decide +kernel
theorem dX8_ownRead_190 : decode cX8_ownRead 190 = .ok (.iastore, 1) := by decide +kernel
theorem dX8_ownRead_191 : decode cX8_ownRead 191 = .ok (.aload_n 0, 1) := by decide +kernel
theorem dX8_ownRead_192 : decode cX8_ownRead 192 = .ok (.invokevirtual 112, 3) := by decide +kernel
theorem dX8_ownRead_195 : decode cX8_ownRead 195 = .ok (.iconst 1, 1) := by decide +kernel
theorem dX8_ownRead_196 : decode cX8_ownRead 196 = .ok (.ireturn, 1) := by decide +kernel
theorem dX8_playerLine_0 : decode cX8_playerLine 0 = .ok (.aload_n 0, 1) := by decide +kernel
theorem dX8_playerLine_1 : decode cX8_playerLine 1 = .ok (.getfield 28, 3) := by decide +kernel
theorem dX8_playerLine_4 : decode cX8_playerLine 4 = .ok (.iconst 2, 1) := by decide +kernel
theorem dX8_playerLine_5 : decode cX8_playerLine 5 = .ok (.iaload, 1) := by decide +kernel
theorem dX8_playerLine_6 : decode cX8_playerLine 6 = .ok (.istore_n 1, 1) := by decide +kernel
theorem dX8_playerLine_7 : decode cX8_playerLine 7 = .ok (.aload_n 0, 1) := by decide +kernel
theorem dX8_playerLine_8 : decode cX8_playerLine 8 = .ok (.iconst 5, 1) := by decide +kernel
theorem dX8_playerLine_9 : decode cX8_playerLine 9 = .ok (.iload_n 1, 1) := by decide +kernel
theorem dX8_playerLine_10 : decode cX8_playerLine 10 = .ok (.bipush 8, 2) := by decide +kernel
theorem dX8_playerLine_12 : decode cX8_playerLine 12 = .ok (.if_icmp .ge 7, 3) := by decide +kernel
theorem dX8_playerLine_15 : decode cX8_playerLine 15 = .ok (.iconst 1, 1) := by decide +kernel
theorem dX8_playerLine_16 : decode cX8_playerLine 16 = .ok (.goto 4, 3) := by decide +kernel
theorem dX8_playerLine_19 : decode cX8_playerLine 19 = .ok (.iconst 0, 1) := by decide +kernel
theorem dX8_playerLine_20 : decode cX8_playerLine 20 = .ok (.invokevirtual 122, 3) := by decide +kernel
theorem dX8_playerLine_23 : decode cX8_playerLine 23 = .ok (.ifCond .eq 22, 3) := by decide +kernel
theorem dX8_playerLine_26 : decode cX8_playerLine 26 = .ok (.aload_n 0, 1) := by decide +kernel
theorem dX8_playerLine_27 : decode cX8_playerLine 27 = .ok (.iconst 1, 1) := by decide +kernel
theorem dX8_playerLine_28 : decode cX8_playerLine 28 = .ok (.iload_n 1, 1) := by decide +kernel
theorem dX8_playerLine_29 : decode cX8_playerLine 29 = .ok (.invokevirtual 130, 3) := by decide +kernel
theorem dX8_playerLine_32 : decode cX8_playerLine 32 = .ok (.ifCond .eq 13, 3) := by decide +kernel
theorem dX8_playerLine_35 : decode cX8_playerLine 35 = .ok (.aload_n 0, 1) := by decide +kernel
theorem dX8_playerLine_36 : decode cX8_playerLine 36 = .ok (.iconst 0, 1) := by decide +kernel
theorem dX8_playerLine_37 : decode cX8_playerLine 37 = .ok (.bipush 40, 2) := by decide +kernel
theorem dX8_playerLine_39 : decode cX8_playerLine 39 = .ok (.invokevirtual 118, 3) := by decide +kernel
theorem dX8_playerLine_42 : decode cX8_playerLine 42 = .ok (.ifCond .ne 5, 3) := by decide +kernel
theorem dX8_playerLine_45 : decode cX8_playerLine 45 = .ok (.iconst 0, 1) := by decide +kernel
theorem dX8_playerLine_46 : decode cX8_playerLine 46 = .ok (.ireturn, 1) := by decide +kernel
theorem dX8_playerLine_47 : decode cX8_playerLine 47 = .ok (.aload_n 0, 1) := by decide +kernel
theorem dX8_playerLine_48 : decode cX8_playerLine 48 = .ok (.getfield 31, 3) := by decide +kernel
theorem dX8_playerLine_51 : decode cX8_playerLine 51 = .ok (.iload_n 1, 1) := by decide +kernel
theorem dX8_playerLine_52 : decode cX8_playerLine 52 = .ok (.aload_n 0, 1) := by decide +kernel
theorem dX8_playerLine_53 : decode cX8_playerLine 53 = .ok (.getfield 115, 3) := by decide +kernel
theorem dX8_playerLine_56 : decode cX8_playerLine 56 = .ok (.iastore, 1) := by decide +kernel
theorem dX8_playerLine_57 : decode cX8_playerLine 57 = .ok (.bipush 9, 2) := by decide +kernel
theorem dX8_playerLine_59 : decode cX8_playerLine 59 = .ok (.bipush 7, 2) := by decide +kernel
theorem dX8_playerLine_61 : decode cX8_playerLine 61 = .ok (.iload_n 1, 1) := by decide +kernel
theorem dX8_playerLine_62 : decode cX8_playerLine 62 = .ok (.imul, 1) := by decide +kernel
theorem dX8_playerLine_63 : decode cX8_playerLine 63 = .ok (.iadd, 1) := by decide +kernel
theorem dX8_playerLine_64 : decode cX8_playerLine 64 = .ok (.istore_n 2, 1) := by decide +kernel
theorem dX8_playerLine_65 : decode cX8_playerLine 65 = .ok (.aload_n 0, 1) := by decide +kernel
theorem dX8_playerLine_66 : decode cX8_playerLine 66 = .ok (.iload_n 2, 1) := by decide +kernel
theorem dX8_playerLine_67 : decode cX8_playerLine 67 = .ok (.iconst 0, 1) := by decide +kernel
theorem dX8_playerLine_68 : decode cX8_playerLine 68 = .ok (.iadd, 1) := by decide +kernel
theorem dX8_playerLine_69 : decode cX8_playerLine 69 = .ok (.iconst 0, 1) := by decide +kernel
theorem dX8_playerLine_70 : decode cX8_playerLine 70 = .ok (.sipush 999, 3) := by decide +kernel
theorem dX8_playerLine_73 : decode cX8_playerLine 73 = .ok (.invokevirtual 133, 3) := by decide +kernel
theorem dX8_playerLine_76 : decode cX8_playerLine 76 = .ok (.ifCond .ne 5, 3) := by decide +kernel
theorem dX8_playerLine_79 : decode cX8_playerLine 79 = .ok (.iconst 0, 1) := by decide +kernel
theorem dX8_playerLine_80 : decode cX8_playerLine 80 = .ok (.ireturn, 1) := by decide +kernel
theorem dX8_playerLine_81 : decode cX8_playerLine 81 = .ok (.aload_n 0, 1) := by decide +kernel
theorem dX8_playerLine_82 : decode cX8_playerLine 82 = .ok (.iload_n 2, 1) := by decide +kernel
theorem dX8_playerLine_83 : decode cX8_playerLine 83 = .ok (.invokevirtual 136, 3) := by decide +kernel
theorem dX8_playerLine_86 : decode cX8_playerLine 86 = .ok (.ifCond .ne 5, 3) := by decide +kernel
theorem dX8_playerLine_89 : decode cX8_playerLine 89 = .ok (.iconst 0, 1) := by decide +kernel
theorem dX8_playerLine_90 : decode cX8_playerLine 90 = .ok (.ireturn, 1) := by decide +kernel
theorem dX8_playerLine_91 : decode cX8_playerLine 91 = .ok (.aload_n 0, 1) := by decide +kernel
theorem dX8_playerLine_92 : decode cX8_playerLine 92 = .ok (.getfield 90, 3) := by decide +kernel
theorem dX8_playerLine_95 : decode cX8_playerLine 95 = .ok (.iconst 1, 1) := by decide +kernel
theorem dX8_playerLine_96 : decode cX8_playerLine 96 = .ok (.if_icmp .eq (-15), 3) := by decide +kernel
theorem dX8_playerLine_99 : decode cX8_playerLine 99 = .ok (.aload_n 0, 1) := by decide +kernel
theorem dX8_playerLine_100 : decode cX8_playerLine 100 = .ok (.getfield 28, 3) := by decide +kernel
theorem dX8_playerLine_103 : decode cX8_playerLine 103 = .ok (.iconst 2, 1) := by decide +kernel
theorem dX8_playerLine_104 : decode cX8_playerLine 104 = .ok (.dup2, 1) := by decide +kernel
theorem dX8_playerLine_105 : decode cX8_playerLine 105 = .ok (.iaload, 1) := by decide +kernel
theorem dX8_playerLine_106 : decode cX8_playerLine 106 = .ok (.iconst 1, 1) := by decide +kernel
theorem dX8_playerLine_107 : decode cX8_playerLine 107 = .ok (.iadd, 1) := by decide +kernel
theorem dX8_playerLine_108 : decode cX8_playerLine 108 = .ok (.iastore, 1) := by decide +kernel
theorem dX8_playerLine_109 : decode cX8_playerLine 109 = .ok (.iconst 1, 1) := by decide +kernel
theorem dX8_playerLine_110 : decode cX8_playerLine 110 = .ok (.ireturn, 1) := by decide +kernel
theorem dX8_absentLine_0 : decode cX8_absentLine 0 = .ok (.aload_n 0, 1) := by decide +kernel
theorem dX8_absentLine_1 : decode cX8_absentLine 1 = .ok (.invokevirtual 112, 3) := by decide +kernel
theorem dX8_absentLine_4 : decode cX8_absentLine 4 = .ok (.aload_n 0, 1) := by decide +kernel
theorem dX8_absentLine_5 : decode cX8_absentLine 5 = .ok (.getfield 90, 3) := by decide +kernel
theorem dX8_absentLine_8 : decode cX8_absentLine 8 = .ok (.iconst 1, 1) := by decide +kernel
theorem dX8_absentLine_9 : decode cX8_absentLine 9 = .ok (.if_icmp .eq 9, 3) := by decide +kernel
theorem dX8_absentLine_12 : decode cX8_absentLine 12 = .ok (.aload_n 0, 1) := by decide +kernel
theorem dX8_absentLine_13 : decode cX8_absentLine 13 = .ok (.iconst 1, 1) := by decide +kernel
theorem dX8_absentLine_14 : decode cX8_absentLine 14 = .ok (.invokevirtual 108, 3) := by decide +kernel
theorem dX8_absentLine_17 : decode cX8_absentLine 17 = .ok (.ireturn, 1) := by decide +kernel
theorem dX8_absentLine_18 : decode cX8_absentLine 18 = .ok (.aload_n 0, 1) := by decide +kernel
theorem dX8_absentLine_19 : decode cX8_absentLine 19 = .ok (.getfield 34, 3) := by decide +kernel
theorem dX8_absentLine_22 : decode cX8_absentLine 22 = .ok (.iconst 1, 1) := by decide +kernel
theorem dX8_absentLine_23 : decode cX8_absentLine 23 = .ok (.aload_n 0, 1) := by decide +kernel
theorem dX8_absentLine_24 : decode cX8_absentLine 24 = .ok (.getfield 28, 3) := by decide +kernel
theorem dX8_absentLine_27 : decode cX8_absentLine 27 = .ok (.iconst 2, 1) := by decide +kernel
theorem dX8_absentLine_28 : decode cX8_absentLine 28 = .ok (.iaload, 1) := by decide +kernel
theorem dX8_absentLine_29 : decode cX8_absentLine 29 = .ok (.aload_n 0, 1) := by decide +kernel
theorem dX8_absentLine_30 : decode cX8_absentLine 30 = .ok (.getfield 69, 3) := by decide +kernel
theorem dX8_absentLine_33 : decode cX8_absentLine 33 = .ok (.invokestatic 126, 3) := by decide +kernel
theorem dX8_absentLine_36 : decode cX8_absentLine 36 = .ok (.istore_n 1, 1) := by decide +kernel
theorem dX8_absentLine_37 : decode cX8_absentLine 37 = .ok (.aload_n 0, 1) := by decide +kernel
theorem dX8_absentLine_38 : decode cX8_absentLine 38 = .ok (.iconst 4, 1) := by decide +kernel
theorem dX8_absentLine_39 : decode cX8_absentLine 39 = .ok (.iload_n 1, 1) := by decide +kernel
theorem dX8_absentLine_40 : decode cX8_absentLine 40 = .ok (.iconst (-1), 1) := by decide +kernel
theorem dX8_absentLine_41 : decode cX8_absentLine 41 = .ok (.if_icmp .eq 7, 3) := by decide +kernel
theorem dX8_absentLine_44 : decode cX8_absentLine 44 = .ok (.iconst 1, 1) := by decide +kernel
theorem dX8_absentLine_45 : decode cX8_absentLine 45 = .ok (.goto 4, 3) := by decide +kernel
theorem dX8_absentLine_48 : decode cX8_absentLine 48 = .ok (.iconst 0, 1) := by decide +kernel
theorem dX8_absentLine_49 : decode cX8_absentLine 49 = .ok (.invokevirtual 122, 3) := by decide +kernel
theorem dX8_absentLine_52 : decode cX8_absentLine 52 = .ok (.ifCond .ne 5, 3) := by decide +kernel
theorem dX8_absentLine_55 : decode cX8_absentLine 55 = .ok (.iconst 0, 1) := by decide +kernel
theorem dX8_absentLine_56 : decode cX8_absentLine 56 = .ok (.ireturn, 1) := by decide +kernel
theorem dX8_absentLine_57 : decode cX8_absentLine 57 = .ok (.bipush 9, 2) := by decide +kernel
theorem dX8_absentLine_59 : decode cX8_absentLine 59 = .ok (.bipush 7, 2) := by decide +kernel
theorem dX8_absentLine_61 : decode cX8_absentLine 61 = .ok (.iload_n 1, 1) := by decide +kernel
theorem dX8_absentLine_62 : decode cX8_absentLine 62 = .ok (.imul, 1) := by decide +kernel
theorem dX8_absentLine_63 : decode cX8_absentLine 63 = .ok (.iadd, 1) := by decide +kernel
theorem dX8_absentLine_64 : decode cX8_absentLine 64 = .ok (.iconst 1, 1) := by decide +kernel
theorem dX8_absentLine_65 : decode cX8_absentLine 65 = .ok (.iadd, 1) := by decide +kernel
theorem dX8_absentLine_66 : decode cX8_absentLine 66 = .ok (.istore_n 2, 1) := by decide +kernel
theorem dX8_absentLine_67 : decode cX8_absentLine 67 = .ok (.aload_n 0, 1) := by decide +kernel
theorem dX8_absentLine_68 : decode cX8_absentLine 68 = .ok (.getfield 90, 3) := by decide +kernel
theorem dX8_absentLine_71 : decode cX8_absentLine 71 = .ok (.iconst 2, 1) := by decide +kernel
theorem dX8_absentLine_72 : decode cX8_absentLine 72 = .ok (.if_icmp .ne 39, 3) := by decide +kernel
theorem dX8_absentLine_75 : decode cX8_absentLine 75 = .ok (.aload_n 0, 1) := by decide +kernel
theorem dX8_absentLine_76 : decode cX8_absentLine 76 = .ok (.getfield 87, 3) := by decide +kernel
theorem dX8_absentLine_79 : decode cX8_absentLine 79 = .ok (.aload_n 0, 1) := by decide +kernel
theorem dX8_absentLine_80 : decode cX8_absentLine 80 = .ok (.getfield 28, 3) := by decide +kernel
theorem dX8_absentLine_83 : decode cX8_absentLine 83 = .ok (.iconst 0, 1) := by decide +kernel
theorem dX8_absentLine_84 : decode cX8_absentLine 84 = .ok (.iaload, 1) := by decide +kernel
theorem dX8_absentLine_85 : decode cX8_absentLine 85 = .ok (.if_icmp .ge 26, 3) := by decide +kernel
theorem dX8_absentLine_88 : decode cX8_absentLine 88 = .ok (.aload_n 0, 1) := by decide +kernel
theorem dX8_absentLine_89 : decode cX8_absentLine 89 = .ok (.getfield 28, 3) := by decide +kernel
theorem dX8_absentLine_92 : decode cX8_absentLine 92 = .ok (.iload_n 2, 1) := by decide +kernel
theorem dX8_absentLine_93 : decode cX8_absentLine 93 = .ok (.iaload, 1) := by decide +kernel
theorem dX8_absentLine_94 : decode cX8_absentLine 94 = .ok (.aload_n 0, 1) := by decide +kernel
theorem dX8_absentLine_95 : decode cX8_absentLine 95 = .ok (.getfield 87, 3) := by decide +kernel
theorem dX8_absentLine_98 : decode cX8_absentLine 98 = .ok (.ishr, 1) := by decide +kernel
theorem dX8_absentLine_99 : decode cX8_absentLine 99 = .ok (.iconst 1, 1) := by decide +kernel
theorem dX8_absentLine_100 : decode cX8_absentLine 100 = .ok (.iand, 1) := by decide +kernel
theorem dX8_absentLine_101 : decode cX8_absentLine 101 = .ok (.iconst 1, 1) := by decide +kernel
theorem dX8_absentLine_102 : decode cX8_absentLine 102 = .ok (.if_icmp .ne 9, 3) := by decide +kernel
theorem dX8_absentLine_105 : decode cX8_absentLine 105 = .ok (.aload_n 0, 1) := by decide +kernel
theorem dX8_absentLine_106 : decode cX8_absentLine 106 = .ok (.iconst 2, 1) := by decide +kernel
theorem dX8_absentLine_107 : decode cX8_absentLine 107 = .ok (.invokevirtual 108, 3) := by decide +kernel
theorem dX8_absentLine_110 : decode cX8_absentLine 110 = .ok (.ireturn, 1) := by decide +kernel
theorem dX8_absentLine_111 : decode cX8_absentLine 111 = .ok (.aload_n 0, 1) := by decide +kernel
theorem dX8_absentLine_112 : decode cX8_absentLine 112 = .ok (.iconst 0, 1) := by decide +kernel
theorem dX8_absentLine_113 : decode cX8_absentLine 113 = .ok (.aload_n 0, 1) := by decide +kernel
theorem dX8_absentLine_114 : decode cX8_absentLine 114 = .ok (.getfield 28, 3) := by decide +kernel
theorem dX8_absentLine_117 : decode cX8_absentLine 117 = .ok (.iconst 0, 1) := by decide +kernel
theorem dX8_absentLine_118 : decode cX8_absentLine 118 = .ok (.iaload, 1) := by decide +kernel
theorem dX8_absentLine_119 : decode cX8_absentLine 119 = .ok (.iconst 1, 1) := by decide +kernel
theorem dX8_absentLine_120 : decode cX8_absentLine 120 = .ok (.isub, 1) := by decide +kernel
theorem dX8_absentLine_121 : decode cX8_absentLine 121 = .ok (.invokevirtual 118, 3) := by decide +kernel
theorem dX8_absentLine_124 : decode cX8_absentLine 124 = .ok (.ifCond .ne 5, 3) := by decide +kernel
theorem dX8_absentLine_127 : decode cX8_absentLine 127 = .ok (.iconst 0, 1) := by decide +kernel
theorem dX8_absentLine_128 : decode cX8_absentLine 128 = .ok (.ireturn, 1) := by decide +kernel
theorem dX8_absentLine_129 : decode cX8_absentLine 129 = .ok (.aload_n 0, 1) := by decide +kernel
theorem dX8_absentLine_130 : decode cX8_absentLine 130 = .ok (.getfield 28, 3) := by decide +kernel
theorem dX8_absentLine_133 : decode cX8_absentLine 133 = .ok (.iload_n 2, 1) := by decide +kernel
theorem dX8_absentLine_134 : decode cX8_absentLine 134 = .ok (.dup2, 1) := by decide +kernel
theorem dX8_absentLine_135 : decode cX8_absentLine 135 = .ok (.iaload, 1) := by decide +kernel
theorem dX8_absentLine_136 : decode cX8_absentLine 136 = .ok (.iconst 1, 1) := by decide +kernel
theorem dX8_absentLine_137 : decode cX8_absentLine 137 = .ok (.aload_n 0, 1) := by decide +kernel
theorem dX8_absentLine_138 : decode cX8_absentLine 138 = .ok (.getfield 115, 3) := by decide +kernel
theorem dX8_absentLine_141 : decode cX8_absentLine 141 = .ok (.ishl, 1) := by decide +kernel
theorem dX8_absentLine_142 : decode cX8_absentLine 142 = .ok (.ior, 1) := by decide +kernel
theorem dX8_absentLine_143 : decode cX8_absentLine 143 = .ok (.iastore, 1) := by decide +kernel
theorem dX8_absentLine_144 : decode cX8_absentLine 144 = .ok (.iconst 1, 1) := by decide +kernel
theorem dX8_absentLine_145 : decode cX8_absentLine 145 = .ok (.ireturn, 1) := by decide +kernel
theorem dX8_seatRead_0 : decode cX8_seatRead 0 = .ok (.aload_n 0, 1) := by decide +kernel
theorem dX8_seatRead_1 : decode cX8_seatRead 1 = .ok (.getfield 90, 3) := by decide +kernel
theorem dX8_seatRead_4 : decode cX8_seatRead 4 = .ok (.iconst 1, 1) := by decide +kernel
theorem dX8_seatRead_5 : decode cX8_seatRead 5 = .ok (.if_icmp .eq 9, 3) := by decide +kernel
theorem dX8_seatRead_8 : decode cX8_seatRead 8 = .ok (.aload_n 0, 1) := by decide +kernel
theorem dX8_seatRead_9 : decode cX8_seatRead 9 = .ok (.iconst 1, 1) := by decide +kernel
theorem dX8_seatRead_10 : decode cX8_seatRead 10 = .ok (.invokevirtual 108, 3) := by decide +kernel
theorem dX8_seatRead_13 : decode cX8_seatRead 13 = .ok (.ireturn, 1) := by decide +kernel
theorem dX8_seatRead_14 : decode cX8_seatRead 14 = .ok (.aload_n 0, 1) := by decide +kernel
theorem dX8_seatRead_15 : decode cX8_seatRead 15 = .ok (.getfield 34, 3) := by decide +kernel
theorem dX8_seatRead_18 : decode cX8_seatRead 18 = .ok (.iconst 3, 1) := by decide +kernel
theorem dX8_seatRead_19 : decode cX8_seatRead 19 = .ok (.aload_n 0, 1) := by decide +kernel
theorem dX8_seatRead_20 : decode cX8_seatRead 20 = .ok (.getfield 28, 3) := by decide +kernel
theorem dX8_seatRead_23 : decode cX8_seatRead 23 = .ok (.iconst 4, 1) := by decide +kernel
theorem dX8_seatRead_24 : decode cX8_seatRead 24 = .ok (.iaload, 1) := by decide +kernel
theorem dX8_seatRead_25 : decode cX8_seatRead 25 = .ok (.aload_n 0, 1) := by decide +kernel
theorem dX8_seatRead_26 : decode cX8_seatRead 26 = .ok (.getfield 69, 3) := by decide +kernel
theorem dX8_seatRead_29 : decode cX8_seatRead 29 = .ok (.invokestatic 126, 3) := by decide +kernel
theorem dX8_seatRead_32 : decode cX8_seatRead 32 = .ok (.istore_n 2, 1) := by decide +kernel
theorem dX8_seatRead_33 : decode cX8_seatRead 33 = .ok (.iload_n 2, 1) := by decide +kernel
theorem dX8_seatRead_34 : decode cX8_seatRead 34 = .ok (.iconst (-1), 1) := by decide +kernel
theorem dX8_seatRead_35 : decode cX8_seatRead 35 = .ok (.if_icmp .ne 9, 3) := by decide +kernel
theorem dX8_seatRead_38 : decode cX8_seatRead 38 = .ok (.aload_n 0, 1) := by decide +kernel
theorem dX8_seatRead_39 : decode cX8_seatRead 39 = .ok (.iconst 4, 1) := by decide +kernel
theorem dX8_seatRead_40 : decode cX8_seatRead 40 = .ok (.invokevirtual 108, 3) := by decide +kernel
theorem dX8_seatRead_43 : decode cX8_seatRead 43 = .ok (.ireturn, 1) := by decide +kernel
theorem dX8_seatRead_44 : decode cX8_seatRead 44 = .ok (.aload_n 0, 1) := by decide +kernel
theorem dX8_seatRead_45 : decode cX8_seatRead 45 = .ok (.getfield 28, 3) := by decide +kernel
theorem dX8_seatRead_48 : decode cX8_seatRead 48 = .ok (.iload_n 1, 1) := by decide +kernel
theorem dX8_seatRead_49 : decode cX8_seatRead 49 = .ok (.iconst 4, 1) := by decide +kernel
theorem dX8_seatRead_50 : decode cX8_seatRead 50 = .ok (.iadd, 1) := by decide +kernel
theorem dX8_seatRead_51 : decode cX8_seatRead 51 = .ok (.iaload, 1) := by decide +kernel
theorem dX8_seatRead_52 : decode cX8_seatRead 52 = .ok (.bipush 6, 2) := by decide +kernel
theorem dX8_seatRead_54 : decode cX8_seatRead 54 = .ok (.if_icmp .ne 9, 3) := by decide +kernel
theorem dX8_seatRead_57 : decode cX8_seatRead 57 = .ok (.aload_n 0, 1) := by decide +kernel
theorem dX8_seatRead_58 : decode cX8_seatRead 58 = .ok (.iconst 5, 1) := by decide +kernel
theorem dX8_seatRead_59 : decode cX8_seatRead 59 = .ok (.invokevirtual 108, 3) := by decide +kernel
theorem dX8_seatRead_62 : decode cX8_seatRead 62 = .ok (.ireturn, 1) := by decide +kernel
theorem dX8_seatRead_63 : decode cX8_seatRead 63 = .ok (.aload_n 0, 1) := by decide +kernel
theorem dX8_seatRead_64 : decode cX8_seatRead 64 = .ok (.getfield 28, 3) := by decide +kernel
theorem dX8_seatRead_67 : decode cX8_seatRead 67 = .ok (.iload_n 1, 1) := by decide +kernel
theorem dX8_seatRead_68 : decode cX8_seatRead 68 = .ok (.iconst 5, 1) := by decide +kernel
theorem dX8_seatRead_69 : decode cX8_seatRead 69 = .ok (.iadd, 1) := by decide +kernel
theorem dX8_seatRead_70 : decode cX8_seatRead 70 = .ok (.aload_n 0, 1) := by decide +kernel
theorem dX8_seatRead_71 : decode cX8_seatRead 71 = .ok (.getfield 28, 3) := by decide +kernel
theorem dX8_seatRead_74 : decode cX8_seatRead 74 = .ok (.iload_n 1, 1) := by decide +kernel
theorem dX8_seatRead_75 : decode cX8_seatRead 75 = .ok (.iconst 4, 1) := by decide +kernel
theorem dX8_seatRead_76 : decode cX8_seatRead 76 = .ok (.iadd, 1) := by decide +kernel
theorem dX8_seatRead_77 : decode cX8_seatRead 77 = .ok (.iaload, 1) := by decide +kernel
theorem dX8_seatRead_78 : decode cX8_seatRead 78 = .ok (.iadd, 1) := by decide +kernel
theorem dX8_seatRead_79 : decode cX8_seatRead 79 = .ok (.iload_n 2, 1) := by decide +kernel
theorem dX8_seatRead_80 : decode cX8_seatRead 80 = .ok (.iastore, 1) := by decide +kernel
theorem dX8_seatRead_81 : decode cX8_seatRead 81 = .ok (.aload_n 0, 1) := by decide +kernel
theorem dX8_seatRead_82 : decode cX8_seatRead 82 = .ok (.getfield 28, 3) := by decide +kernel
theorem dX8_seatRead_85 : decode cX8_seatRead 85 = .ok (.iload_n 1, 1) := by decide +kernel
theorem dX8_seatRead_86 : decode cX8_seatRead 86 = .ok (.iconst 4, 1) := by decide +kernel
theorem dX8_seatRead_87 : decode cX8_seatRead 87 = .ok (.iadd, 1) := by decide +kernel
theorem dX8_seatRead_88 : decode cX8_seatRead 88 = .ok (.dup2, 1) := by decide +kernel
theorem dX8_seatRead_89 : decode cX8_seatRead 89 = .ok (.iaload, 1) := by decide +kernel
theorem dX8_seatRead_90 : decode cX8_seatRead 90 = .ok (.iconst 1, 1) := by decide +kernel
theorem dX8_seatRead_91 : decode cX8_seatRead 91 = .ok (.iadd, 1) := by decide +kernel
theorem dX8_seatRead_92 : decode cX8_seatRead 92 = .ok (.iastore, 1) := by decide +kernel
theorem dX8_seatRead_93 : decode cX8_seatRead 93 = .ok (.aload_n 0, 1) := by decide +kernel
theorem dX8_seatRead_94 : decode cX8_seatRead 94 = .ok (.invokevirtual 112, 3) := by decide +kernel
theorem dX8_seatRead_97 : decode cX8_seatRead 97 = .ok (.iconst 1, 1) := by decide +kernel
theorem dX8_seatRead_98 : decode cX8_seatRead 98 = .ok (.ireturn, 1) := by decide +kernel
theorem dX8_workLine_0 : decode cX8_workLine 0 = .ok (.aload_n 0, 1) := by decide +kernel
theorem dX8_workLine_1 : decode cX8_workLine 1 = .ok (.getfield 28, 3) := by decide +kernel
theorem dX8_workLine_4 : decode cX8_workLine 4 = .ok (.iconst 3, 1) := by decide +kernel
theorem dX8_workLine_5 : decode cX8_workLine 5 = .ok (.iaload, 1) := by decide +kernel
theorem dX8_workLine_6 : decode cX8_workLine 6 = .ok (.istore_n 1, 1) := by decide +kernel
theorem dX8_workLine_7 : decode cX8_workLine 7 = .ok (.bipush 65, 2) := by decide +kernel
theorem dX8_workLine_9 : decode cX8_workLine 9 = .ok (.bipush 11, 2) := by decide +kernel
theorem dX8_workLine_11 : decode cX8_workLine 11 = .ok (.iload_n 1, 1) := by decide +kernel
theorem dX8_workLine_12 : decode cX8_workLine 12 = .ok (.imul, 1) := by decide +kernel
theorem dX8_workLine_13 : decode cX8_workLine 13 = .ok (.iadd, 1) := by decide +kernel
theorem dX8_workLine_14 : decode cX8_workLine 14 = .ok (.istore_n 2, 1) := by decide +kernel
theorem dX8_workLine_15 : decode cX8_workLine 15 = .ok (.aload_n 0, 1) := by decide +kernel
theorem dX8_workLine_16 : decode cX8_workLine 16 = .ok (.iconst 5, 1) := by decide +kernel
theorem dX8_workLine_17 : decode cX8_workLine 17 = .ok (.iload_n 1, 1) := by decide +kernel
theorem dX8_workLine_18 : decode cX8_workLine 18 = .ok (.iconst 5, 1) := by decide +kernel
theorem dX8_workLine_19 : decode cX8_workLine 19 = .ok (.if_icmp .ge 7, 3) := by decide +kernel
theorem dX8_workLine_22 : decode cX8_workLine 22 = .ok (.iconst 1, 1) := by decide +kernel
theorem dX8_workLine_23 : decode cX8_workLine 23 = .ok (.goto 4, 3) := by decide +kernel
theorem dX8_workLine_26 : decode cX8_workLine 26 = .ok (.iconst 0, 1) := by decide +kernel
theorem dX8_workLine_27 : decode cX8_workLine 27 = .ok (.invokevirtual 122, 3) := by decide +kernel
theorem dX8_workLine_30 : decode cX8_workLine 30 = .ok (.ifCond .eq 84, 3) := by decide +kernel
theorem dX8_workLine_33 : decode cX8_workLine 33 = .ok (.aload_n 0, 1) := by decide +kernel
theorem dX8_workLine_34 : decode cX8_workLine 34 = .ok (.iconst 2, 1) := by decide +kernel
theorem dX8_workLine_35 : decode cX8_workLine 35 = .ok (.iload_n 1, 1) := by decide +kernel
theorem dX8_workLine_36 : decode cX8_workLine 36 = .ok (.invokevirtual 130, 3) := by decide +kernel
theorem dX8_workLine_39 : decode cX8_workLine 39 = .ok (.ifCond .eq 75, 3) := by decide +kernel
theorem dX8_workLine_42 : decode cX8_workLine 42 = .ok (.aload_n 0, 1) := by decide +kernel
theorem dX8_workLine_43 : decode cX8_workLine 43 = .ok (.iload_n 2, 1) := by decide +kernel
theorem dX8_workLine_44 : decode cX8_workLine 44 = .ok (.iconst 0, 1) := by decide +kernel
theorem dX8_workLine_45 : decode cX8_workLine 45 = .ok (.iadd, 1) := by decide +kernel
theorem dX8_workLine_46 : decode cX8_workLine 46 = .ok (.iconst 0, 1) := by decide +kernel
theorem dX8_workLine_47 : decode cX8_workLine 47 = .ok (.bipush 9, 2) := by decide +kernel
theorem dX8_workLine_49 : decode cX8_workLine 49 = .ok (.invokevirtual 133, 3) := by decide +kernel
theorem dX8_workLine_52 : decode cX8_workLine 52 = .ok (.ifCond .eq 62, 3) := by decide +kernel
theorem dX8_workLine_55 : decode cX8_workLine 55 = .ok (.aload_n 0, 1) := by decide +kernel
theorem dX8_workLine_56 : decode cX8_workLine 56 = .ok (.iload_n 2, 1) := by decide +kernel
theorem dX8_workLine_57 : decode cX8_workLine 57 = .ok (.iconst 1, 1) := by decide +kernel
theorem dX8_workLine_58 : decode cX8_workLine 58 = .ok (.iadd, 1) := by decide +kernel
theorem dX8_workLine_59 : decode cX8_workLine 59 = .ok (.iconst 0, 1) := by decide +kernel
theorem dX8_workLine_60 : decode cX8_workLine 60 = .ok (.aload_n 0, 1) := by decide +kernel
theorem dX8_workLine_61 : decode cX8_workLine 61 = .ok (.getfield 28, 3) := by decide +kernel
theorem dX8_workLine_64 : decode cX8_workLine 64 = .ok (.iconst 0, 1) := by decide +kernel
theorem dX8_workLine_65 : decode cX8_workLine 65 = .ok (.iaload, 1) := by decide +kernel
theorem dX8_workLine_66 : decode cX8_workLine 66 = .ok (.iconst 1, 1) := by decide +kernel
theorem dX8_workLine_67 : decode cX8_workLine 67 = .ok (.isub, 1) := by decide +kernel
theorem dX8_workLine_68 : decode cX8_workLine 68 = .ok (.invokevirtual 133, 3) := by decide +kernel
theorem dX8_workLine_71 : decode cX8_workLine 71 = .ok (.ifCond .eq 43, 3) := by decide +kernel
theorem dX8_workLine_74 : decode cX8_workLine 74 = .ok (.aload_n 0, 1) := by decide +kernel
theorem dX8_workLine_75 : decode cX8_workLine 75 = .ok (.iload_n 2, 1) := by decide +kernel
theorem dX8_workLine_76 : decode cX8_workLine 76 = .ok (.iconst 2, 1) := by decide +kernel
theorem dX8_workLine_77 : decode cX8_workLine 77 = .ok (.iadd, 1) := by decide +kernel
theorem dX8_workLine_78 : decode cX8_workLine 78 = .ok (.aload_n 0, 1) := by decide +kernel
theorem dX8_workLine_79 : decode cX8_workLine 79 = .ok (.getfield 28, 3) := by decide +kernel
theorem dX8_workLine_82 : decode cX8_workLine 82 = .ok (.iload_n 2, 1) := by decide +kernel
theorem dX8_workLine_83 : decode cX8_workLine 83 = .ok (.iconst 1, 1) := by decide +kernel
theorem dX8_workLine_84 : decode cX8_workLine 84 = .ok (.iadd, 1) := by decide +kernel
theorem dX8_workLine_85 : decode cX8_workLine 85 = .ok (.iaload, 1) := by decide +kernel
theorem dX8_workLine_86 : decode cX8_workLine 86 = .ok (.aload_n 0, 1) := by decide +kernel
theorem dX8_workLine_87 : decode cX8_workLine 87 = .ok (.getfield 28, 3) := by decide +kernel
theorem dX8_workLine_90 : decode cX8_workLine 90 = .ok (.iconst 0, 1) := by decide +kernel
theorem dX8_workLine_91 : decode cX8_workLine 91 = .ok (.iaload, 1) := by decide +kernel
theorem dX8_workLine_92 : decode cX8_workLine 92 = .ok (.iconst 1, 1) := by decide +kernel
theorem dX8_workLine_93 : decode cX8_workLine 93 = .ok (.isub, 1) := by decide +kernel
theorem dX8_workLine_94 : decode cX8_workLine 94 = .ok (.invokevirtual 133, 3) := by decide +kernel
theorem dX8_workLine_97 : decode cX8_workLine 97 = .ok (.ifCond .eq 17, 3) := by decide +kernel
theorem dX8_workLine_100 : decode cX8_workLine 100 = .ok (.aload_n 0, 1) := by decide +kernel
theorem dX8_workLine_101 : decode cX8_workLine 101 = .ok (.iload_n 2, 1) := by decide +kernel
theorem dX8_workLine_102 : decode cX8_workLine 102 = .ok (.iconst 3, 1) := by decide +kernel
theorem dX8_workLine_103 : decode cX8_workLine 103 = .ok (.iadd, 1) := by decide +kernel
theorem dX8_workLine_104 : decode cX8_workLine 104 = .ok (.iconst 0, 1) := by decide +kernel
theorem dX8_workLine_105 : decode cX8_workLine 105 = .ok (.sipush 999, 3) := by decide +kernel
theorem dX8_workLine_108 : decode cX8_workLine 108 = .ok (.invokevirtual 133, 3) := by decide +kernel
theorem dX8_workLine_111 : decode cX8_workLine 111 = .ok (.ifCond .ne 5, 3) := by decide +kernel
theorem dX8_workLine_114 : decode cX8_workLine 114 = .ok (.iconst 0, 1) := by decide +kernel
theorem dX8_workLine_115 : decode cX8_workLine 115 = .ok (.ireturn, 1) := by decide +kernel
theorem dX8_workLine_116 : decode cX8_workLine 116 = .ok (.aload_n 0, 1) := by decide +kernel
theorem dX8_workLine_117 : decode cX8_workLine 117 = .ok (.iload_n 2, 1) := by decide +kernel
theorem dX8_workLine_118 : decode cX8_workLine 118 = .ok (.invokevirtual 139, 3) := by decide +kernel
theorem dX8_workLine_121 : decode cX8_workLine 121 = .ok (.ifCond .ne 5, 3) := by decide +kernel
theorem dX8_workLine_124 : decode cX8_workLine 124 = .ok (.iconst 0, 1) := by decide +kernel
theorem dX8_workLine_125 : decode cX8_workLine 125 = .ok (.ireturn, 1) := by decide +kernel
theorem dX8_workLine_126 : decode cX8_workLine 126 = .ok (.aload_n 0, 1) := by decide +kernel
theorem dX8_workLine_127 : decode cX8_workLine 127 = .ok (.getfield 90, 3) := by decide +kernel
theorem dX8_workLine_130 : decode cX8_workLine 130 = .ok (.iconst 1, 1) := by decide +kernel
theorem dX8_workLine_131 : decode cX8_workLine 131 = .ok (.if_icmp .eq (-15), 3) := by decide +kernel
theorem dX8_workLine_134 : decode cX8_workLine 134 = .ok (.aload_n 0, 1) := by decide +kernel
theorem dX8_workLine_135 : decode cX8_workLine 135 = .ok (.getfield 28, 3) := by decide +kernel
theorem dX8_workLine_138 : decode cX8_workLine 138 = .ok (.iconst 3, 1) := by decide +kernel
theorem dX8_workLine_139 : decode cX8_workLine 139 = .ok (.dup2, 1) := by decide +kernel
theorem dX8_workLine_140 : decode cX8_workLine 140 = .ok (.iaload, 1) := by decide +kernel
theorem dX8_workLine_141 : decode cX8_workLine 141 = .ok (.iconst 1, 1) := by decide +kernel
theorem dX8_workLine_142 : decode cX8_workLine 142 = .ok (.iadd, 1) := by decide +kernel
theorem dX8_workLine_143 : decode cX8_workLine 143 = .ok (.iastore, 1) := by decide +kernel
theorem dX8_workLine_144 : decode cX8_workLine 144 = .ok (.iconst 1, 1) := by decide +kernel
theorem dX8_workLine_145 : decode cX8_workLine 145 = .ok (.ireturn, 1) := by decide +kernel
theorem dX8_doubleLine_0 : decode cX8_doubleLine 0 = .ok (.aload_n 0, 1) := by decide +kernel
theorem dX8_doubleLine_1 : decode cX8_doubleLine 1 = .ok (.iconst 2, 1) := by decide +kernel
theorem dX8_doubleLine_2 : decode cX8_doubleLine 2 = .ok (.aload_n 0, 1) := by decide +kernel
theorem dX8_doubleLine_3 : decode cX8_doubleLine 3 = .ok (.getfield 142, 3) := by decide +kernel
theorem dX8_doubleLine_6 : decode cX8_doubleLine 6 = .ok (.ifCond .ne 7, 3) := by decide +kernel
theorem dX8_doubleLine_9 : decode cX8_doubleLine 9 = .ok (.iconst 1, 1) := by decide +kernel
theorem dX8_doubleLine_10 : decode cX8_doubleLine 10 = .ok (.goto 4, 3) := by decide +kernel
theorem dX8_doubleLine_13 : decode cX8_doubleLine 13 = .ok (.iconst 0, 1) := by decide +kernel
theorem dX8_doubleLine_14 : decode cX8_doubleLine 14 = .ok (.invokevirtual 122, 3) := by decide +kernel
theorem dX8_doubleLine_17 : decode cX8_doubleLine 17 = .ok (.ifCond .ne 5, 3) := by decide +kernel
theorem dX8_doubleLine_20 : decode cX8_doubleLine 20 = .ok (.iconst 0, 1) := by decide +kernel
theorem dX8_doubleLine_21 : decode cX8_doubleLine 21 = .ok (.ireturn, 1) := by decide +kernel
theorem dX8_doubleLine_22 : decode cX8_doubleLine 22 = .ok (.aload_n 0, 1) := by decide +kernel
theorem dX8_doubleLine_23 : decode cX8_doubleLine 23 = .ok (.iconst 1, 1) := by decide +kernel
theorem dX8_doubleLine_24 : decode cX8_doubleLine 24 = .ok (.putfield 142, 3) := by decide +kernel
theorem dX8_doubleLine_27 : decode cX8_doubleLine 27 = .ok (.aload_n 0, 1) := by decide +kernel
theorem dX8_doubleLine_28 : decode cX8_doubleLine 28 = .ok (.iconst 5, 1) := by decide +kernel
theorem dX8_doubleLine_29 : decode cX8_doubleLine 29 = .ok (.iconst 0, 1) := by decide +kernel
theorem dX8_doubleLine_30 : decode cX8_doubleLine 30 = .ok (.sipush 999, 3) := by decide +kernel
theorem dX8_doubleLine_33 : decode cX8_doubleLine 33 = .ok (.invokevirtual 133, 3) := by decide +kernel
theorem dX8_doubleLine_36 : decode cX8_doubleLine 36 = .ok (.ireturn, 1) := by decide +kernel
theorem dX8_statement_0 : decode cX8_statement 0 = .ok (.aload_n 0, 1) := by decide +kernel
theorem dX8_statement_1 : decode cX8_statement 1 = .ok (.ldc 146, 2) := by decide +kernel
theorem dX8_statement_3 : decode cX8_statement 3 = .ok (.invokevirtual 148, 3) := by decide +kernel
theorem dX8_statement_6 : decode cX8_statement 6 = .ok (.ifCond .eq 8, 3) := by decide +kernel
theorem dX8_statement_9 : decode cX8_statement 9 = .ok (.aload_n 0, 1) := by decide +kernel
theorem dX8_statement_10 : decode cX8_statement 10 = .ok (.invokevirtual 152, 3) := by decide +kernel
theorem dX8_statement_13 : decode cX8_statement 13 = .ok (.ireturn, 1) := by decide +kernel
theorem dX8_statement_14 : decode cX8_statement 14 = .ok (.aload_n 0, 1) := by decide +kernel
theorem dX8_statement_15 : decode cX8_statement 15 = .ok (.ldc 156, 2) := by decide +kernel
theorem dX8_statement_17 : decode cX8_statement 17 = .ok (.invokevirtual 148, 3) := by decide +kernel
theorem dX8_statement_20 : decode cX8_statement 20 = .ok (.ifCond .eq 8, 3) := by decide +kernel
theorem dX8_statement_23 : decode cX8_statement 23 = .ok (.aload_n 0, 1) := by decide +kernel
theorem dX8_statement_24 : decode cX8_statement 24 = .ok (.invokevirtual 158, 3) := by decide +kernel
theorem dX8_statement_27 : decode cX8_statement 27 = .ok (.ireturn, 1) := by decide +kernel
theorem dX8_statement_28 : decode cX8_statement 28 = .ok (.aload_n 0, 1) := by decide +kernel
theorem dX8_statement_29 : decode cX8_statement 29 = .ok (.ldc 161, 2) := by decide +kernel
theorem dX8_statement_31 : decode cX8_statement 31 = .ok (.invokevirtual 148, 3) := by decide +kernel
theorem dX8_statement_34 : decode cX8_statement 34 = .ok (.ifCond .eq 8, 3) := by decide +kernel
theorem dX8_statement_37 : decode cX8_statement 37 = .ok (.aload_n 0, 1) := by decide +kernel
theorem dX8_statement_38 : decode cX8_statement 38 = .ok (.invokevirtual 163, 3) := by decide +kernel
theorem dX8_statement_41 : decode cX8_statement 41 = .ok (.ireturn, 1) := by decide +kernel
theorem dX8_statement_42 : decode cX8_statement 42 = .ok (.aload_n 0, 1) := by decide +kernel
theorem dX8_statement_43 : decode cX8_statement 43 = .ok (.ldc 166, 2) := by decide +kernel
theorem dX8_statement_45 : decode cX8_statement 45 = .ok (.invokevirtual 148, 3) := by decide +kernel
theorem dX8_statement_48 : decode cX8_statement 48 = .ok (.ifCond .eq 8, 3) := by decide +kernel
theorem dX8_statement_51 : decode cX8_statement 51 = .ok (.aload_n 0, 1) := by decide +kernel
theorem dX8_statement_52 : decode cX8_statement 52 = .ok (.invokevirtual 168, 3) := by decide +kernel
theorem dX8_statement_55 : decode cX8_statement 55 = .ok (.ireturn, 1) := by decide +kernel
theorem dX8_statement_56 : decode cX8_statement 56 = .ok (.aload_n 0, 1) := by decide +kernel
theorem dX8_statement_57 : decode cX8_statement 57 = .ok (.ldc 171, 2) := by decide +kernel
theorem dX8_statement_59 : decode cX8_statement 59 = .ok (.invokevirtual 148, 3) := by decide +kernel
theorem dX8_statement_62 : decode cX8_statement 62 = .ok (.ifCond .eq 10, 3) := by decide +kernel
theorem dX8_statement_65 : decode cX8_statement 65 = .ok (.aload_n 0, 1) := by decide +kernel
theorem dX8_statement_66 : decode cX8_statement 66 = .ok (.invokevirtual 173, 3) := by decide +kernel
theorem dX8_statement_69 : decode cX8_statement 69 = .ok (.goto 8, 3) := by decide +kernel
theorem dX8_statement_72 : decode cX8_statement 72 = .ok (.aload_n 0, 1) := by decide +kernel
theorem dX8_statement_73 : decode cX8_statement 73 = .ok (.iconst 1, 1) := by decide +kernel
theorem dX8_statement_74 : decode cX8_statement 74 = .ok (.invokevirtual 108, 3) := by decide +kernel
theorem dX8_statement_77 : decode cX8_statement 77 = .ok (.ireturn, 1) := by decide +kernel
theorem dX8_parse_0 : decode cX8_parse 0 = .ok (.aload_n 0, 1) := by decide +kernel
theorem dX8_parse_1 : decode cX8_parse 1 = .ok (.iconst 0, 1) := by decide +kernel
theorem dX8_parse_2 : decode cX8_parse 2 = .ok (.putfield 56, 3) := by decide +kernel
theorem dX8_parse_5 : decode cX8_parse 5 = .ok (.aload_n 0, 1) := by decide +kernel
theorem dX8_parse_6 : decode cX8_parse 6 = .ok (.iload_n 1, 1) := by decide +kernel
theorem dX8_parse_7 : decode cX8_parse 7 = .ok (.iconst 0, 1) := by decide +kernel
theorem dX8_parse_8 : decode cX8_parse 8 = .ok (.aload_n 0, 1) := by decide +kernel
theorem dX8_parse_9 : decode cX8_parse 9 = .ok (.getfield 59, 3) := by decide +kernel
theorem dX8_parse_12 : decode cX8_parse 12 = .ok (.invokestatic 80, 3) := by decide +kernel
theorem dX8_parse_15 : decode cX8_parse 15 = .ok (.ifCond .ne 7, 3) := by decide +kernel
theorem dX8_parse_18 : decode cX8_parse 18 = .ok (.iconst 1, 1) := by decide +kernel
theorem dX8_parse_19 : decode cX8_parse 19 = .ok (.goto 4, 3) := by decide +kernel
theorem dX8_parse_22 : decode cX8_parse 22 = .ok (.iconst 0, 1) := by decide +kernel
theorem dX8_parse_23 : decode cX8_parse 23 = .ok (.iconst 1, 1) := by decide +kernel
theorem dX8_parse_24 : decode cX8_parse 24 = .ok (.invokevirtual 176, 3) := by decide +kernel
theorem dX8_parse_27 : decode cX8_parse 27 = .ok (.ifCond .eq 5, 3) := by decide +kernel
theorem dX8_parse_30 : decode cX8_parse 30 = .ok (.iconst 0, 1) := by decide +kernel
theorem dX8_parse_31 : decode cX8_parse 31 = .ok (.ireturn, 1) := by decide +kernel
theorem dX8_parse_32 : decode cX8_parse 32 = .ok (.aload_n 0, 1) := by decide +kernel
theorem dX8_parse_33 : decode cX8_parse 33 = .ok (.iload_n 1, 1) := by decide +kernel
theorem dX8_parse_34 : decode cX8_parse 34 = .ok (.putfield 66, 3) := by decide +kernel
theorem dX8_parse_37 : decode cX8_parse 37 = .ok (.aload_n 0, 1) := by decide +kernel
theorem dX8_parse_38 : decode cX8_parse 38 = .ok (.iconst 0, 1) := by decide +kernel
theorem dX8_parse_39 : decode cX8_parse 39 = .ok (.putfield 59, 3) := by decide +kernel
theorem dX8_parse_42 : decode cX8_parse 42 = .ok (.aload_n 0, 1) := by decide +kernel
theorem dX8_parse_43 : decode cX8_parse 43 = .ok (.iconst 0, 1) := by decide +kernel
theorem dX8_parse_44 : decode cX8_parse 44 = .ok (.putfield 73, 3) := by decide +kernel
theorem dX8_parse_47 : decode cX8_parse 47 = .ok (.aload_n 0, 1) := by decide +kernel
theorem dX8_parse_48 : decode cX8_parse 48 = .ok (.iconst 0, 1) := by decide +kernel
theorem dX8_parse_49 : decode cX8_parse 49 = .ok (.putfield 105, 3) := by decide +kernel
theorem dX8_parse_52 : decode cX8_parse 52 = .ok (.aload_n 0, 1) := by decide +kernel
theorem dX8_parse_53 : decode cX8_parse 53 = .ok (.iconst (-1), 1) := by decide +kernel
theorem dX8_parse_54 : decode cX8_parse 54 = .ok (.putfield 24, 3) := by decide +kernel
theorem dX8_parse_57 : decode cX8_parse 57 = .ok (.aload_n 0, 1) := by decide +kernel
theorem dX8_parse_58 : decode cX8_parse 58 = .ok (.iconst 0, 1) := by decide +kernel
theorem dX8_parse_59 : decode cX8_parse 59 = .ok (.putfield 142, 3) := by decide +kernel
theorem dX8_parse_62 : decode cX8_parse 62 = .ok (.iconst 0, 1) := by decide +kernel
theorem dX8_parse_63 : decode cX8_parse 63 = .ok (.istore_n 2, 1) := by decide +kernel
theorem dX8_parse_64 : decode cX8_parse 64 = .ok (.iload_n 2, 1) := by decide +kernel
theorem dX8_parse_65 : decode cX8_parse 65 = .ok (.bipush 120, 2) := by decide +kernel
theorem dX8_parse_67 : decode cX8_parse 67 = .ok (.if_icmp .ge 16, 3) := by decide +kernel
theorem dX8_parse_70 : decode cX8_parse 70 = .ok (.aload_n 0, 1) := by decide +kernel
theorem dX8_parse_71 : decode cX8_parse 71 = .ok (.getfield 28, 3) := by decide +kernel
theorem dX8_parse_74 : decode cX8_parse 74 = .ok (.iload_n 2, 1) := by decide +kernel
theorem dX8_parse_75 : decode cX8_parse 75 = .ok (.iconst 0, 1) := by decide +kernel
theorem dX8_parse_76 : decode cX8_parse 76 = .ok (.iastore, 1) := by decide +kernel
theorem dX8_parse_77 : decode cX8_parse 77 = .ok (.iinc 2 1, 3) := by decide +kernel
theorem dX8_parse_80 : decode cX8_parse 80 = .ok (.goto (-16), 3) := by decide +kernel
theorem dX8_parse_83 : decode cX8_parse 83 = .ok (.aload_n 0, 1) := by decide +kernel
theorem dX8_parse_84 : decode cX8_parse 84 = .ok (.invokevirtual 112, 3) := by decide +kernel
theorem dX8_parse_87 : decode cX8_parse 87 = .ok (.aload_n 0, 1) := by decide +kernel
theorem dX8_parse_88 : decode cX8_parse 88 = .ok (.iconst 1, 1) := by decide +kernel
theorem dX8_parse_89 : decode cX8_parse 89 = .ok (.aload_n 0, 1) := by decide +kernel
theorem dX8_parse_90 : decode cX8_parse 90 = .ok (.ldc 180, 2) := by decide +kernel
theorem dX8_parse_92 : decode cX8_parse 92 = .ok (.invokevirtual 148, 3) := by decide +kernel
theorem dX8_parse_95 : decode cX8_parse 95 = .ok (.invokevirtual 122, 3) := by decide +kernel
theorem dX8_parse_98 : decode cX8_parse 98 = .ok (.ifCond .eq 25, 3) := by decide +kernel
theorem dX8_parse_101 : decode cX8_parse 101 = .ok (.aload_n 0, 1) := by decide +kernel
theorem dX8_parse_102 : decode cX8_parse 102 = .ok (.iconst 0, 1) := by decide +kernel
theorem dX8_parse_103 : decode cX8_parse 103 = .ok (.iconst 1, 1) := by decide +kernel
theorem dX8_parse_104 : decode cX8_parse 104 = .ok (.bipush 30, 2) := by decide +kernel
theorem dX8_parse_106 : decode cX8_parse 106 = .ok (.invokevirtual 133, 3) := by decide +kernel
theorem dX8_parse_109 : decode cX8_parse 109 = .ok (.ifCond .eq 14, 3) := by decide +kernel
theorem dX8_parse_112 : decode cX8_parse 112 = .ok (.aload_n 0, 1) := by decide +kernel
theorem dX8_parse_113 : decode cX8_parse 113 = .ok (.invokevirtual 182, 3) := by decide +kernel
theorem dX8_parse_116 : decode cX8_parse 116 = .ok (.ifCond .eq 7, 3) := by decide +kernel
theorem dX8_parse_119 : decode cX8_parse 119 = .ok (.iconst 1, 1) := by decide +kernel
theorem dX8_parse_120 : decode cX8_parse 120 = .ok (.goto 4, 3) := by decide +kernel
theorem dX8_parse_123 : decode cX8_parse 123 = .ok (.iconst 0, 1) := by decide +kernel
theorem dX8_parse_124 : decode cX8_parse 124 = .ok (.istore_n 2, 1) := by decide +kernel
theorem dX8_parse_125 : decode cX8_parse 125 = .ok (.iload_n 2, 1) := by decide +kernel
theorem dX8_parse_126 : decode cX8_parse 126 = .ok (.ifCond .eq 33, 3) := by decide +kernel
theorem dX8_parse_129 : decode cX8_parse 129 = .ok (.aload_n 0, 1) := by decide +kernel
theorem dX8_parse_130 : decode cX8_parse 130 = .ok (.getfield 90, 3) := by decide +kernel
theorem dX8_parse_133 : decode cX8_parse 133 = .ok (.ifCond .eq 26, 3) := by decide +kernel
theorem dX8_parse_136 : decode cX8_parse 136 = .ok (.aload_n 0, 1) := by decide +kernel
theorem dX8_parse_137 : decode cX8_parse 137 = .ok (.invokevirtual 185, 3) := by decide +kernel
theorem dX8_parse_140 : decode cX8_parse 140 = .ok (.ifCond .eq 14, 3) := by decide +kernel
theorem dX8_parse_143 : decode cX8_parse 143 = .ok (.aload_n 0, 1) := by decide +kernel
theorem dX8_parse_144 : decode cX8_parse 144 = .ok (.invokevirtual 182, 3) := by decide +kernel
theorem dX8_parse_147 : decode cX8_parse 147 = .ok (.ifCond .eq 7, 3) := by decide +kernel
theorem dX8_parse_150 : decode cX8_parse 150 = .ok (.iconst 1, 1) := by decide +kernel
theorem dX8_parse_151 : decode cX8_parse 151 = .ok (.goto 4, 3) := by decide +kernel
theorem dX8_parse_154 : decode cX8_parse 154 = .ok (.iconst 0, 1) := by decide +kernel
theorem dX8_parse_155 : decode cX8_parse 155 = .ok (.istore_n 2, 1) := by decide +kernel
theorem dX8_parse_156 : decode cX8_parse 156 = .ok (.goto (-31), 3) := by decide +kernel
theorem dX8_parse_159 : decode cX8_parse 159 = .ok (.iload_n 2, 1) := by decide +kernel
theorem dX8_parse_160 : decode cX8_parse 160 = .ok (.ifCond .ne 8, 3) := by decide +kernel
theorem dX8_parse_163 : decode cX8_parse 163 = .ok (.aload_n 0, 1) := by decide +kernel
theorem dX8_parse_164 : decode cX8_parse 164 = .ok (.getfield 105, 3) := by decide +kernel
theorem dX8_parse_167 : decode cX8_parse 167 = .ok (.ireturn, 1) := by decide +kernel
theorem dX8_parse_168 : decode cX8_parse 168 = .ok (.aload_n 0, 1) := by decide +kernel
theorem dX8_parse_169 : decode cX8_parse 169 = .ok (.invokevirtual 188, 3) := by decide +kernel
theorem dX8_parse_172 : decode cX8_parse 172 = .ok (.iconst 0, 1) := by decide +kernel
theorem dX8_parse_173 : decode cX8_parse 173 = .ok (.ireturn, 1) := by decide +kernel
theorem dX8_takesRead_0 : decode cX8_takesRead 0 = .ok (.iconst 0, 1) := by decide +kernel
theorem dX8_takesRead_1 : decode cX8_takesRead 1 = .ok (.istore_n 1, 1) := by decide +kernel
theorem dX8_takesRead_2 : decode cX8_takesRead 2 = .ok (.iload_n 1, 1) := by decide +kernel
theorem dX8_takesRead_3 : decode cX8_takesRead 3 = .ok (.bipush 120, 2) := by decide +kernel
theorem dX8_takesRead_5 : decode cX8_takesRead 5 = .ok (.if_icmp .ge 21, 3) := by decide +kernel
theorem dX8_takesRead_8 : decode cX8_takesRead 8 = .ok (.aload_n 0, 1) := by decide +kernel
theorem dX8_takesRead_9 : decode cX8_takesRead 9 = .ok (.getfield 7, 3) := by decide +kernel
theorem dX8_takesRead_12 : decode cX8_takesRead 12 = .ok (.iload_n 1, 1) := by decide +kernel
theorem dX8_takesRead_13 : decode cX8_takesRead 13 = .ok (.aload_n 0, 1) := by decide +kernel
theorem dX8_takesRead_14 : decode cX8_takesRead 14 = .ok (.getfield 28, 3) := by decide +kernel
theorem dX8_takesRead_17 : decode cX8_takesRead 17 = .ok (.iload_n 1, 1) := by decide +kernel
theorem dX8_takesRead_18 : decode cX8_takesRead 18 = .ok (.iaload, 1) := by decide +kernel
theorem dX8_takesRead_19 : decode cX8_takesRead 19 = .ok (.iastore, 1) := by decide +kernel
theorem dX8_takesRead_20 : decode cX8_takesRead 20 = .ok (.iinc 1 1, 3) := by decide +kernel
theorem dX8_takesRead_23 : decode cX8_takesRead 23 = .ok (.goto (-21), 3) := by decide +kernel
theorem dX8_takesRead_26 : decode cX8_takesRead 26 = .ok (.iconst 0, 1) := by decide +kernel
theorem dX8_takesRead_27 : decode cX8_takesRead 27 = .ok (.istore_n 1, 1) := by decide +kernel
theorem dX8_takesRead_28 : decode cX8_takesRead 28 = .ok (.iload_n 1, 1) := by decide +kernel
theorem dX8_takesRead_29 : decode cX8_takesRead 29 = .ok (.bipush 32, 2) := by decide +kernel
theorem dX8_takesRead_31 : decode cX8_takesRead 31 = .ok (.if_icmp .ge 21, 3) := by decide +kernel
theorem dX8_takesRead_34 : decode cX8_takesRead 34 = .ok (.aload_n 0, 1) := by decide +kernel
theorem dX8_takesRead_35 : decode cX8_takesRead 35 = .ok (.getfield 16, 3) := by decide +kernel
theorem dX8_takesRead_38 : decode cX8_takesRead 38 = .ok (.iload_n 1, 1) := by decide +kernel
theorem dX8_takesRead_39 : decode cX8_takesRead 39 = .ok (.aload_n 0, 1) := by decide +kernel
theorem dX8_takesRead_40 : decode cX8_takesRead 40 = .ok (.getfield 34, 3) := by decide +kernel
theorem dX8_takesRead_43 : decode cX8_takesRead 43 = .ok (.iload_n 1, 1) := by decide +kernel
theorem dX8_takesRead_44 : decode cX8_takesRead 44 = .ok (.laload, 1) := by decide +kernel
theorem dX8_takesRead_45 : decode cX8_takesRead 45 = .ok (.lastore, 1) := by decide +kernel
theorem dX8_takesRead_46 : decode cX8_takesRead 46 = .ok (.iinc 1 1, 3) := by decide +kernel
theorem dX8_takesRead_49 : decode cX8_takesRead 49 = .ok (.goto (-21), 3) := by decide +kernel
theorem dX8_takesRead_52 : decode cX8_takesRead 52 = .ok (.iconst 0, 1) := by decide +kernel
theorem dX8_takesRead_53 : decode cX8_takesRead 53 = .ok (.istore_n 1, 1) := by decide +kernel
theorem dX8_takesRead_54 : decode cX8_takesRead 54 = .ok (.iload_n 1, 1) := by decide +kernel
theorem dX8_takesRead_55 : decode cX8_takesRead 55 = .ok (.sipush 689, 3) := by decide +kernel
theorem dX8_takesRead_58 : decode cX8_takesRead 58 = .ok (.if_icmp .ge 16, 3) := by decide +kernel
theorem dX8_takesRead_61 : decode cX8_takesRead 61 = .ok (.aload_n 0, 1) := by decide +kernel
theorem dX8_takesRead_62 : decode cX8_takesRead 62 = .ok (.getfield 13, 3) := by decide +kernel
theorem dX8_takesRead_65 : decode cX8_takesRead 65 = .ok (.iload_n 1, 1) := by decide +kernel
theorem dX8_takesRead_66 : decode cX8_takesRead 66 = .ok (.iconst 0, 1) := by decide +kernel
theorem dX8_takesRead_67 : decode cX8_takesRead 67 = .ok (.iastore, 1) := by decide +kernel
theorem dX8_takesRead_68 : decode cX8_takesRead 68 = .ok (.iinc 1 1, 3) := by decide +kernel
theorem dX8_takesRead_71 : decode cX8_takesRead 71 = .ok (.goto (-17), 3) := by decide +kernel
theorem dX8_takesRead_74 : decode cX8_takesRead 74 = .ok (.iconst 0, 1) := by decide +kernel
theorem dX8_takesRead_75 : decode cX8_takesRead 75 = .ok (.istore_n 1, 1) := by decide +kernel
theorem dX8_takesRead_76 : decode cX8_takesRead 76 = .ok (.iload_n 1, 1) := by decide +kernel
theorem dX8_takesRead_77 : decode cX8_takesRead 77 = .ok (.bipush 8, 2) := by decide +kernel
theorem dX8_takesRead_79 : decode cX8_takesRead 79 = .ok (.if_icmp .ge 23, 3) := by decide +kernel
theorem dX8_takesRead_82 : decode cX8_takesRead 82 = .ok (.aload_n 0, 1) := by decide +kernel
theorem dX8_takesRead_83 : decode cX8_takesRead 83 = .ok (.getfield 13, 3) := by decide +kernel
theorem dX8_takesRead_86 : decode cX8_takesRead 86 = .ok (.iconst 1, 1) := by decide +kernel
theorem dX8_takesRead_87 : decode cX8_takesRead 87 = .ok (.iload_n 1, 1) := by decide +kernel
theorem dX8_takesRead_88 : decode cX8_takesRead 88 = .ok (.iadd, 1) := by decide +kernel
theorem dX8_takesRead_89 : decode cX8_takesRead 89 = .ok (.aload_n 0, 1) := by decide +kernel
theorem dX8_takesRead_90 : decode cX8_takesRead 90 = .ok (.getfield 31, 3) := by decide +kernel
theorem dX8_takesRead_93 : decode cX8_takesRead 93 = .ok (.iload_n 1, 1) := by decide +kernel
theorem dX8_takesRead_94 : decode cX8_takesRead 94 = .ok (.iaload, 1) := by decide +kernel
theorem dX8_takesRead_95 : decode cX8_takesRead 95 = .ok (.iastore, 1) := by decide +kernel
theorem dX8_takesRead_96 : decode cX8_takesRead 96 = .ok (.iinc 1 1, 3) := by decide +kernel
theorem dX8_takesRead_99 : decode cX8_takesRead 99 = .ok (.goto (-23), 3) := by decide +kernel
theorem dX8_takesRead_102 : decode cX8_takesRead 102 = .ok (.aload_n 0, 1) := by decide +kernel
theorem dX8_takesRead_103 : decode cX8_takesRead 103 = .ok (.iconst 0, 1) := by decide +kernel
theorem dX8_takesRead_104 : decode cX8_takesRead 104 = .ok (.putfield 191, 3) := by decide +kernel
theorem dX8_takesRead_107 : decode cX8_takesRead 107 = .ok (.aload_n 0, 1) := by decide +kernel
theorem dX8_takesRead_108 : decode cX8_takesRead 108 = .ok (.getfield 52, 3) := by decide +kernel
theorem dX8_takesRead_111 : decode cX8_takesRead 111 = .ok (.iconst 0, 1) := by decide +kernel
theorem dX8_takesRead_112 : decode cX8_takesRead 112 = .ok (.iconst 0, 1) := by decide +kernel
theorem dX8_takesRead_113 : decode cX8_takesRead 113 = .ok (.bastore, 1) := by decide +kernel
theorem dX8_takesRead_114 : decode cX8_takesRead 114 = .ok (.aload_n 0, 1) := by decide +kernel
theorem dX8_takesRead_115 : decode cX8_takesRead 115 = .ok (.getfield 52, 3) := by decide +kernel
theorem dX8_takesRead_118 : decode cX8_takesRead 118 = .ok (.iconst 1, 1) := by decide +kernel
theorem dX8_takesRead_119 : decode cX8_takesRead 119 = .ok (.iconst 0, 1) := by decide +kernel
theorem dX8_takesRead_120 : decode cX8_takesRead 120 = .ok (.bastore, 1) := by decide +kernel
theorem dX8_takesRead_121 : decode cX8_takesRead 121 = .ok (.return_, 1) := by decide +kernel
theorem dX8_errorPosition_0 : decode cX8_errorPosition 0 = .ok (.aload_n 0, 1) := by decide +kernel
theorem dX8_errorPosition_1 : decode cX8_errorPosition 1 = .ok (.iconst 0, 1) := by decide +kernel
theorem dX8_errorPosition_2 : decode cX8_errorPosition 2 = .ok (.putfield 56, 3) := by decide +kernel
theorem dX8_errorPosition_5 : decode cX8_errorPosition 5 = .ok (.aload_n 0, 1) := by decide +kernel
theorem dX8_errorPosition_6 : decode cX8_errorPosition 6 = .ok (.getfield 24, 3) := by decide +kernel
theorem dX8_errorPosition_9 : decode cX8_errorPosition 9 = .ok (.ireturn, 1) := by decide +kernel
theorem dX8_ofPlayer_0 : decode cX8_ofPlayer 0 = .ok (.aload_n 0, 1) := by decide +kernel
theorem dX8_ofPlayer_1 : decode cX8_ofPlayer 1 = .ok (.getfield 7, 3) := by decide +kernel
theorem dX8_ofPlayer_4 : decode cX8_ofPlayer 4 = .ok (.bipush 9, 2) := by decide +kernel
theorem dX8_ofPlayer_6 : decode cX8_ofPlayer 6 = .ok (.bipush 7, 2) := by decide +kernel
theorem dX8_ofPlayer_8 : decode cX8_ofPlayer 8 = .ok (.iload_n 1, 1) := by decide +kernel
theorem dX8_ofPlayer_9 : decode cX8_ofPlayer 9 = .ok (.imul, 1) := by decide +kernel
theorem dX8_ofPlayer_10 : decode cX8_ofPlayer 10 = .ok (.iadd, 1) := by decide +kernel
theorem dX8_ofPlayer_11 : decode cX8_ofPlayer 11 = .ok (.iload_n 2, 1) := by decide +kernel
theorem dX8_ofPlayer_12 : decode cX8_ofPlayer 12 = .ok (.iadd, 1) := by decide +kernel
theorem dX8_ofPlayer_13 : decode cX8_ofPlayer 13 = .ok (.iaload, 1) := by decide +kernel
theorem dX8_ofPlayer_14 : decode cX8_ofPlayer 14 = .ok (.ireturn, 1) := by decide +kernel
theorem dX8_ofWork_0 : decode cX8_ofWork 0 = .ok (.aload_n 0, 1) := by decide +kernel
theorem dX8_ofWork_1 : decode cX8_ofWork 1 = .ok (.getfield 7, 3) := by decide +kernel
theorem dX8_ofWork_4 : decode cX8_ofWork 4 = .ok (.bipush 65, 2) := by decide +kernel
theorem dX8_ofWork_6 : decode cX8_ofWork 6 = .ok (.bipush 11, 2) := by decide +kernel
theorem dX8_ofWork_8 : decode cX8_ofWork 8 = .ok (.iload_n 1, 1) := by decide +kernel
theorem dX8_ofWork_9 : decode cX8_ofWork 9 = .ok (.imul, 1) := by decide +kernel
theorem dX8_ofWork_10 : decode cX8_ofWork 10 = .ok (.iadd, 1) := by decide +kernel
theorem dX8_ofWork_11 : decode cX8_ofWork 11 = .ok (.iload_n 2, 1) := by decide +kernel
theorem dX8_ofWork_12 : decode cX8_ofWork 12 = .ok (.iadd, 1) := by decide +kernel
theorem dX8_ofWork_13 : decode cX8_ofWork 13 = .ok (.iaload, 1) := by decide +kernel
theorem dX8_ofWork_14 : decode cX8_ofWork 14 = .ok (.ireturn, 1) := by decide +kernel
theorem dX8_plays_0 : decode cX8_plays 0 = .ok (.iconst 0, 1) := by decide +kernel
theorem dX8_plays_1 : decode cX8_plays 1 = .ok (.istore_n 3, 1) := by decide +kernel
theorem dX8_plays_2 : decode cX8_plays 2 = .ok (.iconst 0, 1) := by decide +kernel
theorem dX8_plays_3 : decode cX8_plays 3 = .ok (.istore 4, 2) := by decide +kernel
theorem dX8_plays_5 : decode cX8_plays 5 = .ok (.iload 4, 2) := by decide +kernel
theorem dX8_plays_7 : decode cX8_plays 7 = .ok (.aload_n 0, 1) := by decide +kernel
theorem dX8_plays_8 : decode cX8_plays 8 = .ok (.iload_n 1, 1) := by decide +kernel
theorem dX8_plays_9 : decode cX8_plays 9 = .ok (.iconst 2, 1) := by decide +kernel
theorem dX8_plays_10 : decode cX8_plays 10 = .ok (.invokevirtual 194, 3) := by decide +kernel
theorem dX8_plays_13 : decode cX8_plays 13 = .ok (.if_icmp .ge 32, 3) := by decide +kernel
theorem dX8_plays_16 : decode cX8_plays 16 = .ok (.iload_n 3, 1) := by decide +kernel
theorem dX8_plays_17 : decode cX8_plays 17 = .ok (.ifCond .ne 16, 3) := by decide +kernel
theorem dX8_plays_20 : decode cX8_plays 20 = .ok (.aload_n 0, 1) := by decide +kernel
theorem dX8_plays_21 : decode cX8_plays 21 = .ok (.iload_n 1, 1) := by decide +kernel
theorem dX8_plays_22 : decode cX8_plays 22 = .ok (.iconst 3, 1) := by decide +kernel
theorem dX8_plays_23 : decode cX8_plays 23 = .ok (.iload 4, 2) := by decide +kernel
theorem dX8_plays_25 : decode cX8_plays 25 = .ok (.iadd, 1) := by decide +kernel
theorem dX8_plays_26 : decode cX8_plays 26 = .ok (.invokevirtual 194, 3) := by decide +kernel
theorem dX8_plays_29 : decode cX8_plays 29 = .ok (.iload_n 2, 1) := by decide +kernel
theorem dX8_plays_30 : decode cX8_plays 30 = .ok (.if_icmp .ne 7, 3) := by decide +kernel
theorem dX8_plays_33 : decode cX8_plays 33 = .ok (.iconst 1, 1) := by decide +kernel
theorem dX8_plays_34 : decode cX8_plays 34 = .ok (.goto 4, 3) := by decide +kernel
theorem dX8_plays_37 : decode cX8_plays 37 = .ok (.iconst 0, 1) := by decide +kernel
theorem dX8_plays_38 : decode cX8_plays 38 = .ok (.istore_n 3, 1) := by decide +kernel
theorem dX8_plays_39 : decode cX8_plays 39 = .ok (.iinc 4 1, 3) := by decide +kernel
theorem dX8_plays_42 : decode cX8_plays 42 = .ok (.goto (-37), 3) := by decide +kernel
theorem dX8_plays_45 : decode cX8_plays 45 = .ok (.iload_n 3, 1) := by decide +kernel
theorem dX8_plays_46 : decode cX8_plays 46 = .ok (.ireturn, 1) := by decide +kernel
theorem dX8_slotMany_0 : decode cX8_slotMany 0 = .ok (.iconst 3, 1) := by decide +kernel
theorem dX8_slotMany_1 : decode cX8_slotMany 1 = .ok (.aload_n 0, 1) := by decide +kernel
theorem dX8_slotMany_2 : decode cX8_slotMany 2 = .ok (.getfield 7, 3) := by decide +kernel
theorem dX8_slotMany_5 : decode cX8_slotMany 5 = .ok (.iconst 0, 1) := by decide +kernel
theorem dX8_slotMany_6 : decode cX8_slotMany 6 = .ok (.iaload, 1) := by decide +kernel
theorem dX8_slotMany_7 : decode cX8_slotMany 7 = .ok (.imul, 1) := by decide +kernel
theorem dX8_slotMany_8 : decode cX8_slotMany 8 = .ok (.ireturn, 1) := by decide +kernel
theorem dX8_of_0 : decode cX8_of 0 = .ok (.aload_n 0, 1) := by decide +kernel
theorem dX8_of_1 : decode cX8_of 1 = .ok (.getfield 13, 3) := by decide +kernel
theorem dX8_of_4 : decode cX8_of 4 = .ok (.bipush 9, 2) := by decide +kernel
theorem dX8_of_6 : decode cX8_of 6 = .ok (.bipush 34, 2) := by decide +kernel
theorem dX8_of_8 : decode cX8_of 8 = .ok (.iload_n 1, 1) := by decide +kernel
theorem dX8_of_9 : decode cX8_of 9 = .ok (.imul, 1) := by decide +kernel
theorem dX8_of_10 : decode cX8_of 10 = .ok (.iadd, 1) := by decide +kernel
theorem dX8_of_11 : decode cX8_of 11 = .ok (.iload_n 2, 1) := by decide +kernel
theorem dX8_of_12 : decode cX8_of 12 = .ok (.iadd, 1) := by decide +kernel
theorem dX8_of_13 : decode cX8_of 13 = .ok (.iaload, 1) := by decide +kernel
theorem dX8_of_14 : decode cX8_of 14 = .ok (.ireturn, 1) := by decide +kernel
theorem dX8_hasWork_0 : decode cX8_hasWork 0 = .ok (.aload_n 0, 1) := by decide +kernel
theorem dX8_hasWork_1 : decode cX8_hasWork 1 = .ok (.iload_n 1, 1) := by decide +kernel
theorem dX8_hasWork_2 : decode cX8_hasWork 2 = .ok (.iconst 3, 1) := by decide +kernel
theorem dX8_hasWork_3 : decode cX8_hasWork 3 = .ok (.invokevirtual 198, 3) := by decide +kernel
theorem dX8_hasWork_6 : decode cX8_hasWork 6 = .ok (.iload_n 2, 1) := by decide +kernel
theorem dX8_hasWork_7 : decode cX8_hasWork 7 = .ok (.ishr, 1) := by decide +kernel
theorem dX8_hasWork_8 : decode cX8_hasWork 8 = .ok (.iconst 1, 1) := by decide +kernel
theorem dX8_hasWork_9 : decode cX8_hasWork 9 = .ok (.iand, 1) := by decide +kernel
theorem dX8_hasWork_10 : decode cX8_hasWork 10 = .ok (.iconst 1, 1) := by decide +kernel
theorem dX8_hasWork_11 : decode cX8_hasWork 11 = .ok (.if_icmp .ne 7, 3) := by decide +kernel
theorem dX8_hasWork_14 : decode cX8_hasWork 14 = .ok (.iconst 1, 1) := by decide +kernel
theorem dX8_hasWork_15 : decode cX8_hasWork 15 = .ok (.goto 4, 3) := by decide +kernel
theorem dX8_hasWork_18 : decode cX8_hasWork 18 = .ok (.iconst 0, 1) := by decide +kernel
theorem dX8_hasWork_19 : decode cX8_hasWork 19 = .ok (.ireturn, 1) := by decide +kernel
theorem dX8_castOf_0 : decode cX8_castOf 0 = .ok (.aload_n 0, 1) := by decide +kernel
theorem dX8_castOf_1 : decode cX8_castOf 1 = .ok (.iload_n 1, 1) := by decide +kernel
theorem dX8_castOf_2 : decode cX8_castOf 2 = .ok (.iconst 4, 1) := by decide +kernel
theorem dX8_castOf_3 : decode cX8_castOf 3 = .ok (.bipush 6, 2) := by decide +kernel
theorem dX8_castOf_5 : decode cX8_castOf 5 = .ok (.iload_n 2, 1) := by decide +kernel
theorem dX8_castOf_6 : decode cX8_castOf 6 = .ok (.imul, 1) := by decide +kernel
theorem dX8_castOf_7 : decode cX8_castOf 7 = .ok (.iadd, 1) := by decide +kernel
theorem dX8_castOf_8 : decode cX8_castOf 8 = .ok (.iload_n 3, 1) := by decide +kernel
theorem dX8_castOf_9 : decode cX8_castOf 9 = .ok (.iadd, 1) := by decide +kernel
theorem dX8_castOf_10 : decode cX8_castOf 10 = .ok (.invokevirtual 198, 3) := by decide +kernel
theorem dX8_castOf_13 : decode cX8_castOf 13 = .ok (.ireturn, 1) := by decide +kernel
theorem dX8_inService_0 : decode cX8_inService 0 = .ok (.iconst 0, 1) := by decide +kernel
theorem dX8_inService_1 : decode cX8_inService 1 = .ok (.istore_n 2, 1) := by decide +kernel
theorem dX8_inService_2 : decode cX8_inService 2 = .ok (.iconst 0, 1) := by decide +kernel
theorem dX8_inService_3 : decode cX8_inService 3 = .ok (.istore_n 3, 1) := by decide +kernel
theorem dX8_inService_4 : decode cX8_inService 4 = .ok (.iload_n 3, 1) := by decide +kernel
theorem dX8_inService_5 : decode cX8_inService 5 = .ok (.aload_n 0, 1) := by decide +kernel
theorem dX8_inService_6 : decode cX8_inService 6 = .ok (.getfield 7, 3) := by decide +kernel
theorem dX8_inService_9 : decode cX8_inService 9 = .ok (.iconst 3, 1) := by decide +kernel
theorem dX8_inService_10 : decode cX8_inService 10 = .ok (.iaload, 1) := by decide +kernel
theorem dX8_inService_11 : decode cX8_inService 11 = .ok (.if_icmp .ge 51, 3) := by decide +kernel
theorem dX8_inService_14 : decode cX8_inService 14 = .ok (.iconst 0, 1) := by decide +kernel
theorem dX8_inService_15 : decode cX8_inService 15 = .ok (.istore 4, 2) := by decide +kernel
theorem dX8_inService_17 : decode cX8_inService 17 = .ok (.iload 4, 2) := by decide +kernel
theorem dX8_inService_19 : decode cX8_inService 19 = .ok (.aload_n 0, 1) := by decide +kernel
theorem dX8_inService_20 : decode cX8_inService 20 = .ok (.iload_n 3, 1) := by decide +kernel
theorem dX8_inService_21 : decode cX8_inService 21 = .ok (.iconst 4, 1) := by decide +kernel
theorem dX8_inService_22 : decode cX8_inService 22 = .ok (.invokevirtual 201, 3) := by decide +kernel
theorem dX8_inService_25 : decode cX8_inService 25 = .ok (.if_icmp .ge 31, 3) := by decide +kernel
theorem dX8_inService_28 : decode cX8_inService 28 = .ok (.aload_n 0, 1) := by decide +kernel
theorem dX8_inService_29 : decode cX8_inService 29 = .ok (.iload_n 1, 1) := by decide +kernel
theorem dX8_inService_30 : decode cX8_inService 30 = .ok (.iload_n 3, 1) := by decide +kernel
theorem dX8_inService_31 : decode cX8_inService 31 = .ok (.invokevirtual 204, 3) := by decide +kernel
theorem dX8_inService_34 : decode cX8_inService 34 = .ok (.ifCond .eq 22, 3) := by decide +kernel
theorem dX8_inService_37 : decode cX8_inService 37 = .ok (.iload_n 2, 1) := by decide +kernel
theorem dX8_inService_38 : decode cX8_inService 38 = .ok (.iconst 1, 1) := by decide +kernel
theorem dX8_inService_39 : decode cX8_inService 39 = .ok (.aload_n 0, 1) := by decide +kernel
theorem dX8_inService_40 : decode cX8_inService 40 = .ok (.iload_n 1, 1) := by decide +kernel
theorem dX8_inService_41 : decode cX8_inService 41 = .ok (.iload_n 3, 1) := by decide +kernel
theorem dX8_inService_42 : decode cX8_inService 42 = .ok (.iload 4, 2) := by decide +kernel
theorem dX8_inService_44 : decode cX8_inService 44 = .ok (.invokevirtual 207, 3) := by decide +kernel
theorem dX8_inService_47 : decode cX8_inService 47 = .ok (.ishl, 1) := by decide +kernel
theorem dX8_inService_48 : decode cX8_inService 48 = .ok (.ior, 1) := by decide +kernel
theorem dX8_inService_49 : decode cX8_inService 49 = .ok (.istore_n 2, 1) := by decide +kernel
theorem dX8_inService_50 : decode cX8_inService 50 = .ok (.iinc 4 1, 3) := by decide +kernel
theorem dX8_inService_53 : decode cX8_inService 53 = .ok (.goto (-36), 3) := by decide +kernel
theorem dX8_inService_56 : decode cX8_inService 56 = .ok (.iinc 3 1, 3) := by decide +kernel
theorem dX8_inService_59 : decode cX8_inService 59 = .ok (.goto (-55), 3) := by decide +kernel
theorem dX8_inService_62 : decode cX8_inService 62 = .ok (.iload_n 2, 1) := by decide +kernel
theorem dX8_inService_63 : decode cX8_inService 63 = .ok (.ireturn, 1) := by decide +kernel
theorem dX8_doublingsIn_0 : decode cX8_doublingsIn 0 = .ok (.iconst 0, 1) := by decide +kernel
theorem dX8_doublingsIn_1 : decode cX8_doublingsIn 1 = .ok (.istore_n 3, 1) := by decide +kernel
theorem dX8_doublingsIn_2 : decode cX8_doublingsIn 2 = .ok (.iconst 0, 1) := by decide +kernel
theorem dX8_doublingsIn_3 : decode cX8_doublingsIn 3 = .ok (.istore 4, 2) := by decide +kernel
theorem dX8_doublingsIn_5 : decode cX8_doublingsIn 5 = .ok (.iload 4, 2) := by decide +kernel
theorem dX8_doublingsIn_7 : decode cX8_doublingsIn 7 = .ok (.aload_n 0, 1) := by decide +kernel
theorem dX8_doublingsIn_8 : decode cX8_doublingsIn 8 = .ok (.getfield 7, 3) := by decide +kernel
theorem dX8_doublingsIn_11 : decode cX8_doublingsIn 11 = .ok (.iconst 3, 1) := by decide +kernel
theorem dX8_doublingsIn_12 : decode cX8_doublingsIn 12 = .ok (.iaload, 1) := by decide +kernel
theorem dX8_doublingsIn_13 : decode cX8_doublingsIn 13 = .ok (.if_icmp .ge 90, 3) := by decide +kernel
theorem dX8_doublingsIn_16 : decode cX8_doublingsIn 16 = .ok (.iconst 0, 1) := by decide +kernel
theorem dX8_doublingsIn_17 : decode cX8_doublingsIn 17 = .ok (.istore 5, 2) := by decide +kernel
theorem dX8_doublingsIn_19 : decode cX8_doublingsIn 19 = .ok (.iload 5, 2) := by decide +kernel
theorem dX8_doublingsIn_21 : decode cX8_doublingsIn 21 = .ok (.aload_n 0, 1) := by decide +kernel
theorem dX8_doublingsIn_22 : decode cX8_doublingsIn 22 = .ok (.iload 4, 2) := by decide +kernel
theorem dX8_doublingsIn_24 : decode cX8_doublingsIn 24 = .ok (.iconst 4, 1) := by decide +kernel
theorem dX8_doublingsIn_25 : decode cX8_doublingsIn 25 = .ok (.invokevirtual 201, 3) := by decide +kernel
theorem dX8_doublingsIn_28 : decode cX8_doublingsIn 28 = .ok (.if_icmp .ge 69, 3) := by decide +kernel
theorem dX8_doublingsIn_31 : decode cX8_doublingsIn 31 = .ok (.aload_n 0, 1) := by decide +kernel
theorem dX8_doublingsIn_32 : decode cX8_doublingsIn 32 = .ok (.iload_n 1, 1) := by decide +kernel
theorem dX8_doublingsIn_33 : decode cX8_doublingsIn 33 = .ok (.iload 4, 2) := by decide +kernel
theorem dX8_doublingsIn_35 : decode cX8_doublingsIn 35 = .ok (.invokevirtual 204, 3) := by decide +kernel
theorem dX8_doublingsIn_38 : decode cX8_doublingsIn 38 = .ok (.ifCond .eq 59, 3) := by decide +kernel
theorem dX8_doublingsIn_41 : decode cX8_doublingsIn 41 = .ok (.aload_n 0, 1) := by decide +kernel
theorem dX8_doublingsIn_42 : decode cX8_doublingsIn 42 = .ok (.iload_n 1, 1) := by decide +kernel
theorem dX8_doublingsIn_43 : decode cX8_doublingsIn 43 = .ok (.iload 4, 2) := by decide +kernel
theorem dX8_doublingsIn_45 : decode cX8_doublingsIn 45 = .ok (.iload 5, 2) := by decide +kernel
theorem dX8_doublingsIn_47 : decode cX8_doublingsIn 47 = .ok (.invokevirtual 207, 3) := by decide +kernel
theorem dX8_doublingsIn_50 : decode cX8_doublingsIn 50 = .ok (.istore 6, 2) := by decide +kernel
theorem dX8_doublingsIn_52 : decode cX8_doublingsIn 52 = .ok (.iload_n 3, 1) := by decide +kernel
theorem dX8_doublingsIn_53 : decode cX8_doublingsIn 53 = .ok (.iload_n 2, 1) := by decide +kernel
theorem dX8_doublingsIn_54 : decode cX8_doublingsIn 54 = .ok (.iconst (-1), 1) := by decide +kernel
theorem dX8_doublingsIn_55 : decode cX8_doublingsIn 55 = .ok (.if_icmp .eq 9, 3) := by decide +kernel
theorem dX8_doublingsIn_58 : decode cX8_doublingsIn 58 = .ok (.iload 6, 2) := by decide +kernel
theorem dX8_doublingsIn_60 : decode cX8_doublingsIn 60 = .ok (.iload_n 2, 1) := by decide +kernel
theorem dX8_doublingsIn_61 : decode cX8_doublingsIn 61 = .ok (.if_icmp .ne 27, 3) := by decide +kernel
theorem dX8_doublingsIn_64 : decode cX8_doublingsIn 64 = .ok (.aload_n 0, 1) := by decide +kernel
theorem dX8_doublingsIn_65 : decode cX8_doublingsIn 65 = .ok (.iload 6, 2) := by decide +kernel
theorem dX8_doublingsIn_67 : decode cX8_doublingsIn 67 = .ok (.iconst 3, 1) := by decide +kernel
theorem dX8_doublingsIn_68 : decode cX8_doublingsIn 68 = .ok (.invokevirtual 194, 3) := by decide +kernel
theorem dX8_doublingsIn_71 : decode cX8_doublingsIn 71 = .ok (.aload_n 0, 1) := by decide +kernel
theorem dX8_doublingsIn_72 : decode cX8_doublingsIn 72 = .ok (.iload 4, 2) := by decide +kernel
theorem dX8_doublingsIn_74 : decode cX8_doublingsIn 74 = .ok (.iconst 5, 1) := by decide +kernel
theorem dX8_doublingsIn_75 : decode cX8_doublingsIn 75 = .ok (.iload 5, 2) := by decide +kernel
theorem dX8_doublingsIn_77 : decode cX8_doublingsIn 77 = .ok (.iadd, 1) := by decide +kernel
theorem dX8_doublingsIn_78 : decode cX8_doublingsIn 78 = .ok (.invokevirtual 201, 3) := by decide +kernel
theorem dX8_doublingsIn_81 : decode cX8_doublingsIn 81 = .ok (.if_icmp .eq 7, 3) := by decide +kernel
theorem dX8_doublingsIn_84 : decode cX8_doublingsIn 84 = .ok (.iconst 1, 1) := by decide +kernel
theorem dX8_doublingsIn_85 : decode cX8_doublingsIn 85 = .ok (.goto 4, 3) := by decide +kernel
theorem dX8_doublingsIn_88 : decode cX8_doublingsIn 88 = .ok (.iconst 0, 1) := by decide +kernel
theorem dX8_doublingsIn_89 : decode cX8_doublingsIn 89 = .ok (.iadd, 1) := by decide +kernel
theorem dX8_doublingsIn_90 : decode cX8_doublingsIn 90 = .ok (.istore_n 3, 1) := by decide +kernel
theorem dX8_doublingsIn_91 : decode cX8_doublingsIn 91 = .ok (.iinc 5 1, 3) := by decide +kernel
theorem dX8_doublingsIn_94 : decode cX8_doublingsIn 94 = .ok (.goto (-75), 3) := by decide +kernel
theorem dX8_doublingsIn_97 : decode cX8_doublingsIn 97 = .ok (.iinc 4 1, 3) := by decide +kernel
theorem dX8_doublingsIn_100 : decode cX8_doublingsIn 100 = .ok (.goto (-95), 3) := by decide +kernel
theorem dX8_doublingsIn_103 : decode cX8_doublingsIn 103 = .ok (.iload_n 3, 1) := by decide +kernel
theorem dX8_doublingsIn_104 : decode cX8_doublingsIn 104 = .ok (.ireturn, 1) := by decide +kernel
theorem dX8_freeAt_0 : decode cX8_freeAt 0 = .ok (.iconst 0, 1) := by decide +kernel
theorem dX8_freeAt_1 : decode cX8_freeAt 1 = .ok (.istore_n 2, 1) := by decide +kernel
theorem dX8_freeAt_2 : decode cX8_freeAt 2 = .ok (.iconst 0, 1) := by decide +kernel
theorem dX8_freeAt_3 : decode cX8_freeAt 3 = .ok (.istore_n 3, 1) := by decide +kernel
theorem dX8_freeAt_4 : decode cX8_freeAt 4 = .ok (.iload_n 3, 1) := by decide +kernel
theorem dX8_freeAt_5 : decode cX8_freeAt 5 = .ok (.aload_n 0, 1) := by decide +kernel
theorem dX8_freeAt_6 : decode cX8_freeAt 6 = .ok (.getfield 7, 3) := by decide +kernel
theorem dX8_freeAt_9 : decode cX8_freeAt 9 = .ok (.iconst 2, 1) := by decide +kernel
theorem dX8_freeAt_10 : decode cX8_freeAt 10 = .ok (.iaload, 1) := by decide +kernel
theorem dX8_freeAt_11 : decode cX8_freeAt 11 = .ok (.if_icmp .ge 34, 3) := by decide +kernel
theorem dX8_freeAt_14 : decode cX8_freeAt 14 = .ok (.iload_n 2, 1) := by decide +kernel
theorem dX8_freeAt_15 : decode cX8_freeAt 15 = .ok (.aload_n 0, 1) := by decide +kernel
theorem dX8_freeAt_16 : decode cX8_freeAt 16 = .ok (.iload_n 3, 1) := by decide +kernel
theorem dX8_freeAt_17 : decode cX8_freeAt 17 = .ok (.iconst 1, 1) := by decide +kernel
theorem dX8_freeAt_18 : decode cX8_freeAt 18 = .ok (.invokevirtual 194, 3) := by decide +kernel
theorem dX8_freeAt_21 : decode cX8_freeAt 21 = .ok (.iload_n 1, 1) := by decide +kernel
theorem dX8_freeAt_22 : decode cX8_freeAt 22 = .ok (.iconst 3, 1) := by decide +kernel
theorem dX8_freeAt_23 : decode cX8_freeAt 23 = .ok (.idiv, 1) := by decide +kernel
theorem dX8_freeAt_24 : decode cX8_freeAt 24 = .ok (.ishr, 1) := by decide +kernel
theorem dX8_freeAt_25 : decode cX8_freeAt 25 = .ok (.iconst 1, 1) := by decide +kernel
theorem dX8_freeAt_26 : decode cX8_freeAt 26 = .ok (.iand, 1) := by decide +kernel
theorem dX8_freeAt_27 : decode cX8_freeAt 27 = .ok (.ifCond .ne 9, 3) := by decide +kernel
theorem dX8_freeAt_30 : decode cX8_freeAt 30 = .ok (.iconst 1, 1) := by decide +kernel
theorem dX8_freeAt_31 : decode cX8_freeAt 31 = .ok (.iload_n 3, 1) := by decide +kernel
theorem dX8_freeAt_32 : decode cX8_freeAt 32 = .ok (.ishl, 1) := by decide +kernel
theorem dX8_freeAt_33 : decode cX8_freeAt 33 = .ok (.goto 4, 3) := by decide +kernel
theorem dX8_freeAt_36 : decode cX8_freeAt 36 = .ok (.iconst 0, 1) := by decide +kernel
theorem dX8_freeAt_37 : decode cX8_freeAt 37 = .ok (.ior, 1) := by decide +kernel
theorem dX8_freeAt_38 : decode cX8_freeAt 38 = .ok (.istore_n 2, 1) := by decide +kernel
theorem dX8_freeAt_39 : decode cX8_freeAt 39 = .ok (.iinc 3 1, 3) := by decide +kernel
theorem dX8_freeAt_42 : decode cX8_freeAt 42 = .ok (.goto (-38), 3) := by decide +kernel
theorem dX8_freeAt_45 : decode cX8_freeAt 45 = .ok (.iconst 0, 1) := by decide +kernel
theorem dX8_freeAt_46 : decode cX8_freeAt 46 = .ok (.istore_n 3, 1) := by decide +kernel
theorem dX8_freeAt_47 : decode cX8_freeAt 47 = .ok (.iload_n 3, 1) := by decide +kernel
theorem dX8_freeAt_48 : decode cX8_freeAt 48 = .ok (.aload_n 0, 1) := by decide +kernel
theorem dX8_freeAt_49 : decode cX8_freeAt 49 = .ok (.getfield 13, 3) := by decide +kernel
theorem dX8_freeAt_52 : decode cX8_freeAt 52 = .ok (.iconst 0, 1) := by decide +kernel
theorem dX8_freeAt_53 : decode cX8_freeAt 53 = .ok (.iaload, 1) := by decide +kernel
theorem dX8_freeAt_54 : decode cX8_freeAt 54 = .ok (.if_icmp .ge 33, 3) := by decide +kernel
theorem dX8_freeAt_57 : decode cX8_freeAt 57 = .ok (.iload_n 2, 1) := by decide +kernel
theorem dX8_freeAt_58 : decode cX8_freeAt 58 = .ok (.aload_n 0, 1) := by decide +kernel
theorem dX8_freeAt_59 : decode cX8_freeAt 59 = .ok (.iload_n 3, 1) := by decide +kernel
theorem dX8_freeAt_60 : decode cX8_freeAt 60 = .ok (.iconst 0, 1) := by decide +kernel
theorem dX8_freeAt_61 : decode cX8_freeAt 61 = .ok (.invokevirtual 198, 3) := by decide +kernel
theorem dX8_freeAt_64 : decode cX8_freeAt 64 = .ok (.iload_n 1, 1) := by decide +kernel
theorem dX8_freeAt_65 : decode cX8_freeAt 65 = .ok (.if_icmp .ne 13, 3) := by decide +kernel
theorem dX8_freeAt_68 : decode cX8_freeAt 68 = .ok (.aload_n 0, 1) := by decide +kernel
theorem dX8_freeAt_69 : decode cX8_freeAt 69 = .ok (.iload_n 3, 1) := by decide +kernel
theorem dX8_freeAt_70 : decode cX8_freeAt 70 = .ok (.invokevirtual 211, 3) := by decide +kernel
theorem dX8_freeAt_73 : decode cX8_freeAt 73 = .ok (.iconst (-1), 1) := by decide +kernel
theorem dX8_freeAt_74 : decode cX8_freeAt 74 = .ok (.ixor, 1) := by decide +kernel
theorem dX8_freeAt_75 : decode cX8_freeAt 75 = .ok (.goto 4, 3) := by decide +kernel
theorem dX8_freeAt_78 : decode cX8_freeAt 78 = .ok (.iconst (-1), 1) := by decide +kernel
theorem dX8_freeAt_79 : decode cX8_freeAt 79 = .ok (.iand, 1) := by decide +kernel
theorem dX8_freeAt_80 : decode cX8_freeAt 80 = .ok (.istore_n 2, 1) := by decide +kernel
theorem dX8_freeAt_81 : decode cX8_freeAt 81 = .ok (.iinc 3 1, 3) := by decide +kernel
theorem dX8_freeAt_84 : decode cX8_freeAt 84 = .ok (.goto (-37), 3) := by decide +kernel
theorem dX8_freeAt_87 : decode cX8_freeAt 87 = .ok (.iload_n 2, 1) := by decide +kernel
theorem dX8_freeAt_88 : decode cX8_freeAt 88 = .ok (.ireturn, 1) := by decide +kernel
theorem dX8_tries_0 : decode cX8_tries 0 = .ok (.iload 4, 2) := by decide +kernel
theorem dX8_tries_2 : decode cX8_tries 2 = .ok (.aload_n 0, 1) := by decide +kernel
theorem dX8_tries_3 : decode cX8_tries 3 = .ok (.getfield 214, 3) := by decide +kernel
theorem dX8_tries_6 : decode cX8_tries 6 = .ok (.if_icmp .lt 4, 3) := by decide +kernel
theorem dX8_tries_9 : decode cX8_tries 9 = .ok (.return_, 1) := by decide +kernel
theorem dX8_tries_10 : decode cX8_tries 10 = .ok (.iload_n 2, 1) := by decide +kernel
theorem dX8_tries_11 : decode cX8_tries 11 = .ok (.aload_n 0, 1) := by decide +kernel
theorem dX8_tries_12 : decode cX8_tries 12 = .ok (.iload_n 1, 1) := by decide +kernel
theorem dX8_tries_13 : decode cX8_tries 13 = .ok (.iconst 4, 1) := by decide +kernel
theorem dX8_tries_14 : decode cX8_tries 14 = .ok (.invokevirtual 201, 3) := by decide +kernel
theorem dX8_tries_17 : decode cX8_tries 17 = .ok (.if_icmp .ne 39, 3) := by decide +kernel
theorem dX8_tries_20 : decode cX8_tries 20 = .ok (.aload_n 0, 1) := by decide +kernel
theorem dX8_tries_21 : decode cX8_tries 21 = .ok (.iload 4, 2) := by decide +kernel
theorem dX8_tries_23 : decode cX8_tries 23 = .ok (.putfield 214, 3) := by decide +kernel
theorem dX8_tries_26 : decode cX8_tries 26 = .ok (.iconst 0, 1) := by decide +kernel
theorem dX8_tries_27 : decode cX8_tries 27 = .ok (.istore 5, 2) := by decide +kernel
theorem dX8_tries_29 : decode cX8_tries 29 = .ok (.iload 5, 2) := by decide +kernel
theorem dX8_tries_31 : decode cX8_tries 31 = .ok (.iload_n 2, 1) := by decide +kernel
theorem dX8_tries_32 : decode cX8_tries 32 = .ok (.if_icmp .ge 23, 3) := by decide +kernel
theorem dX8_tries_35 : decode cX8_tries 35 = .ok (.aload_n 0, 1) := by decide +kernel
theorem dX8_tries_36 : decode cX8_tries 36 = .ok (.getfield 37, 3) := by decide +kernel
theorem dX8_tries_39 : decode cX8_tries 39 = .ok (.iload 5, 2) := by decide +kernel
theorem dX8_tries_41 : decode cX8_tries 41 = .ok (.aload_n 0, 1) := by decide +kernel
theorem dX8_tries_42 : decode cX8_tries 42 = .ok (.getfield 40, 3) := by decide +kernel
theorem dX8_tries_45 : decode cX8_tries 45 = .ok (.iload 5, 2) := by decide +kernel
theorem dX8_tries_47 : decode cX8_tries 47 = .ok (.iaload, 1) := by decide +kernel
theorem dX8_tries_48 : decode cX8_tries 48 = .ok (.iastore, 1) := by decide +kernel
theorem dX8_tries_49 : decode cX8_tries 49 = .ok (.iinc 5 1, 3) := by decide +kernel
theorem dX8_tries_52 : decode cX8_tries 52 = .ok (.goto (-23), 3) := by decide +kernel
theorem dX8_tries_55 : decode cX8_tries 55 = .ok (.return_, 1) := by decide +kernel
theorem dX8_tries_56 : decode cX8_tries 56 = .ok (.aload_n 0, 1) := by decide +kernel
theorem dX8_tries_57 : decode cX8_tries 57 = .ok (.iload_n 1, 1) := by decide +kernel
theorem dX8_tries_58 : decode cX8_tries 58 = .ok (.iconst 5, 1) := by decide +kernel
theorem dX8_tries_59 : decode cX8_tries 59 = .ok (.iload_n 2, 1) := by decide +kernel
theorem dX8_tries_60 : decode cX8_tries 60 = .ok (.iadd, 1) := by decide +kernel
theorem dX8_tries_61 : decode cX8_tries 61 = .ok (.invokevirtual 201, 3) := by decide +kernel
theorem dX8_tries_64 : decode cX8_tries 64 = .ok (.istore 5, 2) := by decide +kernel
theorem dX8_tries_66 : decode cX8_tries 66 = .ok (.iconst 0, 1) := by decide +kernel
theorem dX8_tries_67 : decode cX8_tries 67 = .ok (.istore 6, 2) := by decide +kernel
theorem dX8_tries_69 : decode cX8_tries 69 = .ok (.iload 6, 2) := by decide +kernel
theorem dX8_tries_71 : decode cX8_tries 71 = .ok (.aload_n 0, 1) := by decide +kernel
theorem dX8_tries_72 : decode cX8_tries 72 = .ok (.getfield 7, 3) := by decide +kernel
theorem dX8_tries_75 : decode cX8_tries 75 = .ok (.iconst 2, 1) := by decide +kernel
theorem dX8_tries_76 : decode cX8_tries 76 = .ok (.iaload, 1) := by decide +kernel
theorem dX8_tries_77 : decode cX8_tries 77 = .ok (.if_icmp .ge 74, 3) := by decide +kernel
theorem dX8_tries_80 : decode cX8_tries 80 = .ok (.iload_n 3, 1) := by decide +kernel
theorem dX8_tries_81 : decode cX8_tries 81 = .ok (.iload 6, 2) := by decide +kernel
theorem dX8_tries_83 : decode cX8_tries 83 = .ok (.ishr, 1) := by decide +kernel
theorem dX8_tries_84 : decode cX8_tries 84 = .ok (.iconst 1, 1) := by decide +kernel
theorem dX8_tries_85 : decode cX8_tries 85 = .ok (.iand, 1) := by decide +kernel
theorem dX8_tries_86 : decode cX8_tries 86 = .ok (.iconst 1, 1) := by decide +kernel
theorem dX8_tries_87 : decode cX8_tries 87 = .ok (.if_icmp .ne 58, 3) := by decide +kernel
theorem dX8_tries_90 : decode cX8_tries 90 = .ok (.aload_n 0, 1) := by decide +kernel
theorem dX8_tries_91 : decode cX8_tries 91 = .ok (.iload 6, 2) := by decide +kernel
theorem dX8_tries_93 : decode cX8_tries 93 = .ok (.iload 5, 2) := by decide +kernel
theorem dX8_tries_95 : decode cX8_tries 95 = .ok (.invokevirtual 217, 3) := by decide +kernel
theorem dX8_tries_98 : decode cX8_tries 98 = .ok (.ifCond .eq 47, 3) := by decide +kernel
theorem dX8_tries_101 : decode cX8_tries 101 = .ok (.aload_n 0, 1) := by decide +kernel
theorem dX8_tries_102 : decode cX8_tries 102 = .ok (.getfield 40, 3) := by decide +kernel
theorem dX8_tries_105 : decode cX8_tries 105 = .ok (.iload_n 2, 1) := by decide +kernel
theorem dX8_tries_106 : decode cX8_tries 106 = .ok (.iload 6, 2) := by decide +kernel
theorem dX8_tries_108 : decode cX8_tries 108 = .ok (.iastore, 1) := by decide +kernel
theorem dX8_tries_109 : decode cX8_tries 109 = .ok (.aload_n 0, 1) := by decide +kernel
theorem dX8_tries_110 : decode cX8_tries 110 = .ok (.iload_n 1, 1) := by decide +kernel
theorem dX8_tries_111 : decode cX8_tries 111 = .ok (.iload_n 2, 1) := by decide +kernel
theorem dX8_tries_112 : decode cX8_tries 112 = .ok (.iconst 1, 1) := by decide +kernel
theorem dX8_tries_113 : decode cX8_tries 113 = .ok (.iadd, 1) := by decide +kernel
theorem dX8_tries_114 : decode cX8_tries 114 = .ok (.iload_n 3, 1) := by decide +kernel
theorem dX8_tries_115 : decode cX8_tries 115 = .ok (.iconst 1, 1) := by decide +kernel
theorem dX8_tries_116 : decode cX8_tries 116 = .ok (.iload 6, 2) := by decide +kernel
theorem dX8_tries_118 : decode cX8_tries 118 = .ok (.ishl, 1) := by decide +kernel
theorem dX8_tries_119 : decode cX8_tries 119 = .ok (.iconst (-1), 1) := by decide +kernel
theorem dX8_tries_120 : decode cX8_tries 120 = .ok (.ixor, 1) := by decide +kernel
theorem dX8_tries_121 : decode cX8_tries 121 = .ok (.iand, 1) := by decide +kernel
theorem dX8_tries_122 : decode cX8_tries 122 = .ok (.iload 4, 2) := by decide +kernel
theorem dX8_tries_124 : decode cX8_tries 124 = .ok (.aload_n 0, 1) := by decide +kernel
theorem dX8_tries_125 : decode cX8_tries 125 = .ok (.iload 6, 2) := by decide +kernel
theorem dX8_tries_127 : decode cX8_tries 127 = .ok (.iconst 3, 1) := by decide +kernel
theorem dX8_tries_128 : decode cX8_tries 128 = .ok (.invokevirtual 194, 3) := by decide +kernel
theorem dX8_tries_131 : decode cX8_tries 131 = .ok (.iload 5, 2) := by decide +kernel
theorem dX8_tries_133 : decode cX8_tries 133 = .ok (.if_icmp .ne 7, 3) := by decide +kernel
theorem dX8_tries_136 : decode cX8_tries 136 = .ok (.iconst 0, 1) := by decide +kernel
theorem dX8_tries_137 : decode cX8_tries 137 = .ok (.goto 4, 3) := by decide +kernel
theorem dX8_tries_140 : decode cX8_tries 140 = .ok (.iconst 1, 1) := by decide +kernel
theorem dX8_tries_141 : decode cX8_tries 141 = .ok (.iadd, 1) := by decide +kernel
theorem dX8_tries_142 : decode cX8_tries 142 = .ok (.invokevirtual 220, 3) := by decide +kernel
theorem dX8_tries_145 : decode cX8_tries 145 = .ok (.iinc 6 1, 3) := by decide +kernel
theorem dX8_tries_148 : decode cX8_tries 148 = .ok (.goto (-79), 3) := by decide +kernel
theorem dX8_tries_151 : decode cX8_tries 151 = .ok (.return_, 1) := by decide +kernel
theorem dX8_casts_0 : decode cX8_casts 0 = .ok (.aload_n 0, 1) := by decide +kernel
theorem dX8_casts_1 : decode cX8_casts 1 = .ok (.bipush 7, 2) := by decide +kernel
theorem dX8_casts_3 : decode cX8_casts 3 = .ok (.putfield 214, 3) := by decide +kernel
theorem dX8_casts_6 : decode cX8_casts 6 = .ok (.aload_n 0, 1) := by decide +kernel
theorem dX8_casts_7 : decode cX8_casts 7 = .ok (.iload_n 1, 1) := by decide +kernel
theorem dX8_casts_8 : decode cX8_casts 8 = .ok (.iconst 0, 1) := by decide +kernel
theorem dX8_casts_9 : decode cX8_casts 9 = .ok (.iload_n 2, 1) := by decide +kernel
theorem dX8_casts_10 : decode cX8_casts 10 = .ok (.iconst 0, 1) := by decide +kernel
theorem dX8_casts_11 : decode cX8_casts 11 = .ok (.invokevirtual 220, 3) := by decide +kernel
theorem dX8_casts_14 : decode cX8_casts 14 = .ok (.aload_n 0, 1) := by decide +kernel
theorem dX8_casts_15 : decode cX8_casts 15 = .ok (.getfield 214, 3) := by decide +kernel
theorem dX8_casts_18 : decode cX8_casts 18 = .ok (.bipush 6, 2) := by decide +kernel
theorem dX8_casts_20 : decode cX8_casts 20 = .ok (.if_icmp .gt 7, 3) := by decide +kernel
theorem dX8_casts_23 : decode cX8_casts 23 = .ok (.iconst 1, 1) := by decide +kernel
theorem dX8_casts_24 : decode cX8_casts 24 = .ok (.goto 4, 3) := by decide +kernel
theorem dX8_casts_27 : decode cX8_casts 27 = .ok (.iconst 0, 1) := by decide +kernel
theorem dX8_casts_28 : decode cX8_casts 28 = .ok (.ireturn, 1) := by decide +kernel
theorem dX8_allCast_0 : decode cX8_allCast 0 = .ok (.aload_n 0, 1) := by decide +kernel
theorem dX8_allCast_1 : decode cX8_allCast 1 = .ok (.iload_n 1, 1) := by decide +kernel
theorem dX8_allCast_2 : decode cX8_allCast 2 = .ok (.invokevirtual 224, 3) := by decide +kernel
theorem dX8_allCast_5 : decode cX8_allCast 5 = .ok (.istore_n 3, 1) := by decide +kernel
theorem dX8_allCast_6 : decode cX8_allCast 6 = .ok (.iconst 1, 1) := by decide +kernel
theorem dX8_allCast_7 : decode cX8_allCast 7 = .ok (.istore 4, 2) := by decide +kernel
theorem dX8_allCast_9 : decode cX8_allCast 9 = .ok (.iconst 0, 1) := by decide +kernel
theorem dX8_allCast_10 : decode cX8_allCast 10 = .ok (.istore 5, 2) := by decide +kernel
theorem dX8_allCast_12 : decode cX8_allCast 12 = .ok (.iload 5, 2) := by decide +kernel
theorem dX8_allCast_14 : decode cX8_allCast 14 = .ok (.aload_n 0, 1) := by decide +kernel
theorem dX8_allCast_15 : decode cX8_allCast 15 = .ok (.getfield 7, 3) := by decide +kernel
theorem dX8_allCast_18 : decode cX8_allCast 18 = .ok (.iconst 3, 1) := by decide +kernel
theorem dX8_allCast_19 : decode cX8_allCast 19 = .ok (.iaload, 1) := by decide +kernel
theorem dX8_allCast_20 : decode cX8_allCast 20 = .ok (.if_icmp .ge 40, 3) := by decide +kernel
theorem dX8_allCast_23 : decode cX8_allCast 23 = .ok (.iload 4, 2) := by decide +kernel
theorem dX8_allCast_25 : decode cX8_allCast 25 = .ok (.ifCond .eq 26, 3) := by decide +kernel
theorem dX8_allCast_28 : decode cX8_allCast 28 = .ok (.iload_n 2, 1) := by decide +kernel
theorem dX8_allCast_29 : decode cX8_allCast 29 = .ok (.iload 5, 2) := by decide +kernel
theorem dX8_allCast_31 : decode cX8_allCast 31 = .ok (.ishr, 1) := by decide +kernel
theorem dX8_allCast_32 : decode cX8_allCast 32 = .ok (.iconst 1, 1) := by decide +kernel
theorem dX8_allCast_33 : decode cX8_allCast 33 = .ok (.iand, 1) := by decide +kernel
theorem dX8_allCast_34 : decode cX8_allCast 34 = .ok (.ifCond .eq 13, 3) := by decide +kernel
theorem dX8_allCast_37 : decode cX8_allCast 37 = .ok (.aload_n 0, 1) := by decide +kernel
theorem dX8_allCast_38 : decode cX8_allCast 38 = .ok (.iload 5, 2) := by decide +kernel
theorem dX8_allCast_40 : decode cX8_allCast 40 = .ok (.iload_n 3, 1) := by decide +kernel
theorem dX8_allCast_41 : decode cX8_allCast 41 = .ok (.invokevirtual 227, 3) := by decide +kernel
theorem dX8_allCast_44 : decode cX8_allCast 44 = .ok (.ifCond .eq 7, 3) := by decide +kernel
theorem dX8_allCast_47 : decode cX8_allCast 47 = .ok (.iconst 1, 1) := by decide +kernel
theorem dX8_allCast_48 : decode cX8_allCast 48 = .ok (.goto 4, 3) := by decide +kernel
theorem dX8_allCast_51 : decode cX8_allCast 51 = .ok (.iconst 0, 1) := by decide +kernel
theorem dX8_allCast_52 : decode cX8_allCast 52 = .ok (.istore 4, 2) := by decide +kernel
theorem dX8_allCast_54 : decode cX8_allCast 54 = .ok (.iinc 5 1, 3) := by decide +kernel
theorem dX8_allCast_57 : decode cX8_allCast 57 = .ok (.goto (-45), 3) := by decide +kernel
theorem dX8_allCast_60 : decode cX8_allCast 60 = .ok (.iload 4, 2) := by decide +kernel
theorem dX8_allCast_62 : decode cX8_allCast 62 = .ok (.ireturn, 1) := by decide +kernel
theorem dX8_rehearsalsAhead_0 : decode cX8_rehearsalsAhead 0 = .ok (.iconst 0, 1) := by decide +kernel
theorem dX8_rehearsalsAhead_1 : decode cX8_rehearsalsAhead 1 = .ok (.istore_n 3, 1) := by decide +kernel
theorem dX8_rehearsalsAhead_2 : decode cX8_rehearsalsAhead 2 = .ok (.iconst 0, 1) := by decide +kernel
theorem dX8_rehearsalsAhead_3 : decode cX8_rehearsalsAhead 3 = .ok (.istore 4, 2) := by decide +kernel
theorem dX8_rehearsalsAhead_5 : decode cX8_rehearsalsAhead 5 = .ok (.iload 4, 2) := by decide +kernel
theorem dX8_rehearsalsAhead_7 : decode cX8_rehearsalsAhead 7 = .ok (.aload_n 0, 1) := by decide +kernel
theorem dX8_rehearsalsAhead_8 : decode cX8_rehearsalsAhead 8 = .ok (.getfield 13, 3) := by decide +kernel
theorem dX8_rehearsalsAhead_11 : decode cX8_rehearsalsAhead 11 = .ok (.iconst 0, 1) := by decide +kernel
theorem dX8_rehearsalsAhead_12 : decode cX8_rehearsalsAhead 12 = .ok (.iaload, 1) := by decide +kernel
theorem dX8_rehearsalsAhead_13 : decode cX8_rehearsalsAhead 13 = .ok (.if_icmp .ge 48, 3) := by decide +kernel
theorem dX8_rehearsalsAhead_16 : decode cX8_rehearsalsAhead 16 = .ok (.iload_n 3, 1) := by decide +kernel
theorem dX8_rehearsalsAhead_17 : decode cX8_rehearsalsAhead 17 = .ok (.aload_n 0, 1) := by decide +kernel
theorem dX8_rehearsalsAhead_18 : decode cX8_rehearsalsAhead 18 = .ok (.iload 4, 2) := by decide +kernel
theorem dX8_rehearsalsAhead_20 : decode cX8_rehearsalsAhead 20 = .ok (.iconst 2, 1) := by decide +kernel
theorem dX8_rehearsalsAhead_21 : decode cX8_rehearsalsAhead 21 = .ok (.invokevirtual 198, 3) := by decide +kernel
theorem dX8_rehearsalsAhead_24 : decode cX8_rehearsalsAhead 24 = .ok (.ifCond .ne 28, 3) := by decide +kernel
theorem dX8_rehearsalsAhead_27 : decode cX8_rehearsalsAhead 27 = .ok (.aload_n 0, 1) := by decide +kernel
theorem dX8_rehearsalsAhead_28 : decode cX8_rehearsalsAhead 28 = .ok (.iload 4, 2) := by decide +kernel
theorem dX8_rehearsalsAhead_30 : decode cX8_rehearsalsAhead 30 = .ok (.iload_n 1, 1) := by decide +kernel
theorem dX8_rehearsalsAhead_31 : decode cX8_rehearsalsAhead 31 = .ok (.invokevirtual 204, 3) := by decide +kernel
theorem dX8_rehearsalsAhead_34 : decode cX8_rehearsalsAhead 34 = .ok (.ifCond .eq 18, 3) := by decide +kernel
theorem dX8_rehearsalsAhead_37 : decode cX8_rehearsalsAhead 37 = .ok (.aload_n 0, 1) := by decide +kernel
theorem dX8_rehearsalsAhead_38 : decode cX8_rehearsalsAhead 38 = .ok (.iload 4, 2) := by decide +kernel
theorem dX8_rehearsalsAhead_40 : decode cX8_rehearsalsAhead 40 = .ok (.iconst 0, 1) := by decide +kernel
theorem dX8_rehearsalsAhead_41 : decode cX8_rehearsalsAhead 41 = .ok (.invokevirtual 198, 3) := by decide +kernel
theorem dX8_rehearsalsAhead_44 : decode cX8_rehearsalsAhead 44 = .ok (.iload_n 2, 1) := by decide +kernel
theorem dX8_rehearsalsAhead_45 : decode cX8_rehearsalsAhead 45 = .ok (.if_icmp .ge 7, 3) := by decide +kernel
theorem dX8_rehearsalsAhead_48 : decode cX8_rehearsalsAhead 48 = .ok (.iconst 1, 1) := by decide +kernel
theorem dX8_rehearsalsAhead_49 : decode cX8_rehearsalsAhead 49 = .ok (.goto 4, 3) := by decide +kernel
theorem dX8_rehearsalsAhead_52 : decode cX8_rehearsalsAhead 52 = .ok (.iconst 0, 1) := by decide +kernel
theorem dX8_rehearsalsAhead_53 : decode cX8_rehearsalsAhead 53 = .ok (.iadd, 1) := by decide +kernel
theorem dX8_rehearsalsAhead_54 : decode cX8_rehearsalsAhead 54 = .ok (.istore_n 3, 1) := by decide +kernel
theorem dX8_rehearsalsAhead_55 : decode cX8_rehearsalsAhead 55 = .ok (.iinc 4 1, 3) := by decide +kernel
theorem dX8_rehearsalsAhead_58 : decode cX8_rehearsalsAhead 58 = .ok (.goto (-53), 3) := by decide +kernel
theorem dX8_rehearsalsAhead_61 : decode cX8_rehearsalsAhead 61 = .ok (.iload_n 3, 1) := by decide +kernel
theorem dX8_rehearsalsAhead_62 : decode cX8_rehearsalsAhead 62 = .ok (.ireturn, 1) := by decide +kernel
theorem dX8_areReady_0 : decode cX8_areReady 0 = .ok (.iconst 1, 1) := by decide +kernel
theorem dX8_areReady_1 : decode cX8_areReady 1 = .ok (.istore_n 3, 1) := by decide +kernel
theorem dX8_areReady_2 : decode cX8_areReady 2 = .ok (.iconst 0, 1) := by decide +kernel
theorem dX8_areReady_3 : decode cX8_areReady 3 = .ok (.istore 4, 2) := by decide +kernel
theorem dX8_areReady_5 : decode cX8_areReady 5 = .ok (.iload 4, 2) := by decide +kernel
theorem dX8_areReady_7 : decode cX8_areReady 7 = .ok (.aload_n 0, 1) := by decide +kernel
theorem dX8_areReady_8 : decode cX8_areReady 8 = .ok (.getfield 7, 3) := by decide +kernel
theorem dX8_areReady_11 : decode cX8_areReady 11 = .ok (.iconst 3, 1) := by decide +kernel
theorem dX8_areReady_12 : decode cX8_areReady 12 = .ok (.iaload, 1) := by decide +kernel
theorem dX8_areReady_13 : decode cX8_areReady 13 = .ok (.if_icmp .ge 45, 3) := by decide +kernel
theorem dX8_areReady_16 : decode cX8_areReady 16 = .ok (.iload_n 3, 1) := by decide +kernel
theorem dX8_areReady_17 : decode cX8_areReady 17 = .ok (.ifCond .eq 33, 3) := by decide +kernel
theorem dX8_areReady_20 : decode cX8_areReady 20 = .ok (.iload_n 1, 1) := by decide +kernel
theorem dX8_areReady_21 : decode cX8_areReady 21 = .ok (.iload 4, 2) := by decide +kernel
theorem dX8_areReady_23 : decode cX8_areReady 23 = .ok (.ishr, 1) := by decide +kernel
theorem dX8_areReady_24 : decode cX8_areReady 24 = .ok (.iconst 1, 1) := by decide +kernel
theorem dX8_areReady_25 : decode cX8_areReady 25 = .ok (.iand, 1) := by decide +kernel
theorem dX8_areReady_26 : decode cX8_areReady 26 = .ok (.ifCond .eq 20, 3) := by decide +kernel
theorem dX8_areReady_29 : decode cX8_areReady 29 = .ok (.aload_n 0, 1) := by decide +kernel
theorem dX8_areReady_30 : decode cX8_areReady 30 = .ok (.iload 4, 2) := by decide +kernel
theorem dX8_areReady_32 : decode cX8_areReady 32 = .ok (.iload_n 2, 1) := by decide +kernel
theorem dX8_areReady_33 : decode cX8_areReady 33 = .ok (.invokevirtual 230, 3) := by decide +kernel
theorem dX8_areReady_36 : decode cX8_areReady 36 = .ok (.aload_n 0, 1) := by decide +kernel
theorem dX8_areReady_37 : decode cX8_areReady 37 = .ok (.iload 4, 2) := by decide +kernel
theorem dX8_areReady_39 : decode cX8_areReady 39 = .ok (.iconst 0, 1) := by decide +kernel
theorem dX8_areReady_40 : decode cX8_areReady 40 = .ok (.invokevirtual 201, 3) := by decide +kernel
theorem dX8_areReady_43 : decode cX8_areReady 43 = .ok (.if_icmp .lt 7, 3) := by decide +kernel
theorem dX8_areReady_46 : decode cX8_areReady 46 = .ok (.iconst 1, 1) := by decide +kernel
theorem dX8_areReady_47 : decode cX8_areReady 47 = .ok (.goto 4, 3) := by decide +kernel
theorem dX8_areReady_50 : decode cX8_areReady 50 = .ok (.iconst 0, 1) := by decide +kernel
theorem dX8_areReady_51 : decode cX8_areReady 51 = .ok (.istore_n 3, 1) := by decide +kernel
theorem dX8_areReady_52 : decode cX8_areReady 52 = .ok (.iinc 4 1, 3) := by decide +kernel
theorem dX8_areReady_55 : decode cX8_areReady 55 = .ok (.goto (-50), 3) := by decide +kernel
theorem dX8_areReady_58 : decode cX8_areReady 58 = .ok (.iload_n 3, 1) := by decide +kernel
theorem dX8_areReady_59 : decode cX8_areReady 59 = .ok (.ireturn, 1) := by decide +kernel
theorem dX8_areInTime_0 : decode cX8_areInTime 0 = .ok (.iconst 1, 1) := by decide +kernel
theorem dX8_areInTime_1 : decode cX8_areInTime 1 = .ok (.istore_n 3, 1) := by decide +kernel
theorem dX8_areInTime_2 : decode cX8_areInTime 2 = .ok (.iconst 0, 1) := by decide +kernel
theorem dX8_areInTime_3 : decode cX8_areInTime 3 = .ok (.istore 4, 2) := by decide +kernel
theorem dX8_areInTime_5 : decode cX8_areInTime 5 = .ok (.iload 4, 2) := by decide +kernel
theorem dX8_areInTime_7 : decode cX8_areInTime 7 = .ok (.aload_n 0, 1) := by decide +kernel
theorem dX8_areInTime_8 : decode cX8_areInTime 8 = .ok (.getfield 7, 3) := by decide +kernel
theorem dX8_areInTime_11 : decode cX8_areInTime 11 = .ok (.iconst 3, 1) := by decide +kernel
theorem dX8_areInTime_12 : decode cX8_areInTime 12 = .ok (.iaload, 1) := by decide +kernel
theorem dX8_areInTime_13 : decode cX8_areInTime 13 = .ok (.if_icmp .ge 49, 3) := by decide +kernel
theorem dX8_areInTime_16 : decode cX8_areInTime 16 = .ok (.iload_n 3, 1) := by decide +kernel
theorem dX8_areInTime_17 : decode cX8_areInTime 17 = .ok (.ifCond .eq 37, 3) := by decide +kernel
theorem dX8_areInTime_20 : decode cX8_areInTime 20 = .ok (.iload_n 1, 1) := by decide +kernel
theorem dX8_areInTime_21 : decode cX8_areInTime 21 = .ok (.iload 4, 2) := by decide +kernel
theorem dX8_areInTime_23 : decode cX8_areInTime 23 = .ok (.ishr, 1) := by decide +kernel
theorem dX8_areInTime_24 : decode cX8_areInTime 24 = .ok (.iconst 1, 1) := by decide +kernel
theorem dX8_areInTime_25 : decode cX8_areInTime 25 = .ok (.iand, 1) := by decide +kernel
theorem dX8_areInTime_26 : decode cX8_areInTime 26 = .ok (.ifCond .eq 24, 3) := by decide +kernel
theorem dX8_areInTime_29 : decode cX8_areInTime 29 = .ok (.iload_n 2, 1) := by decide +kernel
theorem dX8_areInTime_30 : decode cX8_areInTime 30 = .ok (.aload_n 0, 1) := by decide +kernel
theorem dX8_areInTime_31 : decode cX8_areInTime 31 = .ok (.iload 4, 2) := by decide +kernel
theorem dX8_areInTime_33 : decode cX8_areInTime 33 = .ok (.iconst 1, 1) := by decide +kernel
theorem dX8_areInTime_34 : decode cX8_areInTime 34 = .ok (.invokevirtual 201, 3) := by decide +kernel
theorem dX8_areInTime_37 : decode cX8_areInTime 37 = .ok (.aload_n 0, 1) := by decide +kernel
theorem dX8_areInTime_38 : decode cX8_areInTime 38 = .ok (.iload 4, 2) := by decide +kernel
theorem dX8_areInTime_40 : decode cX8_areInTime 40 = .ok (.iconst 2, 1) := by decide +kernel
theorem dX8_areInTime_41 : decode cX8_areInTime 41 = .ok (.invokevirtual 201, 3) := by decide +kernel
theorem dX8_areInTime_44 : decode cX8_areInTime 44 = .ok (.invokestatic 80, 3) := by decide +kernel
theorem dX8_areInTime_47 : decode cX8_areInTime 47 = .ok (.ifCond .eq 7, 3) := by decide +kernel
theorem dX8_areInTime_50 : decode cX8_areInTime 50 = .ok (.iconst 1, 1) := by decide +kernel
theorem dX8_areInTime_51 : decode cX8_areInTime 51 = .ok (.goto 4, 3) := by decide +kernel
theorem dX8_areInTime_54 : decode cX8_areInTime 54 = .ok (.iconst 0, 1) := by decide +kernel
theorem dX8_areInTime_55 : decode cX8_areInTime 55 = .ok (.istore_n 3, 1) := by decide +kernel
theorem dX8_areInTime_56 : decode cX8_areInTime 56 = .ok (.iinc 4 1, 3) := by decide +kernel
theorem dX8_areInTime_59 : decode cX8_areInTime 59 = .ok (.goto (-54), 3) := by decide +kernel
theorem dX8_areInTime_62 : decode cX8_areInTime 62 = .ok (.iload_n 3, 1) := by decide +kernel
theorem dX8_areInTime_63 : decode cX8_areInTime 63 = .ok (.ireturn, 1) := by decide +kernel
theorem dX8_isHallFree_0 : decode cX8_isHallFree 0 = .ok (.iconst 1, 1) := by decide +kernel
theorem dX8_isHallFree_1 : decode cX8_isHallFree 1 = .ok (.istore_n 3, 1) := by decide +kernel
theorem dX8_isHallFree_2 : decode cX8_isHallFree 2 = .ok (.iconst 0, 1) := by decide +kernel
theorem dX8_isHallFree_3 : decode cX8_isHallFree 3 = .ok (.istore 4, 2) := by decide +kernel
theorem dX8_isHallFree_5 : decode cX8_isHallFree 5 = .ok (.iload 4, 2) := by decide +kernel
theorem dX8_isHallFree_7 : decode cX8_isHallFree 7 = .ok (.aload_n 0, 1) := by decide +kernel
theorem dX8_isHallFree_8 : decode cX8_isHallFree 8 = .ok (.getfield 13, 3) := by decide +kernel
theorem dX8_isHallFree_11 : decode cX8_isHallFree 11 = .ok (.iconst 0, 1) := by decide +kernel
theorem dX8_isHallFree_12 : decode cX8_isHallFree 12 = .ok (.iaload, 1) := by decide +kernel
theorem dX8_isHallFree_13 : decode cX8_isHallFree 13 = .ok (.if_icmp .ge 78, 3) := by decide +kernel
theorem dX8_isHallFree_16 : decode cX8_isHallFree 16 = .ok (.aload_n 0, 1) := by decide +kernel
theorem dX8_isHallFree_17 : decode cX8_isHallFree 17 = .ok (.iload 4, 2) := by decide +kernel
theorem dX8_isHallFree_19 : decode cX8_isHallFree 19 = .ok (.iconst 0, 1) := by decide +kernel
theorem dX8_isHallFree_20 : decode cX8_isHallFree 20 = .ok (.invokevirtual 198, 3) := by decide +kernel
theorem dX8_isHallFree_23 : decode cX8_isHallFree 23 = .ok (.iload_n 2, 1) := by decide +kernel
theorem dX8_isHallFree_24 : decode cX8_isHallFree 24 = .ok (.if_icmp .ge 15, 3) := by decide +kernel
theorem dX8_isHallFree_27 : decode cX8_isHallFree 27 = .ok (.iload_n 2, 1) := by decide +kernel
theorem dX8_isHallFree_28 : decode cX8_isHallFree 28 = .ok (.aload_n 0, 1) := by decide +kernel
theorem dX8_isHallFree_29 : decode cX8_isHallFree 29 = .ok (.iload 4, 2) := by decide +kernel
theorem dX8_isHallFree_31 : decode cX8_isHallFree 31 = .ok (.iconst 0, 1) := by decide +kernel
theorem dX8_isHallFree_32 : decode cX8_isHallFree 32 = .ok (.invokevirtual 198, 3) := by decide +kernel
theorem dX8_isHallFree_35 : decode cX8_isHallFree 35 = .ok (.isub, 1) := by decide +kernel
theorem dX8_isHallFree_36 : decode cX8_isHallFree 36 = .ok (.goto 12, 3) := by decide +kernel
theorem dX8_isHallFree_39 : decode cX8_isHallFree 39 = .ok (.aload_n 0, 1) := by decide +kernel
theorem dX8_isHallFree_40 : decode cX8_isHallFree 40 = .ok (.iload 4, 2) := by decide +kernel
theorem dX8_isHallFree_42 : decode cX8_isHallFree 42 = .ok (.iconst 0, 1) := by decide +kernel
theorem dX8_isHallFree_43 : decode cX8_isHallFree 43 = .ok (.invokevirtual 198, 3) := by decide +kernel
theorem dX8_isHallFree_46 : decode cX8_isHallFree 46 = .ok (.iload_n 2, 1) := by decide +kernel
theorem dX8_isHallFree_47 : decode cX8_isHallFree 47 = .ok (.isub, 1) := by decide +kernel
theorem dX8_isHallFree_48 : decode cX8_isHallFree 48 = .ok (.istore 5, 2) := by decide +kernel
theorem dX8_isHallFree_50 : decode cX8_isHallFree 50 = .ok (.iload_n 3, 1) := by decide +kernel
theorem dX8_isHallFree_51 : decode cX8_isHallFree 51 = .ok (.ifCond .eq 32, 3) := by decide +kernel
theorem dX8_isHallFree_54 : decode cX8_isHallFree 54 = .ok (.aload_n 0, 1) := by decide +kernel
theorem dX8_isHallFree_55 : decode cX8_isHallFree 55 = .ok (.iload 4, 2) := by decide +kernel
theorem dX8_isHallFree_57 : decode cX8_isHallFree 57 = .ok (.iconst 1, 1) := by decide +kernel
theorem dX8_isHallFree_58 : decode cX8_isHallFree 58 = .ok (.invokevirtual 198, 3) := by decide +kernel
theorem dX8_isHallFree_61 : decode cX8_isHallFree 61 = .ok (.iload_n 1, 1) := by decide +kernel
theorem dX8_isHallFree_62 : decode cX8_isHallFree 62 = .ok (.if_icmp .ne 17, 3) := by decide +kernel
theorem dX8_isHallFree_65 : decode cX8_isHallFree 65 = .ok (.iload 5, 2) := by decide +kernel
theorem dX8_isHallFree_67 : decode cX8_isHallFree 67 = .ok (.aload_n 0, 1) := by decide +kernel
theorem dX8_isHallFree_68 : decode cX8_isHallFree 68 = .ok (.getfield 7, 3) := by decide +kernel
theorem dX8_isHallFree_71 : decode cX8_isHallFree 71 = .ok (.bipush 6, 2) := by decide +kernel
theorem dX8_isHallFree_73 : decode cX8_isHallFree 73 = .ok (.iload_n 1, 1) := by decide +kernel
theorem dX8_isHallFree_74 : decode cX8_isHallFree 74 = .ok (.iadd, 1) := by decide +kernel
theorem dX8_isHallFree_75 : decode cX8_isHallFree 75 = .ok (.iaload, 1) := by decide +kernel
theorem dX8_isHallFree_76 : decode cX8_isHallFree 76 = .ok (.if_icmp .le 7, 3) := by decide +kernel
theorem dX8_isHallFree_79 : decode cX8_isHallFree 79 = .ok (.iconst 1, 1) := by decide +kernel
theorem dX8_isHallFree_80 : decode cX8_isHallFree 80 = .ok (.goto 4, 3) := by decide +kernel
theorem dX8_isHallFree_83 : decode cX8_isHallFree 83 = .ok (.iconst 0, 1) := by decide +kernel
theorem dX8_isHallFree_84 : decode cX8_isHallFree 84 = .ok (.istore_n 3, 1) := by decide +kernel
theorem dX8_isHallFree_85 : decode cX8_isHallFree 85 = .ok (.iinc 4 1, 3) := by decide +kernel
theorem dX8_isHallFree_88 : decode cX8_isHallFree 88 = .ok (.goto (-83), 3) := by decide +kernel
theorem dX8_isHallFree_91 : decode cX8_isHallFree 91 = .ok (.iload_n 3, 1) := by decide +kernel
theorem dX8_isHallFree_92 : decode cX8_isHallFree 92 = .ok (.ireturn, 1) := by decide +kernel
theorem dX8_why_0 : decode cX8_why 0 = .ok (.aload_n 0, 1) := by decide +kernel
theorem dX8_why_1 : decode cX8_why 1 = .ok (.getfield 13, 3) := by decide +kernel
theorem dX8_why_4 : decode cX8_why 4 = .ok (.iconst 0, 1) := by decide +kernel
theorem dX8_why_5 : decode cX8_why 5 = .ok (.iaload, 1) := by decide +kernel
theorem dX8_why_6 : decode cX8_why 6 = .ok (.bipush 20, 2) := by decide +kernel
theorem dX8_why_8 : decode cX8_why 8 = .ok (.if_icmp .ne 5, 3) := by decide +kernel
theorem dX8_why_11 : decode cX8_why 11 = .ok (.iconst 1, 1) := by decide +kernel
theorem dX8_why_12 : decode cX8_why 12 = .ok (.ireturn, 1) := by decide +kernel
theorem dX8_why_13 : decode cX8_why 13 = .ok (.aload_n 0, 1) := by decide +kernel
theorem dX8_why_14 : decode cX8_why 14 = .ok (.iload_n 3, 1) := by decide +kernel
theorem dX8_why_15 : decode cX8_why 15 = .ok (.iload_n 2, 1) := by decide +kernel
theorem dX8_why_16 : decode cX8_why 16 = .ok (.iconst 3, 1) := by decide +kernel
theorem dX8_why_17 : decode cX8_why 17 = .ok (.idiv, 1) := by decide +kernel
theorem dX8_why_18 : decode cX8_why 18 = .ok (.invokevirtual 233, 3) := by decide +kernel
theorem dX8_why_21 : decode cX8_why 21 = .ok (.ifCond .ne 5, 3) := by decide +kernel
theorem dX8_why_24 : decode cX8_why 24 = .ok (.iconst 2, 1) := by decide +kernel
theorem dX8_why_25 : decode cX8_why 25 = .ok (.ireturn, 1) := by decide +kernel
theorem dX8_why_26 : decode cX8_why 26 = .ok (.aload_n 0, 1) := by decide +kernel
theorem dX8_why_27 : decode cX8_why 27 = .ok (.iload_n 1, 1) := by decide +kernel
theorem dX8_why_28 : decode cX8_why 28 = .ok (.iload_n 2, 1) := by decide +kernel
theorem dX8_why_29 : decode cX8_why 29 = .ok (.invokevirtual 236, 3) := by decide +kernel
theorem dX8_why_32 : decode cX8_why 32 = .ok (.ifCond .ne 5, 3) := by decide +kernel
theorem dX8_why_35 : decode cX8_why 35 = .ok (.iconst 3, 1) := by decide +kernel
theorem dX8_why_36 : decode cX8_why 36 = .ok (.ireturn, 1) := by decide +kernel
theorem dX8_why_37 : decode cX8_why 37 = .ok (.iload 4, 2) := by decide +kernel
theorem dX8_why_39 : decode cX8_why 39 = .ok (.ifCond .eq 14, 3) := by decide +kernel
theorem dX8_why_42 : decode cX8_why 42 = .ok (.aload_n 0, 1) := by decide +kernel
theorem dX8_why_43 : decode cX8_why 43 = .ok (.iload_n 3, 1) := by decide +kernel
theorem dX8_why_44 : decode cX8_why 44 = .ok (.iload_n 2, 1) := by decide +kernel
theorem dX8_why_45 : decode cX8_why 45 = .ok (.invokevirtual 239, 3) := by decide +kernel
theorem dX8_why_48 : decode cX8_why 48 = .ok (.ifCond .ne 5, 3) := by decide +kernel
theorem dX8_why_51 : decode cX8_why 51 = .ok (.iconst 4, 1) := by decide +kernel
theorem dX8_why_52 : decode cX8_why 52 = .ok (.ireturn, 1) := by decide +kernel
theorem dX8_why_53 : decode cX8_why 53 = .ok (.aload_n 0, 1) := by decide +kernel
theorem dX8_why_54 : decode cX8_why 54 = .ok (.iload_n 2, 1) := by decide +kernel
theorem dX8_why_55 : decode cX8_why 55 = .ok (.iload_n 3, 1) := by decide +kernel
theorem dX8_why_56 : decode cX8_why 56 = .ok (.invokevirtual 242, 3) := by decide +kernel
theorem dX8_why_59 : decode cX8_why 59 = .ok (.ifCond .eq 7, 3) := by decide +kernel
theorem dX8_why_62 : decode cX8_why 62 = .ok (.iconst 0, 1) := by decide +kernel
theorem dX8_why_63 : decode cX8_why 63 = .ok (.goto 4, 3) := by decide +kernel
theorem dX8_why_66 : decode cX8_why 66 = .ok (.iconst 5, 1) := by decide +kernel
theorem dX8_why_67 : decode cX8_why 67 = .ok (.ireturn, 1) := by decide +kernel
theorem dX8_isRehearsed_0 : decode cX8_isRehearsed 0 = .ok (.iconst 1, 1) := by decide +kernel
theorem dX8_isRehearsed_1 : decode cX8_isRehearsed 1 = .ok (.istore_n 1, 1) := by decide +kernel
theorem dX8_isRehearsed_2 : decode cX8_isRehearsed 2 = .ok (.iconst 0, 1) := by decide +kernel
theorem dX8_isRehearsed_3 : decode cX8_isRehearsed 3 = .ok (.istore_n 2, 1) := by decide +kernel
theorem dX8_isRehearsed_4 : decode cX8_isRehearsed 4 = .ok (.iload_n 2, 1) := by decide +kernel
theorem dX8_isRehearsed_5 : decode cX8_isRehearsed 5 = .ok (.aload_n 0, 1) := by decide +kernel
theorem dX8_isRehearsed_6 : decode cX8_isRehearsed 6 = .ok (.getfield 13, 3) := by decide +kernel
theorem dX8_isRehearsed_9 : decode cX8_isRehearsed 9 = .ok (.iconst 0, 1) := by decide +kernel
theorem dX8_isRehearsed_10 : decode cX8_isRehearsed 10 = .ok (.iaload, 1) := by decide +kernel
theorem dX8_isRehearsed_11 : decode cX8_isRehearsed 11 = .ok (.if_icmp .ge 47, 3) := by decide +kernel
theorem dX8_isRehearsed_14 : decode cX8_isRehearsed 14 = .ok (.iload_n 1, 1) := by decide +kernel
theorem dX8_isRehearsed_15 : decode cX8_isRehearsed 15 = .ok (.ifCond .eq 35, 3) := by decide +kernel
theorem dX8_isRehearsed_18 : decode cX8_isRehearsed 18 = .ok (.aload_n 0, 1) := by decide +kernel
theorem dX8_isRehearsed_19 : decode cX8_isRehearsed 19 = .ok (.iload_n 2, 1) := by decide +kernel
theorem dX8_isRehearsed_20 : decode cX8_isRehearsed 20 = .ok (.iconst 2, 1) := by decide +kernel
theorem dX8_isRehearsed_21 : decode cX8_isRehearsed 21 = .ok (.invokevirtual 198, 3) := by decide +kernel
theorem dX8_isRehearsed_24 : decode cX8_isRehearsed 24 = .ok (.ifCond .eq 22, 3) := by decide +kernel
theorem dX8_isRehearsed_27 : decode cX8_isRehearsed 27 = .ok (.aload_n 0, 1) := by decide +kernel
theorem dX8_isRehearsed_28 : decode cX8_isRehearsed 28 = .ok (.aload_n 0, 1) := by decide +kernel
theorem dX8_isRehearsed_29 : decode cX8_isRehearsed 29 = .ok (.iload_n 2, 1) := by decide +kernel
theorem dX8_isRehearsed_30 : decode cX8_isRehearsed 30 = .ok (.iconst 3, 1) := by decide +kernel
theorem dX8_isRehearsed_31 : decode cX8_isRehearsed 31 = .ok (.invokevirtual 198, 3) := by decide +kernel
theorem dX8_isRehearsed_34 : decode cX8_isRehearsed 34 = .ok (.aload_n 0, 1) := by decide +kernel
theorem dX8_isRehearsed_35 : decode cX8_isRehearsed 35 = .ok (.iload_n 2, 1) := by decide +kernel
theorem dX8_isRehearsed_36 : decode cX8_isRehearsed 36 = .ok (.iconst 0, 1) := by decide +kernel
theorem dX8_isRehearsed_37 : decode cX8_isRehearsed 37 = .ok (.invokevirtual 198, 3) := by decide +kernel
theorem dX8_isRehearsed_40 : decode cX8_isRehearsed 40 = .ok (.invokevirtual 239, 3) := by decide +kernel
theorem dX8_isRehearsed_43 : decode cX8_isRehearsed 43 = .ok (.ifCond .eq 7, 3) := by decide +kernel
theorem dX8_isRehearsed_46 : decode cX8_isRehearsed 46 = .ok (.iconst 1, 1) := by decide +kernel
theorem dX8_isRehearsed_47 : decode cX8_isRehearsed 47 = .ok (.goto 4, 3) := by decide +kernel
theorem dX8_isRehearsed_50 : decode cX8_isRehearsed 50 = .ok (.iconst 0, 1) := by decide +kernel
theorem dX8_isRehearsed_51 : decode cX8_isRehearsed 51 = .ok (.istore_n 1, 1) := by decide +kernel
theorem dX8_isRehearsed_52 : decode cX8_isRehearsed 52 = .ok (.iinc 2 1, 3) := by decide +kernel
theorem dX8_isRehearsed_55 : decode cX8_isRehearsed 55 = .ok (.goto (-51), 3) := by decide +kernel
theorem dX8_isRehearsed_58 : decode cX8_isRehearsed 58 = .ok (.iload_n 1, 1) := by decide +kernel
theorem dX8_isRehearsed_59 : decode cX8_isRehearsed 59 = .ok (.ireturn, 1) := by decide +kernel
theorem dX8_movesBlock_0 : decode cX8_movesBlock 0 = .ok (.iconst 0, 1) := by decide +kernel
theorem dX8_movesBlock_1 : decode cX8_movesBlock 1 = .ok (.istore_n 3, 1) := by decide +kernel
theorem dX8_movesBlock_2 : decode cX8_movesBlock 2 = .ok (.iload_n 3, 1) := by decide +kernel
theorem dX8_movesBlock_3 : decode cX8_movesBlock 3 = .ok (.bipush 34, 2) := by decide +kernel
theorem dX8_movesBlock_5 : decode cX8_movesBlock 5 = .ok (.if_icmp .ge 37, 3) := by decide +kernel
theorem dX8_movesBlock_8 : decode cX8_movesBlock 8 = .ok (.aload_n 0, 1) := by decide +kernel
theorem dX8_movesBlock_9 : decode cX8_movesBlock 9 = .ok (.getfield 13, 3) := by decide +kernel
theorem dX8_movesBlock_12 : decode cX8_movesBlock 12 = .ok (.bipush 9, 2) := by decide +kernel
theorem dX8_movesBlock_14 : decode cX8_movesBlock 14 = .ok (.bipush 34, 2) := by decide +kernel
theorem dX8_movesBlock_16 : decode cX8_movesBlock 16 = .ok (.iload_n 2, 1) := by decide +kernel
theorem dX8_movesBlock_17 : decode cX8_movesBlock 17 = .ok (.imul, 1) := by decide +kernel
theorem dX8_movesBlock_18 : decode cX8_movesBlock 18 = .ok (.iadd, 1) := by decide +kernel
theorem dX8_movesBlock_19 : decode cX8_movesBlock 19 = .ok (.iload_n 3, 1) := by decide +kernel
theorem dX8_movesBlock_20 : decode cX8_movesBlock 20 = .ok (.iadd, 1) := by decide +kernel
theorem dX8_movesBlock_21 : decode cX8_movesBlock 21 = .ok (.aload_n 0, 1) := by decide +kernel
theorem dX8_movesBlock_22 : decode cX8_movesBlock 22 = .ok (.getfield 13, 3) := by decide +kernel
theorem dX8_movesBlock_25 : decode cX8_movesBlock 25 = .ok (.bipush 9, 2) := by decide +kernel
theorem dX8_movesBlock_27 : decode cX8_movesBlock 27 = .ok (.bipush 34, 2) := by decide +kernel
theorem dX8_movesBlock_29 : decode cX8_movesBlock 29 = .ok (.iload_n 1, 1) := by decide +kernel
theorem dX8_movesBlock_30 : decode cX8_movesBlock 30 = .ok (.imul, 1) := by decide +kernel
theorem dX8_movesBlock_31 : decode cX8_movesBlock 31 = .ok (.iadd, 1) := by decide +kernel
theorem dX8_movesBlock_32 : decode cX8_movesBlock 32 = .ok (.iload_n 3, 1) := by decide +kernel
theorem dX8_movesBlock_33 : decode cX8_movesBlock 33 = .ok (.iadd, 1) := by decide +kernel
theorem dX8_movesBlock_34 : decode cX8_movesBlock 34 = .ok (.iaload, 1) := by decide +kernel
theorem dX8_movesBlock_35 : decode cX8_movesBlock 35 = .ok (.iastore, 1) := by decide +kernel
theorem dX8_movesBlock_36 : decode cX8_movesBlock 36 = .ok (.iinc 3 1, 3) := by decide +kernel
theorem dX8_movesBlock_39 : decode cX8_movesBlock 39 = .ok (.goto (-37), 3) := by decide +kernel
theorem dX8_movesBlock_42 : decode cX8_movesBlock 42 = .ok (.return_, 1) := by decide +kernel
theorem dX8_takesOff_0 : decode cX8_takesOff 0 = .ok (.aload_n 0, 1) := by decide +kernel
theorem dX8_takesOff_1 : decode cX8_takesOff 1 = .ok (.getfield 13, 3) := by decide +kernel
theorem dX8_takesOff_4 : decode cX8_takesOff 4 = .ok (.iconst 0, 1) := by decide +kernel
theorem dX8_takesOff_5 : decode cX8_takesOff 5 = .ok (.dup2, 1) := by decide +kernel
theorem dX8_takesOff_6 : decode cX8_takesOff 6 = .ok (.iaload, 1) := by decide +kernel
theorem dX8_takesOff_7 : decode cX8_takesOff 7 = .ok (.iconst 1, 1) := by decide +kernel
theorem dX8_takesOff_8 : decode cX8_takesOff 8 = .ok (.isub, 1) := by decide +kernel
theorem dX8_takesOff_9 : decode cX8_takesOff 9 = .ok (.iastore, 1) := by decide +kernel
theorem dX8_takesOff_10 : decode cX8_takesOff 10 = .ok (.iload_n 1, 1) := by decide +kernel
theorem dX8_takesOff_11 : decode cX8_takesOff 11 = .ok (.istore_n 2, 1) := by decide +kernel
theorem dX8_takesOff_12 : decode cX8_takesOff 12 = .ok (.iload_n 2, 1) := by decide +kernel
theorem dX8_takesOff_13 : decode cX8_takesOff 13 = .ok (.aload_n 0, 1) := by decide +kernel
theorem dX8_takesOff_14 : decode cX8_takesOff 14 = .ok (.getfield 13, 3) := by decide +kernel
theorem dX8_takesOff_17 : decode cX8_takesOff 17 = .ok (.iconst 0, 1) := by decide +kernel
theorem dX8_takesOff_18 : decode cX8_takesOff 18 = .ok (.iaload, 1) := by decide +kernel
theorem dX8_takesOff_19 : decode cX8_takesOff 19 = .ok (.if_icmp .ge 17, 3) := by decide +kernel
theorem dX8_takesOff_22 : decode cX8_takesOff 22 = .ok (.aload_n 0, 1) := by decide +kernel
theorem dX8_takesOff_23 : decode cX8_takesOff 23 = .ok (.iload_n 2, 1) := by decide +kernel
theorem dX8_takesOff_24 : decode cX8_takesOff 24 = .ok (.iconst 1, 1) := by decide +kernel
theorem dX8_takesOff_25 : decode cX8_takesOff 25 = .ok (.iadd, 1) := by decide +kernel
theorem dX8_takesOff_26 : decode cX8_takesOff 26 = .ok (.iload_n 2, 1) := by decide +kernel
theorem dX8_takesOff_27 : decode cX8_takesOff 27 = .ok (.invokevirtual 245, 3) := by decide +kernel
theorem dX8_takesOff_30 : decode cX8_takesOff 30 = .ok (.iinc 2 1, 3) := by decide +kernel
theorem dX8_takesOff_33 : decode cX8_takesOff 33 = .ok (.goto (-21), 3) := by decide +kernel
theorem dX8_takesOff_36 : decode cX8_takesOff 36 = .ok (.return_, 1) := by decide +kernel
theorem dX8_comes_0 : decode cX8_comes 0 = .ok (.aload_n 0, 1) := by decide +kernel
theorem dX8_comes_1 : decode cX8_comes 1 = .ok (.iload_n 2, 1) := by decide +kernel
theorem dX8_comes_2 : decode cX8_comes 2 = .ok (.invokevirtual 224, 3) := by decide +kernel
theorem dX8_comes_5 : decode cX8_comes 5 = .ok (.istore 5, 2) := by decide +kernel
theorem dX8_comes_7 : decode cX8_comes 7 = .ok (.iconst 0, 1) := by decide +kernel
theorem dX8_comes_8 : decode cX8_comes 8 = .ok (.istore 6, 2) := by decide +kernel
theorem dX8_comes_10 : decode cX8_comes 10 = .ok (.iload 6, 2) := by decide +kernel
theorem dX8_comes_12 : decode cX8_comes 12 = .ok (.aload_n 0, 1) := by decide +kernel
theorem dX8_comes_13 : decode cX8_comes 13 = .ok (.getfield 13, 3) := by decide +kernel
theorem dX8_comes_16 : decode cX8_comes 16 = .ok (.iconst 0, 1) := by decide +kernel
theorem dX8_comes_17 : decode cX8_comes 17 = .ok (.iaload, 1) := by decide +kernel
theorem dX8_comes_18 : decode cX8_comes 18 = .ok (.if_icmp .ge 42, 3) := by decide +kernel
theorem dX8_comes_21 : decode cX8_comes 21 = .ok (.aload_n 0, 1) := by decide +kernel
theorem dX8_comes_22 : decode cX8_comes 22 = .ok (.iload 6, 2) := by decide +kernel
theorem dX8_comes_24 : decode cX8_comes 24 = .ok (.iconst 0, 1) := by decide +kernel
theorem dX8_comes_25 : decode cX8_comes 25 = .ok (.invokevirtual 198, 3) := by decide +kernel
theorem dX8_comes_28 : decode cX8_comes 28 = .ok (.iload_n 2, 1) := by decide +kernel
theorem dX8_comes_29 : decode cX8_comes 29 = .ok (.if_icmp .lt 25, 3) := by decide +kernel
theorem dX8_comes_32 : decode cX8_comes 32 = .ok (.aload_n 0, 1) := by decide +kernel
theorem dX8_comes_33 : decode cX8_comes 33 = .ok (.iload 6, 2) := by decide +kernel
theorem dX8_comes_35 : decode cX8_comes 35 = .ok (.iconst 0, 1) := by decide +kernel
theorem dX8_comes_36 : decode cX8_comes 36 = .ok (.invokevirtual 198, 3) := by decide +kernel
theorem dX8_comes_39 : decode cX8_comes 39 = .ok (.iload_n 2, 1) := by decide +kernel
theorem dX8_comes_40 : decode cX8_comes 40 = .ok (.if_icmp .ne 20, 3) := by decide +kernel
theorem dX8_comes_43 : decode cX8_comes 43 = .ok (.aload_n 0, 1) := by decide +kernel
theorem dX8_comes_44 : decode cX8_comes 44 = .ok (.iload 6, 2) := by decide +kernel
theorem dX8_comes_46 : decode cX8_comes 46 = .ok (.iconst 1, 1) := by decide +kernel
theorem dX8_comes_47 : decode cX8_comes 47 = .ok (.invokevirtual 198, 3) := by decide +kernel
theorem dX8_comes_50 : decode cX8_comes 50 = .ok (.iload_n 1, 1) := by decide +kernel
theorem dX8_comes_51 : decode cX8_comes 51 = .ok (.if_icmp .ge 9, 3) := by decide +kernel
theorem dX8_comes_54 : decode cX8_comes 54 = .ok (.iinc 6 1, 3) := by decide +kernel
theorem dX8_comes_57 : decode cX8_comes 57 = .ok (.goto (-47), 3) := by decide +kernel
theorem dX8_comes_60 : decode cX8_comes 60 = .ok (.aload_n 0, 1) := by decide +kernel
theorem dX8_comes_61 : decode cX8_comes 61 = .ok (.getfield 13, 3) := by decide +kernel
theorem dX8_comes_64 : decode cX8_comes 64 = .ok (.iconst 0, 1) := by decide +kernel
theorem dX8_comes_65 : decode cX8_comes 65 = .ok (.iaload, 1) := by decide +kernel
theorem dX8_comes_66 : decode cX8_comes 66 = .ok (.istore 7, 2) := by decide +kernel
theorem dX8_comes_68 : decode cX8_comes 68 = .ok (.iload 7, 2) := by decide +kernel
theorem dX8_comes_70 : decode cX8_comes 70 = .ok (.iload 6, 2) := by decide +kernel
theorem dX8_comes_72 : decode cX8_comes 72 = .ok (.if_icmp .le 19, 3) := by decide +kernel
theorem dX8_comes_75 : decode cX8_comes 75 = .ok (.aload_n 0, 1) := by decide +kernel
theorem dX8_comes_76 : decode cX8_comes 76 = .ok (.iload 7, 2) := by decide +kernel
theorem dX8_comes_78 : decode cX8_comes 78 = .ok (.iconst 1, 1) := by decide +kernel
theorem dX8_comes_79 : decode cX8_comes 79 = .ok (.isub, 1) := by decide +kernel
theorem dX8_comes_80 : decode cX8_comes 80 = .ok (.iload 7, 2) := by decide +kernel
theorem dX8_comes_82 : decode cX8_comes 82 = .ok (.invokevirtual 245, 3) := by decide +kernel
theorem dX8_comes_85 : decode cX8_comes 85 = .ok (.iinc 7 (-1), 3) := by decide +kernel
theorem dX8_comes_88 : decode cX8_comes 88 = .ok (.goto (-20), 3) := by decide +kernel
theorem dX8_comes_91 : decode cX8_comes 91 = .ok (.aload_n 0, 1) := by decide +kernel
theorem dX8_comes_92 : decode cX8_comes 92 = .ok (.getfield 13, 3) := by decide +kernel
theorem dX8_comes_95 : decode cX8_comes 95 = .ok (.iconst 0, 1) := by decide +kernel
theorem dX8_comes_96 : decode cX8_comes 96 = .ok (.dup2, 1) := by decide +kernel
theorem dX8_comes_97 : decode cX8_comes 97 = .ok (.iaload, 1) := by decide +kernel
theorem dX8_comes_98 : decode cX8_comes 98 = .ok (.iconst 1, 1) := by decide +kernel
theorem dX8_comes_99 : decode cX8_comes 99 = .ok (.iadd, 1) := by decide +kernel
theorem dX8_comes_100 : decode cX8_comes 100 = .ok (.iastore, 1) := by decide +kernel
theorem dX8_comes_101 : decode cX8_comes 101 = .ok (.bipush 9, 2) := by decide +kernel
theorem dX8_comes_103 : decode cX8_comes 103 = .ok (.bipush 34, 2) := by decide +kernel
theorem dX8_comes_105 : decode cX8_comes 105 = .ok (.iload 6, 2) := by decide +kernel
theorem dX8_comes_107 : decode cX8_comes 107 = .ok (.imul, 1) := by decide +kernel
theorem dX8_comes_108 : decode cX8_comes 108 = .ok (.iadd, 1) := by decide +kernel
theorem dX8_comes_109 : decode cX8_comes 109 = .ok (.istore 7, 2) := by decide +kernel
theorem dX8_comes_111 : decode cX8_comes 111 = .ok (.aload_n 0, 1) := by decide +kernel
theorem dX8_comes_112 : decode cX8_comes 112 = .ok (.getfield 13, 3) := by decide +kernel
theorem dX8_comes_115 : decode cX8_comes 115 = .ok (.iload 7, 2) := by decide +kernel
theorem dX8_comes_117 : decode cX8_comes 117 = .ok (.iconst 0, 1) := by decide +kernel
theorem dX8_comes_118 : decode cX8_comes 118 = .ok (.iadd, 1) := by decide +kernel
theorem dX8_comes_119 : decode cX8_comes 119 = .ok (.iload_n 2, 1) := by decide +kernel
theorem dX8_comes_120 : decode cX8_comes 120 = .ok (.iastore, 1) := by decide +kernel
theorem dX8_comes_121 : decode cX8_comes 121 = .ok (.aload_n 0, 1) := by decide +kernel
theorem dX8_comes_122 : decode cX8_comes 122 = .ok (.getfield 13, 3) := by decide +kernel
theorem dX8_comes_125 : decode cX8_comes 125 = .ok (.iload 7, 2) := by decide +kernel
theorem dX8_comes_127 : decode cX8_comes 127 = .ok (.iconst 1, 1) := by decide +kernel
theorem dX8_comes_128 : decode cX8_comes 128 = .ok (.iadd, 1) := by decide +kernel
theorem dX8_comes_129 : decode cX8_comes 129 = .ok (.iload_n 1, 1) := by decide +kernel
theorem dX8_comes_130 : decode cX8_comes 130 = .ok (.iastore, 1) := by decide +kernel
theorem dX8_comes_131 : decode cX8_comes 131 = .ok (.aload_n 0, 1) := by decide +kernel
theorem dX8_comes_132 : decode cX8_comes 132 = .ok (.getfield 13, 3) := by decide +kernel
theorem dX8_comes_135 : decode cX8_comes 135 = .ok (.iload 7, 2) := by decide +kernel
theorem dX8_comes_137 : decode cX8_comes 137 = .ok (.iconst 2, 1) := by decide +kernel
theorem dX8_comes_138 : decode cX8_comes 138 = .ok (.iadd, 1) := by decide +kernel
theorem dX8_comes_139 : decode cX8_comes 139 = .ok (.iload 4, 2) := by decide +kernel
theorem dX8_comes_141 : decode cX8_comes 141 = .ok (.iastore, 1) := by decide +kernel
theorem dX8_comes_142 : decode cX8_comes 142 = .ok (.aload_n 0, 1) := by decide +kernel
theorem dX8_comes_143 : decode cX8_comes 143 = .ok (.getfield 13, 3) := by decide +kernel
theorem dX8_comes_146 : decode cX8_comes 146 = .ok (.iload 7, 2) := by decide +kernel
theorem dX8_comes_148 : decode cX8_comes 148 = .ok (.iconst 3, 1) := by decide +kernel
theorem dX8_comes_149 : decode cX8_comes 149 = .ok (.iadd, 1) := by decide +kernel
theorem dX8_comes_150 : decode cX8_comes 150 = .ok (.iload_n 3, 1) := by decide +kernel
theorem dX8_comes_151 : decode cX8_comes 151 = .ok (.iastore, 1) := by decide +kernel
theorem dX8_comes_152 : decode cX8_comes 152 = .ok (.iconst 0, 1) := by decide +kernel
theorem dX8_comes_153 : decode cX8_comes 153 = .ok (.istore 8, 2) := by decide +kernel
theorem dX8_comes_155 : decode cX8_comes 155 = .ok (.iload 8, 2) := by decide +kernel
theorem dX8_comes_157 : decode cX8_comes 157 = .ok (.aload_n 0, 1) := by decide +kernel
theorem dX8_comes_158 : decode cX8_comes 158 = .ok (.getfield 7, 3) := by decide +kernel
theorem dX8_comes_161 : decode cX8_comes 161 = .ok (.iconst 3, 1) := by decide +kernel
theorem dX8_comes_162 : decode cX8_comes 162 = .ok (.iaload, 1) := by decide +kernel
theorem dX8_comes_163 : decode cX8_comes 163 = .ok (.if_icmp .ge 99, 3) := by decide +kernel
theorem dX8_comes_166 : decode cX8_comes 166 = .ok (.iload_n 3, 1) := by decide +kernel
theorem dX8_comes_167 : decode cX8_comes 167 = .ok (.iload 8, 2) := by decide +kernel
theorem dX8_comes_169 : decode cX8_comes 169 = .ok (.ishr, 1) := by decide +kernel
theorem dX8_comes_170 : decode cX8_comes 170 = .ok (.iconst 1, 1) := by decide +kernel
theorem dX8_comes_171 : decode cX8_comes 171 = .ok (.iand, 1) := by decide +kernel
theorem dX8_comes_172 : decode cX8_comes 172 = .ok (.iconst 1, 1) := by decide +kernel
theorem dX8_comes_173 : decode cX8_comes 173 = .ok (.if_icmp .ne 18, 3) := by decide +kernel
theorem dX8_comes_176 : decode cX8_comes 176 = .ok (.aload_n 0, 1) := by decide +kernel
theorem dX8_comes_177 : decode cX8_comes 177 = .ok (.iload 8, 2) := by decide +kernel
theorem dX8_comes_179 : decode cX8_comes 179 = .ok (.iload 5, 2) := by decide +kernel
theorem dX8_comes_181 : decode cX8_comes 181 = .ok (.invokevirtual 227, 3) := by decide +kernel
theorem dX8_comes_184 : decode cX8_comes 184 = .ok (.ifCond .eq 7, 3) := by decide +kernel
theorem dX8_comes_187 : decode cX8_comes 187 = .ok (.iconst 1, 1) := by decide +kernel
theorem dX8_comes_188 : decode cX8_comes 188 = .ok (.goto 4, 3) := by decide +kernel
theorem dX8_comes_191 : decode cX8_comes 191 = .ok (.iconst 0, 1) := by decide +kernel
theorem dX8_comes_192 : decode cX8_comes 192 = .ok (.istore 9, 2) := by decide +kernel
theorem dX8_comes_194 : decode cX8_comes 194 = .ok (.iconst 0, 1) := by decide +kernel
theorem dX8_comes_195 : decode cX8_comes 195 = .ok (.istore 10, 2) := by decide +kernel
theorem dX8_comes_197 : decode cX8_comes 197 = .ok (.iload 10, 2) := by decide +kernel
theorem dX8_comes_199 : decode cX8_comes 199 = .ok (.bipush 6, 2) := by decide +kernel
theorem dX8_comes_201 : decode cX8_comes 201 = .ok (.if_icmp .ge 55, 3) := by decide +kernel
theorem dX8_comes_204 : decode cX8_comes 204 = .ok (.aload_n 0, 1) := by decide +kernel
theorem dX8_comes_205 : decode cX8_comes 205 = .ok (.getfield 13, 3) := by decide +kernel
theorem dX8_comes_208 : decode cX8_comes 208 = .ok (.iload 7, 2) := by decide +kernel
theorem dX8_comes_210 : decode cX8_comes 210 = .ok (.iconst 4, 1) := by decide +kernel
theorem dX8_comes_211 : decode cX8_comes 211 = .ok (.iadd, 1) := by decide +kernel
theorem dX8_comes_212 : decode cX8_comes 212 = .ok (.bipush 6, 2) := by decide +kernel
theorem dX8_comes_214 : decode cX8_comes 214 = .ok (.iload 8, 2) := by decide +kernel
theorem dX8_comes_216 : decode cX8_comes 216 = .ok (.imul, 1) := by decide +kernel
theorem dX8_comes_217 : decode cX8_comes 217 = .ok (.iadd, 1) := by decide +kernel
theorem dX8_comes_218 : decode cX8_comes 218 = .ok (.iload 10, 2) := by decide +kernel
theorem dX8_comes_220 : decode cX8_comes 220 = .ok (.iadd, 1) := by decide +kernel
theorem dX8_comes_221 : decode cX8_comes 221 = .ok (.iload 9, 2) := by decide +kernel
theorem dX8_comes_223 : decode cX8_comes 223 = .ok (.ifCond .eq 25, 3) := by decide +kernel
theorem dX8_comes_226 : decode cX8_comes 226 = .ok (.iload 10, 2) := by decide +kernel
theorem dX8_comes_228 : decode cX8_comes 228 = .ok (.aload_n 0, 1) := by decide +kernel
theorem dX8_comes_229 : decode cX8_comes 229 = .ok (.iload 8, 2) := by decide +kernel
theorem dX8_comes_231 : decode cX8_comes 231 = .ok (.iconst 4, 1) := by decide +kernel
theorem dX8_comes_232 : decode cX8_comes 232 = .ok (.invokevirtual 201, 3) := by decide +kernel
theorem dX8_comes_235 : decode cX8_comes 235 = .ok (.if_icmp .ge 13, 3) := by decide +kernel
theorem dX8_comes_238 : decode cX8_comes 238 = .ok (.aload_n 0, 1) := by decide +kernel
theorem dX8_comes_239 : decode cX8_comes 239 = .ok (.getfield 37, 3) := by decide +kernel
theorem dX8_comes_242 : decode cX8_comes 242 = .ok (.iload 10, 2) := by decide +kernel
theorem dX8_comes_244 : decode cX8_comes 244 = .ok (.iaload, 1) := by decide +kernel
theorem dX8_comes_245 : decode cX8_comes 245 = .ok (.goto 4, 3) := by decide +kernel
theorem dX8_comes_248 : decode cX8_comes 248 = .ok (.iconst (-1), 1) := by decide +kernel
theorem dX8_comes_249 : decode cX8_comes 249 = .ok (.iastore, 1) := by decide +kernel
theorem dX8_comes_250 : decode cX8_comes 250 = .ok (.iinc 10 1, 3) := by decide +kernel
theorem dX8_comes_253 : decode cX8_comes 253 = .ok (.goto (-56), 3) := by decide +kernel
theorem dX8_comes_256 : decode cX8_comes 256 = .ok (.iinc 8 1, 3) := by decide +kernel
theorem dX8_comes_259 : decode cX8_comes 259 = .ok (.goto (-104), 3) := by decide +kernel
theorem dX8_comes_262 : decode cX8_comes 262 = .ok (.iload 6, 2) := by decide +kernel
theorem dX8_comes_264 : decode cX8_comes 264 = .ok (.ireturn, 1) := by decide +kernel
theorem dX8_size_0 : decode cX8_size 0 = .ok (.aload_n 0, 1) := by decide +kernel
theorem dX8_size_1 : decode cX8_size 1 = .ok (.iconst 0, 1) := by decide +kernel
theorem dX8_size_2 : decode cX8_size 2 = .ok (.putfield 56, 3) := by decide +kernel
theorem dX8_size_5 : decode cX8_size 5 = .ok (.aload_n 0, 1) := by decide +kernel
theorem dX8_size_6 : decode cX8_size 6 = .ok (.iload_n 1, 1) := by decide +kernel
theorem dX8_size_7 : decode cX8_size 7 = .ok (.iconst 0, 1) := by decide +kernel
theorem dX8_size_8 : decode cX8_size 8 = .ok (.bipush 7, 2) := by decide +kernel
theorem dX8_size_10 : decode cX8_size 10 = .ok (.invokestatic 80, 3) := by decide +kernel
theorem dX8_size_13 : decode cX8_size 13 = .ok (.ifCond .ne 7, 3) := by decide +kernel
theorem dX8_size_16 : decode cX8_size 16 = .ok (.iconst 1, 1) := by decide +kernel
theorem dX8_size_17 : decode cX8_size 17 = .ok (.goto 4, 3) := by decide +kernel
theorem dX8_size_20 : decode cX8_size 20 = .ok (.iconst 0, 1) := by decide +kernel
theorem dX8_size_21 : decode cX8_size 21 = .ok (.iconst 1, 1) := by decide +kernel
theorem dX8_size_22 : decode cX8_size 22 = .ok (.invokevirtual 176, 3) := by decide +kernel
theorem dX8_size_25 : decode cX8_size 25 = .ok (.ifCond .eq 5, 3) := by decide +kernel
theorem dX8_size_28 : decode cX8_size 28 = .ok (.iconst 0, 1) := by decide +kernel
theorem dX8_size_29 : decode cX8_size 29 = .ok (.ireturn, 1) := by decide +kernel
theorem dX8_size_30 : decode cX8_size 30 = .ok (.iload_n 1, 1) := by decide +kernel
theorem dX8_size_31 : decode cX8_size 31 = .ok (.iconst 5, 1) := by decide +kernel
theorem dX8_size_32 : decode cX8_size 32 = .ok (.if_icmp .ge 12, 3) := by decide +kernel
theorem dX8_size_35 : decode cX8_size 35 = .ok (.aload_n 0, 1) := by decide +kernel
theorem dX8_size_36 : decode cX8_size 36 = .ok (.getfield 7, 3) := by decide +kernel
theorem dX8_size_39 : decode cX8_size 39 = .ok (.iload_n 1, 1) := by decide +kernel
theorem dX8_size_40 : decode cX8_size 40 = .ok (.iaload, 1) := by decide +kernel
theorem dX8_size_41 : decode cX8_size 41 = .ok (.goto 36, 3) := by decide +kernel
theorem dX8_size_44 : decode cX8_size 44 = .ok (.iload_n 1, 1) := by decide +kernel
theorem dX8_size_45 : decode cX8_size 45 = .ok (.iconst 5, 1) := by decide +kernel
theorem dX8_size_46 : decode cX8_size 46 = .ok (.if_icmp .ne 12, 3) := by decide +kernel
theorem dX8_size_49 : decode cX8_size 49 = .ok (.aload_n 0, 1) := by decide +kernel
theorem dX8_size_50 : decode cX8_size 50 = .ok (.getfield 13, 3) := by decide +kernel
theorem dX8_size_53 : decode cX8_size 53 = .ok (.iconst 0, 1) := by decide +kernel
theorem dX8_size_54 : decode cX8_size 54 = .ok (.iaload, 1) := by decide +kernel
theorem dX8_size_55 : decode cX8_size 55 = .ok (.goto 22, 3) := by decide +kernel
theorem dX8_size_58 : decode cX8_size 58 = .ok (.iload_n 1, 1) := by decide +kernel
theorem dX8_size_59 : decode cX8_size 59 = .ok (.bipush 6, 2) := by decide +kernel
theorem dX8_size_61 : decode cX8_size 61 = .ok (.if_icmp .ne 12, 3) := by decide +kernel
theorem dX8_size_64 : decode cX8_size 64 = .ok (.aload_n 0, 1) := by decide +kernel
theorem dX8_size_65 : decode cX8_size 65 = .ok (.getfield 7, 3) := by decide +kernel
theorem dX8_size_68 : decode cX8_size 68 = .ok (.iconst 5, 1) := by decide +kernel
theorem dX8_size_69 : decode cX8_size 69 = .ok (.iaload, 1) := by decide +kernel
theorem dX8_size_70 : decode cX8_size 70 = .ok (.goto 7, 3) := by decide +kernel
theorem dX8_size_73 : decode cX8_size 73 = .ok (.aload_n 0, 1) := by decide +kernel
theorem dX8_size_74 : decode cX8_size 74 = .ok (.getfield 191, 3) := by decide +kernel
theorem dX8_size_77 : decode cX8_size 77 = .ok (.ireturn, 1) := by decide +kernel
theorem dX8_find_0 : decode cX8_find 0 = .ok (.aload_n 0, 1) := by decide +kernel
theorem dX8_find_1 : decode cX8_find 1 = .ok (.iconst 0, 1) := by decide +kernel
theorem dX8_find_2 : decode cX8_find 2 = .ok (.putfield 56, 3) := by decide +kernel
theorem dX8_find_5 : decode cX8_find 5 = .ok (.aload_n 0, 1) := by decide +kernel
theorem dX8_find_6 : decode cX8_find 6 = .ok (.iload_n 1, 1) := by decide +kernel
theorem dX8_find_7 : decode cX8_find 7 = .ok (.iconst 0, 1) := by decide +kernel
theorem dX8_find_8 : decode cX8_find 8 = .ok (.iconst 3, 1) := by decide +kernel
theorem dX8_find_9 : decode cX8_find 9 = .ok (.invokestatic 80, 3) := by decide +kernel
theorem dX8_find_12 : decode cX8_find 12 = .ok (.ifCond .ne 7, 3) := by decide +kernel
theorem dX8_find_15 : decode cX8_find 15 = .ok (.iconst 1, 1) := by decide +kernel
theorem dX8_find_16 : decode cX8_find 16 = .ok (.goto 4, 3) := by decide +kernel
theorem dX8_find_19 : decode cX8_find 19 = .ok (.iconst 0, 1) := by decide +kernel
theorem dX8_find_20 : decode cX8_find 20 = .ok (.iconst 1, 1) := by decide +kernel
theorem dX8_find_21 : decode cX8_find 21 = .ok (.invokevirtual 176, 3) := by decide +kernel
theorem dX8_find_24 : decode cX8_find 24 = .ok (.ifCond .eq 5, 3) := by decide +kernel
theorem dX8_find_27 : decode cX8_find 27 = .ok (.iconst 0, 1) := by decide +kernel
theorem dX8_find_28 : decode cX8_find 28 = .ok (.ireturn, 1) := by decide +kernel
theorem dX8_find_29 : decode cX8_find 29 = .ok (.aload_n 0, 1) := by decide +kernel
theorem dX8_find_30 : decode cX8_find 30 = .ok (.aload_n 0, 1) := by decide +kernel
theorem dX8_find_31 : decode cX8_find 31 = .ok (.getfield 59, 3) := by decide +kernel
theorem dX8_find_34 : decode cX8_find 34 = .ok (.putfield 66, 3) := by decide +kernel
theorem dX8_find_37 : decode cX8_find 37 = .ok (.aload_n 0, 1) := by decide +kernel
theorem dX8_find_38 : decode cX8_find 38 = .ok (.iconst 0, 1) := by decide +kernel
theorem dX8_find_39 : decode cX8_find 39 = .ok (.putfield 59, 3) := by decide +kernel
theorem dX8_find_42 : decode cX8_find 42 = .ok (.aload_n 0, 1) := by decide +kernel
theorem dX8_find_43 : decode cX8_find 43 = .ok (.iconst 0, 1) := by decide +kernel
theorem dX8_find_44 : decode cX8_find 44 = .ok (.putfield 84, 3) := by decide +kernel
theorem dX8_find_47 : decode cX8_find 47 = .ok (.aload_n 0, 1) := by decide +kernel
theorem dX8_find_48 : decode cX8_find 48 = .ok (.iconst 0, 1) := by decide +kernel
theorem dX8_find_49 : decode cX8_find 49 = .ok (.putfield 73, 3) := by decide +kernel
theorem dX8_find_52 : decode cX8_find 52 = .ok (.aload_n 0, 1) := by decide +kernel
theorem dX8_find_53 : decode cX8_find 53 = .ok (.invokevirtual 93, 3) := by decide +kernel
theorem dX8_find_56 : decode cX8_find 56 = .ok (.aload_n 0, 1) := by decide +kernel
theorem dX8_find_57 : decode cX8_find 57 = .ok (.getfield 73, 3) := by decide +kernel
theorem dX8_find_60 : decode cX8_find 60 = .ok (.istore_n 2, 1) := by decide +kernel
theorem dX8_find_61 : decode cX8_find 61 = .ok (.aload_n 0, 1) := by decide +kernel
theorem dX8_find_62 : decode cX8_find 62 = .ok (.aload_n 0, 1) := by decide +kernel
theorem dX8_find_63 : decode cX8_find 63 = .ok (.getfield 73, 3) := by decide +kernel
theorem dX8_find_66 : decode cX8_find 66 = .ok (.invokevirtual 76, 3) := by decide +kernel
theorem dX8_find_69 : decode cX8_find 69 = .ok (.bipush 32, 2) := by decide +kernel
theorem dX8_find_71 : decode cX8_find 71 = .ok (.if_icmp .ne 16, 3) := by decide +kernel
theorem dX8_find_74 : decode cX8_find 74 = .ok (.aload_n 0, 1) := by decide +kernel
theorem dX8_find_75 : decode cX8_find 75 = .ok (.dup, 1) := by decide +kernel
theorem dX8_find_76 : decode cX8_find 76 = .ok (.getfield 73, 3) := by decide +kernel
theorem dX8_find_79 : decode cX8_find 79 = .ok (.iconst 1, 1) := by decide +kernel
theorem dX8_find_80 : decode cX8_find 80 = .ok (.iadd, 1) := by decide +kernel
theorem dX8_find_81 : decode cX8_find 81 = .ok (.putfield 73, 3) := by decide +kernel
theorem dX8_find_84 : decode cX8_find 84 = .ok (.goto (-23), 3) := by decide +kernel
theorem dX8_find_87 : decode cX8_find 87 = .ok (.iload_n 2, 1) := by decide +kernel
theorem dX8_find_88 : decode cX8_find 88 = .ok (.ifCond .eq 20, 3) := by decide +kernel
theorem dX8_find_91 : decode cX8_find 91 = .ok (.iload_n 2, 1) := by decide +kernel
theorem dX8_find_92 : decode cX8_find 92 = .ok (.bipush 8, 2) := by decide +kernel
theorem dX8_find_94 : decode cX8_find 94 = .ok (.if_icmp .gt 14, 3) := by decide +kernel
theorem dX8_find_97 : decode cX8_find 97 = .ok (.aload_n 0, 1) := by decide +kernel
theorem dX8_find_98 : decode cX8_find 98 = .ok (.getfield 73, 3) := by decide +kernel
theorem dX8_find_101 : decode cX8_find 101 = .ok (.aload_n 0, 1) := by decide +kernel
theorem dX8_find_102 : decode cX8_find 102 = .ok (.getfield 66, 3) := by decide +kernel
theorem dX8_find_105 : decode cX8_find 105 = .ok (.if_icmp .ge 7, 3) := by decide +kernel
theorem dX8_find_108 : decode cX8_find 108 = .ok (.iconst (-1), 1) := by decide +kernel
theorem dX8_find_109 : decode cX8_find 109 = .ok (.goto 23, 3) := by decide +kernel
theorem dX8_find_112 : decode cX8_find 112 = .ok (.aload_n 0, 1) := by decide +kernel
theorem dX8_find_113 : decode cX8_find 113 = .ok (.getfield 16, 3) := by decide +kernel
theorem dX8_find_116 : decode cX8_find 116 = .ok (.iload_n 1, 1) := by decide +kernel
theorem dX8_find_117 : decode cX8_find 117 = .ok (.aload_n 0, 1) := by decide +kernel
theorem dX8_find_118 : decode cX8_find 118 = .ok (.getfield 7, 3) := by decide +kernel
theorem dX8_find_121 : decode cX8_find 121 = .ok (.iconst 1, 1) := by decide +kernel
theorem dX8_find_122 : decode cX8_find 122 = .ok (.iload_n 1, 1) := by decide +kernel
theorem dX8_find_123 : decode cX8_find 123 = .ok (.iadd, 1) := by decide +kernel
theorem dX8_find_124 : decode cX8_find 124 = .ok (.iaload, 1) := by decide +kernel
theorem dX8_find_125 : decode cX8_find 125 = .ok (.aload_n 0, 1) := by decide +kernel
theorem dX8_find_126 : decode cX8_find 126 = .ok (.getfield 69, 3) := by decide +kernel
theorem dX8_find_129 : decode cX8_find 129 = .ok (.invokestatic 126, 3) := by decide +kernel
theorem dX8_find_132 : decode cX8_find 132 = .ok (.ireturn, 1) := by decide +kernel
theorem dX8_no_0 : decode cX8_no 0 = .ok (.aload_n 0, 1) := by decide +kernel
theorem dX8_no_1 : decode cX8_no 1 = .ok (.iload_n 1, 1) := by decide +kernel
theorem dX8_no_2 : decode cX8_no 2 = .ok (.iconst 0, 1) := by decide +kernel
theorem dX8_no_3 : decode cX8_no 3 = .ok (.iload_n 2, 1) := by decide +kernel
theorem dX8_no_4 : decode cX8_no 4 = .ok (.iconst 1, 1) := by decide +kernel
theorem dX8_no_5 : decode cX8_no 5 = .ok (.isub, 1) := by decide +kernel
theorem dX8_no_6 : decode cX8_no 6 = .ok (.invokestatic 80, 3) := by decide +kernel
theorem dX8_no_9 : decode cX8_no 9 = .ok (.ifCond .ne 7, 3) := by decide +kernel
theorem dX8_no_12 : decode cX8_no 12 = .ok (.iconst 1, 1) := by decide +kernel
theorem dX8_no_13 : decode cX8_no 13 = .ok (.goto 4, 3) := by decide +kernel
theorem dX8_no_16 : decode cX8_no 16 = .ok (.iconst 0, 1) := by decide +kernel
theorem dX8_no_17 : decode cX8_no 17 = .ok (.iconst 1, 1) := by decide +kernel
theorem dX8_no_18 : decode cX8_no 18 = .ok (.invokevirtual 176, 3) := by decide +kernel
theorem dX8_no_21 : decode cX8_no 21 = .ok (.ireturn, 1) := by decide +kernel
theorem dX8_noWhat_0 : decode cX8_noWhat 0 = .ok (.aload_n 0, 1) := by decide +kernel
theorem dX8_noWhat_1 : decode cX8_noWhat 1 = .ok (.iload_n 1, 1) := by decide +kernel
theorem dX8_noWhat_2 : decode cX8_noWhat 2 = .ok (.iconst 0, 1) := by decide +kernel
theorem dX8_noWhat_3 : decode cX8_noWhat 3 = .ok (.iload_n 2, 1) := by decide +kernel
theorem dX8_noWhat_4 : decode cX8_noWhat 4 = .ok (.invokestatic 80, 3) := by decide +kernel
theorem dX8_noWhat_7 : decode cX8_noWhat 7 = .ok (.ifCond .ne 7, 3) := by decide +kernel
theorem dX8_noWhat_10 : decode cX8_noWhat 10 = .ok (.iconst 1, 1) := by decide +kernel
theorem dX8_noWhat_11 : decode cX8_noWhat 11 = .ok (.goto 4, 3) := by decide +kernel
theorem dX8_noWhat_14 : decode cX8_noWhat 14 = .ok (.iconst 0, 1) := by decide +kernel
theorem dX8_noWhat_15 : decode cX8_noWhat 15 = .ok (.iconst 2, 1) := by decide +kernel
theorem dX8_noWhat_16 : decode cX8_noWhat 16 = .ok (.invokevirtual 176, 3) := by decide +kernel
theorem dX8_noWhat_19 : decode cX8_noWhat 19 = .ok (.ireturn, 1) := by decide +kernel
theorem dX8_turn_0 : decode cX8_turn 0 = .ok (.aload_n 0, 1) := by decide +kernel
theorem dX8_turn_1 : decode cX8_turn 1 = .ok (.iconst 0, 1) := by decide +kernel
theorem dX8_turn_2 : decode cX8_turn 2 = .ok (.putfield 56, 3) := by decide +kernel
theorem dX8_turn_5 : decode cX8_turn 5 = .ok (.aload_n 0, 1) := by decide +kernel
theorem dX8_turn_6 : decode cX8_turn 6 = .ok (.iload_n 1, 1) := by decide +kernel
theorem dX8_turn_7 : decode cX8_turn 7 = .ok (.aload_n 0, 1) := by decide +kernel
theorem dX8_turn_8 : decode cX8_turn 8 = .ok (.getfield 7, 3) := by decide +kernel
theorem dX8_turn_11 : decode cX8_turn 11 = .ok (.iconst 1, 1) := by decide +kernel
theorem dX8_turn_12 : decode cX8_turn 12 = .ok (.iaload, 1) := by decide +kernel
theorem dX8_turn_13 : decode cX8_turn 13 = .ok (.invokevirtual 249, 3) := by decide +kernel
theorem dX8_turn_16 : decode cX8_turn 16 = .ok (.ifCond .eq 7, 3) := by decide +kernel
theorem dX8_turn_19 : decode cX8_turn 19 = .ok (.iconst 0, 1) := by decide +kernel
theorem dX8_turn_20 : decode cX8_turn 20 = .ok (.goto 12, 3) := by decide +kernel
theorem dX8_turn_23 : decode cX8_turn 23 = .ok (.aload_n 0, 1) := by decide +kernel
theorem dX8_turn_24 : decode cX8_turn 24 = .ok (.getfield 7, 3) := by decide +kernel
theorem dX8_turn_27 : decode cX8_turn 27 = .ok (.bipush 6, 2) := by decide +kernel
theorem dX8_turn_29 : decode cX8_turn 29 = .ok (.iload_n 1, 1) := by decide +kernel
theorem dX8_turn_30 : decode cX8_turn 30 = .ok (.iadd, 1) := by decide +kernel
theorem dX8_turn_31 : decode cX8_turn 31 = .ok (.iaload, 1) := by decide +kernel
theorem dX8_turn_32 : decode cX8_turn 32 = .ok (.ireturn, 1) := by decide +kernel
theorem dX8_servicesOf_0 : decode cX8_servicesOf 0 = .ok (.iconst 0, 1) := by decide +kernel
theorem dX8_servicesOf_1 : decode cX8_servicesOf 1 = .ok (.istore_n 2, 1) := by decide +kernel
theorem dX8_servicesOf_2 : decode cX8_servicesOf 2 = .ok (.iconst 0, 1) := by decide +kernel
theorem dX8_servicesOf_3 : decode cX8_servicesOf 3 = .ok (.istore_n 3, 1) := by decide +kernel
theorem dX8_servicesOf_4 : decode cX8_servicesOf 4 = .ok (.iload_n 3, 1) := by decide +kernel
theorem dX8_servicesOf_5 : decode cX8_servicesOf 5 = .ok (.aload_n 0, 1) := by decide +kernel
theorem dX8_servicesOf_6 : decode cX8_servicesOf 6 = .ok (.getfield 13, 3) := by decide +kernel
theorem dX8_servicesOf_9 : decode cX8_servicesOf 9 = .ok (.iconst 0, 1) := by decide +kernel
theorem dX8_servicesOf_10 : decode cX8_servicesOf 10 = .ok (.iaload, 1) := by decide +kernel
theorem dX8_servicesOf_11 : decode cX8_servicesOf 11 = .ok (.if_icmp .ge 21, 3) := by decide +kernel
theorem dX8_servicesOf_14 : decode cX8_servicesOf 14 = .ok (.iload_n 2, 1) := by decide +kernel
theorem dX8_servicesOf_15 : decode cX8_servicesOf 15 = .ok (.aload_n 0, 1) := by decide +kernel
theorem dX8_servicesOf_16 : decode cX8_servicesOf 16 = .ok (.iload_n 3, 1) := by decide +kernel
theorem dX8_servicesOf_17 : decode cX8_servicesOf 17 = .ok (.invokevirtual 211, 3) := by decide +kernel
theorem dX8_servicesOf_20 : decode cX8_servicesOf 20 = .ok (.iload_n 1, 1) := by decide +kernel
theorem dX8_servicesOf_21 : decode cX8_servicesOf 21 = .ok (.ishr, 1) := by decide +kernel
theorem dX8_servicesOf_22 : decode cX8_servicesOf 22 = .ok (.iconst 1, 1) := by decide +kernel
theorem dX8_servicesOf_23 : decode cX8_servicesOf 23 = .ok (.iand, 1) := by decide +kernel
theorem dX8_servicesOf_24 : decode cX8_servicesOf 24 = .ok (.iadd, 1) := by decide +kernel
theorem dX8_servicesOf_25 : decode cX8_servicesOf 25 = .ok (.istore_n 2, 1) := by decide +kernel
theorem dX8_servicesOf_26 : decode cX8_servicesOf 26 = .ok (.iinc 3 1, 3) := by decide +kernel
theorem dX8_servicesOf_29 : decode cX8_servicesOf 29 = .ok (.goto (-25), 3) := by decide +kernel
theorem dX8_servicesOf_32 : decode cX8_servicesOf 32 = .ok (.iload_n 2, 1) := by decide +kernel
theorem dX8_servicesOf_33 : decode cX8_servicesOf 33 = .ok (.ireturn, 1) := by decide +kernel
theorem dX8_doublingsOf_0 : decode cX8_doublingsOf 0 = .ok (.iconst 0, 1) := by decide +kernel
theorem dX8_doublingsOf_1 : decode cX8_doublingsOf 1 = .ok (.istore_n 2, 1) := by decide +kernel
theorem dX8_doublingsOf_2 : decode cX8_doublingsOf 2 = .ok (.iconst 0, 1) := by decide +kernel
theorem dX8_doublingsOf_3 : decode cX8_doublingsOf 3 = .ok (.istore_n 3, 1) := by decide +kernel
theorem dX8_doublingsOf_4 : decode cX8_doublingsOf 4 = .ok (.iload_n 3, 1) := by decide +kernel
theorem dX8_doublingsOf_5 : decode cX8_doublingsOf 5 = .ok (.aload_n 0, 1) := by decide +kernel
theorem dX8_doublingsOf_6 : decode cX8_doublingsOf 6 = .ok (.getfield 13, 3) := by decide +kernel
theorem dX8_doublingsOf_9 : decode cX8_doublingsOf 9 = .ok (.iconst 0, 1) := by decide +kernel
theorem dX8_doublingsOf_10 : decode cX8_doublingsOf 10 = .ok (.iaload, 1) := by decide +kernel
theorem dX8_doublingsOf_11 : decode cX8_doublingsOf 11 = .ok (.if_icmp .ge 18, 3) := by decide +kernel
theorem dX8_doublingsOf_14 : decode cX8_doublingsOf 14 = .ok (.iload_n 2, 1) := by decide +kernel
theorem dX8_doublingsOf_15 : decode cX8_doublingsOf 15 = .ok (.aload_n 0, 1) := by decide +kernel
theorem dX8_doublingsOf_16 : decode cX8_doublingsOf 16 = .ok (.iload_n 3, 1) := by decide +kernel
theorem dX8_doublingsOf_17 : decode cX8_doublingsOf 17 = .ok (.iload_n 1, 1) := by decide +kernel
theorem dX8_doublingsOf_18 : decode cX8_doublingsOf 18 = .ok (.invokevirtual 252, 3) := by decide +kernel
theorem dX8_doublingsOf_21 : decode cX8_doublingsOf 21 = .ok (.iadd, 1) := by decide +kernel
theorem dX8_doublingsOf_22 : decode cX8_doublingsOf 22 = .ok (.istore_n 2, 1) := by decide +kernel
theorem dX8_doublingsOf_23 : decode cX8_doublingsOf 23 = .ok (.iinc 3 1, 3) := by decide +kernel
theorem dX8_doublingsOf_26 : decode cX8_doublingsOf 26 = .ok (.goto (-22), 3) := by decide +kernel
theorem dX8_doublingsOf_29 : decode cX8_doublingsOf 29 = .ok (.iload_n 2, 1) := by decide +kernel
theorem dX8_doublingsOf_30 : decode cX8_doublingsOf 30 = .ok (.ireturn, 1) := by decide +kernel
theorem dX8_beyond_0 : decode cX8_beyond 0 = .ok (.aload_n 0, 1) := by decide +kernel
theorem dX8_beyond_1 : decode cX8_beyond 1 = .ok (.iload_n 1, 1) := by decide +kernel
theorem dX8_beyond_2 : decode cX8_beyond 2 = .ok (.invokevirtual 255, 3) := by decide +kernel
theorem dX8_beyond_5 : decode cX8_beyond 5 = .ok (.aload_n 0, 1) := by decide +kernel
theorem dX8_beyond_6 : decode cX8_beyond 6 = .ok (.getfield 13, 3) := by decide +kernel
theorem dX8_beyond_9 : decode cX8_beyond 9 = .ok (.iconst 1, 1) := by decide +kernel
theorem dX8_beyond_10 : decode cX8_beyond 10 = .ok (.iload_n 1, 1) := by decide +kernel
theorem dX8_beyond_11 : decode cX8_beyond 11 = .ok (.iadd, 1) := by decide +kernel
theorem dX8_beyond_12 : decode cX8_beyond 12 = .ok (.iaload, 1) := by decide +kernel
theorem dX8_beyond_13 : decode cX8_beyond 13 = .ok (.isub, 1) := by decide +kernel
theorem dX8_beyond_14 : decode cX8_beyond 14 = .ok (.ireturn, 1) := by decide +kernel
theorem dX8_overtimeOf_0 : decode cX8_overtimeOf 0 = .ok (.aload_n 0, 1) := by decide +kernel
theorem dX8_overtimeOf_1 : decode cX8_overtimeOf 1 = .ok (.iload_n 1, 1) := by decide +kernel
theorem dX8_overtimeOf_2 : decode cX8_overtimeOf 2 = .ok (.invokevirtual 258, 3) := by decide +kernel
theorem dX8_overtimeOf_5 : decode cX8_overtimeOf 5 = .ok (.ifCond .le 18, 3) := by decide +kernel
theorem dX8_overtimeOf_8 : decode cX8_overtimeOf 8 = .ok (.aload_n 0, 1) := by decide +kernel
theorem dX8_overtimeOf_9 : decode cX8_overtimeOf 9 = .ok (.iload_n 1, 1) := by decide +kernel
theorem dX8_overtimeOf_10 : decode cX8_overtimeOf 10 = .ok (.invokevirtual 258, 3) := by decide +kernel
theorem dX8_overtimeOf_13 : decode cX8_overtimeOf 13 = .ok (.aload_n 0, 1) := by decide +kernel
theorem dX8_overtimeOf_14 : decode cX8_overtimeOf 14 = .ok (.iload_n 1, 1) := by decide +kernel
theorem dX8_overtimeOf_15 : decode cX8_overtimeOf 15 = .ok (.iconst 0, 1) := by decide +kernel
theorem dX8_overtimeOf_16 : decode cX8_overtimeOf 16 = .ok (.invokevirtual 194, 3) := by decide +kernel
theorem dX8_overtimeOf_19 : decode cX8_overtimeOf 19 = .ok (.imul, 1) := by decide +kernel
theorem dX8_overtimeOf_20 : decode cX8_overtimeOf 20 = .ok (.goto 4, 3) := by decide +kernel
theorem dX8_overtimeOf_23 : decode cX8_overtimeOf 23 = .ok (.iconst 0, 1) := by decide +kernel
theorem dX8_overtimeOf_24 : decode cX8_overtimeOf 24 = .ok (.ireturn, 1) := by decide +kernel
theorem dX8_kindsOf_0 : decode cX8_kindsOf 0 = .ok (.iconst 0, 1) := by decide +kernel
theorem dX8_kindsOf_1 : decode cX8_kindsOf 1 = .ok (.istore_n 2, 1) := by decide +kernel
theorem dX8_kindsOf_2 : decode cX8_kindsOf 2 = .ok (.iconst 0, 1) := by decide +kernel
theorem dX8_kindsOf_3 : decode cX8_kindsOf 3 = .ok (.istore_n 3, 1) := by decide +kernel
theorem dX8_kindsOf_4 : decode cX8_kindsOf 4 = .ok (.iload_n 3, 1) := by decide +kernel
theorem dX8_kindsOf_5 : decode cX8_kindsOf 5 = .ok (.aload_n 0, 1) := by decide +kernel
theorem dX8_kindsOf_6 : decode cX8_kindsOf 6 = .ok (.iload_n 1, 1) := by decide +kernel
theorem dX8_kindsOf_7 : decode cX8_kindsOf 7 = .ok (.iconst 2, 1) := by decide +kernel
theorem dX8_kindsOf_8 : decode cX8_kindsOf 8 = .ok (.invokevirtual 194, 3) := by decide +kernel
theorem dX8_kindsOf_11 : decode cX8_kindsOf 11 = .ok (.if_icmp .ge 22, 3) := by decide +kernel
theorem dX8_kindsOf_14 : decode cX8_kindsOf 14 = .ok (.iload_n 2, 1) := by decide +kernel
theorem dX8_kindsOf_15 : decode cX8_kindsOf 15 = .ok (.iconst 1, 1) := by decide +kernel
theorem dX8_kindsOf_16 : decode cX8_kindsOf 16 = .ok (.aload_n 0, 1) := by decide +kernel
theorem dX8_kindsOf_17 : decode cX8_kindsOf 17 = .ok (.iload_n 1, 1) := by decide +kernel
theorem dX8_kindsOf_18 : decode cX8_kindsOf 18 = .ok (.iconst 3, 1) := by decide +kernel
theorem dX8_kindsOf_19 : decode cX8_kindsOf 19 = .ok (.iload_n 3, 1) := by decide +kernel
theorem dX8_kindsOf_20 : decode cX8_kindsOf 20 = .ok (.iadd, 1) := by decide +kernel
theorem dX8_kindsOf_21 : decode cX8_kindsOf 21 = .ok (.invokevirtual 194, 3) := by decide +kernel
theorem dX8_kindsOf_24 : decode cX8_kindsOf 24 = .ok (.ishl, 1) := by decide +kernel
theorem dX8_kindsOf_25 : decode cX8_kindsOf 25 = .ok (.ior, 1) := by decide +kernel
theorem dX8_kindsOf_26 : decode cX8_kindsOf 26 = .ok (.istore_n 2, 1) := by decide +kernel
theorem dX8_kindsOf_27 : decode cX8_kindsOf 27 = .ok (.iinc 3 1, 3) := by decide +kernel
theorem dX8_kindsOf_30 : decode cX8_kindsOf 30 = .ok (.goto (-26), 3) := by decide +kernel
theorem dX8_kindsOf_33 : decode cX8_kindsOf 33 = .ok (.iload_n 2, 1) := by decide +kernel
theorem dX8_kindsOf_34 : decode cX8_kindsOf 34 = .ok (.ireturn, 1) := by decide +kernel
theorem dX8_player_0 : decode cX8_player 0 = .ok (.aload_n 0, 1) := by decide +kernel
theorem dX8_player_1 : decode cX8_player 1 = .ok (.iconst 0, 1) := by decide +kernel
theorem dX8_player_2 : decode cX8_player 2 = .ok (.putfield 56, 3) := by decide +kernel
theorem dX8_player_5 : decode cX8_player 5 = .ok (.aload_n 0, 1) := by decide +kernel
theorem dX8_player_6 : decode cX8_player 6 = .ok (.iload_n 1, 1) := by decide +kernel
theorem dX8_player_7 : decode cX8_player 7 = .ok (.aload_n 0, 1) := by decide +kernel
theorem dX8_player_8 : decode cX8_player 8 = .ok (.getfield 7, 3) := by decide +kernel
theorem dX8_player_11 : decode cX8_player 11 = .ok (.iconst 2, 1) := by decide +kernel
theorem dX8_player_12 : decode cX8_player 12 = .ok (.iaload, 1) := by decide +kernel
theorem dX8_player_13 : decode cX8_player 13 = .ok (.invokevirtual 249, 3) := by decide +kernel
theorem dX8_player_16 : decode cX8_player 16 = .ok (.ifCond .ne 13, 3) := by decide +kernel
theorem dX8_player_19 : decode cX8_player 19 = .ok (.aload_n 0, 1) := by decide +kernel
theorem dX8_player_20 : decode cX8_player 20 = .ok (.iload_n 2, 1) := by decide +kernel
theorem dX8_player_21 : decode cX8_player 21 = .ok (.bipush 7, 2) := by decide +kernel
theorem dX8_player_23 : decode cX8_player 23 = .ok (.invokevirtual 261, 3) := by decide +kernel
theorem dX8_player_26 : decode cX8_player 26 = .ok (.ifCond .eq 5, 3) := by decide +kernel
theorem dX8_player_29 : decode cX8_player 29 = .ok (.iconst 0, 1) := by decide +kernel
theorem dX8_player_30 : decode cX8_player 30 = .ok (.ireturn, 1) := by decide +kernel
theorem dX8_player_31 : decode cX8_player 31 = .ok (.iload_n 2, 1) := by decide +kernel
theorem dX8_player_32 : decode cX8_player 32 = .ok (.tableswitch 104 0 6 #[44, 53, 60, 67, 73, 79, 85], 44) := by decide +kernel
theorem dX8_player_76 : decode cX8_player 76 = .ok (.aload_n 0, 1) := by decide +kernel
theorem dX8_player_77 : decode cX8_player 77 = .ok (.getfield 13, 3) := by decide +kernel
theorem dX8_player_80 : decode cX8_player 80 = .ok (.iconst 1, 1) := by decide +kernel
theorem dX8_player_81 : decode cX8_player 81 = .ok (.iload_n 1, 1) := by decide +kernel
theorem dX8_player_82 : decode cX8_player 82 = .ok (.iadd, 1) := by decide +kernel
theorem dX8_player_83 : decode cX8_player 83 = .ok (.iaload, 1) := by decide +kernel
theorem dX8_player_84 : decode cX8_player 84 = .ok (.ireturn, 1) := by decide +kernel
theorem dX8_player_85 : decode cX8_player 85 = .ok (.aload_n 0, 1) := by decide +kernel
theorem dX8_player_86 : decode cX8_player 86 = .ok (.iload_n 1, 1) := by decide +kernel
theorem dX8_player_87 : decode cX8_player 87 = .ok (.iconst 0, 1) := by decide +kernel
theorem dX8_player_88 : decode cX8_player 88 = .ok (.invokevirtual 194, 3) := by decide +kernel
theorem dX8_player_91 : decode cX8_player 91 = .ok (.ireturn, 1) := by decide +kernel
theorem dX8_player_92 : decode cX8_player 92 = .ok (.aload_n 0, 1) := by decide +kernel
theorem dX8_player_93 : decode cX8_player 93 = .ok (.iload_n 1, 1) := by decide +kernel
theorem dX8_player_94 : decode cX8_player 94 = .ok (.iconst 3, 1) := by decide +kernel
theorem dX8_player_95 : decode cX8_player 95 = .ok (.invokevirtual 194, 3) := by decide +kernel
theorem dX8_player_98 : decode cX8_player 98 = .ok (.ireturn, 1) := by decide +kernel
theorem dX8_player_99 : decode cX8_player 99 = .ok (.aload_n 0, 1) := by decide +kernel
theorem dX8_player_100 : decode cX8_player 100 = .ok (.iload_n 1, 1) := by decide +kernel
theorem dX8_player_101 : decode cX8_player 101 = .ok (.invokevirtual 264, 3) := by decide +kernel
theorem dX8_player_104 : decode cX8_player 104 = .ok (.ireturn, 1) := by decide +kernel
theorem dX8_player_105 : decode cX8_player 105 = .ok (.aload_n 0, 1) := by decide +kernel
theorem dX8_player_106 : decode cX8_player 106 = .ok (.iload_n 1, 1) := by decide +kernel
theorem dX8_player_107 : decode cX8_player 107 = .ok (.invokevirtual 255, 3) := by decide +kernel
theorem dX8_player_110 : decode cX8_player 110 = .ok (.ireturn, 1) := by decide +kernel
theorem dX8_player_111 : decode cX8_player 111 = .ok (.aload_n 0, 1) := by decide +kernel
theorem dX8_player_112 : decode cX8_player 112 = .ok (.iload_n 1, 1) := by decide +kernel
theorem dX8_player_113 : decode cX8_player 113 = .ok (.invokevirtual 267, 3) := by decide +kernel
theorem dX8_player_116 : decode cX8_player 116 = .ok (.ireturn, 1) := by decide +kernel
theorem dX8_player_117 : decode cX8_player 117 = .ok (.aload_n 0, 1) := by decide +kernel
theorem dX8_player_118 : decode cX8_player 118 = .ok (.iload_n 1, 1) := by decide +kernel
theorem dX8_player_119 : decode cX8_player 119 = .ok (.invokevirtual 258, 3) := by decide +kernel
theorem dX8_player_122 : decode cX8_player 122 = .ok (.ifCond .ge 12, 3) := by decide +kernel
theorem dX8_player_125 : decode cX8_player 125 = .ok (.aload_n 0, 1) := by decide +kernel
theorem dX8_player_126 : decode cX8_player 126 = .ok (.iload_n 1, 1) := by decide +kernel
theorem dX8_player_127 : decode cX8_player 127 = .ok (.invokevirtual 258, 3) := by decide +kernel
theorem dX8_player_130 : decode cX8_player 130 = .ok (.ineg, 1) := by decide +kernel
theorem dX8_player_131 : decode cX8_player 131 = .ok (.goto 4, 3) := by decide +kernel
theorem dX8_player_134 : decode cX8_player 134 = .ok (.iconst 0, 1) := by decide +kernel
theorem dX8_player_135 : decode cX8_player 135 = .ok (.ireturn, 1) := by decide +kernel
theorem dX8_player_136 : decode cX8_player 136 = .ok (.aload_n 0, 1) := by decide +kernel
theorem dX8_player_137 : decode cX8_player 137 = .ok (.iload_n 1, 1) := by decide +kernel
theorem dX8_player_138 : decode cX8_player 138 = .ok (.invokevirtual 270, 3) := by decide +kernel
theorem dX8_player_141 : decode cX8_player 141 = .ok (.ireturn, 1) := by decide +kernel
theorem dX8_isFree_0 : decode cX8_isFree 0 = .ok (.aload_n 0, 1) := by decide +kernel
theorem dX8_isFree_1 : decode cX8_isFree 1 = .ok (.iconst 0, 1) := by decide +kernel
theorem dX8_isFree_2 : decode cX8_isFree 2 = .ok (.putfield 56, 3) := by decide +kernel
theorem dX8_isFree_5 : decode cX8_isFree 5 = .ok (.aload_n 0, 1) := by decide +kernel
theorem dX8_isFree_6 : decode cX8_isFree 6 = .ok (.iload_n 1, 1) := by decide +kernel
theorem dX8_isFree_7 : decode cX8_isFree 7 = .ok (.aload_n 0, 1) := by decide +kernel
theorem dX8_isFree_8 : decode cX8_isFree 8 = .ok (.getfield 7, 3) := by decide +kernel
theorem dX8_isFree_11 : decode cX8_isFree 11 = .ok (.iconst 2, 1) := by decide +kernel
theorem dX8_isFree_12 : decode cX8_isFree 12 = .ok (.iaload, 1) := by decide +kernel
theorem dX8_isFree_13 : decode cX8_isFree 13 = .ok (.invokevirtual 249, 3) := by decide +kernel
theorem dX8_isFree_16 : decode cX8_isFree 16 = .ok (.ifCond .ne 32, 3) := by decide +kernel
theorem dX8_isFree_19 : decode cX8_isFree 19 = .ok (.aload_n 0, 1) := by decide +kernel
theorem dX8_isFree_20 : decode cX8_isFree 20 = .ok (.iload_n 2, 1) := by decide +kernel
theorem dX8_isFree_21 : decode cX8_isFree 21 = .ok (.aload_n 0, 1) := by decide +kernel
theorem dX8_isFree_22 : decode cX8_isFree 22 = .ok (.invokevirtual 273, 3) := by decide +kernel
theorem dX8_isFree_25 : decode cX8_isFree 25 = .ok (.invokevirtual 249, 3) := by decide +kernel
theorem dX8_isFree_28 : decode cX8_isFree 28 = .ok (.ifCond .ne 20, 3) := by decide +kernel
theorem dX8_isFree_31 : decode cX8_isFree 31 = .ok (.aload_n 0, 1) := by decide +kernel
theorem dX8_isFree_32 : decode cX8_isFree 32 = .ok (.iload_n 2, 1) := by decide +kernel
theorem dX8_isFree_33 : decode cX8_isFree 33 = .ok (.invokevirtual 224, 3) := by decide +kernel
theorem dX8_isFree_36 : decode cX8_isFree 36 = .ok (.iload_n 1, 1) := by decide +kernel
theorem dX8_isFree_37 : decode cX8_isFree 37 = .ok (.ishr, 1) := by decide +kernel
theorem dX8_isFree_38 : decode cX8_isFree 38 = .ok (.iconst 1, 1) := by decide +kernel
theorem dX8_isFree_39 : decode cX8_isFree 39 = .ok (.iand, 1) := by decide +kernel
theorem dX8_isFree_40 : decode cX8_isFree 40 = .ok (.iconst 1, 1) := by decide +kernel
theorem dX8_isFree_41 : decode cX8_isFree 41 = .ok (.if_icmp .ne 7, 3) := by decide +kernel
theorem dX8_isFree_44 : decode cX8_isFree 44 = .ok (.iconst 1, 1) := by decide +kernel
theorem dX8_isFree_45 : decode cX8_isFree 45 = .ok (.goto 4, 3) := by decide +kernel
theorem dX8_isFree_48 : decode cX8_isFree 48 = .ok (.iconst 0, 1) := by decide +kernel
theorem dX8_isFree_49 : decode cX8_isFree 49 = .ok (.ireturn, 1) := by decide +kernel
theorem dX8_servicesWith_0 : decode cX8_servicesWith 0 = .ok (.iconst 0, 1) := by decide +kernel
theorem dX8_servicesWith_1 : decode cX8_servicesWith 1 = .ok (.istore_n 3, 1) := by decide +kernel
theorem dX8_servicesWith_2 : decode cX8_servicesWith 2 = .ok (.iconst 0, 1) := by decide +kernel
theorem dX8_servicesWith_3 : decode cX8_servicesWith 3 = .ok (.istore 4, 2) := by decide +kernel
theorem dX8_servicesWith_5 : decode cX8_servicesWith 5 = .ok (.iload 4, 2) := by decide +kernel
theorem dX8_servicesWith_7 : decode cX8_servicesWith 7 = .ok (.aload_n 0, 1) := by decide +kernel
theorem dX8_servicesWith_8 : decode cX8_servicesWith 8 = .ok (.getfield 13, 3) := by decide +kernel
theorem dX8_servicesWith_11 : decode cX8_servicesWith 11 = .ok (.iconst 0, 1) := by decide +kernel
theorem dX8_servicesWith_12 : decode cX8_servicesWith 12 = .ok (.iaload, 1) := by decide +kernel
theorem dX8_servicesWith_13 : decode cX8_servicesWith 13 = .ok (.if_icmp .ge 38, 3) := by decide +kernel
theorem dX8_servicesWith_16 : decode cX8_servicesWith 16 = .ok (.iload_n 3, 1) := by decide +kernel
theorem dX8_servicesWith_17 : decode cX8_servicesWith 17 = .ok (.aload_n 0, 1) := by decide +kernel
theorem dX8_servicesWith_18 : decode cX8_servicesWith 18 = .ok (.iload 4, 2) := by decide +kernel
theorem dX8_servicesWith_20 : decode cX8_servicesWith 20 = .ok (.iload_n 1, 1) := by decide +kernel
theorem dX8_servicesWith_21 : decode cX8_servicesWith 21 = .ok (.invokevirtual 204, 3) := by decide +kernel
theorem dX8_servicesWith_24 : decode cX8_servicesWith 24 = .ok (.ifCond .eq 18, 3) := by decide +kernel
theorem dX8_servicesWith_27 : decode cX8_servicesWith 27 = .ok (.aload_n 0, 1) := by decide +kernel
theorem dX8_servicesWith_28 : decode cX8_servicesWith 28 = .ok (.iload 4, 2) := by decide +kernel
theorem dX8_servicesWith_30 : decode cX8_servicesWith 30 = .ok (.iconst 2, 1) := by decide +kernel
theorem dX8_servicesWith_31 : decode cX8_servicesWith 31 = .ok (.invokevirtual 198, 3) := by decide +kernel
theorem dX8_servicesWith_34 : decode cX8_servicesWith 34 = .ok (.iload_n 2, 1) := by decide +kernel
theorem dX8_servicesWith_35 : decode cX8_servicesWith 35 = .ok (.if_icmp .ne 7, 3) := by decide +kernel
theorem dX8_servicesWith_38 : decode cX8_servicesWith 38 = .ok (.iconst 1, 1) := by decide +kernel
theorem dX8_servicesWith_39 : decode cX8_servicesWith 39 = .ok (.goto 4, 3) := by decide +kernel
theorem dX8_servicesWith_42 : decode cX8_servicesWith 42 = .ok (.iconst 0, 1) := by decide +kernel
theorem dX8_servicesWith_43 : decode cX8_servicesWith 43 = .ok (.iadd, 1) := by decide +kernel
theorem dX8_servicesWith_44 : decode cX8_servicesWith 44 = .ok (.istore_n 3, 1) := by decide +kernel
theorem dX8_servicesWith_45 : decode cX8_servicesWith 45 = .ok (.iinc 4 1, 3) := by decide +kernel
theorem dX8_servicesWith_48 : decode cX8_servicesWith 48 = .ok (.goto (-43), 3) := by decide +kernel
theorem dX8_servicesWith_51 : decode cX8_servicesWith 51 = .ok (.iload_n 3, 1) := by decide +kernel
theorem dX8_servicesWith_52 : decode cX8_servicesWith 52 = .ok (.ireturn, 1) := by decide +kernel
theorem dX8_rentOf_0 : decode cX8_rentOf 0 = .ok (.iconst (-1), 1) := by decide +kernel
theorem dX8_rentOf_1 : decode cX8_rentOf 1 = .ok (.istore_n 2, 1) := by decide +kernel
theorem dX8_rentOf_2 : decode cX8_rentOf 2 = .ok (.iconst (-1), 1) := by decide +kernel
theorem dX8_rentOf_3 : decode cX8_rentOf 3 = .ok (.istore_n 3, 1) := by decide +kernel
theorem dX8_rentOf_4 : decode cX8_rentOf 4 = .ok (.iconst 0, 1) := by decide +kernel
theorem dX8_rentOf_5 : decode cX8_rentOf 5 = .ok (.istore 4, 2) := by decide +kernel
theorem dX8_rentOf_7 : decode cX8_rentOf 7 = .ok (.iload 4, 2) := by decide +kernel
theorem dX8_rentOf_9 : decode cX8_rentOf 9 = .ok (.aload_n 0, 1) := by decide +kernel
theorem dX8_rentOf_10 : decode cX8_rentOf 10 = .ok (.getfield 13, 3) := by decide +kernel
theorem dX8_rentOf_13 : decode cX8_rentOf 13 = .ok (.iconst 0, 1) := by decide +kernel
theorem dX8_rentOf_14 : decode cX8_rentOf 14 = .ok (.iaload, 1) := by decide +kernel
theorem dX8_rentOf_15 : decode cX8_rentOf 15 = .ok (.if_icmp .ge 59, 3) := by decide +kernel
theorem dX8_rentOf_18 : decode cX8_rentOf 18 = .ok (.aload_n 0, 1) := by decide +kernel
theorem dX8_rentOf_19 : decode cX8_rentOf 19 = .ok (.iload 4, 2) := by decide +kernel
theorem dX8_rentOf_21 : decode cX8_rentOf 21 = .ok (.iconst 0, 1) := by decide +kernel
theorem dX8_rentOf_22 : decode cX8_rentOf 22 = .ok (.invokevirtual 198, 3) := by decide +kernel
theorem dX8_rentOf_25 : decode cX8_rentOf 25 = .ok (.iconst 3, 1) := by decide +kernel
theorem dX8_rentOf_26 : decode cX8_rentOf 26 = .ok (.idiv, 1) := by decide +kernel
theorem dX8_rentOf_27 : decode cX8_rentOf 27 = .ok (.istore 5, 2) := by decide +kernel
theorem dX8_rentOf_29 : decode cX8_rentOf 29 = .ok (.aload_n 0, 1) := by decide +kernel
theorem dX8_rentOf_30 : decode cX8_rentOf 30 = .ok (.iload 4, 2) := by decide +kernel
theorem dX8_rentOf_32 : decode cX8_rentOf 32 = .ok (.iload_n 1, 1) := by decide +kernel
theorem dX8_rentOf_33 : decode cX8_rentOf 33 = .ok (.invokevirtual 204, 3) := by decide +kernel
theorem dX8_rentOf_36 : decode cX8_rentOf 36 = .ok (.ifCond .eq 13, 3) := by decide +kernel
theorem dX8_rentOf_39 : decode cX8_rentOf 39 = .ok (.iload_n 2, 1) := by decide +kernel
theorem dX8_rentOf_40 : decode cX8_rentOf 40 = .ok (.iconst (-1), 1) := by decide +kernel
theorem dX8_rentOf_41 : decode cX8_rentOf 41 = .ok (.if_icmp .ne 8, 3) := by decide +kernel
theorem dX8_rentOf_44 : decode cX8_rentOf 44 = .ok (.iload 5, 2) := by decide +kernel
theorem dX8_rentOf_46 : decode cX8_rentOf 46 = .ok (.goto 4, 3) := by decide +kernel
theorem dX8_rentOf_49 : decode cX8_rentOf 49 = .ok (.iload_n 2, 1) := by decide +kernel
theorem dX8_rentOf_50 : decode cX8_rentOf 50 = .ok (.istore_n 2, 1) := by decide +kernel
theorem dX8_rentOf_51 : decode cX8_rentOf 51 = .ok (.aload_n 0, 1) := by decide +kernel
theorem dX8_rentOf_52 : decode cX8_rentOf 52 = .ok (.iload 4, 2) := by decide +kernel
theorem dX8_rentOf_54 : decode cX8_rentOf 54 = .ok (.iload_n 1, 1) := by decide +kernel
theorem dX8_rentOf_55 : decode cX8_rentOf 55 = .ok (.invokevirtual 204, 3) := by decide +kernel
theorem dX8_rentOf_58 : decode cX8_rentOf 58 = .ok (.ifCond .eq 8, 3) := by decide +kernel
theorem dX8_rentOf_61 : decode cX8_rentOf 61 = .ok (.iload 5, 2) := by decide +kernel
theorem dX8_rentOf_63 : decode cX8_rentOf 63 = .ok (.goto 4, 3) := by decide +kernel
theorem dX8_rentOf_66 : decode cX8_rentOf 66 = .ok (.iload_n 3, 1) := by decide +kernel
theorem dX8_rentOf_67 : decode cX8_rentOf 67 = .ok (.istore_n 3, 1) := by decide +kernel
theorem dX8_rentOf_68 : decode cX8_rentOf 68 = .ok (.iinc 4 1, 3) := by decide +kernel
theorem dX8_rentOf_71 : decode cX8_rentOf 71 = .ok (.goto (-64), 3) := by decide +kernel
theorem dX8_rentOf_74 : decode cX8_rentOf 74 = .ok (.iload_n 2, 1) := by decide +kernel
theorem dX8_rentOf_75 : decode cX8_rentOf 75 = .ok (.iconst (-1), 1) := by decide +kernel
theorem dX8_rentOf_76 : decode cX8_rentOf 76 = .ok (.if_icmp .ne 7, 3) := by decide +kernel
theorem dX8_rentOf_79 : decode cX8_rentOf 79 = .ok (.iconst 0, 1) := by decide +kernel
theorem dX8_rentOf_80 : decode cX8_rentOf 80 = .ok (.goto 15, 3) := by decide +kernel
theorem dX8_rentOf_83 : decode cX8_rentOf 83 = .ok (.iload_n 3, 1) := by decide +kernel
theorem dX8_rentOf_84 : decode cX8_rentOf 84 = .ok (.iload_n 2, 1) := by decide +kernel
theorem dX8_rentOf_85 : decode cX8_rentOf 85 = .ok (.isub, 1) := by decide +kernel
theorem dX8_rentOf_86 : decode cX8_rentOf 86 = .ok (.iconst 1, 1) := by decide +kernel
theorem dX8_rentOf_87 : decode cX8_rentOf 87 = .ok (.iadd, 1) := by decide +kernel
theorem dX8_rentOf_88 : decode cX8_rentOf 88 = .ok (.aload_n 0, 1) := by decide +kernel
theorem dX8_rentOf_89 : decode cX8_rentOf 89 = .ok (.iload_n 1, 1) := by decide +kernel
theorem dX8_rentOf_90 : decode cX8_rentOf 90 = .ok (.iconst 3, 1) := by decide +kernel
theorem dX8_rentOf_91 : decode cX8_rentOf 91 = .ok (.invokevirtual 201, 3) := by decide +kernel
theorem dX8_rentOf_94 : decode cX8_rentOf 94 = .ok (.imul, 1) := by decide +kernel
theorem dX8_rentOf_95 : decode cX8_rentOf 95 = .ok (.ireturn, 1) := by decide +kernel
theorem dX8_work_0 : decode cX8_work 0 = .ok (.aload_n 0, 1) := by decide +kernel
theorem dX8_work_1 : decode cX8_work 1 = .ok (.iconst 0, 1) := by decide +kernel
theorem dX8_work_2 : decode cX8_work 2 = .ok (.putfield 56, 3) := by decide +kernel
theorem dX8_work_5 : decode cX8_work 5 = .ok (.aload_n 0, 1) := by decide +kernel
theorem dX8_work_6 : decode cX8_work 6 = .ok (.iload_n 1, 1) := by decide +kernel
theorem dX8_work_7 : decode cX8_work 7 = .ok (.aload_n 0, 1) := by decide +kernel
theorem dX8_work_8 : decode cX8_work 8 = .ok (.getfield 7, 3) := by decide +kernel
theorem dX8_work_11 : decode cX8_work 11 = .ok (.iconst 3, 1) := by decide +kernel
theorem dX8_work_12 : decode cX8_work 12 = .ok (.iaload, 1) := by decide +kernel
theorem dX8_work_13 : decode cX8_work 13 = .ok (.invokevirtual 249, 3) := by decide +kernel
theorem dX8_work_16 : decode cX8_work 16 = .ok (.ifCond .ne 13, 3) := by decide +kernel
theorem dX8_work_19 : decode cX8_work 19 = .ok (.aload_n 0, 1) := by decide +kernel
theorem dX8_work_20 : decode cX8_work 20 = .ok (.iload_n 2, 1) := by decide +kernel
theorem dX8_work_21 : decode cX8_work 21 = .ok (.bipush 7, 2) := by decide +kernel
theorem dX8_work_23 : decode cX8_work 23 = .ok (.invokevirtual 261, 3) := by decide +kernel
theorem dX8_work_26 : decode cX8_work 26 = .ok (.ifCond .eq 5, 3) := by decide +kernel
theorem dX8_work_29 : decode cX8_work 29 = .ok (.iconst 0, 1) := by decide +kernel
theorem dX8_work_30 : decode cX8_work 30 = .ok (.ireturn, 1) := by decide +kernel
theorem dX8_work_31 : decode cX8_work 31 = .ok (.iload_n 2, 1) := by decide +kernel
theorem dX8_work_32 : decode cX8_work 32 = .ok (.iconst 5, 1) := by decide +kernel
theorem dX8_work_33 : decode cX8_work 33 = .ok (.if_icmp .ge 12, 3) := by decide +kernel
theorem dX8_work_36 : decode cX8_work 36 = .ok (.aload_n 0, 1) := by decide +kernel
theorem dX8_work_37 : decode cX8_work 37 = .ok (.iload_n 1, 1) := by decide +kernel
theorem dX8_work_38 : decode cX8_work 38 = .ok (.iload_n 2, 1) := by decide +kernel
theorem dX8_work_39 : decode cX8_work 39 = .ok (.invokevirtual 201, 3) := by decide +kernel
theorem dX8_work_42 : decode cX8_work 42 = .ok (.goto 25, 3) := by decide +kernel
theorem dX8_work_45 : decode cX8_work 45 = .ok (.iload_n 2, 1) := by decide +kernel
theorem dX8_work_46 : decode cX8_work 46 = .ok (.bipush 7, 2) := by decide +kernel
theorem dX8_work_48 : decode cX8_work 48 = .ok (.if_icmp .ne 11, 3) := by decide +kernel
theorem dX8_work_51 : decode cX8_work 51 = .ok (.aload_n 0, 1) := by decide +kernel
theorem dX8_work_52 : decode cX8_work 52 = .ok (.iload_n 1, 1) := by decide +kernel
theorem dX8_work_53 : decode cX8_work 53 = .ok (.invokevirtual 276, 3) := by decide +kernel
theorem dX8_work_56 : decode cX8_work 56 = .ok (.goto 11, 3) := by decide +kernel
theorem dX8_work_59 : decode cX8_work 59 = .ok (.aload_n 0, 1) := by decide +kernel
theorem dX8_work_60 : decode cX8_work 60 = .ok (.iload_n 1, 1) := by decide +kernel
theorem dX8_work_61 : decode cX8_work 61 = .ok (.iload_n 2, 1) := by decide +kernel
theorem dX8_work_62 : decode cX8_work 62 = .ok (.iconst 5, 1) := by decide +kernel
theorem dX8_work_63 : decode cX8_work 63 = .ok (.isub, 1) := by decide +kernel
theorem dX8_work_64 : decode cX8_work 64 = .ok (.invokevirtual 279, 3) := by decide +kernel
theorem dX8_work_67 : decode cX8_work 67 = .ok (.ireturn, 1) := by decide +kernel
theorem dX8_seat_0 : decode cX8_seat 0 = .ok (.aload_n 0, 1) := by decide +kernel
theorem dX8_seat_1 : decode cX8_seat 1 = .ok (.iconst 0, 1) := by decide +kernel
theorem dX8_seat_2 : decode cX8_seat 2 = .ok (.putfield 56, 3) := by decide +kernel
theorem dX8_seat_5 : decode cX8_seat 5 = .ok (.aload_n 0, 1) := by decide +kernel
theorem dX8_seat_6 : decode cX8_seat 6 = .ok (.iload_n 1, 1) := by decide +kernel
theorem dX8_seat_7 : decode cX8_seat 7 = .ok (.aload_n 0, 1) := by decide +kernel
theorem dX8_seat_8 : decode cX8_seat 8 = .ok (.getfield 7, 3) := by decide +kernel
theorem dX8_seat_11 : decode cX8_seat 11 = .ok (.iconst 3, 1) := by decide +kernel
theorem dX8_seat_12 : decode cX8_seat 12 = .ok (.iaload, 1) := by decide +kernel
theorem dX8_seat_13 : decode cX8_seat 13 = .ok (.invokevirtual 249, 3) := by decide +kernel
theorem dX8_seat_16 : decode cX8_seat 16 = .ok (.ifCond .ne 17, 3) := by decide +kernel
theorem dX8_seat_19 : decode cX8_seat 19 = .ok (.aload_n 0, 1) := by decide +kernel
theorem dX8_seat_20 : decode cX8_seat 20 = .ok (.iload_n 2, 1) := by decide +kernel
theorem dX8_seat_21 : decode cX8_seat 21 = .ok (.aload_n 0, 1) := by decide +kernel
theorem dX8_seat_22 : decode cX8_seat 22 = .ok (.iload_n 1, 1) := by decide +kernel
theorem dX8_seat_23 : decode cX8_seat 23 = .ok (.iconst 4, 1) := by decide +kernel
theorem dX8_seat_24 : decode cX8_seat 24 = .ok (.invokevirtual 201, 3) := by decide +kernel
theorem dX8_seat_27 : decode cX8_seat 27 = .ok (.invokevirtual 249, 3) := by decide +kernel
theorem dX8_seat_30 : decode cX8_seat 30 = .ok (.ifCond .eq 7, 3) := by decide +kernel
theorem dX8_seat_33 : decode cX8_seat 33 = .ok (.iconst 0, 1) := by decide +kernel
theorem dX8_seat_34 : decode cX8_seat 34 = .ok (.goto 11, 3) := by decide +kernel
theorem dX8_seat_37 : decode cX8_seat 37 = .ok (.aload_n 0, 1) := by decide +kernel
theorem dX8_seat_38 : decode cX8_seat 38 = .ok (.iload_n 1, 1) := by decide +kernel
theorem dX8_seat_39 : decode cX8_seat 39 = .ok (.iconst 5, 1) := by decide +kernel
theorem dX8_seat_40 : decode cX8_seat 40 = .ok (.iload_n 2, 1) := by decide +kernel
theorem dX8_seat_41 : decode cX8_seat 41 = .ok (.iadd, 1) := by decide +kernel
theorem dX8_seat_42 : decode cX8_seat 42 = .ok (.invokevirtual 201, 3) := by decide +kernel
theorem dX8_seat_45 : decode cX8_seat 45 = .ok (.ireturn, 1) := by decide +kernel
theorem dX8_noService_0 : decode cX8_noService 0 = .ok (.aload_n 0, 1) := by decide +kernel
theorem dX8_noService_1 : decode cX8_noService 1 = .ok (.iconst 0, 1) := by decide +kernel
theorem dX8_noService_2 : decode cX8_noService 2 = .ok (.putfield 56, 3) := by decide +kernel
theorem dX8_noService_5 : decode cX8_noService 5 = .ok (.aload_n 0, 1) := by decide +kernel
theorem dX8_noService_6 : decode cX8_noService 6 = .ok (.iload_n 1, 1) := by decide +kernel
theorem dX8_noService_7 : decode cX8_noService 7 = .ok (.aload_n 0, 1) := by decide +kernel
theorem dX8_noService_8 : decode cX8_noService 8 = .ok (.getfield 13, 3) := by decide +kernel
theorem dX8_noService_11 : decode cX8_noService 11 = .ok (.iconst 0, 1) := by decide +kernel
theorem dX8_noService_12 : decode cX8_noService 12 = .ok (.iaload, 1) := by decide +kernel
theorem dX8_noService_13 : decode cX8_noService 13 = .ok (.invokevirtual 249, 3) := by decide +kernel
theorem dX8_noService_16 : decode cX8_noService 16 = .ok (.ireturn, 1) := by decide +kernel
theorem dX8_service_0 : decode cX8_service 0 = .ok (.aload_n 0, 1) := by decide +kernel
theorem dX8_service_1 : decode cX8_service 1 = .ok (.iload_n 1, 1) := by decide +kernel
theorem dX8_service_2 : decode cX8_service 2 = .ok (.invokevirtual 282, 3) := by decide +kernel
theorem dX8_service_5 : decode cX8_service 5 = .ok (.ifCond .ne 12, 3) := by decide +kernel
theorem dX8_service_8 : decode cX8_service 8 = .ok (.aload_n 0, 1) := by decide +kernel
theorem dX8_service_9 : decode cX8_service 9 = .ok (.iload_n 2, 1) := by decide +kernel
theorem dX8_service_10 : decode cX8_service 10 = .ok (.iconst 5, 1) := by decide +kernel
theorem dX8_service_11 : decode cX8_service 11 = .ok (.invokevirtual 261, 3) := by decide +kernel
theorem dX8_service_14 : decode cX8_service 14 = .ok (.ifCond .eq 5, 3) := by decide +kernel
theorem dX8_service_17 : decode cX8_service 17 = .ok (.iconst 0, 1) := by decide +kernel
theorem dX8_service_18 : decode cX8_service 18 = .ok (.ireturn, 1) := by decide +kernel
theorem dX8_service_19 : decode cX8_service 19 = .ok (.iload_n 2, 1) := by decide +kernel
theorem dX8_service_20 : decode cX8_service 20 = .ok (.iconst 4, 1) := by decide +kernel
theorem dX8_service_21 : decode cX8_service 21 = .ok (.if_icmp .ge 12, 3) := by decide +kernel
theorem dX8_service_24 : decode cX8_service 24 = .ok (.aload_n 0, 1) := by decide +kernel
theorem dX8_service_25 : decode cX8_service 25 = .ok (.iload_n 1, 1) := by decide +kernel
theorem dX8_service_26 : decode cX8_service 26 = .ok (.iload_n 2, 1) := by decide +kernel
theorem dX8_service_27 : decode cX8_service 27 = .ok (.invokevirtual 198, 3) := by decide +kernel
theorem dX8_service_30 : decode cX8_service 30 = .ok (.goto 22, 3) := by decide +kernel
theorem dX8_service_33 : decode cX8_service 33 = .ok (.iload_n 2, 1) := by decide +kernel
theorem dX8_service_34 : decode cX8_service 34 = .ok (.iconst 4, 1) := by decide +kernel
theorem dX8_service_35 : decode cX8_service 35 = .ok (.if_icmp .ne 11, 3) := by decide +kernel
theorem dX8_service_38 : decode cX8_service 38 = .ok (.aload_n 0, 1) := by decide +kernel
theorem dX8_service_39 : decode cX8_service 39 = .ok (.iload_n 1, 1) := by decide +kernel
theorem dX8_service_40 : decode cX8_service 40 = .ok (.invokevirtual 211, 3) := by decide +kernel
theorem dX8_service_43 : decode cX8_service 43 = .ok (.goto 9, 3) := by decide +kernel
theorem dX8_service_46 : decode cX8_service 46 = .ok (.aload_n 0, 1) := by decide +kernel
theorem dX8_service_47 : decode cX8_service 47 = .ok (.iload_n 1, 1) := by decide +kernel
theorem dX8_service_48 : decode cX8_service 48 = .ok (.iconst (-1), 1) := by decide +kernel
theorem dX8_service_49 : decode cX8_service 49 = .ok (.invokevirtual 252, 3) := by decide +kernel
theorem dX8_service_52 : decode cX8_service 52 = .ok (.ireturn, 1) := by decide +kernel
theorem dX8_cast_0 : decode cX8_cast 0 = .ok (.aload_n 0, 1) := by decide +kernel
theorem dX8_cast_1 : decode cX8_cast 1 = .ok (.iload_n 1, 1) := by decide +kernel
theorem dX8_cast_2 : decode cX8_cast 2 = .ok (.invokevirtual 282, 3) := by decide +kernel
theorem dX8_cast_5 : decode cX8_cast 5 = .ok (.ifCond .ne 31, 3) := by decide +kernel
theorem dX8_cast_8 : decode cX8_cast 8 = .ok (.aload_n 0, 1) := by decide +kernel
theorem dX8_cast_9 : decode cX8_cast 9 = .ok (.iload_n 2, 1) := by decide +kernel
theorem dX8_cast_10 : decode cX8_cast 10 = .ok (.aload_n 0, 1) := by decide +kernel
theorem dX8_cast_11 : decode cX8_cast 11 = .ok (.getfield 7, 3) := by decide +kernel
theorem dX8_cast_14 : decode cX8_cast 14 = .ok (.iconst 3, 1) := by decide +kernel
theorem dX8_cast_15 : decode cX8_cast 15 = .ok (.iaload, 1) := by decide +kernel
theorem dX8_cast_16 : decode cX8_cast 16 = .ok (.invokevirtual 249, 3) := by decide +kernel
theorem dX8_cast_19 : decode cX8_cast 19 = .ok (.ifCond .ne 17, 3) := by decide +kernel
theorem dX8_cast_22 : decode cX8_cast 22 = .ok (.aload_n 0, 1) := by decide +kernel
theorem dX8_cast_23 : decode cX8_cast 23 = .ok (.iload_n 3, 1) := by decide +kernel
theorem dX8_cast_24 : decode cX8_cast 24 = .ok (.aload_n 0, 1) := by decide +kernel
theorem dX8_cast_25 : decode cX8_cast 25 = .ok (.iload_n 2, 1) := by decide +kernel
theorem dX8_cast_26 : decode cX8_cast 26 = .ok (.iconst 4, 1) := by decide +kernel
theorem dX8_cast_27 : decode cX8_cast 27 = .ok (.invokevirtual 201, 3) := by decide +kernel
theorem dX8_cast_30 : decode cX8_cast 30 = .ok (.invokevirtual 249, 3) := by decide +kernel
theorem dX8_cast_33 : decode cX8_cast 33 = .ok (.ifCond .eq 5, 3) := by decide +kernel
theorem dX8_cast_36 : decode cX8_cast 36 = .ok (.iconst 0, 1) := by decide +kernel
theorem dX8_cast_37 : decode cX8_cast 37 = .ok (.ireturn, 1) := by decide +kernel
theorem dX8_cast_38 : decode cX8_cast 38 = .ok (.aload_n 0, 1) := by decide +kernel
theorem dX8_cast_39 : decode cX8_cast 39 = .ok (.iload_n 1, 1) := by decide +kernel
theorem dX8_cast_40 : decode cX8_cast 40 = .ok (.iload_n 2, 1) := by decide +kernel
theorem dX8_cast_41 : decode cX8_cast 41 = .ok (.invokevirtual 204, 3) := by decide +kernel
theorem dX8_cast_44 : decode cX8_cast 44 = .ok (.ifCond .eq 13, 3) := by decide +kernel
theorem dX8_cast_47 : decode cX8_cast 47 = .ok (.aload_n 0, 1) := by decide +kernel
theorem dX8_cast_48 : decode cX8_cast 48 = .ok (.iload_n 1, 1) := by decide +kernel
theorem dX8_cast_49 : decode cX8_cast 49 = .ok (.iload_n 2, 1) := by decide +kernel
theorem dX8_cast_50 : decode cX8_cast 50 = .ok (.iload_n 3, 1) := by decide +kernel
theorem dX8_cast_51 : decode cX8_cast 51 = .ok (.invokevirtual 207, 3) := by decide +kernel
theorem dX8_cast_54 : decode cX8_cast 54 = .ok (.goto 4, 3) := by decide +kernel
theorem dX8_cast_57 : decode cX8_cast 57 = .ok (.iconst (-1), 1) := by decide +kernel
theorem dX8_cast_58 : decode cX8_cast 58 = .ok (.ireturn, 1) := by decide +kernel
theorem dX8_noPlace_0 : decode cX8_noPlace 0 = .ok (.aload_n 0, 1) := by decide +kernel
theorem dX8_noPlace_1 : decode cX8_noPlace 1 = .ok (.iconst 0, 1) := by decide +kernel
theorem dX8_noPlace_2 : decode cX8_noPlace 2 = .ok (.putfield 56, 3) := by decide +kernel
theorem dX8_noPlace_5 : decode cX8_noPlace 5 = .ok (.aload_n 0, 1) := by decide +kernel
theorem dX8_noPlace_6 : decode cX8_noPlace 6 = .ok (.iload_n 1, 1) := by decide +kernel
theorem dX8_noPlace_7 : decode cX8_noPlace 7 = .ok (.aload_n 0, 1) := by decide +kernel
theorem dX8_noPlace_8 : decode cX8_noPlace 8 = .ok (.getfield 7, 3) := by decide +kernel
theorem dX8_noPlace_11 : decode cX8_noPlace 11 = .ok (.iconst 1, 1) := by decide +kernel
theorem dX8_noPlace_12 : decode cX8_noPlace 12 = .ok (.iaload, 1) := by decide +kernel
theorem dX8_noPlace_13 : decode cX8_noPlace 13 = .ok (.invokevirtual 249, 3) := by decide +kernel
theorem dX8_noPlace_16 : decode cX8_noPlace 16 = .ok (.ifCond .ne 15, 3) := by decide +kernel
theorem dX8_noPlace_19 : decode cX8_noPlace 19 = .ok (.aload_n 0, 1) := by decide +kernel
theorem dX8_noPlace_20 : decode cX8_noPlace 20 = .ok (.iload_n 2, 1) := by decide +kernel
theorem dX8_noPlace_21 : decode cX8_noPlace 21 = .ok (.aload_n 0, 1) := by decide +kernel
theorem dX8_noPlace_22 : decode cX8_noPlace 22 = .ok (.invokevirtual 273, 3) := by decide +kernel
theorem dX8_noPlace_25 : decode cX8_noPlace 25 = .ok (.invokevirtual 249, 3) := by decide +kernel
theorem dX8_noPlace_28 : decode cX8_noPlace 28 = .ok (.ifCond .eq 7, 3) := by decide +kernel
theorem dX8_noPlace_31 : decode cX8_noPlace 31 = .ok (.iconst 1, 1) := by decide +kernel
theorem dX8_noPlace_32 : decode cX8_noPlace 32 = .ok (.goto 4, 3) := by decide +kernel
theorem dX8_noPlace_35 : decode cX8_noPlace 35 = .ok (.iconst 0, 1) := by decide +kernel
theorem dX8_noPlace_36 : decode cX8_noPlace 36 = .ok (.ireturn, 1) := by decide +kernel
theorem dX8_serviceAt_0 : decode cX8_serviceAt 0 = .ok (.aload_n 0, 1) := by decide +kernel
theorem dX8_serviceAt_1 : decode cX8_serviceAt 1 = .ok (.iload_n 1, 1) := by decide +kernel
theorem dX8_serviceAt_2 : decode cX8_serviceAt 2 = .ok (.iload_n 2, 1) := by decide +kernel
theorem dX8_serviceAt_3 : decode cX8_serviceAt 3 = .ok (.invokevirtual 285, 3) := by decide +kernel
theorem dX8_serviceAt_6 : decode cX8_serviceAt 6 = .ok (.ifCond .eq 5, 3) := by decide +kernel
theorem dX8_serviceAt_9 : decode cX8_serviceAt 9 = .ok (.iconst 0, 1) := by decide +kernel
theorem dX8_serviceAt_10 : decode cX8_serviceAt 10 = .ok (.ireturn, 1) := by decide +kernel
theorem dX8_serviceAt_11 : decode cX8_serviceAt 11 = .ok (.iconst 0, 1) := by decide +kernel
theorem dX8_serviceAt_12 : decode cX8_serviceAt 12 = .ok (.istore_n 3, 1) := by decide +kernel
theorem dX8_serviceAt_13 : decode cX8_serviceAt 13 = .ok (.iload_n 3, 1) := by decide +kernel
theorem dX8_serviceAt_14 : decode cX8_serviceAt 14 = .ok (.aload_n 0, 1) := by decide +kernel
theorem dX8_serviceAt_15 : decode cX8_serviceAt 15 = .ok (.getfield 13, 3) := by decide +kernel
theorem dX8_serviceAt_18 : decode cX8_serviceAt 18 = .ok (.iconst 0, 1) := by decide +kernel
theorem dX8_serviceAt_19 : decode cX8_serviceAt 19 = .ok (.iaload, 1) := by decide +kernel
theorem dX8_serviceAt_20 : decode cX8_serviceAt 20 = .ok (.if_icmp .ge 31, 3) := by decide +kernel
theorem dX8_serviceAt_23 : decode cX8_serviceAt 23 = .ok (.aload_n 0, 1) := by decide +kernel
theorem dX8_serviceAt_24 : decode cX8_serviceAt 24 = .ok (.iload_n 3, 1) := by decide +kernel
theorem dX8_serviceAt_25 : decode cX8_serviceAt 25 = .ok (.iconst 1, 1) := by decide +kernel
theorem dX8_serviceAt_26 : decode cX8_serviceAt 26 = .ok (.invokevirtual 198, 3) := by decide +kernel
theorem dX8_serviceAt_29 : decode cX8_serviceAt 29 = .ok (.iload_n 1, 1) := by decide +kernel
theorem dX8_serviceAt_30 : decode cX8_serviceAt 30 = .ok (.if_icmp .ne 15, 3) := by decide +kernel
theorem dX8_serviceAt_33 : decode cX8_serviceAt 33 = .ok (.aload_n 0, 1) := by decide +kernel
theorem dX8_serviceAt_34 : decode cX8_serviceAt 34 = .ok (.iload_n 3, 1) := by decide +kernel
theorem dX8_serviceAt_35 : decode cX8_serviceAt 35 = .ok (.iconst 0, 1) := by decide +kernel
theorem dX8_serviceAt_36 : decode cX8_serviceAt 36 = .ok (.invokevirtual 198, 3) := by decide +kernel
theorem dX8_serviceAt_39 : decode cX8_serviceAt 39 = .ok (.iload_n 2, 1) := by decide +kernel
theorem dX8_serviceAt_40 : decode cX8_serviceAt 40 = .ok (.if_icmp .ne 5, 3) := by decide +kernel
theorem dX8_serviceAt_43 : decode cX8_serviceAt 43 = .ok (.iload_n 3, 1) := by decide +kernel
theorem dX8_serviceAt_44 : decode cX8_serviceAt 44 = .ok (.ireturn, 1) := by decide +kernel
theorem dX8_serviceAt_45 : decode cX8_serviceAt 45 = .ok (.iinc 3 1, 3) := by decide +kernel
theorem dX8_serviceAt_48 : decode cX8_serviceAt 48 = .ok (.goto (-35), 3) := by decide +kernel
theorem dX8_serviceAt_51 : decode cX8_serviceAt 51 = .ok (.iconst (-1), 1) := by decide +kernel
theorem dX8_serviceAt_52 : decode cX8_serviceAt 52 = .ok (.ireturn, 1) := by decide +kernel
theorem dX8_fewestDoublings_0 : decode cX8_fewestDoublings 0 = .ok (.aload_n 0, 1) := by decide +kernel
theorem dX8_fewestDoublings_1 : decode cX8_fewestDoublings 1 = .ok (.iconst 0, 1) := by decide +kernel
theorem dX8_fewestDoublings_2 : decode cX8_fewestDoublings 2 = .ok (.putfield 56, 3) := by decide +kernel
theorem dX8_fewestDoublings_5 : decode cX8_fewestDoublings 5 = .ok (.aload_n 0, 1) := by decide +kernel
theorem dX8_fewestDoublings_6 : decode cX8_fewestDoublings 6 = .ok (.iload_n 1, 1) := by decide +kernel
theorem dX8_fewestDoublings_7 : decode cX8_fewestDoublings 7 = .ok (.aload_n 0, 1) := by decide +kernel
theorem dX8_fewestDoublings_8 : decode cX8_fewestDoublings 8 = .ok (.getfield 7, 3) := by decide +kernel
theorem dX8_fewestDoublings_11 : decode cX8_fewestDoublings 11 = .ok (.iconst 3, 1) := by decide +kernel
theorem dX8_fewestDoublings_12 : decode cX8_fewestDoublings 12 = .ok (.iaload, 1) := by decide +kernel
theorem dX8_fewestDoublings_13 : decode cX8_fewestDoublings 13 = .ok (.invokevirtual 249, 3) := by decide +kernel
theorem dX8_fewestDoublings_16 : decode cX8_fewestDoublings 16 = .ok (.ifCond .ne 15, 3) := by decide +kernel
theorem dX8_fewestDoublings_19 : decode cX8_fewestDoublings 19 = .ok (.aload_n 0, 1) := by decide +kernel
theorem dX8_fewestDoublings_20 : decode cX8_fewestDoublings 20 = .ok (.iload_n 2, 1) := by decide +kernel
theorem dX8_fewestDoublings_21 : decode cX8_fewestDoublings 21 = .ok (.aload_n 0, 1) := by decide +kernel
theorem dX8_fewestDoublings_22 : decode cX8_fewestDoublings 22 = .ok (.invokevirtual 273, 3) := by decide +kernel
theorem dX8_fewestDoublings_25 : decode cX8_fewestDoublings 25 = .ok (.invokevirtual 249, 3) := by decide +kernel
theorem dX8_fewestDoublings_28 : decode cX8_fewestDoublings 28 = .ok (.ifCond .eq 5, 3) := by decide +kernel
theorem dX8_fewestDoublings_31 : decode cX8_fewestDoublings 31 = .ok (.iconst 0, 1) := by decide +kernel
theorem dX8_fewestDoublings_32 : decode cX8_fewestDoublings 32 = .ok (.ireturn, 1) := by decide +kernel
theorem dX8_fewestDoublings_33 : decode cX8_fewestDoublings 33 = .ok (.aload_n 0, 1) := by decide +kernel
theorem dX8_fewestDoublings_34 : decode cX8_fewestDoublings 34 = .ok (.iload_n 1, 1) := by decide +kernel
theorem dX8_fewestDoublings_35 : decode cX8_fewestDoublings 35 = .ok (.aload_n 0, 1) := by decide +kernel
theorem dX8_fewestDoublings_36 : decode cX8_fewestDoublings 36 = .ok (.iload_n 2, 1) := by decide +kernel
theorem dX8_fewestDoublings_37 : decode cX8_fewestDoublings 37 = .ok (.invokevirtual 224, 3) := by decide +kernel
theorem dX8_fewestDoublings_40 : decode cX8_fewestDoublings 40 = .ok (.invokevirtual 227, 3) := by decide +kernel
theorem dX8_fewestDoublings_43 : decode cX8_fewestDoublings 43 = .ok (.ifCond .eq 10, 3) := by decide +kernel
theorem dX8_fewestDoublings_46 : decode cX8_fewestDoublings 46 = .ok (.aload_n 0, 1) := by decide +kernel
theorem dX8_fewestDoublings_47 : decode cX8_fewestDoublings 47 = .ok (.getfield 214, 3) := by decide +kernel
theorem dX8_fewestDoublings_50 : decode cX8_fewestDoublings 50 = .ok (.goto 4, 3) := by decide +kernel
theorem dX8_fewestDoublings_53 : decode cX8_fewestDoublings 53 = .ok (.iconst (-1), 1) := by decide +kernel
theorem dX8_fewestDoublings_54 : decode cX8_fewestDoublings 54 = .ok (.ireturn, 1) := by decide +kernel
theorem dX8_ones_0 : decode cX8_ones 0 = .ok (.iconst 0, 1) := by decide +kernel
theorem dX8_ones_1 : decode cX8_ones 1 = .ok (.istore_n 1, 1) := by decide +kernel
theorem dX8_ones_2 : decode cX8_ones 2 = .ok (.iload_n 0, 1) := by decide +kernel
theorem dX8_ones_3 : decode cX8_ones 3 = .ok (.istore_n 2, 1) := by decide +kernel
theorem dX8_ones_4 : decode cX8_ones 4 = .ok (.iload_n 2, 1) := by decide +kernel
theorem dX8_ones_5 : decode cX8_ones 5 = .ok (.ifCond .eq 15, 3) := by decide +kernel
theorem dX8_ones_8 : decode cX8_ones 8 = .ok (.iinc 1 1, 3) := by decide +kernel
theorem dX8_ones_11 : decode cX8_ones 11 = .ok (.iload_n 2, 1) := by decide +kernel
theorem dX8_ones_12 : decode cX8_ones 12 = .ok (.iload_n 2, 1) := by decide +kernel
theorem dX8_ones_13 : decode cX8_ones 13 = .ok (.iconst 1, 1) := by decide +kernel
theorem dX8_ones_14 : decode cX8_ones 14 = .ok (.isub, 1) := by decide +kernel
theorem dX8_ones_15 : decode cX8_ones 15 = .ok (.iand, 1) := by decide +kernel
theorem dX8_ones_16 : decode cX8_ones 16 = .ok (.istore_n 2, 1) := by decide +kernel
theorem dX8_ones_17 : decode cX8_ones 17 = .ok (.goto (-13), 3) := by decide +kernel
theorem dX8_ones_20 : decode cX8_ones 20 = .ok (.iload_n 1, 1) := by decide +kernel
theorem dX8_ones_21 : decode cX8_ones 21 = .ok (.ireturn, 1) := by decide +kernel
theorem dX8_noSet_0 : decode cX8_noSet 0 = .ok (.aload_n 0, 1) := by decide +kernel
theorem dX8_noSet_1 : decode cX8_noSet 1 = .ok (.iload_n 1, 1) := by decide +kernel
theorem dX8_noSet_2 : decode cX8_noSet 2 = .ok (.iconst 1, 1) := by decide +kernel
theorem dX8_noSet_3 : decode cX8_noSet 3 = .ok (.iconst 1, 1) := by decide +kernel
theorem dX8_noSet_4 : decode cX8_noSet 4 = .ok (.aload_n 0, 1) := by decide +kernel
theorem dX8_noSet_5 : decode cX8_noSet 5 = .ok (.getfield 7, 3) := by decide +kernel
theorem dX8_noSet_8 : decode cX8_noSet 8 = .ok (.iconst 3, 1) := by decide +kernel
theorem dX8_noSet_9 : decode cX8_noSet 9 = .ok (.iaload, 1) := by decide +kernel
theorem dX8_noSet_10 : decode cX8_noSet 10 = .ok (.ishl, 1) := by decide +kernel
theorem dX8_noSet_11 : decode cX8_noSet 11 = .ok (.iconst 1, 1) := by decide +kernel
theorem dX8_noSet_12 : decode cX8_noSet 12 = .ok (.isub, 1) := by decide +kernel
theorem dX8_noSet_13 : decode cX8_noSet 13 = .ok (.invokestatic 80, 3) := by decide +kernel
theorem dX8_noSet_16 : decode cX8_noSet 16 = .ok (.ifCond .eq 19, 3) := by decide +kernel
theorem dX8_noSet_19 : decode cX8_noSet 19 = .ok (.iload_n 1, 1) := by decide +kernel
theorem dX8_noSet_20 : decode cX8_noSet 20 = .ok (.invokestatic 288, 3) := by decide +kernel
theorem dX8_noSet_23 : decode cX8_noSet 23 = .ok (.iload_n 2, 1) := by decide +kernel
theorem dX8_noSet_24 : decode cX8_noSet 24 = .ok (.ifCond .eq 7, 3) := by decide +kernel
theorem dX8_noSet_27 : decode cX8_noSet 27 = .ok (.iconst 3, 1) := by decide +kernel
theorem dX8_noSet_28 : decode cX8_noSet 28 = .ok (.goto 4, 3) := by decide +kernel
theorem dX8_noSet_31 : decode cX8_noSet 31 = .ok (.iconst 1, 1) := by decide +kernel
theorem dX8_noSet_32 : decode cX8_noSet 32 = .ok (.if_icmp .le 7, 3) := by decide +kernel
theorem dX8_noSet_35 : decode cX8_noSet 35 = .ok (.iconst 1, 1) := by decide +kernel
theorem dX8_noSet_36 : decode cX8_noSet 36 = .ok (.goto 4, 3) := by decide +kernel
theorem dX8_noSet_39 : decode cX8_noSet 39 = .ok (.iconst 0, 1) := by decide +kernel
theorem dX8_noSet_40 : decode cX8_noSet 40 = .ok (.iconst 2, 1) := by decide +kernel
theorem dX8_noSet_41 : decode cX8_noSet 41 = .ok (.invokevirtual 176, 3) := by decide +kernel
theorem dX8_noSet_44 : decode cX8_noSet 44 = .ok (.ireturn, 1) := by decide +kernel
theorem dX8_whyNot_0 : decode cX8_whyNot 0 = .ok (.aload_n 0, 1) := by decide +kernel
theorem dX8_whyNot_1 : decode cX8_whyNot 1 = .ok (.iload_n 1, 1) := by decide +kernel
theorem dX8_whyNot_2 : decode cX8_whyNot 2 = .ok (.iload_n 2, 1) := by decide +kernel
theorem dX8_whyNot_3 : decode cX8_whyNot 3 = .ok (.invokevirtual 285, 3) := by decide +kernel
theorem dX8_whyNot_6 : decode cX8_whyNot 6 = .ok (.ifCond .ne 13, 3) := by decide +kernel
theorem dX8_whyNot_9 : decode cX8_whyNot 9 = .ok (.aload_n 0, 1) := by decide +kernel
theorem dX8_whyNot_10 : decode cX8_whyNot 10 = .ok (.iload_n 3, 1) := by decide +kernel
theorem dX8_whyNot_11 : decode cX8_whyNot 11 = .ok (.iload 4, 2) := by decide +kernel
theorem dX8_whyNot_13 : decode cX8_whyNot 13 = .ok (.invokevirtual 291, 3) := by decide +kernel
theorem dX8_whyNot_16 : decode cX8_whyNot 16 = .ok (.ifCond .eq 7, 3) := by decide +kernel
theorem dX8_whyNot_19 : decode cX8_whyNot 19 = .ok (.iconst 0, 1) := by decide +kernel
theorem dX8_whyNot_20 : decode cX8_whyNot 20 = .ok (.goto 12, 3) := by decide +kernel
theorem dX8_whyNot_23 : decode cX8_whyNot 23 = .ok (.aload_n 0, 1) := by decide +kernel
theorem dX8_whyNot_24 : decode cX8_whyNot 24 = .ok (.iload_n 1, 1) := by decide +kernel
theorem dX8_whyNot_25 : decode cX8_whyNot 25 = .ok (.iload_n 2, 1) := by decide +kernel
theorem dX8_whyNot_26 : decode cX8_whyNot 26 = .ok (.iload_n 3, 1) := by decide +kernel
theorem dX8_whyNot_27 : decode cX8_whyNot 27 = .ok (.iload 4, 2) := by decide +kernel
theorem dX8_whyNot_29 : decode cX8_whyNot 29 = .ok (.invokevirtual 294, 3) := by decide +kernel
theorem dX8_whyNot_32 : decode cX8_whyNot 32 = .ok (.ireturn, 1) := by decide +kernel
theorem dX8_earliest_0 : decode cX8_earliest 0 = .ok (.aload_n 0, 1) := by decide +kernel
theorem dX8_earliest_1 : decode cX8_earliest 1 = .ok (.iload_n 1, 1) := by decide +kernel
theorem dX8_earliest_2 : decode cX8_earliest 2 = .ok (.iload_n 2, 1) := by decide +kernel
theorem dX8_earliest_3 : decode cX8_earliest 3 = .ok (.invokevirtual 285, 3) := by decide +kernel
theorem dX8_earliest_6 : decode cX8_earliest 6 = .ok (.ifCond .ne 13, 3) := by decide +kernel
theorem dX8_earliest_9 : decode cX8_earliest 9 = .ok (.aload_n 0, 1) := by decide +kernel
theorem dX8_earliest_10 : decode cX8_earliest 10 = .ok (.iload_n 3, 1) := by decide +kernel
theorem dX8_earliest_11 : decode cX8_earliest 11 = .ok (.iload 4, 2) := by decide +kernel
theorem dX8_earliest_13 : decode cX8_earliest 13 = .ok (.invokevirtual 291, 3) := by decide +kernel
theorem dX8_earliest_16 : decode cX8_earliest 16 = .ok (.ifCond .eq 5, 3) := by decide +kernel
theorem dX8_earliest_19 : decode cX8_earliest 19 = .ok (.iconst 0, 1) := by decide +kernel
theorem dX8_earliest_20 : decode cX8_earliest 20 = .ok (.ireturn, 1) := by decide +kernel
theorem dX8_earliest_21 : decode cX8_earliest 21 = .ok (.iload_n 2, 1) := by decide +kernel
theorem dX8_earliest_22 : decode cX8_earliest 22 = .ok (.istore 5, 2) := by decide +kernel
theorem dX8_earliest_24 : decode cX8_earliest 24 = .ok (.iload 5, 2) := by decide +kernel
theorem dX8_earliest_26 : decode cX8_earliest 26 = .ok (.aload_n 0, 1) := by decide +kernel
theorem dX8_earliest_27 : decode cX8_earliest 27 = .ok (.invokevirtual 273, 3) := by decide +kernel
theorem dX8_earliest_30 : decode cX8_earliest 30 = .ok (.if_icmp .ge 25, 3) := by decide +kernel
theorem dX8_earliest_33 : decode cX8_earliest 33 = .ok (.aload_n 0, 1) := by decide +kernel
theorem dX8_earliest_34 : decode cX8_earliest 34 = .ok (.iload_n 1, 1) := by decide +kernel
theorem dX8_earliest_35 : decode cX8_earliest 35 = .ok (.iload 5, 2) := by decide +kernel
theorem dX8_earliest_37 : decode cX8_earliest 37 = .ok (.iload_n 3, 1) := by decide +kernel
theorem dX8_earliest_38 : decode cX8_earliest 38 = .ok (.iload 4, 2) := by decide +kernel
theorem dX8_earliest_40 : decode cX8_earliest 40 = .ok (.invokevirtual 294, 3) := by decide +kernel
theorem dX8_earliest_43 : decode cX8_earliest 43 = .ok (.ifCond .ne 6, 3) := by decide +kernel
theorem dX8_earliest_46 : decode cX8_earliest 46 = .ok (.iload 5, 2) := by decide +kernel
theorem dX8_earliest_48 : decode cX8_earliest 48 = .ok (.ireturn, 1) := by decide +kernel
theorem dX8_earliest_49 : decode cX8_earliest 49 = .ok (.iinc 5 1, 3) := by decide +kernel
theorem dX8_earliest_52 : decode cX8_earliest 52 = .ok (.goto (-28), 3) := by decide +kernel
theorem dX8_earliest_55 : decode cX8_earliest 55 = .ok (.iconst (-1), 1) := by decide +kernel
theorem dX8_earliest_56 : decode cX8_earliest 56 = .ok (.ireturn, 1) := by decide +kernel
theorem dX8_puts_0 : decode cX8_puts 0 = .ok (.iconst 0, 1) := by decide +kernel
theorem dX8_puts_1 : decode cX8_puts 1 = .ok (.istore_n 3, 1) := by decide +kernel
theorem dX8_puts_2 : decode cX8_puts 2 = .ok (.iload_n 3, 1) := by decide +kernel
theorem dX8_puts_3 : decode cX8_puts 3 = .ok (.sipush 689, 3) := by decide +kernel
theorem dX8_puts_6 : decode cX8_puts 6 = .ok (.if_icmp .ge 15, 3) := by decide +kernel
theorem dX8_puts_9 : decode cX8_puts 9 = .ok (.aload_n 2, 1) := by decide +kernel
theorem dX8_puts_10 : decode cX8_puts 10 = .ok (.iload_n 3, 1) := by decide +kernel
theorem dX8_puts_11 : decode cX8_puts 11 = .ok (.aload_n 1, 1) := by decide +kernel
theorem dX8_puts_12 : decode cX8_puts 12 = .ok (.iload_n 3, 1) := by decide +kernel
theorem dX8_puts_13 : decode cX8_puts 13 = .ok (.iaload, 1) := by decide +kernel
theorem dX8_puts_14 : decode cX8_puts 14 = .ok (.iastore, 1) := by decide +kernel
theorem dX8_puts_15 : decode cX8_puts 15 = .ok (.iinc 3 1, 3) := by decide +kernel
theorem dX8_puts_18 : decode cX8_puts 18 = .ok (.goto (-16), 3) := by decide +kernel
theorem dX8_puts_21 : decode cX8_puts 21 = .ok (.return_, 1) := by decide +kernel
theorem dX8_moves_0 : decode cX8_moves 0 = .ok (.aload_n 0, 1) := by decide +kernel
theorem dX8_moves_1 : decode cX8_moves 1 = .ok (.iload_n 1, 1) := by decide +kernel
theorem dX8_moves_2 : decode cX8_moves 2 = .ok (.iconst 1, 1) := by decide +kernel
theorem dX8_moves_3 : decode cX8_moves 3 = .ok (.invokevirtual 198, 3) := by decide +kernel
theorem dX8_moves_6 : decode cX8_moves 6 = .ok (.istore_n 3, 1) := by decide +kernel
theorem dX8_moves_7 : decode cX8_moves 7 = .ok (.aload_n 0, 1) := by decide +kernel
theorem dX8_moves_8 : decode cX8_moves 8 = .ok (.iload_n 1, 1) := by decide +kernel
theorem dX8_moves_9 : decode cX8_moves 9 = .ok (.iconst 3, 1) := by decide +kernel
theorem dX8_moves_10 : decode cX8_moves 10 = .ok (.invokevirtual 198, 3) := by decide +kernel
theorem dX8_moves_13 : decode cX8_moves 13 = .ok (.istore 4, 2) := by decide +kernel
theorem dX8_moves_15 : decode cX8_moves 15 = .ok (.aload_n 0, 1) := by decide +kernel
theorem dX8_moves_16 : decode cX8_moves 16 = .ok (.iload_n 1, 1) := by decide +kernel
theorem dX8_moves_17 : decode cX8_moves 17 = .ok (.iconst 2, 1) := by decide +kernel
theorem dX8_moves_18 : decode cX8_moves 18 = .ok (.invokevirtual 198, 3) := by decide +kernel
theorem dX8_moves_21 : decode cX8_moves 21 = .ok (.istore 5, 2) := by decide +kernel
theorem dX8_moves_23 : decode cX8_moves 23 = .ok (.aload_n 0, 1) := by decide +kernel
theorem dX8_moves_24 : decode cX8_moves 24 = .ok (.iload_n 1, 1) := by decide +kernel
theorem dX8_moves_25 : decode cX8_moves 25 = .ok (.invokevirtual 298, 3) := by decide +kernel
theorem dX8_moves_28 : decode cX8_moves 28 = .ok (.aload_n 0, 1) := by decide +kernel
theorem dX8_moves_29 : decode cX8_moves 29 = .ok (.iload_n 3, 1) := by decide +kernel
theorem dX8_moves_30 : decode cX8_moves 30 = .ok (.iload_n 2, 1) := by decide +kernel
theorem dX8_moves_31 : decode cX8_moves 31 = .ok (.iload 4, 2) := by decide +kernel
theorem dX8_moves_33 : decode cX8_moves 33 = .ok (.iload 5, 2) := by decide +kernel
theorem dX8_moves_35 : decode cX8_moves 35 = .ok (.iconst 1, 1) := by decide +kernel
theorem dX8_moves_36 : decode cX8_moves 36 = .ok (.if_icmp .ne 7, 3) := by decide +kernel
theorem dX8_moves_39 : decode cX8_moves 39 = .ok (.iconst 1, 1) := by decide +kernel
theorem dX8_moves_40 : decode cX8_moves 40 = .ok (.goto 4, 3) := by decide +kernel
theorem dX8_moves_43 : decode cX8_moves 43 = .ok (.iconst 0, 1) := by decide +kernel
theorem dX8_moves_44 : decode cX8_moves 44 = .ok (.invokevirtual 294, 3) := by decide +kernel
theorem dX8_moves_47 : decode cX8_moves 47 = .ok (.istore 6, 2) := by decide +kernel
theorem dX8_moves_49 : decode cX8_moves 49 = .ok (.iload 6, 2) := by decide +kernel
theorem dX8_moves_51 : decode cX8_moves 51 = .ok (.ifCond .le 6, 3) := by decide +kernel
theorem dX8_moves_54 : decode cX8_moves 54 = .ok (.iload 6, 2) := by decide +kernel
theorem dX8_moves_56 : decode cX8_moves 56 = .ok (.ireturn, 1) := by decide +kernel
theorem dX8_moves_57 : decode cX8_moves 57 = .ok (.aload_n 0, 1) := by decide +kernel
theorem dX8_moves_58 : decode cX8_moves 58 = .ok (.aload_n 0, 1) := by decide +kernel
theorem dX8_moves_59 : decode cX8_moves 59 = .ok (.iload_n 3, 1) := by decide +kernel
theorem dX8_moves_60 : decode cX8_moves 60 = .ok (.iload_n 2, 1) := by decide +kernel
theorem dX8_moves_61 : decode cX8_moves 61 = .ok (.iload 4, 2) := by decide +kernel
theorem dX8_moves_63 : decode cX8_moves 63 = .ok (.iload 5, 2) := by decide +kernel
theorem dX8_moves_65 : decode cX8_moves 65 = .ok (.invokevirtual 301, 3) := by decide +kernel
theorem dX8_moves_68 : decode cX8_moves 68 = .ok (.putfield 305, 3) := by decide +kernel
theorem dX8_moves_71 : decode cX8_moves 71 = .ok (.aload_n 0, 1) := by decide +kernel
theorem dX8_moves_72 : decode cX8_moves 72 = .ok (.invokevirtual 308, 3) := by decide +kernel
theorem dX8_moves_75 : decode cX8_moves 75 = .ok (.ifCond .eq 7, 3) := by decide +kernel
theorem dX8_moves_78 : decode cX8_moves 78 = .ok (.iconst 0, 1) := by decide +kernel
theorem dX8_moves_79 : decode cX8_moves 79 = .ok (.goto 5, 3) := by decide +kernel
theorem dX8_moves_82 : decode cX8_moves 82 = .ok (.bipush 6, 2) := by decide +kernel
theorem dX8_moves_84 : decode cX8_moves 84 = .ok (.ireturn, 1) := by decide +kernel
theorem dX8_whyNotMove_0 : decode cX8_whyNotMove 0 = .ok (.aload_n 0, 1) := by decide +kernel
theorem dX8_whyNotMove_1 : decode cX8_whyNotMove 1 = .ok (.iload_n 1, 1) := by decide +kernel
theorem dX8_whyNotMove_2 : decode cX8_whyNotMove 2 = .ok (.invokevirtual 282, 3) := by decide +kernel
theorem dX8_whyNotMove_5 : decode cX8_whyNotMove 5 = .ok (.ifCond .ne 15, 3) := by decide +kernel
theorem dX8_whyNotMove_8 : decode cX8_whyNotMove 8 = .ok (.aload_n 0, 1) := by decide +kernel
theorem dX8_whyNotMove_9 : decode cX8_whyNotMove 9 = .ok (.iload_n 2, 1) := by decide +kernel
theorem dX8_whyNotMove_10 : decode cX8_whyNotMove 10 = .ok (.aload_n 0, 1) := by decide +kernel
theorem dX8_whyNotMove_11 : decode cX8_whyNotMove 11 = .ok (.invokevirtual 273, 3) := by decide +kernel
theorem dX8_whyNotMove_14 : decode cX8_whyNotMove 14 = .ok (.invokevirtual 249, 3) := by decide +kernel
theorem dX8_whyNotMove_17 : decode cX8_whyNotMove 17 = .ok (.ifCond .eq 5, 3) := by decide +kernel
theorem dX8_whyNotMove_20 : decode cX8_whyNotMove 20 = .ok (.iconst 0, 1) := by decide +kernel
theorem dX8_whyNotMove_21 : decode cX8_whyNotMove 21 = .ok (.ireturn, 1) := by decide +kernel
theorem dX8_whyNotMove_22 : decode cX8_whyNotMove 22 = .ok (.aload_n 0, 1) := by decide +kernel
theorem dX8_whyNotMove_23 : decode cX8_whyNotMove 23 = .ok (.aload_n 0, 1) := by decide +kernel
theorem dX8_whyNotMove_24 : decode cX8_whyNotMove 24 = .ok (.getfield 13, 3) := by decide +kernel
theorem dX8_whyNotMove_27 : decode cX8_whyNotMove 27 = .ok (.aload_n 0, 1) := by decide +kernel
theorem dX8_whyNotMove_28 : decode cX8_whyNotMove 28 = .ok (.getfield 43, 3) := by decide +kernel
theorem dX8_whyNotMove_31 : decode cX8_whyNotMove 31 = .ok (.invokevirtual 311, 3) := by decide +kernel
theorem dX8_whyNotMove_34 : decode cX8_whyNotMove 34 = .ok (.aload_n 0, 1) := by decide +kernel
theorem dX8_whyNotMove_35 : decode cX8_whyNotMove 35 = .ok (.iload_n 1, 1) := by decide +kernel
theorem dX8_whyNotMove_36 : decode cX8_whyNotMove 36 = .ok (.iload_n 2, 1) := by decide +kernel
theorem dX8_whyNotMove_37 : decode cX8_whyNotMove 37 = .ok (.invokevirtual 315, 3) := by decide +kernel
theorem dX8_whyNotMove_40 : decode cX8_whyNotMove 40 = .ok (.istore_n 3, 1) := by decide +kernel
theorem dX8_whyNotMove_41 : decode cX8_whyNotMove 41 = .ok (.aload_n 0, 1) := by decide +kernel
theorem dX8_whyNotMove_42 : decode cX8_whyNotMove 42 = .ok (.aload_n 0, 1) := by decide +kernel
theorem dX8_whyNotMove_43 : decode cX8_whyNotMove 43 = .ok (.getfield 43, 3) := by decide +kernel
theorem dX8_whyNotMove_46 : decode cX8_whyNotMove 46 = .ok (.aload_n 0, 1) := by decide +kernel
theorem dX8_whyNotMove_47 : decode cX8_whyNotMove 47 = .ok (.getfield 13, 3) := by decide +kernel
theorem dX8_whyNotMove_50 : decode cX8_whyNotMove 50 = .ok (.invokevirtual 311, 3) := by decide +kernel
theorem dX8_whyNotMove_53 : decode cX8_whyNotMove 53 = .ok (.iload_n 3, 1) := by decide +kernel
theorem dX8_whyNotMove_54 : decode cX8_whyNotMove 54 = .ok (.ireturn, 1) := by decide +kernel
theorem dX8_costOf_0 : decode cX8_costOf 0 = .ok (.iconst 0, 1) := by decide +kernel
theorem dX8_costOf_1 : decode cX8_costOf 1 = .ok (.istore_n 2, 1) := by decide +kernel
theorem dX8_costOf_2 : decode cX8_costOf 2 = .ok (.iconst 0, 1) := by decide +kernel
theorem dX8_costOf_3 : decode cX8_costOf 3 = .ok (.istore_n 3, 1) := by decide +kernel
theorem dX8_costOf_4 : decode cX8_costOf 4 = .ok (.iload_n 3, 1) := by decide +kernel
theorem dX8_costOf_5 : decode cX8_costOf 5 = .ok (.aload_n 0, 1) := by decide +kernel
theorem dX8_costOf_6 : decode cX8_costOf 6 = .ok (.getfield 7, 3) := by decide +kernel
theorem dX8_costOf_9 : decode cX8_costOf 9 = .ok (.iconst 3, 1) := by decide +kernel
theorem dX8_costOf_10 : decode cX8_costOf 10 = .ok (.iaload, 1) := by decide +kernel
theorem dX8_costOf_11 : decode cX8_costOf 11 = .ok (.if_icmp .ge 30, 3) := by decide +kernel
theorem dX8_costOf_14 : decode cX8_costOf 14 = .ok (.iload_n 2, 1) := by decide +kernel
theorem dX8_costOf_15 : decode cX8_costOf 15 = .ok (.iload_n 1, 1) := by decide +kernel
theorem dX8_costOf_16 : decode cX8_costOf 16 = .ok (.ifCond .eq 8, 3) := by decide +kernel
theorem dX8_costOf_19 : decode cX8_costOf 19 = .ok (.iload_n 1, 1) := by decide +kernel
theorem dX8_costOf_20 : decode cX8_costOf 20 = .ok (.iconst 3, 1) := by decide +kernel
theorem dX8_costOf_21 : decode cX8_costOf 21 = .ok (.if_icmp .ne 11, 3) := by decide +kernel
theorem dX8_costOf_24 : decode cX8_costOf 24 = .ok (.aload_n 0, 1) := by decide +kernel
theorem dX8_costOf_25 : decode cX8_costOf 25 = .ok (.iload_n 3, 1) := by decide +kernel
theorem dX8_costOf_26 : decode cX8_costOf 26 = .ok (.invokevirtual 276, 3) := by decide +kernel
theorem dX8_costOf_29 : decode cX8_costOf 29 = .ok (.goto 4, 3) := by decide +kernel
theorem dX8_costOf_32 : decode cX8_costOf 32 = .ok (.iconst 0, 1) := by decide +kernel
theorem dX8_costOf_33 : decode cX8_costOf 33 = .ok (.iadd, 1) := by decide +kernel
theorem dX8_costOf_34 : decode cX8_costOf 34 = .ok (.istore_n 2, 1) := by decide +kernel
theorem dX8_costOf_35 : decode cX8_costOf 35 = .ok (.iinc 3 1, 3) := by decide +kernel
theorem dX8_costOf_38 : decode cX8_costOf 38 = .ok (.goto (-34), 3) := by decide +kernel
theorem dX8_costOf_41 : decode cX8_costOf 41 = .ok (.iconst 0, 1) := by decide +kernel
theorem dX8_costOf_42 : decode cX8_costOf 42 = .ok (.istore_n 3, 1) := by decide +kernel
theorem dX8_costOf_43 : decode cX8_costOf 43 = .ok (.iload_n 3, 1) := by decide +kernel
theorem dX8_costOf_44 : decode cX8_costOf 44 = .ok (.aload_n 0, 1) := by decide +kernel
theorem dX8_costOf_45 : decode cX8_costOf 45 = .ok (.getfield 7, 3) := by decide +kernel
theorem dX8_costOf_48 : decode cX8_costOf 48 = .ok (.iconst 2, 1) := by decide +kernel
theorem dX8_costOf_49 : decode cX8_costOf 49 = .ok (.iaload, 1) := by decide +kernel
theorem dX8_costOf_50 : decode cX8_costOf 50 = .ok (.if_icmp .ge 60, 3) := by decide +kernel
theorem dX8_costOf_53 : decode cX8_costOf 53 = .ok (.iload_n 2, 1) := by decide +kernel
theorem dX8_costOf_54 : decode cX8_costOf 54 = .ok (.iload_n 1, 1) := by decide +kernel
theorem dX8_costOf_55 : decode cX8_costOf 55 = .ok (.iconst 1, 1) := by decide +kernel
theorem dX8_costOf_56 : decode cX8_costOf 56 = .ok (.if_icmp .eq 8, 3) := by decide +kernel
theorem dX8_costOf_59 : decode cX8_costOf 59 = .ok (.iload_n 1, 1) := by decide +kernel
theorem dX8_costOf_60 : decode cX8_costOf 60 = .ok (.iconst 3, 1) := by decide +kernel
theorem dX8_costOf_61 : decode cX8_costOf 61 = .ok (.if_icmp .ne 11, 3) := by decide +kernel
theorem dX8_costOf_64 : decode cX8_costOf 64 = .ok (.aload_n 0, 1) := by decide +kernel
theorem dX8_costOf_65 : decode cX8_costOf 65 = .ok (.iload_n 3, 1) := by decide +kernel
theorem dX8_costOf_66 : decode cX8_costOf 66 = .ok (.invokevirtual 270, 3) := by decide +kernel
theorem dX8_costOf_69 : decode cX8_costOf 69 = .ok (.goto 4, 3) := by decide +kernel
theorem dX8_costOf_72 : decode cX8_costOf 72 = .ok (.iconst 0, 1) := by decide +kernel
theorem dX8_costOf_73 : decode cX8_costOf 73 = .ok (.iadd, 1) := by decide +kernel
theorem dX8_costOf_74 : decode cX8_costOf 74 = .ok (.istore_n 2, 1) := by decide +kernel
theorem dX8_costOf_75 : decode cX8_costOf 75 = .ok (.iload_n 2, 1) := by decide +kernel
theorem dX8_costOf_76 : decode cX8_costOf 76 = .ok (.iload_n 1, 1) := by decide +kernel
theorem dX8_costOf_77 : decode cX8_costOf 77 = .ok (.iconst 2, 1) := by decide +kernel
theorem dX8_costOf_78 : decode cX8_costOf 78 = .ok (.if_icmp .eq 8, 3) := by decide +kernel
theorem dX8_costOf_81 : decode cX8_costOf 81 = .ok (.iload_n 1, 1) := by decide +kernel
theorem dX8_costOf_82 : decode cX8_costOf 82 = .ok (.iconst 3, 1) := by decide +kernel
theorem dX8_costOf_83 : decode cX8_costOf 83 = .ok (.if_icmp .ne 18, 3) := by decide +kernel
theorem dX8_costOf_86 : decode cX8_costOf 86 = .ok (.aload_n 0, 1) := by decide +kernel
theorem dX8_costOf_87 : decode cX8_costOf 87 = .ok (.iload_n 3, 1) := by decide +kernel
theorem dX8_costOf_88 : decode cX8_costOf 88 = .ok (.invokevirtual 267, 3) := by decide +kernel
theorem dX8_costOf_91 : decode cX8_costOf 91 = .ok (.aload_n 0, 1) := by decide +kernel
theorem dX8_costOf_92 : decode cX8_costOf 92 = .ok (.getfield 7, 3) := by decide +kernel
theorem dX8_costOf_95 : decode cX8_costOf 95 = .ok (.iconst 5, 1) := by decide +kernel
theorem dX8_costOf_96 : decode cX8_costOf 96 = .ok (.iaload, 1) := by decide +kernel
theorem dX8_costOf_97 : decode cX8_costOf 97 = .ok (.imul, 1) := by decide +kernel
theorem dX8_costOf_98 : decode cX8_costOf 98 = .ok (.goto 4, 3) := by decide +kernel
theorem dX8_costOf_101 : decode cX8_costOf 101 = .ok (.iconst 0, 1) := by decide +kernel
theorem dX8_costOf_102 : decode cX8_costOf 102 = .ok (.iadd, 1) := by decide +kernel
theorem dX8_costOf_103 : decode cX8_costOf 103 = .ok (.istore_n 2, 1) := by decide +kernel
theorem dX8_costOf_104 : decode cX8_costOf 104 = .ok (.iinc 3 1, 3) := by decide +kernel
theorem dX8_costOf_107 : decode cX8_costOf 107 = .ok (.goto (-64), 3) := by decide +kernel
theorem dX8_costOf_110 : decode cX8_costOf 110 = .ok (.iload_n 2, 1) := by decide +kernel
theorem dX8_costOf_111 : decode cX8_costOf 111 = .ok (.ireturn, 1) := by decide +kernel
theorem dX8_costs_0 : decode cX8_costs 0 = .ok (.aload_n 0, 1) := by decide +kernel
theorem dX8_costs_1 : decode cX8_costs 1 = .ok (.iconst 0, 1) := by decide +kernel
theorem dX8_costs_2 : decode cX8_costs 2 = .ok (.putfield 56, 3) := by decide +kernel
theorem dX8_costs_5 : decode cX8_costs 5 = .ok (.aload_n 0, 1) := by decide +kernel
theorem dX8_costs_6 : decode cX8_costs 6 = .ok (.iload_n 1, 1) := by decide +kernel
theorem dX8_costs_7 : decode cX8_costs 7 = .ok (.iconst 0, 1) := by decide +kernel
theorem dX8_costs_8 : decode cX8_costs 8 = .ok (.iconst 3, 1) := by decide +kernel
theorem dX8_costs_9 : decode cX8_costs 9 = .ok (.invokestatic 80, 3) := by decide +kernel
theorem dX8_costs_12 : decode cX8_costs 12 = .ok (.ifCond .ne 7, 3) := by decide +kernel
theorem dX8_costs_15 : decode cX8_costs 15 = .ok (.iconst 1, 1) := by decide +kernel
theorem dX8_costs_16 : decode cX8_costs 16 = .ok (.goto 4, 3) := by decide +kernel
theorem dX8_costs_19 : decode cX8_costs 19 = .ok (.iconst 0, 1) := by decide +kernel
theorem dX8_costs_20 : decode cX8_costs 20 = .ok (.iconst 1, 1) := by decide +kernel
theorem dX8_costs_21 : decode cX8_costs 21 = .ok (.invokevirtual 176, 3) := by decide +kernel
theorem dX8_costs_24 : decode cX8_costs 24 = .ok (.ifCond .eq 7, 3) := by decide +kernel
theorem dX8_costs_27 : decode cX8_costs 27 = .ok (.iconst 0, 1) := by decide +kernel
theorem dX8_costs_28 : decode cX8_costs 28 = .ok (.goto 8, 3) := by decide +kernel
theorem dX8_costs_31 : decode cX8_costs 31 = .ok (.aload_n 0, 1) := by decide +kernel
theorem dX8_costs_32 : decode cX8_costs 32 = .ok (.iload_n 1, 1) := by decide +kernel
theorem dX8_costs_33 : decode cX8_costs 33 = .ok (.invokevirtual 318, 3) := by decide +kernel
theorem dX8_costs_36 : decode cX8_costs 36 = .ok (.ireturn, 1) := by decide +kernel
theorem dX8_costsWith_0 : decode cX8_costsWith 0 = .ok (.aload_n 0, 1) := by decide +kernel
theorem dX8_costsWith_1 : decode cX8_costsWith 1 = .ok (.iload_n 1, 1) := by decide +kernel
theorem dX8_costsWith_2 : decode cX8_costsWith 2 = .ok (.iload_n 2, 1) := by decide +kernel
theorem dX8_costsWith_3 : decode cX8_costsWith 3 = .ok (.invokevirtual 285, 3) := by decide +kernel
theorem dX8_costsWith_6 : decode cX8_costsWith 6 = .ok (.ifCond .ne 13, 3) := by decide +kernel
theorem dX8_costsWith_9 : decode cX8_costsWith 9 = .ok (.aload_n 0, 1) := by decide +kernel
theorem dX8_costsWith_10 : decode cX8_costsWith 10 = .ok (.iload_n 3, 1) := by decide +kernel
theorem dX8_costsWith_11 : decode cX8_costsWith 11 = .ok (.iload 4, 2) := by decide +kernel
theorem dX8_costsWith_13 : decode cX8_costsWith 13 = .ok (.invokevirtual 291, 3) := by decide +kernel
theorem dX8_costsWith_16 : decode cX8_costsWith 16 = .ok (.ifCond .eq 5, 3) := by decide +kernel
theorem dX8_costsWith_19 : decode cX8_costsWith 19 = .ok (.iconst 0, 1) := by decide +kernel
theorem dX8_costsWith_20 : decode cX8_costsWith 20 = .ok (.ireturn, 1) := by decide +kernel
theorem dX8_costsWith_21 : decode cX8_costsWith 21 = .ok (.aload_n 0, 1) := by decide +kernel
theorem dX8_costsWith_22 : decode cX8_costsWith 22 = .ok (.iload_n 1, 1) := by decide +kernel
theorem dX8_costsWith_23 : decode cX8_costsWith 23 = .ok (.iload_n 2, 1) := by decide +kernel
theorem dX8_costsWith_24 : decode cX8_costsWith 24 = .ok (.iload_n 3, 1) := by decide +kernel
theorem dX8_costsWith_25 : decode cX8_costsWith 25 = .ok (.iload 4, 2) := by decide +kernel
theorem dX8_costsWith_27 : decode cX8_costsWith 27 = .ok (.invokevirtual 294, 3) := by decide +kernel
theorem dX8_costsWith_30 : decode cX8_costsWith 30 = .ok (.ifCond .le 5, 3) := by decide +kernel
theorem dX8_costsWith_33 : decode cX8_costsWith 33 = .ok (.iconst (-1), 1) := by decide +kernel
theorem dX8_costsWith_34 : decode cX8_costsWith 34 = .ok (.ireturn, 1) := by decide +kernel
theorem dX8_costsWith_35 : decode cX8_costsWith 35 = .ok (.aload_n 0, 1) := by decide +kernel
theorem dX8_costsWith_36 : decode cX8_costsWith 36 = .ok (.aload_n 0, 1) := by decide +kernel
theorem dX8_costsWith_37 : decode cX8_costsWith 37 = .ok (.getfield 13, 3) := by decide +kernel
theorem dX8_costsWith_40 : decode cX8_costsWith 40 = .ok (.aload_n 0, 1) := by decide +kernel
theorem dX8_costsWith_41 : decode cX8_costsWith 41 = .ok (.getfield 43, 3) := by decide +kernel
theorem dX8_costsWith_44 : decode cX8_costsWith 44 = .ok (.invokevirtual 311, 3) := by decide +kernel
theorem dX8_costsWith_47 : decode cX8_costsWith 47 = .ok (.aload_n 0, 1) := by decide +kernel
theorem dX8_costsWith_48 : decode cX8_costsWith 48 = .ok (.iload_n 1, 1) := by decide +kernel
theorem dX8_costsWith_49 : decode cX8_costsWith 49 = .ok (.iload_n 2, 1) := by decide +kernel
theorem dX8_costsWith_50 : decode cX8_costsWith 50 = .ok (.iload_n 3, 1) := by decide +kernel
theorem dX8_costsWith_51 : decode cX8_costsWith 51 = .ok (.iload 4, 2) := by decide +kernel
theorem dX8_costsWith_53 : decode cX8_costsWith 53 = .ok (.ifCond .eq 7, 3) := by decide +kernel
theorem dX8_costsWith_56 : decode cX8_costsWith 56 = .ok (.iconst 1, 1) := by decide +kernel
theorem dX8_costsWith_57 : decode cX8_costsWith 57 = .ok (.goto 4, 3) := by decide +kernel
theorem dX8_costsWith_60 : decode cX8_costsWith 60 = .ok (.iconst 0, 1) := by decide +kernel
theorem dX8_costsWith_61 : decode cX8_costsWith 61 = .ok (.invokevirtual 301, 3) := by decide +kernel
theorem dX8_costsWith_64 : decode cX8_costsWith 64 = .ok (.istore 5, 2) := by decide +kernel
theorem dX8_costsWith_66 : decode cX8_costsWith 66 = .ok (.aload_n 0, 1) := by decide +kernel
theorem dX8_costsWith_67 : decode cX8_costsWith 67 = .ok (.iconst 3, 1) := by decide +kernel
theorem dX8_costsWith_68 : decode cX8_costsWith 68 = .ok (.invokevirtual 318, 3) := by decide +kernel
theorem dX8_costsWith_71 : decode cX8_costsWith 71 = .ok (.istore 6, 2) := by decide +kernel
theorem dX8_costsWith_73 : decode cX8_costsWith 73 = .ok (.aload_n 0, 1) := by decide +kernel
theorem dX8_costsWith_74 : decode cX8_costsWith 74 = .ok (.aload_n 0, 1) := by decide +kernel
theorem dX8_costsWith_75 : decode cX8_costsWith 75 = .ok (.getfield 43, 3) := by decide +kernel
theorem dX8_costsWith_78 : decode cX8_costsWith 78 = .ok (.aload_n 0, 1) := by decide +kernel
theorem dX8_costsWith_79 : decode cX8_costsWith 79 = .ok (.getfield 13, 3) := by decide +kernel
theorem dX8_costsWith_82 : decode cX8_costsWith 82 = .ok (.invokevirtual 311, 3) := by decide +kernel
theorem dX8_costsWith_85 : decode cX8_costsWith 85 = .ok (.iload 6, 2) := by decide +kernel
theorem dX8_costsWith_87 : decode cX8_costsWith 87 = .ok (.ireturn, 1) := by decide +kernel
theorem dX8_isBalanced_0 : decode cX8_isBalanced 0 = .ok (.aload_n 0, 1) := by decide +kernel
theorem dX8_isBalanced_1 : decode cX8_isBalanced 1 = .ok (.iconst 0, 1) := by decide +kernel
theorem dX8_isBalanced_2 : decode cX8_isBalanced 2 = .ok (.putfield 56, 3) := by decide +kernel
theorem dX8_isBalanced_5 : decode cX8_isBalanced 5 = .ok (.iconst 1, 1) := by decide +kernel
theorem dX8_isBalanced_6 : decode cX8_isBalanced 6 = .ok (.istore_n 1, 1) := by decide +kernel
theorem dX8_isBalanced_7 : decode cX8_isBalanced 7 = .ok (.iconst 0, 1) := by decide +kernel
theorem dX8_isBalanced_8 : decode cX8_isBalanced 8 = .ok (.istore_n 2, 1) := by decide +kernel
theorem dX8_isBalanced_9 : decode cX8_isBalanced 9 = .ok (.iload_n 2, 1) := by decide +kernel
theorem dX8_isBalanced_10 : decode cX8_isBalanced 10 = .ok (.aload_n 0, 1) := by decide +kernel
theorem dX8_isBalanced_11 : decode cX8_isBalanced 11 = .ok (.getfield 7, 3) := by decide +kernel
theorem dX8_isBalanced_14 : decode cX8_isBalanced 14 = .ok (.iconst 2, 1) := by decide +kernel
theorem dX8_isBalanced_15 : decode cX8_isBalanced 15 = .ok (.iaload, 1) := by decide +kernel
theorem dX8_isBalanced_16 : decode cX8_isBalanced 16 = .ok (.if_icmp .ge 27, 3) := by decide +kernel
theorem dX8_isBalanced_19 : decode cX8_isBalanced 19 = .ok (.iload_n 1, 1) := by decide +kernel
theorem dX8_isBalanced_20 : decode cX8_isBalanced 20 = .ok (.ifCond .eq 15, 3) := by decide +kernel
theorem dX8_isBalanced_23 : decode cX8_isBalanced 23 = .ok (.aload_n 0, 1) := by decide +kernel
theorem dX8_isBalanced_24 : decode cX8_isBalanced 24 = .ok (.iload_n 2, 1) := by decide +kernel
theorem dX8_isBalanced_25 : decode cX8_isBalanced 25 = .ok (.invokevirtual 258, 3) := by decide +kernel
theorem dX8_isBalanced_28 : decode cX8_isBalanced 28 = .ok (.ifCond .ne 7, 3) := by decide +kernel
theorem dX8_isBalanced_31 : decode cX8_isBalanced 31 = .ok (.iconst 1, 1) := by decide +kernel
theorem dX8_isBalanced_32 : decode cX8_isBalanced 32 = .ok (.goto 4, 3) := by decide +kernel
theorem dX8_isBalanced_35 : decode cX8_isBalanced 35 = .ok (.iconst 0, 1) := by decide +kernel
theorem dX8_isBalanced_36 : decode cX8_isBalanced 36 = .ok (.istore_n 1, 1) := by decide +kernel
theorem dX8_isBalanced_37 : decode cX8_isBalanced 37 = .ok (.iinc 2 1, 3) := by decide +kernel
theorem dX8_isBalanced_40 : decode cX8_isBalanced 40 = .ok (.goto (-31), 3) := by decide +kernel
theorem dX8_isBalanced_43 : decode cX8_isBalanced 43 = .ok (.iload_n 1, 1) := by decide +kernel
theorem dX8_isBalanced_44 : decode cX8_isBalanced 44 = .ok (.ireturn, 1) := by decide +kernel
theorem dX8_isCastRight_0 : decode cX8_isCastRight 0 = .ok (.iconst 1, 1) := by decide +kernel
theorem dX8_isCastRight_1 : decode cX8_isCastRight 1 = .ok (.istore_n 2, 1) := by decide +kernel
theorem dX8_isCastRight_2 : decode cX8_isCastRight 2 = .ok (.iconst 0, 1) := by decide +kernel
theorem dX8_isCastRight_3 : decode cX8_isCastRight 3 = .ok (.istore_n 3, 1) := by decide +kernel
theorem dX8_isCastRight_4 : decode cX8_isCastRight 4 = .ok (.iload_n 3, 1) := by decide +kernel
theorem dX8_isCastRight_5 : decode cX8_isCastRight 5 = .ok (.aload_n 0, 1) := by decide +kernel
theorem dX8_isCastRight_6 : decode cX8_isCastRight 6 = .ok (.getfield 7, 3) := by decide +kernel
theorem dX8_isCastRight_9 : decode cX8_isCastRight 9 = .ok (.iconst 3, 1) := by decide +kernel
theorem dX8_isCastRight_10 : decode cX8_isCastRight 10 = .ok (.iaload, 1) := by decide +kernel
theorem dX8_isCastRight_11 : decode cX8_isCastRight 11 = .ok (.if_icmp .ge 82, 3) := by decide +kernel
theorem dX8_isCastRight_14 : decode cX8_isCastRight 14 = .ok (.iconst 0, 1) := by decide +kernel
theorem dX8_isCastRight_15 : decode cX8_isCastRight 15 = .ok (.istore 4, 2) := by decide +kernel
theorem dX8_isCastRight_17 : decode cX8_isCastRight 17 = .ok (.iconst 0, 1) := by decide +kernel
theorem dX8_isCastRight_18 : decode cX8_isCastRight 18 = .ok (.istore 5, 2) := by decide +kernel
theorem dX8_isCastRight_20 : decode cX8_isCastRight 20 = .ok (.iload 5, 2) := by decide +kernel
theorem dX8_isCastRight_22 : decode cX8_isCastRight 22 = .ok (.aload_n 0, 1) := by decide +kernel
theorem dX8_isCastRight_23 : decode cX8_isCastRight 23 = .ok (.iload_n 3, 1) := by decide +kernel
theorem dX8_isCastRight_24 : decode cX8_isCastRight 24 = .ok (.iconst 4, 1) := by decide +kernel
theorem dX8_isCastRight_25 : decode cX8_isCastRight 25 = .ok (.invokevirtual 201, 3) := by decide +kernel
theorem dX8_isCastRight_28 : decode cX8_isCastRight 28 = .ok (.if_icmp .ge 59, 3) := by decide +kernel
theorem dX8_isCastRight_31 : decode cX8_isCastRight 31 = .ok (.aload_n 0, 1) := by decide +kernel
theorem dX8_isCastRight_32 : decode cX8_isCastRight 32 = .ok (.iload_n 1, 1) := by decide +kernel
theorem dX8_isCastRight_33 : decode cX8_isCastRight 33 = .ok (.iload_n 3, 1) := by decide +kernel
theorem dX8_isCastRight_34 : decode cX8_isCastRight 34 = .ok (.invokevirtual 204, 3) := by decide +kernel
theorem dX8_isCastRight_37 : decode cX8_isCastRight 37 = .ok (.ifCond .eq 50, 3) := by decide +kernel
theorem dX8_isCastRight_40 : decode cX8_isCastRight 40 = .ok (.iload_n 2, 1) := by decide +kernel
theorem dX8_isCastRight_41 : decode cX8_isCastRight 41 = .ok (.ifCond .eq 23, 3) := by decide +kernel
theorem dX8_isCastRight_44 : decode cX8_isCastRight 44 = .ok (.iload 4, 2) := by decide +kernel
theorem dX8_isCastRight_46 : decode cX8_isCastRight 46 = .ok (.aload_n 0, 1) := by decide +kernel
theorem dX8_isCastRight_47 : decode cX8_isCastRight 47 = .ok (.iload_n 1, 1) := by decide +kernel
theorem dX8_isCastRight_48 : decode cX8_isCastRight 48 = .ok (.iload_n 3, 1) := by decide +kernel
theorem dX8_isCastRight_49 : decode cX8_isCastRight 49 = .ok (.iload 5, 2) := by decide +kernel
theorem dX8_isCastRight_51 : decode cX8_isCastRight 51 = .ok (.invokevirtual 207, 3) := by decide +kernel
theorem dX8_isCastRight_54 : decode cX8_isCastRight 54 = .ok (.ishr, 1) := by decide +kernel
theorem dX8_isCastRight_55 : decode cX8_isCastRight 55 = .ok (.iconst 1, 1) := by decide +kernel
theorem dX8_isCastRight_56 : decode cX8_isCastRight 56 = .ok (.iand, 1) := by decide +kernel
theorem dX8_isCastRight_57 : decode cX8_isCastRight 57 = .ok (.ifCond .ne 7, 3) := by decide +kernel
theorem dX8_isCastRight_60 : decode cX8_isCastRight 60 = .ok (.iconst 1, 1) := by decide +kernel
theorem dX8_isCastRight_61 : decode cX8_isCastRight 61 = .ok (.goto 4, 3) := by decide +kernel
theorem dX8_isCastRight_64 : decode cX8_isCastRight 64 = .ok (.iconst 0, 1) := by decide +kernel
theorem dX8_isCastRight_65 : decode cX8_isCastRight 65 = .ok (.istore_n 2, 1) := by decide +kernel
theorem dX8_isCastRight_66 : decode cX8_isCastRight 66 = .ok (.iload 4, 2) := by decide +kernel
theorem dX8_isCastRight_68 : decode cX8_isCastRight 68 = .ok (.iconst 1, 1) := by decide +kernel
theorem dX8_isCastRight_69 : decode cX8_isCastRight 69 = .ok (.aload_n 0, 1) := by decide +kernel
theorem dX8_isCastRight_70 : decode cX8_isCastRight 70 = .ok (.iload_n 1, 1) := by decide +kernel
theorem dX8_isCastRight_71 : decode cX8_isCastRight 71 = .ok (.iload_n 3, 1) := by decide +kernel
theorem dX8_isCastRight_72 : decode cX8_isCastRight 72 = .ok (.iload 5, 2) := by decide +kernel
theorem dX8_isCastRight_74 : decode cX8_isCastRight 74 = .ok (.invokevirtual 207, 3) := by decide +kernel
theorem dX8_isCastRight_77 : decode cX8_isCastRight 77 = .ok (.ishl, 1) := by decide +kernel
theorem dX8_isCastRight_78 : decode cX8_isCastRight 78 = .ok (.ior, 1) := by decide +kernel
theorem dX8_isCastRight_79 : decode cX8_isCastRight 79 = .ok (.istore 4, 2) := by decide +kernel
theorem dX8_isCastRight_81 : decode cX8_isCastRight 81 = .ok (.iinc 5 1, 3) := by decide +kernel
theorem dX8_isCastRight_84 : decode cX8_isCastRight 84 = .ok (.goto (-64), 3) := by decide +kernel
theorem dX8_isCastRight_87 : decode cX8_isCastRight 87 = .ok (.iinc 3 1, 3) := by decide +kernel
theorem dX8_isCastRight_90 : decode cX8_isCastRight 90 = .ok (.goto (-86), 3) := by decide +kernel
theorem dX8_isCastRight_93 : decode cX8_isCastRight 93 = .ok (.iload_n 2, 1) := by decide +kernel
theorem dX8_isCastRight_94 : decode cX8_isCastRight 94 = .ok (.ireturn, 1) := by decide +kernel
theorem dX8_isWithoutClash_0 : decode cX8_isWithoutClash 0 = .ok (.aload_n 0, 1) := by decide +kernel
theorem dX8_isWithoutClash_1 : decode cX8_isWithoutClash 1 = .ok (.iconst 0, 1) := by decide +kernel
theorem dX8_isWithoutClash_2 : decode cX8_isWithoutClash 2 = .ok (.putfield 56, 3) := by decide +kernel
theorem dX8_isWithoutClash_5 : decode cX8_isWithoutClash 5 = .ok (.iconst 1, 1) := by decide +kernel
theorem dX8_isWithoutClash_6 : decode cX8_isWithoutClash 6 = .ok (.istore_n 1, 1) := by decide +kernel
theorem dX8_isWithoutClash_7 : decode cX8_isWithoutClash 7 = .ok (.iconst 0, 1) := by decide +kernel
theorem dX8_isWithoutClash_8 : decode cX8_isWithoutClash 8 = .ok (.istore_n 2, 1) := by decide +kernel
theorem dX8_isWithoutClash_9 : decode cX8_isWithoutClash 9 = .ok (.iload_n 2, 1) := by decide +kernel
theorem dX8_isWithoutClash_10 : decode cX8_isWithoutClash 10 = .ok (.aload_n 0, 1) := by decide +kernel
theorem dX8_isWithoutClash_11 : decode cX8_isWithoutClash 11 = .ok (.getfield 13, 3) := by decide +kernel
theorem dX8_isWithoutClash_14 : decode cX8_isWithoutClash 14 = .ok (.iconst 0, 1) := by decide +kernel
theorem dX8_isWithoutClash_15 : decode cX8_isWithoutClash 15 = .ok (.iaload, 1) := by decide +kernel
theorem dX8_isWithoutClash_16 : decode cX8_isWithoutClash 16 = .ok (.if_icmp .ge 79, 3) := by decide +kernel
theorem dX8_isWithoutClash_19 : decode cX8_isWithoutClash 19 = .ok (.iload_n 1, 1) := by decide +kernel
theorem dX8_isWithoutClash_20 : decode cX8_isWithoutClash 20 = .ok (.ifCond .eq 15, 3) := by decide +kernel
theorem dX8_isWithoutClash_23 : decode cX8_isWithoutClash 23 = .ok (.aload_n 0, 1) := by decide +kernel
theorem dX8_isWithoutClash_24 : decode cX8_isWithoutClash 24 = .ok (.iload_n 2, 1) := by decide +kernel
theorem dX8_isWithoutClash_25 : decode cX8_isWithoutClash 25 = .ok (.invokevirtual 321, 3) := by decide +kernel
theorem dX8_isWithoutClash_28 : decode cX8_isWithoutClash 28 = .ok (.ifCond .eq 7, 3) := by decide +kernel
theorem dX8_isWithoutClash_31 : decode cX8_isWithoutClash 31 = .ok (.iconst 1, 1) := by decide +kernel
theorem dX8_isWithoutClash_32 : decode cX8_isWithoutClash 32 = .ok (.goto 4, 3) := by decide +kernel
theorem dX8_isWithoutClash_35 : decode cX8_isWithoutClash 35 = .ok (.iconst 0, 1) := by decide +kernel
theorem dX8_isWithoutClash_36 : decode cX8_isWithoutClash 36 = .ok (.istore_n 1, 1) := by decide +kernel
theorem dX8_isWithoutClash_37 : decode cX8_isWithoutClash 37 = .ok (.iconst 0, 1) := by decide +kernel
theorem dX8_isWithoutClash_38 : decode cX8_isWithoutClash 38 = .ok (.istore_n 3, 1) := by decide +kernel
theorem dX8_isWithoutClash_39 : decode cX8_isWithoutClash 39 = .ok (.iload_n 3, 1) := by decide +kernel
theorem dX8_isWithoutClash_40 : decode cX8_isWithoutClash 40 = .ok (.iload_n 2, 1) := by decide +kernel
theorem dX8_isWithoutClash_41 : decode cX8_isWithoutClash 41 = .ok (.if_icmp .ge 48, 3) := by decide +kernel
theorem dX8_isWithoutClash_44 : decode cX8_isWithoutClash 44 = .ok (.iload_n 1, 1) := by decide +kernel
theorem dX8_isWithoutClash_45 : decode cX8_isWithoutClash 45 = .ok (.ifCond .eq 36, 3) := by decide +kernel
theorem dX8_isWithoutClash_48 : decode cX8_isWithoutClash 48 = .ok (.aload_n 0, 1) := by decide +kernel
theorem dX8_isWithoutClash_49 : decode cX8_isWithoutClash 49 = .ok (.iload_n 3, 1) := by decide +kernel
theorem dX8_isWithoutClash_50 : decode cX8_isWithoutClash 50 = .ok (.iconst 0, 1) := by decide +kernel
theorem dX8_isWithoutClash_51 : decode cX8_isWithoutClash 51 = .ok (.invokevirtual 198, 3) := by decide +kernel
theorem dX8_isWithoutClash_54 : decode cX8_isWithoutClash 54 = .ok (.aload_n 0, 1) := by decide +kernel
theorem dX8_isWithoutClash_55 : decode cX8_isWithoutClash 55 = .ok (.iload_n 2, 1) := by decide +kernel
theorem dX8_isWithoutClash_56 : decode cX8_isWithoutClash 56 = .ok (.iconst 0, 1) := by decide +kernel
theorem dX8_isWithoutClash_57 : decode cX8_isWithoutClash 57 = .ok (.invokevirtual 198, 3) := by decide +kernel
theorem dX8_isWithoutClash_60 : decode cX8_isWithoutClash 60 = .ok (.if_icmp .ne 17, 3) := by decide +kernel
theorem dX8_isWithoutClash_63 : decode cX8_isWithoutClash 63 = .ok (.aload_n 0, 1) := by decide +kernel
theorem dX8_isWithoutClash_64 : decode cX8_isWithoutClash 64 = .ok (.iload_n 3, 1) := by decide +kernel
theorem dX8_isWithoutClash_65 : decode cX8_isWithoutClash 65 = .ok (.invokevirtual 211, 3) := by decide +kernel
theorem dX8_isWithoutClash_68 : decode cX8_isWithoutClash 68 = .ok (.aload_n 0, 1) := by decide +kernel
theorem dX8_isWithoutClash_69 : decode cX8_isWithoutClash 69 = .ok (.iload_n 2, 1) := by decide +kernel
theorem dX8_isWithoutClash_70 : decode cX8_isWithoutClash 70 = .ok (.invokevirtual 211, 3) := by decide +kernel
theorem dX8_isWithoutClash_73 : decode cX8_isWithoutClash 73 = .ok (.iand, 1) := by decide +kernel
theorem dX8_isWithoutClash_74 : decode cX8_isWithoutClash 74 = .ok (.ifCond .ne 7, 3) := by decide +kernel
theorem dX8_isWithoutClash_77 : decode cX8_isWithoutClash 77 = .ok (.iconst 1, 1) := by decide +kernel
theorem dX8_isWithoutClash_78 : decode cX8_isWithoutClash 78 = .ok (.goto 4, 3) := by decide +kernel
theorem dX8_isWithoutClash_81 : decode cX8_isWithoutClash 81 = .ok (.iconst 0, 1) := by decide +kernel
theorem dX8_isWithoutClash_82 : decode cX8_isWithoutClash 82 = .ok (.istore_n 1, 1) := by decide +kernel
theorem dX8_isWithoutClash_83 : decode cX8_isWithoutClash 83 = .ok (.iinc 3 1, 3) := by decide +kernel
theorem dX8_isWithoutClash_86 : decode cX8_isWithoutClash 86 = .ok (.goto (-47), 3) := by decide +kernel
theorem dX8_isWithoutClash_89 : decode cX8_isWithoutClash 89 = .ok (.iinc 2 1, 3) := by decide +kernel
theorem dX8_isWithoutClash_92 : decode cX8_isWithoutClash 92 = .ok (.goto (-83), 3) := by decide +kernel
theorem dX8_isWithoutClash_95 : decode cX8_isWithoutClash 95 = .ok (.iload_n 1, 1) := by decide +kernel
theorem dX8_isWithoutClash_96 : decode cX8_isWithoutClash 96 = .ok (.ireturn, 1) := by decide +kernel
theorem dX8_busiest_0 : decode cX8_busiest 0 = .ok (.aload_n 0, 1) := by decide +kernel
theorem dX8_busiest_1 : decode cX8_busiest 1 = .ok (.iconst 0, 1) := by decide +kernel
theorem dX8_busiest_2 : decode cX8_busiest 2 = .ok (.putfield 56, 3) := by decide +kernel
theorem dX8_busiest_5 : decode cX8_busiest 5 = .ok (.iconst (-1), 1) := by decide +kernel
theorem dX8_busiest_6 : decode cX8_busiest 6 = .ok (.istore_n 1, 1) := by decide +kernel
theorem dX8_busiest_7 : decode cX8_busiest 7 = .ok (.iconst 0, 1) := by decide +kernel
theorem dX8_busiest_8 : decode cX8_busiest 8 = .ok (.istore_n 2, 1) := by decide +kernel
theorem dX8_busiest_9 : decode cX8_busiest 9 = .ok (.iload_n 2, 1) := by decide +kernel
theorem dX8_busiest_10 : decode cX8_busiest 10 = .ok (.aload_n 0, 1) := by decide +kernel
theorem dX8_busiest_11 : decode cX8_busiest 11 = .ok (.getfield 7, 3) := by decide +kernel
theorem dX8_busiest_14 : decode cX8_busiest 14 = .ok (.iconst 2, 1) := by decide +kernel
theorem dX8_busiest_15 : decode cX8_busiest 15 = .ok (.iaload, 1) := by decide +kernel
theorem dX8_busiest_16 : decode cX8_busiest 16 = .ok (.if_icmp .ge 33, 3) := by decide +kernel
theorem dX8_busiest_19 : decode cX8_busiest 19 = .ok (.iload_n 1, 1) := by decide +kernel
theorem dX8_busiest_20 : decode cX8_busiest 20 = .ok (.iconst (-1), 1) := by decide +kernel
theorem dX8_busiest_21 : decode cX8_busiest 21 = .ok (.if_icmp .eq 16, 3) := by decide +kernel
theorem dX8_busiest_24 : decode cX8_busiest 24 = .ok (.aload_n 0, 1) := by decide +kernel
theorem dX8_busiest_25 : decode cX8_busiest 25 = .ok (.iload_n 2, 1) := by decide +kernel
theorem dX8_busiest_26 : decode cX8_busiest 26 = .ok (.invokevirtual 258, 3) := by decide +kernel
theorem dX8_busiest_29 : decode cX8_busiest 29 = .ok (.aload_n 0, 1) := by decide +kernel
theorem dX8_busiest_30 : decode cX8_busiest 30 = .ok (.iload_n 1, 1) := by decide +kernel
theorem dX8_busiest_31 : decode cX8_busiest 31 = .ok (.invokevirtual 258, 3) := by decide +kernel
theorem dX8_busiest_34 : decode cX8_busiest 34 = .ok (.if_icmp .le 7, 3) := by decide +kernel
theorem dX8_busiest_37 : decode cX8_busiest 37 = .ok (.iload_n 2, 1) := by decide +kernel
theorem dX8_busiest_38 : decode cX8_busiest 38 = .ok (.goto 4, 3) := by decide +kernel
theorem dX8_busiest_41 : decode cX8_busiest 41 = .ok (.iload_n 1, 1) := by decide +kernel
theorem dX8_busiest_42 : decode cX8_busiest 42 = .ok (.istore_n 1, 1) := by decide +kernel
theorem dX8_busiest_43 : decode cX8_busiest 43 = .ok (.iinc 2 1, 3) := by decide +kernel
theorem dX8_busiest_46 : decode cX8_busiest 46 = .ok (.goto (-37), 3) := by decide +kernel
theorem dX8_busiest_49 : decode cX8_busiest 49 = .ok (.iload_n 1, 1) := by decide +kernel
theorem dX8_busiest_50 : decode cX8_busiest 50 = .ok (.ireturn, 1) := by decide +kernel
theorem dX8_rehearse_0 : decode cX8_rehearse 0 = .ok (.aload_n 0, 1) := by decide +kernel
theorem dX8_rehearse_1 : decode cX8_rehearse 1 = .ok (.iload_n 1, 1) := by decide +kernel
theorem dX8_rehearse_2 : decode cX8_rehearse 2 = .ok (.iload_n 2, 1) := by decide +kernel
theorem dX8_rehearse_3 : decode cX8_rehearse 3 = .ok (.invokevirtual 285, 3) := by decide +kernel
theorem dX8_rehearse_6 : decode cX8_rehearse 6 = .ok (.ifCond .ne 43, 3) := by decide +kernel
theorem dX8_rehearse_9 : decode cX8_rehearse 9 = .ok (.aload_n 0, 1) := by decide +kernel
theorem dX8_rehearse_10 : decode cX8_rehearse 10 = .ok (.iload_n 3, 1) := by decide +kernel
theorem dX8_rehearse_11 : decode cX8_rehearse 11 = .ok (.aload_n 0, 1) := by decide +kernel
theorem dX8_rehearse_12 : decode cX8_rehearse 12 = .ok (.getfield 7, 3) := by decide +kernel
theorem dX8_rehearse_15 : decode cX8_rehearse 15 = .ok (.iconst 3, 1) := by decide +kernel
theorem dX8_rehearse_16 : decode cX8_rehearse 16 = .ok (.iaload, 1) := by decide +kernel
theorem dX8_rehearse_17 : decode cX8_rehearse 17 = .ok (.invokevirtual 249, 3) := by decide +kernel
theorem dX8_rehearse_20 : decode cX8_rehearse 20 = .ok (.ifCond .ne 29, 3) := by decide +kernel
theorem dX8_rehearse_23 : decode cX8_rehearse 23 = .ok (.aload_n 0, 1) := by decide +kernel
theorem dX8_rehearse_24 : decode cX8_rehearse 24 = .ok (.aload_n 0, 1) := by decide +kernel
theorem dX8_rehearse_25 : decode cX8_rehearse 25 = .ok (.iload_n 1, 1) := by decide +kernel
theorem dX8_rehearse_26 : decode cX8_rehearse 26 = .ok (.iload_n 2, 1) := by decide +kernel
theorem dX8_rehearse_27 : decode cX8_rehearse 27 = .ok (.iconst 1, 1) := by decide +kernel
theorem dX8_rehearse_28 : decode cX8_rehearse 28 = .ok (.iload_n 3, 1) := by decide +kernel
theorem dX8_rehearse_29 : decode cX8_rehearse 29 = .ok (.ishl, 1) := by decide +kernel
theorem dX8_rehearse_30 : decode cX8_rehearse 30 = .ok (.iconst 0, 1) := by decide +kernel
theorem dX8_rehearse_31 : decode cX8_rehearse 31 = .ok (.invokevirtual 294, 3) := by decide +kernel
theorem dX8_rehearse_34 : decode cX8_rehearse 34 = .ok (.ifCond .eq 7, 3) := by decide +kernel
theorem dX8_rehearse_37 : decode cX8_rehearse 37 = .ok (.iconst 1, 1) := by decide +kernel
theorem dX8_rehearse_38 : decode cX8_rehearse 38 = .ok (.goto 4, 3) := by decide +kernel
theorem dX8_rehearse_41 : decode cX8_rehearse 41 = .ok (.iconst 0, 1) := by decide +kernel
theorem dX8_rehearse_42 : decode cX8_rehearse 42 = .ok (.iconst 2, 1) := by decide +kernel
theorem dX8_rehearse_43 : decode cX8_rehearse 43 = .ok (.invokevirtual 176, 3) := by decide +kernel
theorem dX8_rehearse_46 : decode cX8_rehearse 46 = .ok (.ifCond .eq 5, 3) := by decide +kernel
theorem dX8_rehearse_49 : decode cX8_rehearse 49 = .ok (.iconst 0, 1) := by decide +kernel
theorem dX8_rehearse_50 : decode cX8_rehearse 50 = .ok (.ireturn, 1) := by decide +kernel
theorem dX8_rehearse_51 : decode cX8_rehearse 51 = .ok (.aload_n 0, 1) := by decide +kernel
theorem dX8_rehearse_52 : decode cX8_rehearse 52 = .ok (.invokevirtual 324, 3) := by decide +kernel
theorem dX8_rehearse_55 : decode cX8_rehearse 55 = .ok (.aload_n 0, 1) := by decide +kernel
theorem dX8_rehearse_56 : decode cX8_rehearse 56 = .ok (.iload_n 1, 1) := by decide +kernel
theorem dX8_rehearse_57 : decode cX8_rehearse 57 = .ok (.iload_n 2, 1) := by decide +kernel
theorem dX8_rehearse_58 : decode cX8_rehearse 58 = .ok (.iconst 1, 1) := by decide +kernel
theorem dX8_rehearse_59 : decode cX8_rehearse 59 = .ok (.iload_n 3, 1) := by decide +kernel
theorem dX8_rehearse_60 : decode cX8_rehearse 60 = .ok (.ishl, 1) := by decide +kernel
theorem dX8_rehearse_61 : decode cX8_rehearse 61 = .ok (.iconst 0, 1) := by decide +kernel
theorem dX8_rehearse_62 : decode cX8_rehearse 62 = .ok (.invokevirtual 301, 3) := by decide +kernel
theorem dX8_rehearse_65 : decode cX8_rehearse 65 = .ok (.ireturn, 1) := by decide +kernel
theorem dX8_concert_0 : decode cX8_concert 0 = .ok (.aload_n 0, 1) := by decide +kernel
theorem dX8_concert_1 : decode cX8_concert 1 = .ok (.iload_n 1, 1) := by decide +kernel
theorem dX8_concert_2 : decode cX8_concert 2 = .ok (.iload_n 2, 1) := by decide +kernel
theorem dX8_concert_3 : decode cX8_concert 3 = .ok (.invokevirtual 285, 3) := by decide +kernel
theorem dX8_concert_6 : decode cX8_concert 6 = .ok (.ifCond .ne 36, 3) := by decide +kernel
theorem dX8_concert_9 : decode cX8_concert 9 = .ok (.aload_n 0, 1) := by decide +kernel
theorem dX8_concert_10 : decode cX8_concert 10 = .ok (.iload_n 3, 1) := by decide +kernel
theorem dX8_concert_11 : decode cX8_concert 11 = .ok (.iconst 1, 1) := by decide +kernel
theorem dX8_concert_12 : decode cX8_concert 12 = .ok (.invokevirtual 291, 3) := by decide +kernel
theorem dX8_concert_15 : decode cX8_concert 15 = .ok (.ifCond .ne 27, 3) := by decide +kernel
theorem dX8_concert_18 : decode cX8_concert 18 = .ok (.aload_n 0, 1) := by decide +kernel
theorem dX8_concert_19 : decode cX8_concert 19 = .ok (.aload_n 0, 1) := by decide +kernel
theorem dX8_concert_20 : decode cX8_concert 20 = .ok (.iload_n 1, 1) := by decide +kernel
theorem dX8_concert_21 : decode cX8_concert 21 = .ok (.iload_n 2, 1) := by decide +kernel
theorem dX8_concert_22 : decode cX8_concert 22 = .ok (.iload_n 3, 1) := by decide +kernel
theorem dX8_concert_23 : decode cX8_concert 23 = .ok (.iconst 1, 1) := by decide +kernel
theorem dX8_concert_24 : decode cX8_concert 24 = .ok (.invokevirtual 294, 3) := by decide +kernel
theorem dX8_concert_27 : decode cX8_concert 27 = .ok (.ifCond .eq 7, 3) := by decide +kernel
theorem dX8_concert_30 : decode cX8_concert 30 = .ok (.iconst 1, 1) := by decide +kernel
theorem dX8_concert_31 : decode cX8_concert 31 = .ok (.goto 4, 3) := by decide +kernel
theorem dX8_concert_34 : decode cX8_concert 34 = .ok (.iconst 0, 1) := by decide +kernel
theorem dX8_concert_35 : decode cX8_concert 35 = .ok (.iconst 3, 1) := by decide +kernel
theorem dX8_concert_36 : decode cX8_concert 36 = .ok (.invokevirtual 176, 3) := by decide +kernel
theorem dX8_concert_39 : decode cX8_concert 39 = .ok (.ifCond .eq 5, 3) := by decide +kernel
theorem dX8_concert_42 : decode cX8_concert 42 = .ok (.iconst 0, 1) := by decide +kernel
theorem dX8_concert_43 : decode cX8_concert 43 = .ok (.ireturn, 1) := by decide +kernel
theorem dX8_concert_44 : decode cX8_concert 44 = .ok (.aload_n 0, 1) := by decide +kernel
theorem dX8_concert_45 : decode cX8_concert 45 = .ok (.invokevirtual 324, 3) := by decide +kernel
theorem dX8_concert_48 : decode cX8_concert 48 = .ok (.aload_n 0, 1) := by decide +kernel
theorem dX8_concert_49 : decode cX8_concert 49 = .ok (.iload_n 1, 1) := by decide +kernel
theorem dX8_concert_50 : decode cX8_concert 50 = .ok (.iload_n 2, 1) := by decide +kernel
theorem dX8_concert_51 : decode cX8_concert 51 = .ok (.iload_n 3, 1) := by decide +kernel
theorem dX8_concert_52 : decode cX8_concert 52 = .ok (.iconst 1, 1) := by decide +kernel
theorem dX8_concert_53 : decode cX8_concert 53 = .ok (.invokevirtual 301, 3) := by decide +kernel
theorem dX8_concert_56 : decode cX8_concert 56 = .ok (.ireturn, 1) := by decide +kernel
theorem dX8_cancel_0 : decode cX8_cancel 0 = .ok (.aload_n 0, 1) := by decide +kernel
theorem dX8_cancel_1 : decode cX8_cancel 1 = .ok (.iload_n 1, 1) := by decide +kernel
theorem dX8_cancel_2 : decode cX8_cancel 2 = .ok (.invokevirtual 282, 3) := by decide +kernel
theorem dX8_cancel_5 : decode cX8_cancel 5 = .ok (.ifCond .eq 5, 3) := by decide +kernel
theorem dX8_cancel_8 : decode cX8_cancel 8 = .ok (.iconst 0, 1) := by decide +kernel
theorem dX8_cancel_9 : decode cX8_cancel 9 = .ok (.ireturn, 1) := by decide +kernel
theorem dX8_cancel_10 : decode cX8_cancel 10 = .ok (.aload_n 0, 1) := by decide +kernel
theorem dX8_cancel_11 : decode cX8_cancel 11 = .ok (.aload_n 0, 1) := by decide +kernel
theorem dX8_cancel_12 : decode cX8_cancel 12 = .ok (.getfield 13, 3) := by decide +kernel
theorem dX8_cancel_15 : decode cX8_cancel 15 = .ok (.aload_n 0, 1) := by decide +kernel
theorem dX8_cancel_16 : decode cX8_cancel 16 = .ok (.getfield 43, 3) := by decide +kernel
theorem dX8_cancel_19 : decode cX8_cancel 19 = .ok (.invokevirtual 311, 3) := by decide +kernel
theorem dX8_cancel_22 : decode cX8_cancel 22 = .ok (.aload_n 0, 1) := by decide +kernel
theorem dX8_cancel_23 : decode cX8_cancel 23 = .ok (.iload_n 1, 1) := by decide +kernel
theorem dX8_cancel_24 : decode cX8_cancel 24 = .ok (.invokevirtual 298, 3) := by decide +kernel
theorem dX8_cancel_27 : decode cX8_cancel 27 = .ok (.aload_n 0, 1) := by decide +kernel
theorem dX8_cancel_28 : decode cX8_cancel 28 = .ok (.invokevirtual 308, 3) := by decide +kernel
theorem dX8_cancel_31 : decode cX8_cancel 31 = .ok (.istore_n 2, 1) := by decide +kernel
theorem dX8_cancel_32 : decode cX8_cancel 32 = .ok (.aload_n 0, 1) := by decide +kernel
theorem dX8_cancel_33 : decode cX8_cancel 33 = .ok (.aload_n 0, 1) := by decide +kernel
theorem dX8_cancel_34 : decode cX8_cancel 34 = .ok (.getfield 43, 3) := by decide +kernel
theorem dX8_cancel_37 : decode cX8_cancel 37 = .ok (.aload_n 0, 1) := by decide +kernel
theorem dX8_cancel_38 : decode cX8_cancel 38 = .ok (.getfield 13, 3) := by decide +kernel
theorem dX8_cancel_41 : decode cX8_cancel 41 = .ok (.invokevirtual 311, 3) := by decide +kernel
theorem dX8_cancel_44 : decode cX8_cancel 44 = .ok (.aload_n 0, 1) := by decide +kernel
theorem dX8_cancel_45 : decode cX8_cancel 45 = .ok (.iload_n 2, 1) := by decide +kernel
theorem dX8_cancel_46 : decode cX8_cancel 46 = .ok (.ifCond .ne 7, 3) := by decide +kernel
theorem dX8_cancel_49 : decode cX8_cancel 49 = .ok (.iconst 1, 1) := by decide +kernel
theorem dX8_cancel_50 : decode cX8_cancel 50 = .ok (.goto 4, 3) := by decide +kernel
theorem dX8_cancel_53 : decode cX8_cancel 53 = .ok (.iconst 0, 1) := by decide +kernel
theorem dX8_cancel_54 : decode cX8_cancel 54 = .ok (.iconst 2, 1) := by decide +kernel
theorem dX8_cancel_55 : decode cX8_cancel 55 = .ok (.invokevirtual 176, 3) := by decide +kernel
theorem dX8_cancel_58 : decode cX8_cancel 58 = .ok (.ifCond .eq 5, 3) := by decide +kernel
theorem dX8_cancel_61 : decode cX8_cancel 61 = .ok (.iconst 0, 1) := by decide +kernel
theorem dX8_cancel_62 : decode cX8_cancel 62 = .ok (.ireturn, 1) := by decide +kernel
theorem dX8_cancel_63 : decode cX8_cancel 63 = .ok (.aload_n 0, 1) := by decide +kernel
theorem dX8_cancel_64 : decode cX8_cancel 64 = .ok (.invokevirtual 324, 3) := by decide +kernel
theorem dX8_cancel_67 : decode cX8_cancel 67 = .ok (.aload_n 0, 1) := by decide +kernel
theorem dX8_cancel_68 : decode cX8_cancel 68 = .ok (.iload_n 1, 1) := by decide +kernel
theorem dX8_cancel_69 : decode cX8_cancel 69 = .ok (.invokevirtual 298, 3) := by decide +kernel
theorem dX8_cancel_72 : decode cX8_cancel 72 = .ok (.aload_n 0, 1) := by decide +kernel
theorem dX8_cancel_73 : decode cX8_cancel 73 = .ok (.getfield 13, 3) := by decide +kernel
theorem dX8_cancel_76 : decode cX8_cancel 76 = .ok (.iconst 0, 1) := by decide +kernel
theorem dX8_cancel_77 : decode cX8_cancel 77 = .ok (.iaload, 1) := by decide +kernel
theorem dX8_cancel_78 : decode cX8_cancel 78 = .ok (.ireturn, 1) := by decide +kernel
theorem dX8_move_0 : decode cX8_move 0 = .ok (.aload_n 0, 1) := by decide +kernel
theorem dX8_move_1 : decode cX8_move 1 = .ok (.iload_n 1, 1) := by decide +kernel
theorem dX8_move_2 : decode cX8_move 2 = .ok (.invokevirtual 282, 3) := by decide +kernel
theorem dX8_move_5 : decode cX8_move 5 = .ok (.ifCond .ne 15, 3) := by decide +kernel
theorem dX8_move_8 : decode cX8_move 8 = .ok (.aload_n 0, 1) := by decide +kernel
theorem dX8_move_9 : decode cX8_move 9 = .ok (.iload_n 2, 1) := by decide +kernel
theorem dX8_move_10 : decode cX8_move 10 = .ok (.aload_n 0, 1) := by decide +kernel
theorem dX8_move_11 : decode cX8_move 11 = .ok (.invokevirtual 273, 3) := by decide +kernel
theorem dX8_move_14 : decode cX8_move 14 = .ok (.invokevirtual 249, 3) := by decide +kernel
theorem dX8_move_17 : decode cX8_move 17 = .ok (.ifCond .eq 5, 3) := by decide +kernel
theorem dX8_move_20 : decode cX8_move 20 = .ok (.iconst 0, 1) := by decide +kernel
theorem dX8_move_21 : decode cX8_move 21 = .ok (.ireturn, 1) := by decide +kernel
theorem dX8_move_22 : decode cX8_move 22 = .ok (.aload_n 0, 1) := by decide +kernel
theorem dX8_move_23 : decode cX8_move 23 = .ok (.aload_n 0, 1) := by decide +kernel
theorem dX8_move_24 : decode cX8_move 24 = .ok (.getfield 13, 3) := by decide +kernel
theorem dX8_move_27 : decode cX8_move 27 = .ok (.aload_n 0, 1) := by decide +kernel
theorem dX8_move_28 : decode cX8_move 28 = .ok (.getfield 43, 3) := by decide +kernel
theorem dX8_move_31 : decode cX8_move 31 = .ok (.invokevirtual 311, 3) := by decide +kernel
theorem dX8_move_34 : decode cX8_move 34 = .ok (.aload_n 0, 1) := by decide +kernel
theorem dX8_move_35 : decode cX8_move 35 = .ok (.iload_n 1, 1) := by decide +kernel
theorem dX8_move_36 : decode cX8_move 36 = .ok (.iload_n 2, 1) := by decide +kernel
theorem dX8_move_37 : decode cX8_move 37 = .ok (.invokevirtual 315, 3) := by decide +kernel
theorem dX8_move_40 : decode cX8_move 40 = .ok (.istore_n 3, 1) := by decide +kernel
theorem dX8_move_41 : decode cX8_move 41 = .ok (.aload_n 0, 1) := by decide +kernel
theorem dX8_move_42 : decode cX8_move 42 = .ok (.aload_n 0, 1) := by decide +kernel
theorem dX8_move_43 : decode cX8_move 43 = .ok (.getfield 43, 3) := by decide +kernel
theorem dX8_move_46 : decode cX8_move 46 = .ok (.aload_n 0, 1) := by decide +kernel
theorem dX8_move_47 : decode cX8_move 47 = .ok (.getfield 13, 3) := by decide +kernel
theorem dX8_move_50 : decode cX8_move 50 = .ok (.invokevirtual 311, 3) := by decide +kernel
theorem dX8_move_53 : decode cX8_move 53 = .ok (.aload_n 0, 1) := by decide +kernel
theorem dX8_move_54 : decode cX8_move 54 = .ok (.iload_n 3, 1) := by decide +kernel
theorem dX8_move_55 : decode cX8_move 55 = .ok (.ifCond .eq 7, 3) := by decide +kernel
theorem dX8_move_58 : decode cX8_move 58 = .ok (.iconst 1, 1) := by decide +kernel
theorem dX8_move_59 : decode cX8_move 59 = .ok (.goto 4, 3) := by decide +kernel
theorem dX8_move_62 : decode cX8_move 62 = .ok (.iconst 0, 1) := by decide +kernel
theorem dX8_move_63 : decode cX8_move 63 = .ok (.iconst 2, 1) := by decide +kernel
theorem dX8_move_64 : decode cX8_move 64 = .ok (.invokevirtual 176, 3) := by decide +kernel
theorem dX8_move_67 : decode cX8_move 67 = .ok (.ifCond .eq 5, 3) := by decide +kernel
theorem dX8_move_70 : decode cX8_move 70 = .ok (.iconst 0, 1) := by decide +kernel
theorem dX8_move_71 : decode cX8_move 71 = .ok (.ireturn, 1) := by decide +kernel
theorem dX8_move_72 : decode cX8_move 72 = .ok (.aload_n 0, 1) := by decide +kernel
theorem dX8_move_73 : decode cX8_move 73 = .ok (.invokevirtual 324, 3) := by decide +kernel
theorem dX8_move_76 : decode cX8_move 76 = .ok (.aload_n 0, 1) := by decide +kernel
theorem dX8_move_77 : decode cX8_move 77 = .ok (.iload_n 1, 1) := by decide +kernel
theorem dX8_move_78 : decode cX8_move 78 = .ok (.iload_n 2, 1) := by decide +kernel
theorem dX8_move_79 : decode cX8_move 79 = .ok (.invokevirtual 315, 3) := by decide +kernel
theorem dX8_move_82 : decode cX8_move 82 = .ok (.istore 4, 2) := by decide +kernel
theorem dX8_move_84 : decode cX8_move 84 = .ok (.aload_n 0, 1) := by decide +kernel
theorem dX8_move_85 : decode cX8_move 85 = .ok (.getfield 305, 3) := by decide +kernel
theorem dX8_move_88 : decode cX8_move 88 = .ok (.ireturn, 1) := by decide +kernel
theorem dX8_recast_0 : decode cX8_recast 0 = .ok (.aload_n 0, 1) := by decide +kernel
theorem dX8_recast_1 : decode cX8_recast 1 = .ok (.iload_n 1, 1) := by decide +kernel
theorem dX8_recast_2 : decode cX8_recast 2 = .ok (.invokevirtual 282, 3) := by decide +kernel
theorem dX8_recast_5 : decode cX8_recast 5 = .ok (.ifCond .eq 5, 3) := by decide +kernel
theorem dX8_recast_8 : decode cX8_recast 8 = .ok (.iconst 0, 1) := by decide +kernel
theorem dX8_recast_9 : decode cX8_recast 9 = .ok (.ireturn, 1) := by decide +kernel
theorem dX8_recast_10 : decode cX8_recast 10 = .ok (.aload_n 0, 1) := by decide +kernel
theorem dX8_recast_11 : decode cX8_recast 11 = .ok (.invokevirtual 324, 3) := by decide +kernel
theorem dX8_recast_14 : decode cX8_recast 14 = .ok (.aload_n 0, 1) := by decide +kernel
theorem dX8_recast_15 : decode cX8_recast 15 = .ok (.iload_n 1, 1) := by decide +kernel
theorem dX8_recast_16 : decode cX8_recast 16 = .ok (.iconst 1, 1) := by decide +kernel
theorem dX8_recast_17 : decode cX8_recast 17 = .ok (.invokevirtual 198, 3) := by decide +kernel
theorem dX8_recast_20 : decode cX8_recast 20 = .ok (.istore_n 2, 1) := by decide +kernel
theorem dX8_recast_21 : decode cX8_recast 21 = .ok (.aload_n 0, 1) := by decide +kernel
theorem dX8_recast_22 : decode cX8_recast 22 = .ok (.iload_n 1, 1) := by decide +kernel
theorem dX8_recast_23 : decode cX8_recast 23 = .ok (.iconst 0, 1) := by decide +kernel
theorem dX8_recast_24 : decode cX8_recast 24 = .ok (.invokevirtual 198, 3) := by decide +kernel
theorem dX8_recast_27 : decode cX8_recast 27 = .ok (.istore_n 3, 1) := by decide +kernel
theorem dX8_recast_28 : decode cX8_recast 28 = .ok (.aload_n 0, 1) := by decide +kernel
theorem dX8_recast_29 : decode cX8_recast 29 = .ok (.iload_n 1, 1) := by decide +kernel
theorem dX8_recast_30 : decode cX8_recast 30 = .ok (.iconst 3, 1) := by decide +kernel
theorem dX8_recast_31 : decode cX8_recast 31 = .ok (.invokevirtual 198, 3) := by decide +kernel
theorem dX8_recast_34 : decode cX8_recast 34 = .ok (.istore 4, 2) := by decide +kernel
theorem dX8_recast_36 : decode cX8_recast 36 = .ok (.aload_n 0, 1) := by decide +kernel
theorem dX8_recast_37 : decode cX8_recast 37 = .ok (.iload_n 1, 1) := by decide +kernel
theorem dX8_recast_38 : decode cX8_recast 38 = .ok (.iconst 2, 1) := by decide +kernel
theorem dX8_recast_39 : decode cX8_recast 39 = .ok (.invokevirtual 198, 3) := by decide +kernel
theorem dX8_recast_42 : decode cX8_recast 42 = .ok (.istore 5, 2) := by decide +kernel
theorem dX8_recast_44 : decode cX8_recast 44 = .ok (.aload_n 0, 1) := by decide +kernel
theorem dX8_recast_45 : decode cX8_recast 45 = .ok (.iload_n 1, 1) := by decide +kernel
theorem dX8_recast_46 : decode cX8_recast 46 = .ok (.invokevirtual 298, 3) := by decide +kernel
theorem dX8_recast_49 : decode cX8_recast 49 = .ok (.aload_n 0, 1) := by decide +kernel
theorem dX8_recast_50 : decode cX8_recast 50 = .ok (.aload_n 0, 1) := by decide +kernel
theorem dX8_recast_51 : decode cX8_recast 51 = .ok (.iload_n 2, 1) := by decide +kernel
theorem dX8_recast_52 : decode cX8_recast 52 = .ok (.iload_n 3, 1) := by decide +kernel
theorem dX8_recast_53 : decode cX8_recast 53 = .ok (.iload 4, 2) := by decide +kernel
theorem dX8_recast_55 : decode cX8_recast 55 = .ok (.iload 5, 2) := by decide +kernel
theorem dX8_recast_57 : decode cX8_recast 57 = .ok (.invokevirtual 301, 3) := by decide +kernel
theorem dX8_recast_60 : decode cX8_recast 60 = .ok (.iconst (-1), 1) := by decide +kernel
theorem dX8_recast_61 : decode cX8_recast 61 = .ok (.invokevirtual 252, 3) := by decide +kernel
theorem dX8_recast_64 : decode cX8_recast 64 = .ok (.ireturn, 1) := by decide +kernel
theorem dX8_setContract_0 : decode cX8_setContract 0 = .ok (.aload_n 0, 1) := by decide +kernel
theorem dX8_setContract_1 : decode cX8_setContract 1 = .ok (.iconst 0, 1) := by decide +kernel
theorem dX8_setContract_2 : decode cX8_setContract 2 = .ok (.putfield 56, 3) := by decide +kernel
theorem dX8_setContract_5 : decode cX8_setContract 5 = .ok (.aload_n 0, 1) := by decide +kernel
theorem dX8_setContract_6 : decode cX8_setContract 6 = .ok (.iload_n 1, 1) := by decide +kernel
theorem dX8_setContract_7 : decode cX8_setContract 7 = .ok (.aload_n 0, 1) := by decide +kernel
theorem dX8_setContract_8 : decode cX8_setContract 8 = .ok (.getfield 7, 3) := by decide +kernel
theorem dX8_setContract_11 : decode cX8_setContract 11 = .ok (.iconst 2, 1) := by decide +kernel
theorem dX8_setContract_12 : decode cX8_setContract 12 = .ok (.iaload, 1) := by decide +kernel
theorem dX8_setContract_13 : decode cX8_setContract 13 = .ok (.invokevirtual 249, 3) := by decide +kernel
theorem dX8_setContract_16 : decode cX8_setContract 16 = .ok (.ifCond .ne 26, 3) := by decide +kernel
theorem dX8_setContract_19 : decode cX8_setContract 19 = .ok (.aload_n 0, 1) := by decide +kernel
theorem dX8_setContract_20 : decode cX8_setContract 20 = .ok (.iload_n 2, 1) := by decide +kernel
theorem dX8_setContract_21 : decode cX8_setContract 21 = .ok (.iconst 0, 1) := by decide +kernel
theorem dX8_setContract_22 : decode cX8_setContract 22 = .ok (.bipush 40, 2) := by decide +kernel
theorem dX8_setContract_24 : decode cX8_setContract 24 = .ok (.invokestatic 80, 3) := by decide +kernel
theorem dX8_setContract_27 : decode cX8_setContract 27 = .ok (.ifCond .ne 7, 3) := by decide +kernel
theorem dX8_setContract_30 : decode cX8_setContract 30 = .ok (.iconst 1, 1) := by decide +kernel
theorem dX8_setContract_31 : decode cX8_setContract 31 = .ok (.goto 4, 3) := by decide +kernel
theorem dX8_setContract_34 : decode cX8_setContract 34 = .ok (.iconst 0, 1) := by decide +kernel
theorem dX8_setContract_35 : decode cX8_setContract 35 = .ok (.iconst 2, 1) := by decide +kernel
theorem dX8_setContract_36 : decode cX8_setContract 36 = .ok (.invokevirtual 176, 3) := by decide +kernel
theorem dX8_setContract_39 : decode cX8_setContract 39 = .ok (.ifCond .eq 5, 3) := by decide +kernel
theorem dX8_setContract_42 : decode cX8_setContract 42 = .ok (.iconst 0, 1) := by decide +kernel
theorem dX8_setContract_43 : decode cX8_setContract 43 = .ok (.ireturn, 1) := by decide +kernel
theorem dX8_setContract_44 : decode cX8_setContract 44 = .ok (.aload_n 0, 1) := by decide +kernel
theorem dX8_setContract_45 : decode cX8_setContract 45 = .ok (.invokevirtual 324, 3) := by decide +kernel
theorem dX8_setContract_48 : decode cX8_setContract 48 = .ok (.aload_n 0, 1) := by decide +kernel
theorem dX8_setContract_49 : decode cX8_setContract 49 = .ok (.getfield 13, 3) := by decide +kernel
theorem dX8_setContract_52 : decode cX8_setContract 52 = .ok (.iconst 1, 1) := by decide +kernel
theorem dX8_setContract_53 : decode cX8_setContract 53 = .ok (.iload_n 1, 1) := by decide +kernel
theorem dX8_setContract_54 : decode cX8_setContract 54 = .ok (.iadd, 1) := by decide +kernel
theorem dX8_setContract_55 : decode cX8_setContract 55 = .ok (.iaload, 1) := by decide +kernel
theorem dX8_setContract_56 : decode cX8_setContract 56 = .ok (.istore_n 3, 1) := by decide +kernel
theorem dX8_setContract_57 : decode cX8_setContract 57 = .ok (.aload_n 0, 1) := by decide +kernel
theorem dX8_setContract_58 : decode cX8_setContract 58 = .ok (.getfield 13, 3) := by decide +kernel
theorem dX8_setContract_61 : decode cX8_setContract 61 = .ok (.iconst 1, 1) := by decide +kernel
theorem dX8_setContract_62 : decode cX8_setContract 62 = .ok (.iload_n 1, 1) := by decide +kernel
theorem dX8_setContract_63 : decode cX8_setContract 63 = .ok (.iadd, 1) := by decide +kernel
theorem dX8_setContract_64 : decode cX8_setContract 64 = .ok (.iload_n 2, 1) := by decide +kernel
theorem dX8_setContract_65 : decode cX8_setContract 65 = .ok (.iastore, 1) := by decide +kernel
theorem dX8_setContract_66 : decode cX8_setContract 66 = .ok (.iload_n 3, 1) := by decide +kernel
theorem dX8_setContract_67 : decode cX8_setContract 67 = .ok (.ireturn, 1) := by decide +kernel
theorem dX8_copies_0 : decode cX8_copies 0 = .ok (.iconst 0, 1) := by decide +kernel
theorem dX8_copies_1 : decode cX8_copies 1 = .ok (.istore 4, 2) := by decide +kernel
theorem dX8_copies_3 : decode cX8_copies 3 = .ok (.iload 4, 2) := by decide +kernel
theorem dX8_copies_5 : decode cX8_copies 5 = .ok (.sipush 689, 3) := by decide +kernel
theorem dX8_copies_8 : decode cX8_copies 8 = .ok (.if_icmp .ge 21, 3) := by decide +kernel
theorem dX8_copies_11 : decode cX8_copies 11 = .ok (.aload_n 2, 1) := by decide +kernel
theorem dX8_copies_12 : decode cX8_copies 12 = .ok (.iload_n 3, 1) := by decide +kernel
theorem dX8_copies_13 : decode cX8_copies 13 = .ok (.iload 4, 2) := by decide +kernel
theorem dX8_copies_15 : decode cX8_copies 15 = .ok (.iadd, 1) := by decide +kernel
theorem dX8_copies_16 : decode cX8_copies 16 = .ok (.aload_n 0, 1) := by decide +kernel
theorem dX8_copies_17 : decode cX8_copies 17 = .ok (.iload_n 1, 1) := by decide +kernel
theorem dX8_copies_18 : decode cX8_copies 18 = .ok (.iload 4, 2) := by decide +kernel
theorem dX8_copies_20 : decode cX8_copies 20 = .ok (.iadd, 1) := by decide +kernel
theorem dX8_copies_21 : decode cX8_copies 21 = .ok (.iaload, 1) := by decide +kernel
theorem dX8_copies_22 : decode cX8_copies 22 = .ok (.iastore, 1) := by decide +kernel
theorem dX8_copies_23 : decode cX8_copies 23 = .ok (.iinc 4 1, 3) := by decide +kernel
theorem dX8_copies_26 : decode cX8_copies 26 = .ok (.goto (-23), 3) := by decide +kernel
theorem dX8_copies_29 : decode cX8_copies 29 = .ok (.return_, 1) := by decide +kernel
theorem dX8_keeps_0 : decode cX8_keeps 0 = .ok (.aload_n 0, 1) := by decide +kernel
theorem dX8_keeps_1 : decode cX8_keeps 1 = .ok (.getfield 191, 3) := by decide +kernel
theorem dX8_keeps_4 : decode cX8_keeps 4 = .ok (.bipush 10, 2) := by decide +kernel
theorem dX8_keeps_6 : decode cX8_keeps 6 = .ok (.if_icmp .ne 52, 3) := by decide +kernel
theorem dX8_keeps_9 : decode cX8_keeps 9 = .ok (.aload_n 0, 1) := by decide +kernel
theorem dX8_keeps_10 : decode cX8_keeps 10 = .ok (.dup, 1) := by decide +kernel
theorem dX8_keeps_11 : decode cX8_keeps 11 = .ok (.getfield 191, 3) := by decide +kernel
theorem dX8_keeps_14 : decode cX8_keeps 14 = .ok (.iconst 1, 1) := by decide +kernel
theorem dX8_keeps_15 : decode cX8_keeps 15 = .ok (.isub, 1) := by decide +kernel
theorem dX8_keeps_16 : decode cX8_keeps 16 = .ok (.putfield 191, 3) := by decide +kernel
theorem dX8_keeps_19 : decode cX8_keeps 19 = .ok (.iconst 0, 1) := by decide +kernel
theorem dX8_keeps_20 : decode cX8_keeps 20 = .ok (.istore_n 1, 1) := by decide +kernel
theorem dX8_keeps_21 : decode cX8_keeps 21 = .ok (.iload_n 1, 1) := by decide +kernel
theorem dX8_keeps_22 : decode cX8_keeps 22 = .ok (.aload_n 0, 1) := by decide +kernel
theorem dX8_keeps_23 : decode cX8_keeps 23 = .ok (.getfield 191, 3) := by decide +kernel
theorem dX8_keeps_26 : decode cX8_keeps 26 = .ok (.if_icmp .ge 32, 3) := by decide +kernel
theorem dX8_keeps_29 : decode cX8_keeps 29 = .ok (.aload_n 0, 1) := by decide +kernel
theorem dX8_keeps_30 : decode cX8_keeps 30 = .ok (.getfield 46, 3) := by decide +kernel
theorem dX8_keeps_33 : decode cX8_keeps 33 = .ok (.sipush 689, 3) := by decide +kernel
theorem dX8_keeps_36 : decode cX8_keeps 36 = .ok (.iload_n 1, 1) := by decide +kernel
theorem dX8_keeps_37 : decode cX8_keeps 37 = .ok (.iconst 1, 1) := by decide +kernel
theorem dX8_keeps_38 : decode cX8_keeps 38 = .ok (.iadd, 1) := by decide +kernel
theorem dX8_keeps_39 : decode cX8_keeps 39 = .ok (.imul, 1) := by decide +kernel
theorem dX8_keeps_40 : decode cX8_keeps 40 = .ok (.aload_n 0, 1) := by decide +kernel
theorem dX8_keeps_41 : decode cX8_keeps 41 = .ok (.getfield 46, 3) := by decide +kernel
theorem dX8_keeps_44 : decode cX8_keeps 44 = .ok (.sipush 689, 3) := by decide +kernel
theorem dX8_keeps_47 : decode cX8_keeps 47 = .ok (.iload_n 1, 1) := by decide +kernel
theorem dX8_keeps_48 : decode cX8_keeps 48 = .ok (.imul, 1) := by decide +kernel
theorem dX8_keeps_49 : decode cX8_keeps 49 = .ok (.invokestatic 327, 3) := by decide +kernel
theorem dX8_keeps_52 : decode cX8_keeps 52 = .ok (.iinc 1 1, 3) := by decide +kernel
theorem dX8_keeps_55 : decode cX8_keeps 55 = .ok (.goto (-34), 3) := by decide +kernel
theorem dX8_keeps_58 : decode cX8_keeps 58 = .ok (.aload_n 0, 1) := by decide +kernel
theorem dX8_keeps_59 : decode cX8_keeps 59 = .ok (.getfield 13, 3) := by decide +kernel
theorem dX8_keeps_62 : decode cX8_keeps 62 = .ok (.iconst 0, 1) := by decide +kernel
theorem dX8_keeps_63 : decode cX8_keeps 63 = .ok (.aload_n 0, 1) := by decide +kernel
theorem dX8_keeps_64 : decode cX8_keeps 64 = .ok (.getfield 46, 3) := by decide +kernel
theorem dX8_keeps_67 : decode cX8_keeps 67 = .ok (.sipush 689, 3) := by decide +kernel
theorem dX8_keeps_70 : decode cX8_keeps 70 = .ok (.aload_n 0, 1) := by decide +kernel
theorem dX8_keeps_71 : decode cX8_keeps 71 = .ok (.getfield 191, 3) := by decide +kernel
theorem dX8_keeps_74 : decode cX8_keeps 74 = .ok (.imul, 1) := by decide +kernel
theorem dX8_keeps_75 : decode cX8_keeps 75 = .ok (.invokestatic 327, 3) := by decide +kernel
theorem dX8_keeps_78 : decode cX8_keeps 78 = .ok (.aload_n 0, 1) := by decide +kernel
theorem dX8_keeps_79 : decode cX8_keeps 79 = .ok (.dup, 1) := by decide +kernel
theorem dX8_keeps_80 : decode cX8_keeps 80 = .ok (.getfield 191, 3) := by decide +kernel
theorem dX8_keeps_83 : decode cX8_keeps 83 = .ok (.iconst 1, 1) := by decide +kernel
theorem dX8_keeps_84 : decode cX8_keeps 84 = .ok (.iadd, 1) := by decide +kernel
theorem dX8_keeps_85 : decode cX8_keeps 85 = .ok (.putfield 191, 3) := by decide +kernel
theorem dX8_keeps_88 : decode cX8_keeps 88 = .ok (.return_, 1) := by decide +kernel
theorem dX8_undo_0 : decode cX8_undo 0 = .ok (.aload_n 0, 1) := by decide +kernel
theorem dX8_undo_1 : decode cX8_undo 1 = .ok (.iconst 0, 1) := by decide +kernel
theorem dX8_undo_2 : decode cX8_undo 2 = .ok (.putfield 56, 3) := by decide +kernel
theorem dX8_undo_5 : decode cX8_undo 5 = .ok (.aload_n 0, 1) := by decide +kernel
theorem dX8_undo_6 : decode cX8_undo 6 = .ok (.getfield 191, 3) := by decide +kernel
theorem dX8_undo_9 : decode cX8_undo 9 = .ok (.ifCond .ne 5, 3) := by decide +kernel
theorem dX8_undo_12 : decode cX8_undo 12 = .ok (.iconst (-1), 1) := by decide +kernel
theorem dX8_undo_13 : decode cX8_undo 13 = .ok (.ireturn, 1) := by decide +kernel
theorem dX8_undo_14 : decode cX8_undo 14 = .ok (.aload_n 0, 1) := by decide +kernel
theorem dX8_undo_15 : decode cX8_undo 15 = .ok (.dup, 1) := by decide +kernel
theorem dX8_undo_16 : decode cX8_undo 16 = .ok (.getfield 191, 3) := by decide +kernel
theorem dX8_undo_19 : decode cX8_undo 19 = .ok (.iconst 1, 1) := by decide +kernel
theorem dX8_undo_20 : decode cX8_undo 20 = .ok (.isub, 1) := by decide +kernel
theorem dX8_undo_21 : decode cX8_undo 21 = .ok (.putfield 191, 3) := by decide +kernel
theorem dX8_undo_24 : decode cX8_undo 24 = .ok (.aload_n 0, 1) := by decide +kernel
theorem dX8_undo_25 : decode cX8_undo 25 = .ok (.getfield 46, 3) := by decide +kernel
theorem dX8_undo_28 : decode cX8_undo 28 = .ok (.sipush 689, 3) := by decide +kernel
theorem dX8_undo_31 : decode cX8_undo 31 = .ok (.aload_n 0, 1) := by decide +kernel
theorem dX8_undo_32 : decode cX8_undo 32 = .ok (.getfield 191, 3) := by decide +kernel
theorem dX8_undo_35 : decode cX8_undo 35 = .ok (.imul, 1) := by decide +kernel
theorem dX8_undo_36 : decode cX8_undo 36 = .ok (.aload_n 0, 1) := by decide +kernel
theorem dX8_undo_37 : decode cX8_undo 37 = .ok (.getfield 13, 3) := by decide +kernel
theorem dX8_undo_40 : decode cX8_undo 40 = .ok (.iconst 0, 1) := by decide +kernel
theorem dX8_undo_41 : decode cX8_undo 41 = .ok (.invokestatic 327, 3) := by decide +kernel
theorem dX8_undo_44 : decode cX8_undo 44 = .ok (.aload_n 0, 1) := by decide +kernel
theorem dX8_undo_45 : decode cX8_undo 45 = .ok (.getfield 191, 3) := by decide +kernel
theorem dX8_undo_48 : decode cX8_undo 48 = .ok (.ireturn, 1) := by decide +kernel
theorem dX8_noSlot_0 : decode cX8_noSlot 0 = .ok (.aload_n 0, 1) := by decide +kernel
theorem dX8_noSlot_1 : decode cX8_noSlot 1 = .ok (.iconst 0, 1) := by decide +kernel
theorem dX8_noSlot_2 : decode cX8_noSlot 2 = .ok (.putfield 56, 3) := by decide +kernel
theorem dX8_noSlot_5 : decode cX8_noSlot 5 = .ok (.aload_n 0, 1) := by decide +kernel
theorem dX8_noSlot_6 : decode cX8_noSlot 6 = .ok (.iload_n 1, 1) := by decide +kernel
theorem dX8_noSlot_7 : decode cX8_noSlot 7 = .ok (.iconst 2, 1) := by decide +kernel
theorem dX8_noSlot_8 : decode cX8_noSlot 8 = .ok (.invokevirtual 249, 3) := by decide +kernel
theorem dX8_noSlot_11 : decode cX8_noSlot 11 = .ok (.ireturn, 1) := by decide +kernel
theorem dX8_saveSnapshot_0 : decode cX8_saveSnapshot 0 = .ok (.aload_n 0, 1) := by decide +kernel
theorem dX8_saveSnapshot_1 : decode cX8_saveSnapshot 1 = .ok (.iload_n 1, 1) := by decide +kernel
theorem dX8_saveSnapshot_2 : decode cX8_saveSnapshot 2 = .ok (.invokevirtual 331, 3) := by decide +kernel
theorem dX8_saveSnapshot_5 : decode cX8_saveSnapshot 5 = .ok (.ifCond .eq 5, 3) := by decide +kernel
theorem dX8_saveSnapshot_8 : decode cX8_saveSnapshot 8 = .ok (.iconst 0, 1) := by decide +kernel
theorem dX8_saveSnapshot_9 : decode cX8_saveSnapshot 9 = .ok (.ireturn, 1) := by decide +kernel
theorem dX8_saveSnapshot_10 : decode cX8_saveSnapshot 10 = .ok (.aload_n 0, 1) := by decide +kernel
theorem dX8_saveSnapshot_11 : decode cX8_saveSnapshot 11 = .ok (.getfield 52, 3) := by decide +kernel
theorem dX8_saveSnapshot_14 : decode cX8_saveSnapshot 14 = .ok (.iload_n 1, 1) := by decide +kernel
theorem dX8_saveSnapshot_15 : decode cX8_saveSnapshot 15 = .ok (.baload, 1) := by decide +kernel
theorem dX8_saveSnapshot_16 : decode cX8_saveSnapshot 16 = .ok (.istore_n 2, 1) := by decide +kernel
theorem dX8_saveSnapshot_17 : decode cX8_saveSnapshot 17 = .ok (.aload_n 0, 1) := by decide +kernel
theorem dX8_saveSnapshot_18 : decode cX8_saveSnapshot 18 = .ok (.getfield 13, 3) := by decide +kernel
theorem dX8_saveSnapshot_21 : decode cX8_saveSnapshot 21 = .ok (.iconst 0, 1) := by decide +kernel
theorem dX8_saveSnapshot_22 : decode cX8_saveSnapshot 22 = .ok (.aload_n 0, 1) := by decide +kernel
theorem dX8_saveSnapshot_23 : decode cX8_saveSnapshot 23 = .ok (.getfield 49, 3) := by decide +kernel
theorem dX8_saveSnapshot_26 : decode cX8_saveSnapshot 26 = .ok (.sipush 689, 3) := by decide +kernel
theorem dX8_saveSnapshot_29 : decode cX8_saveSnapshot 29 = .ok (.iload_n 1, 1) := by decide +kernel
theorem dX8_saveSnapshot_30 : decode cX8_saveSnapshot 30 = .ok (.imul, 1) := by decide +kernel
theorem dX8_saveSnapshot_31 : decode cX8_saveSnapshot 31 = .ok (.invokestatic 327, 3) := by decide +kernel
theorem dX8_saveSnapshot_34 : decode cX8_saveSnapshot 34 = .ok (.aload_n 0, 1) := by decide +kernel
theorem dX8_saveSnapshot_35 : decode cX8_saveSnapshot 35 = .ok (.getfield 52, 3) := by decide +kernel
theorem dX8_saveSnapshot_38 : decode cX8_saveSnapshot 38 = .ok (.iload_n 1, 1) := by decide +kernel
theorem dX8_saveSnapshot_39 : decode cX8_saveSnapshot 39 = .ok (.iconst 1, 1) := by decide +kernel
theorem dX8_saveSnapshot_40 : decode cX8_saveSnapshot 40 = .ok (.bastore, 1) := by decide +kernel
theorem dX8_saveSnapshot_41 : decode cX8_saveSnapshot 41 = .ok (.iload_n 2, 1) := by decide +kernel
theorem dX8_saveSnapshot_42 : decode cX8_saveSnapshot 42 = .ok (.ireturn, 1) := by decide +kernel
theorem dX8_restoreSnapshot_0 : decode cX8_restoreSnapshot 0 = .ok (.aload_n 0, 1) := by decide +kernel
theorem dX8_restoreSnapshot_1 : decode cX8_restoreSnapshot 1 = .ok (.iload_n 1, 1) := by decide +kernel
theorem dX8_restoreSnapshot_2 : decode cX8_restoreSnapshot 2 = .ok (.invokevirtual 331, 3) := by decide +kernel
theorem dX8_restoreSnapshot_5 : decode cX8_restoreSnapshot 5 = .ok (.ifCond .ne 25, 3) := by decide +kernel
theorem dX8_restoreSnapshot_8 : decode cX8_restoreSnapshot 8 = .ok (.aload_n 0, 1) := by decide +kernel
theorem dX8_restoreSnapshot_9 : decode cX8_restoreSnapshot 9 = .ok (.aload_n 0, 1) := by decide +kernel
theorem dX8_restoreSnapshot_10 : decode cX8_restoreSnapshot 10 = .ok (.getfield 52, 3) := by decide +kernel
theorem dX8_restoreSnapshot_13 : decode cX8_restoreSnapshot 13 = .ok (.iload_n 1, 1) := by decide +kernel
theorem dX8_restoreSnapshot_14 : decode cX8_restoreSnapshot 14 = .ok (.baload, 1) := by decide +kernel
theorem dX8_restoreSnapshot_15 : decode cX8_restoreSnapshot 15 = .ok (.ifCond .ne 7, 3) := by decide +kernel
theorem dX8_restoreSnapshot_18 : decode cX8_restoreSnapshot 18 = .ok (.iconst 1, 1) := by decide +kernel
theorem dX8_restoreSnapshot_19 : decode cX8_restoreSnapshot 19 = .ok (.goto 4, 3) := by decide +kernel
theorem dX8_restoreSnapshot_22 : decode cX8_restoreSnapshot 22 = .ok (.iconst 0, 1) := by decide +kernel
theorem dX8_restoreSnapshot_23 : decode cX8_restoreSnapshot 23 = .ok (.iconst 2, 1) := by decide +kernel
theorem dX8_restoreSnapshot_24 : decode cX8_restoreSnapshot 24 = .ok (.invokevirtual 176, 3) := by decide +kernel
theorem dX8_restoreSnapshot_27 : decode cX8_restoreSnapshot 27 = .ok (.ifCond .eq 5, 3) := by decide +kernel
theorem dX8_restoreSnapshot_30 : decode cX8_restoreSnapshot 30 = .ok (.iconst 0, 1) := by decide +kernel
theorem dX8_restoreSnapshot_31 : decode cX8_restoreSnapshot 31 = .ok (.ireturn, 1) := by decide +kernel
theorem dX8_restoreSnapshot_32 : decode cX8_restoreSnapshot 32 = .ok (.aload_n 0, 1) := by decide +kernel
theorem dX8_restoreSnapshot_33 : decode cX8_restoreSnapshot 33 = .ok (.getfield 49, 3) := by decide +kernel
theorem dX8_restoreSnapshot_36 : decode cX8_restoreSnapshot 36 = .ok (.sipush 689, 3) := by decide +kernel
theorem dX8_restoreSnapshot_39 : decode cX8_restoreSnapshot 39 = .ok (.iload_n 1, 1) := by decide +kernel
theorem dX8_restoreSnapshot_40 : decode cX8_restoreSnapshot 40 = .ok (.imul, 1) := by decide +kernel
theorem dX8_restoreSnapshot_41 : decode cX8_restoreSnapshot 41 = .ok (.aload_n 0, 1) := by decide +kernel
theorem dX8_restoreSnapshot_42 : decode cX8_restoreSnapshot 42 = .ok (.getfield 13, 3) := by decide +kernel
theorem dX8_restoreSnapshot_45 : decode cX8_restoreSnapshot 45 = .ok (.iconst 0, 1) := by decide +kernel
theorem dX8_restoreSnapshot_46 : decode cX8_restoreSnapshot 46 = .ok (.invokestatic 327, 3) := by decide +kernel
theorem dX8_restoreSnapshot_49 : decode cX8_restoreSnapshot 49 = .ok (.aload_n 0, 1) := by decide +kernel
theorem dX8_restoreSnapshot_50 : decode cX8_restoreSnapshot 50 = .ok (.iconst 0, 1) := by decide +kernel
theorem dX8_restoreSnapshot_51 : decode cX8_restoreSnapshot 51 = .ok (.putfield 191, 3) := by decide +kernel
theorem dX8_restoreSnapshot_54 : decode cX8_restoreSnapshot 54 = .ok (.aload_n 0, 1) := by decide +kernel
theorem dX8_restoreSnapshot_55 : decode cX8_restoreSnapshot 55 = .ok (.getfield 13, 3) := by decide +kernel
theorem dX8_restoreSnapshot_58 : decode cX8_restoreSnapshot 58 = .ok (.iconst 0, 1) := by decide +kernel
theorem dX8_restoreSnapshot_59 : decode cX8_restoreSnapshot 59 = .ok (.iaload, 1) := by decide +kernel
theorem dX8_restoreSnapshot_60 : decode cX8_restoreSnapshot 60 = .ok (.ireturn, 1) := by decide +kernel
