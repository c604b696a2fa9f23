theorem dX8_init_0 : decode cX8_init 0 = .ok (.aload_n 0, 1) := by decide +kernel
theorem dX8_init_1 : decode cX8_init 1 = .ok (.invokespecial 1, 3) := by decide +kernel
theorem dX8_init_4 : decode cX8_init 4 = .ok (.aload_n 0, 1) := by decide +kernel
theorem dX8_init_5 : decode cX8_init 5 = .ok (.iconst 3, 1) := by decide +kernel
theorem dX8_init_6 : decode cX8_init 6 = .ok (.newarray .int, 2) := by decide +kernel
theorem dX8_init_8 : decode cX8_init 8 = .ok (.putfield 7, 3) := by decide +kernel
theorem dX8_init_11 : decode cX8_init 11 = .ok (.aload_n 0, 1) := by decide +kernel
theorem dX8_init_12 : decode cX8_init 12 = .ok (.bipush 8, 2) := by decide +kernel
theorem dX8_init_14 : decode cX8_init 14 = .ok (.newarray .int, 2) := by decide +kernel
theorem dX8_init_16 : decode cX8_init 16 = .ok (.putfield 13, 3) := by decide +kernel
theorem dX8_init_19 : decode cX8_init 19 = .ok (.aload_n 0, 1) := by decide +kernel
theorem dX8_init_20 : decode cX8_init 20 = .ok (.bipush 8, 2) := by decide +kernel
theorem dX8_init_22 : decode cX8_init 22 = .ok (.newarray .int, 2) := by decide +kernel
theorem dX8_init_24 : decode cX8_init 24 = .ok (.putfield 16, 3) := by decide +kernel
theorem dX8_init_27 : decode cX8_init 27 = .ok (.aload_n 0, 1) := by decide +kernel
theorem dX8_init_28 : decode cX8_init 28 = .ok (.bipush 8, 2) := by decide +kernel
theorem dX8_init_30 : decode cX8_init 30 = .ok (.newarray .int, 2) := by decide +kernel
theorem dX8_init_32 : decode cX8_init 32 = .ok (.putfield 19, 3) := by decide +kernel
theorem dX8_init_35 : decode cX8_init 35 = .ok (.aload_n 0, 1) := by decide +kernel
theorem dX8_init_36 : decode cX8_init 36 = .ok (.bipush 8, 2) := by decide +kernel
theorem dX8_init_38 : decode cX8_init 38 = .ok (.anewarray 22, 3) := by decide +kernel
theorem dX8_init_41 : decode cX8_init 41 = .ok (.putfield 23, 3) := by decide +kernel
theorem dX8_init_44 : decode cX8_init 44 = .ok (.aload_n 0, 1) := by decide +kernel
theorem dX8_init_45 : decode cX8_init 45 = .ok (.iconst 5, 1) := by decide +kernel
theorem dX8_init_46 : decode cX8_init 46 = .ok (.anewarray 22, 3) := by decide +kernel
theorem dX8_init_49 : decode cX8_init 49 = .ok (.putfield 27, 3) := by decide +kernel
theorem dX8_init_52 : decode cX8_init 52 = .ok (.aload_n 0, 1) := by decide +kernel
theorem dX8_init_53 : decode cX8_init 53 = .ok (.iconst 5, 1) := by decide +kernel
theorem dX8_init_54 : decode cX8_init 54 = .ok (.anewarray 22, 3) := by decide +kernel
theorem dX8_init_57 : decode cX8_init 57 = .ok (.putfield 30, 3) := by decide +kernel
theorem dX8_init_60 : decode cX8_init 60 = .ok (.aload_n 0, 1) := by decide +kernel
theorem dX8_init_61 : decode cX8_init 61 = .ok (.bipush 20, 2) := by decide +kernel
theorem dX8_init_63 : decode cX8_init 63 = .ok (.anewarray 22, 3) := by decide +kernel
theorem dX8_init_66 : decode cX8_init 66 = .ok (.putfield 33, 3) := by decide +kernel
theorem dX8_init_69 : decode cX8_init 69 = .ok (.aload_n 0, 1) := by decide +kernel
theorem dX8_init_70 : decode cX8_init 70 = .ok (.bipush 20, 2) := by decide +kernel
theorem dX8_init_72 : decode cX8_init 72 = .ok (.anewarray 36, 3) := by decide +kernel
theorem dX8_init_75 : decode cX8_init 75 = .ok (.putfield 37, 3) := by decide +kernel
theorem dX8_init_78 : decode cX8_init 78 = .ok (.return_, 1) := by decide +kernel
theorem dX8_plays_0 : decode cX8_plays 0 = .ok (.aload_n 0, 1) := by decide +kernel
theorem dX8_plays_1 : decode cX8_plays 1 = .ok (.getfield 23, 3) := by decide +kernel
theorem dX8_plays_4 : decode cX8_plays 4 = .ok (.iload_n 1, 1) := by decide +kernel
theorem dX8_plays_5 : decode cX8_plays 5 = .ok (.aaload, 1) := by decide +kernel
theorem dX8_plays_6 : decode cX8_plays 6 = .ok (.astore_n 3, 1) := by decide +kernel
theorem dX8_plays_7 : decode cX8_plays 7 = .ok (.aload_n 3, 1) := by decide +kernel
theorem dX8_plays_8 : decode cX8_plays 8 = .ok (.arraylength, 1) := by decide +kernel
theorem dX8_plays_9 : decode cX8_plays 9 = .ok (.istore 4, 2) := by decide +kernel
theorem dX8_plays_11 : decode cX8_plays 11 = .ok (.iconst 0, 1) := by decide +kernel
theorem dX8_plays_12 : decode cX8_plays 12 = .ok (.istore 5, 2) := by decide +kernel
theorem dX8_plays_14 : decode cX8_plays 14 = .ok (.iload 5, 2) := by decide +kernel
theorem dX8_plays_16 : decode cX8_plays 16 = .ok (.iload 4, 2) := by decide +kernel
theorem dX8_plays_18 : decode cX8_plays 18 = .ok (.if_icmp .ge 23, 3) := by decide +kernel
theorem dX8_plays_21 : decode cX8_plays 21 = .ok (.aload_n 3, 1) := by decide +kernel
theorem dX8_plays_22 : decode cX8_plays 22 = .ok (.iload 5, 2) := by decide +kernel
theorem dX8_plays_24 : decode cX8_plays 24 = .ok (.iaload, 1) := by decide +kernel
theorem dX8_plays_25 : decode cX8_plays 25 = .ok (.istore 6, 2) := by decide +kernel
theorem dX8_plays_27 : decode cX8_plays 27 = .ok (.iload 6, 2) := by decide +kernel
theorem dX8_plays_29 : decode cX8_plays 29 = .ok (.iload_n 2, 1) := by decide +kernel
theorem dX8_plays_30 : decode cX8_plays 30 = .ok (.if_icmp .ne 5, 3) := by decide +kernel
theorem dX8_plays_33 : decode cX8_plays 33 = .ok (.iconst 1, 1) := by decide +kernel
theorem dX8_plays_34 : decode cX8_plays 34 = .ok (.ireturn, 1) := by decide +kernel
theorem dX8_plays_35 : decode cX8_plays 35 = .ok (.iinc 5 1, 3) := by decide +kernel
theorem dX8_plays_38 : decode cX8_plays 38 = .ok (.goto (-24), 3) := by decide +kernel
theorem dX8_plays_41 : decode cX8_plays 41 = .ok (.iconst 0, 1) := by decide +kernel
theorem dX8_plays_42 : decode cX8_plays 42 = .ok (.ireturn, 1) := by decide +kernel
theorem dX8_isFree_0 : decode cX8_isFree 0 = .ok (.aload_n 0, 1) := by decide +kernel
theorem dX8_isFree_1 : decode cX8_isFree 1 = .ok (.getfield 19, 3) := by decide +kernel
theorem dX8_isFree_4 : decode cX8_isFree 4 = .ok (.iload_n 1, 1) := by decide +kernel
theorem dX8_isFree_5 : decode cX8_isFree 5 = .ok (.iaload, 1) := by decide +kernel
theorem dX8_isFree_6 : decode cX8_isFree 6 = .ok (.iload_n 2, 1) := by decide +kernel
theorem dX8_isFree_7 : decode cX8_isFree 7 = .ok (.iconst 3, 1) := by decide +kernel
theorem dX8_isFree_8 : decode cX8_isFree 8 = .ok (.idiv, 1) := by decide +kernel
theorem dX8_isFree_9 : decode cX8_isFree 9 = .ok (.ishr, 1) := by decide +kernel
theorem dX8_isFree_10 : decode cX8_isFree 10 = .ok (.iconst 1, 1) := by decide +kernel
theorem dX8_isFree_11 : decode cX8_isFree 11 = .ok (.iand, 1) := by decide +kernel
theorem dX8_isFree_12 : decode cX8_isFree 12 = .ok (.iconst 1, 1) := by decide +kernel
theorem dX8_isFree_13 : decode cX8_isFree 13 = .ok (.if_icmp .ne 5, 3) := by decide +kernel
theorem dX8_isFree_16 : decode cX8_isFree 16 = .ok (.iconst 0, 1) := by decide +kernel
theorem dX8_isFree_17 : decode cX8_isFree 17 = .ok (.ireturn, 1) := by decide +kernel
theorem dX8_isFree_18 : decode cX8_isFree 18 = .ok (.iconst 0, 1) := by decide +kernel
theorem dX8_isFree_19 : decode cX8_isFree 19 = .ok (.istore 4, 2) := by decide +kernel
theorem dX8_isFree_21 : decode cX8_isFree 21 = .ok (.iload 4, 2) := by decide +kernel
theorem dX8_isFree_23 : decode cX8_isFree 23 = .ok (.aload_n 0, 1) := by decide +kernel
theorem dX8_isFree_24 : decode cX8_isFree 24 = .ok (.getfield 41, 3) := by decide +kernel
theorem dX8_isFree_27 : decode cX8_isFree 27 = .ok (.if_icmp .ge 40, 3) := by decide +kernel
theorem dX8_isFree_30 : decode cX8_isFree 30 = .ok (.iload 4, 2) := by decide +kernel
theorem dX8_isFree_32 : decode cX8_isFree 32 = .ok (.iload_n 3, 1) := by decide +kernel
theorem dX8_isFree_33 : decode cX8_isFree 33 = .ok (.if_icmp .eq 28, 3) := by decide +kernel
theorem dX8_isFree_36 : decode cX8_isFree 36 = .ok (.aload_n 0, 1) := by decide +kernel
theorem dX8_isFree_37 : decode cX8_isFree 37 = .ok (.getfield 33, 3) := by decide +kernel
theorem dX8_isFree_40 : decode cX8_isFree 40 = .ok (.iload 4, 2) := by decide +kernel
theorem dX8_isFree_42 : decode cX8_isFree 42 = .ok (.aaload, 1) := by decide +kernel
theorem dX8_isFree_43 : decode cX8_isFree 43 = .ok (.iconst 0, 1) := by decide +kernel
theorem dX8_isFree_44 : decode cX8_isFree 44 = .ok (.iaload, 1) := by decide +kernel
theorem dX8_isFree_45 : decode cX8_isFree 45 = .ok (.iload_n 2, 1) := by decide +kernel
theorem dX8_isFree_46 : decode cX8_isFree 46 = .ok (.if_icmp .ne 15, 3) := by decide +kernel
theorem dX8_isFree_49 : decode cX8_isFree 49 = .ok (.aload_n 0, 1) := by decide +kernel
theorem dX8_isFree_50 : decode cX8_isFree 50 = .ok (.iload_n 1, 1) := by decide +kernel
theorem dX8_isFree_51 : decode cX8_isFree 51 = .ok (.iload 4, 2) := by decide +kernel
theorem dX8_isFree_53 : decode cX8_isFree 53 = .ok (.invokevirtual 45, 3) := by decide +kernel
theorem dX8_isFree_56 : decode cX8_isFree 56 = .ok (.ifCond .eq 5, 3) := by decide +kernel
theorem dX8_isFree_59 : decode cX8_isFree 59 = .ok (.iconst 0, 1) := by decide +kernel
theorem dX8_isFree_60 : decode cX8_isFree 60 = .ok (.ireturn, 1) := by decide +kernel
theorem dX8_isFree_61 : decode cX8_isFree 61 = .ok (.iinc 4 1, 3) := by decide +kernel
theorem dX8_isFree_64 : decode cX8_isFree 64 = .ok (.goto (-43), 3) := by decide +kernel
theorem dX8_isFree_67 : decode cX8_isFree 67 = .ok (.iconst 1, 1) := by decide +kernel
theorem dX8_isFree_68 : decode cX8_isFree 68 = .ok (.ireturn, 1) := by decide +kernel
theorem dX8_isIn_0 : decode cX8_isIn 0 = .ok (.aload_n 0, 1) := by decide +kernel
theorem dX8_isIn_1 : decode cX8_isIn 1 = .ok (.getfield 37, 3) := by decide +kernel
theorem dX8_isIn_4 : decode cX8_isIn 4 = .ok (.iload_n 2, 1) := by decide +kernel
theorem dX8_isIn_5 : decode cX8_isIn 5 = .ok (.aaload, 1) := by decide +kernel
theorem dX8_isIn_6 : decode cX8_isIn 6 = .ok (.astore_n 3, 1) := by decide +kernel
theorem dX8_isIn_7 : decode cX8_isIn 7 = .ok (.aload_n 3, 1) := by decide +kernel
theorem dX8_isIn_8 : decode cX8_isIn 8 = .ok (.arraylength, 1) := by decide +kernel
theorem dX8_isIn_9 : decode cX8_isIn 9 = .ok (.istore 4, 2) := by decide +kernel
theorem dX8_isIn_11 : decode cX8_isIn 11 = .ok (.iconst 0, 1) := by decide +kernel
theorem dX8_isIn_12 : decode cX8_isIn 12 = .ok (.istore 5, 2) := by decide +kernel
theorem dX8_isIn_14 : decode cX8_isIn 14 = .ok (.iload 5, 2) := by decide +kernel
theorem dX8_isIn_16 : decode cX8_isIn 16 = .ok (.iload 4, 2) := by decide +kernel
theorem dX8_isIn_18 : decode cX8_isIn 18 = .ok (.if_icmp .ge 48, 3) := by decide +kernel
theorem dX8_isIn_21 : decode cX8_isIn 21 = .ok (.aload_n 3, 1) := by decide +kernel
theorem dX8_isIn_22 : decode cX8_isIn 22 = .ok (.iload 5, 2) := by decide +kernel
theorem dX8_isIn_24 : decode cX8_isIn 24 = .ok (.aaload, 1) := by decide +kernel
theorem dX8_isIn_25 : decode cX8_isIn 25 = .ok (.astore 6, 2) := by decide +kernel
theorem dX8_isIn_27 : decode cX8_isIn 27 = .ok (.iconst 0, 1) := by decide +kernel
theorem dX8_isIn_28 : decode cX8_isIn 28 = .ok (.istore 7, 2) := by decide +kernel
theorem dX8_isIn_30 : decode cX8_isIn 30 = .ok (.aload 6, 2) := by decide +kernel
theorem dX8_isIn_32 : decode cX8_isIn 32 = .ok (.ifnull 28, 3) := by decide +kernel
theorem dX8_isIn_35 : decode cX8_isIn 35 = .ok (.iload 7, 2) := by decide +kernel
theorem dX8_isIn_37 : decode cX8_isIn 37 = .ok (.aload 6, 2) := by decide +kernel
theorem dX8_isIn_39 : decode cX8_isIn 39 = .ok (.arraylength, 1) := by decide +kernel
theorem dX8_isIn_40 : decode cX8_isIn 40 = .ok (.if_icmp .ge 20, 3) := by decide +kernel
theorem dX8_isIn_43 : decode cX8_isIn 43 = .ok (.aload 6, 2) := by decide +kernel
theorem dX8_isIn_45 : decode cX8_isIn 45 = .ok (.iload 7, 2) := by decide +kernel
theorem dX8_isIn_47 : decode cX8_isIn 47 = .ok (.iaload, 1) := by decide +kernel
theorem dX8_isIn_48 : decode cX8_isIn 48 = .ok (.iload_n 1, 1) := by decide +kernel
theorem dX8_isIn_49 : decode cX8_isIn 49 = .ok (.if_icmp .ne 5, 3) := by decide +kernel
theorem dX8_isIn_52 : decode cX8_isIn 52 = .ok (.iconst 1, 1) := by decide +kernel
theorem dX8_isIn_53 : decode cX8_isIn 53 = .ok (.ireturn, 1) := by decide +kernel
theorem dX8_isIn_54 : decode cX8_isIn 54 = .ok (.iinc 7 1, 3) := by decide +kernel
theorem dX8_isIn_57 : decode cX8_isIn 57 = .ok (.goto (-27), 3) := by decide +kernel
theorem dX8_isIn_60 : decode cX8_isIn 60 = .ok (.iinc 5 1, 3) := by decide +kernel
theorem dX8_isIn_63 : decode cX8_isIn 63 = .ok (.goto (-49), 3) := by decide +kernel
theorem dX8_isIn_66 : decode cX8_isIn 66 = .ok (.iconst 0, 1) := by decide +kernel
theorem dX8_isIn_67 : decode cX8_isIn 67 = .ok (.ireturn, 1) := by decide +kernel
theorem dX8_doublings_0 : decode cX8_doublings 0 = .ok (.iconst 0, 1) := by decide +kernel
theorem dX8_doublings_1 : decode cX8_doublings 1 = .ok (.istore_n 3, 1) := by decide +kernel
theorem dX8_doublings_2 : decode cX8_doublings 2 = .ok (.iconst 0, 1) := by decide +kernel
theorem dX8_doublings_3 : decode cX8_doublings 3 = .ok (.istore 4, 2) := by decide +kernel
theorem dX8_doublings_5 : decode cX8_doublings 5 = .ok (.iload 4, 2) := by decide +kernel
theorem dX8_doublings_7 : decode cX8_doublings 7 = .ok (.aload_n 2, 1) := by decide +kernel
theorem dX8_doublings_8 : decode cX8_doublings 8 = .ok (.arraylength, 1) := by decide +kernel
theorem dX8_doublings_9 : decode cX8_doublings 9 = .ok (.if_icmp .ge 35, 3) := by decide +kernel
theorem dX8_doublings_12 : decode cX8_doublings 12 = .ok (.aload_n 0, 1) := by decide +kernel
theorem dX8_doublings_13 : decode cX8_doublings 13 = .ok (.getfield 23, 3) := by decide +kernel
theorem dX8_doublings_16 : decode cX8_doublings 16 = .ok (.aload_n 2, 1) := by decide +kernel
theorem dX8_doublings_17 : decode cX8_doublings 17 = .ok (.iload 4, 2) := by decide +kernel
theorem dX8_doublings_19 : decode cX8_doublings 19 = .ok (.iaload, 1) := by decide +kernel
theorem dX8_doublings_20 : decode cX8_doublings 20 = .ok (.aaload, 1) := by decide +kernel
theorem dX8_doublings_21 : decode cX8_doublings 21 = .ok (.iconst 0, 1) := by decide +kernel
theorem dX8_doublings_22 : decode cX8_doublings 22 = .ok (.iaload, 1) := by decide +kernel
theorem dX8_doublings_23 : decode cX8_doublings 23 = .ok (.aload_n 0, 1) := by decide +kernel
theorem dX8_doublings_24 : decode cX8_doublings 24 = .ok (.getfield 30, 3) := by decide +kernel
theorem dX8_doublings_27 : decode cX8_doublings 27 = .ok (.iload_n 1, 1) := by decide +kernel
theorem dX8_doublings_28 : decode cX8_doublings 28 = .ok (.aaload, 1) := by decide +kernel
theorem dX8_doublings_29 : decode cX8_doublings 29 = .ok (.iload 4, 2) := by decide +kernel
theorem dX8_doublings_31 : decode cX8_doublings 31 = .ok (.iaload, 1) := by decide +kernel
theorem dX8_doublings_32 : decode cX8_doublings 32 = .ok (.if_icmp .eq 6, 3) := by decide +kernel
theorem dX8_doublings_35 : decode cX8_doublings 35 = .ok (.iinc 3 1, 3) := by decide +kernel
theorem dX8_doublings_38 : decode cX8_doublings 38 = .ok (.iinc 4 1, 3) := by decide +kernel
theorem dX8_doublings_41 : decode cX8_doublings 41 = .ok (.goto (-36), 3) := by decide +kernel
theorem dX8_doublings_44 : decode cX8_doublings 44 = .ok (.iload_n 3, 1) := by decide +kernel
theorem dX8_doublings_45 : decode cX8_doublings 45 = .ok (.ireturn, 1) := by decide +kernel
theorem dX8_all_0 : decode cX8_all 0 = .ok (.iload 5, 2) := by decide +kernel
theorem dX8_all_2 : decode cX8_all 2 = .ok (.aload 4, 2) := by decide +kernel
theorem dX8_all_4 : decode cX8_all 4 = .ok (.arraylength, 1) := by decide +kernel
theorem dX8_all_5 : decode cX8_all 5 = .ok (.if_icmp .ne 48, 3) := by decide +kernel
theorem dX8_all_8 : decode cX8_all 8 = .ok (.aload_n 0, 1) := by decide +kernel
theorem dX8_all_9 : decode cX8_all 9 = .ok (.iload_n 1, 1) := by decide +kernel
theorem dX8_all_10 : decode cX8_all 10 = .ok (.aload 4, 2) := by decide +kernel
theorem dX8_all_12 : decode cX8_all 12 = .ok (.invokevirtual 49, 3) := by decide +kernel
theorem dX8_all_15 : decode cX8_all 15 = .ok (.istore 6, 2) := by decide +kernel
theorem dX8_all_17 : decode cX8_all 17 = .ok (.aload_n 0, 1) := by decide +kernel
theorem dX8_all_18 : decode cX8_all 18 = .ok (.getfield 53, 3) := by decide +kernel
theorem dX8_all_21 : decode cX8_all 21 = .ok (.ifnull 13, 3) := by decide +kernel
theorem dX8_all_24 : decode cX8_all 24 = .ok (.iload 6, 2) := by decide +kernel
theorem dX8_all_26 : decode cX8_all 26 = .ok (.aload_n 0, 1) := by decide +kernel
theorem dX8_all_27 : decode cX8_all 27 = .ok (.getfield 56, 3) := by decide +kernel
theorem dX8_all_30 : decode cX8_all 30 = .ok (.if_icmp .le 4, 3) := by decide +kernel
theorem dX8_all_33 : decode cX8_all 33 = .ok (.return_, 1) := by decide +kernel
theorem dX8_all_34 : decode cX8_all 34 = .ok (.aload_n 0, 1) := by decide +kernel
theorem dX8_all_35 : decode cX8_all 35 = .ok (.iload 6, 2) := by decide +kernel
theorem dX8_all_37 : decode cX8_all 37 = .ok (.putfield 56, 3) := by decide +kernel
theorem dX8_all_40 : decode cX8_all 40 = .ok (.aload_n 0, 1) := by decide +kernel
theorem dX8_all_41 : decode cX8_all 41 = .ok (.aload 4, 2) := by decide +kernel
theorem dX8_all_43 : decode cX8_all 43 = .ok (.invokevirtual 59, 3) := by decide +kernel
theorem dX8_all_46 : decode cX8_all 46 = .ok (.checkcast 22, 3) := by decide +kernel
theorem dX8_all_49 : decode cX8_all 49 = .ok (.putfield 53, 3) := by decide +kernel
theorem dX8_all_52 : decode cX8_all 52 = .ok (.return_, 1) := by decide +kernel
theorem dX8_all_53 : decode cX8_all 53 = .ok (.aload_n 0, 1) := by decide +kernel
theorem dX8_all_54 : decode cX8_all 54 = .ok (.getfield 63, 3) := by decide +kernel
theorem dX8_all_57 : decode cX8_all 57 = .ok (.iconst 1, 1) := by decide +kernel
theorem dX8_all_58 : decode cX8_all 58 = .ok (.isub, 1) := by decide +kernel
theorem dX8_all_59 : decode cX8_all 59 = .ok (.istore 6, 2) := by decide +kernel
theorem dX8_all_61 : decode cX8_all 61 = .ok (.iload 6, 2) := by decide +kernel
theorem dX8_all_63 : decode cX8_all 63 = .ok (.ifCond .lt 111, 3) := by decide +kernel
theorem dX8_all_66 : decode cX8_all 66 = .ok (.aload_n 0, 1) := by decide +kernel
theorem dX8_all_67 : decode cX8_all 67 = .ok (.iload 6, 2) := by decide +kernel
theorem dX8_all_69 : decode cX8_all 69 = .ok (.aload_n 0, 1) := by decide +kernel
theorem dX8_all_70 : decode cX8_all 70 = .ok (.getfield 30, 3) := by decide +kernel
theorem dX8_all_73 : decode cX8_all 73 = .ok (.iload_n 1, 1) := by decide +kernel
theorem dX8_all_74 : decode cX8_all 74 = .ok (.aaload, 1) := by decide +kernel
theorem dX8_all_75 : decode cX8_all 75 = .ok (.iload 5, 2) := by decide +kernel
theorem dX8_all_77 : decode cX8_all 77 = .ok (.iaload, 1) := by decide +kernel
theorem dX8_all_78 : decode cX8_all 78 = .ok (.invokevirtual 66, 3) := by decide +kernel
theorem dX8_all_81 : decode cX8_all 81 = .ok (.ifCond .eq 18, 3) := by decide +kernel
theorem dX8_all_84 : decode cX8_all 84 = .ok (.aload_n 0, 1) := by decide +kernel
theorem dX8_all_85 : decode cX8_all 85 = .ok (.iload 6, 2) := by decide +kernel
theorem dX8_all_87 : decode cX8_all 87 = .ok (.iload_n 2, 1) := by decide +kernel
theorem dX8_all_88 : decode cX8_all 88 = .ok (.iload_n 3, 1) := by decide +kernel
theorem dX8_all_89 : decode cX8_all 89 = .ok (.invokevirtual 69, 3) := by decide +kernel
theorem dX8_all_92 : decode cX8_all 92 = .ok (.ifCond .eq 7, 3) := by decide +kernel
theorem dX8_all_95 : decode cX8_all 95 = .ok (.iconst 1, 1) := by decide +kernel
theorem dX8_all_96 : decode cX8_all 96 = .ok (.goto 4, 3) := by decide +kernel
theorem dX8_all_99 : decode cX8_all 99 = .ok (.iconst 0, 1) := by decide +kernel
theorem dX8_all_100 : decode cX8_all 100 = .ok (.istore 7, 2) := by decide +kernel
theorem dX8_all_102 : decode cX8_all 102 = .ok (.iconst 0, 1) := by decide +kernel
theorem dX8_all_103 : decode cX8_all 103 = .ok (.istore 8, 2) := by decide +kernel
theorem dX8_all_105 : decode cX8_all 105 = .ok (.iload 8, 2) := by decide +kernel
theorem dX8_all_107 : decode cX8_all 107 = .ok (.iload 5, 2) := by decide +kernel
theorem dX8_all_109 : decode cX8_all 109 = .ok (.if_icmp .ge 31, 3) := by decide +kernel
theorem dX8_all_112 : decode cX8_all 112 = .ok (.iload 7, 2) := by decide +kernel
theorem dX8_all_114 : decode cX8_all 114 = .ok (.ifCond .eq 17, 3) := by decide +kernel
theorem dX8_all_117 : decode cX8_all 117 = .ok (.aload 4, 2) := by decide +kernel
theorem dX8_all_119 : decode cX8_all 119 = .ok (.iload 8, 2) := by decide +kernel
theorem dX8_all_121 : decode cX8_all 121 = .ok (.iaload, 1) := by decide +kernel
theorem dX8_all_122 : decode cX8_all 122 = .ok (.iload 6, 2) := by decide +kernel
theorem dX8_all_124 : decode cX8_all 124 = .ok (.if_icmp .eq 7, 3) := by decide +kernel
theorem dX8_all_127 : decode cX8_all 127 = .ok (.iconst 1, 1) := by decide +kernel
theorem dX8_all_128 : decode cX8_all 128 = .ok (.goto 4, 3) := by decide +kernel
theorem dX8_all_131 : decode cX8_all 131 = .ok (.iconst 0, 1) := by decide +kernel
theorem dX8_all_132 : decode cX8_all 132 = .ok (.istore 7, 2) := by decide +kernel
theorem dX8_all_134 : decode cX8_all 134 = .ok (.iinc 8 1, 3) := by decide +kernel
theorem dX8_all_137 : decode cX8_all 137 = .ok (.goto (-32), 3) := by decide +kernel
theorem dX8_all_140 : decode cX8_all 140 = .ok (.iload 7, 2) := by decide +kernel
theorem dX8_all_142 : decode cX8_all 142 = .ok (.ifCond .ne 6, 3) := by decide +kernel
theorem dX8_all_145 : decode cX8_all 145 = .ok (.goto 23, 3) := by decide +kernel
theorem dX8_all_148 : decode cX8_all 148 = .ok (.aload 4, 2) := by decide +kernel
theorem dX8_all_150 : decode cX8_all 150 = .ok (.iload 5, 2) := by decide +kernel
theorem dX8_all_152 : decode cX8_all 152 = .ok (.iload 6, 2) := by decide +kernel
theorem dX8_all_154 : decode cX8_all 154 = .ok (.iastore, 1) := by decide +kernel
theorem dX8_all_155 : decode cX8_all 155 = .ok (.aload_n 0, 1) := by decide +kernel
theorem dX8_all_156 : decode cX8_all 156 = .ok (.iload_n 1, 1) := by decide +kernel
theorem dX8_all_157 : decode cX8_all 157 = .ok (.iload_n 2, 1) := by decide +kernel
theorem dX8_all_158 : decode cX8_all 158 = .ok (.iload_n 3, 1) := by decide +kernel
theorem dX8_all_159 : decode cX8_all 159 = .ok (.aload 4, 2) := by decide +kernel
theorem dX8_all_161 : decode cX8_all 161 = .ok (.iload 5, 2) := by decide +kernel
theorem dX8_all_163 : decode cX8_all 163 = .ok (.iconst 1, 1) := by decide +kernel
theorem dX8_all_164 : decode cX8_all 164 = .ok (.iadd, 1) := by decide +kernel
theorem dX8_all_165 : decode cX8_all 165 = .ok (.invokevirtual 73, 3) := by decide +kernel
theorem dX8_all_168 : decode cX8_all 168 = .ok (.iinc 6 (-1), 3) := by decide +kernel
theorem dX8_all_171 : decode cX8_all 171 = .ok (.goto (-110), 3) := by decide +kernel
theorem dX8_all_174 : decode cX8_all 174 = .ok (.return_, 1) := by decide +kernel
theorem dX8_cast_0 : decode cX8_cast 0 = .ok (.aload_n 0, 1) := by decide +kernel
theorem dX8_cast_1 : decode cX8_cast 1 = .ok (.aconst_null, 1) := by decide +kernel
theorem dX8_cast_2 : decode cX8_cast 2 = .ok (.putfield 53, 3) := by decide +kernel
theorem dX8_cast_5 : decode cX8_cast 5 = .ok (.aload_n 0, 1) := by decide +kernel
theorem dX8_cast_6 : decode cX8_cast 6 = .ok (.iload_n 1, 1) := by decide +kernel
theorem dX8_cast_7 : decode cX8_cast 7 = .ok (.iload_n 2, 1) := by decide +kernel
theorem dX8_cast_8 : decode cX8_cast 8 = .ok (.iload_n 3, 1) := by decide +kernel
theorem dX8_cast_9 : decode cX8_cast 9 = .ok (.aload_n 0, 1) := by decide +kernel
theorem dX8_cast_10 : decode cX8_cast 10 = .ok (.getfield 30, 3) := by decide +kernel
theorem dX8_cast_13 : decode cX8_cast 13 = .ok (.iload_n 1, 1) := by decide +kernel
theorem dX8_cast_14 : decode cX8_cast 14 = .ok (.aaload, 1) := by decide +kernel
theorem dX8_cast_15 : decode cX8_cast 15 = .ok (.arraylength, 1) := by decide +kernel
theorem dX8_cast_16 : decode cX8_cast 16 = .ok (.newarray .int, 2) := by decide +kernel
theorem dX8_cast_18 : decode cX8_cast 18 = .ok (.iconst 0, 1) := by decide +kernel
theorem dX8_cast_19 : decode cX8_cast 19 = .ok (.invokevirtual 73, 3) := by decide +kernel
theorem dX8_cast_22 : decode cX8_cast 22 = .ok (.aload_n 0, 1) := by decide +kernel
theorem dX8_cast_23 : decode cX8_cast 23 = .ok (.getfield 53, 3) := by decide +kernel
theorem dX8_cast_26 : decode cX8_cast 26 = .ok (.areturn, 1) := by decide +kernel
theorem dX8_rehearsals_0 : decode cX8_rehearsals 0 = .ok (.iconst 0, 1) := by decide +kernel
theorem dX8_rehearsals_1 : decode cX8_rehearsals 1 = .ok (.istore 4, 2) := by decide +kernel
theorem dX8_rehearsals_3 : decode cX8_rehearsals 3 = .ok (.iconst 0, 1) := by decide +kernel
theorem dX8_rehearsals_4 : decode cX8_rehearsals 4 = .ok (.istore 5, 2) := by decide +kernel
theorem dX8_rehearsals_6 : decode cX8_rehearsals 6 = .ok (.iload 5, 2) := by decide +kernel
theorem dX8_rehearsals_8 : decode cX8_rehearsals 8 = .ok (.aload_n 0, 1) := by decide +kernel
theorem dX8_rehearsals_9 : decode cX8_rehearsals 9 = .ok (.getfield 41, 3) := by decide +kernel
theorem dX8_rehearsals_12 : decode cX8_rehearsals 12 = .ok (.if_icmp .ge 60, 3) := by decide +kernel
theorem dX8_rehearsals_15 : decode cX8_rehearsals 15 = .ok (.iload 5, 2) := by decide +kernel
theorem dX8_rehearsals_17 : decode cX8_rehearsals 17 = .ok (.iload_n 3, 1) := by decide +kernel
theorem dX8_rehearsals_18 : decode cX8_rehearsals 18 = .ok (.if_icmp .eq 48, 3) := by decide +kernel
theorem dX8_rehearsals_21 : decode cX8_rehearsals 21 = .ok (.aload_n 0, 1) := by decide +kernel
theorem dX8_rehearsals_22 : decode cX8_rehearsals 22 = .ok (.getfield 33, 3) := by decide +kernel
theorem dX8_rehearsals_25 : decode cX8_rehearsals 25 = .ok (.iload 5, 2) := by decide +kernel
theorem dX8_rehearsals_27 : decode cX8_rehearsals 27 = .ok (.aaload, 1) := by decide +kernel
theorem dX8_rehearsals_28 : decode cX8_rehearsals 28 = .ok (.iconst 2, 1) := by decide +kernel
theorem dX8_rehearsals_29 : decode cX8_rehearsals 29 = .ok (.iaload, 1) := by decide +kernel
theorem dX8_rehearsals_30 : decode cX8_rehearsals 30 = .ok (.ifCond .ne 36, 3) := by decide +kernel
theorem dX8_rehearsals_33 : decode cX8_rehearsals 33 = .ok (.aload_n 0, 1) := by decide +kernel
theorem dX8_rehearsals_34 : decode cX8_rehearsals 34 = .ok (.getfield 33, 3) := by decide +kernel
theorem dX8_rehearsals_37 : decode cX8_rehearsals 37 = .ok (.iload 5, 2) := by decide +kernel
theorem dX8_rehearsals_39 : decode cX8_rehearsals 39 = .ok (.aaload, 1) := by decide +kernel
theorem dX8_rehearsals_40 : decode cX8_rehearsals 40 = .ok (.iconst 3, 1) := by decide +kernel
theorem dX8_rehearsals_41 : decode cX8_rehearsals 41 = .ok (.iaload, 1) := by decide +kernel
theorem dX8_rehearsals_42 : decode cX8_rehearsals 42 = .ok (.iload_n 1, 1) := by decide +kernel
theorem dX8_rehearsals_43 : decode cX8_rehearsals 43 = .ok (.ishr, 1) := by decide +kernel
theorem dX8_rehearsals_44 : decode cX8_rehearsals 44 = .ok (.iconst 1, 1) := by decide +kernel
theorem dX8_rehearsals_45 : decode cX8_rehearsals 45 = .ok (.iand, 1) := by decide +kernel
theorem dX8_rehearsals_46 : decode cX8_rehearsals 46 = .ok (.iconst 1, 1) := by decide +kernel
theorem dX8_rehearsals_47 : decode cX8_rehearsals 47 = .ok (.if_icmp .ne 19, 3) := by decide +kernel
theorem dX8_rehearsals_50 : decode cX8_rehearsals 50 = .ok (.aload_n 0, 1) := by decide +kernel
theorem dX8_rehearsals_51 : decode cX8_rehearsals 51 = .ok (.getfield 33, 3) := by decide +kernel
theorem dX8_rehearsals_54 : decode cX8_rehearsals 54 = .ok (.iload 5, 2) := by decide +kernel
theorem dX8_rehearsals_56 : decode cX8_rehearsals 56 = .ok (.aaload, 1) := by decide +kernel
theorem dX8_rehearsals_57 : decode cX8_rehearsals 57 = .ok (.iconst 0, 1) := by decide +kernel
theorem dX8_rehearsals_58 : decode cX8_rehearsals 58 = .ok (.iaload, 1) := by decide +kernel
theorem dX8_rehearsals_59 : decode cX8_rehearsals 59 = .ok (.iload_n 2, 1) := by decide +kernel
theorem dX8_rehearsals_60 : decode cX8_rehearsals 60 = .ok (.if_icmp .ge 6, 3) := by decide +kernel
theorem dX8_rehearsals_63 : decode cX8_rehearsals 63 = .ok (.iinc 4 1, 3) := by decide +kernel
theorem dX8_rehearsals_66 : decode cX8_rehearsals 66 = .ok (.iinc 5 1, 3) := by decide +kernel
theorem dX8_rehearsals_69 : decode cX8_rehearsals 69 = .ok (.goto (-63), 3) := by decide +kernel
theorem dX8_rehearsals_72 : decode cX8_rehearsals 72 = .ok (.iload 4, 2) := by decide +kernel
theorem dX8_rehearsals_74 : decode cX8_rehearsals 74 = .ok (.ireturn, 1) := by decide +kernel
theorem dX8_why_0 : decode cX8_why 0 = .ok (.aload_n 0, 1) := by decide +kernel
theorem dX8_why_1 : decode cX8_why 1 = .ok (.getfield 41, 3) := by decide +kernel
theorem dX8_why_4 : decode cX8_why 4 = .ok (.iload 5, 2) := by decide +kernel
theorem dX8_why_6 : decode cX8_why 6 = .ok (.ifCond .lt 7, 3) := by decide +kernel
theorem dX8_why_9 : decode cX8_why 9 = .ok (.iconst 1, 1) := by decide +kernel
theorem dX8_why_10 : decode cX8_why 10 = .ok (.goto 4, 3) := by decide +kernel
theorem dX8_why_13 : decode cX8_why 13 = .ok (.iconst 0, 1) := by decide +kernel
theorem dX8_why_14 : decode cX8_why 14 = .ok (.isub, 1) := by decide +kernel
theorem dX8_why_15 : decode cX8_why 15 = .ok (.bipush 20, 2) := by decide +kernel
theorem dX8_why_17 : decode cX8_why 17 = .ok (.if_icmp .ne 5, 3) := by decide +kernel
theorem dX8_why_20 : decode cX8_why 20 = .ok (.iconst 1, 1) := by decide +kernel
theorem dX8_why_21 : decode cX8_why 21 = .ok (.ireturn, 1) := by decide +kernel
theorem dX8_why_22 : decode cX8_why 22 = .ok (.iconst 0, 1) := by decide +kernel
theorem dX8_why_23 : decode cX8_why 23 = .ok (.istore 6, 2) := by decide +kernel
theorem dX8_why_25 : decode cX8_why 25 = .ok (.iload 6, 2) := by decide +kernel
theorem dX8_why_27 : decode cX8_why 27 = .ok (.aload_n 0, 1) := by decide +kernel
theorem dX8_why_28 : decode cX8_why 28 = .ok (.getfield 77, 3) := by decide +kernel
theorem dX8_why_31 : decode cX8_why 31 = .ok (.if_icmp .ge 51, 3) := by decide +kernel
theorem dX8_why_34 : decode cX8_why 34 = .ok (.iload_n 3, 1) := by decide +kernel
theorem dX8_why_35 : decode cX8_why 35 = .ok (.iload 6, 2) := by decide +kernel
theorem dX8_why_37 : decode cX8_why 37 = .ok (.ishr, 1) := by decide +kernel
theorem dX8_why_38 : decode cX8_why 38 = .ok (.iconst 1, 1) := by decide +kernel
theorem dX8_why_39 : decode cX8_why 39 = .ok (.iand, 1) := by decide +kernel
theorem dX8_why_40 : decode cX8_why 40 = .ok (.iconst 1, 1) := by decide +kernel
theorem dX8_why_41 : decode cX8_why 41 = .ok (.if_icmp .ne 35, 3) := by decide +kernel
theorem dX8_why_44 : decode cX8_why 44 = .ok (.iload_n 2, 1) := by decide +kernel
theorem dX8_why_45 : decode cX8_why 45 = .ok (.iconst 3, 1) := by decide +kernel
theorem dX8_why_46 : decode cX8_why 46 = .ok (.idiv, 1) := by decide +kernel
theorem dX8_why_47 : decode cX8_why 47 = .ok (.aload_n 0, 1) := by decide +kernel
theorem dX8_why_48 : decode cX8_why 48 = .ok (.getfield 27, 3) := by decide +kernel
theorem dX8_why_51 : decode cX8_why 51 = .ok (.iload 6, 2) := by decide +kernel
theorem dX8_why_53 : decode cX8_why 53 = .ok (.aaload, 1) := by decide +kernel
theorem dX8_why_54 : decode cX8_why 54 = .ok (.iconst 1, 1) := by decide +kernel
theorem dX8_why_55 : decode cX8_why 55 = .ok (.iaload, 1) := by decide +kernel
theorem dX8_why_56 : decode cX8_why 56 = .ok (.if_icmp .lt 18, 3) := by decide +kernel
theorem dX8_why_59 : decode cX8_why 59 = .ok (.iload_n 2, 1) := by decide +kernel
theorem dX8_why_60 : decode cX8_why 60 = .ok (.iconst 3, 1) := by decide +kernel
theorem dX8_why_61 : decode cX8_why 61 = .ok (.idiv, 1) := by decide +kernel
theorem dX8_why_62 : decode cX8_why 62 = .ok (.aload_n 0, 1) := by decide +kernel
theorem dX8_why_63 : decode cX8_why 63 = .ok (.getfield 27, 3) := by decide +kernel
theorem dX8_why_66 : decode cX8_why 66 = .ok (.iload 6, 2) := by decide +kernel
theorem dX8_why_68 : decode cX8_why 68 = .ok (.aaload, 1) := by decide +kernel
theorem dX8_why_69 : decode cX8_why 69 = .ok (.iconst 2, 1) := by decide +kernel
theorem dX8_why_70 : decode cX8_why 70 = .ok (.iaload, 1) := by decide +kernel
theorem dX8_why_71 : decode cX8_why 71 = .ok (.if_icmp .le 5, 3) := by decide +kernel
theorem dX8_why_74 : decode cX8_why 74 = .ok (.iconst 2, 1) := by decide +kernel
theorem dX8_why_75 : decode cX8_why 75 = .ok (.ireturn, 1) := by decide +kernel
theorem dX8_why_76 : decode cX8_why 76 = .ok (.iinc 6 1, 3) := by decide +kernel
theorem dX8_why_79 : decode cX8_why 79 = .ok (.goto (-54), 3) := by decide +kernel
theorem dX8_why_82 : decode cX8_why 82 = .ok (.iconst 0, 1) := by decide +kernel
theorem dX8_why_83 : decode cX8_why 83 = .ok (.istore 6, 2) := by decide +kernel
theorem dX8_why_85 : decode cX8_why 85 = .ok (.iload 6, 2) := by decide +kernel
theorem dX8_why_87 : decode cX8_why 87 = .ok (.aload_n 0, 1) := by decide +kernel
theorem dX8_why_88 : decode cX8_why 88 = .ok (.getfield 41, 3) := by decide +kernel
theorem dX8_why_91 : decode cX8_why 91 = .ok (.if_icmp .ge 54, 3) := by decide +kernel
theorem dX8_why_94 : decode cX8_why 94 = .ok (.iload 6, 2) := by decide +kernel
theorem dX8_why_96 : decode cX8_why 96 = .ok (.iload 5, 2) := by decide +kernel
theorem dX8_why_98 : decode cX8_why 98 = .ok (.if_icmp .eq 41, 3) := by decide +kernel
theorem dX8_why_101 : decode cX8_why 101 = .ok (.aload_n 0, 1) := by decide +kernel
theorem dX8_why_102 : decode cX8_why 102 = .ok (.getfield 33, 3) := by decide +kernel
theorem dX8_why_105 : decode cX8_why 105 = .ok (.iload 6, 2) := by decide +kernel
theorem dX8_why_107 : decode cX8_why 107 = .ok (.aaload, 1) := by decide +kernel
theorem dX8_why_108 : decode cX8_why 108 = .ok (.iconst 1, 1) := by decide +kernel
theorem dX8_why_109 : decode cX8_why 109 = .ok (.iaload, 1) := by decide +kernel
theorem dX8_why_110 : decode cX8_why 110 = .ok (.iload_n 1, 1) := by decide +kernel
theorem dX8_why_111 : decode cX8_why 111 = .ok (.if_icmp .ne 28, 3) := by decide +kernel
theorem dX8_why_114 : decode cX8_why 114 = .ok (.aload_n 0, 1) := by decide +kernel
theorem dX8_why_115 : decode cX8_why 115 = .ok (.getfield 33, 3) := by decide +kernel
theorem dX8_why_118 : decode cX8_why 118 = .ok (.iload 6, 2) := by decide +kernel
theorem dX8_why_120 : decode cX8_why 120 = .ok (.aaload, 1) := by decide +kernel
theorem dX8_why_121 : decode cX8_why 121 = .ok (.iconst 0, 1) := by decide +kernel
theorem dX8_why_122 : decode cX8_why 122 = .ok (.iaload, 1) := by decide +kernel
theorem dX8_why_123 : decode cX8_why 123 = .ok (.iload_n 2, 1) := by decide +kernel
theorem dX8_why_124 : decode cX8_why 124 = .ok (.isub, 1) := by decide +kernel
theorem dX8_why_125 : decode cX8_why 125 = .ok (.invokestatic 80, 3) := by decide +kernel
theorem dX8_why_128 : decode cX8_why 128 = .ok (.aload_n 0, 1) := by decide +kernel
theorem dX8_why_129 : decode cX8_why 129 = .ok (.getfield 7, 3) := by decide +kernel
theorem dX8_why_132 : decode cX8_why 132 = .ok (.iload_n 1, 1) := by decide +kernel
theorem dX8_why_133 : decode cX8_why 133 = .ok (.iaload, 1) := by decide +kernel
theorem dX8_why_134 : decode cX8_why 134 = .ok (.if_icmp .gt 5, 3) := by decide +kernel
theorem dX8_why_137 : decode cX8_why 137 = .ok (.iconst 3, 1) := by decide +kernel
theorem dX8_why_138 : decode cX8_why 138 = .ok (.ireturn, 1) := by decide +kernel
theorem dX8_why_139 : decode cX8_why 139 = .ok (.iinc 6 1, 3) := by decide +kernel
theorem dX8_why_142 : decode cX8_why 142 = .ok (.goto (-57), 3) := by decide +kernel
theorem dX8_why_145 : decode cX8_why 145 = .ok (.iconst 0, 1) := by decide +kernel
theorem dX8_why_146 : decode cX8_why 146 = .ok (.istore 6, 2) := by decide +kernel
theorem dX8_why_148 : decode cX8_why 148 = .ok (.iload 6, 2) := by decide +kernel
theorem dX8_why_150 : decode cX8_why 150 = .ok (.aload_n 0, 1) := by decide +kernel
theorem dX8_why_151 : decode cX8_why 151 = .ok (.getfield 77, 3) := by decide +kernel
theorem dX8_why_154 : decode cX8_why 154 = .ok (.if_icmp .ge 47, 3) := by decide +kernel
theorem dX8_why_157 : decode cX8_why 157 = .ok (.iload_n 3, 1) := by decide +kernel
theorem dX8_why_158 : decode cX8_why 158 = .ok (.iload 6, 2) := by decide +kernel
theorem dX8_why_160 : decode cX8_why 160 = .ok (.ishr, 1) := by decide +kernel
theorem dX8_why_161 : decode cX8_why 161 = .ok (.iconst 1, 1) := by decide +kernel
theorem dX8_why_162 : decode cX8_why 162 = .ok (.iand, 1) := by decide +kernel
theorem dX8_why_163 : decode cX8_why 163 = .ok (.iconst 1, 1) := by decide +kernel
theorem dX8_why_164 : decode cX8_why 164 = .ok (.if_icmp .ne 31, 3) := by decide +kernel
theorem dX8_why_167 : decode cX8_why 167 = .ok (.iload 4, 2) := by decide +kernel
theorem dX8_why_169 : decode cX8_why 169 = .ok (.ifCond .eq 26, 3) := by decide +kernel
theorem dX8_why_172 : decode cX8_why 172 = .ok (.aload_n 0, 1) := by decide +kernel
theorem dX8_why_173 : decode cX8_why 173 = .ok (.iload 6, 2) := by decide +kernel
theorem dX8_why_175 : decode cX8_why 175 = .ok (.iload_n 2, 1) := by decide +kernel
theorem dX8_why_176 : decode cX8_why 176 = .ok (.iload 5, 2) := by decide +kernel
theorem dX8_why_178 : decode cX8_why 178 = .ok (.invokevirtual 86, 3) := by decide +kernel
theorem dX8_why_181 : decode cX8_why 181 = .ok (.aload_n 0, 1) := by decide +kernel
theorem dX8_why_182 : decode cX8_why 182 = .ok (.getfield 27, 3) := by decide +kernel
theorem dX8_why_185 : decode cX8_why 185 = .ok (.iload 6, 2) := by decide +kernel
theorem dX8_why_187 : decode cX8_why 187 = .ok (.aaload, 1) := by decide +kernel
theorem dX8_why_188 : decode cX8_why 188 = .ok (.iconst 0, 1) := by decide +kernel
theorem dX8_why_189 : decode cX8_why 189 = .ok (.iaload, 1) := by decide +kernel
theorem dX8_why_190 : decode cX8_why 190 = .ok (.if_icmp .ge 5, 3) := by decide +kernel
theorem dX8_why_193 : decode cX8_why 193 = .ok (.iconst 4, 1) := by decide +kernel
theorem dX8_why_194 : decode cX8_why 194 = .ok (.ireturn, 1) := by decide +kernel
theorem dX8_why_195 : decode cX8_why 195 = .ok (.iinc 6 1, 3) := by decide +kernel
theorem dX8_why_198 : decode cX8_why 198 = .ok (.goto (-50), 3) := by decide +kernel
theorem dX8_why_201 : decode cX8_why 201 = .ok (.iconst 0, 1) := by decide +kernel
theorem dX8_why_202 : decode cX8_why 202 = .ok (.istore 6, 2) := by decide +kernel
theorem dX8_why_204 : decode cX8_why 204 = .ok (.iload 6, 2) := by decide +kernel
theorem dX8_why_206 : decode cX8_why 206 = .ok (.aload_n 0, 1) := by decide +kernel
theorem dX8_why_207 : decode cX8_why 207 = .ok (.getfield 77, 3) := by decide +kernel
theorem dX8_why_210 : decode cX8_why 210 = .ok (.if_icmp .ge 33, 3) := by decide +kernel
theorem dX8_why_213 : decode cX8_why 213 = .ok (.iload_n 3, 1) := by decide +kernel
theorem dX8_why_214 : decode cX8_why 214 = .ok (.iload 6, 2) := by decide +kernel
theorem dX8_why_216 : decode cX8_why 216 = .ok (.ishr, 1) := by decide +kernel
theorem dX8_why_217 : decode cX8_why 217 = .ok (.iconst 1, 1) := by decide +kernel
theorem dX8_why_218 : decode cX8_why 218 = .ok (.iand, 1) := by decide +kernel
theorem dX8_why_219 : decode cX8_why 219 = .ok (.iconst 1, 1) := by decide +kernel
theorem dX8_why_220 : decode cX8_why 220 = .ok (.if_icmp .ne 17, 3) := by decide +kernel
theorem dX8_why_223 : decode cX8_why 223 = .ok (.aload_n 0, 1) := by decide +kernel
theorem dX8_why_224 : decode cX8_why 224 = .ok (.iload 6, 2) := by decide +kernel
theorem dX8_why_226 : decode cX8_why 226 = .ok (.iload_n 2, 1) := by decide +kernel
theorem dX8_why_227 : decode cX8_why 227 = .ok (.iload 5, 2) := by decide +kernel
theorem dX8_why_229 : decode cX8_why 229 = .ok (.invokevirtual 90, 3) := by decide +kernel
theorem dX8_why_232 : decode cX8_why 232 = .ok (.ifnonnull 5, 3) := by decide +kernel
theorem dX8_why_235 : decode cX8_why 235 = .ok (.iconst 5, 1) := by decide +kernel
theorem dX8_why_236 : decode cX8_why 236 = .ok (.ireturn, 1) := by decide +kernel
theorem dX8_why_237 : decode cX8_why 237 = .ok (.iinc 6 1, 3) := by decide +kernel
theorem dX8_why_240 : decode cX8_why 240 = .ok (.goto (-36), 3) := by decide +kernel
theorem dX8_why_243 : decode cX8_why 243 = .ok (.iconst 0, 1) := by decide +kernel
theorem dX8_why_244 : decode cX8_why 244 = .ok (.ireturn, 1) := by decide +kernel
theorem dX8_isRehearsed_0 : decode cX8_isRehearsed 0 = .ok (.iconst 0, 1) := by decide +kernel
theorem dX8_isRehearsed_1 : decode cX8_isRehearsed 1 = .ok (.istore_n 1, 1) := by decide +kernel
theorem dX8_isRehearsed_2 : decode cX8_isRehearsed 2 = .ok (.iload_n 1, 1) := by decide +kernel
theorem dX8_isRehearsed_3 : decode cX8_isRehearsed 3 = .ok (.aload_n 0, 1) := by decide +kernel
theorem dX8_isRehearsed_4 : decode cX8_isRehearsed 4 = .ok (.getfield 41, 3) := by decide +kernel
theorem dX8_isRehearsed_7 : decode cX8_isRehearsed 7 = .ok (.if_icmp .ge 80, 3) := by decide +kernel
theorem dX8_isRehearsed_10 : decode cX8_isRehearsed 10 = .ok (.iconst 0, 1) := by decide +kernel
theorem dX8_isRehearsed_11 : decode cX8_isRehearsed 11 = .ok (.istore_n 2, 1) := by decide +kernel
theorem dX8_isRehearsed_12 : decode cX8_isRehearsed 12 = .ok (.iload_n 2, 1) := by decide +kernel
theorem dX8_isRehearsed_13 : decode cX8_isRehearsed 13 = .ok (.aload_n 0, 1) := by decide +kernel
theorem dX8_isRehearsed_14 : decode cX8_isRehearsed 14 = .ok (.getfield 77, 3) := by decide +kernel
theorem dX8_isRehearsed_17 : decode cX8_isRehearsed 17 = .ok (.if_icmp .ge 64, 3) := by decide +kernel
theorem dX8_isRehearsed_20 : decode cX8_isRehearsed 20 = .ok (.aload_n 0, 1) := by decide +kernel
theorem dX8_isRehearsed_21 : decode cX8_isRehearsed 21 = .ok (.getfield 33, 3) := by decide +kernel
theorem dX8_isRehearsed_24 : decode cX8_isRehearsed 24 = .ok (.iload_n 1, 1) := by decide +kernel
theorem dX8_isRehearsed_25 : decode cX8_isRehearsed 25 = .ok (.aaload, 1) := by decide +kernel
theorem dX8_isRehearsed_26 : decode cX8_isRehearsed 26 = .ok (.iconst 2, 1) := by decide +kernel
theorem dX8_isRehearsed_27 : decode cX8_isRehearsed 27 = .ok (.iaload, 1) := by decide +kernel
theorem dX8_isRehearsed_28 : decode cX8_isRehearsed 28 = .ok (.iconst 1, 1) := by decide +kernel
theorem dX8_isRehearsed_29 : decode cX8_isRehearsed 29 = .ok (.if_icmp .ne 46, 3) := by decide +kernel
theorem dX8_isRehearsed_32 : decode cX8_isRehearsed 32 = .ok (.aload_n 0, 1) := by decide +kernel
theorem dX8_isRehearsed_33 : decode cX8_isRehearsed 33 = .ok (.getfield 33, 3) := by decide +kernel
theorem dX8_isRehearsed_36 : decode cX8_isRehearsed 36 = .ok (.iload_n 1, 1) := by decide +kernel
theorem dX8_isRehearsed_37 : decode cX8_isRehearsed 37 = .ok (.aaload, 1) := by decide +kernel
theorem dX8_isRehearsed_38 : decode cX8_isRehearsed 38 = .ok (.iconst 3, 1) := by decide +kernel
theorem dX8_isRehearsed_39 : decode cX8_isRehearsed 39 = .ok (.iaload, 1) := by decide +kernel
theorem dX8_isRehearsed_40 : decode cX8_isRehearsed 40 = .ok (.iload_n 2, 1) := by decide +kernel
theorem dX8_isRehearsed_41 : decode cX8_isRehearsed 41 = .ok (.ishr, 1) := by decide +kernel
theorem dX8_isRehearsed_42 : decode cX8_isRehearsed 42 = .ok (.iconst 1, 1) := by decide +kernel
theorem dX8_isRehearsed_43 : decode cX8_isRehearsed 43 = .ok (.iand, 1) := by decide +kernel
theorem dX8_isRehearsed_44 : decode cX8_isRehearsed 44 = .ok (.iconst 1, 1) := by decide +kernel
theorem dX8_isRehearsed_45 : decode cX8_isRehearsed 45 = .ok (.if_icmp .ne 30, 3) := by decide +kernel
theorem dX8_isRehearsed_48 : decode cX8_isRehearsed 48 = .ok (.aload_n 0, 1) := by decide +kernel
theorem dX8_isRehearsed_49 : decode cX8_isRehearsed 49 = .ok (.iload_n 2, 1) := by decide +kernel
theorem dX8_isRehearsed_50 : decode cX8_isRehearsed 50 = .ok (.aload_n 0, 1) := by decide +kernel
theorem dX8_isRehearsed_51 : decode cX8_isRehearsed 51 = .ok (.getfield 33, 3) := by decide +kernel
theorem dX8_isRehearsed_54 : decode cX8_isRehearsed 54 = .ok (.iload_n 1, 1) := by decide +kernel
theorem dX8_isRehearsed_55 : decode cX8_isRehearsed 55 = .ok (.aaload, 1) := by decide +kernel
theorem dX8_isRehearsed_56 : decode cX8_isRehearsed 56 = .ok (.iconst 0, 1) := by decide +kernel
theorem dX8_isRehearsed_57 : decode cX8_isRehearsed 57 = .ok (.iaload, 1) := by decide +kernel
theorem dX8_isRehearsed_58 : decode cX8_isRehearsed 58 = .ok (.iconst (-1), 1) := by decide +kernel
theorem dX8_isRehearsed_59 : decode cX8_isRehearsed 59 = .ok (.invokevirtual 86, 3) := by decide +kernel
theorem dX8_isRehearsed_62 : decode cX8_isRehearsed 62 = .ok (.aload_n 0, 1) := by decide +kernel
theorem dX8_isRehearsed_63 : decode cX8_isRehearsed 63 = .ok (.getfield 27, 3) := by decide +kernel
theorem dX8_isRehearsed_66 : decode cX8_isRehearsed 66 = .ok (.iload_n 2, 1) := by decide +kernel
theorem dX8_isRehearsed_67 : decode cX8_isRehearsed 67 = .ok (.aaload, 1) := by decide +kernel
theorem dX8_isRehearsed_68 : decode cX8_isRehearsed 68 = .ok (.iconst 0, 1) := by decide +kernel
theorem dX8_isRehearsed_69 : decode cX8_isRehearsed 69 = .ok (.iaload, 1) := by decide +kernel
theorem dX8_isRehearsed_70 : decode cX8_isRehearsed 70 = .ok (.if_icmp .ge 5, 3) := by decide +kernel
theorem dX8_isRehearsed_73 : decode cX8_isRehearsed 73 = .ok (.iconst 0, 1) := by decide +kernel
theorem dX8_isRehearsed_74 : decode cX8_isRehearsed 74 = .ok (.ireturn, 1) := by decide +kernel
theorem dX8_isRehearsed_75 : decode cX8_isRehearsed 75 = .ok (.iinc 2 1, 3) := by decide +kernel
theorem dX8_isRehearsed_78 : decode cX8_isRehearsed 78 = .ok (.goto (-66), 3) := by decide +kernel
theorem dX8_isRehearsed_81 : decode cX8_isRehearsed 81 = .ok (.iinc 1 1, 3) := by decide +kernel
theorem dX8_isRehearsed_84 : decode cX8_isRehearsed 84 = .ok (.goto (-82), 3) := by decide +kernel
theorem dX8_isRehearsed_87 : decode cX8_isRehearsed 87 = .ok (.iconst 1, 1) := by decide +kernel
theorem dX8_isRehearsed_88 : decode cX8_isRehearsed 88 = .ok (.ireturn, 1) := by decide +kernel
theorem dX8_takesOff_0 : decode cX8_takesOff 0 = .ok (.aload_n 0, 1) := by decide +kernel
theorem dX8_takesOff_1 : decode cX8_takesOff 1 = .ok (.dup, 1) := by decide +kernel
theorem dX8_takesOff_2 : decode cX8_takesOff 2 = .ok (.getfield 41, 3) := by decide +kernel
theorem dX8_takesOff_5 : decode cX8_takesOff 5 = .ok (.iconst 1, 1) := by decide +kernel
theorem dX8_takesOff_6 : decode cX8_takesOff 6 = .ok (.isub, 1) := by decide +kernel
theorem dX8_takesOff_7 : decode cX8_takesOff 7 = .ok (.putfield 41, 3) := by decide +kernel
theorem dX8_takesOff_10 : decode cX8_takesOff 10 = .ok (.iload_n 1, 1) := by decide +kernel
theorem dX8_takesOff_11 : decode cX8_takesOff 11 = .ok (.istore_n 2, 1) := by decide +kernel
theorem dX8_takesOff_12 : decode cX8_takesOff 12 = .ok (.iload_n 2, 1) := by decide +kernel
theorem dX8_takesOff_13 : decode cX8_takesOff 13 = .ok (.aload_n 0, 1) := by decide +kernel
theorem dX8_takesOff_14 : decode cX8_takesOff 14 = .ok (.getfield 41, 3) := by decide +kernel
theorem dX8_takesOff_17 : decode cX8_takesOff 17 = .ok (.if_icmp .ge 37, 3) := by decide +kernel
theorem dX8_takesOff_20 : decode cX8_takesOff 20 = .ok (.aload_n 0, 1) := by decide +kernel
theorem dX8_takesOff_21 : decode cX8_takesOff 21 = .ok (.getfield 33, 3) := by decide +kernel
theorem dX8_takesOff_24 : decode cX8_takesOff 24 = .ok (.iload_n 2, 1) := by decide +kernel
theorem dX8_takesOff_25 : decode cX8_takesOff 25 = .ok (.aload_n 0, 1) := by decide +kernel
theorem dX8_takesOff_26 : decode cX8_takesOff 26 = .ok (.getfield 33, 3) := by decide +kernel
theorem dX8_takesOff_29 : decode cX8_takesOff 29 = .ok (.iload_n 2, 1) := by decide +kernel
theorem dX8_takesOff_30 : decode cX8_takesOff 30 = .ok (.iconst 1, 1) := by decide +kernel
theorem dX8_takesOff_31 : decode cX8_takesOff 31 = .ok (.iadd, 1) := by decide +kernel
theorem dX8_takesOff_32 : decode cX8_takesOff 32 = .ok (.aaload, 1) := by decide +kernel
theorem dX8_takesOff_33 : decode cX8_takesOff 33 = .ok (.aastore, 1) := by decide +kernel
theorem dX8_takesOff_34 : decode cX8_takesOff 34 = .ok (.aload_n 0, 1) := by decide +kernel
theorem dX8_takesOff_35 : decode cX8_takesOff 35 = .ok (.getfield 37, 3) := by decide +kernel
theorem dX8_takesOff_38 : decode cX8_takesOff 38 = .ok (.iload_n 2, 1) := by decide +kernel
theorem dX8_takesOff_39 : decode cX8_takesOff 39 = .ok (.aload_n 0, 1) := by decide +kernel
theorem dX8_takesOff_40 : decode cX8_takesOff 40 = .ok (.getfield 37, 3) := by decide +kernel
theorem dX8_takesOff_43 : decode cX8_takesOff 43 = .ok (.iload_n 2, 1) := by decide +kernel
theorem dX8_takesOff_44 : decode cX8_takesOff 44 = .ok (.iconst 1, 1) := by decide +kernel
theorem dX8_takesOff_45 : decode cX8_takesOff 45 = .ok (.iadd, 1) := by decide +kernel
theorem dX8_takesOff_46 : decode cX8_takesOff 46 = .ok (.aaload, 1) := by decide +kernel
theorem dX8_takesOff_47 : decode cX8_takesOff 47 = .ok (.aastore, 1) := by decide +kernel
theorem dX8_takesOff_48 : decode cX8_takesOff 48 = .ok (.iinc 2 1, 3) := by decide +kernel
theorem dX8_takesOff_51 : decode cX8_takesOff 51 = .ok (.goto (-39), 3) := by decide +kernel
theorem dX8_takesOff_54 : decode cX8_takesOff 54 = .ok (.return_, 1) := by decide +kernel
theorem dX8_comes_0 : decode cX8_comes 0 = .ok (.iconst 5, 1) := by decide +kernel
theorem dX8_comes_1 : decode cX8_comes 1 = .ok (.anewarray 22, 3) := by decide +kernel
theorem dX8_comes_4 : decode cX8_comes 4 = .ok (.astore 5, 2) := by decide +kernel
theorem dX8_comes_6 : decode cX8_comes 6 = .ok (.iconst 0, 1) := by decide +kernel
theorem dX8_comes_7 : decode cX8_comes 7 = .ok (.istore 6, 2) := by decide +kernel
theorem dX8_comes_9 : decode cX8_comes 9 = .ok (.iload 6, 2) := by decide +kernel
theorem dX8_comes_11 : decode cX8_comes 11 = .ok (.aload_n 0, 1) := by decide +kernel
theorem dX8_comes_12 : decode cX8_comes 12 = .ok (.getfield 77, 3) := by decide +kernel
theorem dX8_comes_15 : decode cX8_comes 15 = .ok (.if_icmp .ge 32, 3) := by decide +kernel
theorem dX8_comes_18 : decode cX8_comes 18 = .ok (.iload_n 3, 1) := by decide +kernel
theorem dX8_comes_19 : decode cX8_comes 19 = .ok (.iload 6, 2) := by decide +kernel
theorem dX8_comes_21 : decode cX8_comes 21 = .ok (.ishr, 1) := by decide +kernel
theorem dX8_comes_22 : decode cX8_comes 22 = .ok (.iconst 1, 1) := by decide +kernel
theorem dX8_comes_23 : decode cX8_comes 23 = .ok (.iand, 1) := by decide +kernel
theorem dX8_comes_24 : decode cX8_comes 24 = .ok (.iconst 1, 1) := by decide +kernel
theorem dX8_comes_25 : decode cX8_comes 25 = .ok (.if_icmp .ne 16, 3) := by decide +kernel
theorem dX8_comes_28 : decode cX8_comes 28 = .ok (.aload 5, 2) := by decide +kernel
theorem dX8_comes_30 : decode cX8_comes 30 = .ok (.iload 6, 2) := by decide +kernel
theorem dX8_comes_32 : decode cX8_comes 32 = .ok (.aload_n 0, 1) := by decide +kernel
theorem dX8_comes_33 : decode cX8_comes 33 = .ok (.iload 6, 2) := by decide +kernel
theorem dX8_comes_35 : decode cX8_comes 35 = .ok (.iload_n 2, 1) := by decide +kernel
theorem dX8_comes_36 : decode cX8_comes 36 = .ok (.iconst (-1), 1) := by decide +kernel
theorem dX8_comes_37 : decode cX8_comes 37 = .ok (.invokevirtual 90, 3) := by decide +kernel
theorem dX8_comes_40 : decode cX8_comes 40 = .ok (.aastore, 1) := by decide +kernel
theorem dX8_comes_41 : decode cX8_comes 41 = .ok (.iinc 6 1, 3) := by decide +kernel
theorem dX8_comes_44 : decode cX8_comes 44 = .ok (.goto (-35), 3) := by decide +kernel
theorem dX8_comes_47 : decode cX8_comes 47 = .ok (.aload_n 0, 1) := by decide +kernel
theorem dX8_comes_48 : decode cX8_comes 48 = .ok (.getfield 41, 3) := by decide +kernel
theorem dX8_comes_51 : decode cX8_comes 51 = .ok (.istore 6, 2) := by decide +kernel
theorem dX8_comes_53 : decode cX8_comes 53 = .ok (.iload 6, 2) := by decide +kernel
theorem dX8_comes_55 : decode cX8_comes 55 = .ok (.ifCond .le 86, 3) := by decide +kernel
theorem dX8_comes_58 : decode cX8_comes 58 = .ok (.aload_n 0, 1) := by decide +kernel
theorem dX8_comes_59 : decode cX8_comes 59 = .ok (.getfield 33, 3) := by decide +kernel
theorem dX8_comes_62 : decode cX8_comes 62 = .ok (.iload 6, 2) := by decide +kernel
theorem dX8_comes_64 : decode cX8_comes 64 = .ok (.iconst 1, 1) := by decide +kernel
theorem dX8_comes_65 : decode cX8_comes 65 = .ok (.isub, 1) := by decide +kernel
theorem dX8_comes_66 : decode cX8_comes 66 = .ok (.aaload, 1) := by decide +kernel
theorem dX8_comes_67 : decode cX8_comes 67 = .ok (.iconst 0, 1) := by decide +kernel
theorem dX8_comes_68 : decode cX8_comes 68 = .ok (.iaload, 1) := by decide +kernel
theorem dX8_comes_69 : decode cX8_comes 69 = .ok (.iload_n 2, 1) := by decide +kernel
theorem dX8_comes_70 : decode cX8_comes 70 = .ok (.if_icmp .gt 33, 3) := by decide +kernel
theorem dX8_comes_73 : decode cX8_comes 73 = .ok (.aload_n 0, 1) := by decide +kernel
theorem dX8_comes_74 : decode cX8_comes 74 = .ok (.getfield 33, 3) := by decide +kernel
theorem dX8_comes_77 : decode cX8_comes 77 = .ok (.iload 6, 2) := by decide +kernel
theorem dX8_comes_79 : decode cX8_comes 79 = .ok (.iconst 1, 1) := by decide +kernel
theorem dX8_comes_80 : decode cX8_comes 80 = .ok (.isub, 1) := by decide +kernel
theorem dX8_comes_81 : decode cX8_comes 81 = .ok (.aaload, 1) := by decide +kernel
theorem dX8_comes_82 : decode cX8_comes 82 = .ok (.iconst 0, 1) := by decide +kernel
theorem dX8_comes_83 : decode cX8_comes 83 = .ok (.iaload, 1) := by decide +kernel
theorem dX8_comes_84 : decode cX8_comes 84 = .ok (.iload_n 2, 1) := by decide +kernel
theorem dX8_comes_85 : decode cX8_comes 85 = .ok (.if_icmp .ne 56, 3) := by decide +kernel
theorem dX8_comes_88 : decode cX8_comes 88 = .ok (.aload_n 0, 1) := by decide +kernel
theorem dX8_comes_89 : decode cX8_comes 89 = .ok (.getfield 33, 3) := by decide +kernel
theorem dX8_comes_92 : decode cX8_comes 92 = .ok (.iload 6, 2) := by decide +kernel
theorem dX8_comes_94 : decode cX8_comes 94 = .ok (.iconst 1, 1) := by decide +kernel
theorem dX8_comes_95 : decode cX8_comes 95 = .ok (.isub, 1) := by decide +kernel
theorem dX8_comes_96 : decode cX8_comes 96 = .ok (.aaload, 1) := by decide +kernel
theorem dX8_comes_97 : decode cX8_comes 97 = .ok (.iconst 1, 1) := by decide +kernel
theorem dX8_comes_98 : decode cX8_comes 98 = .ok (.iaload, 1) := by decide +kernel
theorem dX8_comes_99 : decode cX8_comes 99 = .ok (.iload_n 1, 1) := by decide +kernel
theorem dX8_comes_100 : decode cX8_comes 100 = .ok (.if_icmp .le 41, 3) := by decide +kernel
theorem dX8_comes_103 : decode cX8_comes 103 = .ok (.aload_n 0, 1) := by decide +kernel
theorem dX8_comes_104 : decode cX8_comes 104 = .ok (.getfield 33, 3) := by decide +kernel
theorem dX8_comes_107 : decode cX8_comes 107 = .ok (.iload 6, 2) := by decide +kernel
theorem dX8_comes_109 : decode cX8_comes 109 = .ok (.aload_n 0, 1) := by decide +kernel
theorem dX8_comes_110 : decode cX8_comes 110 = .ok (.getfield 33, 3) := by decide +kernel
theorem dX8_comes_113 : decode cX8_comes 113 = .ok (.iload 6, 2) := by decide +kernel
theorem dX8_comes_115 : decode cX8_comes 115 = .ok (.iconst 1, 1) := by decide +kernel
theorem dX8_comes_116 : decode cX8_comes 116 = .ok (.isub, 1) := by decide +kernel
theorem dX8_comes_117 : decode cX8_comes 117 = .ok (.aaload, 1) := by decide +kernel
theorem dX8_comes_118 : decode cX8_comes 118 = .ok (.aastore, 1) := by decide +kernel
theorem dX8_comes_119 : decode cX8_comes 119 = .ok (.aload_n 0, 1) := by decide +kernel
theorem dX8_comes_120 : decode cX8_comes 120 = .ok (.getfield 37, 3) := by decide +kernel
theorem dX8_comes_123 : decode cX8_comes 123 = .ok (.iload 6, 2) := by decide +kernel
theorem dX8_comes_125 : decode cX8_comes 125 = .ok (.aload_n 0, 1) := by decide +kernel
theorem dX8_comes_126 : decode cX8_comes 126 = .ok (.getfield 37, 3) := by decide +kernel
theorem dX8_comes_129 : decode cX8_comes 129 = .ok (.iload 6, 2) := by decide +kernel
theorem dX8_comes_131 : decode cX8_comes 131 = .ok (.iconst 1, 1) := by decide +kernel
theorem dX8_comes_132 : decode cX8_comes 132 = .ok (.isub, 1) := by decide +kernel
theorem dX8_comes_133 : decode cX8_comes 133 = .ok (.aaload, 1) := by decide +kernel
theorem dX8_comes_134 : decode cX8_comes 134 = .ok (.aastore, 1) := by decide +kernel
theorem dX8_comes_135 : decode cX8_comes 135 = .ok (.iinc 6 (-1), 3) := by decide +kernel
theorem dX8_comes_138 : decode cX8_comes 138 = .ok (.goto (-85), 3) := by decide +kernel
theorem dX8_comes_141 : decode cX8_comes 141 = .ok (.aload_n 0, 1) := by decide +kernel
theorem dX8_comes_142 : decode cX8_comes 142 = .ok (.getfield 33, 3) := by decide +kernel
theorem dX8_comes_145 : decode cX8_comes 145 = .ok (.iload 6, 2) := by decide +kernel
theorem dX8_comes_147 : decode cX8_comes 147 = .ok (.iconst 4, 1) := by decide +kernel
theorem dX8_comes_148 : decode cX8_comes 148 = .ok (.newarray .int, 2) := by decide +kernel
theorem dX8_comes_150 : decode cX8_comes 150 = .ok (.dup, 1) := by decide +kernel
theorem dX8_comes_151 : decode cX8_comes 151 = .ok (.iconst 0, 1) := by decide +kernel
theorem dX8_comes_152 : decode cX8_comes 152 = .ok (.iload_n 2, 1) := by decide +kernel
theorem dX8_comes_153 : decode cX8_comes 153 = .ok (.iastore, 1) := by decide +kernel
theorem dX8_comes_154 : decode cX8_comes 154 = .ok (.dup, 1) := by decide +kernel
theorem dX8_comes_155 : decode cX8_comes 155 = .ok (.iconst 1, 1) := by decide +kernel
theorem dX8_comes_156 : decode cX8_comes 156 = .ok (.iload_n 1, 1) := by decide +kernel
theorem dX8_comes_157 : decode cX8_comes 157 = .ok (.iastore, 1) := by decide +kernel
theorem dX8_comes_158 : decode cX8_comes 158 = .ok (.dup, 1) := by decide +kernel
theorem dX8_comes_159 : decode cX8_comes 159 = .ok (.iconst 2, 1) := by decide +kernel
theorem dX8_comes_160 : decode cX8_comes 160 = .ok (.iload 4, 2) := by decide +kernel
theorem dX8_comes_162 : decode cX8_comes 162 = .ok (.ifCond .eq 7, 3) := by decide +kernel
theorem dX8_comes_165 : decode cX8_comes 165 = .ok (.iconst 1, 1) := by decide +kernel
theorem dX8_comes_166 : decode cX8_comes 166 = .ok (.goto 4, 3) := by decide +kernel
theorem dX8_comes_169 : decode cX8_comes 169 = .ok (.iconst 0, 1) := by decide +kernel
theorem dX8_comes_170 : decode cX8_comes 170 = .ok (.iastore, 1) := by decide +kernel
theorem dX8_comes_171 : decode cX8_comes 171 = .ok (.dup, 1) := by decide +kernel
theorem dX8_comes_172 : decode cX8_comes 172 = .ok (.iconst 3, 1) := by decide +kernel
theorem dX8_comes_173 : decode cX8_comes 173 = .ok (.iload_n 3, 1) := by decide +kernel
theorem dX8_comes_174 : decode cX8_comes 174 = .ok (.iastore, 1) := by decide +kernel
theorem dX8_comes_175 : decode cX8_comes 175 = .ok (.aastore, 1) := by decide +kernel
theorem dX8_comes_176 : decode cX8_comes 176 = .ok (.aload_n 0, 1) := by decide +kernel
theorem dX8_comes_177 : decode cX8_comes 177 = .ok (.getfield 37, 3) := by decide +kernel
theorem dX8_comes_180 : decode cX8_comes 180 = .ok (.iload 6, 2) := by decide +kernel
theorem dX8_comes_182 : decode cX8_comes 182 = .ok (.aload 5, 2) := by decide +kernel
theorem dX8_comes_184 : decode cX8_comes 184 = .ok (.aastore, 1) := by decide +kernel
theorem dX8_comes_185 : decode cX8_comes 185 = .ok (.aload_n 0, 1) := by decide +kernel
theorem dX8_comes_186 : decode cX8_comes 186 = .ok (.dup, 1) := by decide +kernel
theorem dX8_comes_187 : decode cX8_comes 187 = .ok (.getfield 41, 3) := by decide +kernel
theorem dX8_comes_190 : decode cX8_comes 190 = .ok (.iconst 1, 1) := by decide +kernel
theorem dX8_comes_191 : decode cX8_comes 191 = .ok (.iadd, 1) := by decide +kernel
theorem dX8_comes_192 : decode cX8_comes 192 = .ok (.putfield 41, 3) := by decide +kernel
theorem dX8_comes_195 : decode cX8_comes 195 = .ok (.iload 6, 2) := by decide +kernel
theorem dX8_comes_197 : decode cX8_comes 197 = .ok (.ireturn, 1) := by decide +kernel
theorem dX8_count_0 : decode cX8_count 0 = .ok (.iconst 0, 1) := by decide +kernel
theorem dX8_count_1 : decode cX8_count 1 = .ok (.istore_n 2, 1) := by decide +kernel
theorem dX8_count_2 : decode cX8_count 2 = .ok (.iconst 0, 1) := by decide +kernel
theorem dX8_count_3 : decode cX8_count 3 = .ok (.istore_n 3, 1) := by decide +kernel
theorem dX8_count_4 : decode cX8_count 4 = .ok (.iload_n 3, 1) := by decide +kernel
theorem dX8_count_5 : decode cX8_count 5 = .ok (.aload_n 0, 1) := by decide +kernel
theorem dX8_count_6 : decode cX8_count 6 = .ok (.getfield 41, 3) := by decide +kernel
theorem dX8_count_9 : decode cX8_count 9 = .ok (.if_icmp .ge 21, 3) := by decide +kernel
theorem dX8_count_12 : decode cX8_count 12 = .ok (.aload_n 0, 1) := by decide +kernel
theorem dX8_count_13 : decode cX8_count 13 = .ok (.iload_n 1, 1) := by decide +kernel
theorem dX8_count_14 : decode cX8_count 14 = .ok (.iload_n 3, 1) := by decide +kernel
theorem dX8_count_15 : decode cX8_count 15 = .ok (.invokevirtual 45, 3) := by decide +kernel
theorem dX8_count_18 : decode cX8_count 18 = .ok (.ifCond .eq 6, 3) := by decide +kernel
theorem dX8_count_21 : decode cX8_count 21 = .ok (.iinc 2 1, 3) := by decide +kernel
theorem dX8_count_24 : decode cX8_count 24 = .ok (.iinc 3 1, 3) := by decide +kernel
theorem dX8_count_27 : decode cX8_count 27 = .ok (.goto (-23), 3) := by decide +kernel
theorem dX8_count_30 : decode cX8_count 30 = .ok (.iload_n 2, 1) := by decide +kernel
theorem dX8_count_31 : decode cX8_count 31 = .ok (.ireturn, 1) := by decide +kernel
theorem dX8_twiceOf_0 : decode cX8_twiceOf 0 = .ok (.iconst 0, 1) := by decide +kernel
theorem dX8_twiceOf_1 : decode cX8_twiceOf 1 = .ok (.istore_n 2, 1) := by decide +kernel
theorem dX8_twiceOf_2 : decode cX8_twiceOf 2 = .ok (.iconst 0, 1) := by decide +kernel
theorem dX8_twiceOf_3 : decode cX8_twiceOf 3 = .ok (.istore_n 3, 1) := by decide +kernel
theorem dX8_twiceOf_4 : decode cX8_twiceOf 4 = .ok (.iload_n 3, 1) := by decide +kernel
theorem dX8_twiceOf_5 : decode cX8_twiceOf 5 = .ok (.aload_n 0, 1) := by decide +kernel
theorem dX8_twiceOf_6 : decode cX8_twiceOf 6 = .ok (.getfield 41, 3) := by decide +kernel
theorem dX8_twiceOf_9 : decode cX8_twiceOf 9 = .ok (.if_icmp .ge 103, 3) := by decide +kernel
theorem dX8_twiceOf_12 : decode cX8_twiceOf 12 = .ok (.iconst 0, 1) := by decide +kernel
theorem dX8_twiceOf_13 : decode cX8_twiceOf 13 = .ok (.istore 4, 2) := by decide +kernel
theorem dX8_twiceOf_15 : decode cX8_twiceOf 15 = .ok (.iload 4, 2) := by decide +kernel
theorem dX8_twiceOf_17 : decode cX8_twiceOf 17 = .ok (.aload_n 0, 1) := by decide +kernel
theorem dX8_twiceOf_18 : decode cX8_twiceOf 18 = .ok (.getfield 77, 3) := by decide +kernel
theorem dX8_twiceOf_21 : decode cX8_twiceOf 21 = .ok (.if_icmp .ge 85, 3) := by decide +kernel
theorem dX8_twiceOf_24 : decode cX8_twiceOf 24 = .ok (.iconst 0, 1) := by decide +kernel
theorem dX8_twiceOf_25 : decode cX8_twiceOf 25 = .ok (.istore 5, 2) := by decide +kernel
theorem dX8_twiceOf_27 : decode cX8_twiceOf 27 = .ok (.aload_n 0, 1) := by decide +kernel
theorem dX8_twiceOf_28 : decode cX8_twiceOf 28 = .ok (.getfield 37, 3) := by decide +kernel
theorem dX8_twiceOf_31 : decode cX8_twiceOf 31 = .ok (.iload_n 3, 1) := by decide +kernel
theorem dX8_twiceOf_32 : decode cX8_twiceOf 32 = .ok (.aaload, 1) := by decide +kernel
theorem dX8_twiceOf_33 : decode cX8_twiceOf 33 = .ok (.iload 4, 2) := by decide +kernel
theorem dX8_twiceOf_35 : decode cX8_twiceOf 35 = .ok (.aaload, 1) := by decide +kernel
theorem dX8_twiceOf_36 : decode cX8_twiceOf 36 = .ok (.ifnull 64, 3) := by decide +kernel
theorem dX8_twiceOf_39 : decode cX8_twiceOf 39 = .ok (.iload 5, 2) := by decide +kernel
theorem dX8_twiceOf_41 : decode cX8_twiceOf 41 = .ok (.aload_n 0, 1) := by decide +kernel
theorem dX8_twiceOf_42 : decode cX8_twiceOf 42 = .ok (.getfield 37, 3) := by decide +kernel
theorem dX8_twiceOf_45 : decode cX8_twiceOf 45 = .ok (.iload_n 3, 1) := by decide +kernel
theorem dX8_twiceOf_46 : decode cX8_twiceOf 46 = .ok (.aaload, 1) := by decide +kernel
theorem dX8_twiceOf_47 : decode cX8_twiceOf 47 = .ok (.iload 4, 2) := by decide +kernel
theorem dX8_twiceOf_49 : decode cX8_twiceOf 49 = .ok (.aaload, 1) := by decide +kernel
theorem dX8_twiceOf_50 : decode cX8_twiceOf 50 = .ok (.arraylength, 1) := by decide +kernel
theorem dX8_twiceOf_51 : decode cX8_twiceOf 51 = .ok (.if_icmp .ge 49, 3) := by decide +kernel
theorem dX8_twiceOf_54 : decode cX8_twiceOf 54 = .ok (.aload_n 0, 1) := by decide +kernel
theorem dX8_twiceOf_55 : decode cX8_twiceOf 55 = .ok (.getfield 37, 3) := by decide +kernel
theorem dX8_twiceOf_58 : decode cX8_twiceOf 58 = .ok (.iload_n 3, 1) := by decide +kernel
theorem dX8_twiceOf_59 : decode cX8_twiceOf 59 = .ok (.aaload, 1) := by decide +kernel
theorem dX8_twiceOf_60 : decode cX8_twiceOf 60 = .ok (.iload 4, 2) := by decide +kernel
theorem dX8_twiceOf_62 : decode cX8_twiceOf 62 = .ok (.aaload, 1) := by decide +kernel
theorem dX8_twiceOf_63 : decode cX8_twiceOf 63 = .ok (.iload 5, 2) := by decide +kernel
theorem dX8_twiceOf_65 : decode cX8_twiceOf 65 = .ok (.iaload, 1) := by decide +kernel
theorem dX8_twiceOf_66 : decode cX8_twiceOf 66 = .ok (.iload_n 1, 1) := by decide +kernel
theorem dX8_twiceOf_67 : decode cX8_twiceOf 67 = .ok (.if_icmp .ne 27, 3) := by decide +kernel
theorem dX8_twiceOf_70 : decode cX8_twiceOf 70 = .ok (.aload_n 0, 1) := by decide +kernel
theorem dX8_twiceOf_71 : decode cX8_twiceOf 71 = .ok (.getfield 23, 3) := by decide +kernel
theorem dX8_twiceOf_74 : decode cX8_twiceOf 74 = .ok (.iload_n 1, 1) := by decide +kernel
theorem dX8_twiceOf_75 : decode cX8_twiceOf 75 = .ok (.aaload, 1) := by decide +kernel
theorem dX8_twiceOf_76 : decode cX8_twiceOf 76 = .ok (.iconst 0, 1) := by decide +kernel
theorem dX8_twiceOf_77 : decode cX8_twiceOf 77 = .ok (.iaload, 1) := by decide +kernel
theorem dX8_twiceOf_78 : decode cX8_twiceOf 78 = .ok (.aload_n 0, 1) := by decide +kernel
theorem dX8_twiceOf_79 : decode cX8_twiceOf 79 = .ok (.getfield 30, 3) := by decide +kernel
theorem dX8_twiceOf_82 : decode cX8_twiceOf 82 = .ok (.iload 4, 2) := by decide +kernel
theorem dX8_twiceOf_84 : decode cX8_twiceOf 84 = .ok (.aaload, 1) := by decide +kernel
theorem dX8_twiceOf_85 : decode cX8_twiceOf 85 = .ok (.iload 5, 2) := by decide +kernel
theorem dX8_twiceOf_87 : decode cX8_twiceOf 87 = .ok (.iaload, 1) := by decide +kernel
theorem dX8_twiceOf_88 : decode cX8_twiceOf 88 = .ok (.if_icmp .eq 6, 3) := by decide +kernel
theorem dX8_twiceOf_91 : decode cX8_twiceOf 91 = .ok (.iinc 2 1, 3) := by decide +kernel
theorem dX8_twiceOf_94 : decode cX8_twiceOf 94 = .ok (.iinc 5 1, 3) := by decide +kernel
theorem dX8_twiceOf_97 : decode cX8_twiceOf 97 = .ok (.goto (-70), 3) := by decide +kernel
theorem dX8_twiceOf_100 : decode cX8_twiceOf 100 = .ok (.iinc 4 1, 3) := by decide +kernel
theorem dX8_twiceOf_103 : decode cX8_twiceOf 103 = .ok (.goto (-88), 3) := by decide +kernel
theorem dX8_twiceOf_106 : decode cX8_twiceOf 106 = .ok (.iinc 3 1, 3) := by decide +kernel
theorem dX8_twiceOf_109 : decode cX8_twiceOf 109 = .ok (.goto (-105), 3) := by decide +kernel
theorem dX8_twiceOf_112 : decode cX8_twiceOf 112 = .ok (.iload_n 2, 1) := by decide +kernel
theorem dX8_twiceOf_113 : decode cX8_twiceOf 113 = .ok (.ireturn, 1) := by decide +kernel
theorem dX8_rent_0 : decode cX8_rent 0 = .ok (.bipush 99, 2) := by decide +kernel
theorem dX8_rent_2 : decode cX8_rent 2 = .ok (.istore_n 2, 1) := by decide +kernel
theorem dX8_rent_3 : decode cX8_rent 3 = .ok (.iconst (-1), 1) := by decide +kernel
theorem dX8_rent_4 : decode cX8_rent 4 = .ok (.istore_n 3, 1) := by decide +kernel
theorem dX8_rent_5 : decode cX8_rent 5 = .ok (.iconst 0, 1) := by decide +kernel
theorem dX8_rent_6 : decode cX8_rent 6 = .ok (.istore 4, 2) := by decide +kernel
theorem dX8_rent_8 : decode cX8_rent 8 = .ok (.iload 4, 2) := by decide +kernel
theorem dX8_rent_10 : decode cX8_rent 10 = .ok (.aload_n 0, 1) := by decide +kernel
theorem dX8_rent_11 : decode cX8_rent 11 = .ok (.getfield 41, 3) := by decide +kernel
theorem dX8_rent_14 : decode cX8_rent 14 = .ok (.if_icmp .ge 60, 3) := by decide +kernel
theorem dX8_rent_17 : decode cX8_rent 17 = .ok (.aload_n 0, 1) := by decide +kernel
theorem dX8_rent_18 : decode cX8_rent 18 = .ok (.getfield 33, 3) := by decide +kernel
theorem dX8_rent_21 : decode cX8_rent 21 = .ok (.iload 4, 2) := by decide +kernel
theorem dX8_rent_23 : decode cX8_rent 23 = .ok (.aaload, 1) := by decide +kernel
theorem dX8_rent_24 : decode cX8_rent 24 = .ok (.iconst 3, 1) := by decide +kernel
theorem dX8_rent_25 : decode cX8_rent 25 = .ok (.iaload, 1) := by decide +kernel
theorem dX8_rent_26 : decode cX8_rent 26 = .ok (.iload_n 1, 1) := by decide +kernel
theorem dX8_rent_27 : decode cX8_rent 27 = .ok (.ishr, 1) := by decide +kernel
theorem dX8_rent_28 : decode cX8_rent 28 = .ok (.iconst 1, 1) := by decide +kernel
theorem dX8_rent_29 : decode cX8_rent 29 = .ok (.iand, 1) := by decide +kernel
theorem dX8_rent_30 : decode cX8_rent 30 = .ok (.ifCond .ne 6, 3) := by decide +kernel
theorem dX8_rent_33 : decode cX8_rent 33 = .ok (.goto 35, 3) := by decide +kernel
theorem dX8_rent_36 : decode cX8_rent 36 = .ok (.iload_n 2, 1) := by decide +kernel
theorem dX8_rent_37 : decode cX8_rent 37 = .ok (.aload_n 0, 1) := by decide +kernel
theorem dX8_rent_38 : decode cX8_rent 38 = .ok (.getfield 33, 3) := by decide +kernel
theorem dX8_rent_41 : decode cX8_rent 41 = .ok (.iload 4, 2) := by decide +kernel
theorem dX8_rent_43 : decode cX8_rent 43 = .ok (.aaload, 1) := by decide +kernel
theorem dX8_rent_44 : decode cX8_rent 44 = .ok (.iconst 0, 1) := by decide +kernel
theorem dX8_rent_45 : decode cX8_rent 45 = .ok (.iaload, 1) := by decide +kernel
theorem dX8_rent_46 : decode cX8_rent 46 = .ok (.iconst 3, 1) := by decide +kernel
theorem dX8_rent_47 : decode cX8_rent 47 = .ok (.idiv, 1) := by decide +kernel
theorem dX8_rent_48 : decode cX8_rent 48 = .ok (.invokestatic 94, 3) := by decide +kernel
theorem dX8_rent_51 : decode cX8_rent 51 = .ok (.istore_n 2, 1) := by decide +kernel
theorem dX8_rent_52 : decode cX8_rent 52 = .ok (.iload_n 3, 1) := by decide +kernel
theorem dX8_rent_53 : decode cX8_rent 53 = .ok (.aload_n 0, 1) := by decide +kernel
theorem dX8_rent_54 : decode cX8_rent 54 = .ok (.getfield 33, 3) := by decide +kernel
theorem dX8_rent_57 : decode cX8_rent 57 = .ok (.iload 4, 2) := by decide +kernel
theorem dX8_rent_59 : decode cX8_rent 59 = .ok (.aaload, 1) := by decide +kernel
theorem dX8_rent_60 : decode cX8_rent 60 = .ok (.iconst 0, 1) := by decide +kernel
theorem dX8_rent_61 : decode cX8_rent 61 = .ok (.iaload, 1) := by decide +kernel
theorem dX8_rent_62 : decode cX8_rent 62 = .ok (.iconst 3, 1) := by decide +kernel
theorem dX8_rent_63 : decode cX8_rent 63 = .ok (.idiv, 1) := by decide +kernel
theorem dX8_rent_64 : decode cX8_rent 64 = .ok (.invokestatic 98, 3) := by decide +kernel
theorem dX8_rent_67 : decode cX8_rent 67 = .ok (.istore_n 3, 1) := by decide +kernel
theorem dX8_rent_68 : decode cX8_rent 68 = .ok (.iinc 4 1, 3) := by decide +kernel
theorem dX8_rent_71 : decode cX8_rent 71 = .ok (.goto (-63), 3) := by decide +kernel
theorem dX8_rent_74 : decode cX8_rent 74 = .ok (.iload_n 3, 1) := by decide +kernel
theorem dX8_rent_75 : decode cX8_rent 75 = .ok (.ifCond .ge 7, 3) := by decide +kernel
theorem dX8_rent_78 : decode cX8_rent 78 = .ok (.iconst 0, 1) := by decide +kernel
theorem dX8_rent_79 : decode cX8_rent 79 = .ok (.goto 17, 3) := by decide +kernel
theorem dX8_rent_82 : decode cX8_rent 82 = .ok (.iload_n 3, 1) := by decide +kernel
theorem dX8_rent_83 : decode cX8_rent 83 = .ok (.iload_n 2, 1) := by decide +kernel
theorem dX8_rent_84 : decode cX8_rent 84 = .ok (.isub, 1) := by decide +kernel
theorem dX8_rent_85 : decode cX8_rent 85 = .ok (.iconst 1, 1) := by decide +kernel
theorem dX8_rent_86 : decode cX8_rent 86 = .ok (.iadd, 1) := by decide +kernel
theorem dX8_rent_87 : decode cX8_rent 87 = .ok (.aload_n 0, 1) := by decide +kernel
theorem dX8_rent_88 : decode cX8_rent 88 = .ok (.getfield 27, 3) := by decide +kernel
theorem dX8_rent_91 : decode cX8_rent 91 = .ok (.iload_n 1, 1) := by decide +kernel
theorem dX8_rent_92 : decode cX8_rent 92 = .ok (.aaload, 1) := by decide +kernel
theorem dX8_rent_93 : decode cX8_rent 93 = .ok (.iconst 3, 1) := by decide +kernel
theorem dX8_rent_94 : decode cX8_rent 94 = .ok (.iaload, 1) := by decide +kernel
theorem dX8_rent_95 : decode cX8_rent 95 = .ok (.imul, 1) := by decide +kernel
theorem dX8_rent_96 : decode cX8_rent 96 = .ok (.ireturn, 1) := by decide +kernel
theorem dX8_costs_0 : decode cX8_costs 0 = .ok (.iconst 0, 1) := by decide +kernel
theorem dX8_costs_1 : decode cX8_costs 1 = .ok (.istore_n 2, 1) := by decide +kernel
theorem dX8_costs_2 : decode cX8_costs 2 = .ok (.iconst 0, 1) := by decide +kernel
theorem dX8_costs_3 : decode cX8_costs 3 = .ok (.istore_n 3, 1) := by decide +kernel
theorem dX8_costs_4 : decode cX8_costs 4 = .ok (.iload_n 3, 1) := by decide +kernel
theorem dX8_costs_5 : decode cX8_costs 5 = .ok (.aload_n 0, 1) := by decide +kernel
theorem dX8_costs_6 : decode cX8_costs 6 = .ok (.getfield 77, 3) := by decide +kernel
theorem dX8_costs_9 : decode cX8_costs 9 = .ok (.if_icmp .ge 23, 3) := by decide +kernel
theorem dX8_costs_12 : decode cX8_costs 12 = .ok (.iload_n 1, 1) := by decide +kernel
theorem dX8_costs_13 : decode cX8_costs 13 = .ok (.iconst 3, 1) := by decide +kernel
theorem dX8_costs_14 : decode cX8_costs 14 = .ok (.irem, 1) := by decide +kernel
theorem dX8_costs_15 : decode cX8_costs 15 = .ok (.ifCond .ne 17, 3) := by decide +kernel
theorem dX8_costs_18 : decode cX8_costs 18 = .ok (.iload_n 2, 1) := by decide +kernel
theorem dX8_costs_19 : decode cX8_costs 19 = .ok (.aload_n 0, 1) := by decide +kernel
theorem dX8_costs_20 : decode cX8_costs 20 = .ok (.iload_n 3, 1) := by decide +kernel
theorem dX8_costs_21 : decode cX8_costs 21 = .ok (.invokevirtual 101, 3) := by decide +kernel
theorem dX8_costs_24 : decode cX8_costs 24 = .ok (.iadd, 1) := by decide +kernel
theorem dX8_costs_25 : decode cX8_costs 25 = .ok (.istore_n 2, 1) := by decide +kernel
theorem dX8_costs_26 : decode cX8_costs 26 = .ok (.iinc 3 1, 3) := by decide +kernel
theorem dX8_costs_29 : decode cX8_costs 29 = .ok (.goto (-25), 3) := by decide +kernel
theorem dX8_costs_32 : decode cX8_costs 32 = .ok (.iconst 0, 1) := by decide +kernel
theorem dX8_costs_33 : decode cX8_costs 33 = .ok (.istore_n 3, 1) := by decide +kernel
theorem dX8_costs_34 : decode cX8_costs 34 = .ok (.iload_n 3, 1) := by decide +kernel
theorem dX8_costs_35 : decode cX8_costs 35 = .ok (.aload_n 0, 1) := by decide +kernel
theorem dX8_costs_36 : decode cX8_costs 36 = .ok (.getfield 63, 3) := by decide +kernel
theorem dX8_costs_39 : decode cX8_costs 39 = .ok (.if_icmp .ge 63, 3) := by decide +kernel
theorem dX8_costs_42 : decode cX8_costs 42 = .ok (.iload_n 1, 1) := by decide +kernel
theorem dX8_costs_43 : decode cX8_costs 43 = .ok (.iconst 1, 1) := by decide +kernel
theorem dX8_costs_44 : decode cX8_costs 44 = .ok (.if_icmp .eq 8, 3) := by decide +kernel
theorem dX8_costs_47 : decode cX8_costs 47 = .ok (.iload_n 1, 1) := by decide +kernel
theorem dX8_costs_48 : decode cX8_costs 48 = .ok (.iconst 3, 1) := by decide +kernel
theorem dX8_costs_49 : decode cX8_costs 49 = .ok (.if_icmp .ne 29, 3) := by decide +kernel
theorem dX8_costs_52 : decode cX8_costs 52 = .ok (.iload_n 2, 1) := by decide +kernel
theorem dX8_costs_53 : decode cX8_costs 53 = .ok (.iconst 0, 1) := by decide +kernel
theorem dX8_costs_54 : decode cX8_costs 54 = .ok (.aload_n 0, 1) := by decide +kernel
theorem dX8_costs_55 : decode cX8_costs 55 = .ok (.iload_n 3, 1) := by decide +kernel
theorem dX8_costs_56 : decode cX8_costs 56 = .ok (.invokevirtual 104, 3) := by decide +kernel
theorem dX8_costs_59 : decode cX8_costs 59 = .ok (.aload_n 0, 1) := by decide +kernel
theorem dX8_costs_60 : decode cX8_costs 60 = .ok (.getfield 16, 3) := by decide +kernel
theorem dX8_costs_63 : decode cX8_costs 63 = .ok (.iload_n 3, 1) := by decide +kernel
theorem dX8_costs_64 : decode cX8_costs 64 = .ok (.iaload, 1) := by decide +kernel
theorem dX8_costs_65 : decode cX8_costs 65 = .ok (.isub, 1) := by decide +kernel
theorem dX8_costs_66 : decode cX8_costs 66 = .ok (.invokestatic 98, 3) := by decide +kernel
theorem dX8_costs_69 : decode cX8_costs 69 = .ok (.aload_n 0, 1) := by decide +kernel
theorem dX8_costs_70 : decode cX8_costs 70 = .ok (.getfield 13, 3) := by decide +kernel
theorem dX8_costs_73 : decode cX8_costs 73 = .ok (.iload_n 3, 1) := by decide +kernel
theorem dX8_costs_74 : decode cX8_costs 74 = .ok (.iaload, 1) := by decide +kernel
theorem dX8_costs_75 : decode cX8_costs 75 = .ok (.imul, 1) := by decide +kernel
theorem dX8_costs_76 : decode cX8_costs 76 = .ok (.iadd, 1) := by decide +kernel
theorem dX8_costs_77 : decode cX8_costs 77 = .ok (.istore_n 2, 1) := by decide +kernel
theorem dX8_costs_78 : decode cX8_costs 78 = .ok (.iload_n 1, 1) := by decide +kernel
theorem dX8_costs_79 : decode cX8_costs 79 = .ok (.iconst 1, 1) := by decide +kernel
theorem dX8_costs_80 : decode cX8_costs 80 = .ok (.if_icmp .le 16, 3) := by decide +kernel
theorem dX8_costs_83 : decode cX8_costs 83 = .ok (.iload_n 2, 1) := by decide +kernel
theorem dX8_costs_84 : decode cX8_costs 84 = .ok (.aload_n 0, 1) := by decide +kernel
theorem dX8_costs_85 : decode cX8_costs 85 = .ok (.iload_n 3, 1) := by decide +kernel
theorem dX8_costs_86 : decode cX8_costs 86 = .ok (.invokevirtual 107, 3) := by decide +kernel
theorem dX8_costs_89 : decode cX8_costs 89 = .ok (.aload_n 0, 1) := by decide +kernel
theorem dX8_costs_90 : decode cX8_costs 90 = .ok (.getfield 110, 3) := by decide +kernel
theorem dX8_costs_93 : decode cX8_costs 93 = .ok (.imul, 1) := by decide +kernel
theorem dX8_costs_94 : decode cX8_costs 94 = .ok (.iadd, 1) := by decide +kernel
theorem dX8_costs_95 : decode cX8_costs 95 = .ok (.istore_n 2, 1) := by decide +kernel
theorem dX8_costs_96 : decode cX8_costs 96 = .ok (.iinc 3 1, 3) := by decide +kernel
theorem dX8_costs_99 : decode cX8_costs 99 = .ok (.goto (-65), 3) := by decide +kernel
theorem dX8_costs_102 : decode cX8_costs 102 = .ok (.iload_n 2, 1) := by decide +kernel
theorem dX8_costs_103 : decode cX8_costs 103 = .ok (.ireturn, 1) := by decide +kernel
