theorem dX5_metres_4 : decode cX5_metres 4 = .ok (.iload_n 1, 1) := by decide +kernel
theorem dX5_metres_5 : decode cX5_metres 5 = .ok (.iaload, 1) := by decide +kernel
theorem dX5_metres_6 : decode cX5_metres 6 = .ok (.i2f, 1) := by decide +kernel
theorem dX5_metres_7 : decode cX5_metres 7 = .ok (.ldc 23, 2) := by decide +kernel
theorem dX5_metres_9 : decode cX5_metres 9 = .ok (.fdiv, 1) := by decide +kernel
theorem dX5_metres_10 : decode cX5_metres 10 = .ok (.freturn, 1) := by decide +kernel
theorem dX5_addClosed_0 : decode cX5_addClosed 0 = .ok (.aload_n 0, 1) := by decide +kernel
theorem dX5_addClosed_1 : decode cX5_addClosed 1 = .ok (.getfield 19, 3) := by decide +kernel
theorem dX5_addClosed_4 : decode cX5_addClosed 4 = .ok (.istore_n 2, 1) := by decide +kernel
theorem dX5_addClosed_5 : decode cX5_addClosed 5 = .ok (.aload_n 0, 1) := by decide +kernel
theorem dX5_addClosed_6 : decode cX5_addClosed 6 = .ok (.getfield 9, 3) := by decide +kernel
theorem dX5_addClosed_9 : decode cX5_addClosed 9 = .ok (.iload_n 2, 1) := by decide +kernel
theorem dX5_addClosed_10 : decode cX5_addClosed 10 = .ok (.iload_n 1, 1) := by decide +kernel
theorem dX5_addClosed_11 : decode cX5_addClosed 11 = .ok (.iastore, 1) := by decide +kernel
theorem dX5_addClosed_12 : decode cX5_addClosed 12 = .ok (.aload_n 0, 1) := by decide +kernel
theorem dX5_addClosed_13 : decode cX5_addClosed 13 = .ok (.getfield 15, 3) := by decide +kernel
theorem dX5_addClosed_16 : decode cX5_addClosed 16 = .ok (.iload_n 2, 1) := by decide +kernel
theorem dX5_addClosed_17 : decode cX5_addClosed 17 = .ok (.iconst 0, 1) := by decide +kernel
theorem dX5_addClosed_18 : decode cX5_addClosed 18 = .ok (.bastore, 1) := by decide +kernel
theorem dX5_addClosed_19 : decode cX5_addClosed 19 = .ok (.aload_n 0, 1) := by decide +kernel
theorem dX5_addClosed_20 : decode cX5_addClosed 20 = .ok (.dup, 1) := by decide +kernel
theorem dX5_addClosed_21 : decode cX5_addClosed 21 = .ok (.getfield 19, 3) := by decide +kernel
theorem dX5_addClosed_24 : decode cX5_addClosed 24 = .ok (.iconst 1, 1) := by decide +kernel
theorem dX5_addClosed_25 : decode cX5_addClosed 25 = .ok (.iadd, 1) := by decide +kernel
theorem dX5_addClosed_26 : decode cX5_addClosed 26 = .ok (.putfield 19, 3) := by decide +kernel
theorem dX5_addClosed_29 : decode cX5_addClosed 29 = .ok (.iload_n 2, 1) := by decide +kernel
theorem dX5_addClosed_30 : decode cX5_addClosed 30 = .ok (.ireturn, 1) := by decide +kernel
theorem dX5_errorOfOpening_0 : decode cX5_errorOfOpening 0 = .ok (.aload_n 0, 1) := by decide +kernel
theorem dX5_errorOfOpening_1 : decode cX5_errorOfOpening 1 = .ok (.iload_n 1, 1) := by decide +kernel
theorem dX5_errorOfOpening_2 : decode cX5_errorOfOpening 2 = .ok (.invokevirtual 24, 3) := by decide +kernel
theorem dX5_errorOfOpening_5 : decode cX5_errorOfOpening 5 = .ok (.ifCond .ne 5, 3) := by decide +kernel
theorem dX5_errorOfOpening_8 : decode cX5_errorOfOpening 8 = .ok (.iconst (-1), 1) := by decide +kernel
theorem dX5_errorOfOpening_9 : decode cX5_errorOfOpening 9 = .ok (.ireturn, 1) := by decide +kernel
theorem dX5_errorOfOpening_10 : decode cX5_errorOfOpening 10 = .ok (.aload_n 0, 1) := by decide +kernel
theorem dX5_errorOfOpening_11 : decode cX5_errorOfOpening 11 = .ok (.getfield 15, 3) := by decide +kernel
theorem dX5_errorOfOpening_14 : decode cX5_errorOfOpening 14 = .ok (.iload_n 1, 1) := by decide +kernel
theorem dX5_errorOfOpening_15 : decode cX5_errorOfOpening 15 = .ok (.baload, 1) := by decide +kernel
theorem dX5_errorOfOpening_16 : decode cX5_errorOfOpening 16 = .ok (.ifCond .eq 8, 3) := by decide +kernel
theorem dX5_errorOfOpening_19 : decode cX5_errorOfOpening 19 = .ok (.bipush (-3), 2) := by decide +kernel
theorem dX5_errorOfOpening_21 : decode cX5_errorOfOpening 21 = .ok (.goto 4, 3) := by decide +kernel
theorem dX5_errorOfOpening_24 : decode cX5_errorOfOpening 24 = .ok (.iconst 0, 1) := by decide +kernel
theorem dX5_errorOfOpening_25 : decode cX5_errorOfOpening 25 = .ok (.ireturn, 1) := by decide +kernel
theorem dX5_markOpen_0 : decode cX5_markOpen 0 = .ok (.aload_n 0, 1) := by decide +kernel
theorem dX5_markOpen_1 : decode cX5_markOpen 1 = .ok (.getfield 15, 3) := by decide +kernel
theorem dX5_markOpen_4 : decode cX5_markOpen 4 = .ok (.iload_n 1, 1) := by decide +kernel
theorem dX5_markOpen_5 : decode cX5_markOpen 5 = .ok (.iconst 1, 1) := by decide +kernel
theorem dX5_markOpen_6 : decode cX5_markOpen 6 = .ok (.bastore, 1) := by decide +kernel
theorem dX5_markOpen_7 : decode cX5_markOpen 7 = .ok (.return_, 1) := by decide +kernel
theorem dX5_countClosed_0 : decode cX5_countClosed 0 = .ok (.iconst 0, 1) := by decide +kernel
theorem dX5_countClosed_1 : decode cX5_countClosed 1 = .ok (.istore_n 1, 1) := by decide +kernel
theorem dX5_countClosed_2 : decode cX5_countClosed 2 = .ok (.iconst 0, 1) := by decide +kernel
theorem dX5_countClosed_3 : decode cX5_countClosed 3 = .ok (.istore_n 2, 1) := by decide +kernel
theorem dX5_countClosed_4 : decode cX5_countClosed 4 = .ok (.iload_n 2, 1) := by decide +kernel
theorem dX5_countClosed_5 : decode cX5_countClosed 5 = .ok (.aload_n 0, 1) := by decide +kernel
theorem dX5_countClosed_6 : decode cX5_countClosed 6 = .ok (.getfield 19, 3) := by decide +kernel
theorem dX5_countClosed_9 : decode cX5_countClosed 9 = .ok (.if_icmp .ge 21, 3) := by decide +kernel
theorem dX5_countClosed_12 : decode cX5_countClosed 12 = .ok (.aload_n 0, 1) := by decide +kernel
theorem dX5_countClosed_13 : decode cX5_countClosed 13 = .ok (.getfield 15, 3) := by decide +kernel
theorem dX5_countClosed_16 : decode cX5_countClosed 16 = .ok (.iload_n 2, 1) := by decide +kernel
theorem dX5_countClosed_17 : decode cX5_countClosed 17 = .ok (.baload, 1) := by decide +kernel
theorem dX5_countClosed_18 : decode cX5_countClosed 18 = .ok (.ifCond .ne 6, 3) := by decide +kernel
theorem dX5_countClosed_21 : decode cX5_countClosed 21 = .ok (.iinc 1 1, 3) := by decide +kernel
theorem dX5_countClosed_24 : decode cX5_countClosed 24 = .ok (.iinc 2 1, 3) := by decide +kernel
theorem dX5_countClosed_27 : decode cX5_countClosed 27 = .ok (.goto (-23), 3) := by decide +kernel
theorem dX5_countClosed_30 : decode cX5_countClosed 30 = .ok (.iload_n 1, 1) := by decide +kernel
theorem dX5_countClosed_31 : decode cX5_countClosed 31 = .ok (.ireturn, 1) := by decide +kernel
theorem dX5_nextBelow_0 : decode cX5_nextBelow 0 = .ok (.bipush (-5), 2) := by decide +kernel
theorem dX5_nextBelow_2 : decode cX5_nextBelow 2 = .ok (.istore_n 2, 1) := by decide +kernel
theorem dX5_nextBelow_3 : decode cX5_nextBelow 3 = .ok (.iconst 0, 1) := by decide +kernel
theorem dX5_nextBelow_4 : decode cX5_nextBelow 4 = .ok (.istore_n 3, 1) := by decide +kernel
theorem dX5_nextBelow_5 : decode cX5_nextBelow 5 = .ok (.iconst 0, 1) := by decide +kernel
theorem dX5_nextBelow_6 : decode cX5_nextBelow 6 = .ok (.istore 4, 2) := by decide +kernel
theorem dX5_nextBelow_8 : decode cX5_nextBelow 8 = .ok (.iload 4, 2) := by decide +kernel
theorem dX5_nextBelow_10 : decode cX5_nextBelow 10 = .ok (.aload_n 0, 1) := by decide +kernel
theorem dX5_nextBelow_11 : decode cX5_nextBelow 11 = .ok (.getfield 19, 3) := by decide +kernel
theorem dX5_nextBelow_14 : decode cX5_nextBelow 14 = .ok (.if_icmp .ge 52, 3) := by decide +kernel
theorem dX5_nextBelow_17 : decode cX5_nextBelow 17 = .ok (.aload_n 0, 1) := by decide +kernel
theorem dX5_nextBelow_18 : decode cX5_nextBelow 18 = .ok (.getfield 15, 3) := by decide +kernel
theorem dX5_nextBelow_21 : decode cX5_nextBelow 21 = .ok (.iload 4, 2) := by decide +kernel
theorem dX5_nextBelow_23 : decode cX5_nextBelow 23 = .ok (.baload, 1) := by decide +kernel
theorem dX5_nextBelow_24 : decode cX5_nextBelow 24 = .ok (.ifCond .ne 36, 3) := by decide +kernel
theorem dX5_nextBelow_27 : decode cX5_nextBelow 27 = .ok (.aload_n 0, 1) := by decide +kernel
theorem dX5_nextBelow_28 : decode cX5_nextBelow 28 = .ok (.getfield 9, 3) := by decide +kernel
theorem dX5_nextBelow_31 : decode cX5_nextBelow 31 = .ok (.iload 4, 2) := by decide +kernel
theorem dX5_nextBelow_33 : decode cX5_nextBelow 33 = .ok (.iaload, 1) := by decide +kernel
theorem dX5_nextBelow_34 : decode cX5_nextBelow 34 = .ok (.iload_n 3, 1) := by decide +kernel
theorem dX5_nextBelow_35 : decode cX5_nextBelow 35 = .ok (.if_icmp .le 25, 3) := by decide +kernel
theorem dX5_nextBelow_38 : decode cX5_nextBelow 38 = .ok (.aload_n 0, 1) := by decide +kernel
theorem dX5_nextBelow_39 : decode cX5_nextBelow 39 = .ok (.iload 4, 2) := by decide +kernel
theorem dX5_nextBelow_41 : decode cX5_nextBelow 41 = .ok (.invokevirtual 28, 3) := by decide +kernel
theorem dX5_nextBelow_44 : decode cX5_nextBelow 44 = .ok (.fload_n 1, 1) := by decide +kernel
theorem dX5_nextBelow_45 : decode cX5_nextBelow 45 = .ok (.fcmp .g, 1) := by decide +kernel
theorem dX5_nextBelow_46 : decode cX5_nextBelow 46 = .ok (.ifCond .ge 14, 3) := by decide +kernel
theorem dX5_nextBelow_49 : decode cX5_nextBelow 49 = .ok (.iload 4, 2) := by decide +kernel
theorem dX5_nextBelow_51 : decode cX5_nextBelow 51 = .ok (.istore_n 2, 1) := by decide +kernel
theorem dX5_nextBelow_52 : decode cX5_nextBelow 52 = .ok (.aload_n 0, 1) := by decide +kernel
theorem dX5_nextBelow_53 : decode cX5_nextBelow 53 = .ok (.getfield 9, 3) := by decide +kernel
theorem dX5_nextBelow_56 : decode cX5_nextBelow 56 = .ok (.iload 4, 2) := by decide +kernel
theorem dX5_nextBelow_58 : decode cX5_nextBelow 58 = .ok (.iaload, 1) := by decide +kernel
theorem dX5_nextBelow_59 : decode cX5_nextBelow 59 = .ok (.istore_n 3, 1) := by decide +kernel
theorem dX5_nextBelow_60 : decode cX5_nextBelow 60 = .ok (.iinc 4 1, 3) := by decide +kernel
theorem dX5_nextBelow_63 : decode cX5_nextBelow 63 = .ok (.goto (-55), 3) := by decide +kernel
theorem dX5_nextBelow_66 : decode cX5_nextBelow 66 = .ok (.iload_n 2, 1) := by decide +kernel
theorem dX5_nextBelow_67 : decode cX5_nextBelow 67 = .ok (.ireturn, 1) := by decide +kernel
theorem dX5_closedNear_0 : decode cX5_closedNear 0 = .ok (.iconst 0, 1) := by decide +kernel
theorem dX5_closedNear_1 : decode cX5_closedNear 1 = .ok (.istore_n 2, 1) := by decide +kernel
theorem dX5_closedNear_2 : decode cX5_closedNear 2 = .ok (.iload_n 2, 1) := by decide +kernel
theorem dX5_closedNear_3 : decode cX5_closedNear 3 = .ok (.aload_n 0, 1) := by decide +kernel
theorem dX5_closedNear_4 : decode cX5_closedNear 4 = .ok (.getfield 19, 3) := by decide +kernel
theorem dX5_closedNear_7 : decode cX5_closedNear 7 = .ok (.if_icmp .ge 36, 3) := by decide +kernel
theorem dX5_closedNear_10 : decode cX5_closedNear 10 = .ok (.aload_n 0, 1) := by decide +kernel
theorem dX5_closedNear_11 : decode cX5_closedNear 11 = .ok (.getfield 15, 3) := by decide +kernel
theorem dX5_closedNear_14 : decode cX5_closedNear 14 = .ok (.iload_n 2, 1) := by decide +kernel
theorem dX5_closedNear_15 : decode cX5_closedNear 15 = .ok (.baload, 1) := by decide +kernel
theorem dX5_closedNear_16 : decode cX5_closedNear 16 = .ok (.ifCond .ne 21, 3) := by decide +kernel
theorem dX5_closedNear_19 : decode cX5_closedNear 19 = .ok (.fload_n 1, 1) := by decide +kernel
theorem dX5_closedNear_20 : decode cX5_closedNear 20 = .ok (.aload_n 0, 1) := by decide +kernel
theorem dX5_closedNear_21 : decode cX5_closedNear 21 = .ok (.iload_n 2, 1) := by decide +kernel
theorem dX5_closedNear_22 : decode cX5_closedNear 22 = .ok (.invokevirtual 28, 3) := by decide +kernel
theorem dX5_closedNear_25 : decode cX5_closedNear 25 = .ok (.fsub, 1) := by decide +kernel
theorem dX5_closedNear_26 : decode cX5_closedNear 26 = .ok (.invokestatic 32, 3) := by decide +kernel
theorem dX5_closedNear_29 : decode cX5_closedNear 29 = .ok (.ldc 36, 2) := by decide +kernel
theorem dX5_closedNear_31 : decode cX5_closedNear 31 = .ok (.fcmp .g, 1) := by decide +kernel
theorem dX5_closedNear_32 : decode cX5_closedNear 32 = .ok (.ifCond .ge 5, 3) := by decide +kernel
theorem dX5_closedNear_35 : decode cX5_closedNear 35 = .ok (.iload_n 2, 1) := by decide +kernel
theorem dX5_closedNear_36 : decode cX5_closedNear 36 = .ok (.ireturn, 1) := by decide +kernel
theorem dX5_closedNear_37 : decode cX5_closedNear 37 = .ok (.iinc 2 1, 3) := by decide +kernel
theorem dX5_closedNear_40 : decode cX5_closedNear 40 = .ok (.goto (-38), 3) := by decide +kernel
theorem dX5_closedNear_43 : decode cX5_closedNear 43 = .ok (.bipush (-5), 2) := by decide +kernel
theorem dX5_closedNear_45 : decode cX5_closedNear 45 = .ok (.ireturn, 1) := by decide +kernel
theorem dX6_init_0 : decode cX6_init 0 = .ok (.aload_n 0, 1) := by decide +kernel
theorem dX6_init_1 : decode cX6_init 1 = .ok (.invokespecial 1, 3) := by decide +kernel
theorem dX6_init_4 : decode cX6_init 4 = .ok (.aload_n 0, 1) := by decide +kernel
theorem dX6_init_5 : decode cX6_init 5 = .ok (.new 7, 3) := by decide +kernel
theorem dX6_init_8 : decode cX6_init 8 = .ok (.dup, 1) := by decide +kernel
theorem dX6_init_9 : decode cX6_init 9 = .ok (.invokespecial 9, 3) := by decide +kernel
theorem dX6_init_12 : decode cX6_init 12 = .ok (.putfield 10, 3) := by decide +kernel
theorem dX6_init_15 : decode cX6_init 15 = .ok (.aload_n 0, 1) := by decide +kernel
theorem dX6_init_16 : decode cX6_init 16 = .ok (.new 7, 3) := by decide +kernel
theorem dX6_init_19 : decode cX6_init 19 = .ok (.dup, 1) := by decide +kernel
theorem dX6_init_20 : decode cX6_init 20 = .ok (.invokespecial 9, 3) := by decide +kernel
theorem dX6_init_23 : decode cX6_init 23 = .ok (.putfield 16, 3) := by decide +kernel
theorem dX6_init_26 : decode cX6_init 26 = .ok (.aload_n 0, 1) := by decide +kernel
theorem dX6_init_27 : decode cX6_init 27 = .ok (.new 19, 3) := by decide +kernel
theorem dX6_init_30 : decode cX6_init 30 = .ok (.dup, 1) := by decide +kernel
theorem dX6_init_31 : decode cX6_init 31 = .ok (.invokespecial 21, 3) := by decide +kernel
theorem dX6_init_34 : decode cX6_init 34 = .ok (.putfield 22, 3) := by decide +kernel
theorem dX6_init_37 : decode cX6_init 37 = .ok (.aload_n 0, 1) := by decide +kernel
theorem dX6_init_38 : decode cX6_init 38 = .ok (.iconst 2, 1) := by decide +kernel
theorem dX6_init_39 : decode cX6_init 39 = .ok (.anewarray 7, 3) := by decide +kernel
theorem dX6_init_42 : decode cX6_init 42 = .ok (.putfield 26, 3) := by decide +kernel
theorem dX6_init_45 : decode cX6_init 45 = .ok (.iconst 0, 1) := by decide +kernel
theorem dX6_init_46 : decode cX6_init 46 = .ok (.istore_n 1, 1) := by decide +kernel
theorem dX6_init_47 : decode cX6_init 47 = .ok (.iload_n 1, 1) := by decide +kernel
theorem dX6_init_48 : decode cX6_init 48 = .ok (.iconst 2, 1) := by decide +kernel
theorem dX6_init_49 : decode cX6_init 49 = .ok (.if_icmp .ge 22, 3) := by decide +kernel
theorem dX6_init_52 : decode cX6_init 52 = .ok (.aload_n 0, 1) := by decide +kernel
theorem dX6_init_53 : decode cX6_init 53 = .ok (.getfield 26, 3) := by decide +kernel
theorem dX6_init_56 : decode cX6_init 56 = .ok (.iload_n 1, 1) := by decide +kernel
theorem dX6_init_57 : decode cX6_init 57 = .ok (.new 7, 3) := by decide +kernel
theorem dX6_init_60 : decode cX6_init 60 = .ok (.dup, 1) := by decide +kernel
theorem dX6_init_61 : decode cX6_init 61 = .ok (.invokespecial 9, 3) := by decide +kernel
theorem dX6_init_64 : decode cX6_init 64 = .ok (.aastore, 1) := by decide +kernel
theorem dX6_init_65 : decode cX6_init 65 = .ok (.iinc 1 1, 3) := by decide +kernel
theorem dX6_init_68 : decode cX6_init 68 = .ok (.goto (-21), 3) := by decide +kernel
theorem dX6_init_71 : decode cX6_init 71 = .ok (.aload_n 0, 1) := by decide +kernel
theorem dX6_init_72 : decode cX6_init 72 = .ok (.iconst 2, 1) := by decide +kernel
theorem dX6_init_73 : decode cX6_init 73 = .ok (.newarray .boolean, 2) := by decide +kernel
theorem dX6_init_75 : decode cX6_init 75 = .ok (.putfield 30, 3) := by decide +kernel
theorem dX6_init_78 : decode cX6_init 78 = .ok (.aload_n 0, 1) := by decide +kernel
theorem dX6_init_79 : decode cX6_init 79 = .ok (.new 34, 3) := by decide +kernel
theorem dX6_init_82 : decode cX6_init 82 = .ok (.dup, 1) := by decide +kernel
theorem dX6_init_83 : decode cX6_init 83 = .ok (.invokespecial 36, 3) := by decide +kernel
theorem dX6_init_86 : decode cX6_init 86 = .ok (.putfield 37, 3) := by decide +kernel
theorem dX6_init_89 : decode cX6_init 89 = .ok (.return_, 1) := by decide +kernel
theorem dX6_place_0 : decode cX6_place 0 = .ok (.iload_n 1, 1) := by decide +kernel
theorem dX6_place_1 : decode cX6_place 1 = .ok (.iconst 1, 1) := by decide +kernel
theorem dX6_place_2 : decode cX6_place 2 = .ok (.if_icmp .lt 39, 3) := by decide +kernel
theorem dX6_place_5 : decode cX6_place 5 = .ok (.iload_n 1, 1) := by decide +kernel
theorem dX6_place_6 : decode cX6_place 6 = .ok (.ldc 41, 2) := by decide +kernel
theorem dX6_place_8 : decode cX6_place 8 = .ok (.if_icmp .gt 33, 3) := by decide +kernel
theorem dX6_place_11 : decode cX6_place 11 = .ok (.iload_n 2, 1) := by decide +kernel
theorem dX6_place_12 : decode cX6_place 12 = .ok (.ldc 41, 2) := by decide +kernel
theorem dX6_place_14 : decode cX6_place 14 = .ok (.invokestatic 42, 3) := by decide +kernel
theorem dX6_place_17 : decode cX6_place 17 = .ok (.ifCond .ne 24, 3) := by decide +kernel
theorem dX6_place_20 : decode cX6_place 20 = .ok (.iload_n 3, 1) := by decide +kernel
theorem dX6_place_21 : decode cX6_place 21 = .ok (.sipush 5000, 3) := by decide +kernel
theorem dX6_place_24 : decode cX6_place 24 = .ok (.invokestatic 42, 3) := by decide +kernel
theorem dX6_place_27 : decode cX6_place 27 = .ok (.ifCond .ne 14, 3) := by decide +kernel
theorem dX6_place_30 : decode cX6_place 30 = .ok (.iload 4, 2) := by decide +kernel
theorem dX6_place_32 : decode cX6_place 32 = .ok (.sipush 5000, 3) := by decide +kernel
theorem dX6_place_35 : decode cX6_place 35 = .ok (.invokestatic 42, 3) := by decide +kernel
theorem dX6_place_38 : decode cX6_place 38 = .ok (.ifCond .eq 6, 3) := by decide +kernel
theorem dX6_place_41 : decode cX6_place 41 = .ok (.bipush (-2), 2) := by decide +kernel
theorem dX6_place_43 : decode cX6_place 43 = .ok (.ireturn, 1) := by decide +kernel
theorem dX6_place_44 : decode cX6_place 44 = .ok (.aload_n 0, 1) := by decide +kernel
theorem dX6_place_45 : decode cX6_place 45 = .ok (.getfield 22, 3) := by decide +kernel
theorem dX6_place_48 : decode cX6_place 48 = .ok (.aload_n 0, 1) := by decide +kernel
theorem dX6_place_49 : decode cX6_place 49 = .ok (.getfield 10, 3) := by decide +kernel
theorem dX6_place_52 : decode cX6_place 52 = .ok (.invokevirtual 46, 3) := by decide +kernel
theorem dX6_place_55 : decode cX6_place 55 = .ok (.aload_n 0, 1) := by decide +kernel
theorem dX6_place_56 : decode cX6_place 56 = .ok (.getfield 10, 3) := by decide +kernel
theorem dX6_place_59 : decode cX6_place 59 = .ok (.iload_n 1, 1) := by decide +kernel
theorem dX6_place_60 : decode cX6_place 60 = .ok (.i2f, 1) := by decide +kernel
theorem dX6_place_61 : decode cX6_place 61 = .ok (.ldc 50, 2) := by decide +kernel
theorem dX6_place_63 : decode cX6_place 63 = .ok (.fdiv, 1) := by decide +kernel
theorem dX6_place_64 : decode cX6_place 64 = .ok (.iload_n 2, 1) := by decide +kernel
theorem dX6_place_65 : decode cX6_place 65 = .ok (.i2f, 1) := by decide +kernel
theorem dX6_place_66 : decode cX6_place 66 = .ok (.ldc 50, 2) := by decide +kernel
theorem dX6_place_68 : decode cX6_place 68 = .ok (.fdiv, 1) := by decide +kernel
theorem dX6_place_69 : decode cX6_place 69 = .ok (.iload_n 3, 1) := by decide +kernel
theorem dX6_place_70 : decode cX6_place 70 = .ok (.i2f, 1) := by decide +kernel
theorem dX6_place_71 : decode cX6_place 71 = .ok (.ldc 51, 2) := by decide +kernel
theorem dX6_place_73 : decode cX6_place 73 = .ok (.fdiv, 1) := by decide +kernel
theorem dX6_place_74 : decode cX6_place 74 = .ok (.iload 4, 2) := by decide +kernel
theorem dX6_place_76 : decode cX6_place 76 = .ok (.i2f, 1) := by decide +kernel
theorem dX6_place_77 : decode cX6_place 77 = .ok (.ldc 51, 2) := by decide +kernel
theorem dX6_place_79 : decode cX6_place 79 = .ok (.fdiv, 1) := by decide +kernel
theorem dX6_place_80 : decode cX6_place 80 = .ok (.invokevirtual 52, 3) := by decide +kernel
theorem dX6_place_83 : decode cX6_place 83 = .ok (.aload_n 0, 1) := by decide +kernel
theorem dX6_place_84 : decode cX6_place 84 = .ok (.getfield 10, 3) := by decide +kernel
theorem dX6_place_87 : decode cX6_place 87 = .ok (.invokevirtual 56, 3) := by decide +kernel
theorem dX6_place_90 : decode cX6_place 90 = .ok (.ireturn, 1) := by decide +kernel
theorem dX6_set_0 : decode cX6_set 0 = .ok (.iload_n 1, 1) := by decide +kernel
theorem dX6_set_1 : decode cX6_set 1 = .ok (.ifCond .lt 9, 3) := by decide +kernel
theorem dX6_set_4 : decode cX6_set 4 = .ok (.iload_n 1, 1) := by decide +kernel
theorem dX6_set_5 : decode cX6_set 5 = .ok (.bipush 8, 2) := by decide +kernel
theorem dX6_set_7 : decode cX6_set 7 = .ok (.if_icmp .lt 5, 3) := by decide +kernel
theorem dX6_set_10 : decode cX6_set 10 = .ok (.iconst (-1), 1) := by decide +kernel
theorem dX6_set_11 : decode cX6_set 11 = .ok (.ireturn, 1) := by decide +kernel
theorem dX6_set_12 : decode cX6_set 12 = .ok (.iload_n 2, 1) := by decide +kernel
theorem dX6_set_13 : decode cX6_set 13 = .ok (.getstatic 60, 3) := by decide +kernel
theorem dX6_set_16 : decode cX6_set 16 = .ok (.iload_n 1, 1) := by decide +kernel
theorem dX6_set_17 : decode cX6_set 17 = .ok (.iaload, 1) := by decide +kernel
theorem dX6_set_18 : decode cX6_set 18 = .ok (.if_icmp .lt 12, 3) := by decide +kernel
theorem dX6_set_21 : decode cX6_set 21 = .ok (.iload_n 2, 1) := by decide +kernel
theorem dX6_set_22 : decode cX6_set 22 = .ok (.getstatic 64, 3) := by decide +kernel
theorem dX6_set_25 : decode cX6_set 25 = .ok (.iload_n 1, 1) := by decide +kernel
theorem dX6_set_26 : decode cX6_set 26 = .ok (.iaload, 1) := by decide +kernel
theorem dX6_set_27 : decode cX6_set 27 = .ok (.if_icmp .le 6, 3) := by decide +kernel
theorem dX6_set_30 : decode cX6_set 30 = .ok (.bipush (-2), 2) := by decide +kernel
theorem dX6_set_32 : decode cX6_set 32 = .ok (.ireturn, 1) := by decide +kernel
theorem dX6_set_33 : decode cX6_set 33 = .ok (.aload_n 0, 1) := by decide +kernel
theorem dX6_set_34 : decode cX6_set 34 = .ok (.getfield 22, 3) := by decide +kernel
theorem dX6_set_37 : decode cX6_set 37 = .ok (.aload_n 0, 1) := by decide +kernel
theorem dX6_set_38 : decode cX6_set 38 = .ok (.getfield 10, 3) := by decide +kernel
theorem dX6_set_41 : decode cX6_set 41 = .ok (.invokevirtual 46, 3) := by decide +kernel
theorem dX6_set_44 : decode cX6_set 44 = .ok (.aload_n 0, 1) := by decide +kernel
theorem dX6_set_45 : decode cX6_set 45 = .ok (.getfield 10, 3) := by decide +kernel
theorem dX6_set_48 : decode cX6_set 48 = .ok (.getfield 67, 3) := by decide +kernel
theorem dX6_set_51 : decode cX6_set 51 = .ok (.iload_n 1, 1) := by decide +kernel
theorem dX6_set_52 : decode cX6_set 52 = .ok (.iaload, 1) := by decide +kernel
theorem dX6_set_53 : decode cX6_set 53 = .ok (.istore_n 3, 1) := by decide +kernel
theorem dX6_set_54 : decode cX6_set 54 = .ok (.aload_n 0, 1) := by decide +kernel
theorem dX6_set_55 : decode cX6_set 55 = .ok (.getfield 10, 3) := by decide +kernel
theorem dX6_set_58 : decode cX6_set 58 = .ok (.getfield 67, 3) := by decide +kernel
theorem dX6_set_61 : decode cX6_set 61 = .ok (.iload_n 1, 1) := by decide +kernel
theorem dX6_set_62 : decode cX6_set 62 = .ok (.iload_n 2, 1) := by decide +kernel
theorem dX6_set_63 : decode cX6_set 63 = .ok (.iastore, 1) := by decide +kernel
theorem dX6_set_64 : decode cX6_set 64 = .ok (.iload_n 3, 1) := by decide +kernel
theorem dX6_set_65 : decode cX6_set 65 = .ok (.ireturn, 1) := by decide +kernel
theorem dX6_setPoint_0 : decode cX6_setPoint 0 = .ok (.iload_n 1, 1) := by decide +kernel
theorem dX6_setPoint_1 : decode cX6_setPoint 1 = .ok (.ifCond .lt 21, 3) := by decide +kernel
theorem dX6_setPoint_4 : decode cX6_setPoint 4 = .ok (.iload_n 1, 1) := by decide +kernel
theorem dX6_setPoint_5 : decode cX6_setPoint 5 = .ok (.ldc 41, 2) := by decide +kernel
theorem dX6_setPoint_7 : decode cX6_setPoint 7 = .ok (.if_icmp .gt 15, 3) := by decide +kernel
theorem dX6_setPoint_10 : decode cX6_setPoint 10 = .ok (.iload_n 2, 1) := by decide +kernel
theorem dX6_setPoint_11 : decode cX6_setPoint 11 = .ok (.iconst 1, 1) := by decide +kernel
theorem dX6_setPoint_12 : decode cX6_setPoint 12 = .ok (.if_icmp .lt 10, 3) := by decide +kernel
theorem dX6_setPoint_15 : decode cX6_setPoint 15 = .ok (.iload_n 2, 1) := by decide +kernel
theorem dX6_setPoint_16 : decode cX6_setPoint 16 = .ok (.sipush 5000, 3) := by decide +kernel
theorem dX6_setPoint_19 : decode cX6_setPoint 19 = .ok (.if_icmp .le 6, 3) := by decide +kernel
theorem dX6_setPoint_22 : decode cX6_setPoint 22 = .ok (.bipush (-2), 2) := by decide +kernel
theorem dX6_setPoint_24 : decode cX6_setPoint 24 = .ok (.ireturn, 1) := by decide +kernel
theorem dX6_setPoint_25 : decode cX6_setPoint 25 = .ok (.aload_n 0, 1) := by decide +kernel
theorem dX6_setPoint_26 : decode cX6_setPoint 26 = .ok (.getfield 10, 3) := by decide +kernel
theorem dX6_setPoint_29 : decode cX6_setPoint 29 = .ok (.getfield 70, 3) := by decide +kernel
theorem dX6_setPoint_32 : decode cX6_setPoint 32 = .ok (.iload_n 1, 1) := by decide +kernel
theorem dX6_setPoint_33 : decode cX6_setPoint 33 = .ok (.invokevirtual 74, 3) := by decide +kernel
theorem dX6_setPoint_36 : decode cX6_setPoint 36 = .ok (.ifCond .ne 6, 3) := by decide +kernel
theorem dX6_setPoint_39 : decode cX6_setPoint 39 = .ok (.bipush (-4), 2) := by decide +kernel
theorem dX6_setPoint_41 : decode cX6_setPoint 41 = .ok (.ireturn, 1) := by decide +kernel
theorem dX6_setPoint_42 : decode cX6_setPoint 42 = .ok (.aload_n 0, 1) := by decide +kernel
theorem dX6_setPoint_43 : decode cX6_setPoint 43 = .ok (.getfield 22, 3) := by decide +kernel
theorem dX6_setPoint_46 : decode cX6_setPoint 46 = .ok (.aload_n 0, 1) := by decide +kernel
theorem dX6_setPoint_47 : decode cX6_setPoint 47 = .ok (.getfield 10, 3) := by decide +kernel
theorem dX6_setPoint_50 : decode cX6_setPoint 50 = .ok (.invokevirtual 46, 3) := by decide +kernel
theorem dX6_setPoint_53 : decode cX6_setPoint 53 = .ok (.aload_n 0, 1) := by decide +kernel
theorem dX6_setPoint_54 : decode cX6_setPoint 54 = .ok (.getfield 10, 3) := by decide +kernel
theorem dX6_setPoint_57 : decode cX6_setPoint 57 = .ok (.getfield 70, 3) := by decide +kernel
theorem dX6_setPoint_60 : decode cX6_setPoint 60 = .ok (.iload_n 1, 1) := by decide +kernel
theorem dX6_setPoint_61 : decode cX6_setPoint 61 = .ok (.iload_n 2, 1) := by decide +kernel
theorem dX6_setPoint_62 : decode cX6_setPoint 62 = .ok (.invokevirtual 80, 3) := by decide +kernel
theorem dX6_setPoint_65 : decode cX6_setPoint 65 = .ok (.aload_n 0, 1) := by decide +kernel
theorem dX6_setPoint_66 : decode cX6_setPoint 66 = .ok (.getfield 10, 3) := by decide +kernel
theorem dX6_setPoint_69 : decode cX6_setPoint 69 = .ok (.getfield 70, 3) := by decide +kernel
theorem dX6_setPoint_72 : decode cX6_setPoint 72 = .ok (.getfield 84, 3) := by decide +kernel
theorem dX6_setPoint_75 : decode cX6_setPoint 75 = .ok (.ireturn, 1) := by decide +kernel
theorem dX6_addStop_0 : decode cX6_addStop 0 = .ok (.iload_n 1, 1) := by decide +kernel
theorem dX6_addStop_1 : decode cX6_addStop 1 = .ok (.iconst 1, 1) := by decide +kernel
theorem dX6_addStop_2 : decode cX6_addStop 2 = .ok (.if_icmp .lt 9, 3) := by decide +kernel
theorem dX6_addStop_5 : decode cX6_addStop 5 = .ok (.iload_n 1, 1) := by decide +kernel
theorem dX6_addStop_6 : decode cX6_addStop 6 = .ok (.ldc 41, 2) := by decide +kernel
theorem dX6_addStop_8 : decode cX6_addStop 8 = .ok (.if_icmp .le 6, 3) := by decide +kernel
theorem dX6_addStop_11 : decode cX6_addStop 11 = .ok (.bipush (-2), 2) := by decide +kernel
theorem dX6_addStop_13 : decode cX6_addStop 13 = .ok (.ireturn, 1) := by decide +kernel
theorem dX6_addStop_14 : decode cX6_addStop 14 = .ok (.aload_n 0, 1) := by decide +kernel
theorem dX6_addStop_15 : decode cX6_addStop 15 = .ok (.getfield 10, 3) := by decide +kernel
theorem dX6_addStop_18 : decode cX6_addStop 18 = .ok (.getfield 88, 3) := by decide +kernel
theorem dX6_addStop_21 : decode cX6_addStop 21 = .ok (.getfield 92, 3) := by decide +kernel
theorem dX6_addStop_24 : decode cX6_addStop 24 = .ok (.iconst 4, 1) := by decide +kernel
theorem dX6_addStop_25 : decode cX6_addStop 25 = .ok (.if_icmp .lt 6, 3) := by decide +kernel
theorem dX6_addStop_28 : decode cX6_addStop 28 = .ok (.bipush (-4), 2) := by decide +kernel
theorem dX6_addStop_30 : decode cX6_addStop 30 = .ok (.ireturn, 1) := by decide +kernel
theorem dX6_addStop_31 : decode cX6_addStop 31 = .ok (.aload_n 0, 1) := by decide +kernel
theorem dX6_addStop_32 : decode cX6_addStop 32 = .ok (.getfield 22, 3) := by decide +kernel
theorem dX6_addStop_35 : decode cX6_addStop 35 = .ok (.aload_n 0, 1) := by decide +kernel
theorem dX6_addStop_36 : decode cX6_addStop 36 = .ok (.getfield 10, 3) := by decide +kernel
theorem dX6_addStop_39 : decode cX6_addStop 39 = .ok (.invokevirtual 46, 3) := by decide +kernel
theorem dX6_addStop_42 : decode cX6_addStop 42 = .ok (.aload_n 0, 1) := by decide +kernel
theorem dX6_addStop_43 : decode cX6_addStop 43 = .ok (.getfield 10, 3) := by decide +kernel
theorem dX6_addStop_46 : decode cX6_addStop 46 = .ok (.getfield 88, 3) := by decide +kernel
theorem dX6_addStop_49 : decode cX6_addStop 49 = .ok (.iload_n 1, 1) := by decide +kernel
theorem dX6_addStop_50 : decode cX6_addStop 50 = .ok (.invokevirtual 95, 3) := by decide +kernel
theorem dX6_addStop_53 : decode cX6_addStop 53 = .ok (.ireturn, 1) := by decide +kernel
theorem dX6_setBias_0 : decode cX6_setBias 0 = .ok (.iload_n 2, 1) := by decide +kernel
theorem dX6_setBias_1 : decode cX6_setBias 1 = .ok (.sipush 500, 3) := by decide +kernel
theorem dX6_setBias_4 : decode cX6_setBias 4 = .ok (.invokestatic 42, 3) := by decide +kernel
theorem dX6_setBias_7 : decode cX6_setBias 7 = .ok (.ifCond .eq 6, 3) := by decide +kernel
theorem dX6_setBias_10 : decode cX6_setBias 10 = .ok (.bipush (-2), 2) := by decide +kernel
theorem dX6_setBias_12 : decode cX6_setBias 12 = .ok (.ireturn, 1) := by decide +kernel
theorem dX6_setBias_13 : decode cX6_setBias 13 = .ok (.aload_n 0, 1) := by decide +kernel
theorem dX6_setBias_14 : decode cX6_setBias 14 = .ok (.getfield 22, 3) := by decide +kernel
theorem dX6_setBias_17 : decode cX6_setBias 17 = .ok (.aload_n 0, 1) := by decide +kernel
theorem dX6_setBias_18 : decode cX6_setBias 18 = .ok (.getfield 10, 3) := by decide +kernel
theorem dX6_setBias_21 : decode cX6_setBias 21 = .ok (.invokevirtual 46, 3) := by decide +kernel
theorem dX6_setBias_24 : decode cX6_setBias 24 = .ok (.aload_n 0, 1) := by decide +kernel
theorem dX6_setBias_25 : decode cX6_setBias 25 = .ok (.getfield 10, 3) := by decide +kernel
theorem dX6_setBias_28 : decode cX6_setBias 28 = .ok (.getfield 99, 3) := by decide +kernel
theorem dX6_setBias_31 : decode cX6_setBias 31 = .ok (.astore_n 3, 1) := by decide +kernel
theorem dX6_setBias_32 : decode cX6_setBias 32 = .ok (.iload_n 1, 1) := by decide +kernel
theorem dX6_setBias_33 : decode cX6_setBias 33 = .ok (.ifCond .eq 11, 3) := by decide +kernel
theorem dX6_setBias_36 : decode cX6_setBias 36 = .ok (.aload_n 3, 1) := by decide +kernel
theorem dX6_setBias_37 : decode cX6_setBias 37 = .ok (.iload_n 2, 1) := by decide +kernel
theorem dX6_setBias_38 : decode cX6_setBias 38 = .ok (.putfield 103, 3) := by decide +kernel
theorem dX6_setBias_41 : decode cX6_setBias 41 = .ok (.goto 8, 3) := by decide +kernel
theorem dX6_setBias_44 : decode cX6_setBias 44 = .ok (.aload_n 3, 1) := by decide +kernel
theorem dX6_setBias_45 : decode cX6_setBias 45 = .ok (.iload_n 2, 1) := by decide +kernel
theorem dX6_setBias_46 : decode cX6_setBias 46 = .ok (.putfield 108, 3) := by decide +kernel
theorem dX6_setBias_49 : decode cX6_setBias 49 = .ok (.aload_n 3, 1) := by decide +kernel
theorem dX6_setBias_50 : decode cX6_setBias 50 = .ok (.getfield 111, 3) := by decide +kernel
theorem dX6_setBias_53 : decode cX6_setBias 53 = .ok (.iload_n 1, 1) := by decide +kernel
theorem dX6_setBias_54 : decode cX6_setBias 54 = .ok (.if_icmp .ne 7, 3) := by decide +kernel
theorem dX6_setBias_57 : decode cX6_setBias 57 = .ok (.iconst 1, 1) := by decide +kernel
theorem dX6_setBias_58 : decode cX6_setBias 58 = .ok (.goto 4, 3) := by decide +kernel
theorem dX6_setBias_61 : decode cX6_setBias 61 = .ok (.iconst 0, 1) := by decide +kernel
theorem dX6_setBias_62 : decode cX6_setBias 62 = .ok (.ireturn, 1) := by decide +kernel
theorem dX6_approach_0 : decode cX6_approach 0 = .ok (.aload_n 0, 1) := by decide +kernel
theorem dX6_approach_1 : decode cX6_approach 1 = .ok (.bipush 103, 2) := by decide +kernel
theorem dX6_approach_3 : decode cX6_approach 3 = .ok (.iconst 0, 1) := by decide +kernel
theorem dX6_approach_4 : decode cX6_approach 4 = .ok (.invokevirtual 115, 3) := by decide +kernel
theorem dX6_approach_7 : decode cX6_approach 7 = .ok (.ireturn, 1) := by decide +kernel
theorem dX6_release_0 : decode cX6_release 0 = .ok (.aload_n 0, 1) := by decide +kernel
theorem dX6_release_1 : decode cX6_release 1 = .ok (.bipush 102, 2) := by decide +kernel
theorem dX6_release_3 : decode cX6_release 3 = .ok (.iconst 0, 1) := by decide +kernel
theorem dX6_release_4 : decode cX6_release 4 = .ok (.invokevirtual 115, 3) := by decide +kernel
theorem dX6_release_7 : decode cX6_release 7 = .ok (.ireturn, 1) := by decide +kernel
theorem dX6_retreat_0 : decode cX6_retreat 0 = .ok (.aload_n 0, 1) := by decide +kernel
theorem dX6_retreat_1 : decode cX6_retreat 1 = .ok (.bipush 98, 2) := by decide +kernel
theorem dX6_retreat_3 : decode cX6_retreat 3 = .ok (.iconst 0, 1) := by decide +kernel
theorem dX6_retreat_4 : decode cX6_retreat 4 = .ok (.invokevirtual 115, 3) := by decide +kernel
theorem dX6_retreat_7 : decode cX6_retreat 7 = .ok (.ireturn, 1) := by decide +kernel
theorem dX6_open_0 : decode cX6_open 0 = .ok (.aload_n 0, 1) := by decide +kernel
theorem dX6_open_1 : decode cX6_open 1 = .ok (.bipush 111, 2) := by decide +kernel
theorem dX6_open_3 : decode cX6_open 3 = .ok (.iload_n 1, 1) := by decide +kernel
theorem dX6_open_4 : decode cX6_open 4 = .ok (.invokevirtual 115, 3) := by decide +kernel
theorem dX6_open_7 : decode cX6_open 7 = .ok (.ireturn, 1) := by decide +kernel
theorem dX6_pass_0 : decode cX6_pass 0 = .ok (.aload_n 0, 1) := by decide +kernel
theorem dX6_pass_1 : decode cX6_pass 1 = .ok (.bipush 116, 2) := by decide +kernel
theorem dX6_pass_3 : decode cX6_pass 3 = .ok (.iload_n 1, 1) := by decide +kernel
theorem dX6_pass_4 : decode cX6_pass 4 = .ok (.invokevirtual 115, 3) := by decide +kernel
theorem dX6_pass_7 : decode cX6_pass 7 = .ok (.ireturn, 1) := by decide +kernel
theorem dX6_undo_0 : decode cX6_undo 0 = .ok (.aload_n 0, 1) := by decide +kernel
theorem dX6_undo_1 : decode cX6_undo 1 = .ok (.getfield 22, 3) := by decide +kernel
theorem dX6_undo_4 : decode cX6_undo 4 = .ok (.getfield 144, 3) := by decide +kernel
theorem dX6_undo_7 : decode cX6_undo 7 = .ok (.iconst 1, 1) := by decide +kernel
theorem dX6_undo_8 : decode cX6_undo 8 = .ok (.if_icmp .ge 6, 3) := by decide +kernel
theorem dX6_undo_11 : decode cX6_undo 11 = .ok (.bipush (-3), 2) := by decide +kernel
theorem dX6_undo_13 : decode cX6_undo 13 = .ok (.ireturn, 1) := by decide +kernel
theorem dX6_undo_14 : decode cX6_undo 14 = .ok (.aload_n 0, 1) := by decide +kernel
theorem dX6_undo_15 : decode cX6_undo 15 = .ok (.getfield 22, 3) := by decide +kernel
theorem dX6_undo_18 : decode cX6_undo 18 = .ok (.aload_n 0, 1) := by decide +kernel
theorem dX6_undo_19 : decode cX6_undo 19 = .ok (.getfield 10, 3) := by decide +kernel
theorem dX6_undo_22 : decode cX6_undo 22 = .ok (.invokevirtual 145, 3) := by decide +kernel
theorem dX6_undo_25 : decode cX6_undo 25 = .ok (.aload_n 0, 1) := by decide +kernel
theorem dX6_undo_26 : decode cX6_undo 26 = .ok (.getfield 22, 3) := by decide +kernel
theorem dX6_undo_29 : decode cX6_undo 29 = .ok (.getfield 144, 3) := by decide +kernel
theorem dX6_undo_32 : decode cX6_undo 32 = .ok (.ireturn, 1) := by decide +kernel
theorem dX6_save_0 : decode cX6_save 0 = .ok (.iload_n 1, 1) := by decide +kernel
theorem dX6_save_1 : decode cX6_save 1 = .ok (.ifCond .lt 8, 3) := by decide +kernel
theorem dX6_save_4 : decode cX6_save 4 = .ok (.iload_n 1, 1) := by decide +kernel
theorem dX6_save_5 : decode cX6_save 5 = .ok (.iconst 2, 1) := by decide +kernel
theorem dX6_save_6 : decode cX6_save 6 = .ok (.if_icmp .lt 5, 3) := by decide +kernel
theorem dX6_save_9 : decode cX6_save 9 = .ok (.iconst (-1), 1) := by decide +kernel
theorem dX6_save_10 : decode cX6_save 10 = .ok (.ireturn, 1) := by decide +kernel
theorem dX6_save_11 : decode cX6_save 11 = .ok (.aload_n 0, 1) := by decide +kernel
theorem dX6_save_12 : decode cX6_save 12 = .ok (.getfield 26, 3) := by decide +kernel
theorem dX6_save_15 : decode cX6_save 15 = .ok (.iload_n 1, 1) := by decide +kernel
theorem dX6_save_16 : decode cX6_save 16 = .ok (.aaload, 1) := by decide +kernel
theorem dX6_save_17 : decode cX6_save 17 = .ok (.aload_n 0, 1) := by decide +kernel
theorem dX6_save_18 : decode cX6_save 18 = .ok (.getfield 10, 3) := by decide +kernel
theorem dX6_save_21 : decode cX6_save 21 = .ok (.invokevirtual 148, 3) := by decide +kernel
theorem dX6_save_24 : decode cX6_save 24 = .ok (.aload_n 0, 1) := by decide +kernel
theorem dX6_save_25 : decode cX6_save 25 = .ok (.getfield 30, 3) := by decide +kernel
theorem dX6_save_28 : decode cX6_save 28 = .ok (.iload_n 1, 1) := by decide +kernel
theorem dX6_save_29 : decode cX6_save 29 = .ok (.iconst 1, 1) := by decide +kernel
theorem dX6_save_30 : decode cX6_save 30 = .ok (.bastore, 1) := by decide +kernel
theorem dX6_save_31 : decode cX6_save 31 = .ok (.aload_n 0, 1) := by decide +kernel
theorem dX6_save_32 : decode cX6_save 32 = .ok (.getfield 10, 3) := by decide +kernel
theorem dX6_save_35 : decode cX6_save 35 = .ok (.getfield 151, 3) := by decide +kernel
theorem dX6_save_38 : decode cX6_save 38 = .ok (.ireturn, 1) := by decide +kernel
theorem dX6_restore_0 : decode cX6_restore 0 = .ok (.iload_n 1, 1) := by decide +kernel
theorem dX6_restore_1 : decode cX6_restore 1 = .ok (.ifCond .lt 8, 3) := by decide +kernel
theorem dX6_restore_4 : decode cX6_restore 4 = .ok (.iload_n 1, 1) := by decide +kernel
theorem dX6_restore_5 : decode cX6_restore 5 = .ok (.iconst 2, 1) := by decide +kernel
theorem dX6_restore_6 : decode cX6_restore 6 = .ok (.if_icmp .lt 5, 3) := by decide +kernel
theorem dX6_restore_9 : decode cX6_restore 9 = .ok (.iconst (-1), 1) := by decide +kernel
theorem dX6_restore_10 : decode cX6_restore 10 = .ok (.ireturn, 1) := by decide +kernel
theorem dX6_restore_11 : decode cX6_restore 11 = .ok (.aload_n 0, 1) := by decide +kernel
theorem dX6_restore_12 : decode cX6_restore 12 = .ok (.getfield 30, 3) := by decide +kernel
theorem dX6_restore_15 : decode cX6_restore 15 = .ok (.iload_n 1, 1) := by decide +kernel
theorem dX6_restore_16 : decode cX6_restore 16 = .ok (.baload, 1) := by decide +kernel
theorem dX6_restore_17 : decode cX6_restore 17 = .ok (.ifCond .ne 6, 3) := by decide +kernel
theorem dX6_restore_20 : decode cX6_restore 20 = .ok (.bipush (-3), 2) := by decide +kernel
theorem dX6_restore_22 : decode cX6_restore 22 = .ok (.ireturn, 1) := by decide +kernel
theorem dX6_restore_23 : decode cX6_restore 23 = .ok (.aload_n 0, 1) := by decide +kernel
theorem dX6_restore_24 : decode cX6_restore 24 = .ok (.getfield 22, 3) := by decide +kernel
theorem dX6_restore_27 : decode cX6_restore 27 = .ok (.aload_n 0, 1) := by decide +kernel
theorem dX6_restore_28 : decode cX6_restore 28 = .ok (.getfield 10, 3) := by decide +kernel
theorem dX6_restore_31 : decode cX6_restore 31 = .ok (.invokevirtual 46, 3) := by decide +kernel
theorem dX6_restore_34 : decode cX6_restore 34 = .ok (.aload_n 0, 1) := by decide +kernel
theorem dX6_restore_35 : decode cX6_restore 35 = .ok (.getfield 10, 3) := by decide +kernel
theorem dX6_restore_38 : decode cX6_restore 38 = .ok (.aload_n 0, 1) := by decide +kernel
theorem dX6_restore_39 : decode cX6_restore 39 = .ok (.getfield 26, 3) := by decide +kernel
theorem dX6_restore_42 : decode cX6_restore 42 = .ok (.iload_n 1, 1) := by decide +kernel
theorem dX6_restore_43 : decode cX6_restore 43 = .ok (.aaload, 1) := by decide +kernel
theorem dX6_restore_44 : decode cX6_restore 44 = .ok (.invokevirtual 148, 3) := by decide +kernel
theorem dX6_restore_47 : decode cX6_restore 47 = .ok (.aload_n 0, 1) := by decide +kernel
theorem dX6_restore_48 : decode cX6_restore 48 = .ok (.getfield 10, 3) := by decide +kernel
theorem dX6_restore_51 : decode cX6_restore 51 = .ok (.getfield 151, 3) := by decide +kernel
theorem dX6_restore_54 : decode cX6_restore 54 = .ok (.ireturn, 1) := by decide +kernel
theorem dX6_bits_0 : decode cX6_bits 0 = .ok (.aload_n 0, 1) := by decide +kernel
theorem dX6_bits_1 : decode cX6_bits 1 = .ok (.iload_n 1, 1) := by decide +kernel
theorem dX6_bits_2 : decode cX6_bits 2 = .ok (.invokevirtual 154, 3) := by decide +kernel
theorem dX6_bits_5 : decode cX6_bits 5 = .ok (.invokestatic 158, 3) := by decide +kernel
theorem dX6_bits_8 : decode cX6_bits 8 = .ok (.ireturn, 1) := by decide +kernel
theorem dX6_judgement_0 : decode cX6_judgement 0 = .ok (.aload_n 0, 1) := by decide +kernel
theorem dX6_judgement_1 : decode cX6_judgement 1 = .ok (.getfield 10, 3) := by decide +kernel
theorem dX6_judgement_4 : decode cX6_judgement 4 = .ok (.invokevirtual 56, 3) := by decide +kernel
theorem dX6_judgement_7 : decode cX6_judgement 7 = .ok (.ireturn, 1) := by decide +kernel
theorem dX6_stop_0 : decode cX6_stop 0 = .ok (.aload_n 0, 1) := by decide +kernel
theorem dX6_stop_1 : decode cX6_stop 1 = .ok (.getfield 10, 3) := by decide +kernel
theorem dX6_stop_4 : decode cX6_stop 4 = .ok (.getfield 88, 3) := by decide +kernel
theorem dX6_stop_7 : decode cX6_stop 7 = .ok (.astore_n 3, 1) := by decide +kernel
theorem dX6_stop_8 : decode cX6_stop 8 = .ok (.aload_n 3, 1) := by decide +kernel
theorem dX6_stop_9 : decode cX6_stop 9 = .ok (.iload_n 1, 1) := by decide +kernel
theorem dX6_stop_10 : decode cX6_stop 10 = .ok (.invokevirtual 166, 3) := by decide +kernel
theorem dX6_stop_13 : decode cX6_stop 13 = .ok (.ifCond .ne 5, 3) := by decide +kernel
theorem dX6_stop_16 : decode cX6_stop 16 = .ok (.iconst (-1), 1) := by decide +kernel
theorem dX6_stop_17 : decode cX6_stop 17 = .ok (.ireturn, 1) := by decide +kernel
theorem dX6_stop_18 : decode cX6_stop 18 = .ok (.iload_n 2, 1) := by decide +kernel
theorem dX6_stop_19 : decode cX6_stop 19 = .ok (.tableswitch 64 0 2 #[25, 32, 47], 25) := by decide +kernel
theorem dX6_stop_44 : decode cX6_stop 44 = .ok (.aload_n 3, 1) := by decide +kernel
theorem dX6_stop_45 : decode cX6_stop 45 = .ok (.getfield 169, 3) := by decide +kernel
theorem dX6_stop_48 : decode cX6_stop 48 = .ok (.iload_n 1, 1) := by decide +kernel
theorem dX6_stop_49 : decode cX6_stop 49 = .ok (.iaload, 1) := by decide +kernel
theorem dX6_stop_50 : decode cX6_stop 50 = .ok (.ireturn, 1) := by decide +kernel
theorem dX6_stop_51 : decode cX6_stop 51 = .ok (.aload_n 3, 1) := by decide +kernel
theorem dX6_stop_52 : decode cX6_stop 52 = .ok (.getfield 172, 3) := by decide +kernel
theorem dX6_stop_55 : decode cX6_stop 55 = .ok (.iload_n 1, 1) := by decide +kernel
theorem dX6_stop_56 : decode cX6_stop 56 = .ok (.baload, 1) := by decide +kernel
theorem dX6_stop_57 : decode cX6_stop 57 = .ok (.ifCond .eq 7, 3) := by decide +kernel
theorem dX6_stop_60 : decode cX6_stop 60 = .ok (.iconst 1, 1) := by decide +kernel
theorem dX6_stop_61 : decode cX6_stop 61 = .ok (.goto 4, 3) := by decide +kernel
theorem dX6_stop_64 : decode cX6_stop 64 = .ok (.iconst 0, 1) := by decide +kernel
theorem dX6_stop_65 : decode cX6_stop 65 = .ok (.ireturn, 1) := by decide +kernel
theorem dX6_stop_66 : decode cX6_stop 66 = .ok (.aload_n 0, 1) := by decide +kernel
theorem dX6_stop_67 : decode cX6_stop 67 = .ok (.getfield 10, 3) := by decide +kernel
theorem dX6_stop_70 : decode cX6_stop 70 = .ok (.getfield 175, 3) := by decide +kernel
theorem dX6_stop_73 : decode cX6_stop 73 = .ok (.iload_n 1, 1) := by decide +kernel
theorem dX6_stop_74 : decode cX6_stop 74 = .ok (.if_icmp .ne 7, 3) := by decide +kernel
theorem dX6_stop_77 : decode cX6_stop 77 = .ok (.iconst 1, 1) := by decide +kernel
theorem dX6_stop_78 : decode cX6_stop 78 = .ok (.goto 4, 3) := by decide +kernel
theorem dX6_stop_81 : decode cX6_stop 81 = .ok (.iconst 0, 1) := by decide +kernel
theorem dX6_stop_82 : decode cX6_stop 82 = .ok (.ireturn, 1) := by decide +kernel
theorem dX6_stop_83 : decode cX6_stop 83 = .ok (.bipush (-2), 2) := by decide +kernel
theorem dX6_stop_85 : decode cX6_stop 85 = .ok (.ireturn, 1) := by decide +kernel
theorem dX6_point_0 : decode cX6_point 0 = .ok (.aload_n 0, 1) := by decide +kernel
theorem dX6_point_1 : decode cX6_point 1 = .ok (.getfield 10, 3) := by decide +kernel
theorem dX6_point_4 : decode cX6_point 4 = .ok (.getfield 70, 3) := by decide +kernel
theorem dX6_point_7 : decode cX6_point 7 = .ok (.astore_n 3, 1) := by decide +kernel
theorem dX6_point_8 : decode cX6_point 8 = .ok (.iload_n 1, 1) := by decide +kernel
theorem dX6_point_9 : decode cX6_point 9 = .ok (.ifCond .lt 11, 3) := by decide +kernel
theorem dX6_point_12 : decode cX6_point 12 = .ok (.iload_n 1, 1) := by decide +kernel
theorem dX6_point_13 : decode cX6_point 13 = .ok (.aload_n 3, 1) := by decide +kernel
theorem dX6_point_14 : decode cX6_point 14 = .ok (.getfield 84, 3) := by decide +kernel
theorem dX6_point_17 : decode cX6_point 17 = .ok (.if_icmp .lt 5, 3) := by decide +kernel
theorem dX6_point_20 : decode cX6_point 20 = .ok (.iconst (-1), 1) := by decide +kernel
theorem dX6_point_21 : decode cX6_point 21 = .ok (.ireturn, 1) := by decide +kernel
theorem dX6_point_22 : decode cX6_point 22 = .ok (.iload_n 2, 1) := by decide +kernel
theorem dX6_point_23 : decode cX6_point 23 = .ok (.lookupswitch 39 #[(0, 25), (1, 32)], 25) := by decide +kernel
theorem dX6_point_48 : decode cX6_point 48 = .ok (.aload_n 3, 1) := by decide +kernel
theorem dX6_point_49 : decode cX6_point 49 = .ok (.getfield 178, 3) := by decide +kernel
theorem dX6_point_52 : decode cX6_point 52 = .ok (.iload_n 1, 1) := by decide +kernel
theorem dX6_point_53 : decode cX6_point 53 = .ok (.iaload, 1) := by decide +kernel
theorem dX6_point_54 : decode cX6_point 54 = .ok (.ireturn, 1) := by decide +kernel
theorem dX6_point_55 : decode cX6_point 55 = .ok (.aload_n 3, 1) := by decide +kernel
theorem dX6_point_56 : decode cX6_point 56 = .ok (.getfield 179, 3) := by decide +kernel
theorem dX6_point_59 : decode cX6_point 59 = .ok (.iload_n 1, 1) := by decide +kernel
theorem dX6_point_60 : decode cX6_point 60 = .ok (.iaload, 1) := by decide +kernel
theorem dX6_point_61 : decode cX6_point 61 = .ok (.ireturn, 1) := by decide +kernel
theorem dX6_point_62 : decode cX6_point 62 = .ok (.bipush (-2), 2) := by decide +kernel
theorem dX6_point_64 : decode cX6_point 64 = .ok (.ireturn, 1) := by decide +kernel
theorem dX6_total_0 : decode cX6_total 0 = .ok (.iload_n 1, 1) := by decide +kernel
theorem dX6_total_1 : decode cX6_total 1 = .ok (.tableswitch 207 0 12 #[67, 75, 83, 91, 102, 121, 139, 150, 161, 172, 180, 188, 196], 67) := by decide +kernel
theorem dX6_total_68 : decode cX6_total 68 = .ok (.aload_n 0, 1) := by decide +kernel
theorem dX6_total_69 : decode cX6_total 69 = .ok (.getfield 10, 3) := by decide +kernel
theorem dX6_total_72 : decode cX6_total 72 = .ok (.getfield 151, 3) := by decide +kernel
theorem dX6_total_75 : decode cX6_total 75 = .ok (.ireturn, 1) := by decide +kernel
theorem dX6_total_76 : decode cX6_total 76 = .ok (.aload_n 0, 1) := by decide +kernel
theorem dX6_total_77 : decode cX6_total 77 = .ok (.getfield 10, 3) := by decide +kernel
theorem dX6_total_80 : decode cX6_total 80 = .ok (.getfield 182, 3) := by decide +kernel
theorem dX6_total_83 : decode cX6_total 83 = .ok (.ireturn, 1) := by decide +kernel
theorem dX6_total_84 : decode cX6_total 84 = .ok (.aload_n 0, 1) := by decide +kernel
theorem dX6_total_85 : decode cX6_total 85 = .ok (.getfield 10, 3) := by decide +kernel
theorem dX6_total_88 : decode cX6_total 88 = .ok (.getfield 185, 3) := by decide +kernel
theorem dX6_total_91 : decode cX6_total 91 = .ok (.ireturn, 1) := by decide +kernel
theorem dX6_total_92 : decode cX6_total 92 = .ok (.aload_n 0, 1) := by decide +kernel
theorem dX6_total_93 : decode cX6_total 93 = .ok (.getfield 10, 3) := by decide +kernel
theorem dX6_total_96 : decode cX6_total 96 = .ok (.getfield 99, 3) := by decide +kernel
theorem dX6_total_99 : decode cX6_total 99 = .ok (.getfield 188, 3) := by decide +kernel
theorem dX6_total_102 : decode cX6_total 102 = .ok (.ireturn, 1) := by decide +kernel
theorem dX6_total_103 : decode cX6_total 103 = .ok (.aload_n 0, 1) := by decide +kernel
theorem dX6_total_104 : decode cX6_total 104 = .ok (.getfield 10, 3) := by decide +kernel
theorem dX6_total_107 : decode cX6_total 107 = .ok (.getfield 99, 3) := by decide +kernel
theorem dX6_total_110 : decode cX6_total 110 = .ok (.getfield 111, 3) := by decide +kernel
theorem dX6_total_113 : decode cX6_total 113 = .ok (.ifCond .eq 7, 3) := by decide +kernel
theorem dX6_total_116 : decode cX6_total 116 = .ok (.iconst 1, 1) := by decide +kernel
theorem dX6_total_117 : decode cX6_total 117 = .ok (.goto 4, 3) := by decide +kernel
theorem dX6_total_120 : decode cX6_total 120 = .ok (.iconst 0, 1) := by decide +kernel
theorem dX6_total_121 : decode cX6_total 121 = .ok (.ireturn, 1) := by decide +kernel
theorem dX6_total_122 : decode cX6_total 122 = .ok (.aload_n 0, 1) := by decide +kernel
theorem dX6_total_123 : decode cX6_total 123 = .ok (.getfield 10, 3) := by decide +kernel
theorem dX6_total_126 : decode cX6_total 126 = .ok (.getfield 88, 3) := by decide +kernel
theorem dX6_total_129 : decode cX6_total 129 = .ok (.aload_n 0, 1) := by decide +kernel
theorem dX6_total_130 : decode cX6_total 130 = .ok (.getfield 10, 3) := by decide +kernel
theorem dX6_total_133 : decode cX6_total 133 = .ok (.getfield 191, 3) := by decide +kernel
theorem dX6_total_136 : decode cX6_total 136 = .ok (.invokevirtual 195, 3) := by decide +kernel
theorem dX6_total_139 : decode cX6_total 139 = .ok (.ireturn, 1) := by decide +kernel
theorem dX6_total_140 : decode cX6_total 140 = .ok (.aload_n 0, 1) := by decide +kernel
theorem dX6_total_141 : decode cX6_total 141 = .ok (.getfield 10, 3) := by decide +kernel
theorem dX6_total_144 : decode cX6_total 144 = .ok (.getfield 70, 3) := by decide +kernel
theorem dX6_total_147 : decode cX6_total 147 = .ok (.getfield 84, 3) := by decide +kernel
theorem dX6_total_150 : decode cX6_total 150 = .ok (.ireturn, 1) := by decide +kernel
theorem dX6_total_151 : decode cX6_total 151 = .ok (.aload_n 0, 1) := by decide +kernel
theorem dX6_total_152 : decode cX6_total 152 = .ok (.getfield 10, 3) := by decide +kernel
theorem dX6_total_155 : decode cX6_total 155 = .ok (.getfield 88, 3) := by decide +kernel
theorem dX6_total_158 : decode cX6_total 158 = .ok (.getfield 92, 3) := by decide +kernel
theorem dX6_total_161 : decode cX6_total 161 = .ok (.ireturn, 1) := by decide +kernel
theorem dX6_total_162 : decode cX6_total 162 = .ok (.aload_n 0, 1) := by decide +kernel
theorem dX6_total_163 : decode cX6_total 163 = .ok (.getfield 10, 3) := by decide +kernel
theorem dX6_total_166 : decode cX6_total 166 = .ok (.getfield 88, 3) := by decide +kernel
theorem dX6_total_169 : decode cX6_total 169 = .ok (.invokevirtual 198, 3) := by decide +kernel
theorem dX6_total_172 : decode cX6_total 172 = .ok (.ireturn, 1) := by decide +kernel
theorem dX6_total_173 : decode cX6_total 173 = .ok (.aload_n 0, 1) := by decide +kernel
theorem dX6_total_174 : decode cX6_total 174 = .ok (.getfield 22, 3) := by decide +kernel
theorem dX6_total_177 : decode cX6_total 177 = .ok (.getfield 144, 3) := by decide +kernel
theorem dX6_total_180 : decode cX6_total 180 = .ok (.ireturn, 1) := by decide +kernel
theorem dX6_total_181 : decode cX6_total 181 = .ok (.aload_n 0, 1) := by decide +kernel
theorem dX6_total_182 : decode cX6_total 182 = .ok (.getfield 37, 3) := by decide +kernel
theorem dX6_total_185 : decode cX6_total 185 = .ok (.getfield 119, 3) := by decide +kernel
theorem dX6_total_188 : decode cX6_total 188 = .ok (.ireturn, 1) := by decide +kernel
theorem dX6_total_189 : decode cX6_total 189 = .ok (.aload_n 0, 1) := by decide +kernel
theorem dX6_total_190 : decode cX6_total 190 = .ok (.getfield 10, 3) := by decide +kernel
theorem dX6_total_193 : decode cX6_total 193 = .ok (.getfield 201, 3) := by decide +kernel
theorem dX6_total_196 : decode cX6_total 196 = .ok (.ireturn, 1) := by decide +kernel
theorem dX6_total_197 : decode cX6_total 197 = .ok (.aload_n 0, 1) := by decide +kernel
theorem dX6_total_198 : decode cX6_total 198 = .ok (.getfield 10, 3) := by decide +kernel
theorem dX6_total_201 : decode cX6_total 201 = .ok (.getfield 99, 3) := by decide +kernel
theorem dX6_total_204 : decode cX6_total 204 = .ok (.getfield 204, 3) := by decide +kernel
theorem dX6_total_207 : decode cX6_total 207 = .ok (.ireturn, 1) := by decide +kernel
theorem dX6_total_208 : decode cX6_total 208 = .ok (.aload_n 0, 1) := by decide +kernel
theorem dX6_total_209 : decode cX6_total 209 = .ok (.iload_n 1, 1) := by decide +kernel
theorem dX6_total_210 : decode cX6_total 210 = .ok (.bipush 13, 2) := by decide +kernel
theorem dX6_total_212 : decode cX6_total 212 = .ok (.isub, 1) := by decide +kernel
theorem dX6_total_213 : decode cX6_total 213 = .ok (.invokevirtual 207, 3) := by decide +kernel
theorem dX6_total_216 : decode cX6_total 216 = .ok (.ireturn, 1) := by decide +kernel
theorem dX6_modeIn_0 : decode cX6_modeIn 0 = .ok (.iload_n 1, 1) := by decide +kernel
theorem dX6_modeIn_1 : decode cX6_modeIn 1 = .ok (.ifCond .lt 10, 3) := by decide +kernel
theorem dX6_modeIn_4 : decode cX6_modeIn 4 = .ok (.iload_n 1, 1) := by decide +kernel
theorem dX6_modeIn_5 : decode cX6_modeIn 5 = .ok (.sipush 500, 3) := by decide +kernel
theorem dX6_modeIn_8 : decode cX6_modeIn 8 = .ok (.if_icmp .le 6, 3) := by decide +kernel
theorem dX6_modeIn_11 : decode cX6_modeIn 11 = .ok (.bipush (-2), 2) := by decide +kernel
theorem dX6_modeIn_13 : decode cX6_modeIn 13 = .ok (.ireturn, 1) := by decide +kernel
theorem dX6_modeIn_14 : decode cX6_modeIn 14 = .ok (.aload_n 0, 1) := by decide +kernel
theorem dX6_modeIn_15 : decode cX6_modeIn 15 = .ok (.getfield 16, 3) := by decide +kernel
theorem dX6_modeIn_18 : decode cX6_modeIn 18 = .ok (.aload_n 0, 1) := by decide +kernel
theorem dX6_modeIn_19 : decode cX6_modeIn 19 = .ok (.getfield 10, 3) := by decide +kernel
theorem dX6_modeIn_22 : decode cX6_modeIn 22 = .ok (.invokevirtual 148, 3) := by decide +kernel
theorem dX6_modeIn_25 : decode cX6_modeIn 25 = .ok (.iconst 0, 1) := by decide +kernel
theorem dX6_modeIn_26 : decode cX6_modeIn 26 = .ok (.istore_n 2, 1) := by decide +kernel
theorem dX6_modeIn_27 : decode cX6_modeIn 27 = .ok (.iload_n 2, 1) := by decide +kernel
theorem dX6_modeIn_28 : decode cX6_modeIn 28 = .ok (.iload_n 1, 1) := by decide +kernel
theorem dX6_modeIn_29 : decode cX6_modeIn 29 = .ok (.if_icmp .ge 16, 3) := by decide +kernel
theorem dX6_modeIn_32 : decode cX6_modeIn 32 = .ok (.aload_n 0, 1) := by decide +kernel
theorem dX6_modeIn_33 : decode cX6_modeIn 33 = .ok (.getfield 16, 3) := by decide +kernel
theorem dX6_modeIn_36 : decode cX6_modeIn 36 = .ok (.invokevirtual 210, 3) := by decide +kernel
theorem dX6_modeIn_39 : decode cX6_modeIn 39 = .ok (.iinc 2 1, 3) := by decide +kernel
theorem dX6_modeIn_42 : decode cX6_modeIn 42 = .ok (.goto (-15), 3) := by decide +kernel
theorem dX6_modeIn_45 : decode cX6_modeIn 45 = .ok (.aload_n 0, 1) := by decide +kernel
theorem dX6_modeIn_46 : decode cX6_modeIn 46 = .ok (.getfield 16, 3) := by decide +kernel
theorem dX6_modeIn_49 : decode cX6_modeIn 49 = .ok (.getfield 151, 3) := by decide +kernel
theorem dX6_modeIn_52 : decode cX6_modeIn 52 = .ok (.ireturn, 1) := by decide +kernel
theorem dX6_secondsTo_0 : decode cX6_secondsTo 0 = .ok (.iload_n 1, 1) := by decide +kernel
theorem dX6_secondsTo_1 : decode cX6_secondsTo 1 = .ok (.ifCond .lt 8, 3) := by decide +kernel
theorem dX6_secondsTo_4 : decode cX6_secondsTo 4 = .ok (.iload_n 1, 1) := by decide +kernel
theorem dX6_secondsTo_5 : decode cX6_secondsTo 5 = .ok (.iconst 5, 1) := by decide +kernel
theorem dX6_secondsTo_6 : decode cX6_secondsTo 6 = .ok (.if_icmp .le 6, 3) := by decide +kernel
theorem dX6_secondsTo_9 : decode cX6_secondsTo 9 = .ok (.bipush (-2), 2) := by decide +kernel
theorem dX6_secondsTo_11 : decode cX6_secondsTo 11 = .ok (.ireturn, 1) := by decide +kernel
theorem dX6_secondsTo_12 : decode cX6_secondsTo 12 = .ok (.aload_n 0, 1) := by decide +kernel
theorem dX6_secondsTo_13 : decode cX6_secondsTo 13 = .ok (.getfield 16, 3) := by decide +kernel
theorem dX6_secondsTo_16 : decode cX6_secondsTo 16 = .ok (.aload_n 0, 1) := by decide +kernel
theorem dX6_secondsTo_17 : decode cX6_secondsTo 17 = .ok (.getfield 10, 3) := by decide +kernel
theorem dX6_secondsTo_20 : decode cX6_secondsTo 20 = .ok (.invokevirtual 148, 3) := by decide +kernel
theorem dX6_secondsTo_23 : decode cX6_secondsTo 23 = .ok (.iconst 0, 1) := by decide +kernel
theorem dX6_secondsTo_24 : decode cX6_secondsTo 24 = .ok (.istore_n 2, 1) := by decide +kernel
theorem dX6_secondsTo_25 : decode cX6_secondsTo 25 = .ok (.iload_n 2, 1) := by decide +kernel
theorem dX6_secondsTo_26 : decode cX6_secondsTo 26 = .ok (.sipush 500, 3) := by decide +kernel
theorem dX6_secondsTo_29 : decode cX6_secondsTo 29 = .ok (.if_icmp .ge 29, 3) := by decide +kernel
theorem dX6_secondsTo_32 : decode cX6_secondsTo 32 = .ok (.aload_n 0, 1) := by decide +kernel
theorem dX6_secondsTo_33 : decode cX6_secondsTo 33 = .ok (.getfield 16, 3) := by decide +kernel
theorem dX6_secondsTo_36 : decode cX6_secondsTo 36 = .ok (.getfield 151, 3) := by decide +kernel
theorem dX6_secondsTo_39 : decode cX6_secondsTo 39 = .ok (.iload_n 1, 1) := by decide +kernel
theorem dX6_secondsTo_40 : decode cX6_secondsTo 40 = .ok (.if_icmp .ne 5, 3) := by decide +kernel
theorem dX6_secondsTo_43 : decode cX6_secondsTo 43 = .ok (.iload_n 2, 1) := by decide +kernel
theorem dX6_secondsTo_44 : decode cX6_secondsTo 44 = .ok (.ireturn, 1) := by decide +kernel
theorem dX6_secondsTo_45 : decode cX6_secondsTo 45 = .ok (.aload_n 0, 1) := by decide +kernel
theorem dX6_secondsTo_46 : decode cX6_secondsTo 46 = .ok (.getfield 16, 3) := by decide +kernel
theorem dX6_secondsTo_49 : decode cX6_secondsTo 49 = .ok (.invokevirtual 210, 3) := by decide +kernel
theorem dX6_secondsTo_52 : decode cX6_secondsTo 52 = .ok (.iinc 2 1, 3) := by decide +kernel
theorem dX6_secondsTo_55 : decode cX6_secondsTo 55 = .ok (.goto (-30), 3) := by decide +kernel
theorem dX6_secondsTo_58 : decode cX6_secondsTo 58 = .ok (.aload_n 0, 1) := by decide +kernel
theorem dX6_secondsTo_59 : decode cX6_secondsTo 59 = .ok (.getfield 16, 3) := by decide +kernel
theorem dX6_secondsTo_62 : decode cX6_secondsTo 62 = .ok (.getfield 151, 3) := by decide +kernel
theorem dX6_secondsTo_65 : decode cX6_secondsTo 65 = .ok (.iload_n 1, 1) := by decide +kernel
theorem dX6_secondsTo_66 : decode cX6_secondsTo 66 = .ok (.if_icmp .ne 9, 3) := by decide +kernel
theorem dX6_secondsTo_69 : decode cX6_secondsTo 69 = .ok (.sipush 500, 3) := by decide +kernel
theorem dX6_secondsTo_72 : decode cX6_secondsTo 72 = .ok (.goto 5, 3) := by decide +kernel
theorem dX6_secondsTo_75 : decode cX6_secondsTo 75 = .ok (.bipush (-5), 2) := by decide +kernel
theorem dX6_secondsTo_77 : decode cX6_secondsTo 77 = .ok (.ireturn, 1) := by decide +kernel
theorem dX6_actRecorded_0 : decode cX6_actRecorded 0 = .ok (.aload_n 0, 1) := by decide +kernel
theorem dX6_actRecorded_1 : decode cX6_actRecorded 1 = .ok (.getfield 10, 3) := by decide +kernel
theorem dX6_actRecorded_4 : decode cX6_actRecorded 4 = .ok (.iload_n 1, 1) := by decide +kernel
theorem dX6_actRecorded_5 : decode cX6_actRecorded 5 = .ok (.iload_n 2, 1) := by decide +kernel
theorem dX6_actRecorded_6 : decode cX6_actRecorded 6 = .ok (.invokevirtual 135, 3) := by decide +kernel
theorem dX6_actRecorded_9 : decode cX6_actRecorded 9 = .ok (.istore_n 3, 1) := by decide +kernel
theorem dX6_actRecorded_10 : decode cX6_actRecorded 10 = .ok (.iload_n 3, 1) := by decide +kernel
theorem dX6_actRecorded_11 : decode cX6_actRecorded 11 = .ok (.ifCond .eq 5, 3) := by decide +kernel
theorem dX6_actRecorded_14 : decode cX6_actRecorded 14 = .ok (.iload_n 3, 1) := by decide +kernel
theorem dX6_actRecorded_15 : decode cX6_actRecorded 15 = .ok (.ireturn, 1) := by decide +kernel
theorem dX6_actRecorded_16 : decode cX6_actRecorded 16 = .ok (.aload_n 0, 1) := by decide +kernel
theorem dX6_actRecorded_17 : decode cX6_actRecorded 17 = .ok (.getfield 22, 3) := by decide +kernel
theorem dX6_actRecorded_20 : decode cX6_actRecorded 20 = .ok (.aload_n 0, 1) := by decide +kernel
theorem dX6_actRecorded_21 : decode cX6_actRecorded 21 = .ok (.getfield 10, 3) := by decide +kernel
theorem dX6_actRecorded_24 : decode cX6_actRecorded 24 = .ok (.invokevirtual 46, 3) := by decide +kernel
theorem dX6_actRecorded_27 : decode cX6_actRecorded 27 = .ok (.aload_n 0, 1) := by decide +kernel
theorem dX6_actRecorded_28 : decode cX6_actRecorded 28 = .ok (.getfield 10, 3) := by decide +kernel
theorem dX6_actRecorded_31 : decode cX6_actRecorded 31 = .ok (.iload_n 1, 1) := by decide +kernel
theorem dX6_actRecorded_32 : decode cX6_actRecorded 32 = .ok (.iload_n 2, 1) := by decide +kernel
theorem dX6_actRecorded_33 : decode cX6_actRecorded 33 = .ok (.invokevirtual 138, 3) := by decide +kernel
theorem dX6_actRecorded_36 : decode cX6_actRecorded 36 = .ok (.ireturn, 1) := by decide +kernel
theorem dX6_settingAt_0 : decode cX6_settingAt 0 = .ok (.iload_n 1, 1) := by decide +kernel
theorem dX6_settingAt_1 : decode cX6_settingAt 1 = .ok (.ifCond .lt 9, 3) := by decide +kernel
theorem dX6_settingAt_4 : decode cX6_settingAt 4 = .ok (.iload_n 1, 1) := by decide +kernel
theorem dX6_settingAt_5 : decode cX6_settingAt 5 = .ok (.bipush 8, 2) := by decide +kernel
theorem dX6_settingAt_7 : decode cX6_settingAt 7 = .ok (.if_icmp .lt 8, 3) := by decide +kernel
theorem dX6_settingAt_10 : decode cX6_settingAt 10 = .ok (.bipush (-2), 2) := by decide +kernel
theorem dX6_settingAt_12 : decode cX6_settingAt 12 = .ok (.goto 12, 3) := by decide +kernel
theorem dX6_settingAt_15 : decode cX6_settingAt 15 = .ok (.aload_n 0, 1) := by decide +kernel
theorem dX6_settingAt_16 : decode cX6_settingAt 16 = .ok (.getfield 10, 3) := by decide +kernel
theorem dX6_settingAt_19 : decode cX6_settingAt 19 = .ok (.getfield 67, 3) := by decide +kernel
theorem dX6_settingAt_22 : decode cX6_settingAt 22 = .ok (.iload_n 1, 1) := by decide +kernel
theorem dX6_settingAt_23 : decode cX6_settingAt 23 = .ok (.iaload, 1) := by decide +kernel
theorem dX6_settingAt_24 : decode cX6_settingAt 24 = .ok (.ireturn, 1) := by decide +kernel
theorem dX6_numberOfShip_0 : decode cX6_numberOfShip 0 = .ok (.aload_n 0, 1) := by decide +kernel
theorem dX6_numberOfShip_1 : decode cX6_numberOfShip 1 = .ok (.getfield 10, 3) := by decide +kernel
theorem dX6_numberOfShip_4 : decode cX6_numberOfShip 4 = .ok (.getfield 99, 3) := by decide +kernel
theorem dX6_numberOfShip_7 : decode cX6_numberOfShip 7 = .ok (.astore_n 2, 1) := by decide +kernel
theorem dX6_numberOfShip_8 : decode cX6_numberOfShip 8 = .ok (.iload_n 1, 1) := by decide +kernel
