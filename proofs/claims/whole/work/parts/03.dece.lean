theorem dX6_actRecorded_4 : decode cX6_actRecorded 4 = .ok (.iload_n 1, 1) := by decide +kernel
theorem dX6_actRecorded_5 : decode cX6_actRecorded 5 = .ok (.iload_n 2, 1) := by decide +kernel
theorem dX6_actRecorded_6 : decode cX6_actRecorded 6 = .ok (.invokevirtual 135, 3) := by decide +kernel
theorem dX6_actRecorded_9 : decode cX6_actRecorded 9 = .ok (.istore_n 3, 1) := by decide +kernel
theorem dX6_actRecorded_10 : decode cX6_actRecorded 10 = .ok (.iload_n 3, 1) := by decide +kernel
theorem dX6_actRecorded_11 : decode cX6_actRecorded 11 = .ok (.ifCond .eq 5, 3) := by decide +kernel
theorem dX6_actRecorded_14 : decode cX6_actRecorded 14 = .ok (.iload_n 3, 1) := by decide +kernel
theorem dX6_actRecorded_15 : decode cX6_actRecorded 15 = .ok (.ireturn, 1) := by decide +kernel
theorem dX6_actRecorded_16 : decode cX6_actRecorded 16 = .ok (.aload_n 0, 1) := by decide +kernel
theorem dX6_actRecorded_17 : decode cX6_actRecorded 17 = .ok (.getfield 22, 3) := by decide +kernel
theorem dX6_actRecorded_20 : decode cX6_actRecorded 20 = .ok (.aload_n 0, 1) := by decide +kernel
theorem dX6_actRecorded_21 : decode cX6_actRecorded 21 = .ok (.getfield 10, 3) := by decide +kernel
theorem dX6_actRecorded_24 : decode cX6_actRecorded 24 = .ok (.invokevirtual 46, 3) := by decide +kernel
theorem dX6_actRecorded_27 : decode cX6_actRecorded 27 = .ok (.aload_n 0, 1) := by decide +kernel
theorem dX6_actRecorded_28 : decode cX6_actRecorded 28 = .ok (.getfield 10, 3) := by decide +kernel
theorem dX6_actRecorded_31 : decode cX6_actRecorded 31 = .ok (.iload_n 1, 1) := by decide +kernel
theorem dX6_actRecorded_32 : decode cX6_actRecorded 32 = .ok (.iload_n 2, 1) := by decide +kernel
theorem dX6_actRecorded_33 : decode cX6_actRecorded 33 = .ok (.invokevirtual 138, 3) := by decide +kernel
theorem dX6_actRecorded_36 : decode cX6_actRecorded 36 = .ok (.ireturn, 1) := by decide +kernel
theorem dX6_settingAt_0 : decode cX6_settingAt 0 = .ok (.iload_n 1, 1) := by decide +kernel
theorem dX6_settingAt_1 : decode cX6_settingAt 1 = .ok (.ifCond .lt 9, 3) := by decide +kernel
theorem dX6_settingAt_4 : decode cX6_settingAt 4 = .ok (.iload_n 1, 1) := by decide +kernel
theorem dX6_settingAt_5 : decode cX6_settingAt 5 = .ok (.bipush 8, 2) := by decide +kernel
theorem dX6_settingAt_7 : decode cX6_settingAt 7 = .ok (.if_icmp .lt 8, 3) := by decide +kernel
theorem dX6_settingAt_10 : decode cX6_settingAt 10 = .ok (.bipush (-2), 2) := by decide +kernel
theorem dX6_settingAt_12 : decode cX6_settingAt 12 = .ok (.goto 12, 3) := by decide +kernel
theorem dX6_settingAt_15 : decode cX6_settingAt 15 = .ok (.aload_n 0, 1) := by decide +kernel
theorem dX6_settingAt_16 : decode cX6_settingAt 16 = .ok (.getfield 10, 3) := by decide +kernel
theorem dX6_settingAt_19 : decode cX6_settingAt 19 = .ok (.getfield 67, 3) := by decide +kernel
theorem dX6_settingAt_22 : decode cX6_settingAt 22 = .ok (.iload_n 1, 1) := by decide +kernel
theorem dX6_settingAt_23 : decode cX6_settingAt 23 = .ok (.iaload, 1) := by decide +kernel
theorem dX6_settingAt_24 : decode cX6_settingAt 24 = .ok (.ireturn, 1) := by decide +kernel
theorem dX6_numberOfShip_0 : decode cX6_numberOfShip 0 = .ok (.aload_n 0, 1) := by decide +kernel
theorem dX6_numberOfShip_1 : decode cX6_numberOfShip 1 = .ok (.getfield 10, 3) := by decide +kernel
theorem dX6_numberOfShip_4 : decode cX6_numberOfShip 4 = .ok (.getfield 99, 3) := by decide +kernel
theorem dX6_numberOfShip_7 : decode cX6_numberOfShip 7 = .ok (.astore_n 2, 1) := by decide +kernel
theorem dX6_numberOfShip_8 : decode cX6_numberOfShip 8 = .ok (.iload_n 1, 1) := by decide +kernel
theorem dX6_numberOfShip_9 : decode cX6_numberOfShip 9 = .ok (.tableswitch 125 1 7 #[43, 51, 59, 67, 79, 101, 113], 43) := by decide +kernel
theorem dX6_numberOfShip_52 : decode cX6_numberOfShip 52 = .ok (.aload_n 0, 1) := by decide +kernel
theorem dX6_numberOfShip_53 : decode cX6_numberOfShip 53 = .ok (.getfield 10, 3) := by decide +kernel
theorem dX6_numberOfShip_56 : decode cX6_numberOfShip 56 = .ok (.getfield 223, 3) := by decide +kernel
theorem dX6_numberOfShip_59 : decode cX6_numberOfShip 59 = .ok (.freturn, 1) := by decide +kernel
theorem dX6_numberOfShip_60 : decode cX6_numberOfShip 60 = .ok (.aload_n 0, 1) := by decide +kernel
theorem dX6_numberOfShip_61 : decode cX6_numberOfShip 61 = .ok (.getfield 10, 3) := by decide +kernel
theorem dX6_numberOfShip_64 : decode cX6_numberOfShip 64 = .ok (.getfield 226, 3) := by decide +kernel
theorem dX6_numberOfShip_67 : decode cX6_numberOfShip 67 = .ok (.freturn, 1) := by decide +kernel
theorem dX6_numberOfShip_68 : decode cX6_numberOfShip 68 = .ok (.aload_n 0, 1) := by decide +kernel
theorem dX6_numberOfShip_69 : decode cX6_numberOfShip 69 = .ok (.getfield 10, 3) := by decide +kernel
theorem dX6_numberOfShip_72 : decode cX6_numberOfShip 72 = .ok (.getfield 229, 3) := by decide +kernel
theorem dX6_numberOfShip_75 : decode cX6_numberOfShip 75 = .ok (.freturn, 1) := by decide +kernel
theorem dX6_numberOfShip_76 : decode cX6_numberOfShip 76 = .ok (.aload_n 2, 1) := by decide +kernel
theorem dX6_numberOfShip_77 : decode cX6_numberOfShip 77 = .ok (.aload_n 0, 1) := by decide +kernel
theorem dX6_numberOfShip_78 : decode cX6_numberOfShip 78 = .ok (.getfield 10, 3) := by decide +kernel
theorem dX6_numberOfShip_81 : decode cX6_numberOfShip 81 = .ok (.getfield 191, 3) := by decide +kernel
theorem dX6_numberOfShip_84 : decode cX6_numberOfShip 84 = .ok (.invokevirtual 232, 3) := by decide +kernel
theorem dX6_numberOfShip_87 : decode cX6_numberOfShip 87 = .ok (.freturn, 1) := by decide +kernel
theorem dX6_numberOfShip_88 : decode cX6_numberOfShip 88 = .ok (.aload_n 0, 1) := by decide +kernel
theorem dX6_numberOfShip_89 : decode cX6_numberOfShip 89 = .ok (.getfield 10, 3) := by decide +kernel
theorem dX6_numberOfShip_92 : decode cX6_numberOfShip 92 = .ok (.getfield 70, 3) := by decide +kernel
theorem dX6_numberOfShip_95 : decode cX6_numberOfShip 95 = .ok (.aload_n 2, 1) := by decide +kernel
theorem dX6_numberOfShip_96 : decode cX6_numberOfShip 96 = .ok (.aload_n 0, 1) := by decide +kernel
theorem dX6_numberOfShip_97 : decode cX6_numberOfShip 97 = .ok (.getfield 10, 3) := by decide +kernel
theorem dX6_numberOfShip_100 : decode cX6_numberOfShip 100 = .ok (.getfield 191, 3) := by decide +kernel
theorem dX6_numberOfShip_103 : decode cX6_numberOfShip 103 = .ok (.invokevirtual 232, 3) := by decide +kernel
theorem dX6_numberOfShip_106 : decode cX6_numberOfShip 106 = .ok (.invokevirtual 162, 3) := by decide +kernel
theorem dX6_numberOfShip_109 : decode cX6_numberOfShip 109 = .ok (.freturn, 1) := by decide +kernel
theorem dX6_numberOfShip_110 : decode cX6_numberOfShip 110 = .ok (.aload_n 2, 1) := by decide +kernel
theorem dX6_numberOfShip_111 : decode cX6_numberOfShip 111 = .ok (.aload_n 0, 1) := by decide +kernel
theorem dX6_numberOfShip_112 : decode cX6_numberOfShip 112 = .ok (.getfield 10, 3) := by decide +kernel
theorem dX6_numberOfShip_115 : decode cX6_numberOfShip 115 = .ok (.getfield 191, 3) := by decide +kernel
theorem dX6_numberOfShip_118 : decode cX6_numberOfShip 118 = .ok (.invokevirtual 235, 3) := by decide +kernel
theorem dX6_numberOfShip_121 : decode cX6_numberOfShip 121 = .ok (.freturn, 1) := by decide +kernel
theorem dX6_numberOfShip_122 : decode cX6_numberOfShip 122 = .ok (.aload_n 2, 1) := by decide +kernel
theorem dX6_numberOfShip_123 : decode cX6_numberOfShip 123 = .ok (.aload_n 0, 1) := by decide +kernel
theorem dX6_numberOfShip_124 : decode cX6_numberOfShip 124 = .ok (.getfield 10, 3) := by decide +kernel
theorem dX6_numberOfShip_127 : decode cX6_numberOfShip 127 = .ok (.getfield 191, 3) := by decide +kernel
theorem dX6_numberOfShip_130 : decode cX6_numberOfShip 130 = .ok (.invokevirtual 238, 3) := by decide +kernel
theorem dX6_numberOfShip_133 : decode cX6_numberOfShip 133 = .ok (.freturn, 1) := by decide +kernel
theorem dX6_numberOfShip_134 : decode cX6_numberOfShip 134 = .ok (.aload_n 0, 1) := by decide +kernel
theorem dX6_numberOfShip_135 : decode cX6_numberOfShip 135 = .ok (.getfield 10, 3) := by decide +kernel
theorem dX6_numberOfShip_138 : decode cX6_numberOfShip 138 = .ok (.getfield 191, 3) := by decide +kernel
theorem dX6_numberOfShip_141 : decode cX6_numberOfShip 141 = .ok (.freturn, 1) := by decide +kernel
theorem dX6_isBeyond_0 : decode cX6_isBeyond 0 = .ok (.iload_n 0, 1) := by decide +kernel
theorem dX6_isBeyond_1 : decode cX6_isBeyond 1 = .ok (.iload_n 1, 1) := by decide +kernel
theorem dX6_isBeyond_2 : decode cX6_isBeyond 2 = .ok (.ineg, 1) := by decide +kernel
theorem dX6_isBeyond_3 : decode cX6_isBeyond 3 = .ok (.if_icmp .lt 8, 3) := by decide +kernel
theorem dX6_isBeyond_6 : decode cX6_isBeyond 6 = .ok (.iload_n 0, 1) := by decide +kernel
theorem dX6_isBeyond_7 : decode cX6_isBeyond 7 = .ok (.iload_n 1, 1) := by decide +kernel
theorem dX6_isBeyond_8 : decode cX6_isBeyond 8 = .ok (.if_icmp .le 7, 3) := by decide +kernel
theorem dX6_isBeyond_11 : decode cX6_isBeyond 11 = .ok (.iconst 1, 1) := by decide +kernel
theorem dX6_isBeyond_12 : decode cX6_isBeyond 12 = .ok (.goto 4, 3) := by decide +kernel
theorem dX6_isBeyond_15 : decode cX6_isBeyond 15 = .ok (.iconst 0, 1) := by decide +kernel
theorem dX6_isBeyond_16 : decode cX6_isBeyond 16 = .ok (.ireturn, 1) := by decide +kernel
theorem dX6_size_0 : decode cX6_size 0 = .ok (.fload_n 0, 1) := by decide +kernel
theorem dX6_size_1 : decode cX6_size 1 = .ok (.fconst 0, 1) := by decide +kernel
theorem dX6_size_2 : decode cX6_size 2 = .ok (.fcmp .g, 1) := by decide +kernel
theorem dX6_size_3 : decode cX6_size 3 = .ok (.ifCond .ge 8, 3) := by decide +kernel
theorem dX6_size_6 : decode cX6_size 6 = .ok (.fload_n 0, 1) := by decide +kernel
theorem dX6_size_7 : decode cX6_size 7 = .ok (.fneg, 1) := by decide +kernel
theorem dX6_size_8 : decode cX6_size 8 = .ok (.goto 4, 3) := by decide +kernel
theorem dX6_size_11 : decode cX6_size 11 = .ok (.fload_n 0, 1) := by decide +kernel
theorem dX6_size_12 : decode cX6_size 12 = .ok (.freturn, 1) := by decide +kernel
theorem dX6_bitsOf_0 : decode cX6_bitsOf 0 = .ok (.fload_n 0, 1) := by decide +kernel
theorem dX6_bitsOf_1 : decode cX6_bitsOf 1 = .ok (.invokestatic 241, 3) := by decide +kernel
theorem dX6_bitsOf_4 : decode cX6_bitsOf 4 = .ok (.fstore_n 1, 1) := by decide +kernel
theorem dX6_bitsOf_5 : decode cX6_bitsOf 5 = .ok (.bipush 127, 2) := by decide +kernel
theorem dX6_bitsOf_7 : decode cX6_bitsOf 7 = .ok (.istore_n 2, 1) := by decide +kernel
theorem dX6_bitsOf_8 : decode cX6_bitsOf 8 = .ok (.fload_n 1, 1) := by decide +kernel
theorem dX6_bitsOf_9 : decode cX6_bitsOf 9 = .ok (.fconst 2, 1) := by decide +kernel
theorem dX6_bitsOf_10 : decode cX6_bitsOf 10 = .ok (.fcmp .l, 1) := by decide +kernel
theorem dX6_bitsOf_11 : decode cX6_bitsOf 11 = .ok (.ifCond .lt 20, 3) := by decide +kernel
theorem dX6_bitsOf_14 : decode cX6_bitsOf 14 = .ok (.iload_n 2, 1) := by decide +kernel
theorem dX6_bitsOf_15 : decode cX6_bitsOf 15 = .ok (.sipush 254, 3) := by decide +kernel
theorem dX6_bitsOf_18 : decode cX6_bitsOf 18 = .ok (.if_icmp .ge 13, 3) := by decide +kernel
theorem dX6_bitsOf_21 : decode cX6_bitsOf 21 = .ok (.fload_n 1, 1) := by decide +kernel
theorem dX6_bitsOf_22 : decode cX6_bitsOf 22 = .ok (.fconst 2, 1) := by decide +kernel
theorem dX6_bitsOf_23 : decode cX6_bitsOf 23 = .ok (.fdiv, 1) := by decide +kernel
theorem dX6_bitsOf_24 : decode cX6_bitsOf 24 = .ok (.fstore_n 1, 1) := by decide +kernel
theorem dX6_bitsOf_25 : decode cX6_bitsOf 25 = .ok (.iinc 2 1, 3) := by decide +kernel
theorem dX6_bitsOf_28 : decode cX6_bitsOf 28 = .ok (.goto (-20), 3) := by decide +kernel
theorem dX6_bitsOf_31 : decode cX6_bitsOf 31 = .ok (.fload_n 1, 1) := by decide +kernel
theorem dX6_bitsOf_32 : decode cX6_bitsOf 32 = .ok (.fconst 1, 1) := by decide +kernel
theorem dX6_bitsOf_33 : decode cX6_bitsOf 33 = .ok (.fcmp .g, 1) := by decide +kernel
theorem dX6_bitsOf_34 : decode cX6_bitsOf 34 = .ok (.ifCond .ge 18, 3) := by decide +kernel
theorem dX6_bitsOf_37 : decode cX6_bitsOf 37 = .ok (.iload_n 2, 1) := by decide +kernel
theorem dX6_bitsOf_38 : decode cX6_bitsOf 38 = .ok (.iconst 1, 1) := by decide +kernel
theorem dX6_bitsOf_39 : decode cX6_bitsOf 39 = .ok (.if_icmp .le 13, 3) := by decide +kernel
theorem dX6_bitsOf_42 : decode cX6_bitsOf 42 = .ok (.fload_n 1, 1) := by decide +kernel
theorem dX6_bitsOf_43 : decode cX6_bitsOf 43 = .ok (.fconst 2, 1) := by decide +kernel
theorem dX6_bitsOf_44 : decode cX6_bitsOf 44 = .ok (.fmul, 1) := by decide +kernel
theorem dX6_bitsOf_45 : decode cX6_bitsOf 45 = .ok (.fstore_n 1, 1) := by decide +kernel
theorem dX6_bitsOf_46 : decode cX6_bitsOf 46 = .ok (.iinc 2 (-1), 3) := by decide +kernel
theorem dX6_bitsOf_49 : decode cX6_bitsOf 49 = .ok (.goto (-18), 3) := by decide +kernel
theorem dX6_bitsOf_52 : decode cX6_bitsOf 52 = .ok (.iload_n 2, 1) := by decide +kernel
theorem dX6_bitsOf_53 : decode cX6_bitsOf 53 = .ok (.iconst 1, 1) := by decide +kernel
theorem dX6_bitsOf_54 : decode cX6_bitsOf 54 = .ok (.isub, 1) := by decide +kernel
theorem dX6_bitsOf_55 : decode cX6_bitsOf 55 = .ok (.bipush 23, 2) := by decide +kernel
theorem dX6_bitsOf_57 : decode cX6_bitsOf 57 = .ok (.ishl, 1) := by decide +kernel
theorem dX6_bitsOf_58 : decode cX6_bitsOf 58 = .ok (.fload_n 1, 1) := by decide +kernel
theorem dX6_bitsOf_59 : decode cX6_bitsOf 59 = .ok (.ldc 244, 2) := by decide +kernel
theorem dX6_bitsOf_61 : decode cX6_bitsOf 61 = .ok (.fmul, 1) := by decide +kernel
theorem dX6_bitsOf_62 : decode cX6_bitsOf 62 = .ok (.f2i, 1) := by decide +kernel
theorem dX6_bitsOf_63 : decode cX6_bitsOf 63 = .ok (.iadd, 1) := by decide +kernel
theorem dX6_bitsOf_64 : decode cX6_bitsOf 64 = .ok (.istore_n 3, 1) := by decide +kernel
theorem dX6_bitsOf_65 : decode cX6_bitsOf 65 = .ok (.fload_n 0, 1) := by decide +kernel
theorem dX6_bitsOf_66 : decode cX6_bitsOf 66 = .ok (.fconst 0, 1) := by decide +kernel
theorem dX6_bitsOf_67 : decode cX6_bitsOf 67 = .ok (.fcmp .g, 1) := by decide +kernel
theorem dX6_bitsOf_68 : decode cX6_bitsOf 68 = .ok (.ifCond .ge 10, 3) := by decide +kernel
theorem dX6_bitsOf_71 : decode cX6_bitsOf 71 = .ok (.iload_n 3, 1) := by decide +kernel
theorem dX6_bitsOf_72 : decode cX6_bitsOf 72 = .ok (.ldc 245, 2) := by decide +kernel
theorem dX6_bitsOf_74 : decode cX6_bitsOf 74 = .ok (.ior, 1) := by decide +kernel
theorem dX6_bitsOf_75 : decode cX6_bitsOf 75 = .ok (.goto 4, 3) := by decide +kernel
theorem dX6_bitsOf_78 : decode cX6_bitsOf 78 = .ok (.iload_n 3, 1) := by decide +kernel
theorem dX6_bitsOf_79 : decode cX6_bitsOf 79 = .ok (.ireturn, 1) := by decide +kernel
theorem dX7_init_0 : decode cX7_init 0 = .ok (.aload_n 0, 1) := by decide +kernel
theorem dX7_init_1 : decode cX7_init 1 = .ok (.invokespecial 1, 3) := by decide +kernel
theorem dX7_init_4 : decode cX7_init 4 = .ok (.aload_n 0, 1) := by decide +kernel
theorem dX7_init_5 : decode cX7_init 5 = .ok (.bipush 40, 2) := by decide +kernel
theorem dX7_init_7 : decode cX7_init 7 = .ok (.newarray .int, 2) := by decide +kernel
theorem dX7_init_9 : decode cX7_init 9 = .ok (.putfield 7, 3) := by decide +kernel
theorem dX7_init_12 : decode cX7_init 12 = .ok (.aload_n 0, 1) := by decide +kernel
theorem dX7_init_13 : decode cX7_init 13 = .ok (.iconst 5, 1) := by decide +kernel
theorem dX7_init_14 : decode cX7_init 14 = .ok (.newarray .float, 2) := by decide +kernel
theorem dX7_init_16 : decode cX7_init 16 = .ok (.putfield 13, 3) := by decide +kernel
theorem dX7_init_19 : decode cX7_init 19 = .ok (.aload_n 0, 1) := by decide +kernel
theorem dX7_init_20 : decode cX7_init 20 = .ok (.sipush 320, 3) := by decide +kernel
theorem dX7_init_23 : decode cX7_init 23 = .ok (.newarray .int, 2) := by decide +kernel
theorem dX7_init_25 : decode cX7_init 25 = .ok (.putfield 17, 3) := by decide +kernel
theorem dX7_init_28 : decode cX7_init 28 = .ok (.aload_n 0, 1) := by decide +kernel
theorem dX7_init_29 : decode cX7_init 29 = .ok (.bipush 40, 2) := by decide +kernel
theorem dX7_init_31 : decode cX7_init 31 = .ok (.newarray .float, 2) := by decide +kernel
theorem dX7_init_33 : decode cX7_init 33 = .ok (.putfield 20, 3) := by decide +kernel
theorem dX7_init_36 : decode cX7_init 36 = .ok (.aload_n 0, 1) := by decide +kernel
theorem dX7_init_37 : decode cX7_init 37 = .ok (.iconst 2, 1) := by decide +kernel
theorem dX7_init_38 : decode cX7_init 38 = .ok (.newarray .int, 2) := by decide +kernel
theorem dX7_init_40 : decode cX7_init 40 = .ok (.putfield 23, 3) := by decide +kernel
theorem dX7_init_43 : decode cX7_init 43 = .ok (.aload_n 0, 1) := by decide +kernel
theorem dX7_init_44 : decode cX7_init 44 = .ok (.bipush 80, 2) := by decide +kernel
theorem dX7_init_46 : decode cX7_init 46 = .ok (.newarray .int, 2) := by decide +kernel
theorem dX7_init_48 : decode cX7_init 48 = .ok (.putfield 26, 3) := by decide +kernel
theorem dX7_init_51 : decode cX7_init 51 = .ok (.aload_n 0, 1) := by decide +kernel
theorem dX7_init_52 : decode cX7_init 52 = .ok (.getfield 13, 3) := by decide +kernel
theorem dX7_init_55 : decode cX7_init 55 = .ok (.iconst 0, 1) := by decide +kernel
theorem dX7_init_56 : decode cX7_init 56 = .ok (.ldc 29, 2) := by decide +kernel
theorem dX7_init_58 : decode cX7_init 58 = .ok (.fastore, 1) := by decide +kernel
theorem dX7_init_59 : decode cX7_init 59 = .ok (.aload_n 0, 1) := by decide +kernel
theorem dX7_init_60 : decode cX7_init 60 = .ok (.getfield 7, 3) := by decide +kernel
theorem dX7_init_63 : decode cX7_init 63 = .ok (.iconst 5, 1) := by decide +kernel
theorem dX7_init_64 : decode cX7_init 64 = .ok (.bipush (-5), 2) := by decide +kernel
theorem dX7_init_66 : decode cX7_init 66 = .ok (.iastore, 1) := by decide +kernel
theorem dX7_init_67 : decode cX7_init 67 = .ok (.aload_n 0, 1) := by decide +kernel
theorem dX7_init_68 : decode cX7_init 68 = .ok (.getfield 7, 3) := by decide +kernel
theorem dX7_init_71 : decode cX7_init 71 = .ok (.bipush 12, 2) := by decide +kernel
theorem dX7_init_73 : decode cX7_init 73 = .ok (.sipush 200, 3) := by decide +kernel
theorem dX7_init_76 : decode cX7_init 76 = .ok (.iastore, 1) := by decide +kernel
theorem dX7_init_77 : decode cX7_init 77 = .ok (.aload_n 0, 1) := by decide +kernel
theorem dX7_init_78 : decode cX7_init 78 = .ok (.getfield 7, 3) := by decide +kernel
theorem dX7_init_81 : decode cX7_init 81 = .ok (.bipush 13, 2) := by decide +kernel
theorem dX7_init_83 : decode cX7_init 83 = .ok (.bipush 50, 2) := by decide +kernel
theorem dX7_init_85 : decode cX7_init 85 = .ok (.iastore, 1) := by decide +kernel
theorem dX7_init_86 : decode cX7_init 86 = .ok (.aload_n 0, 1) := by decide +kernel
theorem dX7_init_87 : decode cX7_init 87 = .ok (.getfield 7, 3) := by decide +kernel
theorem dX7_init_90 : decode cX7_init 90 = .ok (.bipush 14, 2) := by decide +kernel
theorem dX7_init_92 : decode cX7_init 92 = .ok (.sipush 500, 3) := by decide +kernel
theorem dX7_init_95 : decode cX7_init 95 = .ok (.iastore, 1) := by decide +kernel
theorem dX7_init_96 : decode cX7_init 96 = .ok (.aload_n 0, 1) := by decide +kernel
theorem dX7_init_97 : decode cX7_init 97 = .ok (.getfield 7, 3) := by decide +kernel
theorem dX7_init_100 : decode cX7_init 100 = .ok (.bipush 15, 2) := by decide +kernel
theorem dX7_init_102 : decode cX7_init 102 = .ok (.sipush 1000, 3) := by decide +kernel
theorem dX7_init_105 : decode cX7_init 105 = .ok (.iastore, 1) := by decide +kernel
theorem dX7_init_106 : decode cX7_init 106 = .ok (.aload_n 0, 1) := by decide +kernel
theorem dX7_init_107 : decode cX7_init 107 = .ok (.getfield 7, 3) := by decide +kernel
theorem dX7_init_110 : decode cX7_init 110 = .ok (.bipush 16, 2) := by decide +kernel
theorem dX7_init_112 : decode cX7_init 112 = .ok (.bipush 50, 2) := by decide +kernel
theorem dX7_init_114 : decode cX7_init 114 = .ok (.iastore, 1) := by decide +kernel
theorem dX7_init_115 : decode cX7_init 115 = .ok (.aload_n 0, 1) := by decide +kernel
theorem dX7_init_116 : decode cX7_init 116 = .ok (.getfield 7, 3) := by decide +kernel
theorem dX7_init_119 : decode cX7_init 119 = .ok (.bipush 17, 2) := by decide +kernel
theorem dX7_init_121 : decode cX7_init 121 = .ok (.bipush 10, 2) := by decide +kernel
theorem dX7_init_123 : decode cX7_init 123 = .ok (.iastore, 1) := by decide +kernel
theorem dX7_init_124 : decode cX7_init 124 = .ok (.aload_n 0, 1) := by decide +kernel
theorem dX7_init_125 : decode cX7_init 125 = .ok (.getfield 7, 3) := by decide +kernel
theorem dX7_init_128 : decode cX7_init 128 = .ok (.bipush 18, 2) := by decide +kernel
theorem dX7_init_130 : decode cX7_init 130 = .ok (.bipush 30, 2) := by decide +kernel
theorem dX7_init_132 : decode cX7_init 132 = .ok (.iastore, 1) := by decide +kernel
theorem dX7_init_133 : decode cX7_init 133 = .ok (.aload_n 0, 1) := by decide +kernel
theorem dX7_init_134 : decode cX7_init 134 = .ok (.getfield 7, 3) := by decide +kernel
theorem dX7_init_137 : decode cX7_init 137 = .ok (.bipush 19, 2) := by decide +kernel
theorem dX7_init_139 : decode cX7_init 139 = .ok (.bipush 50, 2) := by decide +kernel
theorem dX7_init_141 : decode cX7_init 141 = .ok (.iastore, 1) := by decide +kernel
theorem dX7_init_142 : decode cX7_init 142 = .ok (.return_, 1) := by decide +kernel
theorem dX7_isIn_0 : decode cX7_isIn 0 = .ok (.iload_n 0, 1) := by decide +kernel
theorem dX7_isIn_1 : decode cX7_isIn 1 = .ok (.iload_n 1, 1) := by decide +kernel
theorem dX7_isIn_2 : decode cX7_isIn 2 = .ok (.if_icmp .lt 12, 3) := by decide +kernel
theorem dX7_isIn_5 : decode cX7_isIn 5 = .ok (.iload_n 0, 1) := by decide +kernel
theorem dX7_isIn_6 : decode cX7_isIn 6 = .ok (.iload_n 2, 1) := by decide +kernel
theorem dX7_isIn_7 : decode cX7_isIn 7 = .ok (.if_icmp .gt 7, 3) := by decide +kernel
theorem dX7_isIn_10 : decode cX7_isIn 10 = .ok (.iconst 1, 1) := by decide +kernel
theorem dX7_isIn_11 : decode cX7_isIn 11 = .ok (.goto 4, 3) := by decide +kernel
theorem dX7_isIn_14 : decode cX7_isIn 14 = .ok (.iconst 0, 1) := by decide +kernel
theorem dX7_isIn_15 : decode cX7_isIn 15 = .ok (.ireturn, 1) := by decide +kernel
theorem dX7_metres_0 : decode cX7_metres 0 = .ok (.iload_n 0, 1) := by decide +kernel
theorem dX7_metres_1 : decode cX7_metres 1 = .ok (.i2f, 1) := by decide +kernel
theorem dX7_metres_2 : decode cX7_metres 2 = .ok (.ldc 29, 2) := by decide +kernel
theorem dX7_metres_4 : decode cX7_metres 4 = .ok (.fdiv, 1) := by decide +kernel
theorem dX7_metres_5 : decode cX7_metres 5 = .ok (.freturn, 1) := by decide +kernel
theorem dX7_thousandth_0 : decode cX7_thousandth 0 = .ok (.iload_n 0, 1) := by decide +kernel
theorem dX7_thousandth_1 : decode cX7_thousandth 1 = .ok (.i2f, 1) := by decide +kernel
theorem dX7_thousandth_2 : decode cX7_thousandth 2 = .ok (.ldc 30, 2) := by decide +kernel
theorem dX7_thousandth_4 : decode cX7_thousandth 4 = .ok (.fdiv, 1) := by decide +kernel
theorem dX7_thousandth_5 : decode cX7_thousandth 5 = .ok (.freturn, 1) := by decide +kernel
theorem dX7_sizeOf_0 : decode cX7_sizeOf 0 = .ok (.fload_n 0, 1) := by decide +kernel
theorem dX7_sizeOf_1 : decode cX7_sizeOf 1 = .ok (.fconst 0, 1) := by decide +kernel
theorem dX7_sizeOf_2 : decode cX7_sizeOf 2 = .ok (.fcmp .g, 1) := by decide +kernel
theorem dX7_sizeOf_3 : decode cX7_sizeOf 3 = .ok (.ifCond .ge 8, 3) := by decide +kernel
theorem dX7_sizeOf_6 : decode cX7_sizeOf 6 = .ok (.fload_n 0, 1) := by decide +kernel
theorem dX7_sizeOf_7 : decode cX7_sizeOf 7 = .ok (.fneg, 1) := by decide +kernel
theorem dX7_sizeOf_8 : decode cX7_sizeOf 8 = .ok (.goto 4, 3) := by decide +kernel
theorem dX7_sizeOf_11 : decode cX7_sizeOf 11 = .ok (.fload_n 0, 1) := by decide +kernel
theorem dX7_sizeOf_12 : decode cX7_sizeOf 12 = .ok (.freturn, 1) := by decide +kernel
theorem dX7_held_0 : decode cX7_held 0 = .ok (.fload_n 0, 1) := by decide +kernel
theorem dX7_held_1 : decode cX7_held 1 = .ok (.fload_n 1, 1) := by decide +kernel
theorem dX7_held_2 : decode cX7_held 2 = .ok (.fcmp .g, 1) := by decide +kernel
theorem dX7_held_3 : decode cX7_held 3 = .ok (.ifCond .ge 7, 3) := by decide +kernel
theorem dX7_held_6 : decode cX7_held 6 = .ok (.fload_n 1, 1) := by decide +kernel
theorem dX7_held_7 : decode cX7_held 7 = .ok (.goto 14, 3) := by decide +kernel
theorem dX7_held_10 : decode cX7_held 10 = .ok (.fload_n 0, 1) := by decide +kernel
theorem dX7_held_11 : decode cX7_held 11 = .ok (.fload_n 2, 1) := by decide +kernel
theorem dX7_held_12 : decode cX7_held 12 = .ok (.fcmp .l, 1) := by decide +kernel
theorem dX7_held_13 : decode cX7_held 13 = .ok (.ifCond .le 7, 3) := by decide +kernel
theorem dX7_held_16 : decode cX7_held 16 = .ok (.fload_n 2, 1) := by decide +kernel
theorem dX7_held_17 : decode cX7_held 17 = .ok (.goto 4, 3) := by decide +kernel
theorem dX7_held_20 : decode cX7_held 20 = .ok (.fload_n 0, 1) := by decide +kernel
theorem dX7_held_21 : decode cX7_held 21 = .ok (.freturn, 1) := by decide +kernel
theorem dX7_keeps_0 : decode cX7_keeps 0 = .ok (.iconst 0, 1) := by decide +kernel
theorem dX7_keeps_1 : decode cX7_keeps 1 = .ok (.istore_n 2, 1) := by decide +kernel
theorem dX7_keeps_2 : decode cX7_keeps 2 = .ok (.iload_n 2, 1) := by decide +kernel
theorem dX7_keeps_3 : decode cX7_keeps 3 = .ok (.bipush 40, 2) := by decide +kernel
theorem dX7_keeps_5 : decode cX7_keeps 5 = .ok (.if_icmp .ge 26, 3) := by decide +kernel
theorem dX7_keeps_8 : decode cX7_keeps 8 = .ok (.aload_n 0, 1) := by decide +kernel
theorem dX7_keeps_9 : decode cX7_keeps 9 = .ok (.getfield 17, 3) := by decide +kernel
theorem dX7_keeps_12 : decode cX7_keeps 12 = .ok (.iload_n 1, 1) := by decide +kernel
theorem dX7_keeps_13 : decode cX7_keeps 13 = .ok (.bipush 40, 2) := by decide +kernel
theorem dX7_keeps_15 : decode cX7_keeps 15 = .ok (.imul, 1) := by decide +kernel
theorem dX7_keeps_16 : decode cX7_keeps 16 = .ok (.iload_n 2, 1) := by decide +kernel
theorem dX7_keeps_17 : decode cX7_keeps 17 = .ok (.iadd, 1) := by decide +kernel
theorem dX7_keeps_18 : decode cX7_keeps 18 = .ok (.aload_n 0, 1) := by decide +kernel
theorem dX7_keeps_19 : decode cX7_keeps 19 = .ok (.getfield 7, 3) := by decide +kernel
theorem dX7_keeps_22 : decode cX7_keeps 22 = .ok (.iload_n 2, 1) := by decide +kernel
theorem dX7_keeps_23 : decode cX7_keeps 23 = .ok (.iaload, 1) := by decide +kernel
theorem dX7_keeps_24 : decode cX7_keeps 24 = .ok (.iastore, 1) := by decide +kernel
theorem dX7_keeps_25 : decode cX7_keeps 25 = .ok (.iinc 2 1, 3) := by decide +kernel
theorem dX7_keeps_28 : decode cX7_keeps 28 = .ok (.goto (-26), 3) := by decide +kernel
theorem dX7_keeps_31 : decode cX7_keeps 31 = .ok (.iconst 0, 1) := by decide +kernel
theorem dX7_keeps_32 : decode cX7_keeps 32 = .ok (.istore_n 2, 1) := by decide +kernel
theorem dX7_keeps_33 : decode cX7_keeps 33 = .ok (.iload_n 2, 1) := by decide +kernel
theorem dX7_keeps_34 : decode cX7_keeps 34 = .ok (.iconst 5, 1) := by decide +kernel
theorem dX7_keeps_35 : decode cX7_keeps 35 = .ok (.if_icmp .ge 25, 3) := by decide +kernel
theorem dX7_keeps_38 : decode cX7_keeps 38 = .ok (.aload_n 0, 1) := by decide +kernel
theorem dX7_keeps_39 : decode cX7_keeps 39 = .ok (.getfield 20, 3) := by decide +kernel
theorem dX7_keeps_42 : decode cX7_keeps 42 = .ok (.iconst 5, 1) := by decide +kernel
theorem dX7_keeps_43 : decode cX7_keeps 43 = .ok (.iload_n 1, 1) := by decide +kernel
theorem dX7_keeps_44 : decode cX7_keeps 44 = .ok (.imul, 1) := by decide +kernel
theorem dX7_keeps_45 : decode cX7_keeps 45 = .ok (.iload_n 2, 1) := by decide +kernel
theorem dX7_keeps_46 : decode cX7_keeps 46 = .ok (.iadd, 1) := by decide +kernel
theorem dX7_keeps_47 : decode cX7_keeps 47 = .ok (.aload_n 0, 1) := by decide +kernel
theorem dX7_keeps_48 : decode cX7_keeps 48 = .ok (.getfield 13, 3) := by decide +kernel
theorem dX7_keeps_51 : decode cX7_keeps 51 = .ok (.iload_n 2, 1) := by decide +kernel
theorem dX7_keeps_52 : decode cX7_keeps 52 = .ok (.faload, 1) := by decide +kernel
theorem dX7_keeps_53 : decode cX7_keeps 53 = .ok (.fastore, 1) := by decide +kernel
theorem dX7_keeps_54 : decode cX7_keeps 54 = .ok (.iinc 2 1, 3) := by decide +kernel
theorem dX7_keeps_57 : decode cX7_keeps 57 = .ok (.goto (-24), 3) := by decide +kernel
theorem dX7_keeps_60 : decode cX7_keeps 60 = .ok (.return_, 1) := by decide +kernel
theorem dX7_brings_0 : decode cX7_brings 0 = .ok (.iconst 0, 1) := by decide +kernel
theorem dX7_brings_1 : decode cX7_brings 1 = .ok (.istore_n 2, 1) := by decide +kernel
theorem dX7_brings_2 : decode cX7_brings 2 = .ok (.iload_n 2, 1) := by decide +kernel
theorem dX7_brings_3 : decode cX7_brings 3 = .ok (.bipush 40, 2) := by decide +kernel
theorem dX7_brings_5 : decode cX7_brings 5 = .ok (.if_icmp .ge 26, 3) := by decide +kernel
theorem dX7_brings_8 : decode cX7_brings 8 = .ok (.aload_n 0, 1) := by decide +kernel
theorem dX7_brings_9 : decode cX7_brings 9 = .ok (.getfield 7, 3) := by decide +kernel
theorem dX7_brings_12 : decode cX7_brings 12 = .ok (.iload_n 2, 1) := by decide +kernel
theorem dX7_brings_13 : decode cX7_brings 13 = .ok (.aload_n 0, 1) := by decide +kernel
theorem dX7_brings_14 : decode cX7_brings 14 = .ok (.getfield 17, 3) := by decide +kernel
theorem dX7_brings_17 : decode cX7_brings 17 = .ok (.iload_n 1, 1) := by decide +kernel
theorem dX7_brings_18 : decode cX7_brings 18 = .ok (.bipush 40, 2) := by decide +kernel
theorem dX7_brings_20 : decode cX7_brings 20 = .ok (.imul, 1) := by decide +kernel
theorem dX7_brings_21 : decode cX7_brings 21 = .ok (.iload_n 2, 1) := by decide +kernel
theorem dX7_brings_22 : decode cX7_brings 22 = .ok (.iadd, 1) := by decide +kernel
theorem dX7_brings_23 : decode cX7_brings 23 = .ok (.iaload, 1) := by decide +kernel
theorem dX7_brings_24 : decode cX7_brings 24 = .ok (.iastore, 1) := by decide +kernel
theorem dX7_brings_25 : decode cX7_brings 25 = .ok (.iinc 2 1, 3) := by decide +kernel
theorem dX7_brings_28 : decode cX7_brings 28 = .ok (.goto (-26), 3) := by decide +kernel
theorem dX7_brings_31 : decode cX7_brings 31 = .ok (.iconst 0, 1) := by decide +kernel
theorem dX7_brings_32 : decode cX7_brings 32 = .ok (.istore_n 2, 1) := by decide +kernel
theorem dX7_brings_33 : decode cX7_brings 33 = .ok (.iload_n 2, 1) := by decide +kernel
theorem dX7_brings_34 : decode cX7_brings 34 = .ok (.iconst 5, 1) := by decide +kernel
theorem dX7_brings_35 : decode cX7_brings 35 = .ok (.if_icmp .ge 25, 3) := by decide +kernel
theorem dX7_brings_38 : decode cX7_brings 38 = .ok (.aload_n 0, 1) := by decide +kernel
theorem dX7_brings_39 : decode cX7_brings 39 = .ok (.getfield 13, 3) := by decide +kernel
theorem dX7_brings_42 : decode cX7_brings 42 = .ok (.iload_n 2, 1) := by decide +kernel
theorem dX7_brings_43 : decode cX7_brings 43 = .ok (.aload_n 0, 1) := by decide +kernel
theorem dX7_brings_44 : decode cX7_brings 44 = .ok (.getfield 20, 3) := by decide +kernel
theorem dX7_brings_47 : decode cX7_brings 47 = .ok (.iconst 5, 1) := by decide +kernel
theorem dX7_brings_48 : decode cX7_brings 48 = .ok (.iload_n 1, 1) := by decide +kernel
theorem dX7_brings_49 : decode cX7_brings 49 = .ok (.imul, 1) := by decide +kernel
theorem dX7_brings_50 : decode cX7_brings 50 = .ok (.iload_n 2, 1) := by decide +kernel
theorem dX7_brings_51 : decode cX7_brings 51 = .ok (.iadd, 1) := by decide +kernel
theorem dX7_brings_52 : decode cX7_brings 52 = .ok (.faload, 1) := by decide +kernel
theorem dX7_brings_53 : decode cX7_brings 53 = .ok (.fastore, 1) := by decide +kernel
theorem dX7_brings_54 : decode cX7_brings 54 = .ok (.iinc 2 1, 3) := by decide +kernel
theorem dX7_brings_57 : decode cX7_brings 57 = .ok (.goto (-24), 3) := by decide +kernel
theorem dX7_brings_60 : decode cX7_brings 60 = .ok (.return_, 1) := by decide +kernel
theorem dX7_records_0 : decode cX7_records 0 = .ok (.aload_n 0, 1) := by decide +kernel
theorem dX7_records_1 : decode cX7_records 1 = .ok (.getfield 31, 3) := by decide +kernel
theorem dX7_records_4 : decode cX7_records 4 = .ok (.iconst 5, 1) := by decide +kernel
theorem dX7_records_5 : decode cX7_records 5 = .ok (.if_icmp .ne 71, 3) := by decide +kernel
theorem dX7_records_8 : decode cX7_records 8 = .ok (.iconst 0, 1) := by decide +kernel
theorem dX7_records_9 : decode cX7_records 9 = .ok (.istore_n 1, 1) := by decide +kernel
theorem dX7_records_10 : decode cX7_records 10 = .ok (.iload_n 1, 1) := by decide +kernel
theorem dX7_records_11 : decode cX7_records 11 = .ok (.sipush 160, 3) := by decide +kernel
theorem dX7_records_14 : decode cX7_records 14 = .ok (.if_icmp .ge 24, 3) := by decide +kernel
theorem dX7_records_17 : decode cX7_records 17 = .ok (.aload_n 0, 1) := by decide +kernel
theorem dX7_records_18 : decode cX7_records 18 = .ok (.getfield 17, 3) := by decide +kernel
theorem dX7_records_21 : decode cX7_records 21 = .ok (.iload_n 1, 1) := by decide +kernel
theorem dX7_records_22 : decode cX7_records 22 = .ok (.aload_n 0, 1) := by decide +kernel
theorem dX7_records_23 : decode cX7_records 23 = .ok (.getfield 17, 3) := by decide +kernel
theorem dX7_records_26 : decode cX7_records 26 = .ok (.iload_n 1, 1) := by decide +kernel
theorem dX7_records_27 : decode cX7_records 27 = .ok (.bipush 40, 2) := by decide +kernel
theorem dX7_records_29 : decode cX7_records 29 = .ok (.iadd, 1) := by decide +kernel
theorem dX7_records_30 : decode cX7_records 30 = .ok (.iaload, 1) := by decide +kernel
theorem dX7_records_31 : decode cX7_records 31 = .ok (.iastore, 1) := by decide +kernel
theorem dX7_records_32 : decode cX7_records 32 = .ok (.iinc 1 1, 3) := by decide +kernel
theorem dX7_records_35 : decode cX7_records 35 = .ok (.goto (-25), 3) := by decide +kernel
theorem dX7_records_38 : decode cX7_records 38 = .ok (.iconst 0, 1) := by decide +kernel
theorem dX7_records_39 : decode cX7_records 39 = .ok (.istore_n 1, 1) := by decide +kernel
theorem dX7_records_40 : decode cX7_records 40 = .ok (.iload_n 1, 1) := by decide +kernel
theorem dX7_records_41 : decode cX7_records 41 = .ok (.bipush 20, 2) := by decide +kernel
theorem dX7_records_43 : decode cX7_records 43 = .ok (.if_icmp .ge 23, 3) := by decide +kernel
theorem dX7_records_46 : decode cX7_records 46 = .ok (.aload_n 0, 1) := by decide +kernel
theorem dX7_records_47 : decode cX7_records 47 = .ok (.getfield 20, 3) := by decide +kernel
theorem dX7_records_50 : decode cX7_records 50 = .ok (.iload_n 1, 1) := by decide +kernel
theorem dX7_records_51 : decode cX7_records 51 = .ok (.aload_n 0, 1) := by decide +kernel
theorem dX7_records_52 : decode cX7_records 52 = .ok (.getfield 20, 3) := by decide +kernel
theorem dX7_records_55 : decode cX7_records 55 = .ok (.iload_n 1, 1) := by decide +kernel
theorem dX7_records_56 : decode cX7_records 56 = .ok (.iconst 5, 1) := by decide +kernel
theorem dX7_records_57 : decode cX7_records 57 = .ok (.iadd, 1) := by decide +kernel
theorem dX7_records_58 : decode cX7_records 58 = .ok (.faload, 1) := by decide +kernel
theorem dX7_records_59 : decode cX7_records 59 = .ok (.fastore, 1) := by decide +kernel
theorem dX7_records_60 : decode cX7_records 60 = .ok (.iinc 1 1, 3) := by decide +kernel
theorem dX7_records_63 : decode cX7_records 63 = .ok (.goto (-23), 3) := by decide +kernel
theorem dX7_records_66 : decode cX7_records 66 = .ok (.aload_n 0, 1) := by decide +kernel
theorem dX7_records_67 : decode cX7_records 67 = .ok (.dup, 1) := by decide +kernel
theorem dX7_records_68 : decode cX7_records 68 = .ok (.getfield 31, 3) := by decide +kernel
theorem dX7_records_71 : decode cX7_records 71 = .ok (.iconst 1, 1) := by decide +kernel
theorem dX7_records_72 : decode cX7_records 72 = .ok (.isub, 1) := by decide +kernel
theorem dX7_records_73 : decode cX7_records 73 = .ok (.putfield 31, 3) := by decide +kernel
theorem dX7_records_76 : decode cX7_records 76 = .ok (.aload_n 0, 1) := by decide +kernel
theorem dX7_records_77 : decode cX7_records 77 = .ok (.aload_n 0, 1) := by decide +kernel
theorem dX7_records_78 : decode cX7_records 78 = .ok (.getfield 31, 3) := by decide +kernel
theorem dX7_records_81 : decode cX7_records 81 = .ok (.invokevirtual 35, 3) := by decide +kernel
theorem dX7_records_84 : decode cX7_records 84 = .ok (.aload_n 0, 1) := by decide +kernel
theorem dX7_records_85 : decode cX7_records 85 = .ok (.dup, 1) := by decide +kernel
theorem dX7_records_86 : decode cX7_records 86 = .ok (.getfield 31, 3) := by decide +kernel
theorem dX7_records_89 : decode cX7_records 89 = .ok (.iconst 1, 1) := by decide +kernel
theorem dX7_records_90 : decode cX7_records 90 = .ok (.iadd, 1) := by decide +kernel
theorem dX7_records_91 : decode cX7_records 91 = .ok (.putfield 31, 3) := by decide +kernel
theorem dX7_records_94 : decode cX7_records 94 = .ok (.return_, 1) := by decide +kernel
theorem dX7_undo_0 : decode cX7_undo 0 = .ok (.aload_n 0, 1) := by decide +kernel
theorem dX7_undo_1 : decode cX7_undo 1 = .ok (.getfield 31, 3) := by decide +kernel
theorem dX7_undo_4 : decode cX7_undo 4 = .ok (.ifCond .ne 6, 3) := by decide +kernel
theorem dX7_undo_7 : decode cX7_undo 7 = .ok (.bipush (-3), 2) := by decide +kernel
theorem dX7_undo_9 : decode cX7_undo 9 = .ok (.ireturn, 1) := by decide +kernel
theorem dX7_undo_10 : decode cX7_undo 10 = .ok (.aload_n 0, 1) := by decide +kernel
theorem dX7_undo_11 : decode cX7_undo 11 = .ok (.dup, 1) := by decide +kernel
theorem dX7_undo_12 : decode cX7_undo 12 = .ok (.getfield 31, 3) := by decide +kernel
theorem dX7_undo_15 : decode cX7_undo 15 = .ok (.iconst 1, 1) := by decide +kernel
theorem dX7_undo_16 : decode cX7_undo 16 = .ok (.isub, 1) := by decide +kernel
theorem dX7_undo_17 : decode cX7_undo 17 = .ok (.putfield 31, 3) := by decide +kernel
theorem dX7_undo_20 : decode cX7_undo 20 = .ok (.aload_n 0, 1) := by decide +kernel
theorem dX7_undo_21 : decode cX7_undo 21 = .ok (.aload_n 0, 1) := by decide +kernel
theorem dX7_undo_22 : decode cX7_undo 22 = .ok (.getfield 31, 3) := by decide +kernel
theorem dX7_undo_25 : decode cX7_undo 25 = .ok (.invokevirtual 39, 3) := by decide +kernel
theorem dX7_undo_28 : decode cX7_undo 28 = .ok (.aload_n 0, 1) := by decide +kernel
theorem dX7_undo_29 : decode cX7_undo 29 = .ok (.getfield 31, 3) := by decide +kernel
theorem dX7_undo_32 : decode cX7_undo 32 = .ok (.ireturn, 1) := by decide +kernel
theorem dX7_save_0 : decode cX7_save 0 = .ok (.iload_n 1, 1) := by decide +kernel
theorem dX7_save_1 : decode cX7_save 1 = .ok (.iconst 0, 1) := by decide +kernel
theorem dX7_save_2 : decode cX7_save 2 = .ok (.iconst 1, 1) := by decide +kernel
theorem dX7_save_3 : decode cX7_save 3 = .ok (.invokestatic 42, 3) := by decide +kernel
theorem dX7_save_6 : decode cX7_save 6 = .ok (.ifCond .ne 5, 3) := by decide +kernel
theorem dX7_save_9 : decode cX7_save 9 = .ok (.iconst (-1), 1) := by decide +kernel
theorem dX7_save_10 : decode cX7_save 10 = .ok (.ireturn, 1) := by decide +kernel
theorem dX7_save_11 : decode cX7_save 11 = .ok (.aload_n 0, 1) := by decide +kernel
theorem dX7_save_12 : decode cX7_save 12 = .ok (.iconst 5, 1) := by decide +kernel
theorem dX7_save_13 : decode cX7_save 13 = .ok (.iload_n 1, 1) := by decide +kernel
theorem dX7_save_14 : decode cX7_save 14 = .ok (.iadd, 1) := by decide +kernel
theorem dX7_save_15 : decode cX7_save 15 = .ok (.invokevirtual 35, 3) := by decide +kernel
theorem dX7_save_18 : decode cX7_save 18 = .ok (.aload_n 0, 1) := by decide +kernel
theorem dX7_save_19 : decode cX7_save 19 = .ok (.getfield 23, 3) := by decide +kernel
theorem dX7_save_22 : decode cX7_save 22 = .ok (.iload_n 1, 1) := by decide +kernel
theorem dX7_save_23 : decode cX7_save 23 = .ok (.iconst 1, 1) := by decide +kernel
theorem dX7_save_24 : decode cX7_save 24 = .ok (.iastore, 1) := by decide +kernel
theorem dX7_save_25 : decode cX7_save 25 = .ok (.aload_n 0, 1) := by decide +kernel
theorem dX7_save_26 : decode cX7_save 26 = .ok (.getfield 7, 3) := by decide +kernel
theorem dX7_save_29 : decode cX7_save 29 = .ok (.iconst 0, 1) := by decide +kernel
theorem dX7_save_30 : decode cX7_save 30 = .ok (.iaload, 1) := by decide +kernel
theorem dX7_save_31 : decode cX7_save 31 = .ok (.ireturn, 1) := by decide +kernel
theorem dX7_restore_0 : decode cX7_restore 0 = .ok (.iload_n 1, 1) := by decide +kernel
theorem dX7_restore_1 : decode cX7_restore 1 = .ok (.iconst 0, 1) := by decide +kernel
theorem dX7_restore_2 : decode cX7_restore 2 = .ok (.iconst 1, 1) := by decide +kernel
theorem dX7_restore_3 : decode cX7_restore 3 = .ok (.invokestatic 42, 3) := by decide +kernel
theorem dX7_restore_6 : decode cX7_restore 6 = .ok (.ifCond .ne 5, 3) := by decide +kernel
theorem dX7_restore_9 : decode cX7_restore 9 = .ok (.iconst (-1), 1) := by decide +kernel
theorem dX7_restore_10 : decode cX7_restore 10 = .ok (.ireturn, 1) := by decide +kernel
theorem dX7_restore_11 : decode cX7_restore 11 = .ok (.aload_n 0, 1) := by decide +kernel
theorem dX7_restore_12 : decode cX7_restore 12 = .ok (.getfield 23, 3) := by decide +kernel
theorem dX7_restore_15 : decode cX7_restore 15 = .ok (.iload_n 1, 1) := by decide +kernel
theorem dX7_restore_16 : decode cX7_restore 16 = .ok (.iaload, 1) := by decide +kernel
theorem dX7_restore_17 : decode cX7_restore 17 = .ok (.ifCond .ne 6, 3) := by decide +kernel
theorem dX7_restore_20 : decode cX7_restore 20 = .ok (.bipush (-3), 2) := by decide +kernel
theorem dX7_restore_22 : decode cX7_restore 22 = .ok (.ireturn, 1) := by decide +kernel
theorem dX7_restore_23 : decode cX7_restore 23 = .ok (.aload_n 0, 1) := by decide +kernel
theorem dX7_restore_24 : decode cX7_restore 24 = .ok (.invokevirtual 46, 3) := by decide +kernel
theorem dX7_restore_27 : decode cX7_restore 27 = .ok (.aload_n 0, 1) := by decide +kernel
theorem dX7_restore_28 : decode cX7_restore 28 = .ok (.iconst 5, 1) := by decide +kernel
theorem dX7_restore_29 : decode cX7_restore 29 = .ok (.iload_n 1, 1) := by decide +kernel
theorem dX7_restore_30 : decode cX7_restore 30 = .ok (.iadd, 1) := by decide +kernel
theorem dX7_restore_31 : decode cX7_restore 31 = .ok (.invokevirtual 39, 3) := by decide +kernel
theorem dX7_restore_34 : decode cX7_restore 34 = .ok (.aload_n 0, 1) := by decide +kernel
theorem dX7_restore_35 : decode cX7_restore 35 = .ok (.getfield 7, 3) := by decide +kernel
theorem dX7_restore_38 : decode cX7_restore 38 = .ok (.iconst 0, 1) := by decide +kernel
theorem dX7_restore_39 : decode cX7_restore 39 = .ok (.iaload, 1) := by decide +kernel
theorem dX7_restore_40 : decode cX7_restore 40 = .ok (.ireturn, 1) := by decide +kernel
theorem dX7_place_0 : decode cX7_place 0 = .ok (.iload_n 1, 1) := by decide +kernel
theorem dX7_place_1 : decode cX7_place 1 = .ok (.iconst 1, 1) := by decide +kernel
theorem dX7_place_2 : decode cX7_place 2 = .ok (.ldc 49, 2) := by decide +kernel
theorem dX7_place_4 : decode cX7_place 4 = .ok (.invokestatic 42, 3) := by decide +kernel
theorem dX7_place_7 : decode cX7_place 7 = .ok (.ifCond .eq 18, 3) := by decide +kernel
theorem dX7_place_10 : decode cX7_place 10 = .ok (.iload_n 2, 1) := by decide +kernel
theorem dX7_place_11 : decode cX7_place 11 = .ok (.ldc 50, 2) := by decide +kernel
theorem dX7_place_13 : decode cX7_place 13 = .ok (.ldc 49, 2) := by decide +kernel
theorem dX7_place_15 : decode cX7_place 15 = .ok (.invokestatic 42, 3) := by decide +kernel
theorem dX7_place_18 : decode cX7_place 18 = .ok (.ifCond .eq 7, 3) := by decide +kernel
theorem dX7_place_21 : decode cX7_place 21 = .ok (.iconst 1, 1) := by decide +kernel
theorem dX7_place_22 : decode cX7_place 22 = .ok (.goto 4, 3) := by decide +kernel
theorem dX7_place_25 : decode cX7_place 25 = .ok (.iconst 0, 1) := by decide +kernel
theorem dX7_place_26 : decode cX7_place 26 = .ok (.istore 5, 2) := by decide +kernel
theorem dX7_place_28 : decode cX7_place 28 = .ok (.iload 5, 2) := by decide +kernel
theorem dX7_place_30 : decode cX7_place 30 = .ok (.ifCond .eq 30, 3) := by decide +kernel
theorem dX7_place_33 : decode cX7_place 33 = .ok (.iload_n 3, 1) := by decide +kernel
theorem dX7_place_34 : decode cX7_place 34 = .ok (.sipush (-5000), 3) := by decide +kernel
theorem dX7_place_37 : decode cX7_place 37 = .ok (.sipush 5000, 3) := by decide +kernel
theorem dX7_place_40 : decode cX7_place 40 = .ok (.invokestatic 42, 3) := by decide +kernel
theorem dX7_place_43 : decode cX7_place 43 = .ok (.ifCond .eq 17, 3) := by decide +kernel
theorem dX7_place_46 : decode cX7_place 46 = .ok (.iload 4, 2) := by decide +kernel
theorem dX7_place_48 : decode cX7_place 48 = .ok (.sipush (-5000), 3) := by decide +kernel
theorem dX7_place_51 : decode cX7_place 51 = .ok (.sipush 5000, 3) := by decide +kernel
theorem dX7_place_54 : decode cX7_place 54 = .ok (.invokestatic 42, 3) := by decide +kernel
theorem dX7_place_57 : decode cX7_place 57 = .ok (.ifCond .ne 6, 3) := by decide +kernel
theorem dX7_place_60 : decode cX7_place 60 = .ok (.bipush (-2), 2) := by decide +kernel
theorem dX7_place_62 : decode cX7_place 62 = .ok (.ireturn, 1) := by decide +kernel
theorem dX7_place_63 : decode cX7_place 63 = .ok (.aload_n 0, 1) := by decide +kernel
theorem dX7_place_64 : decode cX7_place 64 = .ok (.invokevirtual 46, 3) := by decide +kernel
theorem dX7_place_67 : decode cX7_place 67 = .ok (.aload_n 0, 1) := by decide +kernel
theorem dX7_place_68 : decode cX7_place 68 = .ok (.getfield 13, 3) := by decide +kernel
theorem dX7_place_71 : decode cX7_place 71 = .ok (.iconst 0, 1) := by decide +kernel
theorem dX7_place_72 : decode cX7_place 72 = .ok (.iload_n 1, 1) := by decide +kernel
theorem dX7_place_73 : decode cX7_place 73 = .ok (.invokestatic 51, 3) := by decide +kernel
theorem dX7_place_76 : decode cX7_place 76 = .ok (.fastore, 1) := by decide +kernel
theorem dX7_place_77 : decode cX7_place 77 = .ok (.aload_n 0, 1) := by decide +kernel
theorem dX7_place_78 : decode cX7_place 78 = .ok (.getfield 13, 3) := by decide +kernel
theorem dX7_place_81 : decode cX7_place 81 = .ok (.iconst 1, 1) := by decide +kernel
theorem dX7_place_82 : decode cX7_place 82 = .ok (.iload_n 2, 1) := by decide +kernel
theorem dX7_place_83 : decode cX7_place 83 = .ok (.invokestatic 51, 3) := by decide +kernel
theorem dX7_place_86 : decode cX7_place 86 = .ok (.fastore, 1) := by decide +kernel
theorem dX7_place_87 : decode cX7_place 87 = .ok (.aload_n 0, 1) := by decide +kernel
theorem dX7_place_88 : decode cX7_place 88 = .ok (.getfield 13, 3) := by decide +kernel
theorem dX7_place_91 : decode cX7_place 91 = .ok (.iconst 2, 1) := by decide +kernel
theorem dX7_place_92 : decode cX7_place 92 = .ok (.iload_n 3, 1) := by decide +kernel
theorem dX7_place_93 : decode cX7_place 93 = .ok (.invokestatic 55, 3) := by decide +kernel
theorem dX7_place_96 : decode cX7_place 96 = .ok (.fastore, 1) := by decide +kernel
theorem dX7_place_97 : decode cX7_place 97 = .ok (.aload_n 0, 1) := by decide +kernel
theorem dX7_place_98 : decode cX7_place 98 = .ok (.getfield 13, 3) := by decide +kernel
theorem dX7_place_101 : decode cX7_place 101 = .ok (.iconst 3, 1) := by decide +kernel
theorem dX7_place_102 : decode cX7_place 102 = .ok (.iload 4, 2) := by decide +kernel
theorem dX7_place_104 : decode cX7_place 104 = .ok (.invokestatic 55, 3) := by decide +kernel
theorem dX7_place_107 : decode cX7_place 107 = .ok (.fastore, 1) := by decide +kernel
theorem dX7_place_108 : decode cX7_place 108 = .ok (.aload_n 0, 1) := by decide +kernel
theorem dX7_place_109 : decode cX7_place 109 = .ok (.getfield 7, 3) := by decide +kernel
theorem dX7_place_112 : decode cX7_place 112 = .ok (.iconst 0, 1) := by decide +kernel
theorem dX7_place_113 : decode cX7_place 113 = .ok (.iconst 0, 1) := by decide +kernel
theorem dX7_place_114 : decode cX7_place 114 = .ok (.iastore, 1) := by decide +kernel
theorem dX7_place_115 : decode cX7_place 115 = .ok (.aload_n 0, 1) := by decide +kernel
theorem dX7_place_116 : decode cX7_place 116 = .ok (.getfield 7, 3) := by decide +kernel
theorem dX7_place_119 : decode cX7_place 119 = .ok (.iconst 2, 1) := by decide +kernel
theorem dX7_place_120 : decode cX7_place 120 = .ok (.iconst 0, 1) := by decide +kernel
theorem dX7_place_121 : decode cX7_place 121 = .ok (.iastore, 1) := by decide +kernel
theorem dX7_place_122 : decode cX7_place 122 = .ok (.aload_n 0, 1) := by decide +kernel
theorem dX7_place_123 : decode cX7_place 123 = .ok (.getfield 7, 3) := by decide +kernel
theorem dX7_place_126 : decode cX7_place 126 = .ok (.iconst 3, 1) := by decide +kernel
theorem dX7_place_127 : decode cX7_place 127 = .ok (.iconst 0, 1) := by decide +kernel
theorem dX7_place_128 : decode cX7_place 128 = .ok (.iastore, 1) := by decide +kernel
theorem dX7_place_129 : decode cX7_place 129 = .ok (.aload_n 0, 1) := by decide +kernel
theorem dX7_place_130 : decode cX7_place 130 = .ok (.getfield 7, 3) := by decide +kernel
theorem dX7_place_133 : decode cX7_place 133 = .ok (.iconst 4, 1) := by decide +kernel
theorem dX7_place_134 : decode cX7_place 134 = .ok (.iconst 0, 1) := by decide +kernel
theorem dX7_place_135 : decode cX7_place 135 = .ok (.iastore, 1) := by decide +kernel
theorem dX7_place_136 : decode cX7_place 136 = .ok (.aload_n 0, 1) := by decide +kernel
theorem dX7_place_137 : decode cX7_place 137 = .ok (.getfield 7, 3) := by decide +kernel
theorem dX7_place_140 : decode cX7_place 140 = .ok (.iconst 5, 1) := by decide +kernel
theorem dX7_place_141 : decode cX7_place 141 = .ok (.bipush (-5), 2) := by decide +kernel
theorem dX7_place_143 : decode cX7_place 143 = .ok (.iastore, 1) := by decide +kernel
theorem dX7_place_144 : decode cX7_place 144 = .ok (.aload_n 0, 1) := by decide +kernel
theorem dX7_place_145 : decode cX7_place 145 = .ok (.invokevirtual 58, 3) := by decide +kernel
theorem dX7_place_148 : decode cX7_place 148 = .ok (.ireturn, 1) := by decide +kernel
theorem dX7_leastOf_0 : decode cX7_leastOf 0 = .ok (.iload_n 0, 1) := by decide +kernel
theorem dX7_leastOf_1 : decode cX7_leastOf 1 = .ok (.tableswitch 55 0 7 #[47, 55, 50, 55, 53, 55, 53, 47], 47) := by decide +kernel
theorem dX7_leastOf_48 : decode cX7_leastOf 48 = .ok (.bipush 10, 2) := by decide +kernel
theorem dX7_leastOf_50 : decode cX7_leastOf 50 = .ok (.ireturn, 1) := by decide +kernel
theorem dX7_leastOf_51 : decode cX7_leastOf 51 = .ok (.bipush 100, 2) := by decide +kernel
theorem dX7_leastOf_53 : decode cX7_leastOf 53 = .ok (.ireturn, 1) := by decide +kernel
theorem dX7_leastOf_54 : decode cX7_leastOf 54 = .ok (.iconst 1, 1) := by decide +kernel
theorem dX7_leastOf_55 : decode cX7_leastOf 55 = .ok (.ireturn, 1) := by decide +kernel
theorem dX7_leastOf_56 : decode cX7_leastOf 56 = .ok (.iconst 0, 1) := by decide +kernel
theorem dX7_leastOf_57 : decode cX7_leastOf 57 = .ok (.ireturn, 1) := by decide +kernel
theorem dX7_mostOf_0 : decode cX7_mostOf 0 = .ok (.iload_n 0, 1) := by decide +kernel
theorem dX7_mostOf_1 : decode cX7_mostOf 1 = .ok (.tableswitch 58 0 6 #[43, 58, 47, 51, 58, 58, 55], 43) := by decide +kernel
theorem dX7_mostOf_44 : decode cX7_mostOf 44 = .ok (.sipush 1000, 3) := by decide +kernel
theorem dX7_mostOf_47 : decode cX7_mostOf 47 = .ok (.ireturn, 1) := by decide +kernel
theorem dX7_mostOf_48 : decode cX7_mostOf 48 = .ok (.sipush 5000, 3) := by decide +kernel
theorem dX7_mostOf_51 : decode cX7_mostOf 51 = .ok (.ireturn, 1) := by decide +kernel
theorem dX7_mostOf_52 : decode cX7_mostOf 52 = .ok (.sipush 10000, 3) := by decide +kernel
theorem dX7_mostOf_55 : decode cX7_mostOf 55 = .ok (.ireturn, 1) := by decide +kernel
theorem dX7_mostOf_56 : decode cX7_mostOf 56 = .ok (.bipush 60, 2) := by decide +kernel
theorem dX7_mostOf_58 : decode cX7_mostOf 58 = .ok (.ireturn, 1) := by decide +kernel
theorem dX7_mostOf_59 : decode cX7_mostOf 59 = .ok (.sipush 500, 3) := by decide +kernel
theorem dX7_mostOf_62 : decode cX7_mostOf 62 = .ok (.ireturn, 1) := by decide +kernel
theorem dX7_set_0 : decode cX7_set 0 = .ok (.iload_n 1, 1) := by decide +kernel
theorem dX7_set_1 : decode cX7_set 1 = .ok (.iconst 0, 1) := by decide +kernel
theorem dX7_set_2 : decode cX7_set 2 = .ok (.bipush 7, 2) := by decide +kernel
theorem dX7_set_4 : decode cX7_set 4 = .ok (.invokestatic 42, 3) := by decide +kernel
theorem dX7_set_7 : decode cX7_set 7 = .ok (.ifCond .ne 5, 3) := by decide +kernel
theorem dX7_set_10 : decode cX7_set 10 = .ok (.iconst (-1), 1) := by decide +kernel
theorem dX7_set_11 : decode cX7_set 11 = .ok (.ireturn, 1) := by decide +kernel
theorem dX7_set_12 : decode cX7_set 12 = .ok (.iload_n 2, 1) := by decide +kernel
theorem dX7_set_13 : decode cX7_set 13 = .ok (.iload_n 1, 1) := by decide +kernel
theorem dX7_set_14 : decode cX7_set 14 = .ok (.invokestatic 62, 3) := by decide +kernel
theorem dX7_set_17 : decode cX7_set 17 = .ok (.iload_n 1, 1) := by decide +kernel
theorem dX7_set_18 : decode cX7_set 18 = .ok (.invokestatic 66, 3) := by decide +kernel
theorem dX7_set_21 : decode cX7_set 21 = .ok (.invokestatic 42, 3) := by decide +kernel
theorem dX7_set_24 : decode cX7_set 24 = .ok (.ifCond .ne 6, 3) := by decide +kernel
theorem dX7_set_27 : decode cX7_set 27 = .ok (.bipush (-2), 2) := by decide +kernel
theorem dX7_set_29 : decode cX7_set 29 = .ok (.ireturn, 1) := by decide +kernel
theorem dX7_set_30 : decode cX7_set 30 = .ok (.aload_n 0, 1) := by decide +kernel
theorem dX7_set_31 : decode cX7_set 31 = .ok (.invokevirtual 46, 3) := by decide +kernel
theorem dX7_set_34 : decode cX7_set 34 = .ok (.aload_n 0, 1) := by decide +kernel
theorem dX7_set_35 : decode cX7_set 35 = .ok (.getfield 7, 3) := by decide +kernel
theorem dX7_set_38 : decode cX7_set 38 = .ok (.bipush 12, 2) := by decide +kernel
theorem dX7_set_40 : decode cX7_set 40 = .ok (.iload_n 1, 1) := by decide +kernel
theorem dX7_set_41 : decode cX7_set 41 = .ok (.iadd, 1) := by decide +kernel
theorem dX7_set_42 : decode cX7_set 42 = .ok (.iaload, 1) := by decide +kernel
theorem dX7_set_43 : decode cX7_set 43 = .ok (.istore_n 3, 1) := by decide +kernel
theorem dX7_set_44 : decode cX7_set 44 = .ok (.aload_n 0, 1) := by decide +kernel
theorem dX7_set_45 : decode cX7_set 45 = .ok (.getfield 7, 3) := by decide +kernel
theorem dX7_set_48 : decode cX7_set 48 = .ok (.bipush 12, 2) := by decide +kernel
theorem dX7_set_50 : decode cX7_set 50 = .ok (.iload_n 1, 1) := by decide +kernel
theorem dX7_set_51 : decode cX7_set 51 = .ok (.iadd, 1) := by decide +kernel
theorem dX7_set_52 : decode cX7_set 52 = .ok (.iload_n 2, 1) := by decide +kernel
theorem dX7_set_53 : decode cX7_set 53 = .ok (.iastore, 1) := by decide +kernel
theorem dX7_set_54 : decode cX7_set 54 = .ok (.iload_n 3, 1) := by decide +kernel
theorem dX7_set_55 : decode cX7_set 55 = .ok (.ireturn, 1) := by decide +kernel
theorem dX7_distanceOf_0 : decode cX7_distanceOf 0 = .ok (.aload_n 0, 1) := by decide +kernel
theorem dX7_distanceOf_1 : decode cX7_distanceOf 1 = .ok (.getfield 7, 3) := by decide +kernel
theorem dX7_distanceOf_4 : decode cX7_distanceOf 4 = .ok (.bipush 20, 2) := by decide +kernel
theorem dX7_distanceOf_6 : decode cX7_distanceOf 6 = .ok (.iconst 2, 1) := by decide +kernel
theorem dX7_distanceOf_7 : decode cX7_distanceOf 7 = .ok (.iload_n 1, 1) := by decide +kernel
theorem dX7_distanceOf_8 : decode cX7_distanceOf 8 = .ok (.imul, 1) := by decide +kernel
theorem dX7_distanceOf_9 : decode cX7_distanceOf 9 = .ok (.iadd, 1) := by decide +kernel
theorem dX7_distanceOf_10 : decode cX7_distanceOf 10 = .ok (.iaload, 1) := by decide +kernel
theorem dX7_distanceOf_11 : decode cX7_distanceOf 11 = .ok (.ireturn, 1) := by decide +kernel
theorem dX7_setPoint_0 : decode cX7_setPoint 0 = .ok (.iload_n 1, 1) := by decide +kernel
theorem dX7_setPoint_1 : decode cX7_setPoint 1 = .ok (.iconst 0, 1) := by decide +kernel
theorem dX7_setPoint_2 : decode cX7_setPoint 2 = .ok (.ldc 49, 2) := by decide +kernel
theorem dX7_setPoint_4 : decode cX7_setPoint 4 = .ok (.invokestatic 42, 3) := by decide +kernel
theorem dX7_setPoint_7 : decode cX7_setPoint 7 = .ok (.ifCond .eq 14, 3) := by decide +kernel
theorem dX7_setPoint_10 : decode cX7_setPoint 10 = .ok (.iload_n 2, 1) := by decide +kernel
theorem dX7_setPoint_11 : decode cX7_setPoint 11 = .ok (.iconst 1, 1) := by decide +kernel
theorem dX7_setPoint_12 : decode cX7_setPoint 12 = .ok (.sipush 5000, 3) := by decide +kernel
theorem dX7_setPoint_15 : decode cX7_setPoint 15 = .ok (.invokestatic 42, 3) := by decide +kernel
theorem dX7_setPoint_18 : decode cX7_setPoint 18 = .ok (.ifCond .ne 6, 3) := by decide +kernel
theorem dX7_setPoint_21 : decode cX7_setPoint 21 = .ok (.bipush (-2), 2) := by decide +kernel
theorem dX7_setPoint_23 : decode cX7_setPoint 23 = .ok (.ireturn, 1) := by decide +kernel
theorem dX7_setPoint_24 : decode cX7_setPoint 24 = .ok (.iconst 0, 1) := by decide +kernel
theorem dX7_setPoint_25 : decode cX7_setPoint 25 = .ok (.istore_n 3, 1) := by decide +kernel
theorem dX7_setPoint_26 : decode cX7_setPoint 26 = .ok (.iload_n 3, 1) := by decide +kernel
theorem dX7_setPoint_27 : decode cX7_setPoint 27 = .ok (.aload_n 0, 1) := by decide +kernel
theorem dX7_setPoint_28 : decode cX7_setPoint 28 = .ok (.getfield 7, 3) := by decide +kernel
theorem dX7_setPoint_31 : decode cX7_setPoint 31 = .ok (.bipush 10, 2) := by decide +kernel
theorem dX7_setPoint_33 : decode cX7_setPoint 33 = .ok (.iaload, 1) := by decide +kernel
theorem dX7_setPoint_34 : decode cX7_setPoint 34 = .ok (.if_icmp .ge 18, 3) := by decide +kernel
theorem dX7_setPoint_37 : decode cX7_setPoint 37 = .ok (.aload_n 0, 1) := by decide +kernel
theorem dX7_setPoint_38 : decode cX7_setPoint 38 = .ok (.iload_n 3, 1) := by decide +kernel
theorem dX7_setPoint_39 : decode cX7_setPoint 39 = .ok (.invokevirtual 69, 3) := by decide +kernel
theorem dX7_setPoint_42 : decode cX7_setPoint 42 = .ok (.iload_n 1, 1) := by decide +kernel
theorem dX7_setPoint_43 : decode cX7_setPoint 43 = .ok (.if_icmp .ge 9, 3) := by decide +kernel
theorem dX7_setPoint_46 : decode cX7_setPoint 46 = .ok (.iinc 3 1, 3) := by decide +kernel
theorem dX7_setPoint_49 : decode cX7_setPoint 49 = .ok (.goto (-23), 3) := by decide +kernel
theorem dX7_setPoint_52 : decode cX7_setPoint 52 = .ok (.iload_n 3, 1) := by decide +kernel
theorem dX7_setPoint_53 : decode cX7_setPoint 53 = .ok (.aload_n 0, 1) := by decide +kernel
theorem dX7_setPoint_54 : decode cX7_setPoint 54 = .ok (.getfield 7, 3) := by decide +kernel
theorem dX7_setPoint_57 : decode cX7_setPoint 57 = .ok (.bipush 10, 2) := by decide +kernel
theorem dX7_setPoint_59 : decode cX7_setPoint 59 = .ok (.iaload, 1) := by decide +kernel
theorem dX7_setPoint_60 : decode cX7_setPoint 60 = .ok (.if_icmp .ge 16, 3) := by decide +kernel
theorem dX7_setPoint_63 : decode cX7_setPoint 63 = .ok (.aload_n 0, 1) := by decide +kernel
theorem dX7_setPoint_64 : decode cX7_setPoint 64 = .ok (.iload_n 3, 1) := by decide +kernel
theorem dX7_setPoint_65 : decode cX7_setPoint 65 = .ok (.invokevirtual 69, 3) := by decide +kernel
theorem dX7_setPoint_68 : decode cX7_setPoint 68 = .ok (.iload_n 1, 1) := by decide +kernel
theorem dX7_setPoint_69 : decode cX7_setPoint 69 = .ok (.if_icmp .ne 7, 3) := by decide +kernel
theorem dX7_setPoint_72 : decode cX7_setPoint 72 = .ok (.iconst 1, 1) := by decide +kernel
theorem dX7_setPoint_73 : decode cX7_setPoint 73 = .ok (.goto 4, 3) := by decide +kernel
theorem dX7_setPoint_76 : decode cX7_setPoint 76 = .ok (.iconst 0, 1) := by decide +kernel
theorem dX7_setPoint_77 : decode cX7_setPoint 77 = .ok (.istore 4, 2) := by decide +kernel
theorem dX7_setPoint_79 : decode cX7_setPoint 79 = .ok (.iload 4, 2) := by decide +kernel
theorem dX7_setPoint_81 : decode cX7_setPoint 81 = .ok (.ifCond .ne 18, 3) := by decide +kernel
theorem dX7_setPoint_84 : decode cX7_setPoint 84 = .ok (.aload_n 0, 1) := by decide +kernel
theorem dX7_setPoint_85 : decode cX7_setPoint 85 = .ok (.getfield 7, 3) := by decide +kernel
theorem dX7_setPoint_88 : decode cX7_setPoint 88 = .ok (.bipush 10, 2) := by decide +kernel
theorem dX7_setPoint_90 : decode cX7_setPoint 90 = .ok (.iaload, 1) := by decide +kernel
theorem dX7_setPoint_91 : decode cX7_setPoint 91 = .ok (.bipush 6, 2) := by decide +kernel
theorem dX7_setPoint_93 : decode cX7_setPoint 93 = .ok (.if_icmp .ne 6, 3) := by decide +kernel
theorem dX7_setPoint_96 : decode cX7_setPoint 96 = .ok (.bipush (-4), 2) := by decide +kernel
theorem dX7_setPoint_98 : decode cX7_setPoint 98 = .ok (.ireturn, 1) := by decide +kernel
theorem dX7_setPoint_99 : decode cX7_setPoint 99 = .ok (.aload_n 0, 1) := by decide +kernel
theorem dX7_setPoint_100 : decode cX7_setPoint 100 = .ok (.invokevirtual 46, 3) := by decide +kernel
theorem dX7_setPoint_103 : decode cX7_setPoint 103 = .ok (.iload 4, 2) := by decide +kernel
theorem dX7_setPoint_105 : decode cX7_setPoint 105 = .ok (.ifCond .ne 63, 3) := by decide +kernel
theorem dX7_setPoint_108 : decode cX7_setPoint 108 = .ok (.iconst 2, 1) := by decide +kernel
theorem dX7_setPoint_109 : decode cX7_setPoint 109 = .ok (.aload_n 0, 1) := by decide +kernel
theorem dX7_setPoint_110 : decode cX7_setPoint 110 = .ok (.getfield 7, 3) := by decide +kernel
theorem dX7_setPoint_113 : decode cX7_setPoint 113 = .ok (.bipush 10, 2) := by decide +kernel
theorem dX7_setPoint_115 : decode cX7_setPoint 115 = .ok (.iaload, 1) := by decide +kernel
theorem dX7_setPoint_116 : decode cX7_setPoint 116 = .ok (.imul, 1) := by decide +kernel
theorem dX7_setPoint_117 : decode cX7_setPoint 117 = .ok (.iconst 1, 1) := by decide +kernel
theorem dX7_setPoint_118 : decode cX7_setPoint 118 = .ok (.isub, 1) := by decide +kernel
theorem dX7_setPoint_119 : decode cX7_setPoint 119 = .ok (.istore 5, 2) := by decide +kernel
theorem dX7_setPoint_121 : decode cX7_setPoint 121 = .ok (.iload 5, 2) := by decide +kernel
theorem dX7_setPoint_123 : decode cX7_setPoint 123 = .ok (.iconst 2, 1) := by decide +kernel
theorem dX7_setPoint_124 : decode cX7_setPoint 124 = .ok (.iload_n 3, 1) := by decide +kernel
theorem dX7_setPoint_125 : decode cX7_setPoint 125 = .ok (.imul, 1) := by decide +kernel
theorem dX7_setPoint_126 : decode cX7_setPoint 126 = .ok (.if_icmp .lt 31, 3) := by decide +kernel
theorem dX7_setPoint_129 : decode cX7_setPoint 129 = .ok (.aload_n 0, 1) := by decide +kernel
theorem dX7_setPoint_130 : decode cX7_setPoint 130 = .ok (.getfield 7, 3) := by decide +kernel
theorem dX7_setPoint_133 : decode cX7_setPoint 133 = .ok (.bipush 20, 2) := by decide +kernel
theorem dX7_setPoint_135 : decode cX7_setPoint 135 = .ok (.iload 5, 2) := by decide +kernel
theorem dX7_setPoint_137 : decode cX7_setPoint 137 = .ok (.iadd, 1) := by decide +kernel
theorem dX7_setPoint_138 : decode cX7_setPoint 138 = .ok (.iconst 2, 1) := by decide +kernel
theorem dX7_setPoint_139 : decode cX7_setPoint 139 = .ok (.iadd, 1) := by decide +kernel
theorem dX7_setPoint_140 : decode cX7_setPoint 140 = .ok (.aload_n 0, 1) := by decide +kernel
theorem dX7_setPoint_141 : decode cX7_setPoint 141 = .ok (.getfield 7, 3) := by decide +kernel
theorem dX7_setPoint_144 : decode cX7_setPoint 144 = .ok (.bipush 20, 2) := by decide +kernel
