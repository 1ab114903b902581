theorem dX6_numberOfShip_9 : decode cX6_numberOfShip 9 = .ok (.tableswitch 125 1 7 #[43, 51, 59, 67, 79, 101, 113], 43) := by decide +kernel
theorem dX6_numberOfShip_52 : decode cX6_numberOfShip 52 = .ok (.aload_n 0, 1) := by decide +kernel
theorem dX6_numberOfShip_53 : decode cX6_numberOfShip 53 = .ok (.getfield 10, 3) := by decide +kernel
theorem dX6_numberOfShip_56 : decode cX6_numberOfShip 56 = .ok (.getfield 223, 3) := by decide +kernel
theorem dX6_numberOfShip_59 : decode cX6_numberOfShip 59 = .ok (.freturn, 1) := by decide +kernel
theorem dX6_numberOfShip_60 : decode cX6_numberOfShip 60 = .ok (.aload_n 0, 1) := by decide +kernel
theorem dX6_numberOfShip_61 : decode cX6_numberOfShip 61 = .ok (.getfield 10, 3) := by decide +kernel
theorem dX6_numberOfShip_64 : decode cX6_numberOfShip 64 = .ok (.getfield 226, 3) := by decide +kernel
theorem dX6_numberOfShip_67 : decode cX6_numberOfShip 67 = .ok (.freturn, 1) := by decide +kernel
theorem dX6_numberOfShip_68 : decode cX6_numberOfShip 68 = .ok (.aload_n 0, 1) := by decide +kernel
theorem dX6_numberOfShip_69 : decode cX6_numberOfShip 69 = .ok (.getfield 10, 3) := by decide +kernel
theorem dX6_numberOfShip_72 : decode cX6_numberOfShip 72 = .ok (.getfield 229, 3) := by decide +kernel
theorem dX6_numberOfShip_75 : decode cX6_numberOfShip 75 = .ok (.freturn, 1) := by decide +kernel
theorem dX6_numberOfShip_76 : decode cX6_numberOfShip 76 = .ok (.aload_n 2, 1) := by decide +kernel
theorem dX6_numberOfShip_77 : decode cX6_numberOfShip 77 = .ok (.aload_n 0, 1) := by decide +kernel
theorem dX6_numberOfShip_78 : decode cX6_numberOfShip 78 = .ok (.getfield 10, 3) := by decide +kernel
theorem dX6_numberOfShip_81 : decode cX6_numberOfShip 81 = .ok (.getfield 191, 3) := by decide +kernel
theorem dX6_numberOfShip_84 : decode cX6_numberOfShip 84 = .ok (.invokevirtual 232, 3) := by decide +kernel
theorem dX6_numberOfShip_87 : decode cX6_numberOfShip 87 = .ok (.freturn, 1) := by decide +kernel
theorem dX6_numberOfShip_88 : decode cX6_numberOfShip 88 = .ok (.aload_n 0, 1) := by decide +kernel
theorem dX6_numberOfShip_89 : decode cX6_numberOfShip 89 = .ok (.getfield 10, 3) := by decide +kernel
theorem dX6_numberOfShip_92 : decode cX6_numberOfShip 92 = .ok (.getfield 70, 3) := by decide +kernel
theorem dX6_numberOfShip_95 : decode cX6_numberOfShip 95 = .ok (.aload_n 2, 1) := by decide +kernel
theorem dX6_numberOfShip_96 : decode cX6_numberOfShip 96 = .ok (.aload_n 0, 1) := by decide +kernel
theorem dX6_numberOfShip_97 : decode cX6_numberOfShip 97 = .ok (.getfield 10, 3) := by decide +kernel
theorem dX6_numberOfShip_100 : decode cX6_numberOfShip 100 = .ok (.getfield 191, 3) := by decide +kernel
theorem dX6_numberOfShip_103 : decode cX6_numberOfShip 103 = .ok (.invokevirtual 232, 3) := by decide +kernel
theorem dX6_numberOfShip_106 : decode cX6_numberOfShip 106 = .ok (.invokevirtual 162, 3) := by decide +kernel
theorem dX6_numberOfShip_109 : decode cX6_numberOfShip 109 = .ok (.freturn, 1) := by decide +kernel
theorem dX6_numberOfShip_110 : decode cX6_numberOfShip 110 = .ok (.aload_n 2, 1) := by decide +kernel
theorem dX6_numberOfShip_111 : decode cX6_numberOfShip 111 = .ok (.aload_n 0, 1) := by decide +kernel
theorem dX6_numberOfShip_112 : decode cX6_numberOfShip 112 = .ok (.getfield 10, 3) := by decide +kernel
theorem dX6_numberOfShip_115 : decode cX6_numberOfShip 115 = .ok (.getfield 191, 3) := by decide +kernel
theorem dX6_numberOfShip_118 : decode cX6_numberOfShip 118 = .ok (.invokevirtual 235, 3) := by decide +kernel
theorem dX6_numberOfShip_121 : decode cX6_numberOfShip 121 = .ok (.freturn, 1) := by decide +kernel
theorem dX6_numberOfShip_122 : decode cX6_numberOfShip 122 = .ok (.aload_n 2, 1) := by decide +kernel
theorem dX6_numberOfShip_123 : decode cX6_numberOfShip 123 = .ok (.aload_n 0, 1) := by decide +kernel
theorem dX6_numberOfShip_124 : decode cX6_numberOfShip 124 = .ok (.getfield 10, 3) := by decide +kernel
theorem dX6_numberOfShip_127 : decode cX6_numberOfShip 127 = .ok (.getfield 191, 3) := by decide +kernel
theorem dX6_numberOfShip_130 : decode cX6_numberOfShip 130 = .ok (.invokevirtual 238, 3) := by decide +kernel
theorem dX6_numberOfShip_133 : decode cX6_numberOfShip 133 = .ok (.freturn, 1) := by decide +kernel
theorem dX6_numberOfShip_134 : decode cX6_numberOfShip 134 = .ok (.aload_n 0, 1) := by decide +kernel
theorem dX6_numberOfShip_135 : decode cX6_numberOfShip 135 = .ok (.getfield 10, 3) := by decide +kernel
theorem dX6_numberOfShip_138 : decode cX6_numberOfShip 138 = .ok (.getfield 191, 3) := by decide +kernel
theorem dX6_numberOfShip_141 : decode cX6_numberOfShip 141 = .ok (.freturn, 1) := by decide +kernel
theorem dX6_isBeyond_0 : decode cX6_isBeyond 0 = .ok (.iload_n 0, 1) := by decide +kernel
theorem dX6_isBeyond_1 : decode cX6_isBeyond 1 = .ok (.iload_n 1, 1) := by decide +kernel
theorem dX6_isBeyond_2 : decode cX6_isBeyond 2 = .ok (.ineg, 1) := by decide +kernel
theorem dX6_isBeyond_3 : decode cX6_isBeyond 3 = .ok (.if_icmp .lt 8, 3) := by decide +kernel
theorem dX6_isBeyond_6 : decode cX6_isBeyond 6 = .ok (.iload_n 0, 1) := by decide +kernel
theorem dX6_isBeyond_7 : decode cX6_isBeyond 7 = .ok (.iload_n 1, 1) := by decide +kernel
theorem dX6_isBeyond_8 : decode cX6_isBeyond 8 = .ok (.if_icmp .le 7, 3) := by decide +kernel
theorem dX6_isBeyond_11 : decode cX6_isBeyond 11 = .ok (.iconst 1, 1) := by decide +kernel
theorem dX6_isBeyond_12 : decode cX6_isBeyond 12 = .ok (.goto 4, 3) := by decide +kernel
theorem dX6_isBeyond_15 : decode cX6_isBeyond 15 = .ok (.iconst 0, 1) := by decide +kernel
theorem dX6_isBeyond_16 : decode cX6_isBeyond 16 = .ok (.ireturn, 1) := by decide +kernel
theorem dX6_size_0 : decode cX6_size 0 = .ok (.fload_n 0, 1) := by decide +kernel
theorem dX6_size_1 : decode cX6_size 1 = .ok (.fconst 0, 1) := by decide +kernel
theorem dX6_size_2 : decode cX6_size 2 = .ok (.fcmp .g, 1) := by decide +kernel
theorem dX6_size_3 : decode cX6_size 3 = .ok (.ifCond .ge 8, 3) := by decide +kernel
theorem dX6_size_6 : decode cX6_size 6 = .ok (.fload_n 0, 1) := by decide +kernel
theorem dX6_size_7 : decode cX6_size 7 = .ok (.fneg, 1) := by decide +kernel
theorem dX6_size_8 : decode cX6_size 8 = .ok (.goto 4, 3) := by decide +kernel
theorem dX6_size_11 : decode cX6_size 11 = .ok (.fload_n 0, 1) := by decide +kernel
theorem dX6_size_12 : decode cX6_size 12 = .ok (.freturn, 1) := by decide +kernel
theorem dX6_bitsOf_0 : decode cX6_bitsOf 0 = .ok (.fload_n 0, 1) := by decide +kernel
theorem dX6_bitsOf_1 : decode cX6_bitsOf 1 = .ok (.invokestatic 241, 3) := by decide +kernel
theorem dX6_bitsOf_4 : decode cX6_bitsOf 4 = .ok (.fstore_n 1, 1) := by decide +kernel
theorem dX6_bitsOf_5 : decode cX6_bitsOf 5 = .ok (.bipush 127, 2) := by decide +kernel
theorem dX6_bitsOf_7 : decode cX6_bitsOf 7 = .ok (.istore_n 2, 1) := by decide +kernel
theorem dX6_bitsOf_8 : decode cX6_bitsOf 8 = .ok (.fload_n 1, 1) := by decide +kernel
theorem dX6_bitsOf_9 : decode cX6_bitsOf 9 = .ok (.fconst 2, 1) := by decide +kernel
theorem dX6_bitsOf_10 : decode cX6_bitsOf 10 = .ok (.fcmp .l, 1) := by decide +kernel
theorem dX6_bitsOf_11 : decode cX6_bitsOf 11 = .ok (.ifCond .lt 20, 3) := by decide +kernel
theorem dX6_bitsOf_14 : decode cX6_bitsOf 14 = .ok (.iload_n 2, 1) := by decide +kernel
theorem dX6_bitsOf_15 : decode cX6_bitsOf 15 = .ok (.sipush 254, 3) := by decide +kernel
theorem dX6_bitsOf_18 : decode cX6_bitsOf 18 = .ok (.if_icmp .ge 13, 3) := by decide +kernel
theorem dX6_bitsOf_21 : decode cX6_bitsOf 21 = .ok (.fload_n 1, 1) := by decide +kernel
theorem dX6_bitsOf_22 : decode cX6_bitsOf 22 = .ok (.fconst 2, 1) := by decide +kernel
theorem dX6_bitsOf_23 : decode cX6_bitsOf 23 = .ok (.fdiv, 1) := by decide +kernel
theorem dX6_bitsOf_24 : decode cX6_bitsOf 24 = .ok (.fstore_n 1, 1) := by decide +kernel
theorem dX6_bitsOf_25 : decode cX6_bitsOf 25 = .ok (.iinc 2 1, 3) := by decide +kernel
theorem dX6_bitsOf_28 : decode cX6_bitsOf 28 = .ok (.goto (-20), 3) := by decide +kernel
theorem dX6_bitsOf_31 : decode cX6_bitsOf 31 = .ok (.fload_n 1, 1) := by decide +kernel
theorem dX6_bitsOf_32 : decode cX6_bitsOf 32 = .ok (.fconst 1, 1) := by decide +kernel
theorem dX6_bitsOf_33 : decode cX6_bitsOf 33 = .ok (.fcmp .g, 1) := by decide +kernel
theorem dX6_bitsOf_34 : decode cX6_bitsOf 34 = .ok (.ifCond .ge 18, 3) := by decide +kernel
theorem dX6_bitsOf_37 : decode cX6_bitsOf 37 = .ok (.iload_n 2, 1) := by decide +kernel
theorem dX6_bitsOf_38 : decode cX6_bitsOf 38 = .ok (.iconst 1, 1) := by decide +kernel
theorem dX6_bitsOf_39 : decode cX6_bitsOf 39 = .ok (.if_icmp .le 13, 3) := by decide +kernel
theorem dX6_bitsOf_42 : decode cX6_bitsOf 42 = .ok (.fload_n 1, 1) := by decide +kernel
theorem dX6_bitsOf_43 : decode cX6_bitsOf 43 = .ok (.fconst 2, 1) := by decide +kernel
theorem dX6_bitsOf_44 : decode cX6_bitsOf 44 = .ok (.fmul, 1) := by decide +kernel
theorem dX6_bitsOf_45 : decode cX6_bitsOf 45 = .ok (.fstore_n 1, 1) := by decide +kernel
theorem dX6_bitsOf_46 : decode cX6_bitsOf 46 = .ok (.iinc 2 (-1), 3) := by decide +kernel
theorem dX6_bitsOf_49 : decode cX6_bitsOf 49 = .ok (.goto (-18), 3) := by decide +kernel
theorem dX6_bitsOf_52 : decode cX6_bitsOf 52 = .ok (.iload_n 2, 1) := by decide +kernel
theorem dX6_bitsOf_53 : decode cX6_bitsOf 53 = .ok (.iconst 1, 1) := by decide +kernel
theorem dX6_bitsOf_54 : decode cX6_bitsOf 54 = .ok (.isub, 1) := by decide +kernel
theorem dX6_bitsOf_55 : decode cX6_bitsOf 55 = .ok (.bipush 23, 2) := by decide +kernel
theorem dX6_bitsOf_57 : decode cX6_bitsOf 57 = .ok (.ishl, 1) := by decide +kernel
theorem dX6_bitsOf_58 : decode cX6_bitsOf 58 = .ok (.fload_n 1, 1) := by decide +kernel
theorem dX6_bitsOf_59 : decode cX6_bitsOf 59 = .ok (.ldc 244, 2) := by decide +kernel
theorem dX6_bitsOf_61 : decode cX6_bitsOf 61 = .ok (.fmul, 1) := by decide +kernel
theorem dX6_bitsOf_62 : decode cX6_bitsOf 62 = .ok (.f2i, 1) := by decide +kernel
theorem dX6_bitsOf_63 : decode cX6_bitsOf 63 = .ok (.iadd, 1) := by decide +kernel
theorem dX6_bitsOf_64 : decode cX6_bitsOf 64 = .ok (.istore_n 3, 1) := by decide +kernel
theorem dX6_bitsOf_65 : decode cX6_bitsOf 65 = .ok (.fload_n 0, 1) := by decide +kernel
theorem dX6_bitsOf_66 : decode cX6_bitsOf 66 = .ok (.fconst 0, 1) := by decide +kernel
theorem dX6_bitsOf_67 : decode cX6_bitsOf 67 = .ok (.fcmp .g, 1) := by decide +kernel
theorem dX6_bitsOf_68 : decode cX6_bitsOf 68 = .ok (.ifCond .ge 10, 3) := by decide +kernel
theorem dX6_bitsOf_71 : decode cX6_bitsOf 71 = .ok (.iload_n 3, 1) := by decide +kernel
theorem dX6_bitsOf_72 : decode cX6_bitsOf 72 = .ok (.ldc 245, 2) := by decide +kernel
theorem dX6_bitsOf_74 : decode cX6_bitsOf 74 = .ok (.ior, 1) := by decide +kernel
theorem dX6_bitsOf_75 : decode cX6_bitsOf 75 = .ok (.goto 4, 3) := by decide +kernel
theorem dX6_bitsOf_78 : decode cX6_bitsOf 78 = .ok (.iload_n 3, 1) := by decide +kernel
theorem dX6_bitsOf_79 : decode cX6_bitsOf 79 = .ok (.ireturn, 1) := by decide +kernel
