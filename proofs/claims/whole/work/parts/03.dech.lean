theorem dX7_passesAct_154 : decode cX7_passesAct 154 = .ok (.getfield 171, 3) := by decide +kernel
theorem dX7_passesAct_157 : decode cX7_passesAct 157 = .ok (.iconst 1, 1) := by decide +kernel
theorem dX7_passesAct_158 : decode cX7_passesAct 158 = .ok (.iadd, 1) := by decide +kernel
theorem dX7_passesAct_159 : decode cX7_passesAct 159 = .ok (.putfield 171, 3) := by decide +kernel
theorem dX7_passesAct_162 : decode cX7_passesAct 162 = .ok (.iconst 1, 1) := by decide +kernel
theorem dX7_passesAct_163 : decode cX7_passesAct 163 = .ok (.ireturn, 1) := by decide +kernel
theorem dX7_faultPosition_0 : decode cX7_faultPosition 0 = .ok (.aload_n 0, 1) := by decide +kernel
theorem dX7_faultPosition_1 : decode cX7_faultPosition 1 = .ok (.iconst 0, 1) := by decide +kernel
theorem dX7_faultPosition_2 : decode cX7_faultPosition 2 = .ok (.putfield 171, 3) := by decide +kernel
theorem dX7_faultPosition_5 : decode cX7_faultPosition 5 = .ok (.aload_n 0, 1) := by decide +kernel
theorem dX7_faultPosition_6 : decode cX7_faultPosition 6 = .ok (.getfield 171, 3) := by decide +kernel
theorem dX7_faultPosition_9 : decode cX7_faultPosition 9 = .ok (.aload_n 0, 1) := by decide +kernel
theorem dX7_faultPosition_10 : decode cX7_faultPosition 10 = .ok (.getfield 168, 3) := by decide +kernel
theorem dX7_faultPosition_13 : decode cX7_faultPosition 13 = .ok (.if_icmp .ge 15, 3) := by decide +kernel
theorem dX7_faultPosition_16 : decode cX7_faultPosition 16 = .ok (.aload_n 0, 1) := by decide +kernel
theorem dX7_faultPosition_17 : decode cX7_faultPosition 17 = .ok (.invokevirtual 187, 3) := by decide +kernel
theorem dX7_faultPosition_20 : decode cX7_faultPosition 20 = .ok (.ifCond .ne (-15), 3) := by decide +kernel
theorem dX7_faultPosition_23 : decode cX7_faultPosition 23 = .ok (.aload_n 0, 1) := by decide +kernel
theorem dX7_faultPosition_24 : decode cX7_faultPosition 24 = .ok (.getfield 171, 3) := by decide +kernel
theorem dX7_faultPosition_27 : decode cX7_faultPosition 27 = .ok (.ireturn, 1) := by decide +kernel
theorem dX7_faultPosition_28 : decode cX7_faultPosition 28 = .ok (.bipush (-5), 2) := by decide +kernel
theorem dX7_faultPosition_30 : decode cX7_faultPosition 30 = .ok (.ireturn, 1) := by decide +kernel
theorem dX7_does_0 : decode cX7_does 0 = .ok (.aload_n 0, 1) := by decide +kernel
theorem dX7_does_1 : decode cX7_does 1 = .ok (.getfield 180, 3) := by decide +kernel
theorem dX7_does_4 : decode cX7_does 4 = .ok (.bipush 111, 2) := by decide +kernel
theorem dX7_does_6 : decode cX7_does 6 = .ok (.if_icmp .ne 31, 3) := by decide +kernel
theorem dX7_does_9 : decode cX7_does 9 = .ok (.aload_n 0, 1) := by decide +kernel
theorem dX7_does_10 : decode cX7_does 10 = .ok (.aload_n 0, 1) := by decide +kernel
theorem dX7_does_11 : decode cX7_does 11 = .ok (.getfield 177, 3) := by decide +kernel
theorem dX7_does_14 : decode cX7_does 14 = .ok (.invokevirtual 156, 3) := by decide +kernel
theorem dX7_does_17 : decode cX7_does 17 = .ok (.ifCond .ne 18, 3) := by decide +kernel
theorem dX7_does_20 : decode cX7_does 20 = .ok (.aload_n 0, 1) := by decide +kernel
theorem dX7_does_21 : decode cX7_does 21 = .ok (.aload_n 0, 1) := by decide +kernel
theorem dX7_does_22 : decode cX7_does 22 = .ok (.getfield 177, 3) := by decide +kernel
theorem dX7_does_25 : decode cX7_does 25 = .ok (.invokevirtual 159, 3) := by decide +kernel
theorem dX7_does_28 : decode cX7_does 28 = .ok (.ifCond .lt 7, 3) := by decide +kernel
theorem dX7_does_31 : decode cX7_does 31 = .ok (.iconst 1, 1) := by decide +kernel
theorem dX7_does_32 : decode cX7_does 32 = .ok (.goto 4, 3) := by decide +kernel
theorem dX7_does_35 : decode cX7_does 35 = .ok (.iconst 0, 1) := by decide +kernel
theorem dX7_does_36 : decode cX7_does 36 = .ok (.ireturn, 1) := by decide +kernel
theorem dX7_does_37 : decode cX7_does 37 = .ok (.aload_n 0, 1) := by decide +kernel
theorem dX7_does_38 : decode cX7_does 38 = .ok (.getfield 180, 3) := by decide +kernel
theorem dX7_does_41 : decode cX7_does 41 = .ok (.bipush 116, 2) := by decide +kernel
theorem dX7_does_43 : decode cX7_does 43 = .ok (.if_icmp .ne 20, 3) := by decide +kernel
theorem dX7_does_46 : decode cX7_does 46 = .ok (.aload_n 0, 1) := by decide +kernel
theorem dX7_does_47 : decode cX7_does 47 = .ok (.aload_n 0, 1) := by decide +kernel
theorem dX7_does_48 : decode cX7_does 48 = .ok (.getfield 177, 3) := by decide +kernel
theorem dX7_does_51 : decode cX7_does 51 = .ok (.invokevirtual 165, 3) := by decide +kernel
theorem dX7_does_54 : decode cX7_does 54 = .ok (.ifCond .lt 7, 3) := by decide +kernel
theorem dX7_does_57 : decode cX7_does 57 = .ok (.iconst 1, 1) := by decide +kernel
theorem dX7_does_58 : decode cX7_does 58 = .ok (.goto 4, 3) := by decide +kernel
theorem dX7_does_61 : decode cX7_does 61 = .ok (.iconst 0, 1) := by decide +kernel
theorem dX7_does_62 : decode cX7_does 62 = .ok (.ireturn, 1) := by decide +kernel
theorem dX7_does_63 : decode cX7_does 63 = .ok (.aload_n 0, 1) := by decide +kernel
theorem dX7_does_64 : decode cX7_does 64 = .ok (.getfield 180, 3) := by decide +kernel
theorem dX7_does_67 : decode cX7_does 67 = .ok (.bipush 103, 2) := by decide +kernel
theorem dX7_does_69 : decode cX7_does 69 = .ok (.if_icmp .ne 7, 3) := by decide +kernel
theorem dX7_does_72 : decode cX7_does 72 = .ok (.iconst 1, 1) := by decide +kernel
theorem dX7_does_73 : decode cX7_does 73 = .ok (.goto 17, 3) := by decide +kernel
theorem dX7_does_76 : decode cX7_does 76 = .ok (.aload_n 0, 1) := by decide +kernel
theorem dX7_does_77 : decode cX7_does 77 = .ok (.getfield 180, 3) := by decide +kernel
theorem dX7_does_80 : decode cX7_does 80 = .ok (.bipush 102, 2) := by decide +kernel
theorem dX7_does_82 : decode cX7_does 82 = .ok (.if_icmp .ne 7, 3) := by decide +kernel
theorem dX7_does_85 : decode cX7_does 85 = .ok (.iconst 0, 1) := by decide +kernel
theorem dX7_does_86 : decode cX7_does 86 = .ok (.goto 4, 3) := by decide +kernel
theorem dX7_does_89 : decode cX7_does 89 = .ok (.iconst 3, 1) := by decide +kernel
theorem dX7_does_90 : decode cX7_does 90 = .ok (.istore_n 1, 1) := by decide +kernel
theorem dX7_does_91 : decode cX7_does 91 = .ok (.aload_n 0, 1) := by decide +kernel
theorem dX7_does_92 : decode cX7_does 92 = .ok (.iload_n 1, 1) := by decide +kernel
theorem dX7_does_93 : decode cX7_does 93 = .ok (.invokevirtual 144, 3) := by decide +kernel
theorem dX7_does_96 : decode cX7_does 96 = .ok (.ifCond .ne 15, 3) := by decide +kernel
theorem dX7_does_99 : decode cX7_does 99 = .ok (.aload_n 0, 1) := by decide +kernel
theorem dX7_does_100 : decode cX7_does 100 = .ok (.iload_n 1, 1) := by decide +kernel
theorem dX7_does_101 : decode cX7_does 101 = .ok (.invokevirtual 147, 3) := by decide +kernel
theorem dX7_does_104 : decode cX7_does 104 = .ok (.ifCond .lt 7, 3) := by decide +kernel
theorem dX7_does_107 : decode cX7_does 107 = .ok (.iconst 1, 1) := by decide +kernel
theorem dX7_does_108 : decode cX7_does 108 = .ok (.goto 4, 3) := by decide +kernel
theorem dX7_does_111 : decode cX7_does 111 = .ok (.iconst 0, 1) := by decide +kernel
theorem dX7_does_112 : decode cX7_does 112 = .ok (.ireturn, 1) := by decide +kernel
theorem dX7_run_0 : decode cX7_run 0 = .ok (.aload_n 0, 1) := by decide +kernel
theorem dX7_run_1 : decode cX7_run 1 = .ok (.invokevirtual 190, 3) := by decide +kernel
theorem dX7_run_4 : decode cX7_run 4 = .ok (.bipush (-5), 2) := by decide +kernel
theorem dX7_run_6 : decode cX7_run 6 = .ok (.if_icmp .eq 6, 3) := by decide +kernel
theorem dX7_run_9 : decode cX7_run 9 = .ok (.bipush (-3), 2) := by decide +kernel
theorem dX7_run_11 : decode cX7_run 11 = .ok (.ireturn, 1) := by decide +kernel
theorem dX7_run_12 : decode cX7_run 12 = .ok (.aload_n 0, 1) := by decide +kernel
theorem dX7_run_13 : decode cX7_run 13 = .ok (.invokevirtual 46, 3) := by decide +kernel
theorem dX7_run_16 : decode cX7_run 16 = .ok (.iconst 0, 1) := by decide +kernel
theorem dX7_run_17 : decode cX7_run 17 = .ok (.istore_n 1, 1) := by decide +kernel
theorem dX7_run_18 : decode cX7_run 18 = .ok (.aload_n 0, 1) := by decide +kernel
theorem dX7_run_19 : decode cX7_run 19 = .ok (.iconst 0, 1) := by decide +kernel
theorem dX7_run_20 : decode cX7_run 20 = .ok (.putfield 171, 3) := by decide +kernel
theorem dX7_run_23 : decode cX7_run 23 = .ok (.aload_n 0, 1) := by decide +kernel
theorem dX7_run_24 : decode cX7_run 24 = .ok (.getfield 168, 3) := by decide +kernel
theorem dX7_run_27 : decode cX7_run 27 = .ok (.ifCond .le 7, 3) := by decide +kernel
theorem dX7_run_30 : decode cX7_run 30 = .ok (.iconst 1, 1) := by decide +kernel
theorem dX7_run_31 : decode cX7_run 31 = .ok (.goto 4, 3) := by decide +kernel
theorem dX7_run_34 : decode cX7_run 34 = .ok (.iconst 0, 1) := by decide +kernel
theorem dX7_run_35 : decode cX7_run 35 = .ok (.istore_n 2, 1) := by decide +kernel
theorem dX7_run_36 : decode cX7_run 36 = .ok (.iload_n 2, 1) := by decide +kernel
theorem dX7_run_37 : decode cX7_run 37 = .ok (.ifCond .eq 59, 3) := by decide +kernel
theorem dX7_run_40 : decode cX7_run 40 = .ok (.aload_n 0, 1) := by decide +kernel
theorem dX7_run_41 : decode cX7_run 41 = .ok (.invokevirtual 187, 3) := by decide +kernel
theorem dX7_run_44 : decode cX7_run 44 = .ok (.ifCond .eq 14, 3) := by decide +kernel
theorem dX7_run_47 : decode cX7_run 47 = .ok (.aload_n 0, 1) := by decide +kernel
theorem dX7_run_48 : decode cX7_run 48 = .ok (.invokevirtual 193, 3) := by decide +kernel
theorem dX7_run_51 : decode cX7_run 51 = .ok (.ifCond .eq 7, 3) := by decide +kernel
theorem dX7_run_54 : decode cX7_run 54 = .ok (.iconst 1, 1) := by decide +kernel
theorem dX7_run_55 : decode cX7_run 55 = .ok (.goto 4, 3) := by decide +kernel
theorem dX7_run_58 : decode cX7_run 58 = .ok (.iconst 0, 1) := by decide +kernel
theorem dX7_run_59 : decode cX7_run 59 = .ok (.istore_n 2, 1) := by decide +kernel
theorem dX7_run_60 : decode cX7_run 60 = .ok (.iload_n 1, 1) := by decide +kernel
theorem dX7_run_61 : decode cX7_run 61 = .ok (.iload_n 2, 1) := by decide +kernel
theorem dX7_run_62 : decode cX7_run 62 = .ok (.ifCond .eq 7, 3) := by decide +kernel
theorem dX7_run_65 : decode cX7_run 65 = .ok (.iconst 1, 1) := by decide +kernel
theorem dX7_run_66 : decode cX7_run 66 = .ok (.goto 4, 3) := by decide +kernel
theorem dX7_run_69 : decode cX7_run 69 = .ok (.iconst 0, 1) := by decide +kernel
theorem dX7_run_70 : decode cX7_run 70 = .ok (.iadd, 1) := by decide +kernel
theorem dX7_run_71 : decode cX7_run 71 = .ok (.istore_n 1, 1) := by decide +kernel
theorem dX7_run_72 : decode cX7_run 72 = .ok (.iload_n 2, 1) := by decide +kernel
theorem dX7_run_73 : decode cX7_run 73 = .ok (.ifCond .eq 18, 3) := by decide +kernel
theorem dX7_run_76 : decode cX7_run 76 = .ok (.aload_n 0, 1) := by decide +kernel
theorem dX7_run_77 : decode cX7_run 77 = .ok (.getfield 171, 3) := by decide +kernel
theorem dX7_run_80 : decode cX7_run 80 = .ok (.aload_n 0, 1) := by decide +kernel
theorem dX7_run_81 : decode cX7_run 81 = .ok (.getfield 168, 3) := by decide +kernel
theorem dX7_run_84 : decode cX7_run 84 = .ok (.if_icmp .ge 7, 3) := by decide +kernel
theorem dX7_run_87 : decode cX7_run 87 = .ok (.iconst 1, 1) := by decide +kernel
theorem dX7_run_88 : decode cX7_run 88 = .ok (.goto 4, 3) := by decide +kernel
theorem dX7_run_91 : decode cX7_run 91 = .ok (.iconst 0, 1) := by decide +kernel
theorem dX7_run_92 : decode cX7_run 92 = .ok (.istore_n 2, 1) := by decide +kernel
theorem dX7_run_93 : decode cX7_run 93 = .ok (.goto (-57), 3) := by decide +kernel
theorem dX7_run_96 : decode cX7_run 96 = .ok (.iload_n 1, 1) := by decide +kernel
theorem dX7_run_97 : decode cX7_run 97 = .ok (.ireturn, 1) := by decide +kernel
theorem dX7_bitsOf_0 : decode cX7_bitsOf 0 = .ok (.fload_n 0, 1) := by decide +kernel
theorem dX7_bitsOf_1 : decode cX7_bitsOf 1 = .ok (.fconst 0, 1) := by decide +kernel
theorem dX7_bitsOf_2 : decode cX7_bitsOf 2 = .ok (.fcmp .g, 1) := by decide +kernel
theorem dX7_bitsOf_3 : decode cX7_bitsOf 3 = .ok (.ifCond .lt 17, 3) := by decide +kernel
theorem dX7_bitsOf_6 : decode cX7_bitsOf 6 = .ok (.fload_n 0, 1) := by decide +kernel
theorem dX7_bitsOf_7 : decode cX7_bitsOf 7 = .ok (.fconst 0, 1) := by decide +kernel
theorem dX7_bitsOf_8 : decode cX7_bitsOf 8 = .ok (.fcmp .l, 1) := by decide +kernel
theorem dX7_bitsOf_9 : decode cX7_bitsOf 9 = .ok (.ifCond .ne 16, 3) := by decide +kernel
theorem dX7_bitsOf_12 : decode cX7_bitsOf 12 = .ok (.fconst 1, 1) := by decide +kernel
theorem dX7_bitsOf_13 : decode cX7_bitsOf 13 = .ok (.fload_n 0, 1) := by decide +kernel
theorem dX7_bitsOf_14 : decode cX7_bitsOf 14 = .ok (.fdiv, 1) := by decide +kernel
theorem dX7_bitsOf_15 : decode cX7_bitsOf 15 = .ok (.fconst 0, 1) := by decide +kernel
theorem dX7_bitsOf_16 : decode cX7_bitsOf 16 = .ok (.fcmp .g, 1) := by decide +kernel
theorem dX7_bitsOf_17 : decode cX7_bitsOf 17 = .ok (.ifCond .ge 8, 3) := by decide +kernel
theorem dX7_bitsOf_20 : decode cX7_bitsOf 20 = .ok (.ldc 196, 2) := by decide +kernel
theorem dX7_bitsOf_22 : decode cX7_bitsOf 22 = .ok (.goto 4, 3) := by decide +kernel
theorem dX7_bitsOf_25 : decode cX7_bitsOf 25 = .ok (.iconst 0, 1) := by decide +kernel
theorem dX7_bitsOf_26 : decode cX7_bitsOf 26 = .ok (.istore_n 1, 1) := by decide +kernel
theorem dX7_bitsOf_27 : decode cX7_bitsOf 27 = .ok (.fload_n 0, 1) := by decide +kernel
theorem dX7_bitsOf_28 : decode cX7_bitsOf 28 = .ok (.invokestatic 84, 3) := by decide +kernel
theorem dX7_bitsOf_31 : decode cX7_bitsOf 31 = .ok (.fstore_n 2, 1) := by decide +kernel
theorem dX7_bitsOf_32 : decode cX7_bitsOf 32 = .ok (.fload_n 2, 1) := by decide +kernel
theorem dX7_bitsOf_33 : decode cX7_bitsOf 33 = .ok (.fconst 0, 1) := by decide +kernel
theorem dX7_bitsOf_34 : decode cX7_bitsOf 34 = .ok (.fcmp .l, 1) := by decide +kernel
theorem dX7_bitsOf_35 : decode cX7_bitsOf 35 = .ok (.ifCond .ne 5, 3) := by decide +kernel
theorem dX7_bitsOf_38 : decode cX7_bitsOf 38 = .ok (.iload_n 1, 1) := by decide +kernel
theorem dX7_bitsOf_39 : decode cX7_bitsOf 39 = .ok (.ireturn, 1) := by decide +kernel
theorem dX7_bitsOf_40 : decode cX7_bitsOf 40 = .ok (.bipush 127, 2) := by decide +kernel
theorem dX7_bitsOf_42 : decode cX7_bitsOf 42 = .ok (.istore_n 3, 1) := by decide +kernel
theorem dX7_bitsOf_43 : decode cX7_bitsOf 43 = .ok (.fload_n 2, 1) := by decide +kernel
theorem dX7_bitsOf_44 : decode cX7_bitsOf 44 = .ok (.fconst 2, 1) := by decide +kernel
theorem dX7_bitsOf_45 : decode cX7_bitsOf 45 = .ok (.fcmp .l, 1) := by decide +kernel
theorem dX7_bitsOf_46 : decode cX7_bitsOf 46 = .ok (.ifCond .lt 13, 3) := by decide +kernel
theorem dX7_bitsOf_49 : decode cX7_bitsOf 49 = .ok (.fload_n 2, 1) := by decide +kernel
theorem dX7_bitsOf_50 : decode cX7_bitsOf 50 = .ok (.fconst 2, 1) := by decide +kernel
theorem dX7_bitsOf_51 : decode cX7_bitsOf 51 = .ok (.fdiv, 1) := by decide +kernel
theorem dX7_bitsOf_52 : decode cX7_bitsOf 52 = .ok (.fstore_n 2, 1) := by decide +kernel
theorem dX7_bitsOf_53 : decode cX7_bitsOf 53 = .ok (.iinc 3 1, 3) := by decide +kernel
theorem dX7_bitsOf_56 : decode cX7_bitsOf 56 = .ok (.goto (-13), 3) := by decide +kernel
theorem dX7_bitsOf_59 : decode cX7_bitsOf 59 = .ok (.fload_n 2, 1) := by decide +kernel
theorem dX7_bitsOf_60 : decode cX7_bitsOf 60 = .ok (.fconst 1, 1) := by decide +kernel
theorem dX7_bitsOf_61 : decode cX7_bitsOf 61 = .ok (.fcmp .g, 1) := by decide +kernel
theorem dX7_bitsOf_62 : decode cX7_bitsOf 62 = .ok (.ifCond .ge 18, 3) := by decide +kernel
theorem dX7_bitsOf_65 : decode cX7_bitsOf 65 = .ok (.iload_n 3, 1) := by decide +kernel
theorem dX7_bitsOf_66 : decode cX7_bitsOf 66 = .ok (.iconst 1, 1) := by decide +kernel
theorem dX7_bitsOf_67 : decode cX7_bitsOf 67 = .ok (.if_icmp .le 13, 3) := by decide +kernel
theorem dX7_bitsOf_70 : decode cX7_bitsOf 70 = .ok (.fload_n 2, 1) := by decide +kernel
theorem dX7_bitsOf_71 : decode cX7_bitsOf 71 = .ok (.fconst 2, 1) := by decide +kernel
theorem dX7_bitsOf_72 : decode cX7_bitsOf 72 = .ok (.fmul, 1) := by decide +kernel
theorem dX7_bitsOf_73 : decode cX7_bitsOf 73 = .ok (.fstore_n 2, 1) := by decide +kernel
theorem dX7_bitsOf_74 : decode cX7_bitsOf 74 = .ok (.iinc 3 (-1), 3) := by decide +kernel
theorem dX7_bitsOf_77 : decode cX7_bitsOf 77 = .ok (.goto (-18), 3) := by decide +kernel
theorem dX7_bitsOf_80 : decode cX7_bitsOf 80 = .ok (.fload_n 2, 1) := by decide +kernel
theorem dX7_bitsOf_81 : decode cX7_bitsOf 81 = .ok (.fconst 1, 1) := by decide +kernel
theorem dX7_bitsOf_82 : decode cX7_bitsOf 82 = .ok (.fcmp .g, 1) := by decide +kernel
theorem dX7_bitsOf_83 : decode cX7_bitsOf 83 = .ok (.ifCond .ge 7, 3) := by decide +kernel
theorem dX7_bitsOf_86 : decode cX7_bitsOf 86 = .ok (.iconst 0, 1) := by decide +kernel
theorem dX7_bitsOf_87 : decode cX7_bitsOf 87 = .ok (.goto 7, 3) := by decide +kernel
theorem dX7_bitsOf_90 : decode cX7_bitsOf 90 = .ok (.iload_n 3, 1) := by decide +kernel
theorem dX7_bitsOf_91 : decode cX7_bitsOf 91 = .ok (.bipush 23, 2) := by decide +kernel
theorem dX7_bitsOf_93 : decode cX7_bitsOf 93 = .ok (.ishl, 1) := by decide +kernel
theorem dX7_bitsOf_94 : decode cX7_bitsOf 94 = .ok (.istore 4, 2) := by decide +kernel
theorem dX7_bitsOf_96 : decode cX7_bitsOf 96 = .ok (.fload_n 2, 1) := by decide +kernel
theorem dX7_bitsOf_97 : decode cX7_bitsOf 97 = .ok (.fconst 1, 1) := by decide +kernel
theorem dX7_bitsOf_98 : decode cX7_bitsOf 98 = .ok (.fcmp .g, 1) := by decide +kernel
theorem dX7_bitsOf_99 : decode cX7_bitsOf 99 = .ok (.ifCond .ge 7, 3) := by decide +kernel
theorem dX7_bitsOf_102 : decode cX7_bitsOf 102 = .ok (.fload_n 2, 1) := by decide +kernel
theorem dX7_bitsOf_103 : decode cX7_bitsOf 103 = .ok (.goto 6, 3) := by decide +kernel
theorem dX7_bitsOf_106 : decode cX7_bitsOf 106 = .ok (.fload_n 2, 1) := by decide +kernel
theorem dX7_bitsOf_107 : decode cX7_bitsOf 107 = .ok (.fconst 1, 1) := by decide +kernel
theorem dX7_bitsOf_108 : decode cX7_bitsOf 108 = .ok (.fsub, 1) := by decide +kernel
theorem dX7_bitsOf_109 : decode cX7_bitsOf 109 = .ok (.fstore 5, 2) := by decide +kernel
theorem dX7_bitsOf_111 : decode cX7_bitsOf 111 = .ok (.iload_n 1, 1) := by decide +kernel
theorem dX7_bitsOf_112 : decode cX7_bitsOf 112 = .ok (.iload 4, 2) := by decide +kernel
theorem dX7_bitsOf_114 : decode cX7_bitsOf 114 = .ok (.ior, 1) := by decide +kernel
theorem dX7_bitsOf_115 : decode cX7_bitsOf 115 = .ok (.fload 5, 2) := by decide +kernel
theorem dX7_bitsOf_117 : decode cX7_bitsOf 117 = .ok (.ldc 197, 2) := by decide +kernel
theorem dX7_bitsOf_119 : decode cX7_bitsOf 119 = .ok (.fmul, 1) := by decide +kernel
theorem dX7_bitsOf_120 : decode cX7_bitsOf 120 = .ok (.f2i, 1) := by decide +kernel
theorem dX7_bitsOf_121 : decode cX7_bitsOf 121 = .ok (.ior, 1) := by decide +kernel
theorem dX7_bitsOf_122 : decode cX7_bitsOf 122 = .ok (.ireturn, 1) := by decide +kernel
theorem dX7_told_0 : decode cX7_told 0 = .ok (.iload_n 1, 1) := by decide +kernel
theorem dX7_told_1 : decode cX7_told 1 = .ok (.tableswitch 102 1 7 #[43, 50, 57, 64, 75, 90, 96], 43) := by decide +kernel
theorem dX7_told_44 : decode cX7_told 44 = .ok (.aload_n 0, 1) := by decide +kernel
theorem dX7_told_45 : decode cX7_told 45 = .ok (.getfield 13, 3) := by decide +kernel
theorem dX7_told_48 : decode cX7_told 48 = .ok (.iconst 1, 1) := by decide +kernel
theorem dX7_told_49 : decode cX7_told 49 = .ok (.faload, 1) := by decide +kernel
theorem dX7_told_50 : decode cX7_told 50 = .ok (.freturn, 1) := by decide +kernel
theorem dX7_told_51 : decode cX7_told 51 = .ok (.aload_n 0, 1) := by decide +kernel
theorem dX7_told_52 : decode cX7_told 52 = .ok (.getfield 13, 3) := by decide +kernel
theorem dX7_told_55 : decode cX7_told 55 = .ok (.iconst 2, 1) := by decide +kernel
theorem dX7_told_56 : decode cX7_told 56 = .ok (.faload, 1) := by decide +kernel
theorem dX7_told_57 : decode cX7_told 57 = .ok (.freturn, 1) := by decide +kernel
theorem dX7_told_58 : decode cX7_told 58 = .ok (.aload_n 0, 1) := by decide +kernel
theorem dX7_told_59 : decode cX7_told 59 = .ok (.getfield 13, 3) := by decide +kernel
theorem dX7_told_62 : decode cX7_told 62 = .ok (.iconst 3, 1) := by decide +kernel
theorem dX7_told_63 : decode cX7_told 63 = .ok (.faload, 1) := by decide +kernel
theorem dX7_told_64 : decode cX7_told 64 = .ok (.freturn, 1) := by decide +kernel
theorem dX7_told_65 : decode cX7_told 65 = .ok (.aload_n 0, 1) := by decide +kernel
theorem dX7_told_66 : decode cX7_told 66 = .ok (.aload_n 0, 1) := by decide +kernel
theorem dX7_told_67 : decode cX7_told 67 = .ok (.getfield 7, 3) := by decide +kernel
theorem dX7_told_70 : decode cX7_told 70 = .ok (.iconst 4, 1) := by decide +kernel
theorem dX7_told_71 : decode cX7_told 71 = .ok (.iaload, 1) := by decide +kernel
theorem dX7_told_72 : decode cX7_told 72 = .ok (.invokevirtual 103, 3) := by decide +kernel
theorem dX7_told_75 : decode cX7_told 75 = .ok (.freturn, 1) := by decide +kernel
theorem dX7_told_76 : decode cX7_told 76 = .ok (.aload_n 0, 1) := by decide +kernel
theorem dX7_told_77 : decode cX7_told 77 = .ok (.aload_n 0, 1) := by decide +kernel
theorem dX7_told_78 : decode cX7_told 78 = .ok (.aload_n 0, 1) := by decide +kernel
theorem dX7_told_79 : decode cX7_told 79 = .ok (.getfield 7, 3) := by decide +kernel
theorem dX7_told_82 : decode cX7_told 82 = .ok (.iconst 4, 1) := by decide +kernel
theorem dX7_told_83 : decode cX7_told 83 = .ok (.iaload, 1) := by decide +kernel
theorem dX7_told_84 : decode cX7_told 84 = .ok (.invokevirtual 103, 3) := by decide +kernel
theorem dX7_told_87 : decode cX7_told 87 = .ok (.invokevirtual 88, 3) := by decide +kernel
theorem dX7_told_90 : decode cX7_told 90 = .ok (.freturn, 1) := by decide +kernel
theorem dX7_told_91 : decode cX7_told 91 = .ok (.aload_n 0, 1) := by decide +kernel
theorem dX7_told_92 : decode cX7_told 92 = .ok (.iconst 0, 1) := by decide +kernel
theorem dX7_told_93 : decode cX7_told 93 = .ok (.invokevirtual 103, 3) := by decide +kernel
theorem dX7_told_96 : decode cX7_told 96 = .ok (.freturn, 1) := by decide +kernel
theorem dX7_told_97 : decode cX7_told 97 = .ok (.aload_n 0, 1) := by decide +kernel
theorem dX7_told_98 : decode cX7_told 98 = .ok (.iconst 1, 1) := by decide +kernel
theorem dX7_told_99 : decode cX7_told 99 = .ok (.invokevirtual 103, 3) := by decide +kernel
theorem dX7_told_102 : decode cX7_told 102 = .ok (.freturn, 1) := by decide +kernel
theorem dX7_told_103 : decode cX7_told 103 = .ok (.aload_n 0, 1) := by decide +kernel
theorem dX7_told_104 : decode cX7_told 104 = .ok (.getfield 13, 3) := by decide +kernel
theorem dX7_told_107 : decode cX7_told 107 = .ok (.iconst 0, 1) := by decide +kernel
theorem dX7_told_108 : decode cX7_told 108 = .ok (.faload, 1) := by decide +kernel
theorem dX7_told_109 : decode cX7_told 109 = .ok (.freturn, 1) := by decide +kernel
theorem dX7_bits_0 : decode cX7_bits 0 = .ok (.aload_n 0, 1) := by decide +kernel
theorem dX7_bits_1 : decode cX7_bits 1 = .ok (.iload_n 1, 1) := by decide +kernel
theorem dX7_bits_2 : decode cX7_bits 2 = .ok (.invokevirtual 198, 3) := by decide +kernel
theorem dX7_bits_5 : decode cX7_bits 5 = .ok (.invokestatic 201, 3) := by decide +kernel
theorem dX7_bits_8 : decode cX7_bits 8 = .ok (.ireturn, 1) := by decide +kernel
theorem dX7_thousandths_0 : decode cX7_thousandths 0 = .ok (.aload_n 0, 1) := by decide +kernel
theorem dX7_thousandths_1 : decode cX7_thousandths 1 = .ok (.iload_n 1, 1) := by decide +kernel
theorem dX7_thousandths_2 : decode cX7_thousandths 2 = .ok (.invokevirtual 198, 3) := by decide +kernel
theorem dX7_thousandths_5 : decode cX7_thousandths 5 = .ok (.ldc 30, 2) := by decide +kernel
theorem dX7_thousandths_7 : decode cX7_thousandths 7 = .ok (.fmul, 1) := by decide +kernel
theorem dX7_thousandths_8 : decode cX7_thousandths 8 = .ok (.f2i, 1) := by decide +kernel
theorem dX7_thousandths_9 : decode cX7_thousandths 9 = .ok (.ireturn, 1) := by decide +kernel
theorem dX7_limit_0 : decode cX7_limit 0 = .ok (.iload_n 1, 1) := by decide +kernel
theorem dX7_limit_1 : decode cX7_limit 1 = .ok (.iconst 0, 1) := by decide +kernel
theorem dX7_limit_2 : decode cX7_limit 2 = .ok (.ldc 49, 2) := by decide +kernel
theorem dX7_limit_4 : decode cX7_limit 4 = .ok (.invokestatic 42, 3) := by decide +kernel
theorem dX7_limit_7 : decode cX7_limit 7 = .ok (.ifCond .eq 17, 3) := by decide +kernel
theorem dX7_limit_10 : decode cX7_limit 10 = .ok (.aload_n 0, 1) := by decide +kernel
theorem dX7_limit_11 : decode cX7_limit 11 = .ok (.iload_n 1, 1) := by decide +kernel
theorem dX7_limit_12 : decode cX7_limit 12 = .ok (.invokestatic 51, 3) := by decide +kernel
theorem dX7_limit_15 : decode cX7_limit 15 = .ok (.invokevirtual 88, 3) := by decide +kernel
theorem dX7_limit_18 : decode cX7_limit 18 = .ok (.invokestatic 201, 3) := by decide +kernel
theorem dX7_limit_21 : decode cX7_limit 21 = .ok (.goto 5, 3) := by decide +kernel
theorem dX7_limit_24 : decode cX7_limit 24 = .ok (.bipush (-2), 2) := by decide +kernel
theorem dX7_limit_26 : decode cX7_limit 26 = .ok (.ireturn, 1) := by decide +kernel
theorem dX7_judgement_0 : decode cX7_judgement 0 = .ok (.aload_n 0, 1) := by decide +kernel
theorem dX7_judgement_1 : decode cX7_judgement 1 = .ok (.invokevirtual 58, 3) := by decide +kernel
theorem dX7_judgement_4 : decode cX7_judgement 4 = .ok (.ireturn, 1) := by decide +kernel
theorem dX7_stop_0 : decode cX7_stop 0 = .ok (.iload_n 1, 1) := by decide +kernel
theorem dX7_stop_1 : decode cX7_stop 1 = .ok (.iconst 0, 1) := by decide +kernel
theorem dX7_stop_2 : decode cX7_stop 2 = .ok (.aload_n 0, 1) := by decide +kernel
theorem dX7_stop_3 : decode cX7_stop 3 = .ok (.getfield 7, 3) := by decide +kernel
theorem dX7_stop_6 : decode cX7_stop 6 = .ok (.bipush 11, 2) := by decide +kernel
theorem dX7_stop_8 : decode cX7_stop 8 = .ok (.iaload, 1) := by decide +kernel
theorem dX7_stop_9 : decode cX7_stop 9 = .ok (.iconst 1, 1) := by decide +kernel
theorem dX7_stop_10 : decode cX7_stop 10 = .ok (.isub, 1) := by decide +kernel
theorem dX7_stop_11 : decode cX7_stop 11 = .ok (.invokestatic 42, 3) := by decide +kernel
theorem dX7_stop_14 : decode cX7_stop 14 = .ok (.ifCond .ne 5, 3) := by decide +kernel
theorem dX7_stop_17 : decode cX7_stop 17 = .ok (.iconst (-1), 1) := by decide +kernel
theorem dX7_stop_18 : decode cX7_stop 18 = .ok (.ireturn, 1) := by decide +kernel
theorem dX7_stop_19 : decode cX7_stop 19 = .ok (.iload_n 2, 1) := by decide +kernel
theorem dX7_stop_20 : decode cX7_stop 20 = .ok (.tableswitch 58 0 2 #[28, 28, 42], 28) := by decide +kernel
theorem dX7_stop_48 : decode cX7_stop 48 = .ok (.aload_n 0, 1) := by decide +kernel
theorem dX7_stop_49 : decode cX7_stop 49 = .ok (.getfield 7, 3) := by decide +kernel
theorem dX7_stop_52 : decode cX7_stop 52 = .ok (.bipush 32, 2) := by decide +kernel
theorem dX7_stop_54 : decode cX7_stop 54 = .ok (.iconst 2, 1) := by decide +kernel
theorem dX7_stop_55 : decode cX7_stop 55 = .ok (.iload_n 1, 1) := by decide +kernel
theorem dX7_stop_56 : decode cX7_stop 56 = .ok (.imul, 1) := by decide +kernel
theorem dX7_stop_57 : decode cX7_stop 57 = .ok (.iadd, 1) := by decide +kernel
theorem dX7_stop_58 : decode cX7_stop 58 = .ok (.iload_n 2, 1) := by decide +kernel
theorem dX7_stop_59 : decode cX7_stop 59 = .ok (.iadd, 1) := by decide +kernel
theorem dX7_stop_60 : decode cX7_stop 60 = .ok (.iaload, 1) := by decide +kernel
theorem dX7_stop_61 : decode cX7_stop 61 = .ok (.ireturn, 1) := by decide +kernel
theorem dX7_stop_62 : decode cX7_stop 62 = .ok (.aload_n 0, 1) := by decide +kernel
theorem dX7_stop_63 : decode cX7_stop 63 = .ok (.getfield 7, 3) := by decide +kernel
theorem dX7_stop_66 : decode cX7_stop 66 = .ok (.iconst 5, 1) := by decide +kernel
theorem dX7_stop_67 : decode cX7_stop 67 = .ok (.iaload, 1) := by decide +kernel
theorem dX7_stop_68 : decode cX7_stop 68 = .ok (.iload_n 1, 1) := by decide +kernel
theorem dX7_stop_69 : decode cX7_stop 69 = .ok (.if_icmp .ne 7, 3) := by decide +kernel
theorem dX7_stop_72 : decode cX7_stop 72 = .ok (.iconst 1, 1) := by decide +kernel
theorem dX7_stop_73 : decode cX7_stop 73 = .ok (.goto 4, 3) := by decide +kernel
theorem dX7_stop_76 : decode cX7_stop 76 = .ok (.iconst 0, 1) := by decide +kernel
theorem dX7_stop_77 : decode cX7_stop 77 = .ok (.ireturn, 1) := by decide +kernel
theorem dX7_stop_78 : decode cX7_stop 78 = .ok (.bipush (-2), 2) := by decide +kernel
theorem dX7_stop_80 : decode cX7_stop 80 = .ok (.ireturn, 1) := by decide +kernel
theorem dX7_point_0 : decode cX7_point 0 = .ok (.iload_n 1, 1) := by decide +kernel
theorem dX7_point_1 : decode cX7_point 1 = .ok (.iconst 0, 1) := by decide +kernel
theorem dX7_point_2 : decode cX7_point 2 = .ok (.aload_n 0, 1) := by decide +kernel
theorem dX7_point_3 : decode cX7_point 3 = .ok (.getfield 7, 3) := by decide +kernel
theorem dX7_point_6 : decode cX7_point 6 = .ok (.bipush 10, 2) := by decide +kernel
theorem dX7_point_8 : decode cX7_point 8 = .ok (.iaload, 1) := by decide +kernel
theorem dX7_point_9 : decode cX7_point 9 = .ok (.iconst 1, 1) := by decide +kernel
theorem dX7_point_10 : decode cX7_point 10 = .ok (.isub, 1) := by decide +kernel
theorem dX7_point_11 : decode cX7_point 11 = .ok (.invokestatic 42, 3) := by decide +kernel
theorem dX7_point_14 : decode cX7_point 14 = .ok (.ifCond .ne 5, 3) := by decide +kernel
theorem dX7_point_17 : decode cX7_point 17 = .ok (.iconst (-1), 1) := by decide +kernel
theorem dX7_point_18 : decode cX7_point 18 = .ok (.ireturn, 1) := by decide +kernel
theorem dX7_point_19 : decode cX7_point 19 = .ok (.iload_n 2, 1) := by decide +kernel
theorem dX7_point_20 : decode cX7_point 20 = .ok (.iconst 0, 1) := by decide +kernel
theorem dX7_point_21 : decode cX7_point 21 = .ok (.iconst 1, 1) := by decide +kernel
theorem dX7_point_22 : decode cX7_point 22 = .ok (.invokestatic 42, 3) := by decide +kernel
theorem dX7_point_25 : decode cX7_point 25 = .ok (.ifCond .eq 19, 3) := by decide +kernel
theorem dX7_point_28 : decode cX7_point 28 = .ok (.aload_n 0, 1) := by decide +kernel
theorem dX7_point_29 : decode cX7_point 29 = .ok (.getfield 7, 3) := by decide +kernel
theorem dX7_point_32 : decode cX7_point 32 = .ok (.bipush 20, 2) := by decide +kernel
theorem dX7_point_34 : decode cX7_point 34 = .ok (.iconst 2, 1) := by decide +kernel
theorem dX7_point_35 : decode cX7_point 35 = .ok (.iload_n 1, 1) := by decide +kernel
theorem dX7_point_36 : decode cX7_point 36 = .ok (.imul, 1) := by decide +kernel
theorem dX7_point_37 : decode cX7_point 37 = .ok (.iadd, 1) := by decide +kernel
theorem dX7_point_38 : decode cX7_point 38 = .ok (.iload_n 2, 1) := by decide +kernel
theorem dX7_point_39 : decode cX7_point 39 = .ok (.iadd, 1) := by decide +kernel
theorem dX7_point_40 : decode cX7_point 40 = .ok (.iaload, 1) := by decide +kernel
theorem dX7_point_41 : decode cX7_point 41 = .ok (.goto 5, 3) := by decide +kernel
theorem dX7_point_44 : decode cX7_point 44 = .ok (.bipush (-2), 2) := by decide +kernel
theorem dX7_point_46 : decode cX7_point 46 = .ok (.ireturn, 1) := by decide +kernel
theorem dX7_total_0 : decode cX7_total 0 = .ok (.iload_n 1, 1) := by decide +kernel
theorem dX7_total_1 : decode cX7_total 1 = .ok (.bipush 13, 2) := by decide +kernel
theorem dX7_total_3 : decode cX7_total 3 = .ok (.bipush 20, 2) := by decide +kernel
theorem dX7_total_5 : decode cX7_total 5 = .ok (.invokestatic 42, 3) := by decide +kernel
theorem dX7_total_8 : decode cX7_total 8 = .ok (.ifCond .eq 16, 3) := by decide +kernel
theorem dX7_total_11 : decode cX7_total 11 = .ok (.aload_n 0, 1) := by decide +kernel
theorem dX7_total_12 : decode cX7_total 12 = .ok (.getfield 7, 3) := by decide +kernel
theorem dX7_total_15 : decode cX7_total 15 = .ok (.bipush 12, 2) := by decide +kernel
theorem dX7_total_17 : decode cX7_total 17 = .ok (.iload_n 1, 1) := by decide +kernel
theorem dX7_total_18 : decode cX7_total 18 = .ok (.iadd, 1) := by decide +kernel
theorem dX7_total_19 : decode cX7_total 19 = .ok (.bipush 13, 2) := by decide +kernel
theorem dX7_total_21 : decode cX7_total 21 = .ok (.isub, 1) := by decide +kernel
theorem dX7_total_22 : decode cX7_total 22 = .ok (.iaload, 1) := by decide +kernel
theorem dX7_total_23 : decode cX7_total 23 = .ok (.ireturn, 1) := by decide +kernel
theorem dX7_total_24 : decode cX7_total 24 = .ok (.iload_n 1, 1) := by decide +kernel
theorem dX7_total_25 : decode cX7_total 25 = .ok (.tableswitch 112 0 12 #[67, 67, 67, 67, 67, 74, 79, 79, 88, 93, 98, 103, 103], 67) := by decide +kernel
theorem dX7_total_92 : decode cX7_total 92 = .ok (.aload_n 0, 1) := by decide +kernel
theorem dX7_total_93 : decode cX7_total 93 = .ok (.getfield 7, 3) := by decide +kernel
theorem dX7_total_96 : decode cX7_total 96 = .ok (.iload_n 1, 1) := by decide +kernel
theorem dX7_total_97 : decode cX7_total 97 = .ok (.iaload, 1) := by decide +kernel
theorem dX7_total_98 : decode cX7_total 98 = .ok (.ireturn, 1) := by decide +kernel
theorem dX7_total_99 : decode cX7_total 99 = .ok (.aload_n 0, 1) := by decide +kernel
theorem dX7_total_100 : decode cX7_total 100 = .ok (.invokevirtual 107, 3) := by decide +kernel
theorem dX7_total_103 : decode cX7_total 103 = .ok (.ireturn, 1) := by decide +kernel
theorem dX7_total_104 : decode cX7_total 104 = .ok (.aload_n 0, 1) := by decide +kernel
theorem dX7_total_105 : decode cX7_total 105 = .ok (.getfield 7, 3) := by decide +kernel
theorem dX7_total_108 : decode cX7_total 108 = .ok (.iload_n 1, 1) := by decide +kernel
theorem dX7_total_109 : decode cX7_total 109 = .ok (.iconst 4, 1) := by decide +kernel
theorem dX7_total_110 : decode cX7_total 110 = .ok (.iadd, 1) := by decide +kernel
theorem dX7_total_111 : decode cX7_total 111 = .ok (.iaload, 1) := by decide +kernel
theorem dX7_total_112 : decode cX7_total 112 = .ok (.ireturn, 1) := by decide +kernel
theorem dX7_total_113 : decode cX7_total 113 = .ok (.aload_n 0, 1) := by decide +kernel
theorem dX7_total_114 : decode cX7_total 114 = .ok (.invokevirtual 153, 3) := by decide +kernel
theorem dX7_total_117 : decode cX7_total 117 = .ok (.ireturn, 1) := by decide +kernel
theorem dX7_total_118 : decode cX7_total 118 = .ok (.aload_n 0, 1) := by decide +kernel
theorem dX7_total_119 : decode cX7_total 119 = .ok (.getfield 31, 3) := by decide +kernel
theorem dX7_total_122 : decode cX7_total 122 = .ok (.ireturn, 1) := by decide +kernel
theorem dX7_total_123 : decode cX7_total 123 = .ok (.aload_n 0, 1) := by decide +kernel
theorem dX7_total_124 : decode cX7_total 124 = .ok (.getfield 168, 3) := by decide +kernel
theorem dX7_total_127 : decode cX7_total 127 = .ok (.ireturn, 1) := by decide +kernel
theorem dX7_total_128 : decode cX7_total 128 = .ok (.aload_n 0, 1) := by decide +kernel
theorem dX7_total_129 : decode cX7_total 129 = .ok (.getfield 7, 3) := by decide +kernel
theorem dX7_total_132 : decode cX7_total 132 = .ok (.iload_n 1, 1) := by decide +kernel
theorem dX7_total_133 : decode cX7_total 133 = .ok (.iconst 3, 1) := by decide +kernel
theorem dX7_total_134 : decode cX7_total 134 = .ok (.isub, 1) := by decide +kernel
theorem dX7_total_135 : decode cX7_total 135 = .ok (.iaload, 1) := by decide +kernel
theorem dX7_total_136 : decode cX7_total 136 = .ok (.ireturn, 1) := by decide +kernel
theorem dX7_total_137 : decode cX7_total 137 = .ok (.bipush (-2), 2) := by decide +kernel
theorem dX7_total_139 : decode cX7_total 139 = .ok (.ireturn, 1) := by decide +kernel
theorem dX7_modeIn_0 : decode cX7_modeIn 0 = .ok (.iload_n 1, 1) := by decide +kernel
theorem dX7_modeIn_1 : decode cX7_modeIn 1 = .ok (.iconst 0, 1) := by decide +kernel
theorem dX7_modeIn_2 : decode cX7_modeIn 2 = .ok (.sipush 500, 3) := by decide +kernel
theorem dX7_modeIn_5 : decode cX7_modeIn 5 = .ok (.invokestatic 42, 3) := by decide +kernel
theorem dX7_modeIn_8 : decode cX7_modeIn 8 = .ok (.ifCond .ne 6, 3) := by decide +kernel
theorem dX7_modeIn_11 : decode cX7_modeIn 11 = .ok (.bipush (-2), 2) := by decide +kernel
theorem dX7_modeIn_13 : decode cX7_modeIn 13 = .ok (.ireturn, 1) := by decide +kernel
theorem dX7_modeIn_14 : decode cX7_modeIn 14 = .ok (.aload_n 0, 1) := by decide +kernel
theorem dX7_modeIn_15 : decode cX7_modeIn 15 = .ok (.bipush 7, 2) := by decide +kernel
theorem dX7_modeIn_17 : decode cX7_modeIn 17 = .ok (.invokevirtual 35, 3) := by decide +kernel
theorem dX7_modeIn_20 : decode cX7_modeIn 20 = .ok (.aload_n 0, 1) := by decide +kernel
theorem dX7_modeIn_21 : decode cX7_modeIn 21 = .ok (.iload_n 1, 1) := by decide +kernel
theorem dX7_modeIn_22 : decode cX7_modeIn 22 = .ok (.invokevirtual 165, 3) := by decide +kernel
theorem dX7_modeIn_25 : decode cX7_modeIn 25 = .ok (.istore_n 2, 1) := by decide +kernel
theorem dX7_modeIn_26 : decode cX7_modeIn 26 = .ok (.aload_n 0, 1) := by decide +kernel
theorem dX7_modeIn_27 : decode cX7_modeIn 27 = .ok (.bipush 7, 2) := by decide +kernel
theorem dX7_modeIn_29 : decode cX7_modeIn 29 = .ok (.invokevirtual 39, 3) := by decide +kernel
theorem dX7_modeIn_32 : decode cX7_modeIn 32 = .ok (.iload_n 2, 1) := by decide +kernel
theorem dX7_modeIn_33 : decode cX7_modeIn 33 = .ok (.ireturn, 1) := by decide +kernel
theorem dX7_secondsTo_0 : decode cX7_secondsTo 0 = .ok (.iload_n 1, 1) := by decide +kernel
theorem dX7_secondsTo_1 : decode cX7_secondsTo 1 = .ok (.iconst 0, 1) := by decide +kernel
theorem dX7_secondsTo_2 : decode cX7_secondsTo 2 = .ok (.iconst 5, 1) := by decide +kernel
theorem dX7_secondsTo_3 : decode cX7_secondsTo 3 = .ok (.invokestatic 42, 3) := by decide +kernel
theorem dX7_secondsTo_6 : decode cX7_secondsTo 6 = .ok (.ifCond .ne 6, 3) := by decide +kernel
theorem dX7_secondsTo_9 : decode cX7_secondsTo 9 = .ok (.bipush (-2), 2) := by decide +kernel
theorem dX7_secondsTo_11 : decode cX7_secondsTo 11 = .ok (.ireturn, 1) := by decide +kernel
theorem dX7_secondsTo_12 : decode cX7_secondsTo 12 = .ok (.aload_n 0, 1) := by decide +kernel
theorem dX7_secondsTo_13 : decode cX7_secondsTo 13 = .ok (.bipush 7, 2) := by decide +kernel
theorem dX7_secondsTo_15 : decode cX7_secondsTo 15 = .ok (.invokevirtual 35, 3) := by decide +kernel
theorem dX7_secondsTo_18 : decode cX7_secondsTo 18 = .ok (.iconst 0, 1) := by decide +kernel
theorem dX7_secondsTo_19 : decode cX7_secondsTo 19 = .ok (.istore_n 2, 1) := by decide +kernel
theorem dX7_secondsTo_20 : decode cX7_secondsTo 20 = .ok (.aload_n 0, 1) := by decide +kernel
theorem dX7_secondsTo_21 : decode cX7_secondsTo 21 = .ok (.getfield 7, 3) := by decide +kernel
theorem dX7_secondsTo_24 : decode cX7_secondsTo 24 = .ok (.iconst 0, 1) := by decide +kernel
theorem dX7_secondsTo_25 : decode cX7_secondsTo 25 = .ok (.iaload, 1) := by decide +kernel
theorem dX7_secondsTo_26 : decode cX7_secondsTo 26 = .ok (.iload_n 1, 1) := by decide +kernel
theorem dX7_secondsTo_27 : decode cX7_secondsTo 27 = .ok (.if_icmp .eq 20, 3) := by decide +kernel
theorem dX7_secondsTo_30 : decode cX7_secondsTo 30 = .ok (.iload_n 2, 1) := by decide +kernel
theorem dX7_secondsTo_31 : decode cX7_secondsTo 31 = .ok (.sipush 500, 3) := by decide +kernel
theorem dX7_secondsTo_34 : decode cX7_secondsTo 34 = .ok (.if_icmp .gt 13, 3) := by decide +kernel
theorem dX7_secondsTo_37 : decode cX7_secondsTo 37 = .ok (.aload_n 0, 1) := by decide +kernel
theorem dX7_secondsTo_38 : decode cX7_secondsTo 38 = .ok (.invokevirtual 162, 3) := by decide +kernel
theorem dX7_secondsTo_41 : decode cX7_secondsTo 41 = .ok (.iinc 2 1, 3) := by decide +kernel
theorem dX7_secondsTo_44 : decode cX7_secondsTo 44 = .ok (.goto (-24), 3) := by decide +kernel
theorem dX7_secondsTo_47 : decode cX7_secondsTo 47 = .ok (.aload_n 0, 1) := by decide +kernel
theorem dX7_secondsTo_48 : decode cX7_secondsTo 48 = .ok (.bipush 7, 2) := by decide +kernel
theorem dX7_secondsTo_50 : decode cX7_secondsTo 50 = .ok (.invokevirtual 39, 3) := by decide +kernel
theorem dX7_secondsTo_53 : decode cX7_secondsTo 53 = .ok (.iload_n 2, 1) := by decide +kernel
theorem dX7_secondsTo_54 : decode cX7_secondsTo 54 = .ok (.sipush 500, 3) := by decide +kernel
theorem dX7_secondsTo_57 : decode cX7_secondsTo 57 = .ok (.if_icmp .le 8, 3) := by decide +kernel
theorem dX7_secondsTo_60 : decode cX7_secondsTo 60 = .ok (.bipush (-5), 2) := by decide +kernel
theorem dX7_secondsTo_62 : decode cX7_secondsTo 62 = .ok (.goto 4, 3) := by decide +kernel
theorem dX7_secondsTo_65 : decode cX7_secondsTo 65 = .ok (.iload_n 2, 1) := by decide +kernel
theorem dX7_secondsTo_66 : decode cX7_secondsTo 66 = .ok (.ireturn, 1) := by decide +kernel
theorem dX7_closest_0 : decode cX7_closest 0 = .ok (.iload_n 1, 1) := by decide +kernel
theorem dX7_closest_1 : decode cX7_closest 1 = .ok (.iconst 0, 1) := by decide +kernel
theorem dX7_closest_2 : decode cX7_closest 2 = .ok (.sipush 500, 3) := by decide +kernel
theorem dX7_closest_5 : decode cX7_closest 5 = .ok (.invokestatic 42, 3) := by decide +kernel
theorem dX7_closest_8 : decode cX7_closest 8 = .ok (.ifCond .ne 6, 3) := by decide +kernel
theorem dX7_closest_11 : decode cX7_closest 11 = .ok (.bipush (-2), 2) := by decide +kernel
theorem dX7_closest_13 : decode cX7_closest 13 = .ok (.ireturn, 1) := by decide +kernel
theorem dX7_closest_14 : decode cX7_closest 14 = .ok (.aload_n 0, 1) := by decide +kernel
theorem dX7_closest_15 : decode cX7_closest 15 = .ok (.getfield 13, 3) := by decide +kernel
theorem dX7_closest_18 : decode cX7_closest 18 = .ok (.iconst 0, 1) := by decide +kernel
theorem dX7_closest_19 : decode cX7_closest 19 = .ok (.faload, 1) := by decide +kernel
theorem dX7_closest_20 : decode cX7_closest 20 = .ok (.fstore_n 2, 1) := by decide +kernel
theorem dX7_closest_21 : decode cX7_closest 21 = .ok (.aload_n 0, 1) := by decide +kernel
theorem dX7_closest_22 : decode cX7_closest 22 = .ok (.getfield 13, 3) := by decide +kernel
theorem dX7_closest_25 : decode cX7_closest 25 = .ok (.iconst 1, 1) := by decide +kernel
theorem dX7_closest_26 : decode cX7_closest 26 = .ok (.faload, 1) := by decide +kernel
theorem dX7_closest_27 : decode cX7_closest 27 = .ok (.fstore_n 3, 1) := by decide +kernel
theorem dX7_closest_28 : decode cX7_closest 28 = .ok (.fload_n 2, 1) := by decide +kernel
theorem dX7_closest_29 : decode cX7_closest 29 = .ok (.fload_n 2, 1) := by decide +kernel
theorem dX7_closest_30 : decode cX7_closest 30 = .ok (.fmul, 1) := by decide +kernel
theorem dX7_closest_31 : decode cX7_closest 31 = .ok (.fload_n 3, 1) := by decide +kernel
theorem dX7_closest_32 : decode cX7_closest 32 = .ok (.fload_n 3, 1) := by decide +kernel
theorem dX7_closest_33 : decode cX7_closest 33 = .ok (.fmul, 1) := by decide +kernel
theorem dX7_closest_34 : decode cX7_closest 34 = .ok (.fadd, 1) := by decide +kernel
theorem dX7_closest_35 : decode cX7_closest 35 = .ok (.fstore 4, 2) := by decide +kernel
theorem dX7_closest_37 : decode cX7_closest 37 = .ok (.iconst 0, 1) := by decide +kernel
theorem dX7_closest_38 : decode cX7_closest 38 = .ok (.istore 5, 2) := by decide +kernel
theorem dX7_closest_40 : decode cX7_closest 40 = .ok (.iload 5, 2) := by decide +kernel
theorem dX7_closest_42 : decode cX7_closest 42 = .ok (.iload_n 1, 1) := by decide +kernel
theorem dX7_closest_43 : decode cX7_closest 43 = .ok (.if_icmp .ge 53, 3) := by decide +kernel
theorem dX7_closest_46 : decode cX7_closest 46 = .ok (.fload_n 2, 1) := by decide +kernel
theorem dX7_closest_47 : decode cX7_closest 47 = .ok (.aload_n 0, 1) := by decide +kernel
theorem dX7_closest_48 : decode cX7_closest 48 = .ok (.getfield 13, 3) := by decide +kernel
theorem dX7_closest_51 : decode cX7_closest 51 = .ok (.iconst 2, 1) := by decide +kernel
theorem dX7_closest_52 : decode cX7_closest 52 = .ok (.faload, 1) := by decide +kernel
theorem dX7_closest_53 : decode cX7_closest 53 = .ok (.fadd, 1) := by decide +kernel
theorem dX7_closest_54 : decode cX7_closest 54 = .ok (.fstore_n 2, 1) := by decide +kernel
theorem dX7_closest_55 : decode cX7_closest 55 = .ok (.fload_n 3, 1) := by decide +kernel
theorem dX7_closest_56 : decode cX7_closest 56 = .ok (.aload_n 0, 1) := by decide +kernel
theorem dX7_closest_57 : decode cX7_closest 57 = .ok (.getfield 13, 3) := by decide +kernel
theorem dX7_closest_60 : decode cX7_closest 60 = .ok (.iconst 3, 1) := by decide +kernel
theorem dX7_closest_61 : decode cX7_closest 61 = .ok (.faload, 1) := by decide +kernel
theorem dX7_closest_62 : decode cX7_closest 62 = .ok (.fadd, 1) := by decide +kernel
theorem dX7_closest_63 : decode cX7_closest 63 = .ok (.fstore_n 3, 1) := by decide +kernel
theorem dX7_closest_64 : decode cX7_closest 64 = .ok (.fload_n 2, 1) := by decide +kernel
theorem dX7_closest_65 : decode cX7_closest 65 = .ok (.fload_n 2, 1) := by decide +kernel
theorem dX7_closest_66 : decode cX7_closest 66 = .ok (.fmul, 1) := by decide +kernel
theorem dX7_closest_67 : decode cX7_closest 67 = .ok (.fload_n 3, 1) := by decide +kernel
theorem dX7_closest_68 : decode cX7_closest 68 = .ok (.fload_n 3, 1) := by decide +kernel
theorem dX7_closest_69 : decode cX7_closest 69 = .ok (.fmul, 1) := by decide +kernel
theorem dX7_closest_70 : decode cX7_closest 70 = .ok (.fadd, 1) := by decide +kernel
theorem dX7_closest_71 : decode cX7_closest 71 = .ok (.fstore 6, 2) := by decide +kernel
theorem dX7_closest_73 : decode cX7_closest 73 = .ok (.fload 6, 2) := by decide +kernel
theorem dX7_closest_75 : decode cX7_closest 75 = .ok (.fload 4, 2) := by decide +kernel
theorem dX7_closest_77 : decode cX7_closest 77 = .ok (.fcmp .g, 1) := by decide +kernel
theorem dX7_closest_78 : decode cX7_closest 78 = .ok (.ifCond .ge 8, 3) := by decide +kernel
theorem dX7_closest_81 : decode cX7_closest 81 = .ok (.fload 6, 2) := by decide +kernel
theorem dX7_closest_83 : decode cX7_closest 83 = .ok (.goto 5, 3) := by decide +kernel
theorem dX7_closest_86 : decode cX7_closest 86 = .ok (.fload 4, 2) := by decide +kernel
theorem dX7_closest_88 : decode cX7_closest 88 = .ok (.fstore 4, 2) := by decide +kernel
theorem dX7_closest_90 : decode cX7_closest 90 = .ok (.iinc 5 1, 3) := by decide +kernel
theorem dX7_closest_93 : decode cX7_closest 93 = .ok (.goto (-53), 3) := by decide +kernel
theorem dX7_closest_96 : decode cX7_closest 96 = .ok (.fload 4, 2) := by decide +kernel
theorem dX7_closest_98 : decode cX7_closest 98 = .ok (.invokestatic 201, 3) := by decide +kernel
theorem dX7_closest_101 : decode cX7_closest 101 = .ok (.ireturn, 1) := by decide +kernel
theorem dX7_safeSpeed_0 : decode cX7_safeSpeed 0 = .ok (.sipush 5000, 3) := by decide +kernel
theorem dX7_safeSpeed_3 : decode cX7_safeSpeed 3 = .ok (.istore_n 1, 1) := by decide +kernel
theorem dX7_safeSpeed_4 : decode cX7_safeSpeed 4 = .ok (.iload_n 1, 1) := by decide +kernel
theorem dX7_safeSpeed_5 : decode cX7_safeSpeed 5 = .ok (.ifCond .lt 34, 3) := by decide +kernel
theorem dX7_safeSpeed_8 : decode cX7_safeSpeed 8 = .ok (.fconst 0, 1) := by decide +kernel
theorem dX7_safeSpeed_9 : decode cX7_safeSpeed 9 = .ok (.iload_n 1, 1) := by decide +kernel
theorem dX7_safeSpeed_10 : decode cX7_safeSpeed 10 = .ok (.invokestatic 55, 3) := by decide +kernel
theorem dX7_safeSpeed_13 : decode cX7_safeSpeed 13 = .ok (.fsub, 1) := by decide +kernel
theorem dX7_safeSpeed_14 : decode cX7_safeSpeed 14 = .ok (.fstore_n 2, 1) := by decide +kernel
theorem dX7_safeSpeed_15 : decode cX7_safeSpeed 15 = .ok (.aload_n 0, 1) := by decide +kernel
theorem dX7_safeSpeed_16 : decode cX7_safeSpeed 16 = .ok (.fload_n 2, 1) := by decide +kernel
theorem dX7_safeSpeed_17 : decode cX7_safeSpeed 17 = .ok (.invokevirtual 96, 3) := by decide +kernel
theorem dX7_safeSpeed_20 : decode cX7_safeSpeed 20 = .ok (.ifCond .ne 13, 3) := by decide +kernel
theorem dX7_safeSpeed_23 : decode cX7_safeSpeed 23 = .ok (.aload_n 0, 1) := by decide +kernel
theorem dX7_safeSpeed_24 : decode cX7_safeSpeed 24 = .ok (.fload_n 2, 1) := by decide +kernel
theorem dX7_safeSpeed_25 : decode cX7_safeSpeed 25 = .ok (.invokevirtual 100, 3) := by decide +kernel
theorem dX7_safeSpeed_28 : decode cX7_safeSpeed 28 = .ok (.ifCond .ne 5, 3) := by decide +kernel
theorem dX7_safeSpeed_31 : decode cX7_safeSpeed 31 = .ok (.iload_n 1, 1) := by decide +kernel
theorem dX7_safeSpeed_32 : decode cX7_safeSpeed 32 = .ok (.ireturn, 1) := by decide +kernel
theorem dX7_safeSpeed_33 : decode cX7_safeSpeed 33 = .ok (.iinc 1 (-1), 3) := by decide +kernel
theorem dX7_safeSpeed_36 : decode cX7_safeSpeed 36 = .ok (.goto (-32), 3) := by decide +kernel
theorem dX7_safeSpeed_39 : decode cX7_safeSpeed 39 = .ok (.bipush (-5), 2) := by decide +kernel
theorem dX7_safeSpeed_41 : decode cX7_safeSpeed 41 = .ok (.ireturn, 1) := by decide +kernel
