theorem dX4_passSecond_22 : decode cX4_passSecond 22 = .ok (.ifCond .ne 7, 3) := by decide +kernel
theorem dX4_passSecond_25 : decode cX4_passSecond 25 = .ok (.fconst 0, 1) := by decide +kernel
theorem dX4_passSecond_26 : decode cX4_passSecond 26 = .ok (.goto 11, 3) := by decide +kernel
theorem dX4_passSecond_29 : decode cX4_passSecond 29 = .ok (.aload_n 0, 1) := by decide +kernel
theorem dX4_passSecond_30 : decode cX4_passSecond 30 = .ok (.aload_n 0, 1) := by decide +kernel
theorem dX4_passSecond_31 : decode cX4_passSecond 31 = .ok (.invokevirtual 119, 3) := by decide +kernel
theorem dX4_passSecond_34 : decode cX4_passSecond 34 = .ok (.invokevirtual 123, 3) := by decide +kernel
theorem dX4_passSecond_37 : decode cX4_passSecond 37 = .ok (.fstore_n 1, 1) := by decide +kernel
theorem dX4_passSecond_38 : decode cX4_passSecond 38 = .ok (.aload_n 0, 1) := by decide +kernel
theorem dX4_passSecond_39 : decode cX4_passSecond 39 = .ok (.getfield 63, 3) := by decide +kernel
theorem dX4_passSecond_42 : decode cX4_passSecond 42 = .ok (.ifCond .ne 7, 3) := by decide +kernel
theorem dX4_passSecond_45 : decode cX4_passSecond 45 = .ok (.fconst 0, 1) := by decide +kernel
theorem dX4_passSecond_46 : decode cX4_passSecond 46 = .ok (.goto 7, 3) := by decide +kernel
theorem dX4_passSecond_49 : decode cX4_passSecond 49 = .ok (.aload_n 0, 1) := by decide +kernel
theorem dX4_passSecond_50 : decode cX4_passSecond 50 = .ok (.invokevirtual 127, 3) := by decide +kernel
theorem dX4_passSecond_53 : decode cX4_passSecond 53 = .ok (.fstore_n 2, 1) := by decide +kernel
theorem dX4_passSecond_54 : decode cX4_passSecond 54 = .ok (.aload_n 0, 1) := by decide +kernel
theorem dX4_passSecond_55 : decode cX4_passSecond 55 = .ok (.aload_n 0, 1) := by decide +kernel
theorem dX4_passSecond_56 : decode cX4_passSecond 56 = .ok (.getfield 57, 3) := by decide +kernel
theorem dX4_passSecond_59 : decode cX4_passSecond 59 = .ok (.fload_n 1, 1) := by decide +kernel
theorem dX4_passSecond_60 : decode cX4_passSecond 60 = .ok (.fadd, 1) := by decide +kernel
theorem dX4_passSecond_61 : decode cX4_passSecond 61 = .ok (.putfield 57, 3) := by decide +kernel
theorem dX4_passSecond_64 : decode cX4_passSecond 64 = .ok (.aload_n 0, 1) := by decide +kernel
theorem dX4_passSecond_65 : decode cX4_passSecond 65 = .ok (.aload_n 0, 1) := by decide +kernel
theorem dX4_passSecond_66 : decode cX4_passSecond 66 = .ok (.getfield 60, 3) := by decide +kernel
theorem dX4_passSecond_69 : decode cX4_passSecond 69 = .ok (.fload_n 2, 1) := by decide +kernel
theorem dX4_passSecond_70 : decode cX4_passSecond 70 = .ok (.fadd, 1) := by decide +kernel
theorem dX4_passSecond_71 : decode cX4_passSecond 71 = .ok (.putfield 60, 3) := by decide +kernel
theorem dX4_passSecond_74 : decode cX4_passSecond 74 = .ok (.aload_n 0, 1) := by decide +kernel
theorem dX4_passSecond_75 : decode cX4_passSecond 75 = .ok (.aload_n 0, 1) := by decide +kernel
theorem dX4_passSecond_76 : decode cX4_passSecond 76 = .ok (.getfield 10, 3) := by decide +kernel
theorem dX4_passSecond_79 : decode cX4_passSecond 79 = .ok (.aload_n 0, 1) := by decide +kernel
theorem dX4_passSecond_80 : decode cX4_passSecond 80 = .ok (.getfield 57, 3) := by decide +kernel
theorem dX4_passSecond_83 : decode cX4_passSecond 83 = .ok (.fadd, 1) := by decide +kernel
theorem dX4_passSecond_84 : decode cX4_passSecond 84 = .ok (.putfield 10, 3) := by decide +kernel
theorem dX4_passSecond_87 : decode cX4_passSecond 87 = .ok (.aload_n 0, 1) := by decide +kernel
theorem dX4_passSecond_88 : decode cX4_passSecond 88 = .ok (.aload_n 0, 1) := by decide +kernel
theorem dX4_passSecond_89 : decode cX4_passSecond 89 = .ok (.getfield 54, 3) := by decide +kernel
theorem dX4_passSecond_92 : decode cX4_passSecond 92 = .ok (.aload_n 0, 1) := by decide +kernel
theorem dX4_passSecond_93 : decode cX4_passSecond 93 = .ok (.getfield 60, 3) := by decide +kernel
theorem dX4_passSecond_96 : decode cX4_passSecond 96 = .ok (.fadd, 1) := by decide +kernel
theorem dX4_passSecond_97 : decode cX4_passSecond 97 = .ok (.putfield 54, 3) := by decide +kernel
theorem dX4_passSecond_100 : decode cX4_passSecond 100 = .ok (.aload_n 0, 1) := by decide +kernel
theorem dX4_passSecond_101 : decode cX4_passSecond 101 = .ok (.getfield 10, 3) := by decide +kernel
theorem dX4_passSecond_104 : decode cX4_passSecond 104 = .ok (.fconst 0, 1) := by decide +kernel
theorem dX4_passSecond_105 : decode cX4_passSecond 105 = .ok (.fcmp .g, 1) := by decide +kernel
theorem dX4_passSecond_106 : decode cX4_passSecond 106 = .ok (.ifCond .gt 8, 3) := by decide +kernel
theorem dX4_passSecond_109 : decode cX4_passSecond 109 = .ok (.aload_n 0, 1) := by decide +kernel
theorem dX4_passSecond_110 : decode cX4_passSecond 110 = .ok (.invokevirtual 130, 3) := by decide +kernel
theorem dX4_passSecond_113 : decode cX4_passSecond 113 = .ok (.return_, 1) := by decide +kernel
theorem dX4_passSecond_114 : decode cX4_passSecond 114 = .ok (.aload_n 0, 1) := by decide +kernel
theorem dX4_passSecond_115 : decode cX4_passSecond 115 = .ok (.getfield 50, 3) := by decide +kernel
theorem dX4_passSecond_118 : decode cX4_passSecond 118 = .ok (.aload_n 0, 1) := by decide +kernel
theorem dX4_passSecond_119 : decode cX4_passSecond 119 = .ok (.getfield 10, 3) := by decide +kernel
theorem dX4_passSecond_122 : decode cX4_passSecond 122 = .ok (.invokevirtual 133, 3) := by decide +kernel
theorem dX4_passSecond_125 : decode cX4_passSecond 125 = .ok (.aload_n 0, 1) := by decide +kernel
theorem dX4_passSecond_126 : decode cX4_passSecond 126 = .ok (.getfield 63, 3) := by decide +kernel
theorem dX4_passSecond_129 : decode cX4_passSecond 129 = .ok (.iconst 1, 1) := by decide +kernel
theorem dX4_passSecond_130 : decode cX4_passSecond 130 = .ok (.if_icmp .ne 7, 3) := by decide +kernel
theorem dX4_passSecond_133 : decode cX4_passSecond 133 = .ok (.aload_n 0, 1) := by decide +kernel
theorem dX4_passSecond_134 : decode cX4_passSecond 134 = .ok (.invokevirtual 137, 3) := by decide +kernel
theorem dX4_passSecond_137 : decode cX4_passSecond 137 = .ok (.aload_n 0, 1) := by decide +kernel
theorem dX4_passSecond_138 : decode cX4_passSecond 138 = .ok (.getfield 63, 3) := by decide +kernel
theorem dX4_passSecond_141 : decode cX4_passSecond 141 = .ok (.iconst 1, 1) := by decide +kernel
theorem dX4_passSecond_142 : decode cX4_passSecond 142 = .ok (.if_icmp .ne 14, 3) := by decide +kernel
theorem dX4_passSecond_145 : decode cX4_passSecond 145 = .ok (.aload_n 0, 1) := by decide +kernel
theorem dX4_passSecond_146 : decode cX4_passSecond 146 = .ok (.aload_n 0, 1) := by decide +kernel
theorem dX4_passSecond_147 : decode cX4_passSecond 147 = .ok (.invokevirtual 106, 3) := by decide +kernel
theorem dX4_passSecond_150 : decode cX4_passSecond 150 = .ok (.invokevirtual 140, 3) := by decide +kernel
theorem dX4_passSecond_153 : decode cX4_passSecond 153 = .ok (.goto 38, 3) := by decide +kernel
theorem dX4_passSecond_156 : decode cX4_passSecond 156 = .ok (.aload_n 0, 1) := by decide +kernel
theorem dX4_passSecond_157 : decode cX4_passSecond 157 = .ok (.getfield 63, 3) := by decide +kernel
theorem dX4_passSecond_160 : decode cX4_passSecond 160 = .ok (.iconst 3, 1) := by decide +kernel
theorem dX4_passSecond_161 : decode cX4_passSecond 161 = .ok (.if_icmp .ne 30, 3) := by decide +kernel
theorem dX4_passSecond_164 : decode cX4_passSecond 164 = .ok (.aload_n 0, 1) := by decide +kernel
theorem dX4_passSecond_165 : decode cX4_passSecond 165 = .ok (.getfield 10, 3) := by decide +kernel
theorem dX4_passSecond_168 : decode cX4_passSecond 168 = .ok (.ldc 143, 2) := by decide +kernel
theorem dX4_passSecond_170 : decode cX4_passSecond 170 = .ok (.fcmp .l, 1) := by decide +kernel
theorem dX4_passSecond_171 : decode cX4_passSecond 171 = .ok (.ifCond .le 20, 3) := by decide +kernel
theorem dX4_passSecond_174 : decode cX4_passSecond 174 = .ok (.aload_n 0, 1) := by decide +kernel
theorem dX4_passSecond_175 : decode cX4_passSecond 175 = .ok (.invokevirtual 106, 3) := by decide +kernel
theorem dX4_passSecond_178 : decode cX4_passSecond 178 = .ok (.ifCond .ne 13, 3) := by decide +kernel
theorem dX4_passSecond_181 : decode cX4_passSecond 181 = .ok (.aload_n 0, 1) := by decide +kernel
theorem dX4_passSecond_182 : decode cX4_passSecond 182 = .ok (.bipush (-5), 2) := by decide +kernel
theorem dX4_passSecond_184 : decode cX4_passSecond 184 = .ok (.aload_n 0, 1) := by decide +kernel
theorem dX4_passSecond_185 : decode cX4_passSecond 185 = .ok (.getfield 10, 3) := by decide +kernel
theorem dX4_passSecond_188 : decode cX4_passSecond 188 = .ok (.invokevirtual 144, 3) := by decide +kernel
theorem dX4_passSecond_191 : decode cX4_passSecond 191 = .ok (.return_, 1) := by decide +kernel
theorem dX4_accelerationAlong_0 : decode cX4_accelerationAlong 0 = .ok (.aload_n 0, 1) := by decide +kernel
theorem dX4_accelerationAlong_1 : decode cX4_accelerationAlong 1 = .ok (.fload_n 1, 1) := by decide +kernel
theorem dX4_accelerationAlong_2 : decode cX4_accelerationAlong 2 = .ok (.aload_n 0, 1) := by decide +kernel
theorem dX4_accelerationAlong_3 : decode cX4_accelerationAlong 3 = .ok (.getfield 57, 3) := by decide +kernel
theorem dX4_accelerationAlong_6 : decode cX4_accelerationAlong 6 = .ok (.fsub, 1) := by decide +kernel
theorem dX4_accelerationAlong_7 : decode cX4_accelerationAlong 7 = .ok (.invokevirtual 148, 3) := by decide +kernel
theorem dX4_accelerationAlong_10 : decode cX4_accelerationAlong 10 = .ok (.fstore_n 2, 1) := by decide +kernel
theorem dX4_accelerationAlong_11 : decode cX4_accelerationAlong 11 = .ok (.aload_n 0, 1) := by decide +kernel
theorem dX4_accelerationAlong_12 : decode cX4_accelerationAlong 12 = .ok (.getfield 20, 3) := by decide +kernel
theorem dX4_accelerationAlong_15 : decode cX4_accelerationAlong 15 = .ok (.iconst 5, 1) := by decide +kernel
theorem dX4_accelerationAlong_16 : decode cX4_accelerationAlong 16 = .ok (.iaload, 1) := by decide +kernel
theorem dX4_accelerationAlong_17 : decode cX4_accelerationAlong 17 = .ok (.i2f, 1) := by decide +kernel
theorem dX4_accelerationAlong_18 : decode cX4_accelerationAlong 18 = .ok (.ldc 151, 2) := by decide +kernel
theorem dX4_accelerationAlong_20 : decode cX4_accelerationAlong 20 = .ok (.fdiv, 1) := by decide +kernel
theorem dX4_accelerationAlong_21 : decode cX4_accelerationAlong 21 = .ok (.fstore_n 3, 1) := by decide +kernel
theorem dX4_accelerationAlong_22 : decode cX4_accelerationAlong 22 = .ok (.fload_n 2, 1) := by decide +kernel
theorem dX4_accelerationAlong_23 : decode cX4_accelerationAlong 23 = .ok (.fload_n 3, 1) := by decide +kernel
theorem dX4_accelerationAlong_24 : decode cX4_accelerationAlong 24 = .ok (.fcmp .l, 1) := by decide +kernel
theorem dX4_accelerationAlong_25 : decode cX4_accelerationAlong 25 = .ok (.ifCond .le 25, 3) := by decide +kernel
theorem dX4_accelerationAlong_28 : decode cX4_accelerationAlong 28 = .ok (.aload_n 0, 1) := by decide +kernel
theorem dX4_accelerationAlong_29 : decode cX4_accelerationAlong 29 = .ok (.getfield 10, 3) := by decide +kernel
theorem dX4_accelerationAlong_32 : decode cX4_accelerationAlong 32 = .ok (.aload_n 0, 1) := by decide +kernel
theorem dX4_accelerationAlong_33 : decode cX4_accelerationAlong 33 = .ok (.getfield 20, 3) := by decide +kernel
theorem dX4_accelerationAlong_36 : decode cX4_accelerationAlong 36 = .ok (.iconst 3, 1) := by decide +kernel
theorem dX4_accelerationAlong_37 : decode cX4_accelerationAlong 37 = .ok (.iaload, 1) := by decide +kernel
theorem dX4_accelerationAlong_38 : decode cX4_accelerationAlong 38 = .ok (.i2f, 1) := by decide +kernel
theorem dX4_accelerationAlong_39 : decode cX4_accelerationAlong 39 = .ok (.ldc 9, 2) := by decide +kernel
theorem dX4_accelerationAlong_41 : decode cX4_accelerationAlong 41 = .ok (.fdiv, 1) := by decide +kernel
theorem dX4_accelerationAlong_42 : decode cX4_accelerationAlong 42 = .ok (.fcmp .g, 1) := by decide +kernel
theorem dX4_accelerationAlong_43 : decode cX4_accelerationAlong 43 = .ok (.ifCond .ge 7, 3) := by decide +kernel
theorem dX4_accelerationAlong_46 : decode cX4_accelerationAlong 46 = .ok (.fload_n 3, 1) := by decide +kernel
theorem dX4_accelerationAlong_47 : decode cX4_accelerationAlong 47 = .ok (.goto 4, 3) := by decide +kernel
theorem dX4_accelerationAlong_50 : decode cX4_accelerationAlong 50 = .ok (.fload_n 2, 1) := by decide +kernel
theorem dX4_accelerationAlong_51 : decode cX4_accelerationAlong 51 = .ok (.freturn, 1) := by decide +kernel
theorem dX4_accelerationAcross_0 : decode cX4_accelerationAcross 0 = .ok (.aload_n 0, 1) := by decide +kernel
theorem dX4_accelerationAcross_1 : decode cX4_accelerationAcross 1 = .ok (.fconst 0, 1) := by decide +kernel
theorem dX4_accelerationAcross_2 : decode cX4_accelerationAcross 2 = .ok (.aload_n 0, 1) := by decide +kernel
theorem dX4_accelerationAcross_3 : decode cX4_accelerationAcross 3 = .ok (.getfield 54, 3) := by decide +kernel
theorem dX4_accelerationAcross_6 : decode cX4_accelerationAcross 6 = .ok (.ldc 152, 2) := by decide +kernel
theorem dX4_accelerationAcross_8 : decode cX4_accelerationAcross 8 = .ok (.fmul, 1) := by decide +kernel
theorem dX4_accelerationAcross_9 : decode cX4_accelerationAcross 9 = .ok (.fsub, 1) := by decide +kernel
theorem dX4_accelerationAcross_10 : decode cX4_accelerationAcross 10 = .ok (.aload_n 0, 1) := by decide +kernel
theorem dX4_accelerationAcross_11 : decode cX4_accelerationAcross 11 = .ok (.getfield 60, 3) := by decide +kernel
theorem dX4_accelerationAcross_14 : decode cX4_accelerationAcross 14 = .ok (.fsub, 1) := by decide +kernel
theorem dX4_accelerationAcross_15 : decode cX4_accelerationAcross 15 = .ok (.invokevirtual 148, 3) := by decide +kernel
theorem dX4_accelerationAcross_18 : decode cX4_accelerationAcross 18 = .ok (.freturn, 1) := by decide +kernel
theorem dX4_heldToGreatest_0 : decode cX4_heldToGreatest 0 = .ok (.aload_n 0, 1) := by decide +kernel
theorem dX4_heldToGreatest_1 : decode cX4_heldToGreatest 1 = .ok (.getfield 20, 3) := by decide +kernel
theorem dX4_heldToGreatest_4 : decode cX4_heldToGreatest 4 = .ok (.iconst 4, 1) := by decide +kernel
theorem dX4_heldToGreatest_5 : decode cX4_heldToGreatest 5 = .ok (.iaload, 1) := by decide +kernel
theorem dX4_heldToGreatest_6 : decode cX4_heldToGreatest 6 = .ok (.i2f, 1) := by decide +kernel
theorem dX4_heldToGreatest_7 : decode cX4_heldToGreatest 7 = .ok (.ldc 151, 2) := by decide +kernel
theorem dX4_heldToGreatest_9 : decode cX4_heldToGreatest 9 = .ok (.fdiv, 1) := by decide +kernel
theorem dX4_heldToGreatest_10 : decode cX4_heldToGreatest 10 = .ok (.fstore_n 2, 1) := by decide +kernel
theorem dX4_heldToGreatest_11 : decode cX4_heldToGreatest 11 = .ok (.fload_n 1, 1) := by decide +kernel
theorem dX4_heldToGreatest_12 : decode cX4_heldToGreatest 12 = .ok (.fload_n 2, 1) := by decide +kernel
theorem dX4_heldToGreatest_13 : decode cX4_heldToGreatest 13 = .ok (.fneg, 1) := by decide +kernel
theorem dX4_heldToGreatest_14 : decode cX4_heldToGreatest 14 = .ok (.fcmp .g, 1) := by decide +kernel
theorem dX4_heldToGreatest_15 : decode cX4_heldToGreatest 15 = .ok (.ifCond .ge 6, 3) := by decide +kernel
theorem dX4_heldToGreatest_18 : decode cX4_heldToGreatest 18 = .ok (.fload_n 2, 1) := by decide +kernel
theorem dX4_heldToGreatest_19 : decode cX4_heldToGreatest 19 = .ok (.fneg, 1) := by decide +kernel
theorem dX4_heldToGreatest_20 : decode cX4_heldToGreatest 20 = .ok (.freturn, 1) := by decide +kernel
theorem dX4_heldToGreatest_21 : decode cX4_heldToGreatest 21 = .ok (.fload_n 1, 1) := by decide +kernel
theorem dX4_heldToGreatest_22 : decode cX4_heldToGreatest 22 = .ok (.fload_n 2, 1) := by decide +kernel
theorem dX4_heldToGreatest_23 : decode cX4_heldToGreatest 23 = .ok (.fcmp .l, 1) := by decide +kernel
theorem dX4_heldToGreatest_24 : decode cX4_heldToGreatest 24 = .ok (.ifCond .le 7, 3) := by decide +kernel
theorem dX4_heldToGreatest_27 : decode cX4_heldToGreatest 27 = .ok (.fload_n 2, 1) := by decide +kernel
theorem dX4_heldToGreatest_28 : decode cX4_heldToGreatest 28 = .ok (.goto 4, 3) := by decide +kernel
theorem dX4_heldToGreatest_31 : decode cX4_heldToGreatest 31 = .ok (.fload_n 1, 1) := by decide +kernel
theorem dX4_heldToGreatest_32 : decode cX4_heldToGreatest 32 = .ok (.freturn, 1) := by decide +kernel
theorem dX4_wantedSpeed_0 : decode cX4_wantedSpeed 0 = .ok (.aload_n 0, 1) := by decide +kernel
theorem dX4_wantedSpeed_1 : decode cX4_wantedSpeed 1 = .ok (.getfield 63, 3) := by decide +kernel
theorem dX4_wantedSpeed_4 : decode cX4_wantedSpeed 4 = .ok (.iconst 2, 1) := by decide +kernel
theorem dX4_wantedSpeed_5 : decode cX4_wantedSpeed 5 = .ok (.if_icmp .ne 16, 3) := by decide +kernel
theorem dX4_wantedSpeed_8 : decode cX4_wantedSpeed 8 = .ok (.aload_n 0, 1) := by decide +kernel
theorem dX4_wantedSpeed_9 : decode cX4_wantedSpeed 9 = .ok (.getfield 66, 3) := by decide +kernel
theorem dX4_wantedSpeed_12 : decode cX4_wantedSpeed 12 = .ok (.aload_n 0, 1) := by decide +kernel
theorem dX4_wantedSpeed_13 : decode cX4_wantedSpeed 13 = .ok (.getfield 10, 3) := by decide +kernel
theorem dX4_wantedSpeed_16 : decode cX4_wantedSpeed 16 = .ok (.fsub, 1) := by decide +kernel
theorem dX4_wantedSpeed_17 : decode cX4_wantedSpeed 17 = .ok (.ldc 153, 2) := by decide +kernel
theorem dX4_wantedSpeed_19 : decode cX4_wantedSpeed 19 = .ok (.fmul, 1) := by decide +kernel
theorem dX4_wantedSpeed_20 : decode cX4_wantedSpeed 20 = .ok (.freturn, 1) := by decide +kernel
theorem dX4_wantedSpeed_21 : decode cX4_wantedSpeed 21 = .ok (.aload_n 0, 1) := by decide +kernel
theorem dX4_wantedSpeed_22 : decode cX4_wantedSpeed 22 = .ok (.getfield 36, 3) := by decide +kernel
theorem dX4_wantedSpeed_25 : decode cX4_wantedSpeed 25 = .ok (.aload_n 0, 1) := by decide +kernel
theorem dX4_wantedSpeed_26 : decode cX4_wantedSpeed 26 = .ok (.getfield 50, 3) := by decide +kernel
theorem dX4_wantedSpeed_29 : decode cX4_wantedSpeed 29 = .ok (.aload_n 0, 1) := by decide +kernel
theorem dX4_wantedSpeed_30 : decode cX4_wantedSpeed 30 = .ok (.getfield 10, 3) := by decide +kernel
theorem dX4_wantedSpeed_33 : decode cX4_wantedSpeed 33 = .ok (.invokevirtual 154, 3) := by decide +kernel
theorem dX4_wantedSpeed_36 : decode cX4_wantedSpeed 36 = .ok (.invokevirtual 157, 3) := by decide +kernel
theorem dX4_wantedSpeed_39 : decode cX4_wantedSpeed 39 = .ok (.fstore_n 1, 1) := by decide +kernel
theorem dX4_wantedSpeed_40 : decode cX4_wantedSpeed 40 = .ok (.aload_n 0, 1) := by decide +kernel
theorem dX4_wantedSpeed_41 : decode cX4_wantedSpeed 41 = .ok (.getfield 63, 3) := by decide +kernel
theorem dX4_wantedSpeed_44 : decode cX4_wantedSpeed 44 = .ok (.iconst 3, 1) := by decide +kernel
theorem dX4_wantedSpeed_45 : decode cX4_wantedSpeed 45 = .ok (.if_icmp .ne 5, 3) := by decide +kernel
theorem dX4_wantedSpeed_48 : decode cX4_wantedSpeed 48 = .ok (.fload_n 1, 1) := by decide +kernel
theorem dX4_wantedSpeed_49 : decode cX4_wantedSpeed 49 = .ok (.freturn, 1) := by decide +kernel
theorem dX4_wantedSpeed_50 : decode cX4_wantedSpeed 50 = .ok (.aload_n 0, 1) := by decide +kernel
theorem dX4_wantedSpeed_51 : decode cX4_wantedSpeed 51 = .ok (.getfield 43, 3) := by decide +kernel
theorem dX4_wantedSpeed_54 : decode cX4_wantedSpeed 54 = .ok (.aload_n 0, 1) := by decide +kernel
theorem dX4_wantedSpeed_55 : decode cX4_wantedSpeed 55 = .ok (.getfield 10, 3) := by decide +kernel
theorem dX4_wantedSpeed_58 : decode cX4_wantedSpeed 58 = .ok (.invokevirtual 160, 3) := by decide +kernel
theorem dX4_wantedSpeed_61 : decode cX4_wantedSpeed 61 = .ok (.istore_n 2, 1) := by decide +kernel
theorem dX4_wantedSpeed_62 : decode cX4_wantedSpeed 62 = .ok (.aload_n 0, 1) := by decide +kernel
theorem dX4_wantedSpeed_63 : decode cX4_wantedSpeed 63 = .ok (.getfield 43, 3) := by decide +kernel
theorem dX4_wantedSpeed_66 : decode cX4_wantedSpeed 66 = .ok (.iload_n 2, 1) := by decide +kernel
theorem dX4_wantedSpeed_67 : decode cX4_wantedSpeed 67 = .ok (.invokevirtual 164, 3) := by decide +kernel
theorem dX4_wantedSpeed_70 : decode cX4_wantedSpeed 70 = .ok (.ifCond .ne 6, 3) := by decide +kernel
theorem dX4_wantedSpeed_73 : decode cX4_wantedSpeed 73 = .ok (.fload_n 1, 1) := by decide +kernel
theorem dX4_wantedSpeed_74 : decode cX4_wantedSpeed 74 = .ok (.fneg, 1) := by decide +kernel
theorem dX4_wantedSpeed_75 : decode cX4_wantedSpeed 75 = .ok (.freturn, 1) := by decide +kernel
theorem dX4_wantedSpeed_76 : decode cX4_wantedSpeed 76 = .ok (.fconst 0, 1) := by decide +kernel
theorem dX4_wantedSpeed_77 : decode cX4_wantedSpeed 77 = .ok (.aload_n 0, 1) := by decide +kernel
theorem dX4_wantedSpeed_78 : decode cX4_wantedSpeed 78 = .ok (.getfield 10, 3) := by decide +kernel
theorem dX4_wantedSpeed_81 : decode cX4_wantedSpeed 81 = .ok (.aload_n 0, 1) := by decide +kernel
theorem dX4_wantedSpeed_82 : decode cX4_wantedSpeed 82 = .ok (.getfield 43, 3) := by decide +kernel
theorem dX4_wantedSpeed_85 : decode cX4_wantedSpeed 85 = .ok (.iload_n 2, 1) := by decide +kernel
theorem dX4_wantedSpeed_86 : decode cX4_wantedSpeed 86 = .ok (.invokevirtual 168, 3) := by decide +kernel
theorem dX4_wantedSpeed_89 : decode cX4_wantedSpeed 89 = .ok (.fsub, 1) := by decide +kernel
theorem dX4_wantedSpeed_90 : decode cX4_wantedSpeed 90 = .ok (.ldc 153, 2) := by decide +kernel
theorem dX4_wantedSpeed_92 : decode cX4_wantedSpeed 92 = .ok (.fmul, 1) := by decide +kernel
theorem dX4_wantedSpeed_93 : decode cX4_wantedSpeed 93 = .ok (.fsub, 1) := by decide +kernel
theorem dX4_wantedSpeed_94 : decode cX4_wantedSpeed 94 = .ok (.fstore_n 3, 1) := by decide +kernel
theorem dX4_wantedSpeed_95 : decode cX4_wantedSpeed 95 = .ok (.fload_n 3, 1) := by decide +kernel
theorem dX4_wantedSpeed_96 : decode cX4_wantedSpeed 96 = .ok (.fload_n 1, 1) := by decide +kernel
theorem dX4_wantedSpeed_97 : decode cX4_wantedSpeed 97 = .ok (.fneg, 1) := by decide +kernel
theorem dX4_wantedSpeed_98 : decode cX4_wantedSpeed 98 = .ok (.fcmp .l, 1) := by decide +kernel
theorem dX4_wantedSpeed_99 : decode cX4_wantedSpeed 99 = .ok (.ifCond .le 7, 3) := by decide +kernel
theorem dX4_wantedSpeed_102 : decode cX4_wantedSpeed 102 = .ok (.fload_n 3, 1) := by decide +kernel
theorem dX4_wantedSpeed_103 : decode cX4_wantedSpeed 103 = .ok (.goto 5, 3) := by decide +kernel
theorem dX4_wantedSpeed_106 : decode cX4_wantedSpeed 106 = .ok (.fload_n 1, 1) := by decide +kernel
theorem dX4_wantedSpeed_107 : decode cX4_wantedSpeed 107 = .ok (.fneg, 1) := by decide +kernel
theorem dX4_wantedSpeed_108 : decode cX4_wantedSpeed 108 = .ok (.freturn, 1) := by decide +kernel
theorem dX4_arrive_0 : decode cX4_arrive 0 = .ok (.aload_n 0, 1) := by decide +kernel
theorem dX4_arrive_1 : decode cX4_arrive 1 = .ok (.getfield 57, 3) := by decide +kernel
theorem dX4_arrive_4 : decode cX4_arrive 4 = .ok (.invokestatic 172, 3) := by decide +kernel
theorem dX4_arrive_7 : decode cX4_arrive 7 = .ok (.aload_n 0, 1) := by decide +kernel
theorem dX4_arrive_8 : decode cX4_arrive 8 = .ok (.getfield 20, 3) := by decide +kernel
theorem dX4_arrive_11 : decode cX4_arrive 11 = .ok (.bipush 7, 2) := by decide +kernel
theorem dX4_arrive_13 : decode cX4_arrive 13 = .ok (.iaload, 1) := by decide +kernel
theorem dX4_arrive_14 : decode cX4_arrive 14 = .ok (.i2f, 1) := by decide +kernel
theorem dX4_arrive_15 : decode cX4_arrive 15 = .ok (.ldc 151, 2) := by decide +kernel
theorem dX4_arrive_17 : decode cX4_arrive 17 = .ok (.fdiv, 1) := by decide +kernel
theorem dX4_arrive_18 : decode cX4_arrive 18 = .ok (.fcmp .g, 1) := by decide +kernel
theorem dX4_arrive_19 : decode cX4_arrive 19 = .ok (.ifCond .gt 28, 3) := by decide +kernel
theorem dX4_arrive_22 : decode cX4_arrive 22 = .ok (.aload_n 0, 1) := by decide +kernel
theorem dX4_arrive_23 : decode cX4_arrive 23 = .ok (.getfield 54, 3) := by decide +kernel
theorem dX4_arrive_26 : decode cX4_arrive 26 = .ok (.invokestatic 172, 3) := by decide +kernel
theorem dX4_arrive_29 : decode cX4_arrive 29 = .ok (.aload_n 0, 1) := by decide +kernel
theorem dX4_arrive_30 : decode cX4_arrive 30 = .ok (.getfield 20, 3) := by decide +kernel
theorem dX4_arrive_33 : decode cX4_arrive 33 = .ok (.iconst 1, 1) := by decide +kernel
theorem dX4_arrive_34 : decode cX4_arrive 34 = .ok (.iaload, 1) := by decide +kernel
theorem dX4_arrive_35 : decode cX4_arrive 35 = .ok (.i2f, 1) := by decide +kernel
theorem dX4_arrive_36 : decode cX4_arrive 36 = .ok (.ldc 9, 2) := by decide +kernel
theorem dX4_arrive_38 : decode cX4_arrive 38 = .ok (.fdiv, 1) := by decide +kernel
theorem dX4_arrive_39 : decode cX4_arrive 39 = .ok (.fcmp .g, 1) := by decide +kernel
theorem dX4_arrive_40 : decode cX4_arrive 40 = .ok (.ifCond .gt 7, 3) := by decide +kernel
theorem dX4_arrive_43 : decode cX4_arrive 43 = .ok (.iconst 1, 1) := by decide +kernel
theorem dX4_arrive_44 : decode cX4_arrive 44 = .ok (.goto 4, 3) := by decide +kernel
theorem dX4_arrive_47 : decode cX4_arrive 47 = .ok (.iconst 0, 1) := by decide +kernel
theorem dX4_arrive_48 : decode cX4_arrive 48 = .ok (.istore_n 1, 1) := by decide +kernel
theorem dX4_arrive_49 : decode cX4_arrive 49 = .ok (.aload_n 0, 1) := by decide +kernel
theorem dX4_arrive_50 : decode cX4_arrive 50 = .ok (.iload_n 1, 1) := by decide +kernel
theorem dX4_arrive_51 : decode cX4_arrive 51 = .ok (.ifCond .eq 7, 3) := by decide +kernel
theorem dX4_arrive_54 : decode cX4_arrive 54 = .ok (.iconst 4, 1) := by decide +kernel
theorem dX4_arrive_55 : decode cX4_arrive 55 = .ok (.goto 4, 3) := by decide +kernel
theorem dX4_arrive_58 : decode cX4_arrive 58 = .ok (.iconst 5, 1) := by decide +kernel
theorem dX4_arrive_59 : decode cX4_arrive 59 = .ok (.invokevirtual 88, 3) := by decide +kernel
theorem dX4_arrive_62 : decode cX4_arrive 62 = .ok (.aload_n 0, 1) := by decide +kernel
theorem dX4_arrive_63 : decode cX4_arrive 63 = .ok (.fconst 0, 1) := by decide +kernel
theorem dX4_arrive_64 : decode cX4_arrive 64 = .ok (.putfield 10, 3) := by decide +kernel
theorem dX4_arrive_67 : decode cX4_arrive 67 = .ok (.aload_n 0, 1) := by decide +kernel
theorem dX4_arrive_68 : decode cX4_arrive 68 = .ok (.fconst 0, 1) := by decide +kernel
theorem dX4_arrive_69 : decode cX4_arrive 69 = .ok (.putfield 57, 3) := by decide +kernel
theorem dX4_arrive_72 : decode cX4_arrive 72 = .ok (.aload_n 0, 1) := by decide +kernel
theorem dX4_arrive_73 : decode cX4_arrive 73 = .ok (.fconst 0, 1) := by decide +kernel
theorem dX4_arrive_74 : decode cX4_arrive 74 = .ok (.putfield 60, 3) := by decide +kernel
theorem dX4_arrive_77 : decode cX4_arrive 77 = .ok (.return_, 1) := by decide +kernel
theorem dX4_holdAtStopReached_0 : decode cX4_holdAtStopReached 0 = .ok (.aload_n 0, 1) := by decide +kernel
theorem dX4_holdAtStopReached_1 : decode cX4_holdAtStopReached 1 = .ok (.getfield 57, 3) := by decide +kernel
theorem dX4_holdAtStopReached_4 : decode cX4_holdAtStopReached 4 = .ok (.invokestatic 172, 3) := by decide +kernel
theorem dX4_holdAtStopReached_7 : decode cX4_holdAtStopReached 7 = .ok (.ldc 152, 2) := by decide +kernel
theorem dX4_holdAtStopReached_9 : decode cX4_holdAtStopReached 9 = .ok (.fcmp .g, 1) := by decide +kernel
theorem dX4_holdAtStopReached_10 : decode cX4_holdAtStopReached 10 = .ok (.ifCond .ge 17, 3) := by decide +kernel
theorem dX4_holdAtStopReached_13 : decode cX4_holdAtStopReached 13 = .ok (.aload_n 0, 1) := by decide +kernel
theorem dX4_holdAtStopReached_14 : decode cX4_holdAtStopReached 14 = .ok (.getfield 43, 3) := by decide +kernel
theorem dX4_holdAtStopReached_17 : decode cX4_holdAtStopReached 17 = .ok (.aload_n 0, 1) := by decide +kernel
theorem dX4_holdAtStopReached_18 : decode cX4_holdAtStopReached 18 = .ok (.getfield 10, 3) := by decide +kernel
theorem dX4_holdAtStopReached_21 : decode cX4_holdAtStopReached 21 = .ok (.invokevirtual 175, 3) := by decide +kernel
theorem dX4_holdAtStopReached_24 : decode cX4_holdAtStopReached 24 = .ok (.goto 5, 3) := by decide +kernel
theorem dX4_holdAtStopReached_27 : decode cX4_holdAtStopReached 27 = .ok (.bipush (-5), 2) := by decide +kernel
theorem dX4_holdAtStopReached_29 : decode cX4_holdAtStopReached 29 = .ok (.istore_n 1, 1) := by decide +kernel
theorem dX4_holdAtStopReached_30 : decode cX4_holdAtStopReached 30 = .ok (.aload_n 0, 1) := by decide +kernel
theorem dX4_holdAtStopReached_31 : decode cX4_holdAtStopReached 31 = .ok (.getfield 43, 3) := by decide +kernel
theorem dX4_holdAtStopReached_34 : decode cX4_holdAtStopReached 34 = .ok (.iload_n 1, 1) := by decide +kernel
theorem dX4_holdAtStopReached_35 : decode cX4_holdAtStopReached 35 = .ok (.invokevirtual 164, 3) := by decide +kernel
theorem dX4_holdAtStopReached_38 : decode cX4_holdAtStopReached 38 = .ok (.ifCond .eq 16, 3) := by decide +kernel
theorem dX4_holdAtStopReached_41 : decode cX4_holdAtStopReached 41 = .ok (.aload_n 0, 1) := by decide +kernel
theorem dX4_holdAtStopReached_42 : decode cX4_holdAtStopReached 42 = .ok (.iload_n 1, 1) := by decide +kernel
theorem dX4_holdAtStopReached_43 : decode cX4_holdAtStopReached 43 = .ok (.aload_n 0, 1) := by decide +kernel
theorem dX4_holdAtStopReached_44 : decode cX4_holdAtStopReached 44 = .ok (.getfield 43, 3) := by decide +kernel
theorem dX4_holdAtStopReached_47 : decode cX4_holdAtStopReached 47 = .ok (.iload_n 1, 1) := by decide +kernel
theorem dX4_holdAtStopReached_48 : decode cX4_holdAtStopReached 48 = .ok (.invokevirtual 168, 3) := by decide +kernel
theorem dX4_holdAtStopReached_51 : decode cX4_holdAtStopReached 51 = .ok (.invokevirtual 144, 3) := by decide +kernel
theorem dX4_holdAtStopReached_54 : decode cX4_holdAtStopReached 54 = .ok (.return_, 1) := by decide +kernel
theorem dX4_countStrikes_0 : decode cX4_countStrikes 0 = .ok (.aload_n 0, 1) := by decide +kernel
theorem dX4_countStrikes_1 : decode cX4_countStrikes 1 = .ok (.iload_n 1, 1) := by decide +kernel
theorem dX4_countStrikes_2 : decode cX4_countStrikes 2 = .ok (.ifCond .ne 7, 3) := by decide +kernel
theorem dX4_countStrikes_5 : decode cX4_countStrikes 5 = .ok (.iconst 0, 1) := by decide +kernel
theorem dX4_countStrikes_6 : decode cX4_countStrikes 6 = .ok (.goto 9, 3) := by decide +kernel
theorem dX4_countStrikes_9 : decode cX4_countStrikes 9 = .ok (.aload_n 0, 1) := by decide +kernel
theorem dX4_countStrikes_10 : decode cX4_countStrikes 10 = .ok (.getfield 69, 3) := by decide +kernel
theorem dX4_countStrikes_13 : decode cX4_countStrikes 13 = .ok (.iconst 1, 1) := by decide +kernel
theorem dX4_countStrikes_14 : decode cX4_countStrikes 14 = .ok (.iadd, 1) := by decide +kernel
theorem dX4_countStrikes_15 : decode cX4_countStrikes 15 = .ok (.putfield 69, 3) := by decide +kernel
theorem dX4_countStrikes_18 : decode cX4_countStrikes 18 = .ok (.aload_n 0, 1) := by decide +kernel
theorem dX4_countStrikes_19 : decode cX4_countStrikes 19 = .ok (.getfield 69, 3) := by decide +kernel
theorem dX4_countStrikes_22 : decode cX4_countStrikes 22 = .ok (.iconst 2, 1) := by decide +kernel
theorem dX4_countStrikes_23 : decode cX4_countStrikes 23 = .ok (.if_icmp .ne 23, 3) := by decide +kernel
theorem dX4_countStrikes_26 : decode cX4_countStrikes 26 = .ok (.aload_n 0, 1) := by decide +kernel
theorem dX4_countStrikes_27 : decode cX4_countStrikes 27 = .ok (.iconst 3, 1) := by decide +kernel
theorem dX4_countStrikes_28 : decode cX4_countStrikes 28 = .ok (.invokevirtual 88, 3) := by decide +kernel
theorem dX4_countStrikes_31 : decode cX4_countStrikes 31 = .ok (.aload_n 0, 1) := by decide +kernel
theorem dX4_countStrikes_32 : decode cX4_countStrikes 32 = .ok (.iconst 0, 1) := by decide +kernel
theorem dX4_countStrikes_33 : decode cX4_countStrikes 33 = .ok (.putfield 69, 3) := by decide +kernel
theorem dX4_countStrikes_36 : decode cX4_countStrikes 36 = .ok (.aload_n 0, 1) := by decide +kernel
theorem dX4_countStrikes_37 : decode cX4_countStrikes 37 = .ok (.dup, 1) := by decide +kernel
theorem dX4_countStrikes_38 : decode cX4_countStrikes 38 = .ok (.getfield 75, 3) := by decide +kernel
theorem dX4_countStrikes_41 : decode cX4_countStrikes 41 = .ok (.iconst 1, 1) := by decide +kernel
theorem dX4_countStrikes_42 : decode cX4_countStrikes 42 = .ok (.iadd, 1) := by decide +kernel
theorem dX4_countStrikes_43 : decode cX4_countStrikes 43 = .ok (.putfield 75, 3) := by decide +kernel
theorem dX4_countStrikes_46 : decode cX4_countStrikes 46 = .ok (.return_, 1) := by decide +kernel
theorem dX4_judge_0 : decode cX4_judge 0 = .ok (.iconst 0, 1) := by decide +kernel
theorem dX4_judge_1 : decode cX4_judge 1 = .ok (.istore_n 1, 1) := by decide +kernel
theorem dX4_judge_2 : decode cX4_judge 2 = .ok (.aload_n 0, 1) := by decide +kernel
theorem dX4_judge_3 : decode cX4_judge 3 = .ok (.getfield 54, 3) := by decide +kernel
theorem dX4_judge_6 : decode cX4_judge 6 = .ok (.invokestatic 172, 3) := by decide +kernel
theorem dX4_judge_9 : decode cX4_judge 9 = .ok (.aload_n 0, 1) := by decide +kernel
theorem dX4_judge_10 : decode cX4_judge 10 = .ok (.getfield 10, 3) := by decide +kernel
theorem dX4_judge_13 : decode cX4_judge 13 = .ok (.aload_n 0, 1) := by decide +kernel
theorem dX4_judge_14 : decode cX4_judge 14 = .ok (.getfield 20, 3) := by decide +kernel
theorem dX4_judge_17 : decode cX4_judge 17 = .ok (.iconst 0, 1) := by decide +kernel
theorem dX4_judge_18 : decode cX4_judge 18 = .ok (.iaload, 1) := by decide +kernel
theorem dX4_judge_19 : decode cX4_judge 19 = .ok (.i2f, 1) := by decide +kernel
theorem dX4_judge_20 : decode cX4_judge 20 = .ok (.ldc 151, 2) := by decide +kernel
theorem dX4_judge_22 : decode cX4_judge 22 = .ok (.fdiv, 1) := by decide +kernel
theorem dX4_judge_23 : decode cX4_judge 23 = .ok (.fmul, 1) := by decide +kernel
theorem dX4_judge_24 : decode cX4_judge 24 = .ok (.aload_n 0, 1) := by decide +kernel
theorem dX4_judge_25 : decode cX4_judge 25 = .ok (.getfield 20, 3) := by decide +kernel
theorem dX4_judge_28 : decode cX4_judge 28 = .ok (.iconst 1, 1) := by decide +kernel
theorem dX4_judge_29 : decode cX4_judge 29 = .ok (.iaload, 1) := by decide +kernel
theorem dX4_judge_30 : decode cX4_judge 30 = .ok (.i2f, 1) := by decide +kernel
theorem dX4_judge_31 : decode cX4_judge 31 = .ok (.ldc 9, 2) := by decide +kernel
theorem dX4_judge_33 : decode cX4_judge 33 = .ok (.fdiv, 1) := by decide +kernel
theorem dX4_judge_34 : decode cX4_judge 34 = .ok (.fadd, 1) := by decide +kernel
theorem dX4_judge_35 : decode cX4_judge 35 = .ok (.fcmp .l, 1) := by decide +kernel
theorem dX4_judge_36 : decode cX4_judge 36 = .ok (.ifCond .le 7, 3) := by decide +kernel
theorem dX4_judge_39 : decode cX4_judge 39 = .ok (.iload_n 1, 1) := by decide +kernel
theorem dX4_judge_40 : decode cX4_judge 40 = .ok (.iconst 1, 1) := by decide +kernel
theorem dX4_judge_41 : decode cX4_judge 41 = .ok (.iadd, 1) := by decide +kernel
theorem dX4_judge_42 : decode cX4_judge 42 = .ok (.istore_n 1, 1) := by decide +kernel
theorem dX4_judge_43 : decode cX4_judge 43 = .ok (.aload_n 0, 1) := by decide +kernel
theorem dX4_judge_44 : decode cX4_judge 44 = .ok (.aload_n 0, 1) := by decide +kernel
theorem dX4_judge_45 : decode cX4_judge 45 = .ok (.getfield 57, 3) := by decide +kernel
theorem dX4_judge_48 : decode cX4_judge 48 = .ok (.invokevirtual 178, 3) := by decide +kernel
theorem dX4_judge_51 : decode cX4_judge 51 = .ok (.ifCond .eq 7, 3) := by decide +kernel
theorem dX4_judge_54 : decode cX4_judge 54 = .ok (.iload_n 1, 1) := by decide +kernel
theorem dX4_judge_55 : decode cX4_judge 55 = .ok (.iconst 2, 1) := by decide +kernel
theorem dX4_judge_56 : decode cX4_judge 56 = .ok (.iadd, 1) := by decide +kernel
theorem dX4_judge_57 : decode cX4_judge 57 = .ok (.istore_n 1, 1) := by decide +kernel
theorem dX4_judge_58 : decode cX4_judge 58 = .ok (.aload_n 0, 1) := by decide +kernel
theorem dX4_judge_59 : decode cX4_judge 59 = .ok (.aload_n 0, 1) := by decide +kernel
theorem dX4_judge_60 : decode cX4_judge 60 = .ok (.getfield 57, 3) := by decide +kernel
theorem dX4_judge_63 : decode cX4_judge 63 = .ok (.invokevirtual 182, 3) := by decide +kernel
theorem dX4_judge_66 : decode cX4_judge 66 = .ok (.ifCond .eq 7, 3) := by decide +kernel
theorem dX4_judge_69 : decode cX4_judge 69 = .ok (.iload_n 1, 1) := by decide +kernel
theorem dX4_judge_70 : decode cX4_judge 70 = .ok (.iconst 4, 1) := by decide +kernel
theorem dX4_judge_71 : decode cX4_judge 71 = .ok (.iadd, 1) := by decide +kernel
theorem dX4_judge_72 : decode cX4_judge 72 = .ok (.istore_n 1, 1) := by decide +kernel
theorem dX4_judge_73 : decode cX4_judge 73 = .ok (.iload_n 1, 1) := by decide +kernel
theorem dX4_judge_74 : decode cX4_judge 74 = .ok (.ireturn, 1) := by decide +kernel
theorem dX4_isTooFast_0 : decode cX4_isTooFast 0 = .ok (.fconst 0, 1) := by decide +kernel
theorem dX4_isTooFast_1 : decode cX4_isTooFast 1 = .ok (.fload_n 1, 1) := by decide +kernel
theorem dX4_isTooFast_2 : decode cX4_isTooFast 2 = .ok (.fsub, 1) := by decide +kernel
theorem dX4_isTooFast_3 : decode cX4_isTooFast 3 = .ok (.aload_n 0, 1) := by decide +kernel
theorem dX4_isTooFast_4 : decode cX4_isTooFast 4 = .ok (.getfield 36, 3) := by decide +kernel
theorem dX4_isTooFast_7 : decode cX4_isTooFast 7 = .ok (.aload_n 0, 1) := by decide +kernel
theorem dX4_isTooFast_8 : decode cX4_isTooFast 8 = .ok (.getfield 10, 3) := by decide +kernel
theorem dX4_isTooFast_11 : decode cX4_isTooFast 11 = .ok (.invokevirtual 157, 3) := by decide +kernel
theorem dX4_isTooFast_14 : decode cX4_isTooFast 14 = .ok (.ldc 185, 2) := by decide +kernel
theorem dX4_isTooFast_16 : decode cX4_isTooFast 16 = .ok (.fadd, 1) := by decide +kernel
theorem dX4_isTooFast_17 : decode cX4_isTooFast 17 = .ok (.fcmp .l, 1) := by decide +kernel
theorem dX4_isTooFast_18 : decode cX4_isTooFast 18 = .ok (.ifCond .le 7, 3) := by decide +kernel
theorem dX4_isTooFast_21 : decode cX4_isTooFast 21 = .ok (.iconst 1, 1) := by decide +kernel
theorem dX4_isTooFast_22 : decode cX4_isTooFast 22 = .ok (.goto 4, 3) := by decide +kernel
theorem dX4_isTooFast_25 : decode cX4_isTooFast 25 = .ok (.iconst 0, 1) := by decide +kernel
theorem dX4_isTooFast_26 : decode cX4_isTooFast 26 = .ok (.ireturn, 1) := by decide +kernel
theorem dX4_hasUnsafeDrift_0 : decode cX4_hasUnsafeDrift 0 = .ok (.aload_n 0, 1) := by decide +kernel
theorem dX4_hasUnsafeDrift_1 : decode cX4_hasUnsafeDrift 1 = .ok (.getfield 20, 3) := by decide +kernel
theorem dX4_hasUnsafeDrift_4 : decode cX4_hasUnsafeDrift 4 = .ok (.iconst 0, 1) := by decide +kernel
theorem dX4_hasUnsafeDrift_5 : decode cX4_hasUnsafeDrift 5 = .ok (.iaload, 1) := by decide +kernel
theorem dX4_hasUnsafeDrift_6 : decode cX4_hasUnsafeDrift 6 = .ok (.i2f, 1) := by decide +kernel
theorem dX4_hasUnsafeDrift_7 : decode cX4_hasUnsafeDrift 7 = .ok (.ldc 151, 2) := by decide +kernel
theorem dX4_hasUnsafeDrift_9 : decode cX4_hasUnsafeDrift 9 = .ok (.fdiv, 1) := by decide +kernel
theorem dX4_hasUnsafeDrift_10 : decode cX4_hasUnsafeDrift 10 = .ok (.fstore_n 2, 1) := by decide +kernel
theorem dX4_hasUnsafeDrift_11 : decode cX4_hasUnsafeDrift 11 = .ok (.aload_n 0, 1) := by decide +kernel
theorem dX4_hasUnsafeDrift_12 : decode cX4_hasUnsafeDrift 12 = .ok (.getfield 20, 3) := by decide +kernel
theorem dX4_hasUnsafeDrift_15 : decode cX4_hasUnsafeDrift 15 = .ok (.iconst 1, 1) := by decide +kernel
theorem dX4_hasUnsafeDrift_16 : decode cX4_hasUnsafeDrift 16 = .ok (.iaload, 1) := by decide +kernel
theorem dX4_hasUnsafeDrift_17 : decode cX4_hasUnsafeDrift 17 = .ok (.i2f, 1) := by decide +kernel
theorem dX4_hasUnsafeDrift_18 : decode cX4_hasUnsafeDrift 18 = .ok (.ldc 9, 2) := by decide +kernel
theorem dX4_hasUnsafeDrift_20 : decode cX4_hasUnsafeDrift 20 = .ok (.fdiv, 1) := by decide +kernel
theorem dX4_hasUnsafeDrift_21 : decode cX4_hasUnsafeDrift 21 = .ok (.fstore_n 3, 1) := by decide +kernel
theorem dX4_hasUnsafeDrift_22 : decode cX4_hasUnsafeDrift 22 = .ok (.aload_n 0, 1) := by decide +kernel
theorem dX4_hasUnsafeDrift_23 : decode cX4_hasUnsafeDrift 23 = .ok (.getfield 20, 3) := by decide +kernel
theorem dX4_hasUnsafeDrift_26 : decode cX4_hasUnsafeDrift 26 = .ok (.iconst 2, 1) := by decide +kernel
theorem dX4_hasUnsafeDrift_27 : decode cX4_hasUnsafeDrift 27 = .ok (.iaload, 1) := by decide +kernel
theorem dX4_hasUnsafeDrift_28 : decode cX4_hasUnsafeDrift 28 = .ok (.i2f, 1) := by decide +kernel
theorem dX4_hasUnsafeDrift_29 : decode cX4_hasUnsafeDrift 29 = .ok (.ldc 9, 2) := by decide +kernel
theorem dX4_hasUnsafeDrift_31 : decode cX4_hasUnsafeDrift 31 = .ok (.fdiv, 1) := by decide +kernel
theorem dX4_hasUnsafeDrift_32 : decode cX4_hasUnsafeDrift 32 = .ok (.fstore 4, 2) := by decide +kernel
theorem dX4_hasUnsafeDrift_34 : decode cX4_hasUnsafeDrift 34 = .ok (.fload 4, 2) := by decide +kernel
theorem dX4_hasUnsafeDrift_36 : decode cX4_hasUnsafeDrift 36 = .ok (.fload 4, 2) := by decide +kernel
theorem dX4_hasUnsafeDrift_38 : decode cX4_hasUnsafeDrift 38 = .ok (.fmul, 1) := by decide +kernel
theorem dX4_hasUnsafeDrift_39 : decode cX4_hasUnsafeDrift 39 = .ok (.fstore 5, 2) := by decide +kernel
theorem dX4_hasUnsafeDrift_41 : decode cX4_hasUnsafeDrift 41 = .ok (.aload_n 0, 1) := by decide +kernel
theorem dX4_hasUnsafeDrift_42 : decode cX4_hasUnsafeDrift 42 = .ok (.getfield 10, 3) := by decide +kernel
theorem dX4_hasUnsafeDrift_45 : decode cX4_hasUnsafeDrift 45 = .ok (.fstore 6, 2) := by decide +kernel
theorem dX4_hasUnsafeDrift_47 : decode cX4_hasUnsafeDrift 47 = .ok (.aload_n 0, 1) := by decide +kernel
theorem dX4_hasUnsafeDrift_48 : decode cX4_hasUnsafeDrift 48 = .ok (.getfield 54, 3) := by decide +kernel
theorem dX4_hasUnsafeDrift_51 : decode cX4_hasUnsafeDrift 51 = .ok (.fstore 7, 2) := by decide +kernel
theorem dX4_hasUnsafeDrift_53 : decode cX4_hasUnsafeDrift 53 = .ok (.iconst 0, 1) := by decide +kernel
theorem dX4_hasUnsafeDrift_54 : decode cX4_hasUnsafeDrift 54 = .ok (.istore 8, 2) := by decide +kernel
theorem dX4_hasUnsafeDrift_56 : decode cX4_hasUnsafeDrift 56 = .ok (.iload 8, 2) := by decide +kernel
theorem dX4_hasUnsafeDrift_58 : decode cX4_hasUnsafeDrift 58 = .ok (.aload_n 0, 1) := by decide +kernel
theorem dX4_hasUnsafeDrift_59 : decode cX4_hasUnsafeDrift 59 = .ok (.getfield 20, 3) := by decide +kernel
theorem dX4_hasUnsafeDrift_62 : decode cX4_hasUnsafeDrift 62 = .ok (.bipush 6, 2) := by decide +kernel
theorem dX4_hasUnsafeDrift_64 : decode cX4_hasUnsafeDrift 64 = .ok (.iaload, 1) := by decide +kernel
theorem dX4_hasUnsafeDrift_65 : decode cX4_hasUnsafeDrift 65 = .ok (.if_icmp .ge 65, 3) := by decide +kernel
theorem dX4_hasUnsafeDrift_68 : decode cX4_hasUnsafeDrift 68 = .ok (.fload 6, 2) := by decide +kernel
theorem dX4_hasUnsafeDrift_70 : decode cX4_hasUnsafeDrift 70 = .ok (.fload_n 1, 1) := by decide +kernel
theorem dX4_hasUnsafeDrift_71 : decode cX4_hasUnsafeDrift 71 = .ok (.fadd, 1) := by decide +kernel
theorem dX4_hasUnsafeDrift_72 : decode cX4_hasUnsafeDrift 72 = .ok (.fstore 6, 2) := by decide +kernel
theorem dX4_hasUnsafeDrift_74 : decode cX4_hasUnsafeDrift 74 = .ok (.fload 7, 2) := by decide +kernel
theorem dX4_hasUnsafeDrift_76 : decode cX4_hasUnsafeDrift 76 = .ok (.aload_n 0, 1) := by decide +kernel
theorem dX4_hasUnsafeDrift_77 : decode cX4_hasUnsafeDrift 77 = .ok (.getfield 60, 3) := by decide +kernel
theorem dX4_hasUnsafeDrift_80 : decode cX4_hasUnsafeDrift 80 = .ok (.fadd, 1) := by decide +kernel
theorem dX4_hasUnsafeDrift_81 : decode cX4_hasUnsafeDrift 81 = .ok (.fstore 7, 2) := by decide +kernel
theorem dX4_hasUnsafeDrift_83 : decode cX4_hasUnsafeDrift 83 = .ok (.fload 6, 2) := by decide +kernel
theorem dX4_hasUnsafeDrift_85 : decode cX4_hasUnsafeDrift 85 = .ok (.fload 6, 2) := by decide +kernel
theorem dX4_hasUnsafeDrift_87 : decode cX4_hasUnsafeDrift 87 = .ok (.fmul, 1) := by decide +kernel
theorem dX4_hasUnsafeDrift_88 : decode cX4_hasUnsafeDrift 88 = .ok (.fload 7, 2) := by decide +kernel
theorem dX4_hasUnsafeDrift_90 : decode cX4_hasUnsafeDrift 90 = .ok (.fload 7, 2) := by decide +kernel
theorem dX4_hasUnsafeDrift_92 : decode cX4_hasUnsafeDrift 92 = .ok (.fmul, 1) := by decide +kernel
theorem dX4_hasUnsafeDrift_93 : decode cX4_hasUnsafeDrift 93 = .ok (.fadd, 1) := by decide +kernel
theorem dX4_hasUnsafeDrift_94 : decode cX4_hasUnsafeDrift 94 = .ok (.fload 5, 2) := by decide +kernel
theorem dX4_hasUnsafeDrift_96 : decode cX4_hasUnsafeDrift 96 = .ok (.fcmp .g, 1) := by decide +kernel
theorem dX4_hasUnsafeDrift_97 : decode cX4_hasUnsafeDrift 97 = .ok (.ifCond .ge 27, 3) := by decide +kernel
theorem dX4_hasUnsafeDrift_100 : decode cX4_hasUnsafeDrift 100 = .ok (.fload 7, 2) := by decide +kernel
theorem dX4_hasUnsafeDrift_102 : decode cX4_hasUnsafeDrift 102 = .ok (.invokestatic 172, 3) := by decide +kernel
theorem dX4_hasUnsafeDrift_105 : decode cX4_hasUnsafeDrift 105 = .ok (.fload 6, 2) := by decide +kernel
theorem dX4_hasUnsafeDrift_107 : decode cX4_hasUnsafeDrift 107 = .ok (.fload_n 2, 1) := by decide +kernel
theorem dX4_hasUnsafeDrift_108 : decode cX4_hasUnsafeDrift 108 = .ok (.fmul, 1) := by decide +kernel
theorem dX4_hasUnsafeDrift_109 : decode cX4_hasUnsafeDrift 109 = .ok (.fload_n 3, 1) := by decide +kernel
theorem dX4_hasUnsafeDrift_110 : decode cX4_hasUnsafeDrift 110 = .ok (.fadd, 1) := by decide +kernel
theorem dX4_hasUnsafeDrift_111 : decode cX4_hasUnsafeDrift 111 = .ok (.fcmp .l, 1) := by decide +kernel
theorem dX4_hasUnsafeDrift_112 : decode cX4_hasUnsafeDrift 112 = .ok (.ifCond .gt 10, 3) := by decide +kernel
theorem dX4_hasUnsafeDrift_115 : decode cX4_hasUnsafeDrift 115 = .ok (.fload 6, 2) := by decide +kernel
theorem dX4_hasUnsafeDrift_117 : decode cX4_hasUnsafeDrift 117 = .ok (.fconst 0, 1) := by decide +kernel
theorem dX4_hasUnsafeDrift_118 : decode cX4_hasUnsafeDrift 118 = .ok (.fcmp .g, 1) := by decide +kernel
theorem dX4_hasUnsafeDrift_119 : decode cX4_hasUnsafeDrift 119 = .ok (.ifCond .ge 5, 3) := by decide +kernel
theorem dX4_hasUnsafeDrift_122 : decode cX4_hasUnsafeDrift 122 = .ok (.iconst 1, 1) := by decide +kernel
theorem dX4_hasUnsafeDrift_123 : decode cX4_hasUnsafeDrift 123 = .ok (.ireturn, 1) := by decide +kernel
theorem dX4_hasUnsafeDrift_124 : decode cX4_hasUnsafeDrift 124 = .ok (.iinc 8 1, 3) := by decide +kernel
theorem dX4_hasUnsafeDrift_127 : decode cX4_hasUnsafeDrift 127 = .ok (.goto (-71), 3) := by decide +kernel
theorem dX4_hasUnsafeDrift_130 : decode cX4_hasUnsafeDrift 130 = .ok (.iconst 0, 1) := by decide +kernel
theorem dX4_hasUnsafeDrift_131 : decode cX4_hasUnsafeDrift 131 = .ok (.ireturn, 1) := by decide +kernel
theorem dX4_leastSquare_0 : decode cX4_leastSquare 0 = .ok (.aload_n 0, 1) := by decide +kernel
theorem dX4_leastSquare_1 : decode cX4_leastSquare 1 = .ok (.getfield 10, 3) := by decide +kernel
theorem dX4_leastSquare_4 : decode cX4_leastSquare 4 = .ok (.fstore_n 2, 1) := by decide +kernel
theorem dX4_leastSquare_5 : decode cX4_leastSquare 5 = .ok (.aload_n 0, 1) := by decide +kernel
theorem dX4_leastSquare_6 : decode cX4_leastSquare 6 = .ok (.getfield 54, 3) := by decide +kernel
theorem dX4_leastSquare_9 : decode cX4_leastSquare 9 = .ok (.fstore_n 3, 1) := by decide +kernel
theorem dX4_leastSquare_10 : decode cX4_leastSquare 10 = .ok (.fload_n 2, 1) := by decide +kernel
theorem dX4_leastSquare_11 : decode cX4_leastSquare 11 = .ok (.fload_n 2, 1) := by decide +kernel
theorem dX4_leastSquare_12 : decode cX4_leastSquare 12 = .ok (.fmul, 1) := by decide +kernel
theorem dX4_leastSquare_13 : decode cX4_leastSquare 13 = .ok (.fload_n 3, 1) := by decide +kernel
theorem dX4_leastSquare_14 : decode cX4_leastSquare 14 = .ok (.fload_n 3, 1) := by decide +kernel
theorem dX4_leastSquare_15 : decode cX4_leastSquare 15 = .ok (.fmul, 1) := by decide +kernel
theorem dX4_leastSquare_16 : decode cX4_leastSquare 16 = .ok (.fadd, 1) := by decide +kernel
theorem dX4_leastSquare_17 : decode cX4_leastSquare 17 = .ok (.fstore 4, 2) := by decide +kernel
theorem dX4_leastSquare_19 : decode cX4_leastSquare 19 = .ok (.iconst 0, 1) := by decide +kernel
theorem dX4_leastSquare_20 : decode cX4_leastSquare 20 = .ok (.istore 5, 2) := by decide +kernel
theorem dX4_leastSquare_22 : decode cX4_leastSquare 22 = .ok (.iload 5, 2) := by decide +kernel
theorem dX4_leastSquare_24 : decode cX4_leastSquare 24 = .ok (.iload_n 1, 1) := by decide +kernel
theorem dX4_leastSquare_25 : decode cX4_leastSquare 25 = .ok (.if_icmp .ge 49, 3) := by decide +kernel
theorem dX4_leastSquare_28 : decode cX4_leastSquare 28 = .ok (.fload_n 2, 1) := by decide +kernel
theorem dX4_leastSquare_29 : decode cX4_leastSquare 29 = .ok (.aload_n 0, 1) := by decide +kernel
theorem dX4_leastSquare_30 : decode cX4_leastSquare 30 = .ok (.getfield 57, 3) := by decide +kernel
theorem dX4_leastSquare_33 : decode cX4_leastSquare 33 = .ok (.fadd, 1) := by decide +kernel
theorem dX4_leastSquare_34 : decode cX4_leastSquare 34 = .ok (.fstore_n 2, 1) := by decide +kernel
theorem dX4_leastSquare_35 : decode cX4_leastSquare 35 = .ok (.fload_n 3, 1) := by decide +kernel
theorem dX4_leastSquare_36 : decode cX4_leastSquare 36 = .ok (.aload_n 0, 1) := by decide +kernel
theorem dX4_leastSquare_37 : decode cX4_leastSquare 37 = .ok (.getfield 60, 3) := by decide +kernel
theorem dX4_leastSquare_40 : decode cX4_leastSquare 40 = .ok (.fadd, 1) := by decide +kernel
theorem dX4_leastSquare_41 : decode cX4_leastSquare 41 = .ok (.fstore_n 3, 1) := by decide +kernel
theorem dX4_leastSquare_42 : decode cX4_leastSquare 42 = .ok (.fload_n 2, 1) := by decide +kernel
theorem dX4_leastSquare_43 : decode cX4_leastSquare 43 = .ok (.fload_n 2, 1) := by decide +kernel
theorem dX4_leastSquare_44 : decode cX4_leastSquare 44 = .ok (.fmul, 1) := by decide +kernel
theorem dX4_leastSquare_45 : decode cX4_leastSquare 45 = .ok (.fload_n 3, 1) := by decide +kernel
theorem dX4_leastSquare_46 : decode cX4_leastSquare 46 = .ok (.fload_n 3, 1) := by decide +kernel
theorem dX4_leastSquare_47 : decode cX4_leastSquare 47 = .ok (.fmul, 1) := by decide +kernel
theorem dX4_leastSquare_48 : decode cX4_leastSquare 48 = .ok (.fadd, 1) := by decide +kernel
theorem dX4_leastSquare_49 : decode cX4_leastSquare 49 = .ok (.fstore 6, 2) := by decide +kernel
theorem dX4_leastSquare_51 : decode cX4_leastSquare 51 = .ok (.fload 6, 2) := by decide +kernel
theorem dX4_leastSquare_53 : decode cX4_leastSquare 53 = .ok (.fload 4, 2) := by decide +kernel
theorem dX4_leastSquare_55 : decode cX4_leastSquare 55 = .ok (.fcmp .g, 1) := by decide +kernel
theorem dX4_leastSquare_56 : decode cX4_leastSquare 56 = .ok (.ifCond .ge 8, 3) := by decide +kernel
theorem dX4_leastSquare_59 : decode cX4_leastSquare 59 = .ok (.fload 6, 2) := by decide +kernel
theorem dX4_leastSquare_61 : decode cX4_leastSquare 61 = .ok (.goto 5, 3) := by decide +kernel
theorem dX4_leastSquare_64 : decode cX4_leastSquare 64 = .ok (.fload 4, 2) := by decide +kernel
theorem dX4_leastSquare_66 : decode cX4_leastSquare 66 = .ok (.fstore 4, 2) := by decide +kernel
theorem dX4_leastSquare_68 : decode cX4_leastSquare 68 = .ok (.iinc 5 1, 3) := by decide +kernel
theorem dX4_leastSquare_71 : decode cX4_leastSquare 71 = .ok (.goto (-49), 3) := by decide +kernel
theorem dX4_leastSquare_74 : decode cX4_leastSquare 74 = .ok (.fload 4, 2) := by decide +kernel
theorem dX4_leastSquare_76 : decode cX4_leastSquare 76 = .ok (.freturn, 1) := by decide +kernel
theorem dX5_init_0 : decode cX5_init 0 = .ok (.aload_n 0, 1) := by decide +kernel
theorem dX5_init_1 : decode cX5_init 1 = .ok (.invokespecial 3, 3) := by decide +kernel
theorem dX5_init_4 : decode cX5_init 4 = .ok (.aload_n 0, 1) := by decide +kernel
theorem dX5_init_5 : decode cX5_init 5 = .ok (.iconst 4, 1) := by decide +kernel
theorem dX5_init_6 : decode cX5_init 6 = .ok (.newarray .int, 2) := by decide +kernel
theorem dX5_init_8 : decode cX5_init 8 = .ok (.putfield 9, 3) := by decide +kernel
theorem dX5_init_11 : decode cX5_init 11 = .ok (.aload_n 0, 1) := by decide +kernel
theorem dX5_init_12 : decode cX5_init 12 = .ok (.iconst 4, 1) := by decide +kernel
theorem dX5_init_13 : decode cX5_init 13 = .ok (.newarray .boolean, 2) := by decide +kernel
theorem dX5_init_15 : decode cX5_init 15 = .ok (.putfield 15, 3) := by decide +kernel
theorem dX5_init_18 : decode cX5_init 18 = .ok (.return_, 1) := by decide +kernel
theorem dX5_copyFrom_0 : decode cX5_copyFrom 0 = .ok (.aload_n 0, 1) := by decide +kernel
theorem dX5_copyFrom_1 : decode cX5_copyFrom 1 = .ok (.aload_n 1, 1) := by decide +kernel
theorem dX5_copyFrom_2 : decode cX5_copyFrom 2 = .ok (.getfield 19, 3) := by decide +kernel
theorem dX5_copyFrom_5 : decode cX5_copyFrom 5 = .ok (.putfield 19, 3) := by decide +kernel
theorem dX5_copyFrom_8 : decode cX5_copyFrom 8 = .ok (.iconst 0, 1) := by decide +kernel
theorem dX5_copyFrom_9 : decode cX5_copyFrom 9 = .ok (.istore_n 2, 1) := by decide +kernel
theorem dX5_copyFrom_10 : decode cX5_copyFrom 10 = .ok (.iload_n 2, 1) := by decide +kernel
theorem dX5_copyFrom_11 : decode cX5_copyFrom 11 = .ok (.iconst 4, 1) := by decide +kernel
theorem dX5_copyFrom_12 : decode cX5_copyFrom 12 = .ok (.if_icmp .ge 33, 3) := by decide +kernel
theorem dX5_copyFrom_15 : decode cX5_copyFrom 15 = .ok (.aload_n 0, 1) := by decide +kernel
theorem dX5_copyFrom_16 : decode cX5_copyFrom 16 = .ok (.getfield 9, 3) := by decide +kernel
theorem dX5_copyFrom_19 : decode cX5_copyFrom 19 = .ok (.iload_n 2, 1) := by decide +kernel
theorem dX5_copyFrom_20 : decode cX5_copyFrom 20 = .ok (.aload_n 1, 1) := by decide +kernel
theorem dX5_copyFrom_21 : decode cX5_copyFrom 21 = .ok (.getfield 9, 3) := by decide +kernel
theorem dX5_copyFrom_24 : decode cX5_copyFrom 24 = .ok (.iload_n 2, 1) := by decide +kernel
theorem dX5_copyFrom_25 : decode cX5_copyFrom 25 = .ok (.iaload, 1) := by decide +kernel
theorem dX5_copyFrom_26 : decode cX5_copyFrom 26 = .ok (.iastore, 1) := by decide +kernel
theorem dX5_copyFrom_27 : decode cX5_copyFrom 27 = .ok (.aload_n 0, 1) := by decide +kernel
theorem dX5_copyFrom_28 : decode cX5_copyFrom 28 = .ok (.getfield 15, 3) := by decide +kernel
theorem dX5_copyFrom_31 : decode cX5_copyFrom 31 = .ok (.iload_n 2, 1) := by decide +kernel
theorem dX5_copyFrom_32 : decode cX5_copyFrom 32 = .ok (.aload_n 1, 1) := by decide +kernel
theorem dX5_copyFrom_33 : decode cX5_copyFrom 33 = .ok (.getfield 15, 3) := by decide +kernel
theorem dX5_copyFrom_36 : decode cX5_copyFrom 36 = .ok (.iload_n 2, 1) := by decide +kernel
theorem dX5_copyFrom_37 : decode cX5_copyFrom 37 = .ok (.baload, 1) := by decide +kernel
theorem dX5_copyFrom_38 : decode cX5_copyFrom 38 = .ok (.bastore, 1) := by decide +kernel
theorem dX5_copyFrom_39 : decode cX5_copyFrom 39 = .ok (.iinc 2 1, 3) := by decide +kernel
theorem dX5_copyFrom_42 : decode cX5_copyFrom 42 = .ok (.goto (-32), 3) := by decide +kernel
theorem dX5_copyFrom_45 : decode cX5_copyFrom 45 = .ok (.return_, 1) := by decide +kernel
theorem dX5_has_0 : decode cX5_has 0 = .ok (.iload_n 1, 1) := by decide +kernel
theorem dX5_has_1 : decode cX5_has 1 = .ok (.ifCond .lt 15, 3) := by decide +kernel
theorem dX5_has_4 : decode cX5_has 4 = .ok (.iload_n 1, 1) := by decide +kernel
theorem dX5_has_5 : decode cX5_has 5 = .ok (.aload_n 0, 1) := by decide +kernel
theorem dX5_has_6 : decode cX5_has 6 = .ok (.getfield 19, 3) := by decide +kernel
theorem dX5_has_9 : decode cX5_has 9 = .ok (.if_icmp .ge 7, 3) := by decide +kernel
theorem dX5_has_12 : decode cX5_has 12 = .ok (.iconst 1, 1) := by decide +kernel
theorem dX5_has_13 : decode cX5_has 13 = .ok (.goto 4, 3) := by decide +kernel
theorem dX5_has_16 : decode cX5_has 16 = .ok (.iconst 0, 1) := by decide +kernel
theorem dX5_has_17 : decode cX5_has 17 = .ok (.ireturn, 1) := by decide +kernel
theorem dX5_metres_0 : decode cX5_metres 0 = .ok (.aload_n 0, 1) := by decide +kernel
theorem dX5_metres_1 : decode cX5_metres 1 = .ok (.getfield 9, 3) := by decide +kernel
theorem dX5_metres_4 : decode cX5_metres 4 = .ok (.iload_n 1, 1) := by decide +kernel
theorem dX5_metres_5 : decode cX5_metres 5 = .ok (.iaload, 1) := by decide +kernel
theorem dX5_metres_6 : decode cX5_metres 6 = .ok (.i2f, 1) := by decide +kernel
theorem dX5_metres_7 : decode cX5_metres 7 = .ok (.ldc 23, 2) := by decide +kernel
theorem dX5_metres_9 : decode cX5_metres 9 = .ok (.fdiv, 1) := by decide +kernel
theorem dX5_metres_10 : decode cX5_metres 10 = .ok (.freturn, 1) := by decide +kernel
theorem dX5_addClosed_0 : decode cX5_addClosed 0 = .ok (.aload_n 0, 1) := by decide +kernel
theorem dX5_addClosed_1 : decode cX5_addClosed 1 = .ok (.getfield 19, 3) := by decide +kernel
theorem dX5_addClosed_4 : decode cX5_addClosed 4 = .ok (.istore_n 2, 1) := by decide +kernel
theorem dX5_addClosed_5 : decode cX5_addClosed 5 = .ok (.aload_n 0, 1) := by decide +kernel
theorem dX5_addClosed_6 : decode cX5_addClosed 6 = .ok (.getfield 9, 3) := by decide +kernel
theorem dX5_addClosed_9 : decode cX5_addClosed 9 = .ok (.iload_n 2, 1) := by decide +kernel
theorem dX5_addClosed_10 : decode cX5_addClosed 10 = .ok (.iload_n 1, 1) := by decide +kernel
theorem dX5_addClosed_11 : decode cX5_addClosed 11 = .ok (.iastore, 1) := by decide +kernel
theorem dX5_addClosed_12 : decode cX5_addClosed 12 = .ok (.aload_n 0, 1) := by decide +kernel
theorem dX5_addClosed_13 : decode cX5_addClosed 13 = .ok (.getfield 15, 3) := by decide +kernel
theorem dX5_addClosed_16 : decode cX5_addClosed 16 = .ok (.iload_n 2, 1) := by decide +kernel
theorem dX5_addClosed_17 : decode cX5_addClosed 17 = .ok (.iconst 0, 1) := by decide +kernel
theorem dX5_addClosed_18 : decode cX5_addClosed 18 = .ok (.bastore, 1) := by decide +kernel
theorem dX5_addClosed_19 : decode cX5_addClosed 19 = .ok (.aload_n 0, 1) := by decide +kernel
theorem dX5_addClosed_20 : decode cX5_addClosed 20 = .ok (.dup, 1) := by decide +kernel
theorem dX5_addClosed_21 : decode cX5_addClosed 21 = .ok (.getfield 19, 3) := by decide +kernel
theorem dX5_addClosed_24 : decode cX5_addClosed 24 = .ok (.iconst 1, 1) := by decide +kernel
theorem dX5_addClosed_25 : decode cX5_addClosed 25 = .ok (.iadd, 1) := by decide +kernel
theorem dX5_addClosed_26 : decode cX5_addClosed 26 = .ok (.putfield 19, 3) := by decide +kernel
theorem dX5_addClosed_29 : decode cX5_addClosed 29 = .ok (.iload_n 2, 1) := by decide +kernel
theorem dX5_addClosed_30 : decode cX5_addClosed 30 = .ok (.ireturn, 1) := by decide +kernel
theorem dX5_errorOfOpening_0 : decode cX5_errorOfOpening 0 = .ok (.aload_n 0, 1) := by decide +kernel
theorem dX5_errorOfOpening_1 : decode cX5_errorOfOpening 1 = .ok (.iload_n 1, 1) := by decide +kernel
theorem dX5_errorOfOpening_2 : decode cX5_errorOfOpening 2 = .ok (.invokevirtual 24, 3) := by decide +kernel
theorem dX5_errorOfOpening_5 : decode cX5_errorOfOpening 5 = .ok (.ifCond .ne 5, 3) := by decide +kernel
theorem dX5_errorOfOpening_8 : decode cX5_errorOfOpening 8 = .ok (.iconst (-1), 1) := by decide +kernel
theorem dX5_errorOfOpening_9 : decode cX5_errorOfOpening 9 = .ok (.ireturn, 1) := by decide +kernel
theorem dX5_errorOfOpening_10 : decode cX5_errorOfOpening 10 = .ok (.aload_n 0, 1) := by decide +kernel
theorem dX5_errorOfOpening_11 : decode cX5_errorOfOpening 11 = .ok (.getfield 15, 3) := by decide +kernel
theorem dX5_errorOfOpening_14 : decode cX5_errorOfOpening 14 = .ok (.iload_n 1, 1) := by decide +kernel
theorem dX5_errorOfOpening_15 : decode cX5_errorOfOpening 15 = .ok (.baload, 1) := by decide +kernel
theorem dX5_errorOfOpening_16 : decode cX5_errorOfOpening 16 = .ok (.ifCond .eq 8, 3) := by decide +kernel
theorem dX5_errorOfOpening_19 : decode cX5_errorOfOpening 19 = .ok (.bipush (-3), 2) := by decide +kernel
theorem dX5_errorOfOpening_21 : decode cX5_errorOfOpening 21 = .ok (.goto 4, 3) := by decide +kernel
theorem dX5_errorOfOpening_24 : decode cX5_errorOfOpening 24 = .ok (.iconst 0, 1) := by decide +kernel
theorem dX5_errorOfOpening_25 : decode cX5_errorOfOpening 25 = .ok (.ireturn, 1) := by decide +kernel
theorem dX5_markOpen_0 : decode cX5_markOpen 0 = .ok (.aload_n 0, 1) := by decide +kernel
theorem dX5_markOpen_1 : decode cX5_markOpen 1 = .ok (.getfield 15, 3) := by decide +kernel
theorem dX5_markOpen_4 : decode cX5_markOpen 4 = .ok (.iload_n 1, 1) := by decide +kernel
theorem dX5_markOpen_5 : decode cX5_markOpen 5 = .ok (.iconst 1, 1) := by decide +kernel
theorem dX5_markOpen_6 : decode cX5_markOpen 6 = .ok (.bastore, 1) := by decide +kernel
theorem dX5_markOpen_7 : decode cX5_markOpen 7 = .ok (.return_, 1) := by decide +kernel
theorem dX5_countClosed_0 : decode cX5_countClosed 0 = .ok (.iconst 0, 1) := by decide +kernel
theorem dX5_countClosed_1 : decode cX5_countClosed 1 = .ok (.istore_n 1, 1) := by decide +kernel
theorem dX5_countClosed_2 : decode cX5_countClosed 2 = .ok (.iconst 0, 1) := by decide +kernel
theorem dX5_countClosed_3 : decode cX5_countClosed 3 = .ok (.istore_n 2, 1) := by decide +kernel
theorem dX5_countClosed_4 : decode cX5_countClosed 4 = .ok (.iload_n 2, 1) := by decide +kernel
theorem dX5_countClosed_5 : decode cX5_countClosed 5 = .ok (.aload_n 0, 1) := by decide +kernel
theorem dX5_countClosed_6 : decode cX5_countClosed 6 = .ok (.getfield 19, 3) := by decide +kernel
theorem dX5_countClosed_9 : decode cX5_countClosed 9 = .ok (.if_icmp .ge 21, 3) := by decide +kernel
theorem dX5_countClosed_12 : decode cX5_countClosed 12 = .ok (.aload_n 0, 1) := by decide +kernel
theorem dX5_countClosed_13 : decode cX5_countClosed 13 = .ok (.getfield 15, 3) := by decide +kernel
theorem dX5_countClosed_16 : decode cX5_countClosed 16 = .ok (.iload_n 2, 1) := by decide +kernel
theorem dX5_countClosed_17 : decode cX5_countClosed 17 = .ok (.baload, 1) := by decide +kernel
theorem dX5_countClosed_18 : decode cX5_countClosed 18 = .ok (.ifCond .ne 6, 3) := by decide +kernel
theorem dX5_countClosed_21 : decode cX5_countClosed 21 = .ok (.iinc 1 1, 3) := by decide +kernel
theorem dX5_countClosed_24 : decode cX5_countClosed 24 = .ok (.iinc 2 1, 3) := by decide +kernel
theorem dX5_countClosed_27 : decode cX5_countClosed 27 = .ok (.goto (-23), 3) := by decide +kernel
theorem dX5_countClosed_30 : decode cX5_countClosed 30 = .ok (.iload_n 1, 1) := by decide +kernel
theorem dX5_countClosed_31 : decode cX5_countClosed 31 = .ok (.ireturn, 1) := by decide +kernel
theorem dX5_nextBelow_0 : decode cX5_nextBelow 0 = .ok (.bipush (-5), 2) := by decide +kernel
theorem dX5_nextBelow_2 : decode cX5_nextBelow 2 = .ok (.istore_n 2, 1) := by decide +kernel
theorem dX5_nextBelow_3 : decode cX5_nextBelow 3 = .ok (.iconst 0, 1) := by decide +kernel
theorem dX5_nextBelow_4 : decode cX5_nextBelow 4 = .ok (.istore_n 3, 1) := by decide +kernel
theorem dX5_nextBelow_5 : decode cX5_nextBelow 5 = .ok (.iconst 0, 1) := by decide +kernel
theorem dX5_nextBelow_6 : decode cX5_nextBelow 6 = .ok (.istore 4, 2) := by decide +kernel
theorem dX5_nextBelow_8 : decode cX5_nextBelow 8 = .ok (.iload 4, 2) := by decide +kernel
theorem dX5_nextBelow_10 : decode cX5_nextBelow 10 = .ok (.aload_n 0, 1) := by decide +kernel
theorem dX5_nextBelow_11 : decode cX5_nextBelow 11 = .ok (.getfield 19, 3) := by decide +kernel
theorem dX5_nextBelow_14 : decode cX5_nextBelow 14 = .ok (.if_icmp .ge 52, 3) := by decide +kernel
theorem dX5_nextBelow_17 : decode cX5_nextBelow 17 = .ok (.aload_n 0, 1) := by decide +kernel
theorem dX5_nextBelow_18 : decode cX5_nextBelow 18 = .ok (.getfield 15, 3) := by decide +kernel
theorem dX5_nextBelow_21 : decode cX5_nextBelow 21 = .ok (.iload 4, 2) := by decide +kernel
theorem dX5_nextBelow_23 : decode cX5_nextBelow 23 = .ok (.baload, 1) := by decide +kernel
theorem dX5_nextBelow_24 : decode cX5_nextBelow 24 = .ok (.ifCond .ne 36, 3) := by decide +kernel
theorem dX5_nextBelow_27 : decode cX5_nextBelow 27 = .ok (.aload_n 0, 1) := by decide +kernel
theorem dX5_nextBelow_28 : decode cX5_nextBelow 28 = .ok (.getfield 9, 3) := by decide +kernel
theorem dX5_nextBelow_31 : decode cX5_nextBelow 31 = .ok (.iload 4, 2) := by decide +kernel
theorem dX5_nextBelow_33 : decode cX5_nextBelow 33 = .ok (.iaload, 1) := by decide +kernel
theorem dX5_nextBelow_34 : decode cX5_nextBelow 34 = .ok (.iload_n 3, 1) := by decide +kernel
theorem dX5_nextBelow_35 : decode cX5_nextBelow 35 = .ok (.if_icmp .le 25, 3) := by decide +kernel
theorem dX5_nextBelow_38 : decode cX5_nextBelow 38 = .ok (.aload_n 0, 1) := by decide +kernel
theorem dX5_nextBelow_39 : decode cX5_nextBelow 39 = .ok (.iload 4, 2) := by decide +kernel
theorem dX5_nextBelow_41 : decode cX5_nextBelow 41 = .ok (.invokevirtual 28, 3) := by decide +kernel
theorem dX5_nextBelow_44 : decode cX5_nextBelow 44 = .ok (.fload_n 1, 1) := by decide +kernel
theorem dX5_nextBelow_45 : decode cX5_nextBelow 45 = .ok (.fcmp .g, 1) := by decide +kernel
theorem dX5_nextBelow_46 : decode cX5_nextBelow 46 = .ok (.ifCond .ge 14, 3) := by decide +kernel
theorem dX5_nextBelow_49 : decode cX5_nextBelow 49 = .ok (.iload 4, 2) := by decide +kernel
theorem dX5_nextBelow_51 : decode cX5_nextBelow 51 = .ok (.istore_n 2, 1) := by decide +kernel
theorem dX5_nextBelow_52 : decode cX5_nextBelow 52 = .ok (.aload_n 0, 1) := by decide +kernel
theorem dX5_nextBelow_53 : decode cX5_nextBelow 53 = .ok (.getfield 9, 3) := by decide +kernel
theorem dX5_nextBelow_56 : decode cX5_nextBelow 56 = .ok (.iload 4, 2) := by decide +kernel
theorem dX5_nextBelow_58 : decode cX5_nextBelow 58 = .ok (.iaload, 1) := by decide +kernel
theorem dX5_nextBelow_59 : decode cX5_nextBelow 59 = .ok (.istore_n 3, 1) := by decide +kernel
theorem dX5_nextBelow_60 : decode cX5_nextBelow 60 = .ok (.iinc 4 1, 3) := by decide +kernel
theorem dX5_nextBelow_63 : decode cX5_nextBelow 63 = .ok (.goto (-55), 3) := by decide +kernel
theorem dX5_nextBelow_66 : decode cX5_nextBelow 66 = .ok (.iload_n 2, 1) := by decide +kernel
theorem dX5_nextBelow_67 : decode cX5_nextBelow 67 = .ok (.ireturn, 1) := by decide +kernel
theorem dX5_closedNear_0 : decode cX5_closedNear 0 = .ok (.iconst 0, 1) := by decide +kernel
theorem dX5_closedNear_1 : decode cX5_closedNear 1 = .ok (.istore_n 2, 1) := by decide +kernel
theorem dX5_closedNear_2 : decode cX5_closedNear 2 = .ok (.iload_n 2, 1) := by decide +kernel
theorem dX5_closedNear_3 : decode cX5_closedNear 3 = .ok (.aload_n 0, 1) := by decide +kernel
theorem dX5_closedNear_4 : decode cX5_closedNear 4 = .ok (.getfield 19, 3) := by decide +kernel
theorem dX5_closedNear_7 : decode cX5_closedNear 7 = .ok (.if_icmp .ge 36, 3) := by decide +kernel
theorem dX5_closedNear_10 : decode cX5_closedNear 10 = .ok (.aload_n 0, 1) := by decide +kernel
theorem dX5_closedNear_11 : decode cX5_closedNear 11 = .ok (.getfield 15, 3) := by decide +kernel
theorem dX5_closedNear_14 : decode cX5_closedNear 14 = .ok (.iload_n 2, 1) := by decide +kernel
theorem dX5_closedNear_15 : decode cX5_closedNear 15 = .ok (.baload, 1) := by decide +kernel
theorem dX5_closedNear_16 : decode cX5_closedNear 16 = .ok (.ifCond .ne 21, 3) := by decide +kernel
theorem dX5_closedNear_19 : decode cX5_closedNear 19 = .ok (.fload_n 1, 1) := by decide +kernel
theorem dX5_closedNear_20 : decode cX5_closedNear 20 = .ok (.aload_n 0, 1) := by decide +kernel
theorem dX5_closedNear_21 : decode cX5_closedNear 21 = .ok (.iload_n 2, 1) := by decide +kernel
theorem dX5_closedNear_22 : decode cX5_closedNear 22 = .ok (.invokevirtual 28, 3) := by decide +kernel
theorem dX5_closedNear_25 : decode cX5_closedNear 25 = .ok (.fsub, 1) := by decide +kernel
theorem dX5_closedNear_26 : decode cX5_closedNear 26 = .ok (.invokestatic 32, 3) := by decide +kernel
theorem dX5_closedNear_29 : decode cX5_closedNear 29 = .ok (.ldc 36, 2) := by decide +kernel
theorem dX5_closedNear_31 : decode cX5_closedNear 31 = .ok (.fcmp .g, 1) := by decide +kernel
theorem dX5_closedNear_32 : decode cX5_closedNear 32 = .ok (.ifCond .ge 5, 3) := by decide +kernel
theorem dX5_closedNear_35 : decode cX5_closedNear 35 = .ok (.iload_n 2, 1) := by decide +kernel
theorem dX5_closedNear_36 : decode cX5_closedNear 36 = .ok (.ireturn, 1) := by decide +kernel
theorem dX5_closedNear_37 : decode cX5_closedNear 37 = .ok (.iinc 2 1, 3) := by decide +kernel
theorem dX5_closedNear_40 : decode cX5_closedNear 40 = .ok (.goto (-38), 3) := by decide +kernel
theorem dX5_closedNear_43 : decode cX5_closedNear 43 = .ok (.bipush (-5), 2) := by decide +kernel
theorem dX5_closedNear_45 : decode cX5_closedNear 45 = .ok (.ireturn, 1) := by decide +kernel
theorem dX6_init_0 : decode cX6_init 0 = .ok (.aload_n 0, 1) := by decide +kernel
theorem dX6_init_1 : decode cX6_init 1 = .ok (.invokespecial 1, 3) := by decide +kernel
theorem dX6_init_4 : decode cX6_init 4 = .ok (.aload_n 0, 1) := by decide +kernel
theorem dX6_init_5 : decode cX6_init 5 = .ok (.new 7, 3) := by decide +kernel
theorem dX6_init_8 : decode cX6_init 8 = .ok (.dup, 1) := by decide +kernel
