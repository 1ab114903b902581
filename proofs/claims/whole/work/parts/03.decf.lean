theorem dX7_setPoint_146 : decode cX7_setPoint 146 = .ok (.iload 5, 2) := by decide +kernel
theorem dX7_setPoint_148 : decode cX7_setPoint 148 = .ok (.iadd, 1) := by decide +kernel
theorem dX7_setPoint_149 : decode cX7_setPoint 149 = .ok (.iaload, 1) := by decide +kernel
theorem dX7_setPoint_150 : decode cX7_setPoint 150 = .ok (.iastore, 1) := by decide +kernel
theorem dX7_setPoint_151 : decode cX7_setPoint 151 = .ok (.iinc 5 (-1), 3) := by decide +kernel
theorem dX7_setPoint_154 : decode cX7_setPoint 154 = .ok (.goto (-33), 3) := by decide +kernel
theorem dX7_setPoint_157 : decode cX7_setPoint 157 = .ok (.aload_n 0, 1) := by decide +kernel
theorem dX7_setPoint_158 : decode cX7_setPoint 158 = .ok (.getfield 7, 3) := by decide +kernel
theorem dX7_setPoint_161 : decode cX7_setPoint 161 = .ok (.bipush 10, 2) := by decide +kernel
theorem dX7_setPoint_163 : decode cX7_setPoint 163 = .ok (.dup2, 1) := by decide +kernel
theorem dX7_setPoint_164 : decode cX7_setPoint 164 = .ok (.iaload, 1) := by decide +kernel
theorem dX7_setPoint_165 : decode cX7_setPoint 165 = .ok (.iconst 1, 1) := by decide +kernel
theorem dX7_setPoint_166 : decode cX7_setPoint 166 = .ok (.iadd, 1) := by decide +kernel
theorem dX7_setPoint_167 : decode cX7_setPoint 167 = .ok (.iastore, 1) := by decide +kernel
theorem dX7_setPoint_168 : decode cX7_setPoint 168 = .ok (.aload_n 0, 1) := by decide +kernel
theorem dX7_setPoint_169 : decode cX7_setPoint 169 = .ok (.getfield 7, 3) := by decide +kernel
theorem dX7_setPoint_172 : decode cX7_setPoint 172 = .ok (.bipush 20, 2) := by decide +kernel
theorem dX7_setPoint_174 : decode cX7_setPoint 174 = .ok (.iconst 2, 1) := by decide +kernel
theorem dX7_setPoint_175 : decode cX7_setPoint 175 = .ok (.iload_n 3, 1) := by decide +kernel
theorem dX7_setPoint_176 : decode cX7_setPoint 176 = .ok (.imul, 1) := by decide +kernel
theorem dX7_setPoint_177 : decode cX7_setPoint 177 = .ok (.iadd, 1) := by decide +kernel
theorem dX7_setPoint_178 : decode cX7_setPoint 178 = .ok (.iload_n 1, 1) := by decide +kernel
theorem dX7_setPoint_179 : decode cX7_setPoint 179 = .ok (.iastore, 1) := by decide +kernel
theorem dX7_setPoint_180 : decode cX7_setPoint 180 = .ok (.aload_n 0, 1) := by decide +kernel
theorem dX7_setPoint_181 : decode cX7_setPoint 181 = .ok (.getfield 7, 3) := by decide +kernel
theorem dX7_setPoint_184 : decode cX7_setPoint 184 = .ok (.bipush 20, 2) := by decide +kernel
theorem dX7_setPoint_186 : decode cX7_setPoint 186 = .ok (.iconst 2, 1) := by decide +kernel
theorem dX7_setPoint_187 : decode cX7_setPoint 187 = .ok (.iload_n 3, 1) := by decide +kernel
theorem dX7_setPoint_188 : decode cX7_setPoint 188 = .ok (.imul, 1) := by decide +kernel
theorem dX7_setPoint_189 : decode cX7_setPoint 189 = .ok (.iadd, 1) := by decide +kernel
theorem dX7_setPoint_190 : decode cX7_setPoint 190 = .ok (.iconst 1, 1) := by decide +kernel
theorem dX7_setPoint_191 : decode cX7_setPoint 191 = .ok (.iadd, 1) := by decide +kernel
theorem dX7_setPoint_192 : decode cX7_setPoint 192 = .ok (.iload_n 2, 1) := by decide +kernel
theorem dX7_setPoint_193 : decode cX7_setPoint 193 = .ok (.iastore, 1) := by decide +kernel
theorem dX7_setPoint_194 : decode cX7_setPoint 194 = .ok (.aload_n 0, 1) := by decide +kernel
theorem dX7_setPoint_195 : decode cX7_setPoint 195 = .ok (.getfield 7, 3) := by decide +kernel
theorem dX7_setPoint_198 : decode cX7_setPoint 198 = .ok (.bipush 10, 2) := by decide +kernel
theorem dX7_setPoint_200 : decode cX7_setPoint 200 = .ok (.iaload, 1) := by decide +kernel
theorem dX7_setPoint_201 : decode cX7_setPoint 201 = .ok (.ireturn, 1) := by decide +kernel
theorem dX7_addStop_0 : decode cX7_addStop 0 = .ok (.iload_n 1, 1) := by decide +kernel
theorem dX7_addStop_1 : decode cX7_addStop 1 = .ok (.iconst 1, 1) := by decide +kernel
theorem dX7_addStop_2 : decode cX7_addStop 2 = .ok (.ldc 49, 2) := by decide +kernel
theorem dX7_addStop_4 : decode cX7_addStop 4 = .ok (.invokestatic 42, 3) := by decide +kernel
theorem dX7_addStop_7 : decode cX7_addStop 7 = .ok (.ifCond .ne 6, 3) := by decide +kernel
theorem dX7_addStop_10 : decode cX7_addStop 10 = .ok (.bipush (-2), 2) := by decide +kernel
theorem dX7_addStop_12 : decode cX7_addStop 12 = .ok (.ireturn, 1) := by decide +kernel
theorem dX7_addStop_13 : decode cX7_addStop 13 = .ok (.aload_n 0, 1) := by decide +kernel
theorem dX7_addStop_14 : decode cX7_addStop 14 = .ok (.getfield 7, 3) := by decide +kernel
theorem dX7_addStop_17 : decode cX7_addStop 17 = .ok (.bipush 11, 2) := by decide +kernel
theorem dX7_addStop_19 : decode cX7_addStop 19 = .ok (.iaload, 1) := by decide +kernel
theorem dX7_addStop_20 : decode cX7_addStop 20 = .ok (.iconst 4, 1) := by decide +kernel
theorem dX7_addStop_21 : decode cX7_addStop 21 = .ok (.if_icmp .ne 6, 3) := by decide +kernel
theorem dX7_addStop_24 : decode cX7_addStop 24 = .ok (.bipush (-4), 2) := by decide +kernel
theorem dX7_addStop_26 : decode cX7_addStop 26 = .ok (.ireturn, 1) := by decide +kernel
theorem dX7_addStop_27 : decode cX7_addStop 27 = .ok (.aload_n 0, 1) := by decide +kernel
theorem dX7_addStop_28 : decode cX7_addStop 28 = .ok (.invokevirtual 46, 3) := by decide +kernel
theorem dX7_addStop_31 : decode cX7_addStop 31 = .ok (.aload_n 0, 1) := by decide +kernel
theorem dX7_addStop_32 : decode cX7_addStop 32 = .ok (.getfield 7, 3) := by decide +kernel
theorem dX7_addStop_35 : decode cX7_addStop 35 = .ok (.bipush 32, 2) := by decide +kernel
theorem dX7_addStop_37 : decode cX7_addStop 37 = .ok (.iconst 2, 1) := by decide +kernel
theorem dX7_addStop_38 : decode cX7_addStop 38 = .ok (.aload_n 0, 1) := by decide +kernel
theorem dX7_addStop_39 : decode cX7_addStop 39 = .ok (.getfield 7, 3) := by decide +kernel
theorem dX7_addStop_42 : decode cX7_addStop 42 = .ok (.bipush 11, 2) := by decide +kernel
theorem dX7_addStop_44 : decode cX7_addStop 44 = .ok (.iaload, 1) := by decide +kernel
theorem dX7_addStop_45 : decode cX7_addStop 45 = .ok (.imul, 1) := by decide +kernel
theorem dX7_addStop_46 : decode cX7_addStop 46 = .ok (.iadd, 1) := by decide +kernel
theorem dX7_addStop_47 : decode cX7_addStop 47 = .ok (.iload_n 1, 1) := by decide +kernel
theorem dX7_addStop_48 : decode cX7_addStop 48 = .ok (.iastore, 1) := by decide +kernel
theorem dX7_addStop_49 : decode cX7_addStop 49 = .ok (.aload_n 0, 1) := by decide +kernel
theorem dX7_addStop_50 : decode cX7_addStop 50 = .ok (.getfield 7, 3) := by decide +kernel
theorem dX7_addStop_53 : decode cX7_addStop 53 = .ok (.bipush 32, 2) := by decide +kernel
theorem dX7_addStop_55 : decode cX7_addStop 55 = .ok (.iconst 2, 1) := by decide +kernel
theorem dX7_addStop_56 : decode cX7_addStop 56 = .ok (.aload_n 0, 1) := by decide +kernel
theorem dX7_addStop_57 : decode cX7_addStop 57 = .ok (.getfield 7, 3) := by decide +kernel
theorem dX7_addStop_60 : decode cX7_addStop 60 = .ok (.bipush 11, 2) := by decide +kernel
theorem dX7_addStop_62 : decode cX7_addStop 62 = .ok (.iaload, 1) := by decide +kernel
theorem dX7_addStop_63 : decode cX7_addStop 63 = .ok (.imul, 1) := by decide +kernel
theorem dX7_addStop_64 : decode cX7_addStop 64 = .ok (.iadd, 1) := by decide +kernel
theorem dX7_addStop_65 : decode cX7_addStop 65 = .ok (.iconst 1, 1) := by decide +kernel
theorem dX7_addStop_66 : decode cX7_addStop 66 = .ok (.iadd, 1) := by decide +kernel
theorem dX7_addStop_67 : decode cX7_addStop 67 = .ok (.iconst 0, 1) := by decide +kernel
theorem dX7_addStop_68 : decode cX7_addStop 68 = .ok (.iastore, 1) := by decide +kernel
theorem dX7_addStop_69 : decode cX7_addStop 69 = .ok (.aload_n 0, 1) := by decide +kernel
theorem dX7_addStop_70 : decode cX7_addStop 70 = .ok (.getfield 7, 3) := by decide +kernel
theorem dX7_addStop_73 : decode cX7_addStop 73 = .ok (.bipush 11, 2) := by decide +kernel
theorem dX7_addStop_75 : decode cX7_addStop 75 = .ok (.dup2, 1) := by decide +kernel
theorem dX7_addStop_76 : decode cX7_addStop 76 = .ok (.iaload, 1) := by decide +kernel
theorem dX7_addStop_77 : decode cX7_addStop 77 = .ok (.iconst 1, 1) := by decide +kernel
theorem dX7_addStop_78 : decode cX7_addStop 78 = .ok (.iadd, 1) := by decide +kernel
theorem dX7_addStop_79 : decode cX7_addStop 79 = .ok (.iastore, 1) := by decide +kernel
theorem dX7_addStop_80 : decode cX7_addStop 80 = .ok (.aload_n 0, 1) := by decide +kernel
theorem dX7_addStop_81 : decode cX7_addStop 81 = .ok (.getfield 7, 3) := by decide +kernel
theorem dX7_addStop_84 : decode cX7_addStop 84 = .ok (.bipush 11, 2) := by decide +kernel
theorem dX7_addStop_86 : decode cX7_addStop 86 = .ok (.iaload, 1) := by decide +kernel
theorem dX7_addStop_87 : decode cX7_addStop 87 = .ok (.iconst 1, 1) := by decide +kernel
theorem dX7_addStop_88 : decode cX7_addStop 88 = .ok (.isub, 1) := by decide +kernel
theorem dX7_addStop_89 : decode cX7_addStop 89 = .ok (.ireturn, 1) := by decide +kernel
theorem dX7_setBias_0 : decode cX7_setBias 0 = .ok (.iload_n 2, 1) := by decide +kernel
theorem dX7_setBias_1 : decode cX7_setBias 1 = .ok (.sipush (-500), 3) := by decide +kernel
theorem dX7_setBias_4 : decode cX7_setBias 4 = .ok (.sipush 500, 3) := by decide +kernel
theorem dX7_setBias_7 : decode cX7_setBias 7 = .ok (.invokestatic 42, 3) := by decide +kernel
theorem dX7_setBias_10 : decode cX7_setBias 10 = .ok (.ifCond .ne 6, 3) := by decide +kernel
theorem dX7_setBias_13 : decode cX7_setBias 13 = .ok (.bipush (-2), 2) := by decide +kernel
theorem dX7_setBias_15 : decode cX7_setBias 15 = .ok (.ireturn, 1) := by decide +kernel
theorem dX7_setBias_16 : decode cX7_setBias 16 = .ok (.aload_n 0, 1) := by decide +kernel
theorem dX7_setBias_17 : decode cX7_setBias 17 = .ok (.invokevirtual 46, 3) := by decide +kernel
theorem dX7_setBias_20 : decode cX7_setBias 20 = .ok (.aload_n 0, 1) := by decide +kernel
theorem dX7_setBias_21 : decode cX7_setBias 21 = .ok (.getfield 7, 3) := by decide +kernel
theorem dX7_setBias_24 : decode cX7_setBias 24 = .ok (.bipush 6, 2) := by decide +kernel
theorem dX7_setBias_26 : decode cX7_setBias 26 = .ok (.iload_n 1, 1) := by decide +kernel
theorem dX7_setBias_27 : decode cX7_setBias 27 = .ok (.ifCond .eq 7, 3) := by decide +kernel
theorem dX7_setBias_30 : decode cX7_setBias 30 = .ok (.iconst 1, 1) := by decide +kernel
theorem dX7_setBias_31 : decode cX7_setBias 31 = .ok (.goto 4, 3) := by decide +kernel
theorem dX7_setBias_34 : decode cX7_setBias 34 = .ok (.iconst 0, 1) := by decide +kernel
theorem dX7_setBias_35 : decode cX7_setBias 35 = .ok (.iadd, 1) := by decide +kernel
theorem dX7_setBias_36 : decode cX7_setBias 36 = .ok (.iload_n 2, 1) := by decide +kernel
theorem dX7_setBias_37 : decode cX7_setBias 37 = .ok (.iastore, 1) := by decide +kernel
theorem dX7_setBias_38 : decode cX7_setBias 38 = .ok (.iload_n 1, 1) := by decide +kernel
theorem dX7_setBias_39 : decode cX7_setBias 39 = .ok (.aload_n 0, 1) := by decide +kernel
theorem dX7_setBias_40 : decode cX7_setBias 40 = .ok (.getfield 7, 3) := by decide +kernel
theorem dX7_setBias_43 : decode cX7_setBias 43 = .ok (.iconst 4, 1) := by decide +kernel
theorem dX7_setBias_44 : decode cX7_setBias 44 = .ok (.iaload, 1) := by decide +kernel
theorem dX7_setBias_45 : decode cX7_setBias 45 = .ok (.iconst 1, 1) := by decide +kernel
theorem dX7_setBias_46 : decode cX7_setBias 46 = .ok (.if_icmp .ne 7, 3) := by decide +kernel
theorem dX7_setBias_49 : decode cX7_setBias 49 = .ok (.iconst 1, 1) := by decide +kernel
theorem dX7_setBias_50 : decode cX7_setBias 50 = .ok (.goto 4, 3) := by decide +kernel
theorem dX7_setBias_53 : decode cX7_setBias 53 = .ok (.iconst 0, 1) := by decide +kernel
theorem dX7_setBias_54 : decode cX7_setBias 54 = .ok (.if_icmp .ne 7, 3) := by decide +kernel
theorem dX7_setBias_57 : decode cX7_setBias 57 = .ok (.iconst 1, 1) := by decide +kernel
theorem dX7_setBias_58 : decode cX7_setBias 58 = .ok (.goto 4, 3) := by decide +kernel
theorem dX7_setBias_61 : decode cX7_setBias 61 = .ok (.iconst 0, 1) := by decide +kernel
theorem dX7_setBias_62 : decode cX7_setBias 62 = .ok (.ireturn, 1) := by decide +kernel
theorem dX7_speedOf_0 : decode cX7_speedOf 0 = .ok (.aload_n 0, 1) := by decide +kernel
theorem dX7_speedOf_1 : decode cX7_speedOf 1 = .ok (.getfield 7, 3) := by decide +kernel
theorem dX7_speedOf_4 : decode cX7_speedOf 4 = .ok (.bipush 20, 2) := by decide +kernel
theorem dX7_speedOf_6 : decode cX7_speedOf 6 = .ok (.iconst 2, 1) := by decide +kernel
theorem dX7_speedOf_7 : decode cX7_speedOf 7 = .ok (.iload_n 1, 1) := by decide +kernel
theorem dX7_speedOf_8 : decode cX7_speedOf 8 = .ok (.imul, 1) := by decide +kernel
theorem dX7_speedOf_9 : decode cX7_speedOf 9 = .ok (.iadd, 1) := by decide +kernel
theorem dX7_speedOf_10 : decode cX7_speedOf 10 = .ok (.iconst 1, 1) := by decide +kernel
theorem dX7_speedOf_11 : decode cX7_speedOf 11 = .ok (.iadd, 1) := by decide +kernel
theorem dX7_speedOf_12 : decode cX7_speedOf 12 = .ok (.iaload, 1) := by decide +kernel
theorem dX7_speedOf_13 : decode cX7_speedOf 13 = .ok (.invokestatic 55, 3) := by decide +kernel
theorem dX7_speedOf_16 : decode cX7_speedOf 16 = .ok (.freturn, 1) := by decide +kernel
theorem dX7_limitAt_0 : decode cX7_limitAt 0 = .ok (.aload_n 0, 1) := by decide +kernel
theorem dX7_limitAt_1 : decode cX7_limitAt 1 = .ok (.getfield 7, 3) := by decide +kernel
theorem dX7_limitAt_4 : decode cX7_limitAt 4 = .ok (.bipush 10, 2) := by decide +kernel
theorem dX7_limitAt_6 : decode cX7_limitAt 6 = .ok (.iaload, 1) := by decide +kernel
theorem dX7_limitAt_7 : decode cX7_limitAt 7 = .ok (.iconst 1, 1) := by decide +kernel
theorem dX7_limitAt_8 : decode cX7_limitAt 8 = .ok (.isub, 1) := by decide +kernel
theorem dX7_limitAt_9 : decode cX7_limitAt 9 = .ok (.istore_n 2, 1) := by decide +kernel
theorem dX7_limitAt_10 : decode cX7_limitAt 10 = .ok (.iload_n 2, 1) := by decide +kernel
theorem dX7_limitAt_11 : decode cX7_limitAt 11 = .ok (.ifCond .ge 6, 3) := by decide +kernel
theorem dX7_limitAt_14 : decode cX7_limitAt 14 = .ok (.ldc 72, 2) := by decide +kernel
theorem dX7_limitAt_16 : decode cX7_limitAt 16 = .ok (.freturn, 1) := by decide +kernel
theorem dX7_limitAt_17 : decode cX7_limitAt 17 = .ok (.fload_n 1, 1) := by decide +kernel
theorem dX7_limitAt_18 : decode cX7_limitAt 18 = .ok (.aload_n 0, 1) := by decide +kernel
theorem dX7_limitAt_19 : decode cX7_limitAt 19 = .ok (.iconst 0, 1) := by decide +kernel
theorem dX7_limitAt_20 : decode cX7_limitAt 20 = .ok (.invokevirtual 69, 3) := by decide +kernel
theorem dX7_limitAt_23 : decode cX7_limitAt 23 = .ok (.invokestatic 51, 3) := by decide +kernel
theorem dX7_limitAt_26 : decode cX7_limitAt 26 = .ok (.fcmp .g, 1) := by decide +kernel
theorem dX7_limitAt_27 : decode cX7_limitAt 27 = .ok (.ifCond .gt 9, 3) := by decide +kernel
theorem dX7_limitAt_30 : decode cX7_limitAt 30 = .ok (.aload_n 0, 1) := by decide +kernel
theorem dX7_limitAt_31 : decode cX7_limitAt 31 = .ok (.iconst 0, 1) := by decide +kernel
theorem dX7_limitAt_32 : decode cX7_limitAt 32 = .ok (.invokevirtual 73, 3) := by decide +kernel
theorem dX7_limitAt_35 : decode cX7_limitAt 35 = .ok (.freturn, 1) := by decide +kernel
theorem dX7_limitAt_36 : decode cX7_limitAt 36 = .ok (.fload_n 1, 1) := by decide +kernel
theorem dX7_limitAt_37 : decode cX7_limitAt 37 = .ok (.aload_n 0, 1) := by decide +kernel
theorem dX7_limitAt_38 : decode cX7_limitAt 38 = .ok (.iload_n 2, 1) := by decide +kernel
theorem dX7_limitAt_39 : decode cX7_limitAt 39 = .ok (.invokevirtual 69, 3) := by decide +kernel
theorem dX7_limitAt_42 : decode cX7_limitAt 42 = .ok (.invokestatic 51, 3) := by decide +kernel
theorem dX7_limitAt_45 : decode cX7_limitAt 45 = .ok (.fcmp .l, 1) := by decide +kernel
theorem dX7_limitAt_46 : decode cX7_limitAt 46 = .ok (.ifCond .lt 9, 3) := by decide +kernel
theorem dX7_limitAt_49 : decode cX7_limitAt 49 = .ok (.aload_n 0, 1) := by decide +kernel
theorem dX7_limitAt_50 : decode cX7_limitAt 50 = .ok (.iload_n 2, 1) := by decide +kernel
theorem dX7_limitAt_51 : decode cX7_limitAt 51 = .ok (.invokevirtual 73, 3) := by decide +kernel
theorem dX7_limitAt_54 : decode cX7_limitAt 54 = .ok (.freturn, 1) := by decide +kernel
theorem dX7_limitAt_55 : decode cX7_limitAt 55 = .ok (.iconst 0, 1) := by decide +kernel
theorem dX7_limitAt_56 : decode cX7_limitAt 56 = .ok (.istore_n 3, 1) := by decide +kernel
theorem dX7_limitAt_57 : decode cX7_limitAt 57 = .ok (.fload_n 1, 1) := by decide +kernel
theorem dX7_limitAt_58 : decode cX7_limitAt 58 = .ok (.aload_n 0, 1) := by decide +kernel
theorem dX7_limitAt_59 : decode cX7_limitAt 59 = .ok (.iload_n 3, 1) := by decide +kernel
theorem dX7_limitAt_60 : decode cX7_limitAt 60 = .ok (.iconst 1, 1) := by decide +kernel
theorem dX7_limitAt_61 : decode cX7_limitAt 61 = .ok (.iadd, 1) := by decide +kernel
theorem dX7_limitAt_62 : decode cX7_limitAt 62 = .ok (.invokevirtual 69, 3) := by decide +kernel
theorem dX7_limitAt_65 : decode cX7_limitAt 65 = .ok (.invokestatic 51, 3) := by decide +kernel
theorem dX7_limitAt_68 : decode cX7_limitAt 68 = .ok (.fcmp .l, 1) := by decide +kernel
theorem dX7_limitAt_69 : decode cX7_limitAt 69 = .ok (.ifCond .lt 9, 3) := by decide +kernel
theorem dX7_limitAt_72 : decode cX7_limitAt 72 = .ok (.iinc 3 1, 3) := by decide +kernel
theorem dX7_limitAt_75 : decode cX7_limitAt 75 = .ok (.goto (-18), 3) := by decide +kernel
theorem dX7_limitAt_78 : decode cX7_limitAt 78 = .ok (.aload_n 0, 1) := by decide +kernel
theorem dX7_limitAt_79 : decode cX7_limitAt 79 = .ok (.iload_n 3, 1) := by decide +kernel
theorem dX7_limitAt_80 : decode cX7_limitAt 80 = .ok (.invokevirtual 69, 3) := by decide +kernel
theorem dX7_limitAt_83 : decode cX7_limitAt 83 = .ok (.invokestatic 51, 3) := by decide +kernel
theorem dX7_limitAt_86 : decode cX7_limitAt 86 = .ok (.fstore 4, 2) := by decide +kernel
theorem dX7_limitAt_88 : decode cX7_limitAt 88 = .ok (.aload_n 0, 1) := by decide +kernel
theorem dX7_limitAt_89 : decode cX7_limitAt 89 = .ok (.iload_n 3, 1) := by decide +kernel
theorem dX7_limitAt_90 : decode cX7_limitAt 90 = .ok (.iconst 1, 1) := by decide +kernel
theorem dX7_limitAt_91 : decode cX7_limitAt 91 = .ok (.iadd, 1) := by decide +kernel
theorem dX7_limitAt_92 : decode cX7_limitAt 92 = .ok (.invokevirtual 69, 3) := by decide +kernel
theorem dX7_limitAt_95 : decode cX7_limitAt 95 = .ok (.invokestatic 51, 3) := by decide +kernel
theorem dX7_limitAt_98 : decode cX7_limitAt 98 = .ok (.fstore 5, 2) := by decide +kernel
theorem dX7_limitAt_100 : decode cX7_limitAt 100 = .ok (.aload_n 0, 1) := by decide +kernel
theorem dX7_limitAt_101 : decode cX7_limitAt 101 = .ok (.iload_n 3, 1) := by decide +kernel
theorem dX7_limitAt_102 : decode cX7_limitAt 102 = .ok (.invokevirtual 73, 3) := by decide +kernel
theorem dX7_limitAt_105 : decode cX7_limitAt 105 = .ok (.fstore 6, 2) := by decide +kernel
theorem dX7_limitAt_107 : decode cX7_limitAt 107 = .ok (.aload_n 0, 1) := by decide +kernel
theorem dX7_limitAt_108 : decode cX7_limitAt 108 = .ok (.iload_n 3, 1) := by decide +kernel
theorem dX7_limitAt_109 : decode cX7_limitAt 109 = .ok (.iconst 1, 1) := by decide +kernel
theorem dX7_limitAt_110 : decode cX7_limitAt 110 = .ok (.iadd, 1) := by decide +kernel
theorem dX7_limitAt_111 : decode cX7_limitAt 111 = .ok (.invokevirtual 73, 3) := by decide +kernel
theorem dX7_limitAt_114 : decode cX7_limitAt 114 = .ok (.fstore 7, 2) := by decide +kernel
theorem dX7_limitAt_116 : decode cX7_limitAt 116 = .ok (.fload 6, 2) := by decide +kernel
theorem dX7_limitAt_118 : decode cX7_limitAt 118 = .ok (.fload 7, 2) := by decide +kernel
theorem dX7_limitAt_120 : decode cX7_limitAt 120 = .ok (.fload 6, 2) := by decide +kernel
theorem dX7_limitAt_122 : decode cX7_limitAt 122 = .ok (.fsub, 1) := by decide +kernel
theorem dX7_limitAt_123 : decode cX7_limitAt 123 = .ok (.fload_n 1, 1) := by decide +kernel
theorem dX7_limitAt_124 : decode cX7_limitAt 124 = .ok (.fload 4, 2) := by decide +kernel
theorem dX7_limitAt_126 : decode cX7_limitAt 126 = .ok (.fsub, 1) := by decide +kernel
theorem dX7_limitAt_127 : decode cX7_limitAt 127 = .ok (.fload 5, 2) := by decide +kernel
theorem dX7_limitAt_129 : decode cX7_limitAt 129 = .ok (.fload 4, 2) := by decide +kernel
theorem dX7_limitAt_131 : decode cX7_limitAt 131 = .ok (.fsub, 1) := by decide +kernel
theorem dX7_limitAt_132 : decode cX7_limitAt 132 = .ok (.fdiv, 1) := by decide +kernel
theorem dX7_limitAt_133 : decode cX7_limitAt 133 = .ok (.fmul, 1) := by decide +kernel
theorem dX7_limitAt_134 : decode cX7_limitAt 134 = .ok (.fadd, 1) := by decide +kernel
theorem dX7_limitAt_135 : decode cX7_limitAt 135 = .ok (.freturn, 1) := by decide +kernel
theorem dX7_isClosed_0 : decode cX7_isClosed 0 = .ok (.aload_n 0, 1) := by decide +kernel
theorem dX7_isClosed_1 : decode cX7_isClosed 1 = .ok (.getfield 7, 3) := by decide +kernel
theorem dX7_isClosed_4 : decode cX7_isClosed 4 = .ok (.bipush 32, 2) := by decide +kernel
theorem dX7_isClosed_6 : decode cX7_isClosed 6 = .ok (.iconst 2, 1) := by decide +kernel
theorem dX7_isClosed_7 : decode cX7_isClosed 7 = .ok (.iload_n 1, 1) := by decide +kernel
theorem dX7_isClosed_8 : decode cX7_isClosed 8 = .ok (.imul, 1) := by decide +kernel
theorem dX7_isClosed_9 : decode cX7_isClosed 9 = .ok (.iadd, 1) := by decide +kernel
theorem dX7_isClosed_10 : decode cX7_isClosed 10 = .ok (.iconst 1, 1) := by decide +kernel
theorem dX7_isClosed_11 : decode cX7_isClosed 11 = .ok (.iadd, 1) := by decide +kernel
theorem dX7_isClosed_12 : decode cX7_isClosed 12 = .ok (.iaload, 1) := by decide +kernel
theorem dX7_isClosed_13 : decode cX7_isClosed 13 = .ok (.ifCond .ne 7, 3) := by decide +kernel
theorem dX7_isClosed_16 : decode cX7_isClosed 16 = .ok (.iconst 1, 1) := by decide +kernel
theorem dX7_isClosed_17 : decode cX7_isClosed 17 = .ok (.goto 4, 3) := by decide +kernel
theorem dX7_isClosed_20 : decode cX7_isClosed 20 = .ok (.iconst 0, 1) := by decide +kernel
theorem dX7_isClosed_21 : decode cX7_isClosed 21 = .ok (.ireturn, 1) := by decide +kernel
theorem dX7_stopAt_0 : decode cX7_stopAt 0 = .ok (.aload_n 0, 1) := by decide +kernel
theorem dX7_stopAt_1 : decode cX7_stopAt 1 = .ok (.getfield 7, 3) := by decide +kernel
theorem dX7_stopAt_4 : decode cX7_stopAt 4 = .ok (.bipush 32, 2) := by decide +kernel
theorem dX7_stopAt_6 : decode cX7_stopAt 6 = .ok (.iconst 2, 1) := by decide +kernel
theorem dX7_stopAt_7 : decode cX7_stopAt 7 = .ok (.iload_n 1, 1) := by decide +kernel
theorem dX7_stopAt_8 : decode cX7_stopAt 8 = .ok (.imul, 1) := by decide +kernel
theorem dX7_stopAt_9 : decode cX7_stopAt 9 = .ok (.iadd, 1) := by decide +kernel
theorem dX7_stopAt_10 : decode cX7_stopAt 10 = .ok (.iaload, 1) := by decide +kernel
theorem dX7_stopAt_11 : decode cX7_stopAt 11 = .ok (.invokestatic 51, 3) := by decide +kernel
theorem dX7_stopAt_14 : decode cX7_stopAt 14 = .ok (.freturn, 1) := by decide +kernel
theorem dX7_nextStop_0 : decode cX7_nextStop 0 = .ok (.bipush (-5), 2) := by decide +kernel
theorem dX7_nextStop_2 : decode cX7_nextStop 2 = .ok (.istore_n 1, 1) := by decide +kernel
theorem dX7_nextStop_3 : decode cX7_nextStop 3 = .ok (.iconst 0, 1) := by decide +kernel
theorem dX7_nextStop_4 : decode cX7_nextStop 4 = .ok (.istore_n 2, 1) := by decide +kernel
theorem dX7_nextStop_5 : decode cX7_nextStop 5 = .ok (.iload_n 2, 1) := by decide +kernel
theorem dX7_nextStop_6 : decode cX7_nextStop 6 = .ok (.aload_n 0, 1) := by decide +kernel
theorem dX7_nextStop_7 : decode cX7_nextStop 7 = .ok (.getfield 7, 3) := by decide +kernel
theorem dX7_nextStop_10 : decode cX7_nextStop 10 = .ok (.bipush 11, 2) := by decide +kernel
theorem dX7_nextStop_12 : decode cX7_nextStop 12 = .ok (.iaload, 1) := by decide +kernel
theorem dX7_nextStop_13 : decode cX7_nextStop 13 = .ok (.if_icmp .ge 79, 3) := by decide +kernel
theorem dX7_nextStop_16 : decode cX7_nextStop 16 = .ok (.aload_n 0, 1) := by decide +kernel
theorem dX7_nextStop_17 : decode cX7_nextStop 17 = .ok (.iload_n 2, 1) := by decide +kernel
theorem dX7_nextStop_18 : decode cX7_nextStop 18 = .ok (.invokevirtual 76, 3) := by decide +kernel
theorem dX7_nextStop_21 : decode cX7_nextStop 21 = .ok (.ifCond .eq 22, 3) := by decide +kernel
theorem dX7_nextStop_24 : decode cX7_nextStop 24 = .ok (.aload_n 0, 1) := by decide +kernel
theorem dX7_nextStop_25 : decode cX7_nextStop 25 = .ok (.iload_n 2, 1) := by decide +kernel
theorem dX7_nextStop_26 : decode cX7_nextStop 26 = .ok (.invokevirtual 80, 3) := by decide +kernel
theorem dX7_nextStop_29 : decode cX7_nextStop 29 = .ok (.aload_n 0, 1) := by decide +kernel
theorem dX7_nextStop_30 : decode cX7_nextStop 30 = .ok (.getfield 13, 3) := by decide +kernel
theorem dX7_nextStop_33 : decode cX7_nextStop 33 = .ok (.iconst 0, 1) := by decide +kernel
theorem dX7_nextStop_34 : decode cX7_nextStop 34 = .ok (.faload, 1) := by decide +kernel
theorem dX7_nextStop_35 : decode cX7_nextStop 35 = .ok (.fcmp .g, 1) := by decide +kernel
theorem dX7_nextStop_36 : decode cX7_nextStop 36 = .ok (.ifCond .ge 7, 3) := by decide +kernel
theorem dX7_nextStop_39 : decode cX7_nextStop 39 = .ok (.iconst 1, 1) := by decide +kernel
theorem dX7_nextStop_40 : decode cX7_nextStop 40 = .ok (.goto 4, 3) := by decide +kernel
theorem dX7_nextStop_43 : decode cX7_nextStop 43 = .ok (.iconst 0, 1) := by decide +kernel
theorem dX7_nextStop_44 : decode cX7_nextStop 44 = .ok (.istore_n 3, 1) := by decide +kernel
theorem dX7_nextStop_45 : decode cX7_nextStop 45 = .ok (.iload_n 3, 1) := by decide +kernel
theorem dX7_nextStop_46 : decode cX7_nextStop 46 = .ok (.ifCond .eq 38, 3) := by decide +kernel
theorem dX7_nextStop_49 : decode cX7_nextStop 49 = .ok (.iload_n 1, 1) := by decide +kernel
theorem dX7_nextStop_50 : decode cX7_nextStop 50 = .ok (.bipush (-5), 2) := by decide +kernel
theorem dX7_nextStop_52 : decode cX7_nextStop 52 = .ok (.if_icmp .eq 28, 3) := by decide +kernel
theorem dX7_nextStop_55 : decode cX7_nextStop 55 = .ok (.aload_n 0, 1) := by decide +kernel
theorem dX7_nextStop_56 : decode cX7_nextStop 56 = .ok (.getfield 7, 3) := by decide +kernel
theorem dX7_nextStop_59 : decode cX7_nextStop 59 = .ok (.bipush 32, 2) := by decide +kernel
theorem dX7_nextStop_61 : decode cX7_nextStop 61 = .ok (.iconst 2, 1) := by decide +kernel
theorem dX7_nextStop_62 : decode cX7_nextStop 62 = .ok (.iload_n 2, 1) := by decide +kernel
theorem dX7_nextStop_63 : decode cX7_nextStop 63 = .ok (.imul, 1) := by decide +kernel
theorem dX7_nextStop_64 : decode cX7_nextStop 64 = .ok (.iadd, 1) := by decide +kernel
theorem dX7_nextStop_65 : decode cX7_nextStop 65 = .ok (.iaload, 1) := by decide +kernel
theorem dX7_nextStop_66 : decode cX7_nextStop 66 = .ok (.aload_n 0, 1) := by decide +kernel
theorem dX7_nextStop_67 : decode cX7_nextStop 67 = .ok (.getfield 7, 3) := by decide +kernel
theorem dX7_nextStop_70 : decode cX7_nextStop 70 = .ok (.bipush 32, 2) := by decide +kernel
theorem dX7_nextStop_72 : decode cX7_nextStop 72 = .ok (.iconst 2, 1) := by decide +kernel
theorem dX7_nextStop_73 : decode cX7_nextStop 73 = .ok (.iload_n 1, 1) := by decide +kernel
theorem dX7_nextStop_74 : decode cX7_nextStop 74 = .ok (.imul, 1) := by decide +kernel
theorem dX7_nextStop_75 : decode cX7_nextStop 75 = .ok (.iadd, 1) := by decide +kernel
theorem dX7_nextStop_76 : decode cX7_nextStop 76 = .ok (.iaload, 1) := by decide +kernel
theorem dX7_nextStop_77 : decode cX7_nextStop 77 = .ok (.if_icmp .le 7, 3) := by decide +kernel
theorem dX7_nextStop_80 : decode cX7_nextStop 80 = .ok (.iload_n 2, 1) := by decide +kernel
theorem dX7_nextStop_81 : decode cX7_nextStop 81 = .ok (.goto 4, 3) := by decide +kernel
theorem dX7_nextStop_84 : decode cX7_nextStop 84 = .ok (.iload_n 1, 1) := by decide +kernel
theorem dX7_nextStop_85 : decode cX7_nextStop 85 = .ok (.istore_n 1, 1) := by decide +kernel
theorem dX7_nextStop_86 : decode cX7_nextStop 86 = .ok (.iinc 2 1, 3) := by decide +kernel
theorem dX7_nextStop_89 : decode cX7_nextStop 89 = .ok (.goto (-84), 3) := by decide +kernel
theorem dX7_nextStop_92 : decode cX7_nextStop 92 = .ok (.iload_n 1, 1) := by decide +kernel
theorem dX7_nextStop_93 : decode cX7_nextStop 93 = .ok (.ireturn, 1) := by decide +kernel
theorem dX7_measured_0 : decode cX7_measured 0 = .ok (.aload_n 0, 1) := by decide +kernel
theorem dX7_measured_1 : decode cX7_measured 1 = .ok (.getfield 13, 3) := by decide +kernel
theorem dX7_measured_4 : decode cX7_measured 4 = .ok (.iconst 0, 1) := by decide +kernel
theorem dX7_measured_5 : decode cX7_measured 5 = .ok (.faload, 1) := by decide +kernel
theorem dX7_measured_6 : decode cX7_measured 6 = .ok (.aload_n 0, 1) := by decide +kernel
theorem dX7_measured_7 : decode cX7_measured 7 = .ok (.getfield 7, 3) := by decide +kernel
theorem dX7_measured_10 : decode cX7_measured 10 = .ok (.bipush 6, 2) := by decide +kernel
theorem dX7_measured_12 : decode cX7_measured 12 = .ok (.iload_n 1, 1) := by decide +kernel
theorem dX7_measured_13 : decode cX7_measured 13 = .ok (.iadd, 1) := by decide +kernel
theorem dX7_measured_14 : decode cX7_measured 14 = .ok (.iaload, 1) := by decide +kernel
theorem dX7_measured_15 : decode cX7_measured 15 = .ok (.invokestatic 51, 3) := by decide +kernel
theorem dX7_measured_18 : decode cX7_measured 18 = .ok (.fadd, 1) := by decide +kernel
theorem dX7_measured_19 : decode cX7_measured 19 = .ok (.freturn, 1) := by decide +kernel
theorem dX7_isSeen_0 : decode cX7_isSeen 0 = .ok (.aload_n 0, 1) := by decide +kernel
theorem dX7_isSeen_1 : decode cX7_isSeen 1 = .ok (.getfield 13, 3) := by decide +kernel
theorem dX7_isSeen_4 : decode cX7_isSeen 4 = .ok (.iconst 0, 1) := by decide +kernel
theorem dX7_isSeen_5 : decode cX7_isSeen 5 = .ok (.faload, 1) := by decide +kernel
theorem dX7_isSeen_6 : decode cX7_isSeen 6 = .ok (.ldc 83, 2) := by decide +kernel
theorem dX7_isSeen_8 : decode cX7_isSeen 8 = .ok (.fcmp .g, 1) := by decide +kernel
theorem dX7_isSeen_9 : decode cX7_isSeen 9 = .ok (.ifCond .gt 7, 3) := by decide +kernel
theorem dX7_isSeen_12 : decode cX7_isSeen 12 = .ok (.iconst 1, 1) := by decide +kernel
theorem dX7_isSeen_13 : decode cX7_isSeen 13 = .ok (.goto 4, 3) := by decide +kernel
theorem dX7_isSeen_16 : decode cX7_isSeen 16 = .ok (.iconst 0, 1) := by decide +kernel
theorem dX7_isSeen_17 : decode cX7_isSeen 17 = .ok (.ireturn, 1) := by decide +kernel
theorem dX7_isOff_0 : decode cX7_isOff 0 = .ok (.fload_n 2, 1) := by decide +kernel
theorem dX7_isOff_1 : decode cX7_isOff 1 = .ok (.invokestatic 84, 3) := by decide +kernel
theorem dX7_isOff_4 : decode cX7_isOff 4 = .ok (.fload_n 1, 1) := by decide +kernel
theorem dX7_isOff_5 : decode cX7_isOff 5 = .ok (.aload_n 0, 1) := by decide +kernel
theorem dX7_isOff_6 : decode cX7_isOff 6 = .ok (.getfield 7, 3) := by decide +kernel
theorem dX7_isOff_9 : decode cX7_isOff 9 = .ok (.bipush 12, 2) := by decide +kernel
theorem dX7_isOff_11 : decode cX7_isOff 11 = .ok (.iaload, 1) := by decide +kernel
theorem dX7_isOff_12 : decode cX7_isOff 12 = .ok (.invokestatic 55, 3) := by decide +kernel
theorem dX7_isOff_15 : decode cX7_isOff 15 = .ok (.fmul, 1) := by decide +kernel
theorem dX7_isOff_16 : decode cX7_isOff 16 = .ok (.aload_n 0, 1) := by decide +kernel
theorem dX7_isOff_17 : decode cX7_isOff 17 = .ok (.getfield 7, 3) := by decide +kernel
theorem dX7_isOff_20 : decode cX7_isOff 20 = .ok (.bipush 13, 2) := by decide +kernel
theorem dX7_isOff_22 : decode cX7_isOff 22 = .ok (.iaload, 1) := by decide +kernel
theorem dX7_isOff_23 : decode cX7_isOff 23 = .ok (.invokestatic 51, 3) := by decide +kernel
theorem dX7_isOff_26 : decode cX7_isOff 26 = .ok (.fadd, 1) := by decide +kernel
theorem dX7_isOff_27 : decode cX7_isOff 27 = .ok (.fcmp .l, 1) := by decide +kernel
theorem dX7_isOff_28 : decode cX7_isOff 28 = .ok (.ifCond .le 7, 3) := by decide +kernel
theorem dX7_isOff_31 : decode cX7_isOff 31 = .ok (.iconst 1, 1) := by decide +kernel
theorem dX7_isOff_32 : decode cX7_isOff 32 = .ok (.goto 4, 3) := by decide +kernel
theorem dX7_isOff_35 : decode cX7_isOff 35 = .ok (.iconst 0, 1) := by decide +kernel
theorem dX7_isOff_36 : decode cX7_isOff 36 = .ok (.ireturn, 1) := by decide +kernel
theorem dX7_isTooFast_0 : decode cX7_isTooFast 0 = .ok (.fconst 0, 1) := by decide +kernel
theorem dX7_isTooFast_1 : decode cX7_isTooFast 1 = .ok (.fload_n 1, 1) := by decide +kernel
theorem dX7_isTooFast_2 : decode cX7_isTooFast 2 = .ok (.fsub, 1) := by decide +kernel
theorem dX7_isTooFast_3 : decode cX7_isTooFast 3 = .ok (.aload_n 0, 1) := by decide +kernel
theorem dX7_isTooFast_4 : decode cX7_isTooFast 4 = .ok (.aload_n 0, 1) := by decide +kernel
theorem dX7_isTooFast_5 : decode cX7_isTooFast 5 = .ok (.getfield 13, 3) := by decide +kernel
theorem dX7_isTooFast_8 : decode cX7_isTooFast 8 = .ok (.iconst 0, 1) := by decide +kernel
theorem dX7_isTooFast_9 : decode cX7_isTooFast 9 = .ok (.faload, 1) := by decide +kernel
theorem dX7_isTooFast_10 : decode cX7_isTooFast 10 = .ok (.invokevirtual 88, 3) := by decide +kernel
theorem dX7_isTooFast_13 : decode cX7_isTooFast 13 = .ok (.ldc 91, 2) := by decide +kernel
theorem dX7_isTooFast_15 : decode cX7_isTooFast 15 = .ok (.fadd, 1) := by decide +kernel
theorem dX7_isTooFast_16 : decode cX7_isTooFast 16 = .ok (.fcmp .l, 1) := by decide +kernel
theorem dX7_isTooFast_17 : decode cX7_isTooFast 17 = .ok (.ifCond .le 7, 3) := by decide +kernel
theorem dX7_isTooFast_20 : decode cX7_isTooFast 20 = .ok (.iconst 1, 1) := by decide +kernel
theorem dX7_isTooFast_21 : decode cX7_isTooFast 21 = .ok (.goto 4, 3) := by decide +kernel
theorem dX7_isTooFast_24 : decode cX7_isTooFast 24 = .ok (.iconst 0, 1) := by decide +kernel
theorem dX7_isTooFast_25 : decode cX7_isTooFast 25 = .ok (.ireturn, 1) := by decide +kernel
theorem dX7_isUnsafe_0 : decode cX7_isUnsafe 0 = .ok (.aload_n 0, 1) := by decide +kernel
theorem dX7_isUnsafe_1 : decode cX7_isUnsafe 1 = .ok (.getfield 7, 3) := by decide +kernel
theorem dX7_isUnsafe_4 : decode cX7_isUnsafe 4 = .ok (.bipush 14, 2) := by decide +kernel
theorem dX7_isUnsafe_6 : decode cX7_isUnsafe 6 = .ok (.iaload, 1) := by decide +kernel
theorem dX7_isUnsafe_7 : decode cX7_isUnsafe 7 = .ok (.invokestatic 51, 3) := by decide +kernel
theorem dX7_isUnsafe_10 : decode cX7_isUnsafe 10 = .ok (.fstore_n 2, 1) := by decide +kernel
theorem dX7_isUnsafe_11 : decode cX7_isUnsafe 11 = .ok (.aload_n 0, 1) := by decide +kernel
theorem dX7_isUnsafe_12 : decode cX7_isUnsafe 12 = .ok (.getfield 13, 3) := by decide +kernel
theorem dX7_isUnsafe_15 : decode cX7_isUnsafe 15 = .ok (.iconst 0, 1) := by decide +kernel
theorem dX7_isUnsafe_16 : decode cX7_isUnsafe 16 = .ok (.faload, 1) := by decide +kernel
theorem dX7_isUnsafe_17 : decode cX7_isUnsafe 17 = .ok (.fstore_n 3, 1) := by decide +kernel
theorem dX7_isUnsafe_18 : decode cX7_isUnsafe 18 = .ok (.aload_n 0, 1) := by decide +kernel
theorem dX7_isUnsafe_19 : decode cX7_isUnsafe 19 = .ok (.getfield 13, 3) := by decide +kernel
theorem dX7_isUnsafe_22 : decode cX7_isUnsafe 22 = .ok (.iconst 1, 1) := by decide +kernel
theorem dX7_isUnsafe_23 : decode cX7_isUnsafe 23 = .ok (.faload, 1) := by decide +kernel
theorem dX7_isUnsafe_24 : decode cX7_isUnsafe 24 = .ok (.fstore 4, 2) := by decide +kernel
theorem dX7_isUnsafe_26 : decode cX7_isUnsafe 26 = .ok (.iconst 0, 1) := by decide +kernel
theorem dX7_isUnsafe_27 : decode cX7_isUnsafe 27 = .ok (.istore 5, 2) := by decide +kernel
theorem dX7_isUnsafe_29 : decode cX7_isUnsafe 29 = .ok (.iconst 0, 1) := by decide +kernel
theorem dX7_isUnsafe_30 : decode cX7_isUnsafe 30 = .ok (.istore 6, 2) := by decide +kernel
theorem dX7_isUnsafe_32 : decode cX7_isUnsafe 32 = .ok (.iload 6, 2) := by decide +kernel
theorem dX7_isUnsafe_34 : decode cX7_isUnsafe 34 = .ok (.aload_n 0, 1) := by decide +kernel
theorem dX7_isUnsafe_35 : decode cX7_isUnsafe 35 = .ok (.getfield 7, 3) := by decide +kernel
theorem dX7_isUnsafe_38 : decode cX7_isUnsafe 38 = .ok (.bipush 18, 2) := by decide +kernel
theorem dX7_isUnsafe_40 : decode cX7_isUnsafe 40 = .ok (.iaload, 1) := by decide +kernel
theorem dX7_isUnsafe_41 : decode cX7_isUnsafe 41 = .ok (.if_icmp .ge 68, 3) := by decide +kernel
theorem dX7_isUnsafe_44 : decode cX7_isUnsafe 44 = .ok (.iload 5, 2) := by decide +kernel
theorem dX7_isUnsafe_46 : decode cX7_isUnsafe 46 = .ok (.ifCond .ne 63, 3) := by decide +kernel
theorem dX7_isUnsafe_49 : decode cX7_isUnsafe 49 = .ok (.fload_n 3, 1) := by decide +kernel
theorem dX7_isUnsafe_50 : decode cX7_isUnsafe 50 = .ok (.fload_n 1, 1) := by decide +kernel
theorem dX7_isUnsafe_51 : decode cX7_isUnsafe 51 = .ok (.fadd, 1) := by decide +kernel
theorem dX7_isUnsafe_52 : decode cX7_isUnsafe 52 = .ok (.fstore_n 3, 1) := by decide +kernel
theorem dX7_isUnsafe_53 : decode cX7_isUnsafe 53 = .ok (.fload 4, 2) := by decide +kernel
theorem dX7_isUnsafe_55 : decode cX7_isUnsafe 55 = .ok (.aload_n 0, 1) := by decide +kernel
theorem dX7_isUnsafe_56 : decode cX7_isUnsafe 56 = .ok (.getfield 13, 3) := by decide +kernel
theorem dX7_isUnsafe_59 : decode cX7_isUnsafe 59 = .ok (.iconst 3, 1) := by decide +kernel
theorem dX7_isUnsafe_60 : decode cX7_isUnsafe 60 = .ok (.faload, 1) := by decide +kernel
theorem dX7_isUnsafe_61 : decode cX7_isUnsafe 61 = .ok (.fadd, 1) := by decide +kernel
theorem dX7_isUnsafe_62 : decode cX7_isUnsafe 62 = .ok (.fstore 4, 2) := by decide +kernel
theorem dX7_isUnsafe_64 : decode cX7_isUnsafe 64 = .ok (.fload_n 3, 1) := by decide +kernel
theorem dX7_isUnsafe_65 : decode cX7_isUnsafe 65 = .ok (.fload_n 3, 1) := by decide +kernel
theorem dX7_isUnsafe_66 : decode cX7_isUnsafe 66 = .ok (.fmul, 1) := by decide +kernel
theorem dX7_isUnsafe_67 : decode cX7_isUnsafe 67 = .ok (.fload 4, 2) := by decide +kernel
theorem dX7_isUnsafe_69 : decode cX7_isUnsafe 69 = .ok (.fload 4, 2) := by decide +kernel
theorem dX7_isUnsafe_71 : decode cX7_isUnsafe 71 = .ok (.fmul, 1) := by decide +kernel
theorem dX7_isUnsafe_72 : decode cX7_isUnsafe 72 = .ok (.fadd, 1) := by decide +kernel
theorem dX7_isUnsafe_73 : decode cX7_isUnsafe 73 = .ok (.fload_n 2, 1) := by decide +kernel
theorem dX7_isUnsafe_74 : decode cX7_isUnsafe 74 = .ok (.fload_n 2, 1) := by decide +kernel
theorem dX7_isUnsafe_75 : decode cX7_isUnsafe 75 = .ok (.fmul, 1) := by decide +kernel
theorem dX7_isUnsafe_76 : decode cX7_isUnsafe 76 = .ok (.fcmp .g, 1) := by decide +kernel
theorem dX7_isUnsafe_77 : decode cX7_isUnsafe 77 = .ok (.ifCond .ge 23, 3) := by decide +kernel
theorem dX7_isUnsafe_80 : decode cX7_isUnsafe 80 = .ok (.aload_n 0, 1) := by decide +kernel
theorem dX7_isUnsafe_81 : decode cX7_isUnsafe 81 = .ok (.fload_n 3, 1) := by decide +kernel
theorem dX7_isUnsafe_82 : decode cX7_isUnsafe 82 = .ok (.fload 4, 2) := by decide +kernel
theorem dX7_isUnsafe_84 : decode cX7_isUnsafe 84 = .ok (.invokevirtual 92, 3) := by decide +kernel
theorem dX7_isUnsafe_87 : decode cX7_isUnsafe 87 = .ok (.ifCond .ne 9, 3) := by decide +kernel
theorem dX7_isUnsafe_90 : decode cX7_isUnsafe 90 = .ok (.fload_n 3, 1) := by decide +kernel
theorem dX7_isUnsafe_91 : decode cX7_isUnsafe 91 = .ok (.fconst 0, 1) := by decide +kernel
theorem dX7_isUnsafe_92 : decode cX7_isUnsafe 92 = .ok (.fcmp .g, 1) := by decide +kernel
theorem dX7_isUnsafe_93 : decode cX7_isUnsafe 93 = .ok (.ifCond .ge 7, 3) := by decide +kernel
theorem dX7_isUnsafe_96 : decode cX7_isUnsafe 96 = .ok (.iconst 1, 1) := by decide +kernel
theorem dX7_isUnsafe_97 : decode cX7_isUnsafe 97 = .ok (.goto 4, 3) := by decide +kernel
theorem dX7_isUnsafe_100 : decode cX7_isUnsafe 100 = .ok (.iconst 0, 1) := by decide +kernel
theorem dX7_isUnsafe_101 : decode cX7_isUnsafe 101 = .ok (.istore 5, 2) := by decide +kernel
theorem dX7_isUnsafe_103 : decode cX7_isUnsafe 103 = .ok (.iinc 6 1, 3) := by decide +kernel
theorem dX7_isUnsafe_106 : decode cX7_isUnsafe 106 = .ok (.goto (-74), 3) := by decide +kernel
theorem dX7_isUnsafe_109 : decode cX7_isUnsafe 109 = .ok (.iload 5, 2) := by decide +kernel
theorem dX7_isUnsafe_111 : decode cX7_isUnsafe 111 = .ok (.ireturn, 1) := by decide +kernel
theorem dX7_judged_0 : decode cX7_judged 0 = .ok (.aload_n 0, 1) := by decide +kernel
theorem dX7_judged_1 : decode cX7_judged 1 = .ok (.aload_n 0, 1) := by decide +kernel
theorem dX7_judged_2 : decode cX7_judged 2 = .ok (.getfield 13, 3) := by decide +kernel
theorem dX7_judged_5 : decode cX7_judged 5 = .ok (.iconst 0, 1) := by decide +kernel
theorem dX7_judged_6 : decode cX7_judged 6 = .ok (.faload, 1) := by decide +kernel
theorem dX7_judged_7 : decode cX7_judged 7 = .ok (.aload_n 0, 1) := by decide +kernel
theorem dX7_judged_8 : decode cX7_judged 8 = .ok (.getfield 13, 3) := by decide +kernel
theorem dX7_judged_11 : decode cX7_judged 11 = .ok (.iconst 1, 1) := by decide +kernel
theorem dX7_judged_12 : decode cX7_judged 12 = .ok (.faload, 1) := by decide +kernel
theorem dX7_judged_13 : decode cX7_judged 13 = .ok (.invokevirtual 92, 3) := by decide +kernel
theorem dX7_judged_16 : decode cX7_judged 16 = .ok (.ifCond .eq 7, 3) := by decide +kernel
theorem dX7_judged_19 : decode cX7_judged 19 = .ok (.iconst 1, 1) := by decide +kernel
theorem dX7_judged_20 : decode cX7_judged 20 = .ok (.goto 4, 3) := by decide +kernel
theorem dX7_judged_23 : decode cX7_judged 23 = .ok (.iconst 0, 1) := by decide +kernel
theorem dX7_judged_24 : decode cX7_judged 24 = .ok (.aload_n 0, 1) := by decide +kernel
theorem dX7_judged_25 : decode cX7_judged 25 = .ok (.aload_n 0, 1) := by decide +kernel
theorem dX7_judged_26 : decode cX7_judged 26 = .ok (.getfield 13, 3) := by decide +kernel
theorem dX7_judged_29 : decode cX7_judged 29 = .ok (.iconst 2, 1) := by decide +kernel
theorem dX7_judged_30 : decode cX7_judged 30 = .ok (.faload, 1) := by decide +kernel
theorem dX7_judged_31 : decode cX7_judged 31 = .ok (.invokevirtual 96, 3) := by decide +kernel
theorem dX7_judged_34 : decode cX7_judged 34 = .ok (.ifCond .eq 7, 3) := by decide +kernel
theorem dX7_judged_37 : decode cX7_judged 37 = .ok (.iconst 2, 1) := by decide +kernel
theorem dX7_judged_38 : decode cX7_judged 38 = .ok (.goto 4, 3) := by decide +kernel
theorem dX7_judged_41 : decode cX7_judged 41 = .ok (.iconst 0, 1) := by decide +kernel
theorem dX7_judged_42 : decode cX7_judged 42 = .ok (.iadd, 1) := by decide +kernel
theorem dX7_judged_43 : decode cX7_judged 43 = .ok (.aload_n 0, 1) := by decide +kernel
theorem dX7_judged_44 : decode cX7_judged 44 = .ok (.aload_n 0, 1) := by decide +kernel
theorem dX7_judged_45 : decode cX7_judged 45 = .ok (.getfield 13, 3) := by decide +kernel
theorem dX7_judged_48 : decode cX7_judged 48 = .ok (.iconst 2, 1) := by decide +kernel
theorem dX7_judged_49 : decode cX7_judged 49 = .ok (.faload, 1) := by decide +kernel
theorem dX7_judged_50 : decode cX7_judged 50 = .ok (.invokevirtual 100, 3) := by decide +kernel
theorem dX7_judged_53 : decode cX7_judged 53 = .ok (.ifCond .eq 7, 3) := by decide +kernel
theorem dX7_judged_56 : decode cX7_judged 56 = .ok (.iconst 4, 1) := by decide +kernel
theorem dX7_judged_57 : decode cX7_judged 57 = .ok (.goto 4, 3) := by decide +kernel
theorem dX7_judged_60 : decode cX7_judged 60 = .ok (.iconst 0, 1) := by decide +kernel
theorem dX7_judged_61 : decode cX7_judged 61 = .ok (.iadd, 1) := by decide +kernel
theorem dX7_judged_62 : decode cX7_judged 62 = .ok (.ireturn, 1) := by decide +kernel
theorem dX7_wanted_0 : decode cX7_wanted 0 = .ok (.aload_n 0, 1) := by decide +kernel
theorem dX7_wanted_1 : decode cX7_wanted 1 = .ok (.aload_n 0, 1) := by decide +kernel
theorem dX7_wanted_2 : decode cX7_wanted 2 = .ok (.getfield 7, 3) := by decide +kernel
theorem dX7_wanted_5 : decode cX7_wanted 5 = .ok (.iconst 4, 1) := by decide +kernel
theorem dX7_wanted_6 : decode cX7_wanted 6 = .ok (.iaload, 1) := by decide +kernel
theorem dX7_wanted_7 : decode cX7_wanted 7 = .ok (.invokevirtual 103, 3) := by decide +kernel
theorem dX7_wanted_10 : decode cX7_wanted 10 = .ok (.fstore_n 1, 1) := by decide +kernel
theorem dX7_wanted_11 : decode cX7_wanted 11 = .ok (.aload_n 0, 1) := by decide +kernel
theorem dX7_wanted_12 : decode cX7_wanted 12 = .ok (.getfield 7, 3) := by decide +kernel
theorem dX7_wanted_15 : decode cX7_wanted 15 = .ok (.iconst 0, 1) := by decide +kernel
theorem dX7_wanted_16 : decode cX7_wanted 16 = .ok (.iaload, 1) := by decide +kernel
theorem dX7_wanted_17 : decode cX7_wanted 17 = .ok (.iconst 3, 1) := by decide +kernel
theorem dX7_wanted_18 : decode cX7_wanted 18 = .ok (.if_icmp .ne 9, 3) := by decide +kernel
theorem dX7_wanted_21 : decode cX7_wanted 21 = .ok (.aload_n 0, 1) := by decide +kernel
theorem dX7_wanted_22 : decode cX7_wanted 22 = .ok (.fload_n 1, 1) := by decide +kernel
theorem dX7_wanted_23 : decode cX7_wanted 23 = .ok (.invokevirtual 88, 3) := by decide +kernel
theorem dX7_wanted_26 : decode cX7_wanted 26 = .ok (.freturn, 1) := by decide +kernel
theorem dX7_wanted_27 : decode cX7_wanted 27 = .ok (.aload_n 0, 1) := by decide +kernel
theorem dX7_wanted_28 : decode cX7_wanted 28 = .ok (.getfield 7, 3) := by decide +kernel
theorem dX7_wanted_31 : decode cX7_wanted 31 = .ok (.iconst 0, 1) := by decide +kernel
theorem dX7_wanted_32 : decode cX7_wanted 32 = .ok (.iaload, 1) := by decide +kernel
theorem dX7_wanted_33 : decode cX7_wanted 33 = .ok (.iconst 2, 1) := by decide +kernel
theorem dX7_wanted_34 : decode cX7_wanted 34 = .ok (.if_icmp .ne 46, 3) := by decide +kernel
theorem dX7_wanted_37 : decode cX7_wanted 37 = .ok (.aload_n 0, 1) := by decide +kernel
theorem dX7_wanted_38 : decode cX7_wanted 38 = .ok (.getfield 7, 3) := by decide +kernel
theorem dX7_wanted_41 : decode cX7_wanted 41 = .ok (.iconst 5, 1) := by decide +kernel
theorem dX7_wanted_42 : decode cX7_wanted 42 = .ok (.iaload, 1) := by decide +kernel
theorem dX7_wanted_43 : decode cX7_wanted 43 = .ok (.bipush (-5), 2) := by decide +kernel
theorem dX7_wanted_45 : decode cX7_wanted 45 = .ok (.if_icmp .ne 12, 3) := by decide +kernel
theorem dX7_wanted_48 : decode cX7_wanted 48 = .ok (.aload_n 0, 1) := by decide +kernel
theorem dX7_wanted_49 : decode cX7_wanted 49 = .ok (.getfield 13, 3) := by decide +kernel
theorem dX7_wanted_52 : decode cX7_wanted 52 = .ok (.iconst 4, 1) := by decide +kernel
theorem dX7_wanted_53 : decode cX7_wanted 53 = .ok (.faload, 1) := by decide +kernel
theorem dX7_wanted_54 : decode cX7_wanted 54 = .ok (.goto 13, 3) := by decide +kernel
theorem dX7_wanted_57 : decode cX7_wanted 57 = .ok (.aload_n 0, 1) := by decide +kernel
theorem dX7_wanted_58 : decode cX7_wanted 58 = .ok (.aload_n 0, 1) := by decide +kernel
theorem dX7_wanted_59 : decode cX7_wanted 59 = .ok (.getfield 7, 3) := by decide +kernel
theorem dX7_wanted_62 : decode cX7_wanted 62 = .ok (.iconst 5, 1) := by decide +kernel
theorem dX7_wanted_63 : decode cX7_wanted 63 = .ok (.iaload, 1) := by decide +kernel
theorem dX7_wanted_64 : decode cX7_wanted 64 = .ok (.invokevirtual 80, 3) := by decide +kernel
theorem dX7_wanted_67 : decode cX7_wanted 67 = .ok (.fstore_n 2, 1) := by decide +kernel
theorem dX7_wanted_68 : decode cX7_wanted 68 = .ok (.fload_n 2, 1) := by decide +kernel
theorem dX7_wanted_69 : decode cX7_wanted 69 = .ok (.aload_n 0, 1) := by decide +kernel
theorem dX7_wanted_70 : decode cX7_wanted 70 = .ok (.getfield 13, 3) := by decide +kernel
theorem dX7_wanted_73 : decode cX7_wanted 73 = .ok (.iconst 0, 1) := by decide +kernel
theorem dX7_wanted_74 : decode cX7_wanted 74 = .ok (.faload, 1) := by decide +kernel
theorem dX7_wanted_75 : decode cX7_wanted 75 = .ok (.fsub, 1) := by decide +kernel
theorem dX7_wanted_76 : decode cX7_wanted 76 = .ok (.ldc 106, 2) := by decide +kernel
theorem dX7_wanted_78 : decode cX7_wanted 78 = .ok (.fmul, 1) := by decide +kernel
theorem dX7_wanted_79 : decode cX7_wanted 79 = .ok (.freturn, 1) := by decide +kernel
theorem dX7_wanted_80 : decode cX7_wanted 80 = .ok (.aload_n 0, 1) := by decide +kernel
theorem dX7_wanted_81 : decode cX7_wanted 81 = .ok (.fload_n 1, 1) := by decide +kernel
theorem dX7_wanted_82 : decode cX7_wanted 82 = .ok (.invokevirtual 88, 3) := by decide +kernel
theorem dX7_wanted_85 : decode cX7_wanted 85 = .ok (.fneg, 1) := by decide +kernel
theorem dX7_wanted_86 : decode cX7_wanted 86 = .ok (.fstore_n 2, 1) := by decide +kernel
theorem dX7_wanted_87 : decode cX7_wanted 87 = .ok (.aload_n 0, 1) := by decide +kernel
theorem dX7_wanted_88 : decode cX7_wanted 88 = .ok (.invokevirtual 107, 3) := by decide +kernel
theorem dX7_wanted_91 : decode cX7_wanted 91 = .ok (.istore_n 3, 1) := by decide +kernel
theorem dX7_wanted_92 : decode cX7_wanted 92 = .ok (.iload_n 3, 1) := by decide +kernel
theorem dX7_wanted_93 : decode cX7_wanted 93 = .ok (.bipush (-5), 2) := by decide +kernel
theorem dX7_wanted_95 : decode cX7_wanted 95 = .ok (.if_icmp .eq 36, 3) := by decide +kernel
theorem dX7_wanted_98 : decode cX7_wanted 98 = .ok (.fconst 0, 1) := by decide +kernel
theorem dX7_wanted_99 : decode cX7_wanted 99 = .ok (.aload_n 0, 1) := by decide +kernel
theorem dX7_wanted_100 : decode cX7_wanted 100 = .ok (.getfield 13, 3) := by decide +kernel
theorem dX7_wanted_103 : decode cX7_wanted 103 = .ok (.iconst 0, 1) := by decide +kernel
theorem dX7_wanted_104 : decode cX7_wanted 104 = .ok (.faload, 1) := by decide +kernel
theorem dX7_wanted_105 : decode cX7_wanted 105 = .ok (.aload_n 0, 1) := by decide +kernel
theorem dX7_wanted_106 : decode cX7_wanted 106 = .ok (.iload_n 3, 1) := by decide +kernel
theorem dX7_wanted_107 : decode cX7_wanted 107 = .ok (.invokevirtual 80, 3) := by decide +kernel
theorem dX7_wanted_110 : decode cX7_wanted 110 = .ok (.fsub, 1) := by decide +kernel
theorem dX7_wanted_111 : decode cX7_wanted 111 = .ok (.ldc 106, 2) := by decide +kernel
theorem dX7_wanted_113 : decode cX7_wanted 113 = .ok (.fmul, 1) := by decide +kernel
theorem dX7_wanted_114 : decode cX7_wanted 114 = .ok (.fsub, 1) := by decide +kernel
theorem dX7_wanted_115 : decode cX7_wanted 115 = .ok (.fstore 4, 2) := by decide +kernel
theorem dX7_wanted_117 : decode cX7_wanted 117 = .ok (.fload 4, 2) := by decide +kernel
theorem dX7_wanted_119 : decode cX7_wanted 119 = .ok (.fload_n 2, 1) := by decide +kernel
theorem dX7_wanted_120 : decode cX7_wanted 120 = .ok (.fcmp .l, 1) := by decide +kernel
theorem dX7_wanted_121 : decode cX7_wanted 121 = .ok (.ifCond .le 8, 3) := by decide +kernel
theorem dX7_wanted_124 : decode cX7_wanted 124 = .ok (.fload 4, 2) := by decide +kernel
theorem dX7_wanted_126 : decode cX7_wanted 126 = .ok (.goto 4, 3) := by decide +kernel
theorem dX7_wanted_129 : decode cX7_wanted 129 = .ok (.fload_n 2, 1) := by decide +kernel
theorem dX7_wanted_130 : decode cX7_wanted 130 = .ok (.fstore_n 2, 1) := by decide +kernel
theorem dX7_wanted_131 : decode cX7_wanted 131 = .ok (.fload_n 2, 1) := by decide +kernel
theorem dX7_wanted_132 : decode cX7_wanted 132 = .ok (.freturn, 1) := by decide +kernel
theorem dX7_moves_0 : decode cX7_moves 0 = .ok (.aload_n 0, 1) := by decide +kernel
theorem dX7_moves_1 : decode cX7_moves 1 = .ok (.getfield 13, 3) := by decide +kernel
theorem dX7_moves_4 : decode cX7_moves 4 = .ok (.iconst 2, 1) := by decide +kernel
theorem dX7_moves_5 : decode cX7_moves 5 = .ok (.aload_n 0, 1) := by decide +kernel
theorem dX7_moves_6 : decode cX7_moves 6 = .ok (.getfield 13, 3) := by decide +kernel
theorem dX7_moves_9 : decode cX7_moves 9 = .ok (.iconst 2, 1) := by decide +kernel
theorem dX7_moves_10 : decode cX7_moves 10 = .ok (.faload, 1) := by decide +kernel
theorem dX7_moves_11 : decode cX7_moves 11 = .ok (.fload_n 1, 1) := by decide +kernel
theorem dX7_moves_12 : decode cX7_moves 12 = .ok (.fadd, 1) := by decide +kernel
theorem dX7_moves_13 : decode cX7_moves 13 = .ok (.fastore, 1) := by decide +kernel
theorem dX7_moves_14 : decode cX7_moves 14 = .ok (.aload_n 0, 1) := by decide +kernel
theorem dX7_moves_15 : decode cX7_moves 15 = .ok (.getfield 13, 3) := by decide +kernel
theorem dX7_moves_18 : decode cX7_moves 18 = .ok (.iconst 3, 1) := by decide +kernel
theorem dX7_moves_19 : decode cX7_moves 19 = .ok (.aload_n 0, 1) := by decide +kernel
theorem dX7_moves_20 : decode cX7_moves 20 = .ok (.getfield 13, 3) := by decide +kernel
theorem dX7_moves_23 : decode cX7_moves 23 = .ok (.iconst 3, 1) := by decide +kernel
theorem dX7_moves_24 : decode cX7_moves 24 = .ok (.faload, 1) := by decide +kernel
theorem dX7_moves_25 : decode cX7_moves 25 = .ok (.fload_n 2, 1) := by decide +kernel
theorem dX7_moves_26 : decode cX7_moves 26 = .ok (.fadd, 1) := by decide +kernel
theorem dX7_moves_27 : decode cX7_moves 27 = .ok (.fastore, 1) := by decide +kernel
theorem dX7_moves_28 : decode cX7_moves 28 = .ok (.aload_n 0, 1) := by decide +kernel
theorem dX7_moves_29 : decode cX7_moves 29 = .ok (.getfield 13, 3) := by decide +kernel
theorem dX7_moves_32 : decode cX7_moves 32 = .ok (.iconst 0, 1) := by decide +kernel
theorem dX7_moves_33 : decode cX7_moves 33 = .ok (.aload_n 0, 1) := by decide +kernel
theorem dX7_moves_34 : decode cX7_moves 34 = .ok (.getfield 13, 3) := by decide +kernel
theorem dX7_moves_37 : decode cX7_moves 37 = .ok (.iconst 0, 1) := by decide +kernel
theorem dX7_moves_38 : decode cX7_moves 38 = .ok (.faload, 1) := by decide +kernel
theorem dX7_moves_39 : decode cX7_moves 39 = .ok (.aload_n 0, 1) := by decide +kernel
theorem dX7_moves_40 : decode cX7_moves 40 = .ok (.getfield 13, 3) := by decide +kernel
theorem dX7_moves_43 : decode cX7_moves 43 = .ok (.iconst 2, 1) := by decide +kernel
theorem dX7_moves_44 : decode cX7_moves 44 = .ok (.faload, 1) := by decide +kernel
theorem dX7_moves_45 : decode cX7_moves 45 = .ok (.fadd, 1) := by decide +kernel
theorem dX7_moves_46 : decode cX7_moves 46 = .ok (.fastore, 1) := by decide +kernel
theorem dX7_moves_47 : decode cX7_moves 47 = .ok (.aload_n 0, 1) := by decide +kernel
theorem dX7_moves_48 : decode cX7_moves 48 = .ok (.getfield 13, 3) := by decide +kernel
theorem dX7_moves_51 : decode cX7_moves 51 = .ok (.iconst 1, 1) := by decide +kernel
theorem dX7_moves_52 : decode cX7_moves 52 = .ok (.aload_n 0, 1) := by decide +kernel
theorem dX7_moves_53 : decode cX7_moves 53 = .ok (.getfield 13, 3) := by decide +kernel
theorem dX7_moves_56 : decode cX7_moves 56 = .ok (.iconst 1, 1) := by decide +kernel
theorem dX7_moves_57 : decode cX7_moves 57 = .ok (.faload, 1) := by decide +kernel
theorem dX7_moves_58 : decode cX7_moves 58 = .ok (.aload_n 0, 1) := by decide +kernel
theorem dX7_moves_59 : decode cX7_moves 59 = .ok (.getfield 13, 3) := by decide +kernel
theorem dX7_moves_62 : decode cX7_moves 62 = .ok (.iconst 3, 1) := by decide +kernel
theorem dX7_moves_63 : decode cX7_moves 63 = .ok (.faload, 1) := by decide +kernel
theorem dX7_moves_64 : decode cX7_moves 64 = .ok (.fadd, 1) := by decide +kernel
theorem dX7_moves_65 : decode cX7_moves 65 = .ok (.fastore, 1) := by decide +kernel
theorem dX7_moves_66 : decode cX7_moves 66 = .ok (.return_, 1) := by decide +kernel
theorem dX7_guides_0 : decode cX7_guides 0 = .ok (.aload_n 0, 1) := by decide +kernel
theorem dX7_guides_1 : decode cX7_guides 1 = .ok (.getfield 7, 3) := by decide +kernel
theorem dX7_guides_4 : decode cX7_guides 4 = .ok (.bipush 16, 2) := by decide +kernel
theorem dX7_guides_6 : decode cX7_guides 6 = .ok (.iaload, 1) := by decide +kernel
theorem dX7_guides_7 : decode cX7_guides 7 = .ok (.invokestatic 55, 3) := by decide +kernel
theorem dX7_guides_10 : decode cX7_guides 10 = .ok (.fstore_n 1, 1) := by decide +kernel
theorem dX7_guides_11 : decode cX7_guides 11 = .ok (.aload_n 0, 1) := by decide +kernel
theorem dX7_guides_12 : decode cX7_guides 12 = .ok (.getfield 7, 3) := by decide +kernel
theorem dX7_guides_15 : decode cX7_guides 15 = .ok (.bipush 17, 2) := by decide +kernel
theorem dX7_guides_17 : decode cX7_guides 17 = .ok (.iaload, 1) := by decide +kernel
theorem dX7_guides_18 : decode cX7_guides 18 = .ok (.invokestatic 55, 3) := by decide +kernel
theorem dX7_guides_21 : decode cX7_guides 21 = .ok (.fstore_n 2, 1) := by decide +kernel
theorem dX7_guides_22 : decode cX7_guides 22 = .ok (.aload_n 0, 1) := by decide +kernel
theorem dX7_guides_23 : decode cX7_guides 23 = .ok (.invokevirtual 110, 3) := by decide +kernel
theorem dX7_guides_26 : decode cX7_guides 26 = .ok (.aload_n 0, 1) := by decide +kernel
theorem dX7_guides_27 : decode cX7_guides 27 = .ok (.getfield 13, 3) := by decide +kernel
theorem dX7_guides_30 : decode cX7_guides 30 = .ok (.iconst 2, 1) := by decide +kernel
theorem dX7_guides_31 : decode cX7_guides 31 = .ok (.faload, 1) := by decide +kernel
theorem dX7_guides_32 : decode cX7_guides 32 = .ok (.fsub, 1) := by decide +kernel
theorem dX7_guides_33 : decode cX7_guides 33 = .ok (.fload_n 1, 1) := by decide +kernel
theorem dX7_guides_34 : decode cX7_guides 34 = .ok (.fneg, 1) := by decide +kernel
theorem dX7_guides_35 : decode cX7_guides 35 = .ok (.fload_n 1, 1) := by decide +kernel
theorem dX7_guides_36 : decode cX7_guides 36 = .ok (.invokestatic 114, 3) := by decide +kernel
theorem dX7_guides_39 : decode cX7_guides 39 = .ok (.fstore_n 3, 1) := by decide +kernel
theorem dX7_guides_40 : decode cX7_guides 40 = .ok (.fload_n 3, 1) := by decide +kernel
theorem dX7_guides_41 : decode cX7_guides 41 = .ok (.fload_n 2, 1) := by decide +kernel
theorem dX7_guides_42 : decode cX7_guides 42 = .ok (.fcmp .l, 1) := by decide +kernel
theorem dX7_guides_43 : decode cX7_guides 43 = .ok (.ifCond .le 25, 3) := by decide +kernel
theorem dX7_guides_46 : decode cX7_guides 46 = .ok (.aload_n 0, 1) := by decide +kernel
theorem dX7_guides_47 : decode cX7_guides 47 = .ok (.getfield 13, 3) := by decide +kernel
theorem dX7_guides_50 : decode cX7_guides 50 = .ok (.iconst 0, 1) := by decide +kernel
theorem dX7_guides_51 : decode cX7_guides 51 = .ok (.faload, 1) := by decide +kernel
theorem dX7_guides_52 : decode cX7_guides 52 = .ok (.aload_n 0, 1) := by decide +kernel
theorem dX7_guides_53 : decode cX7_guides 53 = .ok (.getfield 7, 3) := by decide +kernel
theorem dX7_guides_56 : decode cX7_guides 56 = .ok (.bipush 15, 2) := by decide +kernel
theorem dX7_guides_58 : decode cX7_guides 58 = .ok (.iaload, 1) := by decide +kernel
theorem dX7_guides_59 : decode cX7_guides 59 = .ok (.invokestatic 51, 3) := by decide +kernel
theorem dX7_guides_62 : decode cX7_guides 62 = .ok (.fcmp .g, 1) := by decide +kernel
theorem dX7_guides_63 : decode cX7_guides 63 = .ok (.ifCond .ge 5, 3) := by decide +kernel
theorem dX7_guides_66 : decode cX7_guides 66 = .ok (.fload_n 2, 1) := by decide +kernel
theorem dX7_guides_67 : decode cX7_guides 67 = .ok (.fstore_n 3, 1) := by decide +kernel
theorem dX7_guides_68 : decode cX7_guides 68 = .ok (.fconst 0, 1) := by decide +kernel
theorem dX7_guides_69 : decode cX7_guides 69 = .ok (.aload_n 0, 1) := by decide +kernel
theorem dX7_guides_70 : decode cX7_guides 70 = .ok (.getfield 13, 3) := by decide +kernel
theorem dX7_guides_73 : decode cX7_guides 73 = .ok (.iconst 1, 1) := by decide +kernel
theorem dX7_guides_74 : decode cX7_guides 74 = .ok (.faload, 1) := by decide +kernel
theorem dX7_guides_75 : decode cX7_guides 75 = .ok (.ldc 118, 2) := by decide +kernel
theorem dX7_guides_77 : decode cX7_guides 77 = .ok (.fmul, 1) := by decide +kernel
theorem dX7_guides_78 : decode cX7_guides 78 = .ok (.fsub, 1) := by decide +kernel
theorem dX7_guides_79 : decode cX7_guides 79 = .ok (.aload_n 0, 1) := by decide +kernel
theorem dX7_guides_80 : decode cX7_guides 80 = .ok (.getfield 13, 3) := by decide +kernel
theorem dX7_guides_83 : decode cX7_guides 83 = .ok (.iconst 3, 1) := by decide +kernel
theorem dX7_guides_84 : decode cX7_guides 84 = .ok (.faload, 1) := by decide +kernel
theorem dX7_guides_85 : decode cX7_guides 85 = .ok (.fsub, 1) := by decide +kernel
theorem dX7_guides_86 : decode cX7_guides 86 = .ok (.fload_n 1, 1) := by decide +kernel
theorem dX7_guides_87 : decode cX7_guides 87 = .ok (.fneg, 1) := by decide +kernel
theorem dX7_guides_88 : decode cX7_guides 88 = .ok (.fload_n 1, 1) := by decide +kernel
theorem dX7_guides_89 : decode cX7_guides 89 = .ok (.invokestatic 114, 3) := by decide +kernel
theorem dX7_guides_92 : decode cX7_guides 92 = .ok (.fstore 4, 2) := by decide +kernel
theorem dX7_guides_94 : decode cX7_guides 94 = .ok (.aload_n 0, 1) := by decide +kernel
theorem dX7_guides_95 : decode cX7_guides 95 = .ok (.fload_n 3, 1) := by decide +kernel
theorem dX7_guides_96 : decode cX7_guides 96 = .ok (.fload 4, 2) := by decide +kernel
theorem dX7_guides_98 : decode cX7_guides 98 = .ok (.invokevirtual 119, 3) := by decide +kernel
theorem dX7_guides_101 : decode cX7_guides 101 = .ok (.return_, 1) := by decide +kernel
theorem dX7_arrives_0 : decode cX7_arrives 0 = .ok (.aload_n 0, 1) := by decide +kernel
theorem dX7_arrives_1 : decode cX7_arrives 1 = .ok (.getfield 13, 3) := by decide +kernel
theorem dX7_arrives_4 : decode cX7_arrives 4 = .ok (.iconst 2, 1) := by decide +kernel
theorem dX7_arrives_5 : decode cX7_arrives 5 = .ok (.faload, 1) := by decide +kernel
theorem dX7_arrives_6 : decode cX7_arrives 6 = .ok (.invokestatic 84, 3) := by decide +kernel
theorem dX7_arrives_9 : decode cX7_arrives 9 = .ok (.aload_n 0, 1) := by decide +kernel
theorem dX7_arrives_10 : decode cX7_arrives 10 = .ok (.getfield 7, 3) := by decide +kernel
theorem dX7_arrives_13 : decode cX7_arrives 13 = .ok (.bipush 19, 2) := by decide +kernel
theorem dX7_arrives_15 : decode cX7_arrives 15 = .ok (.iaload, 1) := by decide +kernel
theorem dX7_arrives_16 : decode cX7_arrives 16 = .ok (.invokestatic 55, 3) := by decide +kernel
theorem dX7_arrives_19 : decode cX7_arrives 19 = .ok (.fcmp .g, 1) := by decide +kernel
theorem dX7_arrives_20 : decode cX7_arrives 20 = .ok (.ifCond .gt 7, 3) := by decide +kernel
theorem dX7_arrives_23 : decode cX7_arrives 23 = .ok (.iconst 1, 1) := by decide +kernel
theorem dX7_arrives_24 : decode cX7_arrives 24 = .ok (.goto 4, 3) := by decide +kernel
theorem dX7_arrives_27 : decode cX7_arrives 27 = .ok (.iconst 0, 1) := by decide +kernel
theorem dX7_arrives_28 : decode cX7_arrives 28 = .ok (.istore_n 1, 1) := by decide +kernel
theorem dX7_arrives_29 : decode cX7_arrives 29 = .ok (.iload_n 1, 1) := by decide +kernel
theorem dX7_arrives_30 : decode cX7_arrives 30 = .ok (.ifCond .eq 30, 3) := by decide +kernel
theorem dX7_arrives_33 : decode cX7_arrives 33 = .ok (.aload_n 0, 1) := by decide +kernel
theorem dX7_arrives_34 : decode cX7_arrives 34 = .ok (.getfield 13, 3) := by decide +kernel
theorem dX7_arrives_37 : decode cX7_arrives 37 = .ok (.iconst 1, 1) := by decide +kernel
theorem dX7_arrives_38 : decode cX7_arrives 38 = .ok (.faload, 1) := by decide +kernel
theorem dX7_arrives_39 : decode cX7_arrives 39 = .ok (.invokestatic 84, 3) := by decide +kernel
theorem dX7_arrives_42 : decode cX7_arrives 42 = .ok (.aload_n 0, 1) := by decide +kernel
theorem dX7_arrives_43 : decode cX7_arrives 43 = .ok (.getfield 7, 3) := by decide +kernel
theorem dX7_arrives_46 : decode cX7_arrives 46 = .ok (.bipush 13, 2) := by decide +kernel
theorem dX7_arrives_48 : decode cX7_arrives 48 = .ok (.iaload, 1) := by decide +kernel
theorem dX7_arrives_49 : decode cX7_arrives 49 = .ok (.invokestatic 51, 3) := by decide +kernel
theorem dX7_arrives_52 : decode cX7_arrives 52 = .ok (.fcmp .g, 1) := by decide +kernel
theorem dX7_arrives_53 : decode cX7_arrives 53 = .ok (.ifCond .gt 7, 3) := by decide +kernel
