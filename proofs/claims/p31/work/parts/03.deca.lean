theorem dL_cell_0 : decode cL_cell 0 = .ok (.iload_n 1, 1) := by decide +kernel
theorem dL_cell_1 : decode cL_cell 1 = .ok (.aload_n 0, 1) := by decide +kernel
theorem dL_cell_2 : decode cL_cell 2 = .ok (.arraylength, 1) := by decide +kernel
theorem dL_cell_3 : decode cL_cell 3 = .ok (.if_icmp .ge 9, 3) := by decide +kernel
theorem dL_cell_6 : decode cL_cell 6 = .ok (.aload_n 0, 1) := by decide +kernel
theorem dL_cell_7 : decode cL_cell 7 = .ok (.iload_n 1, 1) := by decide +kernel
theorem dL_cell_8 : decode cL_cell 8 = .ok (.iaload, 1) := by decide +kernel
theorem dL_cell_9 : decode cL_cell 9 = .ok (.goto 9, 3) := by decide +kernel
theorem dL_cell_12 : decode cL_cell 12 = .ok (.ldc 7, 2) := by decide +kernel
theorem dL_cell_14 : decode cL_cell 14 = .ok (.iload_n 1, 1) := by decide +kernel
theorem dL_cell_15 : decode cL_cell 15 = .ok (.iconst 3, 1) := by decide +kernel
theorem dL_cell_16 : decode cL_cell 16 = .ok (.iadd, 1) := by decide +kernel
theorem dL_cell_17 : decode cL_cell 17 = .ok (.imul, 1) := by decide +kernel
theorem dL_cell_18 : decode cL_cell 18 = .ok (.ireturn, 1) := by decide +kernel
theorem dL_up_0 : decode cL_up 0 = .ok (.iload_n 0, 1) := by decide +kernel
theorem dL_up_1 : decode cL_up 1 = .ok (.ldc 8, 2) := by decide +kernel
theorem dL_up_3 : decode cL_up 3 = .ok (.iand, 1) := by decide +kernel
theorem dL_up_4 : decode cL_up 4 = .ok (.iload_n 1, 1) := by decide +kernel
theorem dL_up_5 : decode cL_up 5 = .ok (.irem, 1) := by decide +kernel
theorem dL_up_6 : decode cL_up 6 = .ok (.ireturn, 1) := by decide +kernel
theorem dL_view_0 : decode cL_view 0 = .ok (.ldc2_w 9, 3) := by decide +kernel
theorem dL_view_3 : decode cL_view 3 = .ok (.lstore_n 1, 1) := by decide +kernel
theorem dL_view_4 : decode cL_view 4 = .ok (.iconst 0, 1) := by decide +kernel
theorem dL_view_5 : decode cL_view 5 = .ok (.istore_n 3, 1) := by decide +kernel
theorem dL_view_6 : decode cL_view 6 = .ok (.iload_n 3, 1) := by decide +kernel
theorem dL_view_7 : decode cL_view 7 = .ok (.bipush 21, 2) := by decide +kernel
theorem dL_view_9 : decode cL_view 9 = .ok (.if_icmp .ge 38, 3) := by decide +kernel
theorem dL_view_12 : decode cL_view 12 = .ok (.iload_n 3, 1) := by decide +kernel
theorem dL_view_13 : decode cL_view 13 = .ok (.bipush 9, 2) := by decide +kernel
theorem dL_view_15 : decode cL_view 15 = .ok (.if_icmp .eq 9, 3) := by decide +kernel
theorem dL_view_18 : decode cL_view 18 = .ok (.iload_n 3, 1) := by decide +kernel
theorem dL_view_19 : decode cL_view 19 = .ok (.bipush 10, 2) := by decide +kernel
theorem dL_view_21 : decode cL_view 21 = .ok (.if_icmp .ne 7, 3) := by decide +kernel
theorem dL_view_24 : decode cL_view 24 = .ok (.lload_n 1, 1) := by decide +kernel
theorem dL_view_25 : decode cL_view 25 = .ok (.goto 15, 3) := by decide +kernel
theorem dL_view_28 : decode cL_view 28 = .ok (.ldc2_w 11, 3) := by decide +kernel
theorem dL_view_31 : decode cL_view 31 = .ok (.lload_n 1, 1) := by decide +kernel
theorem dL_view_32 : decode cL_view 32 = .ok (.lmul, 1) := by decide +kernel
theorem dL_view_33 : decode cL_view 33 = .ok (.aload_n 0, 1) := by decide +kernel
theorem dL_view_34 : decode cL_view 34 = .ok (.iload_n 3, 1) := by decide +kernel
theorem dL_view_35 : decode cL_view 35 = .ok (.invokevirtual 13, 3) := by decide +kernel
theorem dL_view_38 : decode cL_view 38 = .ok (.i2l, 1) := by decide +kernel
theorem dL_view_39 : decode cL_view 39 = .ok (.ladd, 1) := by decide +kernel
theorem dL_view_40 : decode cL_view 40 = .ok (.lstore_n 1, 1) := by decide +kernel
theorem dL_view_41 : decode cL_view 41 = .ok (.iinc 3 1, 3) := by decide +kernel
theorem dL_view_44 : decode cL_view 44 = .ok (.goto (-38), 3) := by decide +kernel
theorem dL_view_47 : decode cL_view 47 = .ok (.iconst 0, 1) := by decide +kernel
theorem dL_view_48 : decode cL_view 48 = .ok (.istore_n 3, 1) := by decide +kernel
theorem dL_view_49 : decode cL_view 49 = .ok (.iload_n 3, 1) := by decide +kernel
theorem dL_view_50 : decode cL_view 50 = .ok (.bipush 8, 2) := by decide +kernel
theorem dL_view_52 : decode cL_view 52 = .ok (.if_icmp .ge 22, 3) := by decide +kernel
theorem dL_view_55 : decode cL_view 55 = .ok (.ldc2_w 11, 3) := by decide +kernel
theorem dL_view_58 : decode cL_view 58 = .ok (.lload_n 1, 1) := by decide +kernel
theorem dL_view_59 : decode cL_view 59 = .ok (.lmul, 1) := by decide +kernel
theorem dL_view_60 : decode cL_view 60 = .ok (.aload_n 0, 1) := by decide +kernel
theorem dL_view_61 : decode cL_view 61 = .ok (.iload_n 3, 1) := by decide +kernel
theorem dL_view_62 : decode cL_view 62 = .ok (.invokevirtual 19, 3) := by decide +kernel
theorem dL_view_65 : decode cL_view 65 = .ok (.i2l, 1) := by decide +kernel
theorem dL_view_66 : decode cL_view 66 = .ok (.ladd, 1) := by decide +kernel
theorem dL_view_67 : decode cL_view 67 = .ok (.lstore_n 1, 1) := by decide +kernel
theorem dL_view_68 : decode cL_view 68 = .ok (.iinc 3 1, 3) := by decide +kernel
theorem dL_view_71 : decode cL_view 71 = .ok (.goto (-22), 3) := by decide +kernel
theorem dL_view_74 : decode cL_view 74 = .ok (.iconst 0, 1) := by decide +kernel
theorem dL_view_75 : decode cL_view 75 = .ok (.istore_n 3, 1) := by decide +kernel
theorem dL_view_76 : decode cL_view 76 = .ok (.iload_n 3, 1) := by decide +kernel
theorem dL_view_77 : decode cL_view 77 = .ok (.aload_n 0, 1) := by decide +kernel
theorem dL_view_78 : decode cL_view 78 = .ok (.bipush 7, 2) := by decide +kernel
theorem dL_view_80 : decode cL_view 80 = .ok (.invokevirtual 13, 3) := by decide +kernel
theorem dL_view_83 : decode cL_view 83 = .ok (.if_icmp .ge 39, 3) := by decide +kernel
theorem dL_view_86 : decode cL_view 86 = .ok (.iconst 0, 1) := by decide +kernel
theorem dL_view_87 : decode cL_view 87 = .ok (.istore 4, 2) := by decide +kernel
theorem dL_view_89 : decode cL_view 89 = .ok (.iload 4, 2) := by decide +kernel
theorem dL_view_91 : decode cL_view 91 = .ok (.iconst 3, 1) := by decide +kernel
theorem dL_view_92 : decode cL_view 92 = .ok (.if_icmp .ge 24, 3) := by decide +kernel
theorem dL_view_95 : decode cL_view 95 = .ok (.ldc2_w 11, 3) := by decide +kernel
theorem dL_view_98 : decode cL_view 98 = .ok (.lload_n 1, 1) := by decide +kernel
theorem dL_view_99 : decode cL_view 99 = .ok (.lmul, 1) := by decide +kernel
theorem dL_view_100 : decode cL_view 100 = .ok (.aload_n 0, 1) := by decide +kernel
theorem dL_view_101 : decode cL_view 101 = .ok (.iload_n 3, 1) := by decide +kernel
theorem dL_view_102 : decode cL_view 102 = .ok (.iload 4, 2) := by decide +kernel
theorem dL_view_104 : decode cL_view 104 = .ok (.invokevirtual 22, 3) := by decide +kernel
theorem dL_view_107 : decode cL_view 107 = .ok (.i2l, 1) := by decide +kernel
theorem dL_view_108 : decode cL_view 108 = .ok (.ladd, 1) := by decide +kernel
theorem dL_view_109 : decode cL_view 109 = .ok (.lstore_n 1, 1) := by decide +kernel
theorem dL_view_110 : decode cL_view 110 = .ok (.iinc 4 1, 3) := by decide +kernel
theorem dL_view_113 : decode cL_view 113 = .ok (.goto (-24), 3) := by decide +kernel
theorem dL_view_116 : decode cL_view 116 = .ok (.iinc 3 1, 3) := by decide +kernel
theorem dL_view_119 : decode cL_view 119 = .ok (.goto (-43), 3) := by decide +kernel
theorem dL_view_122 : decode cL_view 122 = .ok (.iconst 0, 1) := by decide +kernel
theorem dL_view_123 : decode cL_view 123 = .ok (.istore_n 3, 1) := by decide +kernel
theorem dL_view_124 : decode cL_view 124 = .ok (.iload_n 3, 1) := by decide +kernel
theorem dL_view_125 : decode cL_view 125 = .ok (.aload_n 0, 1) := by decide +kernel
theorem dL_view_126 : decode cL_view 126 = .ok (.bipush 6, 2) := by decide +kernel
theorem dL_view_128 : decode cL_view 128 = .ok (.invokevirtual 13, 3) := by decide +kernel
theorem dL_view_131 : decode cL_view 131 = .ok (.if_icmp .ge 35, 3) := by decide +kernel
theorem dL_view_134 : decode cL_view 134 = .ok (.ldc2_w 11, 3) := by decide +kernel
theorem dL_view_137 : decode cL_view 137 = .ok (.ldc2_w 11, 3) := by decide +kernel
theorem dL_view_140 : decode cL_view 140 = .ok (.lload_n 1, 1) := by decide +kernel
theorem dL_view_141 : decode cL_view 141 = .ok (.lmul, 1) := by decide +kernel
theorem dL_view_142 : decode cL_view 142 = .ok (.aload_n 0, 1) := by decide +kernel
theorem dL_view_143 : decode cL_view 143 = .ok (.iload_n 3, 1) := by decide +kernel
theorem dL_view_144 : decode cL_view 144 = .ok (.iconst 0, 1) := by decide +kernel
theorem dL_view_145 : decode cL_view 145 = .ok (.invokevirtual 26, 3) := by decide +kernel
theorem dL_view_148 : decode cL_view 148 = .ok (.i2l, 1) := by decide +kernel
theorem dL_view_149 : decode cL_view 149 = .ok (.ladd, 1) := by decide +kernel
theorem dL_view_150 : decode cL_view 150 = .ok (.lmul, 1) := by decide +kernel
theorem dL_view_151 : decode cL_view 151 = .ok (.aload_n 0, 1) := by decide +kernel
theorem dL_view_152 : decode cL_view 152 = .ok (.iload_n 3, 1) := by decide +kernel
theorem dL_view_153 : decode cL_view 153 = .ok (.iconst 1, 1) := by decide +kernel
theorem dL_view_154 : decode cL_view 154 = .ok (.invokevirtual 26, 3) := by decide +kernel
theorem dL_view_157 : decode cL_view 157 = .ok (.i2l, 1) := by decide +kernel
theorem dL_view_158 : decode cL_view 158 = .ok (.ladd, 1) := by decide +kernel
theorem dL_view_159 : decode cL_view 159 = .ok (.lstore_n 1, 1) := by decide +kernel
theorem dL_view_160 : decode cL_view 160 = .ok (.iinc 3 1, 3) := by decide +kernel
theorem dL_view_163 : decode cL_view 163 = .ok (.goto (-39), 3) := by decide +kernel
theorem dL_view_166 : decode cL_view 166 = .ok (.ldc2_w 11, 3) := by decide +kernel
theorem dL_view_169 : decode cL_view 169 = .ok (.lload_n 1, 1) := by decide +kernel
theorem dL_view_170 : decode cL_view 170 = .ok (.lmul, 1) := by decide +kernel
theorem dL_view_171 : decode cL_view 171 = .ok (.aload_n 0, 1) := by decide +kernel
theorem dL_view_172 : decode cL_view 172 = .ok (.invokevirtual 29, 3) := by decide +kernel
theorem dL_view_175 : decode cL_view 175 = .ok (.i2l, 1) := by decide +kernel
theorem dL_view_176 : decode cL_view 176 = .ok (.ladd, 1) := by decide +kernel
theorem dL_view_177 : decode cL_view 177 = .ok (.lreturn, 1) := by decide +kernel
theorem dL_any_0 : decode cL_any 0 = .ok (.iload_n 2, 1) := by decide +kernel
theorem dL_any_1 : decode cL_any 1 = .ok (.bipush 7, 2) := by decide +kernel
theorem dL_any_3 : decode cL_any 3 = .ok (.iand, 1) := by decide +kernel
theorem dL_any_4 : decode cL_any 4 = .ok (.tableswitch 103 0 6 #[44, 53, 60, 67, 73, 91, 97], 44) := by decide +kernel
theorem dL_any_48 : decode cL_any 48 = .ok (.aload_n 0, 1) := by decide +kernel
theorem dL_any_49 : decode cL_any 49 = .ok (.iload_n 1, 1) := by decide +kernel
theorem dL_any_50 : decode cL_any 50 = .ok (.iload_n 2, 1) := by decide +kernel
theorem dL_any_51 : decode cL_any 51 = .ok (.iload_n 1, 1) := by decide +kernel
theorem dL_any_52 : decode cL_any 52 = .ok (.iload_n 2, 1) := by decide +kernel
theorem dL_any_53 : decode cL_any 53 = .ok (.invokevirtual 33, 3) := by decide +kernel
theorem dL_any_56 : decode cL_any 56 = .ok (.ireturn, 1) := by decide +kernel
theorem dL_any_57 : decode cL_any 57 = .ok (.aload_n 0, 1) := by decide +kernel
theorem dL_any_58 : decode cL_any 58 = .ok (.iload_n 1, 1) := by decide +kernel
theorem dL_any_59 : decode cL_any 59 = .ok (.iload_n 2, 1) := by decide +kernel
theorem dL_any_60 : decode cL_any 60 = .ok (.invokevirtual 37, 3) := by decide +kernel
theorem dL_any_63 : decode cL_any 63 = .ok (.ireturn, 1) := by decide +kernel
theorem dL_any_64 : decode cL_any 64 = .ok (.aload_n 0, 1) := by decide +kernel
theorem dL_any_65 : decode cL_any 65 = .ok (.iload_n 1, 1) := by decide +kernel
theorem dL_any_66 : decode cL_any 66 = .ok (.iload_n 2, 1) := by decide +kernel
theorem dL_any_67 : decode cL_any 67 = .ok (.invokevirtual 40, 3) := by decide +kernel
theorem dL_any_70 : decode cL_any 70 = .ok (.ireturn, 1) := by decide +kernel
theorem dL_any_71 : decode cL_any 71 = .ok (.aload_n 0, 1) := by decide +kernel
theorem dL_any_72 : decode cL_any 72 = .ok (.iload_n 1, 1) := by decide +kernel
theorem dL_any_73 : decode cL_any 73 = .ok (.invokevirtual 43, 3) := by decide +kernel
theorem dL_any_76 : decode cL_any 76 = .ok (.ireturn, 1) := by decide +kernel
theorem dL_any_77 : decode cL_any 77 = .ok (.aload_n 0, 1) := by decide +kernel
theorem dL_any_78 : decode cL_any 78 = .ok (.iload_n 2, 1) := by decide +kernel
theorem dL_any_79 : decode cL_any 79 = .ok (.bipush 8, 2) := by decide +kernel
theorem dL_any_81 : decode cL_any 81 = .ok (.iand, 1) := by decide +kernel
theorem dL_any_82 : decode cL_any 82 = .ok (.ifCond .ne 7, 3) := by decide +kernel
theorem dL_any_85 : decode cL_any 85 = .ok (.iconst 1, 1) := by decide +kernel
theorem dL_any_86 : decode cL_any 86 = .ok (.goto 4, 3) := by decide +kernel
theorem dL_any_89 : decode cL_any 89 = .ok (.iconst 0, 1) := by decide +kernel
theorem dL_any_90 : decode cL_any 90 = .ok (.iload_n 1, 1) := by decide +kernel
theorem dL_any_91 : decode cL_any 91 = .ok (.invokevirtual 46, 3) := by decide +kernel
theorem dL_any_94 : decode cL_any 94 = .ok (.ireturn, 1) := by decide +kernel
theorem dL_any_95 : decode cL_any 95 = .ok (.aload_n 0, 1) := by decide +kernel
theorem dL_any_96 : decode cL_any 96 = .ok (.iload_n 1, 1) := by decide +kernel
theorem dL_any_97 : decode cL_any 97 = .ok (.invokevirtual 50, 3) := by decide +kernel
theorem dL_any_100 : decode cL_any 100 = .ok (.ireturn, 1) := by decide +kernel
theorem dL_any_101 : decode cL_any 101 = .ok (.aload_n 0, 1) := by decide +kernel
theorem dL_any_102 : decode cL_any 102 = .ok (.iload_n 1, 1) := by decide +kernel
theorem dL_any_103 : decode cL_any 103 = .ok (.invokevirtual 53, 3) := by decide +kernel
theorem dL_any_106 : decode cL_any 106 = .ok (.ireturn, 1) := by decide +kernel
theorem dL_any_107 : decode cL_any 107 = .ok (.aload_n 0, 1) := by decide +kernel
theorem dL_any_108 : decode cL_any 108 = .ok (.iload_n 1, 1) := by decide +kernel
theorem dL_any_109 : decode cL_any 109 = .ok (.invokevirtual 56, 3) := by decide +kernel
theorem dL_any_112 : decode cL_any 112 = .ok (.ireturn, 1) := by decide +kernel
theorem dL_turn_0 : decode cL_turn 0 = .ok (.iload_n 1, 1) := by decide +kernel
theorem dL_turn_1 : decode cL_turn 1 = .ok (.tableswitch 308 0 14 #[75, 138, 156, 177, 191, 240, 240, 240, 245, 263, 273, 273, 273, 273, 298], 75) := by decide +kernel
theorem dL_turn_76 : decode cL_turn 76 = .ok (.aload_n 0, 1) := by decide +kernel
theorem dL_turn_77 : decode cL_turn 77 = .ok (.iconst 1, 1) := by decide +kernel
theorem dL_turn_78 : decode cL_turn 78 = .ok (.iload_n 2, 1) := by decide +kernel
theorem dL_turn_79 : decode cL_turn 79 = .ok (.iload_n 2, 1) := by decide +kernel
theorem dL_turn_80 : decode cL_turn 80 = .ok (.iconst 1, 1) := by decide +kernel
theorem dL_turn_81 : decode cL_turn 81 = .ok (.iand, 1) := by decide +kernel
theorem dL_turn_82 : decode cL_turn 82 = .ok (.ifCond .ne 9, 3) := by decide +kernel
theorem dL_turn_85 : decode cL_turn 85 = .ok (.sipush 9000, 3) := by decide +kernel
theorem dL_turn_88 : decode cL_turn 88 = .ok (.goto 6, 3) := by decide +kernel
theorem dL_turn_91 : decode cL_turn 91 = .ok (.sipush 600, 3) := by decide +kernel
theorem dL_turn_94 : decode cL_turn 94 = .ok (.invokestatic 59, 3) := by decide +kernel
theorem dL_turn_97 : decode cL_turn 97 = .ok (.iadd, 1) := by decide +kernel
theorem dL_turn_98 : decode cL_turn 98 = .ok (.iload_n 3, 1) := by decide +kernel
theorem dL_turn_99 : decode cL_turn 99 = .ok (.sipush 600, 3) := by decide +kernel
theorem dL_turn_102 : decode cL_turn 102 = .ok (.invokestatic 59, 3) := by decide +kernel
theorem dL_turn_105 : decode cL_turn 105 = .ok (.sipush 300, 3) := by decide +kernel
theorem dL_turn_108 : decode cL_turn 108 = .ok (.isub, 1) := by decide +kernel
theorem dL_turn_109 : decode cL_turn 109 = .ok (.iload_n 2, 1) := by decide +kernel
theorem dL_turn_110 : decode cL_turn 110 = .ok (.bipush 8, 2) := by decide +kernel
theorem dL_turn_112 : decode cL_turn 112 = .ok (.ishr, 1) := by decide +kernel
theorem dL_turn_113 : decode cL_turn 113 = .ok (.sipush 900, 3) := by decide +kernel
theorem dL_turn_116 : decode cL_turn 116 = .ok (.invokestatic 59, 3) := by decide +kernel
theorem dL_turn_119 : decode cL_turn 119 = .ok (.sipush 600, 3) := by decide +kernel
theorem dL_turn_122 : decode cL_turn 122 = .ok (.isub, 1) := by decide +kernel
theorem dL_turn_123 : decode cL_turn 123 = .ok (.iload_n 3, 1) := by decide +kernel
theorem dL_turn_124 : decode cL_turn 124 = .ok (.bipush 9, 2) := by decide +kernel
theorem dL_turn_126 : decode cL_turn 126 = .ok (.ishr, 1) := by decide +kernel
theorem dL_turn_127 : decode cL_turn 127 = .ok (.bipush 60, 2) := by decide +kernel
theorem dL_turn_129 : decode cL_turn 129 = .ok (.invokestatic 59, 3) := by decide +kernel
theorem dL_turn_132 : decode cL_turn 132 = .ok (.bipush 30, 2) := by decide +kernel
theorem dL_turn_134 : decode cL_turn 134 = .ok (.isub, 1) := by decide +kernel
theorem dL_turn_135 : decode cL_turn 135 = .ok (.invokevirtual 33, 3) := by decide +kernel
theorem dL_turn_138 : decode cL_turn 138 = .ok (.ireturn, 1) := by decide +kernel
theorem dL_turn_139 : decode cL_turn 139 = .ok (.aload_n 0, 1) := by decide +kernel
theorem dL_turn_140 : decode cL_turn 140 = .ok (.iload_n 2, 1) := by decide +kernel
theorem dL_turn_141 : decode cL_turn 141 = .ok (.bipush 8, 2) := by decide +kernel
theorem dL_turn_143 : decode cL_turn 143 = .ok (.invokestatic 59, 3) := by decide +kernel
theorem dL_turn_146 : decode cL_turn 146 = .ok (.iload_n 3, 1) := by decide +kernel
theorem dL_turn_147 : decode cL_turn 147 = .ok (.sipush 501, 3) := by decide +kernel
theorem dL_turn_150 : decode cL_turn 150 = .ok (.invokestatic 59, 3) := by decide +kernel
theorem dL_turn_153 : decode cL_turn 153 = .ok (.invokevirtual 37, 3) := by decide +kernel
theorem dL_turn_156 : decode cL_turn 156 = .ok (.ireturn, 1) := by decide +kernel
theorem dL_turn_157 : decode cL_turn 157 = .ok (.aload_n 0, 1) := by decide +kernel
theorem dL_turn_158 : decode cL_turn 158 = .ok (.iload_n 2, 1) := by decide +kernel
theorem dL_turn_159 : decode cL_turn 159 = .ok (.sipush 8000, 3) := by decide +kernel
theorem dL_turn_162 : decode cL_turn 162 = .ok (.invokestatic 59, 3) := by decide +kernel
theorem dL_turn_165 : decode cL_turn 165 = .ok (.iconst 1, 1) := by decide +kernel
theorem dL_turn_166 : decode cL_turn 166 = .ok (.iload_n 3, 1) := by decide +kernel
theorem dL_turn_167 : decode cL_turn 167 = .ok (.sipush 900, 3) := by decide +kernel
theorem dL_turn_170 : decode cL_turn 170 = .ok (.invokestatic 59, 3) := by decide +kernel
theorem dL_turn_173 : decode cL_turn 173 = .ok (.iadd, 1) := by decide +kernel
theorem dL_turn_174 : decode cL_turn 174 = .ok (.invokevirtual 40, 3) := by decide +kernel
theorem dL_turn_177 : decode cL_turn 177 = .ok (.ireturn, 1) := by decide +kernel
theorem dL_turn_178 : decode cL_turn 178 = .ok (.aload_n 0, 1) := by decide +kernel
theorem dL_turn_179 : decode cL_turn 179 = .ok (.iconst 1, 1) := by decide +kernel
theorem dL_turn_180 : decode cL_turn 180 = .ok (.iload_n 2, 1) := by decide +kernel
theorem dL_turn_181 : decode cL_turn 181 = .ok (.sipush 9000, 3) := by decide +kernel
theorem dL_turn_184 : decode cL_turn 184 = .ok (.invokestatic 59, 3) := by decide +kernel
theorem dL_turn_187 : decode cL_turn 187 = .ok (.iadd, 1) := by decide +kernel
theorem dL_turn_188 : decode cL_turn 188 = .ok (.invokevirtual 43, 3) := by decide +kernel
theorem dL_turn_191 : decode cL_turn 191 = .ok (.ireturn, 1) := by decide +kernel
theorem dL_turn_192 : decode cL_turn 192 = .ok (.aload_n 0, 1) := by decide +kernel
theorem dL_turn_193 : decode cL_turn 193 = .ok (.iload_n 2, 1) := by decide +kernel
theorem dL_turn_194 : decode cL_turn 194 = .ok (.iconst 1, 1) := by decide +kernel
theorem dL_turn_195 : decode cL_turn 195 = .ok (.iand, 1) := by decide +kernel
theorem dL_turn_196 : decode cL_turn 196 = .ok (.ifCond .ne 7, 3) := by decide +kernel
theorem dL_turn_199 : decode cL_turn 199 = .ok (.iconst 1, 1) := by decide +kernel
theorem dL_turn_200 : decode cL_turn 200 = .ok (.goto 4, 3) := by decide +kernel
theorem dL_turn_203 : decode cL_turn 203 = .ok (.iconst 0, 1) := by decide +kernel
theorem dL_turn_204 : decode cL_turn 204 = .ok (.iload_n 3, 1) := by decide +kernel
theorem dL_turn_205 : decode cL_turn 205 = .ok (.iload_n 2, 1) := by decide +kernel
theorem dL_turn_206 : decode cL_turn 206 = .ok (.iconst 2, 1) := by decide +kernel
theorem dL_turn_207 : decode cL_turn 207 = .ok (.iand, 1) := by decide +kernel
theorem dL_turn_208 : decode cL_turn 208 = .ok (.ifCond .ne 8, 3) := by decide +kernel
theorem dL_turn_211 : decode cL_turn 211 = .ok (.bipush 60, 2) := by decide +kernel
theorem dL_turn_213 : decode cL_turn 213 = .ok (.goto 6, 3) := by decide +kernel
theorem dL_turn_216 : decode cL_turn 216 = .ok (.sipush 1001, 3) := by decide +kernel
theorem dL_turn_219 : decode cL_turn 219 = .ok (.invokestatic 59, 3) := by decide +kernel
theorem dL_turn_222 : decode cL_turn 222 = .ok (.iload_n 2, 1) := by decide +kernel
theorem dL_turn_223 : decode cL_turn 223 = .ok (.iconst 2, 1) := by decide +kernel
theorem dL_turn_224 : decode cL_turn 224 = .ok (.iand, 1) := by decide +kernel
theorem dL_turn_225 : decode cL_turn 225 = .ok (.ifCond .ne 8, 3) := by decide +kernel
theorem dL_turn_228 : decode cL_turn 228 = .ok (.bipush 30, 2) := by decide +kernel
theorem dL_turn_230 : decode cL_turn 230 = .ok (.goto 6, 3) := by decide +kernel
theorem dL_turn_233 : decode cL_turn 233 = .ok (.sipush 500, 3) := by decide +kernel
theorem dL_turn_236 : decode cL_turn 236 = .ok (.isub, 1) := by decide +kernel
theorem dL_turn_237 : decode cL_turn 237 = .ok (.invokevirtual 46, 3) := by decide +kernel
theorem dL_turn_240 : decode cL_turn 240 = .ok (.ireturn, 1) := by decide +kernel
theorem dL_turn_241 : decode cL_turn 241 = .ok (.aload_n 0, 1) := by decide +kernel
theorem dL_turn_242 : decode cL_turn 242 = .ok (.invokevirtual 64, 3) := by decide +kernel
theorem dL_turn_245 : decode cL_turn 245 = .ok (.ireturn, 1) := by decide +kernel
theorem dL_turn_246 : decode cL_turn 246 = .ok (.iload_n 2, 1) := by decide +kernel
theorem dL_turn_247 : decode cL_turn 247 = .ok (.iconst 3, 1) := by decide +kernel
theorem dL_turn_248 : decode cL_turn 248 = .ok (.iand, 1) := by decide +kernel
theorem dL_turn_249 : decode cL_turn 249 = .ok (.ifCond .ne 10, 3) := by decide +kernel
theorem dL_turn_252 : decode cL_turn 252 = .ok (.aload_n 0, 1) := by decide +kernel
theorem dL_turn_253 : decode cL_turn 253 = .ok (.invokevirtual 67, 3) := by decide +kernel
theorem dL_turn_256 : decode cL_turn 256 = .ok (.goto 7, 3) := by decide +kernel
theorem dL_turn_259 : decode cL_turn 259 = .ok (.aload_n 0, 1) := by decide +kernel
theorem dL_turn_260 : decode cL_turn 260 = .ok (.invokevirtual 70, 3) := by decide +kernel
theorem dL_turn_263 : decode cL_turn 263 = .ok (.ireturn, 1) := by decide +kernel
theorem dL_turn_264 : decode cL_turn 264 = .ok (.aload_n 0, 1) := by decide +kernel
theorem dL_turn_265 : decode cL_turn 265 = .ok (.iload_n 2, 1) := by decide +kernel
theorem dL_turn_266 : decode cL_turn 266 = .ok (.iconst 4, 1) := by decide +kernel
theorem dL_turn_267 : decode cL_turn 267 = .ok (.invokestatic 59, 3) := by decide +kernel
theorem dL_turn_270 : decode cL_turn 270 = .ok (.invokevirtual 50, 3) := by decide +kernel
theorem dL_turn_273 : decode cL_turn 273 = .ok (.ireturn, 1) := by decide +kernel
theorem dL_turn_274 : decode cL_turn 274 = .ok (.aload_n 0, 1) := by decide +kernel
theorem dL_turn_275 : decode cL_turn 275 = .ok (.iconst 1, 1) := by decide +kernel
theorem dL_turn_276 : decode cL_turn 276 = .ok (.iload_n 3, 1) := by decide +kernel
theorem dL_turn_277 : decode cL_turn 277 = .ok (.iload_n 2, 1) := by decide +kernel
theorem dL_turn_278 : decode cL_turn 278 = .ok (.iconst 3, 1) := by decide +kernel
theorem dL_turn_279 : decode cL_turn 279 = .ok (.iand, 1) := by decide +kernel
theorem dL_turn_280 : decode cL_turn 280 = .ok (.ifCond .ne 9, 3) := by decide +kernel
theorem dL_turn_283 : decode cL_turn 283 = .ok (.sipush 200, 3) := by decide +kernel
theorem dL_turn_286 : decode cL_turn 286 = .ok (.goto 5, 3) := by decide +kernel
theorem dL_turn_289 : decode cL_turn 289 = .ok (.bipush 12, 2) := by decide +kernel
theorem dL_turn_291 : decode cL_turn 291 = .ok (.invokestatic 59, 3) := by decide +kernel
theorem dL_turn_294 : decode cL_turn 294 = .ok (.iadd, 1) := by decide +kernel
theorem dL_turn_295 : decode cL_turn 295 = .ok (.invokevirtual 53, 3) := by decide +kernel
theorem dL_turn_298 : decode cL_turn 298 = .ok (.ireturn, 1) := by decide +kernel
theorem dL_turn_299 : decode cL_turn 299 = .ok (.aload_n 0, 1) := by decide +kernel
theorem dL_turn_300 : decode cL_turn 300 = .ok (.iload_n 2, 1) := by decide +kernel
theorem dL_turn_301 : decode cL_turn 301 = .ok (.iconst 2, 1) := by decide +kernel
theorem dL_turn_302 : decode cL_turn 302 = .ok (.invokestatic 59, 3) := by decide +kernel
theorem dL_turn_305 : decode cL_turn 305 = .ok (.invokevirtual 50, 3) := by decide +kernel
theorem dL_turn_308 : decode cL_turn 308 = .ok (.ireturn, 1) := by decide +kernel
theorem dL_turn_309 : decode cL_turn 309 = .ok (.aload_n 0, 1) := by decide +kernel
theorem dL_turn_310 : decode cL_turn 310 = .ok (.iload_n 2, 1) := by decide +kernel
theorem dL_turn_311 : decode cL_turn 311 = .ok (.iload_n 3, 1) := by decide +kernel
theorem dL_turn_312 : decode cL_turn 312 = .ok (.invokestatic 73, 3) := by decide +kernel
theorem dL_turn_315 : decode cL_turn 315 = .ok (.ireturn, 1) := by decide +kernel
theorem dL_isRight_0 : decode cL_isRight 0 = .ok (.aload_n 0, 1) := by decide +kernel
theorem dL_isRight_1 : decode cL_isRight 1 = .ok (.iconst 0, 1) := by decide +kernel
theorem dL_isRight_2 : decode cL_isRight 2 = .ok (.invokevirtual 13, 3) := by decide +kernel
theorem dL_isRight_5 : decode cL_isRight 5 = .ok (.istore_n 1, 1) := by decide +kernel
theorem dL_isRight_6 : decode cL_isRight 6 = .ok (.iload_n 1, 1) := by decide +kernel
theorem dL_isRight_7 : decode cL_isRight 7 = .ok (.iconst 3, 1) := by decide +kernel
theorem dL_isRight_8 : decode cL_isRight 8 = .ok (.if_icmp .le 7, 3) := by decide +kernel
theorem dL_isRight_11 : decode cL_isRight 11 = .ok (.iconst 1, 1) := by decide +kernel
theorem dL_isRight_12 : decode cL_isRight 12 = .ok (.goto 4, 3) := by decide +kernel
theorem dL_isRight_15 : decode cL_isRight 15 = .ok (.iconst 0, 1) := by decide +kernel
theorem dL_isRight_16 : decode cL_isRight 16 = .ok (.istore_n 2, 1) := by decide +kernel
theorem dL_isRight_17 : decode cL_isRight 17 = .ok (.iload_n 1, 1) := by decide +kernel
theorem dL_isRight_18 : decode cL_isRight 18 = .ok (.ifCond .lt 52, 3) := by decide +kernel
theorem dL_isRight_21 : decode cL_isRight 21 = .ok (.iload_n 1, 1) := by decide +kernel
theorem dL_isRight_22 : decode cL_isRight 22 = .ok (.bipush 6, 2) := by decide +kernel
theorem dL_isRight_24 : decode cL_isRight 24 = .ok (.if_icmp .ge 46, 3) := by decide +kernel
theorem dL_isRight_27 : decode cL_isRight 27 = .ok (.iload_n 2, 1) := by decide +kernel
theorem dL_isRight_28 : decode cL_isRight 28 = .ok (.ifCond .eq 30, 3) := by decide +kernel
theorem dL_isRight_31 : decode cL_isRight 31 = .ok (.aload_n 0, 1) := by decide +kernel
theorem dL_isRight_32 : decode cL_isRight 32 = .ok (.iconst 0, 1) := by decide +kernel
theorem dL_isRight_33 : decode cL_isRight 33 = .ok (.invokevirtual 19, 3) := by decide +kernel
theorem dL_isRight_36 : decode cL_isRight 36 = .ok (.ifCond .ne 34, 3) := by decide +kernel
theorem dL_isRight_39 : decode cL_isRight 39 = .ok (.aload_n 0, 1) := by decide +kernel
theorem dL_isRight_40 : decode cL_isRight 40 = .ok (.iconst 2, 1) := by decide +kernel
theorem dL_isRight_41 : decode cL_isRight 41 = .ok (.invokevirtual 19, 3) := by decide +kernel
theorem dL_isRight_44 : decode cL_isRight 44 = .ok (.ifCond .ne 26, 3) := by decide +kernel
theorem dL_isRight_47 : decode cL_isRight 47 = .ok (.aload_n 0, 1) := by decide +kernel
theorem dL_isRight_48 : decode cL_isRight 48 = .ok (.iconst 3, 1) := by decide +kernel
theorem dL_isRight_49 : decode cL_isRight 49 = .ok (.invokevirtual 19, 3) := by decide +kernel
theorem dL_isRight_52 : decode cL_isRight 52 = .ok (.ifCond .ne 18, 3) := by decide +kernel
theorem dL_isRight_55 : decode cL_isRight 55 = .ok (.goto 11, 3) := by decide +kernel
theorem dL_isRight_58 : decode cL_isRight 58 = .ok (.aload_n 0, 1) := by decide +kernel
theorem dL_isRight_59 : decode cL_isRight 59 = .ok (.iconst 0, 1) := by decide +kernel
theorem dL_isRight_60 : decode cL_isRight 60 = .ok (.invokevirtual 19, 3) := by decide +kernel
theorem dL_isRight_63 : decode cL_isRight 63 = .ok (.ifCond .le 7, 3) := by decide +kernel
theorem dL_isRight_66 : decode cL_isRight 66 = .ok (.iconst 1, 1) := by decide +kernel
theorem dL_isRight_67 : decode cL_isRight 67 = .ok (.goto 4, 3) := by decide +kernel
theorem dL_isRight_70 : decode cL_isRight 70 = .ok (.iconst 0, 1) := by decide +kernel
theorem dL_isRight_71 : decode cL_isRight 71 = .ok (.istore_n 3, 1) := by decide +kernel
theorem dL_isRight_72 : decode cL_isRight 72 = .ok (.iload_n 3, 1) := by decide +kernel
theorem dL_isRight_73 : decode cL_isRight 73 = .ok (.ifCond .eq 57, 3) := by decide +kernel
theorem dL_isRight_76 : decode cL_isRight 76 = .ok (.aload_n 0, 1) := by decide +kernel
theorem dL_isRight_77 : decode cL_isRight 77 = .ok (.iconst 2, 1) := by decide +kernel
theorem dL_isRight_78 : decode cL_isRight 78 = .ok (.invokevirtual 13, 3) := by decide +kernel
theorem dL_isRight_81 : decode cL_isRight 81 = .ok (.ifCond .lt 49, 3) := by decide +kernel
theorem dL_isRight_84 : decode cL_isRight 84 = .ok (.aload_n 0, 1) := by decide +kernel
theorem dL_isRight_85 : decode cL_isRight 85 = .ok (.iconst 2, 1) := by decide +kernel
theorem dL_isRight_86 : decode cL_isRight 86 = .ok (.invokevirtual 13, 3) := by decide +kernel
theorem dL_isRight_89 : decode cL_isRight 89 = .ok (.iconst 2, 1) := by decide +kernel
theorem dL_isRight_90 : decode cL_isRight 90 = .ok (.if_icmp .ge 40, 3) := by decide +kernel
theorem dL_isRight_93 : decode cL_isRight 93 = .ok (.aload_n 0, 1) := by decide +kernel
theorem dL_isRight_94 : decode cL_isRight 94 = .ok (.iconst 3, 1) := by decide +kernel
theorem dL_isRight_95 : decode cL_isRight 95 = .ok (.invokevirtual 13, 3) := by decide +kernel
theorem dL_isRight_98 : decode cL_isRight 98 = .ok (.ifCond .lt 32, 3) := by decide +kernel
theorem dL_isRight_101 : decode cL_isRight 101 = .ok (.aload_n 0, 1) := by decide +kernel
theorem dL_isRight_102 : decode cL_isRight 102 = .ok (.iconst 3, 1) := by decide +kernel
theorem dL_isRight_103 : decode cL_isRight 103 = .ok (.invokevirtual 13, 3) := by decide +kernel
theorem dL_isRight_106 : decode cL_isRight 106 = .ok (.iconst 3, 1) := by decide +kernel
theorem dL_isRight_107 : decode cL_isRight 107 = .ok (.if_icmp .ge 23, 3) := by decide +kernel
theorem dL_isRight_110 : decode cL_isRight 110 = .ok (.aload_n 0, 1) := by decide +kernel
theorem dL_isRight_111 : decode cL_isRight 111 = .ok (.iconst 4, 1) := by decide +kernel
theorem dL_isRight_112 : decode cL_isRight 112 = .ok (.invokevirtual 13, 3) := by decide +kernel
theorem dL_isRight_115 : decode cL_isRight 115 = .ok (.ifCond .eq 11, 3) := by decide +kernel
theorem dL_isRight_118 : decode cL_isRight 118 = .ok (.aload_n 0, 1) := by decide +kernel
theorem dL_isRight_119 : decode cL_isRight 119 = .ok (.iconst 3, 1) := by decide +kernel
theorem dL_isRight_120 : decode cL_isRight 120 = .ok (.invokevirtual 13, 3) := by decide +kernel
theorem dL_isRight_123 : decode cL_isRight 123 = .ok (.ifCond .ne 7, 3) := by decide +kernel
theorem dL_isRight_126 : decode cL_isRight 126 = .ok (.iconst 1, 1) := by decide +kernel
theorem dL_isRight_127 : decode cL_isRight 127 = .ok (.goto 4, 3) := by decide +kernel
theorem dL_isRight_130 : decode cL_isRight 130 = .ok (.iconst 0, 1) := by decide +kernel
theorem dL_isRight_131 : decode cL_isRight 131 = .ok (.istore_n 3, 1) := by decide +kernel
theorem dL_isRight_132 : decode cL_isRight 132 = .ok (.iconst 0, 1) := by decide +kernel
theorem dL_isRight_133 : decode cL_isRight 133 = .ok (.istore 4, 2) := by decide +kernel
theorem dL_isRight_135 : decode cL_isRight 135 = .ok (.iconst 0, 1) := by decide +kernel
theorem dL_isRight_136 : decode cL_isRight 136 = .ok (.istore 5, 2) := by decide +kernel
theorem dL_isRight_138 : decode cL_isRight 138 = .ok (.iconst 0, 1) := by decide +kernel
theorem dL_isRight_139 : decode cL_isRight 139 = .ok (.istore 6, 2) := by decide +kernel
theorem dL_isRight_141 : decode cL_isRight 141 = .ok (.iload 6, 2) := by decide +kernel
theorem dL_isRight_143 : decode cL_isRight 143 = .ok (.aload_n 0, 1) := by decide +kernel
theorem dL_isRight_144 : decode cL_isRight 144 = .ok (.bipush 7, 2) := by decide +kernel
theorem dL_isRight_146 : decode cL_isRight 146 = .ok (.invokevirtual 13, 3) := by decide +kernel
theorem dL_isRight_149 : decode cL_isRight 149 = .ok (.if_icmp .ge 70, 3) := by decide +kernel
theorem dL_isRight_152 : decode cL_isRight 152 = .ok (.iload 4, 2) := by decide +kernel
theorem dL_isRight_154 : decode cL_isRight 154 = .ok (.aload_n 0, 1) := by decide +kernel
theorem dL_isRight_155 : decode cL_isRight 155 = .ok (.iload 6, 2) := by decide +kernel
theorem dL_isRight_157 : decode cL_isRight 157 = .ok (.iconst 2, 1) := by decide +kernel
theorem dL_isRight_158 : decode cL_isRight 158 = .ok (.invokevirtual 22, 3) := by decide +kernel
theorem dL_isRight_161 : decode cL_isRight 161 = .ok (.iadd, 1) := by decide +kernel
theorem dL_isRight_162 : decode cL_isRight 162 = .ok (.istore 4, 2) := by decide +kernel
theorem dL_isRight_164 : decode cL_isRight 164 = .ok (.iload 5, 2) := by decide +kernel
theorem dL_isRight_166 : decode cL_isRight 166 = .ok (.iconst 1, 1) := by decide +kernel
theorem dL_isRight_167 : decode cL_isRight 167 = .ok (.aload_n 0, 1) := by decide +kernel
theorem dL_isRight_168 : decode cL_isRight 168 = .ok (.iload 6, 2) := by decide +kernel
theorem dL_isRight_170 : decode cL_isRight 170 = .ok (.iconst 1, 1) := by decide +kernel
theorem dL_isRight_171 : decode cL_isRight 171 = .ok (.invokevirtual 22, 3) := by decide +kernel
theorem dL_isRight_174 : decode cL_isRight 174 = .ok (.isub, 1) := by decide +kernel
theorem dL_isRight_175 : decode cL_isRight 175 = .ok (.iadd, 1) := by decide +kernel
theorem dL_isRight_176 : decode cL_isRight 176 = .ok (.istore 5, 2) := by decide +kernel
theorem dL_isRight_178 : decode cL_isRight 178 = .ok (.iload_n 3, 1) := by decide +kernel
theorem dL_isRight_179 : decode cL_isRight 179 = .ok (.ifCond .eq 32, 3) := by decide +kernel
theorem dL_isRight_182 : decode cL_isRight 182 = .ok (.aload_n 0, 1) := by decide +kernel
theorem dL_isRight_183 : decode cL_isRight 183 = .ok (.iload 6, 2) := by decide +kernel
theorem dL_isRight_185 : decode cL_isRight 185 = .ok (.iconst 2, 1) := by decide +kernel
theorem dL_isRight_186 : decode cL_isRight 186 = .ok (.invokevirtual 22, 3) := by decide +kernel
theorem dL_isRight_189 : decode cL_isRight 189 = .ok (.ifCond .eq 18, 3) := by decide +kernel
theorem dL_isRight_192 : decode cL_isRight 192 = .ok (.aload_n 0, 1) := by decide +kernel
theorem dL_isRight_193 : decode cL_isRight 193 = .ok (.iload 6, 2) := by decide +kernel
theorem dL_isRight_195 : decode cL_isRight 195 = .ok (.iconst 1, 1) := by decide +kernel
theorem dL_isRight_196 : decode cL_isRight 196 = .ok (.invokevirtual 22, 3) := by decide +kernel
theorem dL_isRight_199 : decode cL_isRight 199 = .ok (.ifCond .ne 12, 3) := by decide +kernel
theorem dL_isRight_202 : decode cL_isRight 202 = .ok (.iload_n 1, 1) := by decide +kernel
theorem dL_isRight_203 : decode cL_isRight 203 = .ok (.iconst 2, 1) := by decide +kernel
theorem dL_isRight_204 : decode cL_isRight 204 = .ok (.if_icmp .ne 7, 3) := by decide +kernel
theorem dL_isRight_207 : decode cL_isRight 207 = .ok (.iconst 1, 1) := by decide +kernel
theorem dL_isRight_208 : decode cL_isRight 208 = .ok (.goto 4, 3) := by decide +kernel
theorem dL_isRight_211 : decode cL_isRight 211 = .ok (.iconst 0, 1) := by decide +kernel
theorem dL_isRight_212 : decode cL_isRight 212 = .ok (.istore_n 3, 1) := by decide +kernel
theorem dL_isRight_213 : decode cL_isRight 213 = .ok (.iinc 6 1, 3) := by decide +kernel
theorem dL_isRight_216 : decode cL_isRight 216 = .ok (.goto (-75), 3) := by decide +kernel
theorem dL_isRight_219 : decode cL_isRight 219 = .ok (.aload_n 0, 1) := by decide +kernel
theorem dL_isRight_220 : decode cL_isRight 220 = .ok (.iconst 5, 1) := by decide +kernel
theorem dL_isRight_221 : decode cL_isRight 221 = .ok (.invokevirtual 13, 3) := by decide +kernel
theorem dL_isRight_224 : decode cL_isRight 224 = .ok (.istore 6, 2) := by decide +kernel
theorem dL_isRight_226 : decode cL_isRight 226 = .ok (.iload_n 3, 1) := by decide +kernel
theorem dL_isRight_227 : decode cL_isRight 227 = .ok (.ifCond .eq 24, 3) := by decide +kernel
theorem dL_isRight_230 : decode cL_isRight 230 = .ok (.iload 6, 2) := by decide +kernel
theorem dL_isRight_232 : decode cL_isRight 232 = .ok (.bipush (-5), 2) := by decide +kernel
theorem dL_isRight_234 : decode cL_isRight 234 = .ok (.if_icmp .eq 13, 3) := by decide +kernel
theorem dL_isRight_237 : decode cL_isRight 237 = .ok (.aload_n 0, 1) := by decide +kernel
theorem dL_isRight_238 : decode cL_isRight 238 = .ok (.iload 6, 2) := by decide +kernel
theorem dL_isRight_240 : decode cL_isRight 240 = .ok (.iconst 1, 1) := by decide +kernel
theorem dL_isRight_241 : decode cL_isRight 241 = .ok (.invokevirtual 22, 3) := by decide +kernel
theorem dL_isRight_244 : decode cL_isRight 244 = .ok (.ifCond .ne 7, 3) := by decide +kernel
theorem dL_isRight_247 : decode cL_isRight 247 = .ok (.iconst 1, 1) := by decide +kernel
theorem dL_isRight_248 : decode cL_isRight 248 = .ok (.goto 4, 3) := by decide +kernel
theorem dL_isRight_251 : decode cL_isRight 251 = .ok (.iconst 0, 1) := by decide +kernel
theorem dL_isRight_252 : decode cL_isRight 252 = .ok (.istore_n 3, 1) := by decide +kernel
theorem dL_isRight_253 : decode cL_isRight 253 = .ok (.iload_n 3, 1) := by decide +kernel
theorem dL_isRight_254 : decode cL_isRight 254 = .ok (.ifCond .eq 68, 3) := by decide +kernel
theorem dL_isRight_257 : decode cL_isRight 257 = .ok (.iload 4, 2) := by decide +kernel
theorem dL_isRight_259 : decode cL_isRight 259 = .ok (.iconst 1, 1) := by decide +kernel
theorem dL_isRight_260 : decode cL_isRight 260 = .ok (.if_icmp .gt 62, 3) := by decide +kernel
theorem dL_isRight_263 : decode cL_isRight 263 = .ok (.iload 5, 2) := by decide +kernel
theorem dL_isRight_265 : decode cL_isRight 265 = .ok (.aload_n 0, 1) := by decide +kernel
theorem dL_isRight_266 : decode cL_isRight 266 = .ok (.bipush 8, 2) := by decide +kernel
theorem dL_isRight_268 : decode cL_isRight 268 = .ok (.invokevirtual 13, 3) := by decide +kernel
theorem dL_isRight_271 : decode cL_isRight 271 = .ok (.if_icmp .ne 51, 3) := by decide +kernel
theorem dL_isRight_274 : decode cL_isRight 274 = .ok (.aload_n 0, 1) := by decide +kernel
theorem dL_isRight_275 : decode cL_isRight 275 = .ok (.aload_n 0, 1) := by decide +kernel
theorem dL_isRight_276 : decode cL_isRight 276 = .ok (.iconst 4, 1) := by decide +kernel
theorem dL_isRight_277 : decode cL_isRight 277 = .ok (.invokevirtual 13, 3) := by decide +kernel
theorem dL_isRight_280 : decode cL_isRight 280 = .ok (.iconst 1, 1) := by decide +kernel
theorem dL_isRight_281 : decode cL_isRight 281 = .ok (.if_icmp .ne 8, 3) := by decide +kernel
theorem dL_isRight_284 : decode cL_isRight 284 = .ok (.bipush 7, 2) := by decide +kernel
theorem dL_isRight_286 : decode cL_isRight 286 = .ok (.goto 5, 3) := by decide +kernel
theorem dL_isRight_289 : decode cL_isRight 289 = .ok (.bipush 6, 2) := by decide +kernel
theorem dL_isRight_291 : decode cL_isRight 291 = .ok (.invokevirtual 19, 3) := by decide +kernel
theorem dL_isRight_294 : decode cL_isRight 294 = .ok (.aload_n 0, 1) := by decide +kernel
theorem dL_isRight_295 : decode cL_isRight 295 = .ok (.iconst 4, 1) := by decide +kernel
theorem dL_isRight_296 : decode cL_isRight 296 = .ok (.invokevirtual 19, 3) := by decide +kernel
theorem dL_isRight_299 : decode cL_isRight 299 = .ok (.if_icmp .ne 23, 3) := by decide +kernel
theorem dL_isRight_302 : decode cL_isRight 302 = .ok (.aload_n 0, 1) := by decide +kernel
theorem dL_isRight_303 : decode cL_isRight 303 = .ok (.invokevirtual 29, 3) := by decide +kernel
theorem dL_isRight_306 : decode cL_isRight 306 = .ok (.ifCond .lt 16, 3) := by decide +kernel
theorem dL_isRight_309 : decode cL_isRight 309 = .ok (.aload_n 0, 1) := by decide +kernel
theorem dL_isRight_310 : decode cL_isRight 310 = .ok (.invokevirtual 29, 3) := by decide +kernel
theorem dL_isRight_313 : decode cL_isRight 313 = .ok (.bipush 8, 2) := by decide +kernel
theorem dL_isRight_315 : decode cL_isRight 315 = .ok (.if_icmp .ge 7, 3) := by decide +kernel
theorem dL_isRight_318 : decode cL_isRight 318 = .ok (.iconst 1, 1) := by decide +kernel
theorem dL_isRight_319 : decode cL_isRight 319 = .ok (.goto 4, 3) := by decide +kernel
theorem dL_isRight_322 : decode cL_isRight 322 = .ok (.iconst 0, 1) := by decide +kernel
theorem dL_isRight_323 : decode cL_isRight 323 = .ok (.ireturn, 1) := by decide +kernel
theorem dL_comesTrue_0 : decode cL_comesTrue 0 = .ok (.aload_n 0, 1) := by decide +kernel
theorem dL_comesTrue_1 : decode cL_comesTrue 1 = .ok (.invokestatic 77, 3) := by decide +kernel
theorem dL_comesTrue_4 : decode cL_comesTrue 4 = .ok (.lstore_n 3, 1) := by decide +kernel
theorem dL_comesTrue_5 : decode cL_comesTrue 5 = .ok (.aload_n 0, 1) := by decide +kernel
theorem dL_comesTrue_6 : decode cL_comesTrue 6 = .ok (.iload_n 1, 1) := by decide +kernel
theorem dL_comesTrue_7 : decode cL_comesTrue 7 = .ok (.invokevirtual 81, 3) := by decide +kernel
theorem dL_comesTrue_10 : decode cL_comesTrue 10 = .ok (.istore 5, 2) := by decide +kernel
theorem dL_comesTrue_12 : decode cL_comesTrue 12 = .ok (.aload_n 0, 1) := by decide +kernel
theorem dL_comesTrue_13 : decode cL_comesTrue 13 = .ok (.iload_n 2, 1) := by decide +kernel
theorem dL_comesTrue_14 : decode cL_comesTrue 14 = .ok (.invokevirtual 84, 3) := by decide +kernel
theorem dL_comesTrue_17 : decode cL_comesTrue 17 = .ok (.istore 6, 2) := by decide +kernel
theorem dL_comesTrue_19 : decode cL_comesTrue 19 = .ok (.aload_n 0, 1) := by decide +kernel
theorem dL_comesTrue_20 : decode cL_comesTrue 20 = .ok (.iconst 1, 1) := by decide +kernel
theorem dL_comesTrue_21 : decode cL_comesTrue 21 = .ok (.invokevirtual 13, 3) := by decide +kernel
theorem dL_comesTrue_24 : decode cL_comesTrue 24 = .ok (.istore 7, 2) := by decide +kernel
theorem dL_comesTrue_26 : decode cL_comesTrue 26 = .ok (.aload_n 0, 1) := by decide +kernel
theorem dL_comesTrue_27 : decode cL_comesTrue 27 = .ok (.invokestatic 77, 3) := by decide +kernel
theorem dL_comesTrue_30 : decode cL_comesTrue 30 = .ok (.lload_n 3, 1) := by decide +kernel
theorem dL_comesTrue_31 : decode cL_comesTrue 31 = .ok (.lcmp, 1) := by decide +kernel
theorem dL_comesTrue_32 : decode cL_comesTrue 32 = .ok (.ifCond .ne 28, 3) := by decide +kernel
theorem dL_comesTrue_35 : decode cL_comesTrue 35 = .ok (.aload_n 0, 1) := by decide +kernel
theorem dL_comesTrue_36 : decode cL_comesTrue 36 = .ok (.iconst 0, 1) := by decide +kernel
theorem dL_comesTrue_37 : decode cL_comesTrue 37 = .ok (.invokevirtual 81, 3) := by decide +kernel
theorem dL_comesTrue_40 : decode cL_comesTrue 40 = .ok (.aload_n 0, 1) := by decide +kernel
theorem dL_comesTrue_41 : decode cL_comesTrue 41 = .ok (.iconst 0, 1) := by decide +kernel
theorem dL_comesTrue_42 : decode cL_comesTrue 42 = .ok (.invokevirtual 13, 3) := by decide +kernel
theorem dL_comesTrue_45 : decode cL_comesTrue 45 = .ok (.if_icmp .ne 15, 3) := by decide +kernel
theorem dL_comesTrue_48 : decode cL_comesTrue 48 = .ok (.aload_n 0, 1) := by decide +kernel
theorem dL_comesTrue_49 : decode cL_comesTrue 49 = .ok (.aload_n 0, 1) := by decide +kernel
theorem dL_comesTrue_50 : decode cL_comesTrue 50 = .ok (.iconst 0, 1) := by decide +kernel
theorem dL_comesTrue_51 : decode cL_comesTrue 51 = .ok (.invokevirtual 13, 3) := by decide +kernel
theorem dL_comesTrue_54 : decode cL_comesTrue 54 = .ok (.invokevirtual 84, 3) := by decide +kernel
theorem dL_comesTrue_57 : decode cL_comesTrue 57 = .ok (.ifCond .eq 5, 3) := by decide +kernel
theorem dL_comesTrue_60 : decode cL_comesTrue 60 = .ok (.iconst 0, 1) := by decide +kernel
theorem dL_comesTrue_61 : decode cL_comesTrue 61 = .ok (.ireturn, 1) := by decide +kernel
theorem dL_comesTrue_62 : decode cL_comesTrue 62 = .ok (.aload_n 0, 1) := by decide +kernel
theorem dL_comesTrue_63 : decode cL_comesTrue 63 = .ok (.iload_n 1, 1) := by decide +kernel
theorem dL_comesTrue_64 : decode cL_comesTrue 64 = .ok (.invokevirtual 53, 3) := by decide +kernel
theorem dL_comesTrue_67 : decode cL_comesTrue 67 = .ok (.iload 5, 2) := by decide +kernel
theorem dL_comesTrue_69 : decode cL_comesTrue 69 = .ok (.if_icmp .ne 19, 3) := by decide +kernel
theorem dL_comesTrue_72 : decode cL_comesTrue 72 = .ok (.aload_n 0, 1) := by decide +kernel
theorem dL_comesTrue_73 : decode cL_comesTrue 73 = .ok (.iconst 1, 1) := by decide +kernel
theorem dL_comesTrue_74 : decode cL_comesTrue 74 = .ok (.invokevirtual 13, 3) := by decide +kernel
theorem dL_comesTrue_77 : decode cL_comesTrue 77 = .ok (.iload 7, 2) := by decide +kernel
theorem dL_comesTrue_79 : decode cL_comesTrue 79 = .ok (.iload_n 1, 1) := by decide +kernel
theorem dL_comesTrue_80 : decode cL_comesTrue 80 = .ok (.iadd, 1) := by decide +kernel
theorem dL_comesTrue_81 : decode cL_comesTrue 81 = .ok (.if_icmp .ne 7, 3) := by decide +kernel
theorem dL_comesTrue_84 : decode cL_comesTrue 84 = .ok (.iconst 1, 1) := by decide +kernel
theorem dL_comesTrue_85 : decode cL_comesTrue 85 = .ok (.goto 4, 3) := by decide +kernel
theorem dL_comesTrue_88 : decode cL_comesTrue 88 = .ok (.iconst 0, 1) := by decide +kernel
theorem dL_comesTrue_89 : decode cL_comesTrue 89 = .ok (.istore 8, 2) := by decide +kernel
theorem dL_comesTrue_91 : decode cL_comesTrue 91 = .ok (.aload_n 0, 1) := by decide +kernel
theorem dL_comesTrue_92 : decode cL_comesTrue 92 = .ok (.invokestatic 77, 3) := by decide +kernel
theorem dL_comesTrue_95 : decode cL_comesTrue 95 = .ok (.lstore 9, 2) := by decide +kernel
theorem dL_comesTrue_97 : decode cL_comesTrue 97 = .ok (.iload 8, 2) := by decide +kernel
theorem dL_comesTrue_99 : decode cL_comesTrue 99 = .ok (.ifCond .eq 23, 3) := by decide +kernel
theorem dL_comesTrue_102 : decode cL_comesTrue 102 = .ok (.aload_n 0, 1) := by decide +kernel
theorem dL_comesTrue_103 : decode cL_comesTrue 103 = .ok (.invokevirtual 87, 3) := by decide +kernel
theorem dL_comesTrue_106 : decode cL_comesTrue 106 = .ok (.ifCond .lt 16, 3) := by decide +kernel
theorem dL_comesTrue_109 : decode cL_comesTrue 109 = .ok (.aload_n 0, 1) := by decide +kernel
theorem dL_comesTrue_110 : decode cL_comesTrue 110 = .ok (.invokestatic 77, 3) := by decide +kernel
theorem dL_comesTrue_113 : decode cL_comesTrue 113 = .ok (.lload_n 3, 1) := by decide +kernel
theorem dL_comesTrue_114 : decode cL_comesTrue 114 = .ok (.lcmp, 1) := by decide +kernel
theorem dL_comesTrue_115 : decode cL_comesTrue 115 = .ok (.ifCond .ne 7, 3) := by decide +kernel
theorem dL_comesTrue_118 : decode cL_comesTrue 118 = .ok (.iconst 1, 1) := by decide +kernel
theorem dL_comesTrue_119 : decode cL_comesTrue 119 = .ok (.goto 4, 3) := by decide +kernel
theorem dL_comesTrue_122 : decode cL_comesTrue 122 = .ok (.iconst 0, 1) := by decide +kernel
theorem dL_comesTrue_123 : decode cL_comesTrue 123 = .ok (.istore 8, 2) := by decide +kernel
theorem dL_comesTrue_125 : decode cL_comesTrue 125 = .ok (.iload_n 1, 1) := by decide +kernel
theorem dL_comesTrue_126 : decode cL_comesTrue 126 = .ok (.iconst 1, 1) := by decide +kernel
theorem dL_comesTrue_127 : decode cL_comesTrue 127 = .ok (.if_icmp .le 68, 3) := by decide +kernel
theorem dL_comesTrue_130 : decode cL_comesTrue 130 = .ok (.iload 8, 2) := by decide +kernel
theorem dL_comesTrue_132 : decode cL_comesTrue 132 = .ok (.ifCond .eq 60, 3) := by decide +kernel
theorem dL_comesTrue_135 : decode cL_comesTrue 135 = .ok (.aload_n 0, 1) := by decide +kernel
theorem dL_comesTrue_136 : decode cL_comesTrue 136 = .ok (.iconst 1, 1) := by decide +kernel
theorem dL_comesTrue_137 : decode cL_comesTrue 137 = .ok (.invokevirtual 53, 3) := by decide +kernel
theorem dL_comesTrue_140 : decode cL_comesTrue 140 = .ok (.ifCond .lt 52, 3) := by decide +kernel
theorem dL_comesTrue_143 : decode cL_comesTrue 143 = .ok (.aload_n 0, 1) := by decide +kernel
theorem dL_comesTrue_144 : decode cL_comesTrue 144 = .ok (.iload_n 1, 1) := by decide +kernel
theorem dL_comesTrue_145 : decode cL_comesTrue 145 = .ok (.iconst 1, 1) := by decide +kernel
theorem dL_comesTrue_146 : decode cL_comesTrue 146 = .ok (.isub, 1) := by decide +kernel
theorem dL_comesTrue_147 : decode cL_comesTrue 147 = .ok (.invokevirtual 53, 3) := by decide +kernel
theorem dL_comesTrue_150 : decode cL_comesTrue 150 = .ok (.iload 5, 2) := by decide +kernel
theorem dL_comesTrue_152 : decode cL_comesTrue 152 = .ok (.if_icmp .ne 40, 3) := by decide +kernel
theorem dL_comesTrue_155 : decode cL_comesTrue 155 = .ok (.aload_n 0, 1) := by decide +kernel
theorem dL_comesTrue_156 : decode cL_comesTrue 156 = .ok (.invokestatic 77, 3) := by decide +kernel
theorem dL_comesTrue_159 : decode cL_comesTrue 159 = .ok (.lload 9, 2) := by decide +kernel
theorem dL_comesTrue_161 : decode cL_comesTrue 161 = .ok (.lcmp, 1) := by decide +kernel
theorem dL_comesTrue_162 : decode cL_comesTrue 162 = .ok (.ifCond .ne 30, 3) := by decide +kernel
theorem dL_comesTrue_165 : decode cL_comesTrue 165 = .ok (.aload_n 0, 1) := by decide +kernel
theorem dL_comesTrue_166 : decode cL_comesTrue 166 = .ok (.invokevirtual 87, 3) := by decide +kernel
theorem dL_comesTrue_169 : decode cL_comesTrue 169 = .ok (.ifCond .lt 23, 3) := by decide +kernel
theorem dL_comesTrue_172 : decode cL_comesTrue 172 = .ok (.aload_n 0, 1) := by decide +kernel
theorem dL_comesTrue_173 : decode cL_comesTrue 173 = .ok (.invokevirtual 87, 3) := by decide +kernel
theorem dL_comesTrue_176 : decode cL_comesTrue 176 = .ok (.ifCond .lt 16, 3) := by decide +kernel
theorem dL_comesTrue_179 : decode cL_comesTrue 179 = .ok (.aload_n 0, 1) := by decide +kernel
theorem dL_comesTrue_180 : decode cL_comesTrue 180 = .ok (.invokestatic 77, 3) := by decide +kernel
theorem dL_comesTrue_183 : decode cL_comesTrue 183 = .ok (.lload_n 3, 1) := by decide +kernel
theorem dL_comesTrue_184 : decode cL_comesTrue 184 = .ok (.lcmp, 1) := by decide +kernel
theorem dL_comesTrue_185 : decode cL_comesTrue 185 = .ok (.ifCond .ne 7, 3) := by decide +kernel
theorem dL_comesTrue_188 : decode cL_comesTrue 188 = .ok (.iconst 1, 1) := by decide +kernel
theorem dL_comesTrue_189 : decode cL_comesTrue 189 = .ok (.goto 4, 3) := by decide +kernel
theorem dL_comesTrue_192 : decode cL_comesTrue 192 = .ok (.iconst 0, 1) := by decide +kernel
theorem dL_comesTrue_193 : decode cL_comesTrue 193 = .ok (.istore 8, 2) := by decide +kernel
theorem dL_comesTrue_195 : decode cL_comesTrue 195 = .ok (.iload 6, 2) := by decide +kernel
theorem dL_comesTrue_197 : decode cL_comesTrue 197 = .ok (.ifCond .le 45, 3) := by decide +kernel
theorem dL_comesTrue_200 : decode cL_comesTrue 200 = .ok (.iload 6, 2) := by decide +kernel
theorem dL_comesTrue_202 : decode cL_comesTrue 202 = .ok (.sipush 200, 3) := by decide +kernel
theorem dL_comesTrue_205 : decode cL_comesTrue 205 = .ok (.if_icmp .ge 37, 3) := by decide +kernel
theorem dL_comesTrue_208 : decode cL_comesTrue 208 = .ok (.iload 8, 2) := by decide +kernel
theorem dL_comesTrue_210 : decode cL_comesTrue 210 = .ok (.ifCond .eq 29, 3) := by decide +kernel
theorem dL_comesTrue_213 : decode cL_comesTrue 213 = .ok (.aload_n 0, 1) := by decide +kernel
theorem dL_comesTrue_214 : decode cL_comesTrue 214 = .ok (.iload 6, 2) := by decide +kernel
theorem dL_comesTrue_216 : decode cL_comesTrue 216 = .ok (.invokevirtual 81, 3) := by decide +kernel
theorem dL_comesTrue_219 : decode cL_comesTrue 219 = .ok (.iload_n 2, 1) := by decide +kernel
theorem dL_comesTrue_220 : decode cL_comesTrue 220 = .ok (.if_icmp .ne 19, 3) := by decide +kernel
theorem dL_comesTrue_223 : decode cL_comesTrue 223 = .ok (.aload_n 0, 1) := by decide +kernel
theorem dL_comesTrue_224 : decode cL_comesTrue 224 = .ok (.iload 6, 2) := by decide +kernel
theorem dL_comesTrue_226 : decode cL_comesTrue 226 = .ok (.iconst 1, 1) := by decide +kernel
theorem dL_comesTrue_227 : decode cL_comesTrue 227 = .ok (.isub, 1) := by decide +kernel
theorem dL_comesTrue_228 : decode cL_comesTrue 228 = .ok (.invokevirtual 81, 3) := by decide +kernel
theorem dL_comesTrue_231 : decode cL_comesTrue 231 = .ok (.iload_n 2, 1) := by decide +kernel
theorem dL_comesTrue_232 : decode cL_comesTrue 232 = .ok (.if_icmp .eq 7, 3) := by decide +kernel
theorem dL_comesTrue_235 : decode cL_comesTrue 235 = .ok (.iconst 1, 1) := by decide +kernel
theorem dL_comesTrue_236 : decode cL_comesTrue 236 = .ok (.goto 4, 3) := by decide +kernel
theorem dL_comesTrue_239 : decode cL_comesTrue 239 = .ok (.iconst 0, 1) := by decide +kernel
theorem dL_comesTrue_240 : decode cL_comesTrue 240 = .ok (.istore 8, 2) := by decide +kernel
theorem dL_comesTrue_242 : decode cL_comesTrue 242 = .ok (.iload 8, 2) := by decide +kernel
theorem dL_comesTrue_244 : decode cL_comesTrue 244 = .ok (.ifCond .eq 23, 3) := by decide +kernel
theorem dL_comesTrue_247 : decode cL_comesTrue 247 = .ok (.iload 6, 2) := by decide +kernel
theorem dL_comesTrue_249 : decode cL_comesTrue 249 = .ok (.bipush (-5), 2) := by decide +kernel
theorem dL_comesTrue_251 : decode cL_comesTrue 251 = .ok (.if_icmp .ne 12, 3) := by decide +kernel
theorem dL_comesTrue_254 : decode cL_comesTrue 254 = .ok (.aload_n 0, 1) := by decide +kernel
theorem dL_comesTrue_255 : decode cL_comesTrue 255 = .ok (.iload_n 1, 1) := by decide +kernel
theorem dL_comesTrue_256 : decode cL_comesTrue 256 = .ok (.invokevirtual 81, 3) := by decide +kernel
theorem dL_comesTrue_259 : decode cL_comesTrue 259 = .ok (.iload_n 2, 1) := by decide +kernel
theorem dL_comesTrue_260 : decode cL_comesTrue 260 = .ok (.if_icmp .eq 7, 3) := by decide +kernel
theorem dL_comesTrue_263 : decode cL_comesTrue 263 = .ok (.iconst 1, 1) := by decide +kernel
theorem dL_comesTrue_264 : decode cL_comesTrue 264 = .ok (.goto 4, 3) := by decide +kernel
theorem dL_comesTrue_267 : decode cL_comesTrue 267 = .ok (.iconst 0, 1) := by decide +kernel
theorem dL_comesTrue_268 : decode cL_comesTrue 268 = .ok (.ireturn, 1) := by decide +kernel
theorem dL_isUndone_0 : decode cL_isUndone 0 = .ok (.aload_n 0, 1) := by decide +kernel
theorem dL_isUndone_1 : decode cL_isUndone 1 = .ok (.bipush 9, 2) := by decide +kernel
theorem dL_isUndone_3 : decode cL_isUndone 3 = .ok (.invokevirtual 13, 3) := by decide +kernel
theorem dL_isUndone_6 : decode cL_isUndone 6 = .ok (.istore 7, 2) := by decide +kernel
theorem dL_isUndone_8 : decode cL_isUndone 8 = .ok (.aload_n 0, 1) := by decide +kernel
theorem dL_isUndone_9 : decode cL_isUndone 9 = .ok (.invokevirtual 87, 3) := by decide +kernel
theorem dL_isUndone_12 : decode cL_isUndone 12 = .ok (.iload 7, 2) := by decide +kernel
theorem dL_isUndone_14 : decode cL_isUndone 14 = .ok (.iconst 1, 1) := by decide +kernel
theorem dL_isUndone_15 : decode cL_isUndone 15 = .ok (.isub, 1) := by decide +kernel
theorem dL_isUndone_16 : decode cL_isUndone 16 = .ok (.if_icmp .ne 40, 3) := by decide +kernel
theorem dL_isUndone_19 : decode cL_isUndone 19 = .ok (.aload_n 0, 1) := by decide +kernel
theorem dL_isUndone_20 : decode cL_isUndone 20 = .ok (.invokestatic 77, 3) := by decide +kernel
theorem dL_isUndone_23 : decode cL_isUndone 23 = .ok (.lload 5, 2) := by decide +kernel
theorem dL_isUndone_25 : decode cL_isUndone 25 = .ok (.lcmp, 1) := by decide +kernel
theorem dL_isUndone_26 : decode cL_isUndone 26 = .ok (.ifCond .ne 30, 3) := by decide +kernel
theorem dL_isUndone_29 : decode cL_isUndone 29 = .ok (.aload_n 0, 1) := by decide +kernel
theorem dL_isUndone_30 : decode cL_isUndone 30 = .ok (.iload_n 1, 1) := by decide +kernel
theorem dL_isUndone_31 : decode cL_isUndone 31 = .ok (.iload_n 2, 1) := by decide +kernel
theorem dL_isUndone_32 : decode cL_isUndone 32 = .ok (.iload_n 3, 1) := by decide +kernel
theorem dL_isUndone_33 : decode cL_isUndone 33 = .ok (.invokestatic 90, 3) := by decide +kernel
theorem dL_isUndone_36 : decode cL_isUndone 36 = .ok (.iload 4, 2) := by decide +kernel
theorem dL_isUndone_38 : decode cL_isUndone 38 = .ok (.if_icmp .ne 18, 3) := by decide +kernel
theorem dL_isUndone_41 : decode cL_isUndone 41 = .ok (.aload_n 0, 1) := by decide +kernel
theorem dL_isUndone_42 : decode cL_isUndone 42 = .ok (.bipush 9, 2) := by decide +kernel
theorem dL_isUndone_44 : decode cL_isUndone 44 = .ok (.invokevirtual 13, 3) := by decide +kernel
theorem dL_isUndone_47 : decode cL_isUndone 47 = .ok (.iload 7, 2) := by decide +kernel
theorem dL_isUndone_49 : decode cL_isUndone 49 = .ok (.if_icmp .ne 7, 3) := by decide +kernel
theorem dL_isUndone_52 : decode cL_isUndone 52 = .ok (.iconst 1, 1) := by decide +kernel
theorem dL_isUndone_53 : decode cL_isUndone 53 = .ok (.goto 4, 3) := by decide +kernel
theorem dL_isUndone_56 : decode cL_isUndone 56 = .ok (.iconst 0, 1) := by decide +kernel
theorem dL_isUndone_57 : decode cL_isUndone 57 = .ok (.ireturn, 1) := by decide +kernel
theorem dL_isSaved_0 : decode cL_isSaved 0 = .ok (.aload_n 0, 1) := by decide +kernel
theorem dL_isSaved_1 : decode cL_isSaved 1 = .ok (.invokestatic 77, 3) := by decide +kernel
theorem dL_isSaved_4 : decode cL_isSaved 4 = .ok (.lstore_n 3, 1) := by decide +kernel
theorem dL_isSaved_5 : decode cL_isSaved 5 = .ok (.aload_n 0, 1) := by decide +kernel
theorem dL_isSaved_6 : decode cL_isSaved 6 = .ok (.bipush 9, 2) := by decide +kernel
theorem dL_isSaved_8 : decode cL_isSaved 8 = .ok (.invokevirtual 13, 3) := by decide +kernel
theorem dL_isSaved_11 : decode cL_isSaved 11 = .ok (.istore 5, 2) := by decide +kernel
theorem dL_isSaved_13 : decode cL_isSaved 13 = .ok (.aload_n 0, 1) := by decide +kernel
theorem dL_isSaved_14 : decode cL_isSaved 14 = .ok (.iload_n 1, 1) := by decide +kernel
theorem dL_isSaved_15 : decode cL_isSaved 15 = .ok (.iconst 1, 1) := by decide +kernel
theorem dL_isSaved_16 : decode cL_isSaved 16 = .ok (.iand, 1) := by decide +kernel
theorem dL_isSaved_17 : decode cL_isSaved 17 = .ok (.invokevirtual 94, 3) := by decide +kernel
theorem dL_isSaved_20 : decode cL_isSaved 20 = .ok (.aload_n 0, 1) := by decide +kernel
theorem dL_isSaved_21 : decode cL_isSaved 21 = .ok (.iconst 0, 1) := by decide +kernel
theorem dL_isSaved_22 : decode cL_isSaved 22 = .ok (.invokevirtual 13, 3) := by decide +kernel
theorem dL_isSaved_25 : decode cL_isSaved 25 = .ok (.if_icmp .ne 14, 3) := by decide +kernel
theorem dL_isSaved_28 : decode cL_isSaved 28 = .ok (.aload_n 0, 1) := by decide +kernel
theorem dL_isSaved_29 : decode cL_isSaved 29 = .ok (.bipush 9, 2) := by decide +kernel
theorem dL_isSaved_31 : decode cL_isSaved 31 = .ok (.invokevirtual 13, 3) := by decide +kernel
theorem dL_isSaved_34 : decode cL_isSaved 34 = .ok (.iload 5, 2) := by decide +kernel
theorem dL_isSaved_36 : decode cL_isSaved 36 = .ok (.if_icmp .eq 5, 3) := by decide +kernel
theorem dL_isSaved_39 : decode cL_isSaved 39 = .ok (.iconst 0, 1) := by decide +kernel
theorem dL_isSaved_40 : decode cL_isSaved 40 = .ok (.ireturn, 1) := by decide +kernel
theorem dL_isSaved_41 : decode cL_isSaved 41 = .ok (.aload_n 0, 1) := by decide +kernel
theorem dL_isSaved_42 : decode cL_isSaved 42 = .ok (.iload_n 2, 1) := by decide +kernel
theorem dL_isSaved_43 : decode cL_isSaved 43 = .ok (.bipush 15, 2) := by decide +kernel
theorem dL_isSaved_45 : decode cL_isSaved 45 = .ok (.invokestatic 59, 3) := by decide +kernel
theorem dL_isSaved_48 : decode cL_isSaved 48 = .ok (.iload_n 2, 1) := by decide +kernel
theorem dL_isSaved_49 : decode cL_isSaved 49 = .ok (.iload_n 1, 1) := by decide +kernel
theorem dL_isSaved_50 : decode cL_isSaved 50 = .ok (.invokestatic 90, 3) := by decide +kernel
theorem dL_isSaved_53 : decode cL_isSaved 53 = .ok (.pop, 1) := by decide +kernel
theorem dL_isSaved_54 : decode cL_isSaved 54 = .ok (.aload_n 0, 1) := by decide +kernel
theorem dL_isSaved_55 : decode cL_isSaved 55 = .ok (.iload_n 1, 1) := by decide +kernel
theorem dL_isSaved_56 : decode cL_isSaved 56 = .ok (.iconst 1, 1) := by decide +kernel
theorem dL_isSaved_57 : decode cL_isSaved 57 = .ok (.iand, 1) := by decide +kernel
theorem dL_isSaved_58 : decode cL_isSaved 58 = .ok (.invokevirtual 56, 3) := by decide +kernel
theorem dL_isSaved_61 : decode cL_isSaved 61 = .ok (.aload_n 0, 1) := by decide +kernel
theorem dL_isSaved_62 : decode cL_isSaved 62 = .ok (.iconst 0, 1) := by decide +kernel
theorem dL_isSaved_63 : decode cL_isSaved 63 = .ok (.invokevirtual 13, 3) := by decide +kernel
theorem dL_isSaved_66 : decode cL_isSaved 66 = .ok (.if_icmp .ne 16, 3) := by decide +kernel
theorem dL_isSaved_69 : decode cL_isSaved 69 = .ok (.aload_n 0, 1) := by decide +kernel
theorem dL_isSaved_70 : decode cL_isSaved 70 = .ok (.invokestatic 77, 3) := by decide +kernel
theorem dL_isSaved_73 : decode cL_isSaved 73 = .ok (.lload_n 3, 1) := by decide +kernel
theorem dL_isSaved_74 : decode cL_isSaved 74 = .ok (.lcmp, 1) := by decide +kernel
theorem dL_isSaved_75 : decode cL_isSaved 75 = .ok (.ifCond .ne 7, 3) := by decide +kernel
theorem dL_isSaved_78 : decode cL_isSaved 78 = .ok (.iconst 1, 1) := by decide +kernel
theorem dL_isSaved_79 : decode cL_isSaved 79 = .ok (.goto 4, 3) := by decide +kernel
theorem dL_isSaved_82 : decode cL_isSaved 82 = .ok (.iconst 0, 1) := by decide +kernel
theorem dL_isSaved_83 : decode cL_isSaved 83 = .ok (.ireturn, 1) := by decide +kernel
theorem dL_law_0 : decode cL_law 0 = .ok (.new 14, 3) := by decide +kernel
theorem dL_law_3 : decode cL_law 3 = .ok (.dup, 1) := by decide +kernel
