theorem dX7_arrives_56 : decode cX7_arrives 56 = .ok (.iconst 1, 1) := by decide +kernel
theorem dX7_arrives_57 : decode cX7_arrives 57 = .ok (.goto 4, 3) := by decide +kernel
theorem dX7_arrives_60 : decode cX7_arrives 60 = .ok (.iconst 0, 1) := by decide +kernel
theorem dX7_arrives_61 : decode cX7_arrives 61 = .ok (.istore_n 2, 1) := by decide +kernel
theorem dX7_arrives_62 : decode cX7_arrives 62 = .ok (.aload_n 0, 1) := by decide +kernel
theorem dX7_arrives_63 : decode cX7_arrives 63 = .ok (.getfield 7, 3) := by decide +kernel
theorem dX7_arrives_66 : decode cX7_arrives 66 = .ok (.iconst 0, 1) := by decide +kernel
theorem dX7_arrives_67 : decode cX7_arrives 67 = .ok (.iload_n 2, 1) := by decide +kernel
theorem dX7_arrives_68 : decode cX7_arrives 68 = .ok (.ifCond .eq 7, 3) := by decide +kernel
theorem dX7_arrives_71 : decode cX7_arrives 71 = .ok (.iconst 4, 1) := by decide +kernel
theorem dX7_arrives_72 : decode cX7_arrives 72 = .ok (.goto 4, 3) := by decide +kernel
theorem dX7_arrives_75 : decode cX7_arrives 75 = .ok (.iconst 5, 1) := by decide +kernel
theorem dX7_arrives_76 : decode cX7_arrives 76 = .ok (.iastore, 1) := by decide +kernel
theorem dX7_arrives_77 : decode cX7_arrives 77 = .ok (.aload_n 0, 1) := by decide +kernel
theorem dX7_arrives_78 : decode cX7_arrives 78 = .ok (.getfield 7, 3) := by decide +kernel
theorem dX7_arrives_81 : decode cX7_arrives 81 = .ok (.iconst 5, 1) := by decide +kernel
theorem dX7_arrives_82 : decode cX7_arrives 82 = .ok (.bipush (-5), 2) := by decide +kernel
theorem dX7_arrives_84 : decode cX7_arrives 84 = .ok (.iastore, 1) := by decide +kernel
theorem dX7_arrives_85 : decode cX7_arrives 85 = .ok (.aload_n 0, 1) := by decide +kernel
theorem dX7_arrives_86 : decode cX7_arrives 86 = .ok (.getfield 13, 3) := by decide +kernel
theorem dX7_arrives_89 : decode cX7_arrives 89 = .ok (.iconst 0, 1) := by decide +kernel
theorem dX7_arrives_90 : decode cX7_arrives 90 = .ok (.fconst 0, 1) := by decide +kernel
theorem dX7_arrives_91 : decode cX7_arrives 91 = .ok (.fastore, 1) := by decide +kernel
theorem dX7_arrives_92 : decode cX7_arrives 92 = .ok (.aload_n 0, 1) := by decide +kernel
theorem dX7_arrives_93 : decode cX7_arrives 93 = .ok (.getfield 13, 3) := by decide +kernel
theorem dX7_arrives_96 : decode cX7_arrives 96 = .ok (.iconst 2, 1) := by decide +kernel
theorem dX7_arrives_97 : decode cX7_arrives 97 = .ok (.fconst 0, 1) := by decide +kernel
theorem dX7_arrives_98 : decode cX7_arrives 98 = .ok (.fastore, 1) := by decide +kernel
theorem dX7_arrives_99 : decode cX7_arrives 99 = .ok (.aload_n 0, 1) := by decide +kernel
theorem dX7_arrives_100 : decode cX7_arrives 100 = .ok (.getfield 13, 3) := by decide +kernel
theorem dX7_arrives_103 : decode cX7_arrives 103 = .ok (.iconst 3, 1) := by decide +kernel
theorem dX7_arrives_104 : decode cX7_arrives 104 = .ok (.fconst 0, 1) := by decide +kernel
theorem dX7_arrives_105 : decode cX7_arrives 105 = .ok (.fastore, 1) := by decide +kernel
theorem dX7_arrives_106 : decode cX7_arrives 106 = .ok (.return_, 1) := by decide +kernel
theorem dX7_senses_0 : decode cX7_senses 0 = .ok (.aload_n 0, 1) := by decide +kernel
theorem dX7_senses_1 : decode cX7_senses 1 = .ok (.getfield 7, 3) := by decide +kernel
theorem dX7_senses_4 : decode cX7_senses 4 = .ok (.iconst 4, 1) := by decide +kernel
theorem dX7_senses_5 : decode cX7_senses 5 = .ok (.iaload, 1) := by decide +kernel
theorem dX7_senses_6 : decode cX7_senses 6 = .ok (.ifCond .ne 34, 3) := by decide +kernel
theorem dX7_senses_9 : decode cX7_senses 9 = .ok (.aload_n 0, 1) := by decide +kernel
theorem dX7_senses_10 : decode cX7_senses 10 = .ok (.invokevirtual 123, 3) := by decide +kernel
theorem dX7_senses_13 : decode cX7_senses 13 = .ok (.ifCond .eq 27, 3) := by decide +kernel
theorem dX7_senses_16 : decode cX7_senses 16 = .ok (.aload_n 0, 1) := by decide +kernel
theorem dX7_senses_17 : decode cX7_senses 17 = .ok (.iconst 0, 1) := by decide +kernel
theorem dX7_senses_18 : decode cX7_senses 18 = .ok (.invokevirtual 103, 3) := by decide +kernel
theorem dX7_senses_21 : decode cX7_senses 21 = .ok (.aload_n 0, 1) := by decide +kernel
theorem dX7_senses_22 : decode cX7_senses 22 = .ok (.iconst 1, 1) := by decide +kernel
theorem dX7_senses_23 : decode cX7_senses 23 = .ok (.invokevirtual 103, 3) := by decide +kernel
theorem dX7_senses_26 : decode cX7_senses 26 = .ok (.fsub, 1) := by decide +kernel
theorem dX7_senses_27 : decode cX7_senses 27 = .ok (.invokestatic 84, 3) := by decide +kernel
theorem dX7_senses_30 : decode cX7_senses 30 = .ok (.ldc 72, 2) := by decide +kernel
theorem dX7_senses_32 : decode cX7_senses 32 = .ok (.fcmp .g, 1) := by decide +kernel
theorem dX7_senses_33 : decode cX7_senses 33 = .ok (.ifCond .ge 7, 3) := by decide +kernel
theorem dX7_senses_36 : decode cX7_senses 36 = .ok (.iconst 1, 1) := by decide +kernel
theorem dX7_senses_37 : decode cX7_senses 37 = .ok (.goto 4, 3) := by decide +kernel
theorem dX7_senses_40 : decode cX7_senses 40 = .ok (.iconst 0, 1) := by decide +kernel
theorem dX7_senses_41 : decode cX7_senses 41 = .ok (.istore_n 1, 1) := by decide +kernel
theorem dX7_senses_42 : decode cX7_senses 42 = .ok (.aload_n 0, 1) := by decide +kernel
theorem dX7_senses_43 : decode cX7_senses 43 = .ok (.getfield 7, 3) := by decide +kernel
theorem dX7_senses_46 : decode cX7_senses 46 = .ok (.iconst 3, 1) := by decide +kernel
theorem dX7_senses_47 : decode cX7_senses 47 = .ok (.iload_n 1, 1) := by decide +kernel
theorem dX7_senses_48 : decode cX7_senses 48 = .ok (.ifCond .eq 14, 3) := by decide +kernel
theorem dX7_senses_51 : decode cX7_senses 51 = .ok (.aload_n 0, 1) := by decide +kernel
theorem dX7_senses_52 : decode cX7_senses 52 = .ok (.getfield 7, 3) := by decide +kernel
theorem dX7_senses_55 : decode cX7_senses 55 = .ok (.iconst 3, 1) := by decide +kernel
theorem dX7_senses_56 : decode cX7_senses 56 = .ok (.iaload, 1) := by decide +kernel
theorem dX7_senses_57 : decode cX7_senses 57 = .ok (.iconst 1, 1) := by decide +kernel
theorem dX7_senses_58 : decode cX7_senses 58 = .ok (.iadd, 1) := by decide +kernel
theorem dX7_senses_59 : decode cX7_senses 59 = .ok (.goto 4, 3) := by decide +kernel
theorem dX7_senses_62 : decode cX7_senses 62 = .ok (.iconst 0, 1) := by decide +kernel
theorem dX7_senses_63 : decode cX7_senses 63 = .ok (.iastore, 1) := by decide +kernel
theorem dX7_senses_64 : decode cX7_senses 64 = .ok (.aload_n 0, 1) := by decide +kernel
theorem dX7_senses_65 : decode cX7_senses 65 = .ok (.getfield 7, 3) := by decide +kernel
theorem dX7_senses_68 : decode cX7_senses 68 = .ok (.iconst 3, 1) := by decide +kernel
theorem dX7_senses_69 : decode cX7_senses 69 = .ok (.iaload, 1) := by decide +kernel
theorem dX7_senses_70 : decode cX7_senses 70 = .ok (.iconst 3, 1) := by decide +kernel
theorem dX7_senses_71 : decode cX7_senses 71 = .ok (.if_icmp .ne 28, 3) := by decide +kernel
theorem dX7_senses_74 : decode cX7_senses 74 = .ok (.aload_n 0, 1) := by decide +kernel
theorem dX7_senses_75 : decode cX7_senses 75 = .ok (.getfield 7, 3) := by decide +kernel
theorem dX7_senses_78 : decode cX7_senses 78 = .ok (.iconst 4, 1) := by decide +kernel
theorem dX7_senses_79 : decode cX7_senses 79 = .ok (.iconst 1, 1) := by decide +kernel
theorem dX7_senses_80 : decode cX7_senses 80 = .ok (.iastore, 1) := by decide +kernel
theorem dX7_senses_81 : decode cX7_senses 81 = .ok (.aload_n 0, 1) := by decide +kernel
theorem dX7_senses_82 : decode cX7_senses 82 = .ok (.getfield 7, 3) := by decide +kernel
theorem dX7_senses_85 : decode cX7_senses 85 = .ok (.iconst 3, 1) := by decide +kernel
theorem dX7_senses_86 : decode cX7_senses 86 = .ok (.iconst 0, 1) := by decide +kernel
theorem dX7_senses_87 : decode cX7_senses 87 = .ok (.iastore, 1) := by decide +kernel
theorem dX7_senses_88 : decode cX7_senses 88 = .ok (.aload_n 0, 1) := by decide +kernel
theorem dX7_senses_89 : decode cX7_senses 89 = .ok (.getfield 7, 3) := by decide +kernel
theorem dX7_senses_92 : decode cX7_senses 92 = .ok (.bipush 9, 2) := by decide +kernel
theorem dX7_senses_94 : decode cX7_senses 94 = .ok (.dup2, 1) := by decide +kernel
theorem dX7_senses_95 : decode cX7_senses 95 = .ok (.iaload, 1) := by decide +kernel
theorem dX7_senses_96 : decode cX7_senses 96 = .ok (.iconst 1, 1) := by decide +kernel
theorem dX7_senses_97 : decode cX7_senses 97 = .ok (.iadd, 1) := by decide +kernel
theorem dX7_senses_98 : decode cX7_senses 98 = .ok (.iastore, 1) := by decide +kernel
theorem dX7_senses_99 : decode cX7_senses 99 = .ok (.aload_n 0, 1) := by decide +kernel
theorem dX7_senses_100 : decode cX7_senses 100 = .ok (.getfield 7, 3) := by decide +kernel
theorem dX7_senses_103 : decode cX7_senses 103 = .ok (.iconst 4, 1) := by decide +kernel
theorem dX7_senses_104 : decode cX7_senses 104 = .ok (.iaload, 1) := by decide +kernel
theorem dX7_senses_105 : decode cX7_senses 105 = .ok (.iconst 1, 1) := by decide +kernel
theorem dX7_senses_106 : decode cX7_senses 106 = .ok (.if_icmp .ne 28, 3) := by decide +kernel
theorem dX7_senses_109 : decode cX7_senses 109 = .ok (.aload_n 0, 1) := by decide +kernel
theorem dX7_senses_110 : decode cX7_senses 110 = .ok (.invokevirtual 123, 3) := by decide +kernel
theorem dX7_senses_113 : decode cX7_senses 113 = .ok (.ifCond .ne 21, 3) := by decide +kernel
theorem dX7_senses_116 : decode cX7_senses 116 = .ok (.aload_n 0, 1) := by decide +kernel
theorem dX7_senses_117 : decode cX7_senses 117 = .ok (.getfield 7, 3) := by decide +kernel
theorem dX7_senses_120 : decode cX7_senses 120 = .ok (.iconst 4, 1) := by decide +kernel
theorem dX7_senses_121 : decode cX7_senses 121 = .ok (.iconst 0, 1) := by decide +kernel
theorem dX7_senses_122 : decode cX7_senses 122 = .ok (.iastore, 1) := by decide +kernel
theorem dX7_senses_123 : decode cX7_senses 123 = .ok (.aload_n 0, 1) := by decide +kernel
theorem dX7_senses_124 : decode cX7_senses 124 = .ok (.getfield 7, 3) := by decide +kernel
theorem dX7_senses_127 : decode cX7_senses 127 = .ok (.bipush 9, 2) := by decide +kernel
theorem dX7_senses_129 : decode cX7_senses 129 = .ok (.dup2, 1) := by decide +kernel
theorem dX7_senses_130 : decode cX7_senses 130 = .ok (.iaload, 1) := by decide +kernel
theorem dX7_senses_131 : decode cX7_senses 131 = .ok (.iconst 1, 1) := by decide +kernel
theorem dX7_senses_132 : decode cX7_senses 132 = .ok (.iadd, 1) := by decide +kernel
theorem dX7_senses_133 : decode cX7_senses 133 = .ok (.iastore, 1) := by decide +kernel
theorem dX7_senses_134 : decode cX7_senses 134 = .ok (.return_, 1) := by decide +kernel
theorem dX7_stops_0 : decode cX7_stops 0 = .ok (.aload_n 0, 1) := by decide +kernel
theorem dX7_stops_1 : decode cX7_stops 1 = .ok (.getfield 7, 3) := by decide +kernel
theorem dX7_stops_4 : decode cX7_stops 4 = .ok (.bipush 11, 2) := by decide +kernel
theorem dX7_stops_6 : decode cX7_stops 6 = .ok (.iaload, 1) := by decide +kernel
theorem dX7_stops_7 : decode cX7_stops 7 = .ok (.iconst 1, 1) := by decide +kernel
theorem dX7_stops_8 : decode cX7_stops 8 = .ok (.isub, 1) := by decide +kernel
theorem dX7_stops_9 : decode cX7_stops 9 = .ok (.istore_n 1, 1) := by decide +kernel
theorem dX7_stops_10 : decode cX7_stops 10 = .ok (.iload_n 1, 1) := by decide +kernel
theorem dX7_stops_11 : decode cX7_stops 11 = .ok (.ifCond .lt 67, 3) := by decide +kernel
theorem dX7_stops_14 : decode cX7_stops 14 = .ok (.aload_n 0, 1) := by decide +kernel
theorem dX7_stops_15 : decode cX7_stops 15 = .ok (.iload_n 1, 1) := by decide +kernel
theorem dX7_stops_16 : decode cX7_stops 16 = .ok (.invokevirtual 76, 3) := by decide +kernel
theorem dX7_stops_19 : decode cX7_stops 19 = .ok (.ifCond .eq 53, 3) := by decide +kernel
theorem dX7_stops_22 : decode cX7_stops 22 = .ok (.aload_n 0, 1) := by decide +kernel
theorem dX7_stops_23 : decode cX7_stops 23 = .ok (.getfield 13, 3) := by decide +kernel
theorem dX7_stops_26 : decode cX7_stops 26 = .ok (.iconst 0, 1) := by decide +kernel
theorem dX7_stops_27 : decode cX7_stops 27 = .ok (.faload, 1) := by decide +kernel
theorem dX7_stops_28 : decode cX7_stops 28 = .ok (.aload_n 0, 1) := by decide +kernel
theorem dX7_stops_29 : decode cX7_stops 29 = .ok (.iload_n 1, 1) := by decide +kernel
theorem dX7_stops_30 : decode cX7_stops 30 = .ok (.invokevirtual 80, 3) := by decide +kernel
theorem dX7_stops_33 : decode cX7_stops 33 = .ok (.fsub, 1) := by decide +kernel
theorem dX7_stops_34 : decode cX7_stops 34 = .ok (.invokestatic 84, 3) := by decide +kernel
theorem dX7_stops_37 : decode cX7_stops 37 = .ok (.ldc 127, 2) := by decide +kernel
theorem dX7_stops_39 : decode cX7_stops 39 = .ok (.fcmp .g, 1) := by decide +kernel
theorem dX7_stops_40 : decode cX7_stops 40 = .ok (.ifCond .ge 32, 3) := by decide +kernel
theorem dX7_stops_43 : decode cX7_stops 43 = .ok (.aload_n 0, 1) := by decide +kernel
theorem dX7_stops_44 : decode cX7_stops 44 = .ok (.getfield 13, 3) := by decide +kernel
theorem dX7_stops_47 : decode cX7_stops 47 = .ok (.iconst 2, 1) := by decide +kernel
theorem dX7_stops_48 : decode cX7_stops 48 = .ok (.faload, 1) := by decide +kernel
theorem dX7_stops_49 : decode cX7_stops 49 = .ok (.invokestatic 84, 3) := by decide +kernel
theorem dX7_stops_52 : decode cX7_stops 52 = .ok (.ldc 118, 2) := by decide +kernel
theorem dX7_stops_54 : decode cX7_stops 54 = .ok (.fcmp .g, 1) := by decide +kernel
theorem dX7_stops_55 : decode cX7_stops 55 = .ok (.ifCond .ge 17, 3) := by decide +kernel
theorem dX7_stops_58 : decode cX7_stops 58 = .ok (.aload_n 0, 1) := by decide +kernel
theorem dX7_stops_59 : decode cX7_stops 59 = .ok (.getfield 7, 3) := by decide +kernel
theorem dX7_stops_62 : decode cX7_stops 62 = .ok (.iconst 0, 1) := by decide +kernel
theorem dX7_stops_63 : decode cX7_stops 63 = .ok (.iconst 2, 1) := by decide +kernel
theorem dX7_stops_64 : decode cX7_stops 64 = .ok (.iastore, 1) := by decide +kernel
theorem dX7_stops_65 : decode cX7_stops 65 = .ok (.aload_n 0, 1) := by decide +kernel
theorem dX7_stops_66 : decode cX7_stops 66 = .ok (.getfield 7, 3) := by decide +kernel
theorem dX7_stops_69 : decode cX7_stops 69 = .ok (.iconst 5, 1) := by decide +kernel
theorem dX7_stops_70 : decode cX7_stops 70 = .ok (.iload_n 1, 1) := by decide +kernel
theorem dX7_stops_71 : decode cX7_stops 71 = .ok (.iastore, 1) := by decide +kernel
theorem dX7_stops_72 : decode cX7_stops 72 = .ok (.iinc 1 (-1), 3) := by decide +kernel
theorem dX7_stops_75 : decode cX7_stops 75 = .ok (.goto (-65), 3) := by decide +kernel
theorem dX7_stops_78 : decode cX7_stops 78 = .ok (.return_, 1) := by decide +kernel
theorem dX7_judges_0 : decode cX7_judges 0 = .ok (.aload_n 0, 1) := by decide +kernel
theorem dX7_judges_1 : decode cX7_judges 1 = .ok (.invokevirtual 58, 3) := by decide +kernel
theorem dX7_judges_4 : decode cX7_judges 4 = .ok (.istore_n 1, 1) := by decide +kernel
theorem dX7_judges_5 : decode cX7_judges 5 = .ok (.aload_n 0, 1) := by decide +kernel
theorem dX7_judges_6 : decode cX7_judges 6 = .ok (.getfield 7, 3) := by decide +kernel
theorem dX7_judges_9 : decode cX7_judges 9 = .ok (.iconst 0, 1) := by decide +kernel
theorem dX7_judges_10 : decode cX7_judges 10 = .ok (.iaload, 1) := by decide +kernel
theorem dX7_judges_11 : decode cX7_judges 11 = .ok (.iconst 1, 1) := by decide +kernel
theorem dX7_judges_12 : decode cX7_judges 12 = .ok (.if_icmp .ne 60, 3) := by decide +kernel
theorem dX7_judges_15 : decode cX7_judges 15 = .ok (.aload_n 0, 1) := by decide +kernel
theorem dX7_judges_16 : decode cX7_judges 16 = .ok (.getfield 7, 3) := by decide +kernel
theorem dX7_judges_19 : decode cX7_judges 19 = .ok (.iconst 2, 1) := by decide +kernel
theorem dX7_judges_20 : decode cX7_judges 20 = .ok (.iload_n 1, 1) := by decide +kernel
theorem dX7_judges_21 : decode cX7_judges 21 = .ok (.ifCond .ne 7, 3) := by decide +kernel
theorem dX7_judges_24 : decode cX7_judges 24 = .ok (.iconst 0, 1) := by decide +kernel
theorem dX7_judges_25 : decode cX7_judges 25 = .ok (.goto 11, 3) := by decide +kernel
theorem dX7_judges_28 : decode cX7_judges 28 = .ok (.aload_n 0, 1) := by decide +kernel
theorem dX7_judges_29 : decode cX7_judges 29 = .ok (.getfield 7, 3) := by decide +kernel
theorem dX7_judges_32 : decode cX7_judges 32 = .ok (.iconst 2, 1) := by decide +kernel
theorem dX7_judges_33 : decode cX7_judges 33 = .ok (.iaload, 1) := by decide +kernel
theorem dX7_judges_34 : decode cX7_judges 34 = .ok (.iconst 1, 1) := by decide +kernel
theorem dX7_judges_35 : decode cX7_judges 35 = .ok (.iadd, 1) := by decide +kernel
theorem dX7_judges_36 : decode cX7_judges 36 = .ok (.iastore, 1) := by decide +kernel
theorem dX7_judges_37 : decode cX7_judges 37 = .ok (.aload_n 0, 1) := by decide +kernel
theorem dX7_judges_38 : decode cX7_judges 38 = .ok (.getfield 7, 3) := by decide +kernel
theorem dX7_judges_41 : decode cX7_judges 41 = .ok (.iconst 2, 1) := by decide +kernel
theorem dX7_judges_42 : decode cX7_judges 42 = .ok (.iaload, 1) := by decide +kernel
theorem dX7_judges_43 : decode cX7_judges 43 = .ok (.iconst 2, 1) := by decide +kernel
theorem dX7_judges_44 : decode cX7_judges 44 = .ok (.if_icmp .ne 28, 3) := by decide +kernel
theorem dX7_judges_47 : decode cX7_judges 47 = .ok (.aload_n 0, 1) := by decide +kernel
theorem dX7_judges_48 : decode cX7_judges 48 = .ok (.getfield 7, 3) := by decide +kernel
theorem dX7_judges_51 : decode cX7_judges 51 = .ok (.iconst 0, 1) := by decide +kernel
theorem dX7_judges_52 : decode cX7_judges 52 = .ok (.iconst 3, 1) := by decide +kernel
theorem dX7_judges_53 : decode cX7_judges 53 = .ok (.iastore, 1) := by decide +kernel
theorem dX7_judges_54 : decode cX7_judges 54 = .ok (.aload_n 0, 1) := by decide +kernel
theorem dX7_judges_55 : decode cX7_judges 55 = .ok (.getfield 7, 3) := by decide +kernel
theorem dX7_judges_58 : decode cX7_judges 58 = .ok (.iconst 2, 1) := by decide +kernel
theorem dX7_judges_59 : decode cX7_judges 59 = .ok (.iconst 0, 1) := by decide +kernel
theorem dX7_judges_60 : decode cX7_judges 60 = .ok (.iastore, 1) := by decide +kernel
theorem dX7_judges_61 : decode cX7_judges 61 = .ok (.aload_n 0, 1) := by decide +kernel
theorem dX7_judges_62 : decode cX7_judges 62 = .ok (.getfield 7, 3) := by decide +kernel
theorem dX7_judges_65 : decode cX7_judges 65 = .ok (.bipush 8, 2) := by decide +kernel
theorem dX7_judges_67 : decode cX7_judges 67 = .ok (.dup2, 1) := by decide +kernel
theorem dX7_judges_68 : decode cX7_judges 68 = .ok (.iaload, 1) := by decide +kernel
theorem dX7_judges_69 : decode cX7_judges 69 = .ok (.iconst 1, 1) := by decide +kernel
theorem dX7_judges_70 : decode cX7_judges 70 = .ok (.iadd, 1) := by decide +kernel
theorem dX7_judges_71 : decode cX7_judges 71 = .ok (.iastore, 1) := by decide +kernel
theorem dX7_judges_72 : decode cX7_judges 72 = .ok (.aload_n 0, 1) := by decide +kernel
theorem dX7_judges_73 : decode cX7_judges 73 = .ok (.getfield 7, 3) := by decide +kernel
theorem dX7_judges_76 : decode cX7_judges 76 = .ok (.iconst 0, 1) := by decide +kernel
theorem dX7_judges_77 : decode cX7_judges 77 = .ok (.iaload, 1) := by decide +kernel
theorem dX7_judges_78 : decode cX7_judges 78 = .ok (.iconst 3, 1) := by decide +kernel
theorem dX7_judges_79 : decode cX7_judges 79 = .ok (.if_icmp .ne 46, 3) := by decide +kernel
theorem dX7_judges_82 : decode cX7_judges 82 = .ok (.iload_n 1, 1) := by decide +kernel
theorem dX7_judges_83 : decode cX7_judges 83 = .ok (.ifCond .ne 42, 3) := by decide +kernel
theorem dX7_judges_86 : decode cX7_judges 86 = .ok (.aload_n 0, 1) := by decide +kernel
theorem dX7_judges_87 : decode cX7_judges 87 = .ok (.getfield 13, 3) := by decide +kernel
theorem dX7_judges_90 : decode cX7_judges 90 = .ok (.iconst 0, 1) := by decide +kernel
theorem dX7_judges_91 : decode cX7_judges 91 = .ok (.faload, 1) := by decide +kernel
theorem dX7_judges_92 : decode cX7_judges 92 = .ok (.ldc 128, 2) := by decide +kernel
theorem dX7_judges_94 : decode cX7_judges 94 = .ok (.fcmp .l, 1) := by decide +kernel
theorem dX7_judges_95 : decode cX7_judges 95 = .ok (.ifCond .le 30, 3) := by decide +kernel
theorem dX7_judges_98 : decode cX7_judges 98 = .ok (.aload_n 0, 1) := by decide +kernel
theorem dX7_judges_99 : decode cX7_judges 99 = .ok (.getfield 7, 3) := by decide +kernel
theorem dX7_judges_102 : decode cX7_judges 102 = .ok (.iconst 0, 1) := by decide +kernel
theorem dX7_judges_103 : decode cX7_judges 103 = .ok (.iconst 2, 1) := by decide +kernel
theorem dX7_judges_104 : decode cX7_judges 104 = .ok (.iastore, 1) := by decide +kernel
theorem dX7_judges_105 : decode cX7_judges 105 = .ok (.aload_n 0, 1) := by decide +kernel
theorem dX7_judges_106 : decode cX7_judges 106 = .ok (.getfield 7, 3) := by decide +kernel
theorem dX7_judges_109 : decode cX7_judges 109 = .ok (.iconst 5, 1) := by decide +kernel
theorem dX7_judges_110 : decode cX7_judges 110 = .ok (.bipush (-5), 2) := by decide +kernel
theorem dX7_judges_112 : decode cX7_judges 112 = .ok (.iastore, 1) := by decide +kernel
theorem dX7_judges_113 : decode cX7_judges 113 = .ok (.aload_n 0, 1) := by decide +kernel
theorem dX7_judges_114 : decode cX7_judges 114 = .ok (.getfield 13, 3) := by decide +kernel
theorem dX7_judges_117 : decode cX7_judges 117 = .ok (.iconst 4, 1) := by decide +kernel
theorem dX7_judges_118 : decode cX7_judges 118 = .ok (.aload_n 0, 1) := by decide +kernel
theorem dX7_judges_119 : decode cX7_judges 119 = .ok (.getfield 13, 3) := by decide +kernel
theorem dX7_judges_122 : decode cX7_judges 122 = .ok (.iconst 0, 1) := by decide +kernel
theorem dX7_judges_123 : decode cX7_judges 123 = .ok (.faload, 1) := by decide +kernel
theorem dX7_judges_124 : decode cX7_judges 124 = .ok (.fastore, 1) := by decide +kernel
theorem dX7_judges_125 : decode cX7_judges 125 = .ok (.return_, 1) := by decide +kernel
theorem dX7_passesSecond_0 : decode cX7_passesSecond 0 = .ok (.aload_n 0, 1) := by decide +kernel
theorem dX7_passesSecond_1 : decode cX7_passesSecond 1 = .ok (.getfield 7, 3) := by decide +kernel
theorem dX7_passesSecond_4 : decode cX7_passesSecond 4 = .ok (.iconst 1, 1) := by decide +kernel
theorem dX7_passesSecond_5 : decode cX7_passesSecond 5 = .ok (.dup2, 1) := by decide +kernel
theorem dX7_passesSecond_6 : decode cX7_passesSecond 6 = .ok (.iaload, 1) := by decide +kernel
theorem dX7_passesSecond_7 : decode cX7_passesSecond 7 = .ok (.iconst 1, 1) := by decide +kernel
theorem dX7_passesSecond_8 : decode cX7_passesSecond 8 = .ok (.iadd, 1) := by decide +kernel
theorem dX7_passesSecond_9 : decode cX7_passesSecond 9 = .ok (.iastore, 1) := by decide +kernel
theorem dX7_passesSecond_10 : decode cX7_passesSecond 10 = .ok (.aload_n 0, 1) := by decide +kernel
theorem dX7_passesSecond_11 : decode cX7_passesSecond 11 = .ok (.getfield 7, 3) := by decide +kernel
theorem dX7_passesSecond_14 : decode cX7_passesSecond 14 = .ok (.iconst 0, 1) := by decide +kernel
theorem dX7_passesSecond_15 : decode cX7_passesSecond 15 = .ok (.iaload, 1) := by decide +kernel
theorem dX7_passesSecond_16 : decode cX7_passesSecond 16 = .ok (.iconst 4, 1) := by decide +kernel
theorem dX7_passesSecond_17 : decode cX7_passesSecond 17 = .ok (.if_icmp .lt 4, 3) := by decide +kernel
theorem dX7_passesSecond_20 : decode cX7_passesSecond 20 = .ok (.return_, 1) := by decide +kernel
theorem dX7_passesSecond_21 : decode cX7_passesSecond 21 = .ok (.aload_n 0, 1) := by decide +kernel
theorem dX7_passesSecond_22 : decode cX7_passesSecond 22 = .ok (.getfield 7, 3) := by decide +kernel
theorem dX7_passesSecond_25 : decode cX7_passesSecond 25 = .ok (.iconst 0, 1) := by decide +kernel
theorem dX7_passesSecond_26 : decode cX7_passesSecond 26 = .ok (.iaload, 1) := by decide +kernel
theorem dX7_passesSecond_27 : decode cX7_passesSecond 27 = .ok (.ifCond .ne 12, 3) := by decide +kernel
theorem dX7_passesSecond_30 : decode cX7_passesSecond 30 = .ok (.aload_n 0, 1) := by decide +kernel
theorem dX7_passesSecond_31 : decode cX7_passesSecond 31 = .ok (.fconst 0, 1) := by decide +kernel
theorem dX7_passesSecond_32 : decode cX7_passesSecond 32 = .ok (.fconst 0, 1) := by decide +kernel
theorem dX7_passesSecond_33 : decode cX7_passesSecond 33 = .ok (.invokevirtual 119, 3) := by decide +kernel
theorem dX7_passesSecond_36 : decode cX7_passesSecond 36 = .ok (.goto 7, 3) := by decide +kernel
theorem dX7_passesSecond_39 : decode cX7_passesSecond 39 = .ok (.aload_n 0, 1) := by decide +kernel
theorem dX7_passesSecond_40 : decode cX7_passesSecond 40 = .ok (.invokevirtual 129, 3) := by decide +kernel
theorem dX7_passesSecond_43 : decode cX7_passesSecond 43 = .ok (.aload_n 0, 1) := by decide +kernel
theorem dX7_passesSecond_44 : decode cX7_passesSecond 44 = .ok (.getfield 13, 3) := by decide +kernel
theorem dX7_passesSecond_47 : decode cX7_passesSecond 47 = .ok (.iconst 0, 1) := by decide +kernel
theorem dX7_passesSecond_48 : decode cX7_passesSecond 48 = .ok (.faload, 1) := by decide +kernel
theorem dX7_passesSecond_49 : decode cX7_passesSecond 49 = .ok (.fconst 0, 1) := by decide +kernel
theorem dX7_passesSecond_50 : decode cX7_passesSecond 50 = .ok (.fcmp .g, 1) := by decide +kernel
theorem dX7_passesSecond_51 : decode cX7_passesSecond 51 = .ok (.ifCond .gt 8, 3) := by decide +kernel
theorem dX7_passesSecond_54 : decode cX7_passesSecond 54 = .ok (.aload_n 0, 1) := by decide +kernel
theorem dX7_passesSecond_55 : decode cX7_passesSecond 55 = .ok (.invokevirtual 132, 3) := by decide +kernel
theorem dX7_passesSecond_58 : decode cX7_passesSecond 58 = .ok (.return_, 1) := by decide +kernel
theorem dX7_passesSecond_59 : decode cX7_passesSecond 59 = .ok (.aload_n 0, 1) := by decide +kernel
theorem dX7_passesSecond_60 : decode cX7_passesSecond 60 = .ok (.invokevirtual 135, 3) := by decide +kernel
theorem dX7_passesSecond_63 : decode cX7_passesSecond 63 = .ok (.aload_n 0, 1) := by decide +kernel
theorem dX7_passesSecond_64 : decode cX7_passesSecond 64 = .ok (.getfield 7, 3) := by decide +kernel
theorem dX7_passesSecond_67 : decode cX7_passesSecond 67 = .ok (.iconst 0, 1) := by decide +kernel
theorem dX7_passesSecond_68 : decode cX7_passesSecond 68 = .ok (.iaload, 1) := by decide +kernel
theorem dX7_passesSecond_69 : decode cX7_passesSecond 69 = .ok (.iconst 1, 1) := by decide +kernel
theorem dX7_passesSecond_70 : decode cX7_passesSecond 70 = .ok (.if_icmp .ne 7, 3) := by decide +kernel
theorem dX7_passesSecond_73 : decode cX7_passesSecond 73 = .ok (.aload_n 0, 1) := by decide +kernel
theorem dX7_passesSecond_74 : decode cX7_passesSecond 74 = .ok (.invokevirtual 138, 3) := by decide +kernel
theorem dX7_passesSecond_77 : decode cX7_passesSecond 77 = .ok (.aload_n 0, 1) := by decide +kernel
theorem dX7_passesSecond_78 : decode cX7_passesSecond 78 = .ok (.getfield 7, 3) := by decide +kernel
theorem dX7_passesSecond_81 : decode cX7_passesSecond 81 = .ok (.iconst 0, 1) := by decide +kernel
theorem dX7_passesSecond_82 : decode cX7_passesSecond 82 = .ok (.iaload, 1) := by decide +kernel
theorem dX7_passesSecond_83 : decode cX7_passesSecond 83 = .ok (.iconst 1, 1) := by decide +kernel
theorem dX7_passesSecond_84 : decode cX7_passesSecond 84 = .ok (.if_icmp .eq 13, 3) := by decide +kernel
theorem dX7_passesSecond_87 : decode cX7_passesSecond 87 = .ok (.aload_n 0, 1) := by decide +kernel
theorem dX7_passesSecond_88 : decode cX7_passesSecond 88 = .ok (.getfield 7, 3) := by decide +kernel
theorem dX7_passesSecond_91 : decode cX7_passesSecond 91 = .ok (.iconst 0, 1) := by decide +kernel
theorem dX7_passesSecond_92 : decode cX7_passesSecond 92 = .ok (.iaload, 1) := by decide +kernel
theorem dX7_passesSecond_93 : decode cX7_passesSecond 93 = .ok (.iconst 3, 1) := by decide +kernel
theorem dX7_passesSecond_94 : decode cX7_passesSecond 94 = .ok (.if_icmp .ne 7, 3) := by decide +kernel
theorem dX7_passesSecond_97 : decode cX7_passesSecond 97 = .ok (.aload_n 0, 1) := by decide +kernel
theorem dX7_passesSecond_98 : decode cX7_passesSecond 98 = .ok (.invokevirtual 141, 3) := by decide +kernel
theorem dX7_passesSecond_101 : decode cX7_passesSecond 101 = .ok (.return_, 1) := by decide +kernel
theorem dX7_modeError_0 : decode cX7_modeError 0 = .ok (.aload_n 0, 1) := by decide +kernel
theorem dX7_modeError_1 : decode cX7_modeError 1 = .ok (.getfield 7, 3) := by decide +kernel
theorem dX7_modeError_4 : decode cX7_modeError 4 = .ok (.iconst 0, 1) := by decide +kernel
theorem dX7_modeError_5 : decode cX7_modeError 5 = .ok (.iaload, 1) := by decide +kernel
theorem dX7_modeError_6 : decode cX7_modeError 6 = .ok (.iload_n 1, 1) := by decide +kernel
theorem dX7_modeError_7 : decode cX7_modeError 7 = .ok (.if_icmp .eq 13, 3) := by decide +kernel
theorem dX7_modeError_10 : decode cX7_modeError 10 = .ok (.aload_n 0, 1) := by decide +kernel
theorem dX7_modeError_11 : decode cX7_modeError 11 = .ok (.getfield 7, 3) := by decide +kernel
theorem dX7_modeError_14 : decode cX7_modeError 14 = .ok (.iconst 0, 1) := by decide +kernel
theorem dX7_modeError_15 : decode cX7_modeError 15 = .ok (.iaload, 1) := by decide +kernel
theorem dX7_modeError_16 : decode cX7_modeError 16 = .ok (.iconst 4, 1) := by decide +kernel
theorem dX7_modeError_17 : decode cX7_modeError 17 = .ok (.if_icmp .lt 8, 3) := by decide +kernel
theorem dX7_modeError_20 : decode cX7_modeError 20 = .ok (.bipush (-3), 2) := by decide +kernel
theorem dX7_modeError_22 : decode cX7_modeError 22 = .ok (.goto 4, 3) := by decide +kernel
theorem dX7_modeError_25 : decode cX7_modeError 25 = .ok (.iconst 0, 1) := by decide +kernel
theorem dX7_modeError_26 : decode cX7_modeError 26 = .ok (.ireturn, 1) := by decide +kernel
theorem dX7_becomes_0 : decode cX7_becomes 0 = .ok (.aload_n 0, 1) := by decide +kernel
theorem dX7_becomes_1 : decode cX7_becomes 1 = .ok (.getfield 7, 3) := by decide +kernel
theorem dX7_becomes_4 : decode cX7_becomes 4 = .ok (.iconst 0, 1) := by decide +kernel
theorem dX7_becomes_5 : decode cX7_becomes 5 = .ok (.iload_n 1, 1) := by decide +kernel
theorem dX7_becomes_6 : decode cX7_becomes 6 = .ok (.iastore, 1) := by decide +kernel
theorem dX7_becomes_7 : decode cX7_becomes 7 = .ok (.aload_n 0, 1) := by decide +kernel
theorem dX7_becomes_8 : decode cX7_becomes 8 = .ok (.getfield 7, 3) := by decide +kernel
theorem dX7_becomes_11 : decode cX7_becomes 11 = .ok (.iconst 5, 1) := by decide +kernel
theorem dX7_becomes_12 : decode cX7_becomes 12 = .ok (.bipush (-5), 2) := by decide +kernel
theorem dX7_becomes_14 : decode cX7_becomes 14 = .ok (.iastore, 1) := by decide +kernel
theorem dX7_becomes_15 : decode cX7_becomes 15 = .ok (.aload_n 0, 1) := by decide +kernel
theorem dX7_becomes_16 : decode cX7_becomes 16 = .ok (.getfield 7, 3) := by decide +kernel
theorem dX7_becomes_19 : decode cX7_becomes 19 = .ok (.iconst 2, 1) := by decide +kernel
theorem dX7_becomes_20 : decode cX7_becomes 20 = .ok (.iload_n 1, 1) := by decide +kernel
theorem dX7_becomes_21 : decode cX7_becomes 21 = .ok (.iconst 1, 1) := by decide +kernel
theorem dX7_becomes_22 : decode cX7_becomes 22 = .ok (.if_icmp .ne 7, 3) := by decide +kernel
theorem dX7_becomes_25 : decode cX7_becomes 25 = .ok (.iconst 0, 1) := by decide +kernel
theorem dX7_becomes_26 : decode cX7_becomes 26 = .ok (.goto 9, 3) := by decide +kernel
theorem dX7_becomes_29 : decode cX7_becomes 29 = .ok (.aload_n 0, 1) := by decide +kernel
theorem dX7_becomes_30 : decode cX7_becomes 30 = .ok (.getfield 7, 3) := by decide +kernel
theorem dX7_becomes_33 : decode cX7_becomes 33 = .ok (.iconst 2, 1) := by decide +kernel
theorem dX7_becomes_34 : decode cX7_becomes 34 = .ok (.iaload, 1) := by decide +kernel
theorem dX7_becomes_35 : decode cX7_becomes 35 = .ok (.iastore, 1) := by decide +kernel
theorem dX7_becomes_36 : decode cX7_becomes 36 = .ok (.aload_n 0, 1) := by decide +kernel
theorem dX7_becomes_37 : decode cX7_becomes 37 = .ok (.invokevirtual 58, 3) := by decide +kernel
theorem dX7_becomes_40 : decode cX7_becomes 40 = .ok (.ireturn, 1) := by decide +kernel
theorem dX7_changesTo_0 : decode cX7_changesTo 0 = .ok (.aload_n 0, 1) := by decide +kernel
theorem dX7_changesTo_1 : decode cX7_changesTo 1 = .ok (.iload_n 1, 1) := by decide +kernel
theorem dX7_changesTo_2 : decode cX7_changesTo 2 = .ok (.invokevirtual 144, 3) := by decide +kernel
theorem dX7_changesTo_5 : decode cX7_changesTo 5 = .ok (.istore_n 2, 1) := by decide +kernel
theorem dX7_changesTo_6 : decode cX7_changesTo 6 = .ok (.iload_n 2, 1) := by decide +kernel
theorem dX7_changesTo_7 : decode cX7_changesTo 7 = .ok (.ifCond .eq 5, 3) := by decide +kernel
theorem dX7_changesTo_10 : decode cX7_changesTo 10 = .ok (.iload_n 2, 1) := by decide +kernel
theorem dX7_changesTo_11 : decode cX7_changesTo 11 = .ok (.ireturn, 1) := by decide +kernel
theorem dX7_changesTo_12 : decode cX7_changesTo 12 = .ok (.aload_n 0, 1) := by decide +kernel
theorem dX7_changesTo_13 : decode cX7_changesTo 13 = .ok (.invokevirtual 46, 3) := by decide +kernel
theorem dX7_changesTo_16 : decode cX7_changesTo 16 = .ok (.aload_n 0, 1) := by decide +kernel
theorem dX7_changesTo_17 : decode cX7_changesTo 17 = .ok (.iload_n 1, 1) := by decide +kernel
theorem dX7_changesTo_18 : decode cX7_changesTo 18 = .ok (.invokevirtual 147, 3) := by decide +kernel
theorem dX7_changesTo_21 : decode cX7_changesTo 21 = .ok (.ireturn, 1) := by decide +kernel
theorem dX7_approach_0 : decode cX7_approach 0 = .ok (.aload_n 0, 1) := by decide +kernel
theorem dX7_approach_1 : decode cX7_approach 1 = .ok (.iconst 1, 1) := by decide +kernel
theorem dX7_approach_2 : decode cX7_approach 2 = .ok (.invokevirtual 150, 3) := by decide +kernel
theorem dX7_approach_5 : decode cX7_approach 5 = .ok (.ireturn, 1) := by decide +kernel
theorem dX7_release_0 : decode cX7_release 0 = .ok (.aload_n 0, 1) := by decide +kernel
theorem dX7_release_1 : decode cX7_release 1 = .ok (.iconst 0, 1) := by decide +kernel
theorem dX7_release_2 : decode cX7_release 2 = .ok (.invokevirtual 150, 3) := by decide +kernel
theorem dX7_release_5 : decode cX7_release 5 = .ok (.ireturn, 1) := by decide +kernel
theorem dX7_retreat_0 : decode cX7_retreat 0 = .ok (.aload_n 0, 1) := by decide +kernel
theorem dX7_retreat_1 : decode cX7_retreat 1 = .ok (.iconst 3, 1) := by decide +kernel
theorem dX7_retreat_2 : decode cX7_retreat 2 = .ok (.invokevirtual 150, 3) := by decide +kernel
theorem dX7_retreat_5 : decode cX7_retreat 5 = .ok (.ireturn, 1) := by decide +kernel
theorem dX7_openError_0 : decode cX7_openError 0 = .ok (.iload_n 1, 1) := by decide +kernel
theorem dX7_openError_1 : decode cX7_openError 1 = .ok (.iconst 0, 1) := by decide +kernel
theorem dX7_openError_2 : decode cX7_openError 2 = .ok (.aload_n 0, 1) := by decide +kernel
theorem dX7_openError_3 : decode cX7_openError 3 = .ok (.getfield 7, 3) := by decide +kernel
theorem dX7_openError_6 : decode cX7_openError 6 = .ok (.bipush 11, 2) := by decide +kernel
theorem dX7_openError_8 : decode cX7_openError 8 = .ok (.iaload, 1) := by decide +kernel
theorem dX7_openError_9 : decode cX7_openError 9 = .ok (.iconst 1, 1) := by decide +kernel
theorem dX7_openError_10 : decode cX7_openError 10 = .ok (.isub, 1) := by decide +kernel
theorem dX7_openError_11 : decode cX7_openError 11 = .ok (.invokestatic 42, 3) := by decide +kernel
theorem dX7_openError_14 : decode cX7_openError 14 = .ok (.ifCond .ne 5, 3) := by decide +kernel
theorem dX7_openError_17 : decode cX7_openError 17 = .ok (.iconst (-1), 1) := by decide +kernel
theorem dX7_openError_18 : decode cX7_openError 18 = .ok (.ireturn, 1) := by decide +kernel
theorem dX7_openError_19 : decode cX7_openError 19 = .ok (.aload_n 0, 1) := by decide +kernel
theorem dX7_openError_20 : decode cX7_openError 20 = .ok (.iload_n 1, 1) := by decide +kernel
theorem dX7_openError_21 : decode cX7_openError 21 = .ok (.invokevirtual 76, 3) := by decide +kernel
theorem dX7_openError_24 : decode cX7_openError 24 = .ok (.ifCond .eq 7, 3) := by decide +kernel
theorem dX7_openError_27 : decode cX7_openError 27 = .ok (.iconst 0, 1) := by decide +kernel
theorem dX7_openError_28 : decode cX7_openError 28 = .ok (.goto 5, 3) := by decide +kernel
theorem dX7_openError_31 : decode cX7_openError 31 = .ok (.bipush (-3), 2) := by decide +kernel
theorem dX7_openError_33 : decode cX7_openError 33 = .ok (.ireturn, 1) := by decide +kernel
theorem dX7_closed_0 : decode cX7_closed 0 = .ok (.iconst 0, 1) := by decide +kernel
theorem dX7_closed_1 : decode cX7_closed 1 = .ok (.istore_n 1, 1) := by decide +kernel
theorem dX7_closed_2 : decode cX7_closed 2 = .ok (.iconst 0, 1) := by decide +kernel
theorem dX7_closed_3 : decode cX7_closed 3 = .ok (.istore_n 2, 1) := by decide +kernel
theorem dX7_closed_4 : decode cX7_closed 4 = .ok (.iload_n 2, 1) := by decide +kernel
theorem dX7_closed_5 : decode cX7_closed 5 = .ok (.aload_n 0, 1) := by decide +kernel
theorem dX7_closed_6 : decode cX7_closed 6 = .ok (.getfield 7, 3) := by decide +kernel
theorem dX7_closed_9 : decode cX7_closed 9 = .ok (.bipush 11, 2) := by decide +kernel
theorem dX7_closed_11 : decode cX7_closed 11 = .ok (.iaload, 1) := by decide +kernel
theorem dX7_closed_12 : decode cX7_closed 12 = .ok (.if_icmp .ge 25, 3) := by decide +kernel
theorem dX7_closed_15 : decode cX7_closed 15 = .ok (.iload_n 1, 1) := by decide +kernel
theorem dX7_closed_16 : decode cX7_closed 16 = .ok (.aload_n 0, 1) := by decide +kernel
theorem dX7_closed_17 : decode cX7_closed 17 = .ok (.iload_n 2, 1) := by decide +kernel
theorem dX7_closed_18 : decode cX7_closed 18 = .ok (.invokevirtual 76, 3) := by decide +kernel
theorem dX7_closed_21 : decode cX7_closed 21 = .ok (.ifCond .eq 7, 3) := by decide +kernel
theorem dX7_closed_24 : decode cX7_closed 24 = .ok (.iconst 1, 1) := by decide +kernel
theorem dX7_closed_25 : decode cX7_closed 25 = .ok (.goto 4, 3) := by decide +kernel
theorem dX7_closed_28 : decode cX7_closed 28 = .ok (.iconst 0, 1) := by decide +kernel
theorem dX7_closed_29 : decode cX7_closed 29 = .ok (.iadd, 1) := by decide +kernel
theorem dX7_closed_30 : decode cX7_closed 30 = .ok (.istore_n 1, 1) := by decide +kernel
theorem dX7_closed_31 : decode cX7_closed 31 = .ok (.iinc 2 1, 3) := by decide +kernel
theorem dX7_closed_34 : decode cX7_closed 34 = .ok (.goto (-30), 3) := by decide +kernel
theorem dX7_closed_37 : decode cX7_closed 37 = .ok (.iload_n 1, 1) := by decide +kernel
theorem dX7_closed_38 : decode cX7_closed 38 = .ok (.ireturn, 1) := by decide +kernel
theorem dX7_opens_0 : decode cX7_opens 0 = .ok (.aload_n 0, 1) := by decide +kernel
theorem dX7_opens_1 : decode cX7_opens 1 = .ok (.getfield 7, 3) := by decide +kernel
theorem dX7_opens_4 : decode cX7_opens 4 = .ok (.bipush 32, 2) := by decide +kernel
theorem dX7_opens_6 : decode cX7_opens 6 = .ok (.iconst 2, 1) := by decide +kernel
theorem dX7_opens_7 : decode cX7_opens 7 = .ok (.iload_n 1, 1) := by decide +kernel
theorem dX7_opens_8 : decode cX7_opens 8 = .ok (.imul, 1) := by decide +kernel
theorem dX7_opens_9 : decode cX7_opens 9 = .ok (.iadd, 1) := by decide +kernel
theorem dX7_opens_10 : decode cX7_opens 10 = .ok (.iconst 1, 1) := by decide +kernel
theorem dX7_opens_11 : decode cX7_opens 11 = .ok (.iadd, 1) := by decide +kernel
theorem dX7_opens_12 : decode cX7_opens 12 = .ok (.iconst 1, 1) := by decide +kernel
theorem dX7_opens_13 : decode cX7_opens 13 = .ok (.iastore, 1) := by decide +kernel
theorem dX7_opens_14 : decode cX7_opens 14 = .ok (.aload_n 0, 1) := by decide +kernel
theorem dX7_opens_15 : decode cX7_opens 15 = .ok (.getfield 7, 3) := by decide +kernel
theorem dX7_opens_18 : decode cX7_opens 18 = .ok (.iconst 0, 1) := by decide +kernel
theorem dX7_opens_19 : decode cX7_opens 19 = .ok (.iaload, 1) := by decide +kernel
theorem dX7_opens_20 : decode cX7_opens 20 = .ok (.iconst 2, 1) := by decide +kernel
theorem dX7_opens_21 : decode cX7_opens 21 = .ok (.if_icmp .ne 35, 3) := by decide +kernel
theorem dX7_opens_24 : decode cX7_opens 24 = .ok (.aload_n 0, 1) := by decide +kernel
theorem dX7_opens_25 : decode cX7_opens 25 = .ok (.getfield 7, 3) := by decide +kernel
theorem dX7_opens_28 : decode cX7_opens 28 = .ok (.iconst 5, 1) := by decide +kernel
theorem dX7_opens_29 : decode cX7_opens 29 = .ok (.iaload, 1) := by decide +kernel
theorem dX7_opens_30 : decode cX7_opens 30 = .ok (.iload_n 1, 1) := by decide +kernel
theorem dX7_opens_31 : decode cX7_opens 31 = .ok (.if_icmp .ne 25, 3) := by decide +kernel
theorem dX7_opens_34 : decode cX7_opens 34 = .ok (.aload_n 0, 1) := by decide +kernel
theorem dX7_opens_35 : decode cX7_opens 35 = .ok (.getfield 7, 3) := by decide +kernel
theorem dX7_opens_38 : decode cX7_opens 38 = .ok (.iconst 0, 1) := by decide +kernel
theorem dX7_opens_39 : decode cX7_opens 39 = .ok (.iconst 1, 1) := by decide +kernel
theorem dX7_opens_40 : decode cX7_opens 40 = .ok (.iastore, 1) := by decide +kernel
theorem dX7_opens_41 : decode cX7_opens 41 = .ok (.aload_n 0, 1) := by decide +kernel
theorem dX7_opens_42 : decode cX7_opens 42 = .ok (.getfield 7, 3) := by decide +kernel
theorem dX7_opens_45 : decode cX7_opens 45 = .ok (.iconst 5, 1) := by decide +kernel
theorem dX7_opens_46 : decode cX7_opens 46 = .ok (.bipush (-5), 2) := by decide +kernel
theorem dX7_opens_48 : decode cX7_opens 48 = .ok (.iastore, 1) := by decide +kernel
theorem dX7_opens_49 : decode cX7_opens 49 = .ok (.aload_n 0, 1) := by decide +kernel
theorem dX7_opens_50 : decode cX7_opens 50 = .ok (.getfield 7, 3) := by decide +kernel
theorem dX7_opens_53 : decode cX7_opens 53 = .ok (.iconst 2, 1) := by decide +kernel
theorem dX7_opens_54 : decode cX7_opens 54 = .ok (.iconst 0, 1) := by decide +kernel
theorem dX7_opens_55 : decode cX7_opens 55 = .ok (.iastore, 1) := by decide +kernel
theorem dX7_opens_56 : decode cX7_opens 56 = .ok (.aload_n 0, 1) := by decide +kernel
theorem dX7_opens_57 : decode cX7_opens 57 = .ok (.invokevirtual 153, 3) := by decide +kernel
theorem dX7_opens_60 : decode cX7_opens 60 = .ok (.ireturn, 1) := by decide +kernel
theorem dX7_open_0 : decode cX7_open 0 = .ok (.aload_n 0, 1) := by decide +kernel
theorem dX7_open_1 : decode cX7_open 1 = .ok (.iload_n 1, 1) := by decide +kernel
theorem dX7_open_2 : decode cX7_open 2 = .ok (.invokevirtual 156, 3) := by decide +kernel
theorem dX7_open_5 : decode cX7_open 5 = .ok (.istore_n 2, 1) := by decide +kernel
theorem dX7_open_6 : decode cX7_open 6 = .ok (.iload_n 2, 1) := by decide +kernel
theorem dX7_open_7 : decode cX7_open 7 = .ok (.ifCond .eq 5, 3) := by decide +kernel
theorem dX7_open_10 : decode cX7_open 10 = .ok (.iload_n 2, 1) := by decide +kernel
theorem dX7_open_11 : decode cX7_open 11 = .ok (.ireturn, 1) := by decide +kernel
theorem dX7_open_12 : decode cX7_open 12 = .ok (.aload_n 0, 1) := by decide +kernel
theorem dX7_open_13 : decode cX7_open 13 = .ok (.invokevirtual 46, 3) := by decide +kernel
theorem dX7_open_16 : decode cX7_open 16 = .ok (.aload_n 0, 1) := by decide +kernel
theorem dX7_open_17 : decode cX7_open 17 = .ok (.iload_n 1, 1) := by decide +kernel
theorem dX7_open_18 : decode cX7_open 18 = .ok (.invokevirtual 159, 3) := by decide +kernel
theorem dX7_open_21 : decode cX7_open 21 = .ok (.ireturn, 1) := by decide +kernel
theorem dX7_passes_0 : decode cX7_passes 0 = .ok (.iconst 0, 1) := by decide +kernel
theorem dX7_passes_1 : decode cX7_passes 1 = .ok (.istore_n 2, 1) := by decide +kernel
theorem dX7_passes_2 : decode cX7_passes 2 = .ok (.iload_n 2, 1) := by decide +kernel
theorem dX7_passes_3 : decode cX7_passes 3 = .ok (.iload_n 1, 1) := by decide +kernel
theorem dX7_passes_4 : decode cX7_passes 4 = .ok (.if_icmp .ge 13, 3) := by decide +kernel
theorem dX7_passes_7 : decode cX7_passes 7 = .ok (.aload_n 0, 1) := by decide +kernel
theorem dX7_passes_8 : decode cX7_passes 8 = .ok (.invokevirtual 162, 3) := by decide +kernel
theorem dX7_passes_11 : decode cX7_passes 11 = .ok (.iinc 2 1, 3) := by decide +kernel
theorem dX7_passes_14 : decode cX7_passes 14 = .ok (.goto (-12), 3) := by decide +kernel
theorem dX7_passes_17 : decode cX7_passes 17 = .ok (.aload_n 0, 1) := by decide +kernel
theorem dX7_passes_18 : decode cX7_passes 18 = .ok (.getfield 7, 3) := by decide +kernel
theorem dX7_passes_21 : decode cX7_passes 21 = .ok (.iconst 0, 1) := by decide +kernel
theorem dX7_passes_22 : decode cX7_passes 22 = .ok (.iaload, 1) := by decide +kernel
theorem dX7_passes_23 : decode cX7_passes 23 = .ok (.ireturn, 1) := by decide +kernel
theorem dX7_pass_0 : decode cX7_pass 0 = .ok (.iload_n 1, 1) := by decide +kernel
theorem dX7_pass_1 : decode cX7_pass 1 = .ok (.iconst 1, 1) := by decide +kernel
theorem dX7_pass_2 : decode cX7_pass 2 = .ok (.sipush 200, 3) := by decide +kernel
theorem dX7_pass_5 : decode cX7_pass 5 = .ok (.invokestatic 42, 3) := by decide +kernel
theorem dX7_pass_8 : decode cX7_pass 8 = .ok (.ifCond .ne 6, 3) := by decide +kernel
theorem dX7_pass_11 : decode cX7_pass 11 = .ok (.bipush (-2), 2) := by decide +kernel
theorem dX7_pass_13 : decode cX7_pass 13 = .ok (.ireturn, 1) := by decide +kernel
theorem dX7_pass_14 : decode cX7_pass 14 = .ok (.aload_n 0, 1) := by decide +kernel
theorem dX7_pass_15 : decode cX7_pass 15 = .ok (.invokevirtual 46, 3) := by decide +kernel
theorem dX7_pass_18 : decode cX7_pass 18 = .ok (.aload_n 0, 1) := by decide +kernel
theorem dX7_pass_19 : decode cX7_pass 19 = .ok (.iload_n 1, 1) := by decide +kernel
theorem dX7_pass_20 : decode cX7_pass 20 = .ok (.invokevirtual 165, 3) := by decide +kernel
theorem dX7_pass_23 : decode cX7_pass 23 = .ok (.ireturn, 1) := by decide +kernel
theorem dX7_append_0 : decode cX7_append 0 = .ok (.iload_n 1, 1) := by decide +kernel
theorem dX7_append_1 : decode cX7_append 1 = .ok (.bipush 32, 2) := by decide +kernel
theorem dX7_append_3 : decode cX7_append 3 = .ok (.bipush 126, 2) := by decide +kernel
theorem dX7_append_5 : decode cX7_append 5 = .ok (.invokestatic 42, 3) := by decide +kernel
theorem dX7_append_8 : decode cX7_append 8 = .ok (.ifCond .ne 6, 3) := by decide +kernel
theorem dX7_append_11 : decode cX7_append 11 = .ok (.bipush (-2), 2) := by decide +kernel
theorem dX7_append_13 : decode cX7_append 13 = .ok (.ireturn, 1) := by decide +kernel
theorem dX7_append_14 : decode cX7_append 14 = .ok (.aload_n 0, 1) := by decide +kernel
theorem dX7_append_15 : decode cX7_append 15 = .ok (.getfield 168, 3) := by decide +kernel
theorem dX7_append_18 : decode cX7_append 18 = .ok (.bipush 80, 2) := by decide +kernel
theorem dX7_append_20 : decode cX7_append 20 = .ok (.if_icmp .ne 6, 3) := by decide +kernel
theorem dX7_append_23 : decode cX7_append 23 = .ok (.bipush (-4), 2) := by decide +kernel
theorem dX7_append_25 : decode cX7_append 25 = .ok (.ireturn, 1) := by decide +kernel
theorem dX7_append_26 : decode cX7_append 26 = .ok (.aload_n 0, 1) := by decide +kernel
theorem dX7_append_27 : decode cX7_append 27 = .ok (.getfield 26, 3) := by decide +kernel
theorem dX7_append_30 : decode cX7_append 30 = .ok (.aload_n 0, 1) := by decide +kernel
theorem dX7_append_31 : decode cX7_append 31 = .ok (.getfield 168, 3) := by decide +kernel
theorem dX7_append_34 : decode cX7_append 34 = .ok (.iload_n 1, 1) := by decide +kernel
theorem dX7_append_35 : decode cX7_append 35 = .ok (.iastore, 1) := by decide +kernel
theorem dX7_append_36 : decode cX7_append 36 = .ok (.aload_n 0, 1) := by decide +kernel
theorem dX7_append_37 : decode cX7_append 37 = .ok (.dup, 1) := by decide +kernel
theorem dX7_append_38 : decode cX7_append 38 = .ok (.getfield 168, 3) := by decide +kernel
theorem dX7_append_41 : decode cX7_append 41 = .ok (.iconst 1, 1) := by decide +kernel
theorem dX7_append_42 : decode cX7_append 42 = .ok (.iadd, 1) := by decide +kernel
theorem dX7_append_43 : decode cX7_append 43 = .ok (.putfield 168, 3) := by decide +kernel
theorem dX7_append_46 : decode cX7_append 46 = .ok (.aload_n 0, 1) := by decide +kernel
theorem dX7_append_47 : decode cX7_append 47 = .ok (.getfield 168, 3) := by decide +kernel
theorem dX7_append_50 : decode cX7_append 50 = .ok (.ireturn, 1) := by decide +kernel
theorem dX7_clearText_0 : decode cX7_clearText 0 = .ok (.aload_n 0, 1) := by decide +kernel
theorem dX7_clearText_1 : decode cX7_clearText 1 = .ok (.getfield 168, 3) := by decide +kernel
theorem dX7_clearText_4 : decode cX7_clearText 4 = .ok (.istore_n 1, 1) := by decide +kernel
theorem dX7_clearText_5 : decode cX7_clearText 5 = .ok (.aload_n 0, 1) := by decide +kernel
theorem dX7_clearText_6 : decode cX7_clearText 6 = .ok (.iconst 0, 1) := by decide +kernel
theorem dX7_clearText_7 : decode cX7_clearText 7 = .ok (.putfield 168, 3) := by decide +kernel
theorem dX7_clearText_10 : decode cX7_clearText 10 = .ok (.iload_n 1, 1) := by decide +kernel
theorem dX7_clearText_11 : decode cX7_clearText 11 = .ok (.ireturn, 1) := by decide +kernel
theorem dX7_isDigitHere_0 : decode cX7_isDigitHere 0 = .ok (.aload_n 0, 1) := by decide +kernel
theorem dX7_isDigitHere_1 : decode cX7_isDigitHere 1 = .ok (.getfield 171, 3) := by decide +kernel
theorem dX7_isDigitHere_4 : decode cX7_isDigitHere 4 = .ok (.aload_n 0, 1) := by decide +kernel
theorem dX7_isDigitHere_5 : decode cX7_isDigitHere 5 = .ok (.getfield 168, 3) := by decide +kernel
theorem dX7_isDigitHere_8 : decode cX7_isDigitHere 8 = .ok (.if_icmp .ge 26, 3) := by decide +kernel
theorem dX7_isDigitHere_11 : decode cX7_isDigitHere 11 = .ok (.aload_n 0, 1) := by decide +kernel
theorem dX7_isDigitHere_12 : decode cX7_isDigitHere 12 = .ok (.getfield 26, 3) := by decide +kernel
theorem dX7_isDigitHere_15 : decode cX7_isDigitHere 15 = .ok (.aload_n 0, 1) := by decide +kernel
theorem dX7_isDigitHere_16 : decode cX7_isDigitHere 16 = .ok (.getfield 171, 3) := by decide +kernel
theorem dX7_isDigitHere_19 : decode cX7_isDigitHere 19 = .ok (.iaload, 1) := by decide +kernel
theorem dX7_isDigitHere_20 : decode cX7_isDigitHere 20 = .ok (.bipush 48, 2) := by decide +kernel
theorem dX7_isDigitHere_22 : decode cX7_isDigitHere 22 = .ok (.bipush 57, 2) := by decide +kernel
theorem dX7_isDigitHere_24 : decode cX7_isDigitHere 24 = .ok (.invokestatic 42, 3) := by decide +kernel
theorem dX7_isDigitHere_27 : decode cX7_isDigitHere 27 = .ok (.ifCond .eq 7, 3) := by decide +kernel
theorem dX7_isDigitHere_30 : decode cX7_isDigitHere 30 = .ok (.iconst 1, 1) := by decide +kernel
theorem dX7_isDigitHere_31 : decode cX7_isDigitHere 31 = .ok (.goto 4, 3) := by decide +kernel
theorem dX7_isDigitHere_34 : decode cX7_isDigitHere 34 = .ok (.iconst 0, 1) := by decide +kernel
theorem dX7_isDigitHere_35 : decode cX7_isDigitHere 35 = .ok (.ireturn, 1) := by decide +kernel
theorem dX7_passesNumber_0 : decode cX7_passesNumber 0 = .ok (.aload_n 0, 1) := by decide +kernel
theorem dX7_passesNumber_1 : decode cX7_passesNumber 1 = .ok (.invokevirtual 174, 3) := by decide +kernel
theorem dX7_passesNumber_4 : decode cX7_passesNumber 4 = .ok (.ifCond .ne 5, 3) := by decide +kernel
theorem dX7_passesNumber_7 : decode cX7_passesNumber 7 = .ok (.iconst 0, 1) := by decide +kernel
theorem dX7_passesNumber_8 : decode cX7_passesNumber 8 = .ok (.ireturn, 1) := by decide +kernel
theorem dX7_passesNumber_9 : decode cX7_passesNumber 9 = .ok (.aload_n 0, 1) := by decide +kernel
theorem dX7_passesNumber_10 : decode cX7_passesNumber 10 = .ok (.getfield 171, 3) := by decide +kernel
theorem dX7_passesNumber_13 : decode cX7_passesNumber 13 = .ok (.istore_n 3, 1) := by decide +kernel
theorem dX7_passesNumber_14 : decode cX7_passesNumber 14 = .ok (.aload_n 0, 1) := by decide +kernel
theorem dX7_passesNumber_15 : decode cX7_passesNumber 15 = .ok (.getfield 26, 3) := by decide +kernel
theorem dX7_passesNumber_18 : decode cX7_passesNumber 18 = .ok (.aload_n 0, 1) := by decide +kernel
theorem dX7_passesNumber_19 : decode cX7_passesNumber 19 = .ok (.getfield 171, 3) := by decide +kernel
theorem dX7_passesNumber_22 : decode cX7_passesNumber 22 = .ok (.iaload, 1) := by decide +kernel
theorem dX7_passesNumber_23 : decode cX7_passesNumber 23 = .ok (.bipush 48, 2) := by decide +kernel
theorem dX7_passesNumber_25 : decode cX7_passesNumber 25 = .ok (.isub, 1) := by decide +kernel
theorem dX7_passesNumber_26 : decode cX7_passesNumber 26 = .ok (.istore 4, 2) := by decide +kernel
theorem dX7_passesNumber_28 : decode cX7_passesNumber 28 = .ok (.aload_n 0, 1) := by decide +kernel
theorem dX7_passesNumber_29 : decode cX7_passesNumber 29 = .ok (.dup, 1) := by decide +kernel
theorem dX7_passesNumber_30 : decode cX7_passesNumber 30 = .ok (.getfield 171, 3) := by decide +kernel
theorem dX7_passesNumber_33 : decode cX7_passesNumber 33 = .ok (.iconst 1, 1) := by decide +kernel
theorem dX7_passesNumber_34 : decode cX7_passesNumber 34 = .ok (.iadd, 1) := by decide +kernel
theorem dX7_passesNumber_35 : decode cX7_passesNumber 35 = .ok (.putfield 171, 3) := by decide +kernel
theorem dX7_passesNumber_38 : decode cX7_passesNumber 38 = .ok (.iconst 1, 1) := by decide +kernel
theorem dX7_passesNumber_39 : decode cX7_passesNumber 39 = .ok (.istore 5, 2) := by decide +kernel
theorem dX7_passesNumber_41 : decode cX7_passesNumber 41 = .ok (.iload 5, 2) := by decide +kernel
theorem dX7_passesNumber_43 : decode cX7_passesNumber 43 = .ok (.iconst 3, 1) := by decide +kernel
theorem dX7_passesNumber_44 : decode cX7_passesNumber 44 = .ok (.if_icmp .ge 51, 3) := by decide +kernel
theorem dX7_passesNumber_47 : decode cX7_passesNumber 47 = .ok (.iload 4, 2) := by decide +kernel
theorem dX7_passesNumber_49 : decode cX7_passesNumber 49 = .ok (.ifCond .le 46, 3) := by decide +kernel
theorem dX7_passesNumber_52 : decode cX7_passesNumber 52 = .ok (.aload_n 0, 1) := by decide +kernel
theorem dX7_passesNumber_53 : decode cX7_passesNumber 53 = .ok (.invokevirtual 174, 3) := by decide +kernel
theorem dX7_passesNumber_56 : decode cX7_passesNumber 56 = .ok (.ifCond .eq 39, 3) := by decide +kernel
theorem dX7_passesNumber_59 : decode cX7_passesNumber 59 = .ok (.bipush 10, 2) := by decide +kernel
theorem dX7_passesNumber_61 : decode cX7_passesNumber 61 = .ok (.iload 4, 2) := by decide +kernel
theorem dX7_passesNumber_63 : decode cX7_passesNumber 63 = .ok (.imul, 1) := by decide +kernel
theorem dX7_passesNumber_64 : decode cX7_passesNumber 64 = .ok (.aload_n 0, 1) := by decide +kernel
theorem dX7_passesNumber_65 : decode cX7_passesNumber 65 = .ok (.getfield 26, 3) := by decide +kernel
theorem dX7_passesNumber_68 : decode cX7_passesNumber 68 = .ok (.aload_n 0, 1) := by decide +kernel
theorem dX7_passesNumber_69 : decode cX7_passesNumber 69 = .ok (.getfield 171, 3) := by decide +kernel
theorem dX7_passesNumber_72 : decode cX7_passesNumber 72 = .ok (.iaload, 1) := by decide +kernel
theorem dX7_passesNumber_73 : decode cX7_passesNumber 73 = .ok (.iadd, 1) := by decide +kernel
theorem dX7_passesNumber_74 : decode cX7_passesNumber 74 = .ok (.bipush 48, 2) := by decide +kernel
theorem dX7_passesNumber_76 : decode cX7_passesNumber 76 = .ok (.isub, 1) := by decide +kernel
theorem dX7_passesNumber_77 : decode cX7_passesNumber 77 = .ok (.istore 4, 2) := by decide +kernel
theorem dX7_passesNumber_79 : decode cX7_passesNumber 79 = .ok (.aload_n 0, 1) := by decide +kernel
theorem dX7_passesNumber_80 : decode cX7_passesNumber 80 = .ok (.dup, 1) := by decide +kernel
theorem dX7_passesNumber_81 : decode cX7_passesNumber 81 = .ok (.getfield 171, 3) := by decide +kernel
theorem dX7_passesNumber_84 : decode cX7_passesNumber 84 = .ok (.iconst 1, 1) := by decide +kernel
theorem dX7_passesNumber_85 : decode cX7_passesNumber 85 = .ok (.iadd, 1) := by decide +kernel
theorem dX7_passesNumber_86 : decode cX7_passesNumber 86 = .ok (.putfield 171, 3) := by decide +kernel
theorem dX7_passesNumber_89 : decode cX7_passesNumber 89 = .ok (.iinc 5 1, 3) := by decide +kernel
theorem dX7_passesNumber_92 : decode cX7_passesNumber 92 = .ok (.goto (-51), 3) := by decide +kernel
theorem dX7_passesNumber_95 : decode cX7_passesNumber 95 = .ok (.aload_n 0, 1) := by decide +kernel
theorem dX7_passesNumber_96 : decode cX7_passesNumber 96 = .ok (.iload 4, 2) := by decide +kernel
theorem dX7_passesNumber_98 : decode cX7_passesNumber 98 = .ok (.putfield 177, 3) := by decide +kernel
theorem dX7_passesNumber_101 : decode cX7_passesNumber 101 = .ok (.iload 4, 2) := by decide +kernel
theorem dX7_passesNumber_103 : decode cX7_passesNumber 103 = .ok (.iload_n 1, 1) := by decide +kernel
theorem dX7_passesNumber_104 : decode cX7_passesNumber 104 = .ok (.iload_n 2, 1) := by decide +kernel
theorem dX7_passesNumber_105 : decode cX7_passesNumber 105 = .ok (.invokestatic 42, 3) := by decide +kernel
theorem dX7_passesNumber_108 : decode cX7_passesNumber 108 = .ok (.ifCond .ne 10, 3) := by decide +kernel
theorem dX7_passesNumber_111 : decode cX7_passesNumber 111 = .ok (.aload_n 0, 1) := by decide +kernel
theorem dX7_passesNumber_112 : decode cX7_passesNumber 112 = .ok (.iload_n 3, 1) := by decide +kernel
theorem dX7_passesNumber_113 : decode cX7_passesNumber 113 = .ok (.putfield 171, 3) := by decide +kernel
theorem dX7_passesNumber_116 : decode cX7_passesNumber 116 = .ok (.iconst 0, 1) := by decide +kernel
theorem dX7_passesNumber_117 : decode cX7_passesNumber 117 = .ok (.ireturn, 1) := by decide +kernel
theorem dX7_passesNumber_118 : decode cX7_passesNumber 118 = .ok (.iconst 1, 1) := by decide +kernel
theorem dX7_passesNumber_119 : decode cX7_passesNumber 119 = .ok (.ireturn, 1) := by decide +kernel
theorem dX7_passesAct_0 : decode cX7_passesAct 0 = .ok (.aload_n 0, 1) := by decide +kernel
theorem dX7_passesAct_1 : decode cX7_passesAct 1 = .ok (.aload_n 0, 1) := by decide +kernel
theorem dX7_passesAct_2 : decode cX7_passesAct 2 = .ok (.getfield 171, 3) := by decide +kernel
theorem dX7_passesAct_5 : decode cX7_passesAct 5 = .ok (.aload_n 0, 1) := by decide +kernel
theorem dX7_passesAct_6 : decode cX7_passesAct 6 = .ok (.getfield 168, 3) := by decide +kernel
theorem dX7_passesAct_9 : decode cX7_passesAct 9 = .ok (.if_icmp .ge 15, 3) := by decide +kernel
theorem dX7_passesAct_12 : decode cX7_passesAct 12 = .ok (.aload_n 0, 1) := by decide +kernel
theorem dX7_passesAct_13 : decode cX7_passesAct 13 = .ok (.getfield 26, 3) := by decide +kernel
theorem dX7_passesAct_16 : decode cX7_passesAct 16 = .ok (.aload_n 0, 1) := by decide +kernel
theorem dX7_passesAct_17 : decode cX7_passesAct 17 = .ok (.getfield 171, 3) := by decide +kernel
theorem dX7_passesAct_20 : decode cX7_passesAct 20 = .ok (.iaload, 1) := by decide +kernel
theorem dX7_passesAct_21 : decode cX7_passesAct 21 = .ok (.goto 4, 3) := by decide +kernel
theorem dX7_passesAct_24 : decode cX7_passesAct 24 = .ok (.iconst 0, 1) := by decide +kernel
theorem dX7_passesAct_25 : decode cX7_passesAct 25 = .ok (.putfield 180, 3) := by decide +kernel
theorem dX7_passesAct_28 : decode cX7_passesAct 28 = .ok (.aload_n 0, 1) := by decide +kernel
theorem dX7_passesAct_29 : decode cX7_passesAct 29 = .ok (.getfield 180, 3) := by decide +kernel
theorem dX7_passesAct_32 : decode cX7_passesAct 32 = .ok (.bipush 103, 2) := by decide +kernel
theorem dX7_passesAct_34 : decode cX7_passesAct 34 = .ok (.if_icmp .eq 41, 3) := by decide +kernel
theorem dX7_passesAct_37 : decode cX7_passesAct 37 = .ok (.aload_n 0, 1) := by decide +kernel
theorem dX7_passesAct_38 : decode cX7_passesAct 38 = .ok (.getfield 180, 3) := by decide +kernel
theorem dX7_passesAct_41 : decode cX7_passesAct 41 = .ok (.bipush 102, 2) := by decide +kernel
theorem dX7_passesAct_43 : decode cX7_passesAct 43 = .ok (.if_icmp .eq 32, 3) := by decide +kernel
theorem dX7_passesAct_46 : decode cX7_passesAct 46 = .ok (.aload_n 0, 1) := by decide +kernel
theorem dX7_passesAct_47 : decode cX7_passesAct 47 = .ok (.getfield 180, 3) := by decide +kernel
theorem dX7_passesAct_50 : decode cX7_passesAct 50 = .ok (.bipush 98, 2) := by decide +kernel
theorem dX7_passesAct_52 : decode cX7_passesAct 52 = .ok (.if_icmp .eq 23, 3) := by decide +kernel
theorem dX7_passesAct_55 : decode cX7_passesAct 55 = .ok (.aload_n 0, 1) := by decide +kernel
theorem dX7_passesAct_56 : decode cX7_passesAct 56 = .ok (.getfield 180, 3) := by decide +kernel
theorem dX7_passesAct_59 : decode cX7_passesAct 59 = .ok (.bipush 111, 2) := by decide +kernel
theorem dX7_passesAct_61 : decode cX7_passesAct 61 = .ok (.if_icmp .eq 14, 3) := by decide +kernel
theorem dX7_passesAct_64 : decode cX7_passesAct 64 = .ok (.aload_n 0, 1) := by decide +kernel
theorem dX7_passesAct_65 : decode cX7_passesAct 65 = .ok (.getfield 180, 3) := by decide +kernel
theorem dX7_passesAct_68 : decode cX7_passesAct 68 = .ok (.bipush 116, 2) := by decide +kernel
theorem dX7_passesAct_70 : decode cX7_passesAct 70 = .ok (.if_icmp .eq 5, 3) := by decide +kernel
theorem dX7_passesAct_73 : decode cX7_passesAct 73 = .ok (.iconst 0, 1) := by decide +kernel
theorem dX7_passesAct_74 : decode cX7_passesAct 74 = .ok (.ireturn, 1) := by decide +kernel
theorem dX7_passesAct_75 : decode cX7_passesAct 75 = .ok (.aload_n 0, 1) := by decide +kernel
theorem dX7_passesAct_76 : decode cX7_passesAct 76 = .ok (.dup, 1) := by decide +kernel
theorem dX7_passesAct_77 : decode cX7_passesAct 77 = .ok (.getfield 171, 3) := by decide +kernel
theorem dX7_passesAct_80 : decode cX7_passesAct 80 = .ok (.iconst 1, 1) := by decide +kernel
theorem dX7_passesAct_81 : decode cX7_passesAct 81 = .ok (.iadd, 1) := by decide +kernel
theorem dX7_passesAct_82 : decode cX7_passesAct 82 = .ok (.putfield 171, 3) := by decide +kernel
theorem dX7_passesAct_85 : decode cX7_passesAct 85 = .ok (.aload_n 0, 1) := by decide +kernel
theorem dX7_passesAct_86 : decode cX7_passesAct 86 = .ok (.getfield 180, 3) := by decide +kernel
theorem dX7_passesAct_89 : decode cX7_passesAct 89 = .ok (.bipush 111, 2) := by decide +kernel
theorem dX7_passesAct_91 : decode cX7_passesAct 91 = .ok (.if_icmp .ne 12, 3) := by decide +kernel
theorem dX7_passesAct_94 : decode cX7_passesAct 94 = .ok (.aload_n 0, 1) := by decide +kernel
theorem dX7_passesAct_95 : decode cX7_passesAct 95 = .ok (.iconst 0, 1) := by decide +kernel
theorem dX7_passesAct_96 : decode cX7_passesAct 96 = .ok (.iconst 3, 1) := by decide +kernel
theorem dX7_passesAct_97 : decode cX7_passesAct 97 = .ok (.invokevirtual 183, 3) := by decide +kernel
theorem dX7_passesAct_100 : decode cX7_passesAct 100 = .ok (.ifCond .eq 23, 3) := by decide +kernel
theorem dX7_passesAct_103 : decode cX7_passesAct 103 = .ok (.aload_n 0, 1) := by decide +kernel
theorem dX7_passesAct_104 : decode cX7_passesAct 104 = .ok (.getfield 180, 3) := by decide +kernel
theorem dX7_passesAct_107 : decode cX7_passesAct 107 = .ok (.bipush 116, 2) := by decide +kernel
theorem dX7_passesAct_109 : decode cX7_passesAct 109 = .ok (.if_icmp .ne 16, 3) := by decide +kernel
theorem dX7_passesAct_112 : decode cX7_passesAct 112 = .ok (.aload_n 0, 1) := by decide +kernel
theorem dX7_passesAct_113 : decode cX7_passesAct 113 = .ok (.iconst 1, 1) := by decide +kernel
theorem dX7_passesAct_114 : decode cX7_passesAct 114 = .ok (.sipush 200, 3) := by decide +kernel
theorem dX7_passesAct_117 : decode cX7_passesAct 117 = .ok (.invokevirtual 183, 3) := by decide +kernel
theorem dX7_passesAct_120 : decode cX7_passesAct 120 = .ok (.ifCond .ne 5, 3) := by decide +kernel
theorem dX7_passesAct_123 : decode cX7_passesAct 123 = .ok (.iconst 0, 1) := by decide +kernel
theorem dX7_passesAct_124 : decode cX7_passesAct 124 = .ok (.ireturn, 1) := by decide +kernel
theorem dX7_passesAct_125 : decode cX7_passesAct 125 = .ok (.aload_n 0, 1) := by decide +kernel
theorem dX7_passesAct_126 : decode cX7_passesAct 126 = .ok (.getfield 171, 3) := by decide +kernel
theorem dX7_passesAct_129 : decode cX7_passesAct 129 = .ok (.aload_n 0, 1) := by decide +kernel
theorem dX7_passesAct_130 : decode cX7_passesAct 130 = .ok (.getfield 168, 3) := by decide +kernel
theorem dX7_passesAct_133 : decode cX7_passesAct 133 = .ok (.if_icmp .eq 17, 3) := by decide +kernel
theorem dX7_passesAct_136 : decode cX7_passesAct 136 = .ok (.aload_n 0, 1) := by decide +kernel
theorem dX7_passesAct_137 : decode cX7_passesAct 137 = .ok (.getfield 26, 3) := by decide +kernel
theorem dX7_passesAct_140 : decode cX7_passesAct 140 = .ok (.aload_n 0, 1) := by decide +kernel
theorem dX7_passesAct_141 : decode cX7_passesAct 141 = .ok (.getfield 171, 3) := by decide +kernel
theorem dX7_passesAct_144 : decode cX7_passesAct 144 = .ok (.iaload, 1) := by decide +kernel
theorem dX7_passesAct_145 : decode cX7_passesAct 145 = .ok (.bipush 59, 2) := by decide +kernel
theorem dX7_passesAct_147 : decode cX7_passesAct 147 = .ok (.if_icmp .eq 5, 3) := by decide +kernel
theorem dX7_passesAct_150 : decode cX7_passesAct 150 = .ok (.iconst 0, 1) := by decide +kernel
theorem dX7_passesAct_151 : decode cX7_passesAct 151 = .ok (.ireturn, 1) := by decide +kernel
theorem dX7_passesAct_152 : decode cX7_passesAct 152 = .ok (.aload_n 0, 1) := by decide +kernel
theorem dX7_passesAct_153 : decode cX7_passesAct 153 = .ok (.dup, 1) := by decide +kernel
