theorem dX4_copyFrom_86 : decode cX4_copyFrom 86 = .ok (.getfield 20, 3) := by decide +kernel
theorem dX4_copyFrom_89 : decode cX4_copyFrom 89 = .ok (.iconst 0, 1) := by decide +kernel
theorem dX4_copyFrom_90 : decode cX4_copyFrom 90 = .ok (.bipush 8, 2) := by decide +kernel
theorem dX4_copyFrom_92 : decode cX4_copyFrom 92 = .ok (.invokestatic 27, 3) := by decide +kernel
theorem dX4_copyFrom_95 : decode cX4_copyFrom 95 = .ok (.aload_n 0, 1) := by decide +kernel
theorem dX4_copyFrom_96 : decode cX4_copyFrom 96 = .ok (.getfield 36, 3) := by decide +kernel
theorem dX4_copyFrom_99 : decode cX4_copyFrom 99 = .ok (.aload_n 1, 1) := by decide +kernel
theorem dX4_copyFrom_100 : decode cX4_copyFrom 100 = .ok (.getfield 36, 3) := by decide +kernel
theorem dX4_copyFrom_103 : decode cX4_copyFrom 103 = .ok (.invokevirtual 78, 3) := by decide +kernel
theorem dX4_copyFrom_106 : decode cX4_copyFrom 106 = .ok (.aload_n 0, 1) := by decide +kernel
theorem dX4_copyFrom_107 : decode cX4_copyFrom 107 = .ok (.getfield 43, 3) := by decide +kernel
theorem dX4_copyFrom_110 : decode cX4_copyFrom 110 = .ok (.aload_n 1, 1) := by decide +kernel
theorem dX4_copyFrom_111 : decode cX4_copyFrom 111 = .ok (.getfield 43, 3) := by decide +kernel
theorem dX4_copyFrom_114 : decode cX4_copyFrom 114 = .ok (.invokevirtual 82, 3) := by decide +kernel
theorem dX4_copyFrom_117 : decode cX4_copyFrom 117 = .ok (.aload_n 0, 1) := by decide +kernel
theorem dX4_copyFrom_118 : decode cX4_copyFrom 118 = .ok (.getfield 50, 3) := by decide +kernel
theorem dX4_copyFrom_121 : decode cX4_copyFrom 121 = .ok (.aload_n 1, 1) := by decide +kernel
theorem dX4_copyFrom_122 : decode cX4_copyFrom 122 = .ok (.getfield 50, 3) := by decide +kernel
theorem dX4_copyFrom_125 : decode cX4_copyFrom 125 = .ok (.invokevirtual 85, 3) := by decide +kernel
theorem dX4_copyFrom_128 : decode cX4_copyFrom 128 = .ok (.return_, 1) := by decide +kernel
theorem dX4_putShip_0 : decode cX4_putShip 0 = .ok (.aload_n 0, 1) := by decide +kernel
theorem dX4_putShip_1 : decode cX4_putShip 1 = .ok (.fload_n 1, 1) := by decide +kernel
theorem dX4_putShip_2 : decode cX4_putShip 2 = .ok (.putfield 10, 3) := by decide +kernel
theorem dX4_putShip_5 : decode cX4_putShip 5 = .ok (.aload_n 0, 1) := by decide +kernel
theorem dX4_putShip_6 : decode cX4_putShip 6 = .ok (.fload_n 2, 1) := by decide +kernel
theorem dX4_putShip_7 : decode cX4_putShip 7 = .ok (.putfield 54, 3) := by decide +kernel
theorem dX4_putShip_10 : decode cX4_putShip 10 = .ok (.aload_n 0, 1) := by decide +kernel
theorem dX4_putShip_11 : decode cX4_putShip 11 = .ok (.fload_n 3, 1) := by decide +kernel
theorem dX4_putShip_12 : decode cX4_putShip 12 = .ok (.putfield 57, 3) := by decide +kernel
theorem dX4_putShip_15 : decode cX4_putShip 15 = .ok (.aload_n 0, 1) := by decide +kernel
theorem dX4_putShip_16 : decode cX4_putShip 16 = .ok (.fload 4, 2) := by decide +kernel
theorem dX4_putShip_18 : decode cX4_putShip 18 = .ok (.putfield 60, 3) := by decide +kernel
theorem dX4_putShip_21 : decode cX4_putShip 21 = .ok (.aload_n 0, 1) := by decide +kernel
theorem dX4_putShip_22 : decode cX4_putShip 22 = .ok (.iconst 0, 1) := by decide +kernel
theorem dX4_putShip_23 : decode cX4_putShip 23 = .ok (.invokevirtual 88, 3) := by decide +kernel
theorem dX4_putShip_26 : decode cX4_putShip 26 = .ok (.aload_n 0, 1) := by decide +kernel
theorem dX4_putShip_27 : decode cX4_putShip 27 = .ok (.iconst 0, 1) := by decide +kernel
theorem dX4_putShip_28 : decode cX4_putShip 28 = .ok (.putfield 69, 3) := by decide +kernel
theorem dX4_putShip_31 : decode cX4_putShip 31 = .ok (.aload_n 0, 1) := by decide +kernel
theorem dX4_putShip_32 : decode cX4_putShip 32 = .ok (.getfield 50, 3) := by decide +kernel
theorem dX4_putShip_35 : decode cX4_putShip 35 = .ok (.invokevirtual 92, 3) := by decide +kernel
theorem dX4_putShip_38 : decode cX4_putShip 38 = .ok (.return_, 1) := by decide +kernel
theorem dX4_enter_0 : decode cX4_enter 0 = .ok (.aload_n 0, 1) := by decide +kernel
theorem dX4_enter_1 : decode cX4_enter 1 = .ok (.iload_n 1, 1) := by decide +kernel
theorem dX4_enter_2 : decode cX4_enter 2 = .ok (.putfield 63, 3) := by decide +kernel
theorem dX4_enter_5 : decode cX4_enter 5 = .ok (.aload_n 0, 1) := by decide +kernel
theorem dX4_enter_6 : decode cX4_enter 6 = .ok (.bipush (-5), 2) := by decide +kernel
theorem dX4_enter_8 : decode cX4_enter 8 = .ok (.putfield 16, 3) := by decide +kernel
theorem dX4_enter_11 : decode cX4_enter 11 = .ok (.return_, 1) := by decide +kernel
theorem dX4_startApproach_0 : decode cX4_startApproach 0 = .ok (.aload_n 0, 1) := by decide +kernel
theorem dX4_startApproach_1 : decode cX4_startApproach 1 = .ok (.iconst 1, 1) := by decide +kernel
theorem dX4_startApproach_2 : decode cX4_startApproach 2 = .ok (.invokevirtual 88, 3) := by decide +kernel
theorem dX4_startApproach_5 : decode cX4_startApproach 5 = .ok (.aload_n 0, 1) := by decide +kernel
theorem dX4_startApproach_6 : decode cX4_startApproach 6 = .ok (.iconst 0, 1) := by decide +kernel
theorem dX4_startApproach_7 : decode cX4_startApproach 7 = .ok (.putfield 69, 3) := by decide +kernel
theorem dX4_startApproach_10 : decode cX4_startApproach 10 = .ok (.return_, 1) := by decide +kernel
theorem dX4_hold_0 : decode cX4_hold 0 = .ok (.aload_n 0, 1) := by decide +kernel
theorem dX4_hold_1 : decode cX4_hold 1 = .ok (.iconst 2, 1) := by decide +kernel
theorem dX4_hold_2 : decode cX4_hold 2 = .ok (.putfield 63, 3) := by decide +kernel
theorem dX4_hold_5 : decode cX4_hold 5 = .ok (.aload_n 0, 1) := by decide +kernel
theorem dX4_hold_6 : decode cX4_hold 6 = .ok (.iload_n 1, 1) := by decide +kernel
theorem dX4_hold_7 : decode cX4_hold 7 = .ok (.putfield 16, 3) := by decide +kernel
theorem dX4_hold_10 : decode cX4_hold 10 = .ok (.aload_n 0, 1) := by decide +kernel
theorem dX4_hold_11 : decode cX4_hold 11 = .ok (.fload_n 2, 1) := by decide +kernel
theorem dX4_hold_12 : decode cX4_hold 12 = .ok (.putfield 66, 3) := by decide +kernel
theorem dX4_hold_15 : decode cX4_hold 15 = .ok (.return_, 1) := by decide +kernel
theorem dX4_hasArrived_0 : decode cX4_hasArrived 0 = .ok (.aload_n 0, 1) := by decide +kernel
theorem dX4_hasArrived_1 : decode cX4_hasArrived 1 = .ok (.getfield 63, 3) := by decide +kernel
theorem dX4_hasArrived_4 : decode cX4_hasArrived 4 = .ok (.iconst 4, 1) := by decide +kernel
theorem dX4_hasArrived_5 : decode cX4_hasArrived 5 = .ok (.if_icmp .eq 11, 3) := by decide +kernel
theorem dX4_hasArrived_8 : decode cX4_hasArrived 8 = .ok (.aload_n 0, 1) := by decide +kernel
theorem dX4_hasArrived_9 : decode cX4_hasArrived 9 = .ok (.getfield 63, 3) := by decide +kernel
theorem dX4_hasArrived_12 : decode cX4_hasArrived 12 = .ok (.iconst 5, 1) := by decide +kernel
theorem dX4_hasArrived_13 : decode cX4_hasArrived 13 = .ok (.if_icmp .ne 7, 3) := by decide +kernel
theorem dX4_hasArrived_16 : decode cX4_hasArrived 16 = .ok (.iconst 1, 1) := by decide +kernel
theorem dX4_hasArrived_17 : decode cX4_hasArrived 17 = .ok (.goto 4, 3) := by decide +kernel
theorem dX4_hasArrived_20 : decode cX4_hasArrived 20 = .ok (.iconst 0, 1) := by decide +kernel
theorem dX4_hasArrived_21 : decode cX4_hasArrived 21 = .ok (.ireturn, 1) := by decide +kernel
theorem dX4_errorOf_0 : decode cX4_errorOf 0 = .ok (.iload_n 1, 1) := by decide +kernel
theorem dX4_errorOf_1 : decode cX4_errorOf 1 = .ok (.lookupswitch 117 #[(98, 86), (102, 65), (103, 43), (111, 108)], 43) := by decide +kernel
theorem dX4_errorOf_44 : decode cX4_errorOf 44 = .ok (.aload_n 0, 1) := by decide +kernel
theorem dX4_errorOf_45 : decode cX4_errorOf 45 = .ok (.invokevirtual 95, 3) := by decide +kernel
theorem dX4_errorOf_48 : decode cX4_errorOf 48 = .ok (.ifCond .ne 11, 3) := by decide +kernel
theorem dX4_errorOf_51 : decode cX4_errorOf 51 = .ok (.aload_n 0, 1) := by decide +kernel
theorem dX4_errorOf_52 : decode cX4_errorOf 52 = .ok (.getfield 63, 3) := by decide +kernel
theorem dX4_errorOf_55 : decode cX4_errorOf 55 = .ok (.iconst 1, 1) := by decide +kernel
theorem dX4_errorOf_56 : decode cX4_errorOf 56 = .ok (.if_icmp .ne 8, 3) := by decide +kernel
theorem dX4_errorOf_59 : decode cX4_errorOf 59 = .ok (.bipush (-3), 2) := by decide +kernel
theorem dX4_errorOf_61 : decode cX4_errorOf 61 = .ok (.goto 4, 3) := by decide +kernel
theorem dX4_errorOf_64 : decode cX4_errorOf 64 = .ok (.iconst 0, 1) := by decide +kernel
theorem dX4_errorOf_65 : decode cX4_errorOf 65 = .ok (.ireturn, 1) := by decide +kernel
theorem dX4_errorOf_66 : decode cX4_errorOf 66 = .ok (.aload_n 0, 1) := by decide +kernel
theorem dX4_errorOf_67 : decode cX4_errorOf 67 = .ok (.invokevirtual 95, 3) := by decide +kernel
theorem dX4_errorOf_70 : decode cX4_errorOf 70 = .ok (.ifCond .ne 10, 3) := by decide +kernel
theorem dX4_errorOf_73 : decode cX4_errorOf 73 = .ok (.aload_n 0, 1) := by decide +kernel
theorem dX4_errorOf_74 : decode cX4_errorOf 74 = .ok (.getfield 63, 3) := by decide +kernel
theorem dX4_errorOf_77 : decode cX4_errorOf 77 = .ok (.ifCond .ne 8, 3) := by decide +kernel
theorem dX4_errorOf_80 : decode cX4_errorOf 80 = .ok (.bipush (-3), 2) := by decide +kernel
theorem dX4_errorOf_82 : decode cX4_errorOf 82 = .ok (.goto 4, 3) := by decide +kernel
theorem dX4_errorOf_85 : decode cX4_errorOf 85 = .ok (.iconst 0, 1) := by decide +kernel
theorem dX4_errorOf_86 : decode cX4_errorOf 86 = .ok (.ireturn, 1) := by decide +kernel
theorem dX4_errorOf_87 : decode cX4_errorOf 87 = .ok (.aload_n 0, 1) := by decide +kernel
theorem dX4_errorOf_88 : decode cX4_errorOf 88 = .ok (.invokevirtual 95, 3) := by decide +kernel
theorem dX4_errorOf_91 : decode cX4_errorOf 91 = .ok (.ifCond .ne 11, 3) := by decide +kernel
theorem dX4_errorOf_94 : decode cX4_errorOf 94 = .ok (.aload_n 0, 1) := by decide +kernel
theorem dX4_errorOf_95 : decode cX4_errorOf 95 = .ok (.getfield 63, 3) := by decide +kernel
theorem dX4_errorOf_98 : decode cX4_errorOf 98 = .ok (.iconst 3, 1) := by decide +kernel
theorem dX4_errorOf_99 : decode cX4_errorOf 99 = .ok (.if_icmp .ne 8, 3) := by decide +kernel
theorem dX4_errorOf_102 : decode cX4_errorOf 102 = .ok (.bipush (-3), 2) := by decide +kernel
theorem dX4_errorOf_104 : decode cX4_errorOf 104 = .ok (.goto 4, 3) := by decide +kernel
theorem dX4_errorOf_107 : decode cX4_errorOf 107 = .ok (.iconst 0, 1) := by decide +kernel
theorem dX4_errorOf_108 : decode cX4_errorOf 108 = .ok (.ireturn, 1) := by decide +kernel
theorem dX4_errorOf_109 : decode cX4_errorOf 109 = .ok (.aload_n 0, 1) := by decide +kernel
theorem dX4_errorOf_110 : decode cX4_errorOf 110 = .ok (.getfield 43, 3) := by decide +kernel
theorem dX4_errorOf_113 : decode cX4_errorOf 113 = .ok (.iload_n 2, 1) := by decide +kernel
theorem dX4_errorOf_114 : decode cX4_errorOf 114 = .ok (.invokevirtual 99, 3) := by decide +kernel
theorem dX4_errorOf_117 : decode cX4_errorOf 117 = .ok (.ireturn, 1) := by decide +kernel
theorem dX4_errorOf_118 : decode cX4_errorOf 118 = .ok (.iload_n 2, 1) := by decide +kernel
theorem dX4_errorOf_119 : decode cX4_errorOf 119 = .ok (.iconst 1, 1) := by decide +kernel
theorem dX4_errorOf_120 : decode cX4_errorOf 120 = .ok (.if_icmp .lt 10, 3) := by decide +kernel
theorem dX4_errorOf_123 : decode cX4_errorOf 123 = .ok (.iload_n 2, 1) := by decide +kernel
theorem dX4_errorOf_124 : decode cX4_errorOf 124 = .ok (.sipush 200, 3) := by decide +kernel
theorem dX4_errorOf_127 : decode cX4_errorOf 127 = .ok (.if_icmp .le 8, 3) := by decide +kernel
theorem dX4_errorOf_130 : decode cX4_errorOf 130 = .ok (.bipush (-2), 2) := by decide +kernel
theorem dX4_errorOf_132 : decode cX4_errorOf 132 = .ok (.goto 4, 3) := by decide +kernel
theorem dX4_errorOf_135 : decode cX4_errorOf 135 = .ok (.iconst 0, 1) := by decide +kernel
theorem dX4_errorOf_136 : decode cX4_errorOf 136 = .ok (.ireturn, 1) := by decide +kernel
theorem dX4_carryOut_0 : decode cX4_carryOut 0 = .ok (.iload_n 1, 1) := by decide +kernel
theorem dX4_carryOut_1 : decode cX4_carryOut 1 = .ok (.lookupswitch 100 #[(98, 62), (102, 52), (103, 43), (111, 72)], 43) := by decide +kernel
theorem dX4_carryOut_44 : decode cX4_carryOut 44 = .ok (.aload_n 0, 1) := by decide +kernel
theorem dX4_carryOut_45 : decode cX4_carryOut 45 = .ok (.invokevirtual 103, 3) := by decide +kernel
theorem dX4_carryOut_48 : decode cX4_carryOut 48 = .ok (.aload_n 0, 1) := by decide +kernel
theorem dX4_carryOut_49 : decode cX4_carryOut 49 = .ok (.invokevirtual 106, 3) := by decide +kernel
theorem dX4_carryOut_52 : decode cX4_carryOut 52 = .ok (.ireturn, 1) := by decide +kernel
theorem dX4_carryOut_53 : decode cX4_carryOut 53 = .ok (.aload_n 0, 1) := by decide +kernel
theorem dX4_carryOut_54 : decode cX4_carryOut 54 = .ok (.iconst 0, 1) := by decide +kernel
theorem dX4_carryOut_55 : decode cX4_carryOut 55 = .ok (.invokevirtual 88, 3) := by decide +kernel
theorem dX4_carryOut_58 : decode cX4_carryOut 58 = .ok (.aload_n 0, 1) := by decide +kernel
theorem dX4_carryOut_59 : decode cX4_carryOut 59 = .ok (.invokevirtual 106, 3) := by decide +kernel
theorem dX4_carryOut_62 : decode cX4_carryOut 62 = .ok (.ireturn, 1) := by decide +kernel
theorem dX4_carryOut_63 : decode cX4_carryOut 63 = .ok (.aload_n 0, 1) := by decide +kernel
theorem dX4_carryOut_64 : decode cX4_carryOut 64 = .ok (.iconst 3, 1) := by decide +kernel
theorem dX4_carryOut_65 : decode cX4_carryOut 65 = .ok (.invokevirtual 88, 3) := by decide +kernel
theorem dX4_carryOut_68 : decode cX4_carryOut 68 = .ok (.aload_n 0, 1) := by decide +kernel
theorem dX4_carryOut_69 : decode cX4_carryOut 69 = .ok (.invokevirtual 106, 3) := by decide +kernel
theorem dX4_carryOut_72 : decode cX4_carryOut 72 = .ok (.ireturn, 1) := by decide +kernel
theorem dX4_carryOut_73 : decode cX4_carryOut 73 = .ok (.aload_n 0, 1) := by decide +kernel
theorem dX4_carryOut_74 : decode cX4_carryOut 74 = .ok (.getfield 43, 3) := by decide +kernel
theorem dX4_carryOut_77 : decode cX4_carryOut 77 = .ok (.iload_n 2, 1) := by decide +kernel
theorem dX4_carryOut_78 : decode cX4_carryOut 78 = .ok (.invokevirtual 110, 3) := by decide +kernel
theorem dX4_carryOut_81 : decode cX4_carryOut 81 = .ok (.aload_n 0, 1) := by decide +kernel
theorem dX4_carryOut_82 : decode cX4_carryOut 82 = .ok (.getfield 16, 3) := by decide +kernel
theorem dX4_carryOut_85 : decode cX4_carryOut 85 = .ok (.iload_n 2, 1) := by decide +kernel
theorem dX4_carryOut_86 : decode cX4_carryOut 86 = .ok (.if_icmp .ne 7, 3) := by decide +kernel
theorem dX4_carryOut_89 : decode cX4_carryOut 89 = .ok (.aload_n 0, 1) := by decide +kernel
theorem dX4_carryOut_90 : decode cX4_carryOut 90 = .ok (.invokevirtual 103, 3) := by decide +kernel
theorem dX4_carryOut_93 : decode cX4_carryOut 93 = .ok (.aload_n 0, 1) := by decide +kernel
theorem dX4_carryOut_94 : decode cX4_carryOut 94 = .ok (.getfield 43, 3) := by decide +kernel
theorem dX4_carryOut_97 : decode cX4_carryOut 97 = .ok (.invokevirtual 113, 3) := by decide +kernel
theorem dX4_carryOut_100 : decode cX4_carryOut 100 = .ok (.ireturn, 1) := by decide +kernel
theorem dX4_carryOut_101 : decode cX4_carryOut 101 = .ok (.iconst 0, 1) := by decide +kernel
theorem dX4_carryOut_102 : decode cX4_carryOut 102 = .ok (.istore_n 3, 1) := by decide +kernel
theorem dX4_carryOut_103 : decode cX4_carryOut 103 = .ok (.iload_n 3, 1) := by decide +kernel
theorem dX4_carryOut_104 : decode cX4_carryOut 104 = .ok (.iload_n 2, 1) := by decide +kernel
theorem dX4_carryOut_105 : decode cX4_carryOut 105 = .ok (.if_icmp .ge 13, 3) := by decide +kernel
theorem dX4_carryOut_108 : decode cX4_carryOut 108 = .ok (.aload_n 0, 1) := by decide +kernel
theorem dX4_carryOut_109 : decode cX4_carryOut 109 = .ok (.invokevirtual 116, 3) := by decide +kernel
theorem dX4_carryOut_112 : decode cX4_carryOut 112 = .ok (.iinc 3 1, 3) := by decide +kernel
theorem dX4_carryOut_115 : decode cX4_carryOut 115 = .ok (.goto (-12), 3) := by decide +kernel
theorem dX4_carryOut_118 : decode cX4_carryOut 118 = .ok (.aload_n 0, 1) := by decide +kernel
theorem dX4_carryOut_119 : decode cX4_carryOut 119 = .ok (.getfield 63, 3) := by decide +kernel
theorem dX4_carryOut_122 : decode cX4_carryOut 122 = .ok (.ireturn, 1) := by decide +kernel
theorem dX4_passSecond_0 : decode cX4_passSecond 0 = .ok (.aload_n 0, 1) := by decide +kernel
theorem dX4_passSecond_1 : decode cX4_passSecond 1 = .ok (.dup, 1) := by decide +kernel
theorem dX4_passSecond_2 : decode cX4_passSecond 2 = .ok (.getfield 72, 3) := by decide +kernel
theorem dX4_passSecond_5 : decode cX4_passSecond 5 = .ok (.iconst 1, 1) := by decide +kernel
theorem dX4_passSecond_6 : decode cX4_passSecond 6 = .ok (.iadd, 1) := by decide +kernel
theorem dX4_passSecond_7 : decode cX4_passSecond 7 = .ok (.putfield 72, 3) := by decide +kernel
theorem dX4_passSecond_10 : decode cX4_passSecond 10 = .ok (.aload_n 0, 1) := by decide +kernel
theorem dX4_passSecond_11 : decode cX4_passSecond 11 = .ok (.invokevirtual 95, 3) := by decide +kernel
theorem dX4_passSecond_14 : decode cX4_passSecond 14 = .ok (.ifCond .eq 4, 3) := by decide +kernel
theorem dX4_passSecond_17 : decode cX4_passSecond 17 = .ok (.return_, 1) := by decide +kernel
theorem dX4_passSecond_18 : decode cX4_passSecond 18 = .ok (.aload_n 0, 1) := by decide +kernel
theorem dX4_passSecond_19 : decode cX4_passSecond 19 = .ok (.getfield 63, 3) := by decide +kernel
theorem dX4_passSecond_22 : decode cX4_passSecond 22 = .ok (.ifCond .ne 7, 3) := by decide +kernel
theorem dX4_passSecond_25 : decode cX4_passSecond 25 = .ok (.fconst 0, 1) := by decide +kernel
theorem dX4_passSecond_26 : decode cX4_passSecond 26 = .ok (.goto 11, 3) := by decide +kernel
theorem dX4_passSecond_29 : decode cX4_passSecond 29 = .ok (.aload_n 0, 1) := by decide +kernel
theorem dX4_passSecond_30 : decode cX4_passSecond 30 = .ok (.aload_n 0, 1) := by decide +kernel
theorem dX4_passSecond_31 : decode cX4_passSecond 31 = .ok (.invokevirtual 119, 3) := by decide +kernel
theorem dX4_passSecond_34 : decode cX4_passSecond 34 = .ok (.invokevirtual 123, 3) := by decide +kernel
theorem dX4_passSecond_37 : decode cX4_passSecond 37 = .ok (.fstore_n 1, 1) := by decide +kernel
theorem dX4_passSecond_38 : decode cX4_passSecond 38 = .ok (.aload_n 0, 1) := by decide +kernel
theorem dX4_passSecond_39 : decode cX4_passSecond 39 = .ok (.getfield 63, 3) := by decide +kernel
theorem dX4_passSecond_42 : decode cX4_passSecond 42 = .ok (.ifCond .ne 7, 3) := by decide +kernel
theorem dX4_passSecond_45 : decode cX4_passSecond 45 = .ok (.fconst 0, 1) := by decide +kernel
theorem dX4_passSecond_46 : decode cX4_passSecond 46 = .ok (.goto 7, 3) := by decide +kernel
theorem dX4_passSecond_49 : decode cX4_passSecond 49 = .ok (.aload_n 0, 1) := by decide +kernel
theorem dX4_passSecond_50 : decode cX4_passSecond 50 = .ok (.invokevirtual 127, 3) := by decide +kernel
theorem dX4_passSecond_53 : decode cX4_passSecond 53 = .ok (.fstore_n 2, 1) := by decide +kernel
theorem dX4_passSecond_54 : decode cX4_passSecond 54 = .ok (.aload_n 0, 1) := by decide +kernel
theorem dX4_passSecond_55 : decode cX4_passSecond 55 = .ok (.aload_n 0, 1) := by decide +kernel
theorem dX4_passSecond_56 : decode cX4_passSecond 56 = .ok (.getfield 57, 3) := by decide +kernel
theorem dX4_passSecond_59 : decode cX4_passSecond 59 = .ok (.fload_n 1, 1) := by decide +kernel
theorem dX4_passSecond_60 : decode cX4_passSecond 60 = .ok (.fadd, 1) := by decide +kernel
theorem dX4_passSecond_61 : decode cX4_passSecond 61 = .ok (.putfield 57, 3) := by decide +kernel
theorem dX4_passSecond_64 : decode cX4_passSecond 64 = .ok (.aload_n 0, 1) := by decide +kernel
theorem dX4_passSecond_65 : decode cX4_passSecond 65 = .ok (.aload_n 0, 1) := by decide +kernel
theorem dX4_passSecond_66 : decode cX4_passSecond 66 = .ok (.getfield 60, 3) := by decide +kernel
theorem dX4_passSecond_69 : decode cX4_passSecond 69 = .ok (.fload_n 2, 1) := by decide +kernel
theorem dX4_passSecond_70 : decode cX4_passSecond 70 = .ok (.fadd, 1) := by decide +kernel
theorem dX4_passSecond_71 : decode cX4_passSecond 71 = .ok (.putfield 60, 3) := by decide +kernel
theorem dX4_passSecond_74 : decode cX4_passSecond 74 = .ok (.aload_n 0, 1) := by decide +kernel
theorem dX4_passSecond_75 : decode cX4_passSecond 75 = .ok (.aload_n 0, 1) := by decide +kernel
theorem dX4_passSecond_76 : decode cX4_passSecond 76 = .ok (.getfield 10, 3) := by decide +kernel
theorem dX4_passSecond_79 : decode cX4_passSecond 79 = .ok (.aload_n 0, 1) := by decide +kernel
theorem dX4_passSecond_80 : decode cX4_passSecond 80 = .ok (.getfield 57, 3) := by decide +kernel
theorem dX4_passSecond_83 : decode cX4_passSecond 83 = .ok (.fadd, 1) := by decide +kernel
theorem dX4_passSecond_84 : decode cX4_passSecond 84 = .ok (.putfield 10, 3) := by decide +kernel
theorem dX4_passSecond_87 : decode cX4_passSecond 87 = .ok (.aload_n 0, 1) := by decide +kernel
theorem dX4_passSecond_88 : decode cX4_passSecond 88 = .ok (.aload_n 0, 1) := by decide +kernel
theorem dX4_passSecond_89 : decode cX4_passSecond 89 = .ok (.getfield 54, 3) := by decide +kernel
theorem dX4_passSecond_92 : decode cX4_passSecond 92 = .ok (.aload_n 0, 1) := by decide +kernel
theorem dX4_passSecond_93 : decode cX4_passSecond 93 = .ok (.getfield 60, 3) := by decide +kernel
theorem dX4_passSecond_96 : decode cX4_passSecond 96 = .ok (.fadd, 1) := by decide +kernel
theorem dX4_passSecond_97 : decode cX4_passSecond 97 = .ok (.putfield 54, 3) := by decide +kernel
theorem dX4_passSecond_100 : decode cX4_passSecond 100 = .ok (.aload_n 0, 1) := by decide +kernel
theorem dX4_passSecond_101 : decode cX4_passSecond 101 = .ok (.getfield 10, 3) := by decide +kernel
theorem dX4_passSecond_104 : decode cX4_passSecond 104 = .ok (.fconst 0, 1) := by decide +kernel
theorem dX4_passSecond_105 : decode cX4_passSecond 105 = .ok (.fcmp .g, 1) := by decide +kernel
theorem dX4_passSecond_106 : decode cX4_passSecond 106 = .ok (.ifCond .gt 8, 3) := by decide +kernel
theorem dX4_passSecond_109 : decode cX4_passSecond 109 = .ok (.aload_n 0, 1) := by decide +kernel
theorem dX4_passSecond_110 : decode cX4_passSecond 110 = .ok (.invokevirtual 130, 3) := by decide +kernel
theorem dX4_passSecond_113 : decode cX4_passSecond 113 = .ok (.return_, 1) := by decide +kernel
theorem dX4_passSecond_114 : decode cX4_passSecond 114 = .ok (.aload_n 0, 1) := by decide +kernel
theorem dX4_passSecond_115 : decode cX4_passSecond 115 = .ok (.getfield 50, 3) := by decide +kernel
theorem dX4_passSecond_118 : decode cX4_passSecond 118 = .ok (.aload_n 0, 1) := by decide +kernel
theorem dX4_passSecond_119 : decode cX4_passSecond 119 = .ok (.getfield 10, 3) := by decide +kernel
theorem dX4_passSecond_122 : decode cX4_passSecond 122 = .ok (.invokevirtual 133, 3) := by decide +kernel
theorem dX4_passSecond_125 : decode cX4_passSecond 125 = .ok (.aload_n 0, 1) := by decide +kernel
theorem dX4_passSecond_126 : decode cX4_passSecond 126 = .ok (.getfield 63, 3) := by decide +kernel
theorem dX4_passSecond_129 : decode cX4_passSecond 129 = .ok (.iconst 1, 1) := by decide +kernel
theorem dX4_passSecond_130 : decode cX4_passSecond 130 = .ok (.if_icmp .ne 7, 3) := by decide +kernel
theorem dX4_passSecond_133 : decode cX4_passSecond 133 = .ok (.aload_n 0, 1) := by decide +kernel
theorem dX4_passSecond_134 : decode cX4_passSecond 134 = .ok (.invokevirtual 137, 3) := by decide +kernel
theorem dX4_passSecond_137 : decode cX4_passSecond 137 = .ok (.aload_n 0, 1) := by decide +kernel
theorem dX4_passSecond_138 : decode cX4_passSecond 138 = .ok (.getfield 63, 3) := by decide +kernel
theorem dX4_passSecond_141 : decode cX4_passSecond 141 = .ok (.iconst 1, 1) := by decide +kernel
theorem dX4_passSecond_142 : decode cX4_passSecond 142 = .ok (.if_icmp .ne 14, 3) := by decide +kernel
theorem dX4_passSecond_145 : decode cX4_passSecond 145 = .ok (.aload_n 0, 1) := by decide +kernel
theorem dX4_passSecond_146 : decode cX4_passSecond 146 = .ok (.aload_n 0, 1) := by decide +kernel
theorem dX4_passSecond_147 : decode cX4_passSecond 147 = .ok (.invokevirtual 106, 3) := by decide +kernel
theorem dX4_passSecond_150 : decode cX4_passSecond 150 = .ok (.invokevirtual 140, 3) := by decide +kernel
theorem dX4_passSecond_153 : decode cX4_passSecond 153 = .ok (.goto 38, 3) := by decide +kernel
theorem dX4_passSecond_156 : decode cX4_passSecond 156 = .ok (.aload_n 0, 1) := by decide +kernel
theorem dX4_passSecond_157 : decode cX4_passSecond 157 = .ok (.getfield 63, 3) := by decide +kernel
theorem dX4_passSecond_160 : decode cX4_passSecond 160 = .ok (.iconst 3, 1) := by decide +kernel
theorem dX4_passSecond_161 : decode cX4_passSecond 161 = .ok (.if_icmp .ne 30, 3) := by decide +kernel
theorem dX4_passSecond_164 : decode cX4_passSecond 164 = .ok (.aload_n 0, 1) := by decide +kernel
theorem dX4_passSecond_165 : decode cX4_passSecond 165 = .ok (.getfield 10, 3) := by decide +kernel
theorem dX4_passSecond_168 : decode cX4_passSecond 168 = .ok (.ldc 143, 2) := by decide +kernel
theorem dX4_passSecond_170 : decode cX4_passSecond 170 = .ok (.fcmp .l, 1) := by decide +kernel
theorem dX4_passSecond_171 : decode cX4_passSecond 171 = .ok (.ifCond .le 20, 3) := by decide +kernel
theorem dX4_passSecond_174 : decode cX4_passSecond 174 = .ok (.aload_n 0, 1) := by decide +kernel
theorem dX4_passSecond_175 : decode cX4_passSecond 175 = .ok (.invokevirtual 106, 3) := by decide +kernel
theorem dX4_passSecond_178 : decode cX4_passSecond 178 = .ok (.ifCond .ne 13, 3) := by decide +kernel
theorem dX4_passSecond_181 : decode cX4_passSecond 181 = .ok (.aload_n 0, 1) := by decide +kernel
theorem dX4_passSecond_182 : decode cX4_passSecond 182 = .ok (.bipush (-5), 2) := by decide +kernel
theorem dX4_passSecond_184 : decode cX4_passSecond 184 = .ok (.aload_n 0, 1) := by decide +kernel
theorem dX4_passSecond_185 : decode cX4_passSecond 185 = .ok (.getfield 10, 3) := by decide +kernel
theorem dX4_passSecond_188 : decode cX4_passSecond 188 = .ok (.invokevirtual 144, 3) := by decide +kernel
theorem dX4_passSecond_191 : decode cX4_passSecond 191 = .ok (.return_, 1) := by decide +kernel
theorem dX4_accelerationAlong_0 : decode cX4_accelerationAlong 0 = .ok (.aload_n 0, 1) := by decide +kernel
theorem dX4_accelerationAlong_1 : decode cX4_accelerationAlong 1 = .ok (.fload_n 1, 1) := by decide +kernel
theorem dX4_accelerationAlong_2 : decode cX4_accelerationAlong 2 = .ok (.aload_n 0, 1) := by decide +kernel
theorem dX4_accelerationAlong_3 : decode cX4_accelerationAlong 3 = .ok (.getfield 57, 3) := by decide +kernel
theorem dX4_accelerationAlong_6 : decode cX4_accelerationAlong 6 = .ok (.fsub, 1) := by decide +kernel
theorem dX4_accelerationAlong_7 : decode cX4_accelerationAlong 7 = .ok (.invokevirtual 148, 3) := by decide +kernel
theorem dX4_accelerationAlong_10 : decode cX4_accelerationAlong 10 = .ok (.fstore_n 2, 1) := by decide +kernel
theorem dX4_accelerationAlong_11 : decode cX4_accelerationAlong 11 = .ok (.aload_n 0, 1) := by decide +kernel
theorem dX4_accelerationAlong_12 : decode cX4_accelerationAlong 12 = .ok (.getfield 20, 3) := by decide +kernel
theorem dX4_accelerationAlong_15 : decode cX4_accelerationAlong 15 = .ok (.iconst 5, 1) := by decide +kernel
theorem dX4_accelerationAlong_16 : decode cX4_accelerationAlong 16 = .ok (.iaload, 1) := by decide +kernel
theorem dX4_accelerationAlong_17 : decode cX4_accelerationAlong 17 = .ok (.i2f, 1) := by decide +kernel
theorem dX4_accelerationAlong_18 : decode cX4_accelerationAlong 18 = .ok (.ldc 151, 2) := by decide +kernel
theorem dX4_accelerationAlong_20 : decode cX4_accelerationAlong 20 = .ok (.fdiv, 1) := by decide +kernel
theorem dX4_accelerationAlong_21 : decode cX4_accelerationAlong 21 = .ok (.fstore_n 3, 1) := by decide +kernel
theorem dX4_accelerationAlong_22 : decode cX4_accelerationAlong 22 = .ok (.fload_n 2, 1) := by decide +kernel
theorem dX4_accelerationAlong_23 : decode cX4_accelerationAlong 23 = .ok (.fload_n 3, 1) := by decide +kernel
theorem dX4_accelerationAlong_24 : decode cX4_accelerationAlong 24 = .ok (.fcmp .l, 1) := by decide +kernel
theorem dX4_accelerationAlong_25 : decode cX4_accelerationAlong 25 = .ok (.ifCond .le 25, 3) := by decide +kernel
theorem dX4_accelerationAlong_28 : decode cX4_accelerationAlong 28 = .ok (.aload_n 0, 1) := by decide +kernel
theorem dX4_accelerationAlong_29 : decode cX4_accelerationAlong 29 = .ok (.getfield 10, 3) := by decide +kernel
theorem dX4_accelerationAlong_32 : decode cX4_accelerationAlong 32 = .ok (.aload_n 0, 1) := by decide +kernel
theorem dX4_accelerationAlong_33 : decode cX4_accelerationAlong 33 = .ok (.getfield 20, 3) := by decide +kernel
theorem dX4_accelerationAlong_36 : decode cX4_accelerationAlong 36 = .ok (.iconst 3, 1) := by decide +kernel
theorem dX4_accelerationAlong_37 : decode cX4_accelerationAlong 37 = .ok (.iaload, 1) := by decide +kernel
theorem dX4_accelerationAlong_38 : decode cX4_accelerationAlong 38 = .ok (.i2f, 1) := by decide +kernel
theorem dX4_accelerationAlong_39 : decode cX4_accelerationAlong 39 = .ok (.ldc 9, 2) := by decide +kernel
theorem dX4_accelerationAlong_41 : decode cX4_accelerationAlong 41 = .ok (.fdiv, 1) := by decide +kernel
theorem dX4_accelerationAlong_42 : decode cX4_accelerationAlong 42 = .ok (.fcmp .g, 1) := by decide +kernel
theorem dX4_accelerationAlong_43 : decode cX4_accelerationAlong 43 = .ok (.ifCond .ge 7, 3) := by decide +kernel
theorem dX4_accelerationAlong_46 : decode cX4_accelerationAlong 46 = .ok (.fload_n 3, 1) := by decide +kernel
theorem dX4_accelerationAlong_47 : decode cX4_accelerationAlong 47 = .ok (.goto 4, 3) := by decide +kernel
theorem dX4_accelerationAlong_50 : decode cX4_accelerationAlong 50 = .ok (.fload_n 2, 1) := by decide +kernel
theorem dX4_accelerationAlong_51 : decode cX4_accelerationAlong 51 = .ok (.freturn, 1) := by decide +kernel
theorem dX4_accelerationAcross_0 : decode cX4_accelerationAcross 0 = .ok (.aload_n 0, 1) := by decide +kernel
theorem dX4_accelerationAcross_1 : decode cX4_accelerationAcross 1 = .ok (.fconst 0, 1) := by decide +kernel
theorem dX4_accelerationAcross_2 : decode cX4_accelerationAcross 2 = .ok (.aload_n 0, 1) := by decide +kernel
theorem dX4_accelerationAcross_3 : decode cX4_accelerationAcross 3 = .ok (.getfield 54, 3) := by decide +kernel
theorem dX4_accelerationAcross_6 : decode cX4_accelerationAcross 6 = .ok (.ldc 152, 2) := by decide +kernel
theorem dX4_accelerationAcross_8 : decode cX4_accelerationAcross 8 = .ok (.fmul, 1) := by decide +kernel
theorem dX4_accelerationAcross_9 : decode cX4_accelerationAcross 9 = .ok (.fsub, 1) := by decide +kernel
theorem dX4_accelerationAcross_10 : decode cX4_accelerationAcross 10 = .ok (.aload_n 0, 1) := by decide +kernel
theorem dX4_accelerationAcross_11 : decode cX4_accelerationAcross 11 = .ok (.getfield 60, 3) := by decide +kernel
theorem dX4_accelerationAcross_14 : decode cX4_accelerationAcross 14 = .ok (.fsub, 1) := by decide +kernel
theorem dX4_accelerationAcross_15 : decode cX4_accelerationAcross 15 = .ok (.invokevirtual 148, 3) := by decide +kernel
theorem dX4_accelerationAcross_18 : decode cX4_accelerationAcross 18 = .ok (.freturn, 1) := by decide +kernel
theorem dX4_heldToGreatest_0 : decode cX4_heldToGreatest 0 = .ok (.aload_n 0, 1) := by decide +kernel
theorem dX4_heldToGreatest_1 : decode cX4_heldToGreatest 1 = .ok (.getfield 20, 3) := by decide +kernel
theorem dX4_heldToGreatest_4 : decode cX4_heldToGreatest 4 = .ok (.iconst 4, 1) := by decide +kernel
theorem dX4_heldToGreatest_5 : decode cX4_heldToGreatest 5 = .ok (.iaload, 1) := by decide +kernel
theorem dX4_heldToGreatest_6 : decode cX4_heldToGreatest 6 = .ok (.i2f, 1) := by decide +kernel
theorem dX4_heldToGreatest_7 : decode cX4_heldToGreatest 7 = .ok (.ldc 151, 2) := by decide +kernel
theorem dX4_heldToGreatest_9 : decode cX4_heldToGreatest 9 = .ok (.fdiv, 1) := by decide +kernel
theorem dX4_heldToGreatest_10 : decode cX4_heldToGreatest 10 = .ok (.fstore_n 2, 1) := by decide +kernel
theorem dX4_heldToGreatest_11 : decode cX4_heldToGreatest 11 = .ok (.fload_n 1, 1) := by decide +kernel
theorem dX4_heldToGreatest_12 : decode cX4_heldToGreatest 12 = .ok (.fload_n 2, 1) := by decide +kernel
theorem dX4_heldToGreatest_13 : decode cX4_heldToGreatest 13 = .ok (.fneg, 1) := by decide +kernel
theorem dX4_heldToGreatest_14 : decode cX4_heldToGreatest 14 = .ok (.fcmp .g, 1) := by decide +kernel
theorem dX4_heldToGreatest_15 : decode cX4_heldToGreatest 15 = .ok (.ifCond .ge 6, 3) := by decide +kernel
theorem dX4_heldToGreatest_18 : decode cX4_heldToGreatest 18 = .ok (.fload_n 2, 1) := by decide +kernel
theorem dX4_heldToGreatest_19 : decode cX4_heldToGreatest 19 = .ok (.fneg, 1) := by decide +kernel
theorem dX4_heldToGreatest_20 : decode cX4_heldToGreatest 20 = .ok (.freturn, 1) := by decide +kernel
theorem dX4_heldToGreatest_21 : decode cX4_heldToGreatest 21 = .ok (.fload_n 1, 1) := by decide +kernel
theorem dX4_heldToGreatest_22 : decode cX4_heldToGreatest 22 = .ok (.fload_n 2, 1) := by decide +kernel
theorem dX4_heldToGreatest_23 : decode cX4_heldToGreatest 23 = .ok (.fcmp .l, 1) := by decide +kernel
theorem dX4_heldToGreatest_24 : decode cX4_heldToGreatest 24 = .ok (.ifCond .le 7, 3) := by decide +kernel
theorem dX4_heldToGreatest_27 : decode cX4_heldToGreatest 27 = .ok (.fload_n 2, 1) := by decide +kernel
theorem dX4_heldToGreatest_28 : decode cX4_heldToGreatest 28 = .ok (.goto 4, 3) := by decide +kernel
theorem dX4_heldToGreatest_31 : decode cX4_heldToGreatest 31 = .ok (.fload_n 1, 1) := by decide +kernel
theorem dX4_heldToGreatest_32 : decode cX4_heldToGreatest 32 = .ok (.freturn, 1) := by decide +kernel
theorem dX4_wantedSpeed_0 : decode cX4_wantedSpeed 0 = .ok (.aload_n 0, 1) := by decide +kernel
theorem dX4_wantedSpeed_1 : decode cX4_wantedSpeed 1 = .ok (.getfield 63, 3) := by decide +kernel
theorem dX4_wantedSpeed_4 : decode cX4_wantedSpeed 4 = .ok (.iconst 2, 1) := by decide +kernel
theorem dX4_wantedSpeed_5 : decode cX4_wantedSpeed 5 = .ok (.if_icmp .ne 16, 3) := by decide +kernel
theorem dX4_wantedSpeed_8 : decode cX4_wantedSpeed 8 = .ok (.aload_n 0, 1) := by decide +kernel
theorem dX4_wantedSpeed_9 : decode cX4_wantedSpeed 9 = .ok (.getfield 66, 3) := by decide +kernel
theorem dX4_wantedSpeed_12 : decode cX4_wantedSpeed 12 = .ok (.aload_n 0, 1) := by decide +kernel
theorem dX4_wantedSpeed_13 : decode cX4_wantedSpeed 13 = .ok (.getfield 10, 3) := by decide +kernel
theorem dX4_wantedSpeed_16 : decode cX4_wantedSpeed 16 = .ok (.fsub, 1) := by decide +kernel
theorem dX4_wantedSpeed_17 : decode cX4_wantedSpeed 17 = .ok (.ldc 153, 2) := by decide +kernel
theorem dX4_wantedSpeed_19 : decode cX4_wantedSpeed 19 = .ok (.fmul, 1) := by decide +kernel
theorem dX4_wantedSpeed_20 : decode cX4_wantedSpeed 20 = .ok (.freturn, 1) := by decide +kernel
theorem dX4_wantedSpeed_21 : decode cX4_wantedSpeed 21 = .ok (.aload_n 0, 1) := by decide +kernel
theorem dX4_wantedSpeed_22 : decode cX4_wantedSpeed 22 = .ok (.getfield 36, 3) := by decide +kernel
theorem dX4_wantedSpeed_25 : decode cX4_wantedSpeed 25 = .ok (.aload_n 0, 1) := by decide +kernel
theorem dX4_wantedSpeed_26 : decode cX4_wantedSpeed 26 = .ok (.getfield 50, 3) := by decide +kernel
theorem dX4_wantedSpeed_29 : decode cX4_wantedSpeed 29 = .ok (.aload_n 0, 1) := by decide +kernel
theorem dX4_wantedSpeed_30 : decode cX4_wantedSpeed 30 = .ok (.getfield 10, 3) := by decide +kernel
theorem dX4_wantedSpeed_33 : decode cX4_wantedSpeed 33 = .ok (.invokevirtual 154, 3) := by decide +kernel
theorem dX4_wantedSpeed_36 : decode cX4_wantedSpeed 36 = .ok (.invokevirtual 157, 3) := by decide +kernel
theorem dX4_wantedSpeed_39 : decode cX4_wantedSpeed 39 = .ok (.fstore_n 1, 1) := by decide +kernel
theorem dX4_wantedSpeed_40 : decode cX4_wantedSpeed 40 = .ok (.aload_n 0, 1) := by decide +kernel
theorem dX4_wantedSpeed_41 : decode cX4_wantedSpeed 41 = .ok (.getfield 63, 3) := by decide +kernel
theorem dX4_wantedSpeed_44 : decode cX4_wantedSpeed 44 = .ok (.iconst 3, 1) := by decide +kernel
theorem dX4_wantedSpeed_45 : decode cX4_wantedSpeed 45 = .ok (.if_icmp .ne 5, 3) := by decide +kernel
theorem dX4_wantedSpeed_48 : decode cX4_wantedSpeed 48 = .ok (.fload_n 1, 1) := by decide +kernel
theorem dX4_wantedSpeed_49 : decode cX4_wantedSpeed 49 = .ok (.freturn, 1) := by decide +kernel
theorem dX4_wantedSpeed_50 : decode cX4_wantedSpeed 50 = .ok (.aload_n 0, 1) := by decide +kernel
theorem dX4_wantedSpeed_51 : decode cX4_wantedSpeed 51 = .ok (.getfield 43, 3) := by decide +kernel
theorem dX4_wantedSpeed_54 : decode cX4_wantedSpeed 54 = .ok (.aload_n 0, 1) := by decide +kernel
theorem dX4_wantedSpeed_55 : decode cX4_wantedSpeed 55 = .ok (.getfield 10, 3) := by decide +kernel
theorem dX4_wantedSpeed_58 : decode cX4_wantedSpeed 58 = .ok (.invokevirtual 160, 3) := by decide +kernel
theorem dX4_wantedSpeed_61 : decode cX4_wantedSpeed 61 = .ok (.istore_n 2, 1) := by decide +kernel
theorem dX4_wantedSpeed_62 : decode cX4_wantedSpeed 62 = .ok (.aload_n 0, 1) := by decide +kernel
theorem dX4_wantedSpeed_63 : decode cX4_wantedSpeed 63 = .ok (.getfield 43, 3) := by decide +kernel
theorem dX4_wantedSpeed_66 : decode cX4_wantedSpeed 66 = .ok (.iload_n 2, 1) := by decide +kernel
theorem dX4_wantedSpeed_67 : decode cX4_wantedSpeed 67 = .ok (.invokevirtual 164, 3) := by decide +kernel
theorem dX4_wantedSpeed_70 : decode cX4_wantedSpeed 70 = .ok (.ifCond .ne 6, 3) := by decide +kernel
theorem dX4_wantedSpeed_73 : decode cX4_wantedSpeed 73 = .ok (.fload_n 1, 1) := by decide +kernel
theorem dX4_wantedSpeed_74 : decode cX4_wantedSpeed 74 = .ok (.fneg, 1) := by decide +kernel
theorem dX4_wantedSpeed_75 : decode cX4_wantedSpeed 75 = .ok (.freturn, 1) := by decide +kernel
theorem dX4_wantedSpeed_76 : decode cX4_wantedSpeed 76 = .ok (.fconst 0, 1) := by decide +kernel
theorem dX4_wantedSpeed_77 : decode cX4_wantedSpeed 77 = .ok (.aload_n 0, 1) := by decide +kernel
theorem dX4_wantedSpeed_78 : decode cX4_wantedSpeed 78 = .ok (.getfield 10, 3) := by decide +kernel
theorem dX4_wantedSpeed_81 : decode cX4_wantedSpeed 81 = .ok (.aload_n 0, 1) := by decide +kernel
theorem dX4_wantedSpeed_82 : decode cX4_wantedSpeed 82 = .ok (.getfield 43, 3) := by decide +kernel
theorem dX4_wantedSpeed_85 : decode cX4_wantedSpeed 85 = .ok (.iload_n 2, 1) := by decide +kernel
theorem dX4_wantedSpeed_86 : decode cX4_wantedSpeed 86 = .ok (.invokevirtual 168, 3) := by decide +kernel
theorem dX4_wantedSpeed_89 : decode cX4_wantedSpeed 89 = .ok (.fsub, 1) := by decide +kernel
theorem dX4_wantedSpeed_90 : decode cX4_wantedSpeed 90 = .ok (.ldc 153, 2) := by decide +kernel
theorem dX4_wantedSpeed_92 : decode cX4_wantedSpeed 92 = .ok (.fmul, 1) := by decide +kernel
theorem dX4_wantedSpeed_93 : decode cX4_wantedSpeed 93 = .ok (.fsub, 1) := by decide +kernel
theorem dX4_wantedSpeed_94 : decode cX4_wantedSpeed 94 = .ok (.fstore_n 3, 1) := by decide +kernel
theorem dX4_wantedSpeed_95 : decode cX4_wantedSpeed 95 = .ok (.fload_n 3, 1) := by decide +kernel
theorem dX4_wantedSpeed_96 : decode cX4_wantedSpeed 96 = .ok (.fload_n 1, 1) := by decide +kernel
theorem dX4_wantedSpeed_97 : decode cX4_wantedSpeed 97 = .ok (.fneg, 1) := by decide +kernel
theorem dX4_wantedSpeed_98 : decode cX4_wantedSpeed 98 = .ok (.fcmp .l, 1) := by decide +kernel
theorem dX4_wantedSpeed_99 : decode cX4_wantedSpeed 99 = .ok (.ifCond .le 7, 3) := by decide +kernel
theorem dX4_wantedSpeed_102 : decode cX4_wantedSpeed 102 = .ok (.fload_n 3, 1) := by decide +kernel
theorem dX4_wantedSpeed_103 : decode cX4_wantedSpeed 103 = .ok (.goto 5, 3) := by decide +kernel
theorem dX4_wantedSpeed_106 : decode cX4_wantedSpeed 106 = .ok (.fload_n 1, 1) := by decide +kernel
theorem dX4_wantedSpeed_107 : decode cX4_wantedSpeed 107 = .ok (.fneg, 1) := by decide +kernel
theorem dX4_wantedSpeed_108 : decode cX4_wantedSpeed 108 = .ok (.freturn, 1) := by decide +kernel
theorem dX4_arrive_0 : decode cX4_arrive 0 = .ok (.aload_n 0, 1) := by decide +kernel
theorem dX4_arrive_1 : decode cX4_arrive 1 = .ok (.getfield 57, 3) := by decide +kernel
theorem dX4_arrive_4 : decode cX4_arrive 4 = .ok (.invokestatic 172, 3) := by decide +kernel
theorem dX4_arrive_7 : decode cX4_arrive 7 = .ok (.aload_n 0, 1) := by decide +kernel
theorem dX4_arrive_8 : decode cX4_arrive 8 = .ok (.getfield 20, 3) := by decide +kernel
theorem dX4_arrive_11 : decode cX4_arrive 11 = .ok (.bipush 7, 2) := by decide +kernel
theorem dX4_arrive_13 : decode cX4_arrive 13 = .ok (.iaload, 1) := by decide +kernel
theorem dX4_arrive_14 : decode cX4_arrive 14 = .ok (.i2f, 1) := by decide +kernel
theorem dX4_arrive_15 : decode cX4_arrive 15 = .ok (.ldc 151, 2) := by decide +kernel
theorem dX4_arrive_17 : decode cX4_arrive 17 = .ok (.fdiv, 1) := by decide +kernel
theorem dX4_arrive_18 : decode cX4_arrive 18 = .ok (.fcmp .g, 1) := by decide +kernel
theorem dX4_arrive_19 : decode cX4_arrive 19 = .ok (.ifCond .gt 28, 3) := by decide +kernel
theorem dX4_arrive_22 : decode cX4_arrive 22 = .ok (.aload_n 0, 1) := by decide +kernel
theorem dX4_arrive_23 : decode cX4_arrive 23 = .ok (.getfield 54, 3) := by decide +kernel
theorem dX4_arrive_26 : decode cX4_arrive 26 = .ok (.invokestatic 172, 3) := by decide +kernel
theorem dX4_arrive_29 : decode cX4_arrive 29 = .ok (.aload_n 0, 1) := by decide +kernel
theorem dX4_arrive_30 : decode cX4_arrive 30 = .ok (.getfield 20, 3) := by decide +kernel
theorem dX4_arrive_33 : decode cX4_arrive 33 = .ok (.iconst 1, 1) := by decide +kernel
theorem dX4_arrive_34 : decode cX4_arrive 34 = .ok (.iaload, 1) := by decide +kernel
theorem dX4_arrive_35 : decode cX4_arrive 35 = .ok (.i2f, 1) := by decide +kernel
theorem dX4_arrive_36 : decode cX4_arrive 36 = .ok (.ldc 9, 2) := by decide +kernel
theorem dX4_arrive_38 : decode cX4_arrive 38 = .ok (.fdiv, 1) := by decide +kernel
theorem dX4_arrive_39 : decode cX4_arrive 39 = .ok (.fcmp .g, 1) := by decide +kernel
theorem dX4_arrive_40 : decode cX4_arrive 40 = .ok (.ifCond .gt 7, 3) := by decide +kernel
theorem dX4_arrive_43 : decode cX4_arrive 43 = .ok (.iconst 1, 1) := by decide +kernel
theorem dX4_arrive_44 : decode cX4_arrive 44 = .ok (.goto 4, 3) := by decide +kernel
theorem dX4_arrive_47 : decode cX4_arrive 47 = .ok (.iconst 0, 1) := by decide +kernel
theorem dX4_arrive_48 : decode cX4_arrive 48 = .ok (.istore_n 1, 1) := by decide +kernel
theorem dX4_arrive_49 : decode cX4_arrive 49 = .ok (.aload_n 0, 1) := by decide +kernel
theorem dX4_arrive_50 : decode cX4_arrive 50 = .ok (.iload_n 1, 1) := by decide +kernel
theorem dX4_arrive_51 : decode cX4_arrive 51 = .ok (.ifCond .eq 7, 3) := by decide +kernel
theorem dX4_arrive_54 : decode cX4_arrive 54 = .ok (.iconst 4, 1) := by decide +kernel
theorem dX4_arrive_55 : decode cX4_arrive 55 = .ok (.goto 4, 3) := by decide +kernel
theorem dX4_arrive_58 : decode cX4_arrive 58 = .ok (.iconst 5, 1) := by decide +kernel
theorem dX4_arrive_59 : decode cX4_arrive 59 = .ok (.invokevirtual 88, 3) := by decide +kernel
theorem dX4_arrive_62 : decode cX4_arrive 62 = .ok (.aload_n 0, 1) := by decide +kernel
theorem dX4_arrive_63 : decode cX4_arrive 63 = .ok (.fconst 0, 1) := by decide +kernel
theorem dX4_arrive_64 : decode cX4_arrive 64 = .ok (.putfield 10, 3) := by decide +kernel
theorem dX4_arrive_67 : decode cX4_arrive 67 = .ok (.aload_n 0, 1) := by decide +kernel
theorem dX4_arrive_68 : decode cX4_arrive 68 = .ok (.fconst 0, 1) := by decide +kernel
theorem dX4_arrive_69 : decode cX4_arrive 69 = .ok (.putfield 57, 3) := by decide +kernel
theorem dX4_arrive_72 : decode cX4_arrive 72 = .ok (.aload_n 0, 1) := by decide +kernel
theorem dX4_arrive_73 : decode cX4_arrive 73 = .ok (.fconst 0, 1) := by decide +kernel
theorem dX4_arrive_74 : decode cX4_arrive 74 = .ok (.putfield 60, 3) := by decide +kernel
theorem dX4_arrive_77 : decode cX4_arrive 77 = .ok (.return_, 1) := by decide +kernel
theorem dX4_holdAtStopReached_0 : decode cX4_holdAtStopReached 0 = .ok (.aload_n 0, 1) := by decide +kernel
theorem dX4_holdAtStopReached_1 : decode cX4_holdAtStopReached 1 = .ok (.getfield 57, 3) := by decide +kernel
theorem dX4_holdAtStopReached_4 : decode cX4_holdAtStopReached 4 = .ok (.invokestatic 172, 3) := by decide +kernel
theorem dX4_holdAtStopReached_7 : decode cX4_holdAtStopReached 7 = .ok (.ldc 152, 2) := by decide +kernel
theorem dX4_holdAtStopReached_9 : decode cX4_holdAtStopReached 9 = .ok (.fcmp .g, 1) := by decide +kernel
theorem dX4_holdAtStopReached_10 : decode cX4_holdAtStopReached 10 = .ok (.ifCond .ge 17, 3) := by decide +kernel
theorem dX4_holdAtStopReached_13 : decode cX4_holdAtStopReached 13 = .ok (.aload_n 0, 1) := by decide +kernel
theorem dX4_holdAtStopReached_14 : decode cX4_holdAtStopReached 14 = .ok (.getfield 43, 3) := by decide +kernel
theorem dX4_holdAtStopReached_17 : decode cX4_holdAtStopReached 17 = .ok (.aload_n 0, 1) := by decide +kernel
theorem dX4_holdAtStopReached_18 : decode cX4_holdAtStopReached 18 = .ok (.getfield 10, 3) := by decide +kernel
theorem dX4_holdAtStopReached_21 : decode cX4_holdAtStopReached 21 = .ok (.invokevirtual 175, 3) := by decide +kernel
theorem dX4_holdAtStopReached_24 : decode cX4_holdAtStopReached 24 = .ok (.goto 5, 3) := by decide +kernel
theorem dX4_holdAtStopReached_27 : decode cX4_holdAtStopReached 27 = .ok (.bipush (-5), 2) := by decide +kernel
theorem dX4_holdAtStopReached_29 : decode cX4_holdAtStopReached 29 = .ok (.istore_n 1, 1) := by decide +kernel
theorem dX4_holdAtStopReached_30 : decode cX4_holdAtStopReached 30 = .ok (.aload_n 0, 1) := by decide +kernel
theorem dX4_holdAtStopReached_31 : decode cX4_holdAtStopReached 31 = .ok (.getfield 43, 3) := by decide +kernel
theorem dX4_holdAtStopReached_34 : decode cX4_holdAtStopReached 34 = .ok (.iload_n 1, 1) := by decide +kernel
theorem dX4_holdAtStopReached_35 : decode cX4_holdAtStopReached 35 = .ok (.invokevirtual 164, 3) := by decide +kernel
theorem dX4_holdAtStopReached_38 : decode cX4_holdAtStopReached 38 = .ok (.ifCond .eq 16, 3) := by decide +kernel
theorem dX4_holdAtStopReached_41 : decode cX4_holdAtStopReached 41 = .ok (.aload_n 0, 1) := by decide +kernel
theorem dX4_holdAtStopReached_42 : decode cX4_holdAtStopReached 42 = .ok (.iload_n 1, 1) := by decide +kernel
theorem dX4_holdAtStopReached_43 : decode cX4_holdAtStopReached 43 = .ok (.aload_n 0, 1) := by decide +kernel
theorem dX4_holdAtStopReached_44 : decode cX4_holdAtStopReached 44 = .ok (.getfield 43, 3) := by decide +kernel
theorem dX4_holdAtStopReached_47 : decode cX4_holdAtStopReached 47 = .ok (.iload_n 1, 1) := by decide +kernel
theorem dX4_holdAtStopReached_48 : decode cX4_holdAtStopReached 48 = .ok (.invokevirtual 168, 3) := by decide +kernel
theorem dX4_holdAtStopReached_51 : decode cX4_holdAtStopReached 51 = .ok (.invokevirtual 144, 3) := by decide +kernel
theorem dX4_holdAtStopReached_54 : decode cX4_holdAtStopReached 54 = .ok (.return_, 1) := by decide +kernel
theorem dX4_countStrikes_0 : decode cX4_countStrikes 0 = .ok (.aload_n 0, 1) := by decide +kernel
theorem dX4_countStrikes_1 : decode cX4_countStrikes 1 = .ok (.iload_n 1, 1) := by decide +kernel
theorem dX4_countStrikes_2 : decode cX4_countStrikes 2 = .ok (.ifCond .ne 7, 3) := by decide +kernel
theorem dX4_countStrikes_5 : decode cX4_countStrikes 5 = .ok (.iconst 0, 1) := by decide +kernel
theorem dX4_countStrikes_6 : decode cX4_countStrikes 6 = .ok (.goto 9, 3) := by decide +kernel
theorem dX4_countStrikes_9 : decode cX4_countStrikes 9 = .ok (.aload_n 0, 1) := by decide +kernel
theorem dX4_countStrikes_10 : decode cX4_countStrikes 10 = .ok (.getfield 69, 3) := by decide +kernel
theorem dX4_countStrikes_13 : decode cX4_countStrikes 13 = .ok (.iconst 1, 1) := by decide +kernel
theorem dX4_countStrikes_14 : decode cX4_countStrikes 14 = .ok (.iadd, 1) := by decide +kernel
theorem dX4_countStrikes_15 : decode cX4_countStrikes 15 = .ok (.putfield 69, 3) := by decide +kernel
theorem dX4_countStrikes_18 : decode cX4_countStrikes 18 = .ok (.aload_n 0, 1) := by decide +kernel
theorem dX4_countStrikes_19 : decode cX4_countStrikes 19 = .ok (.getfield 69, 3) := by decide +kernel
theorem dX4_countStrikes_22 : decode cX4_countStrikes 22 = .ok (.iconst 2, 1) := by decide +kernel
theorem dX4_countStrikes_23 : decode cX4_countStrikes 23 = .ok (.if_icmp .ne 23, 3) := by decide +kernel
theorem dX4_countStrikes_26 : decode cX4_countStrikes 26 = .ok (.aload_n 0, 1) := by decide +kernel
theorem dX4_countStrikes_27 : decode cX4_countStrikes 27 = .ok (.iconst 3, 1) := by decide +kernel
theorem dX4_countStrikes_28 : decode cX4_countStrikes 28 = .ok (.invokevirtual 88, 3) := by decide +kernel
theorem dX4_countStrikes_31 : decode cX4_countStrikes 31 = .ok (.aload_n 0, 1) := by decide +kernel
theorem dX4_countStrikes_32 : decode cX4_countStrikes 32 = .ok (.iconst 0, 1) := by decide +kernel
theorem dX4_countStrikes_33 : decode cX4_countStrikes 33 = .ok (.putfield 69, 3) := by decide +kernel
theorem dX4_countStrikes_36 : decode cX4_countStrikes 36 = .ok (.aload_n 0, 1) := by decide +kernel
theorem dX4_countStrikes_37 : decode cX4_countStrikes 37 = .ok (.dup, 1) := by decide +kernel
theorem dX4_countStrikes_38 : decode cX4_countStrikes 38 = .ok (.getfield 75, 3) := by decide +kernel
theorem dX4_countStrikes_41 : decode cX4_countStrikes 41 = .ok (.iconst 1, 1) := by decide +kernel
theorem dX4_countStrikes_42 : decode cX4_countStrikes 42 = .ok (.iadd, 1) := by decide +kernel
theorem dX4_countStrikes_43 : decode cX4_countStrikes 43 = .ok (.putfield 75, 3) := by decide +kernel
theorem dX4_countStrikes_46 : decode cX4_countStrikes 46 = .ok (.return_, 1) := by decide +kernel
theorem dX4_judge_0 : decode cX4_judge 0 = .ok (.iconst 0, 1) := by decide +kernel
theorem dX4_judge_1 : decode cX4_judge 1 = .ok (.istore_n 1, 1) := by decide +kernel
theorem dX4_judge_2 : decode cX4_judge 2 = .ok (.aload_n 0, 1) := by decide +kernel
theorem dX4_judge_3 : decode cX4_judge 3 = .ok (.getfield 54, 3) := by decide +kernel
theorem dX4_judge_6 : decode cX4_judge 6 = .ok (.invokestatic 172, 3) := by decide +kernel
theorem dX4_judge_9 : decode cX4_judge 9 = .ok (.aload_n 0, 1) := by decide +kernel
theorem dX4_judge_10 : decode cX4_judge 10 = .ok (.getfield 10, 3) := by decide +kernel
theorem dX4_judge_13 : decode cX4_judge 13 = .ok (.aload_n 0, 1) := by decide +kernel
theorem dX4_judge_14 : decode cX4_judge 14 = .ok (.getfield 20, 3) := by decide +kernel
theorem dX4_judge_17 : decode cX4_judge 17 = .ok (.iconst 0, 1) := by decide +kernel
theorem dX4_judge_18 : decode cX4_judge 18 = .ok (.iaload, 1) := by decide +kernel
theorem dX4_judge_19 : decode cX4_judge 19 = .ok (.i2f, 1) := by decide +kernel
theorem dX4_judge_20 : decode cX4_judge 20 = .ok (.ldc 151, 2) := by decide +kernel
theorem dX4_judge_22 : decode cX4_judge 22 = .ok (.fdiv, 1) := by decide +kernel
theorem dX4_judge_23 : decode cX4_judge 23 = .ok (.fmul, 1) := by decide +kernel
theorem dX4_judge_24 : decode cX4_judge 24 = .ok (.aload_n 0, 1) := by decide +kernel
theorem dX4_judge_25 : decode cX4_judge 25 = .ok (.getfield 20, 3) := by decide +kernel
theorem dX4_judge_28 : decode cX4_judge 28 = .ok (.iconst 1, 1) := by decide +kernel
theorem dX4_judge_29 : decode cX4_judge 29 = .ok (.iaload, 1) := by decide +kernel
theorem dX4_judge_30 : decode cX4_judge 30 = .ok (.i2f, 1) := by decide +kernel
theorem dX4_judge_31 : decode cX4_judge 31 = .ok (.ldc 9, 2) := by decide +kernel
theorem dX4_judge_33 : decode cX4_judge 33 = .ok (.fdiv, 1) := by decide +kernel
theorem dX4_judge_34 : decode cX4_judge 34 = .ok (.fadd, 1) := by decide +kernel
theorem dX4_judge_35 : decode cX4_judge 35 = .ok (.fcmp .l, 1) := by decide +kernel
theorem dX4_judge_36 : decode cX4_judge 36 = .ok (.ifCond .le 7, 3) := by decide +kernel
theorem dX4_judge_39 : decode cX4_judge 39 = .ok (.iload_n 1, 1) := by decide +kernel
theorem dX4_judge_40 : decode cX4_judge 40 = .ok (.iconst 1, 1) := by decide +kernel
theorem dX4_judge_41 : decode cX4_judge 41 = .ok (.iadd, 1) := by decide +kernel
theorem dX4_judge_42 : decode cX4_judge 42 = .ok (.istore_n 1, 1) := by decide +kernel
theorem dX4_judge_43 : decode cX4_judge 43 = .ok (.aload_n 0, 1) := by decide +kernel
theorem dX4_judge_44 : decode cX4_judge 44 = .ok (.aload_n 0, 1) := by decide +kernel
theorem dX4_judge_45 : decode cX4_judge 45 = .ok (.getfield 57, 3) := by decide +kernel
theorem dX4_judge_48 : decode cX4_judge 48 = .ok (.invokevirtual 178, 3) := by decide +kernel
theorem dX4_judge_51 : decode cX4_judge 51 = .ok (.ifCond .eq 7, 3) := by decide +kernel
theorem dX4_judge_54 : decode cX4_judge 54 = .ok (.iload_n 1, 1) := by decide +kernel
theorem dX4_judge_55 : decode cX4_judge 55 = .ok (.iconst 2, 1) := by decide +kernel
theorem dX4_judge_56 : decode cX4_judge 56 = .ok (.iadd, 1) := by decide +kernel
theorem dX4_judge_57 : decode cX4_judge 57 = .ok (.istore_n 1, 1) := by decide +kernel
theorem dX4_judge_58 : decode cX4_judge 58 = .ok (.aload_n 0, 1) := by decide +kernel
theorem dX4_judge_59 : decode cX4_judge 59 = .ok (.aload_n 0, 1) := by decide +kernel
theorem dX4_judge_60 : decode cX4_judge 60 = .ok (.getfield 57, 3) := by decide +kernel
theorem dX4_judge_63 : decode cX4_judge 63 = .ok (.invokevirtual 182, 3) := by decide +kernel
theorem dX4_judge_66 : decode cX4_judge 66 = .ok (.ifCond .eq 7, 3) := by decide +kernel
theorem dX4_judge_69 : decode cX4_judge 69 = .ok (.iload_n 1, 1) := by decide +kernel
theorem dX4_judge_70 : decode cX4_judge 70 = .ok (.iconst 4, 1) := by decide +kernel
theorem dX4_judge_71 : decode cX4_judge 71 = .ok (.iadd, 1) := by decide +kernel
theorem dX4_judge_72 : decode cX4_judge 72 = .ok (.istore_n 1, 1) := by decide +kernel
theorem dX4_judge_73 : decode cX4_judge 73 = .ok (.iload_n 1, 1) := by decide +kernel
theorem dX4_judge_74 : decode cX4_judge 74 = .ok (.ireturn, 1) := by decide +kernel
theorem dX4_isTooFast_0 : decode cX4_isTooFast 0 = .ok (.fconst 0, 1) := by decide +kernel
theorem dX4_isTooFast_1 : decode cX4_isTooFast 1 = .ok (.fload_n 1, 1) := by decide +kernel
theorem dX4_isTooFast_2 : decode cX4_isTooFast 2 = .ok (.fsub, 1) := by decide +kernel
theorem dX4_isTooFast_3 : decode cX4_isTooFast 3 = .ok (.aload_n 0, 1) := by decide +kernel
theorem dX4_isTooFast_4 : decode cX4_isTooFast 4 = .ok (.getfield 36, 3) := by decide +kernel
theorem dX4_isTooFast_7 : decode cX4_isTooFast 7 = .ok (.aload_n 0, 1) := by decide +kernel
theorem dX4_isTooFast_8 : decode cX4_isTooFast 8 = .ok (.getfield 10, 3) := by decide +kernel
theorem dX4_isTooFast_11 : decode cX4_isTooFast 11 = .ok (.invokevirtual 157, 3) := by decide +kernel
theorem dX4_isTooFast_14 : decode cX4_isTooFast 14 = .ok (.ldc 185, 2) := by decide +kernel
theorem dX4_isTooFast_16 : decode cX4_isTooFast 16 = .ok (.fadd, 1) := by decide +kernel
theorem dX4_isTooFast_17 : decode cX4_isTooFast 17 = .ok (.fcmp .l, 1) := by decide +kernel
theorem dX4_isTooFast_18 : decode cX4_isTooFast 18 = .ok (.ifCond .le 7, 3) := by decide +kernel
theorem dX4_isTooFast_21 : decode cX4_isTooFast 21 = .ok (.iconst 1, 1) := by decide +kernel
theorem dX4_isTooFast_22 : decode cX4_isTooFast 22 = .ok (.goto 4, 3) := by decide +kernel
theorem dX4_isTooFast_25 : decode cX4_isTooFast 25 = .ok (.iconst 0, 1) := by decide +kernel
theorem dX4_isTooFast_26 : decode cX4_isTooFast 26 = .ok (.ireturn, 1) := by decide +kernel
theorem dX4_hasUnsafeDrift_0 : decode cX4_hasUnsafeDrift 0 = .ok (.aload_n 0, 1) := by decide +kernel
theorem dX4_hasUnsafeDrift_1 : decode cX4_hasUnsafeDrift 1 = .ok (.getfield 20, 3) := by decide +kernel
theorem dX4_hasUnsafeDrift_4 : decode cX4_hasUnsafeDrift 4 = .ok (.iconst 0, 1) := by decide +kernel
theorem dX4_hasUnsafeDrift_5 : decode cX4_hasUnsafeDrift 5 = .ok (.iaload, 1) := by decide +kernel
theorem dX4_hasUnsafeDrift_6 : decode cX4_hasUnsafeDrift 6 = .ok (.i2f, 1) := by decide +kernel
theorem dX4_hasUnsafeDrift_7 : decode cX4_hasUnsafeDrift 7 = .ok (.ldc 151, 2) := by decide +kernel
theorem dX4_hasUnsafeDrift_9 : decode cX4_hasUnsafeDrift 9 = .ok (.fdiv, 1) := by decide +kernel
theorem dX4_hasUnsafeDrift_10 : decode cX4_hasUnsafeDrift 10 = .ok (.fstore_n 2, 1) := by decide +kernel
theorem dX4_hasUnsafeDrift_11 : decode cX4_hasUnsafeDrift 11 = .ok (.aload_n 0, 1) := by decide +kernel
theorem dX4_hasUnsafeDrift_12 : decode cX4_hasUnsafeDrift 12 = .ok (.getfield 20, 3) := by decide +kernel
theorem dX4_hasUnsafeDrift_15 : decode cX4_hasUnsafeDrift 15 = .ok (.iconst 1, 1) := by decide +kernel
theorem dX4_hasUnsafeDrift_16 : decode cX4_hasUnsafeDrift 16 = .ok (.iaload, 1) := by decide +kernel
theorem dX4_hasUnsafeDrift_17 : decode cX4_hasUnsafeDrift 17 = .ok (.i2f, 1) := by decide +kernel
theorem dX4_hasUnsafeDrift_18 : decode cX4_hasUnsafeDrift 18 = .ok (.ldc 9, 2) := by decide +kernel
theorem dX4_hasUnsafeDrift_20 : decode cX4_hasUnsafeDrift 20 = .ok (.fdiv, 1) := by decide +kernel
theorem dX4_hasUnsafeDrift_21 : decode cX4_hasUnsafeDrift 21 = .ok (.fstore_n 3, 1) := by decide +kernel
theorem dX4_hasUnsafeDrift_22 : decode cX4_hasUnsafeDrift 22 = .ok (.aload_n 0, 1) := by decide +kernel
theorem dX4_hasUnsafeDrift_23 : decode cX4_hasUnsafeDrift 23 = .ok (.getfield 20, 3) := by decide +kernel
theorem dX4_hasUnsafeDrift_26 : decode cX4_hasUnsafeDrift 26 = .ok (.iconst 2, 1) := by decide +kernel
theorem dX4_hasUnsafeDrift_27 : decode cX4_hasUnsafeDrift 27 = .ok (.iaload, 1) := by decide +kernel
theorem dX4_hasUnsafeDrift_28 : decode cX4_hasUnsafeDrift 28 = .ok (.i2f, 1) := by decide +kernel
theorem dX4_hasUnsafeDrift_29 : decode cX4_hasUnsafeDrift 29 = .ok (.ldc 9, 2) := by decide +kernel
theorem dX4_hasUnsafeDrift_31 : decode cX4_hasUnsafeDrift 31 = .ok (.fdiv, 1) := by decide +kernel
theorem dX4_hasUnsafeDrift_32 : decode cX4_hasUnsafeDrift 32 = .ok (.fstore 4, 2) := by decide +kernel
theorem dX4_hasUnsafeDrift_34 : decode cX4_hasUnsafeDrift 34 = .ok (.fload 4, 2) := by decide +kernel
theorem dX4_hasUnsafeDrift_36 : decode cX4_hasUnsafeDrift 36 = .ok (.fload 4, 2) := by decide +kernel
theorem dX4_hasUnsafeDrift_38 : decode cX4_hasUnsafeDrift 38 = .ok (.fmul, 1) := by decide +kernel
theorem dX4_hasUnsafeDrift_39 : decode cX4_hasUnsafeDrift 39 = .ok (.fstore 5, 2) := by decide +kernel
theorem dX4_hasUnsafeDrift_41 : decode cX4_hasUnsafeDrift 41 = .ok (.aload_n 0, 1) := by decide +kernel
theorem dX4_hasUnsafeDrift_42 : decode cX4_hasUnsafeDrift 42 = .ok (.getfield 10, 3) := by decide +kernel
theorem dX4_hasUnsafeDrift_45 : decode cX4_hasUnsafeDrift 45 = .ok (.fstore 6, 2) := by decide +kernel
theorem dX4_hasUnsafeDrift_47 : decode cX4_hasUnsafeDrift 47 = .ok (.aload_n 0, 1) := by decide +kernel
theorem dX4_hasUnsafeDrift_48 : decode cX4_hasUnsafeDrift 48 = .ok (.getfield 54, 3) := by decide +kernel
theorem dX4_hasUnsafeDrift_51 : decode cX4_hasUnsafeDrift 51 = .ok (.fstore 7, 2) := by decide +kernel
theorem dX4_hasUnsafeDrift_53 : decode cX4_hasUnsafeDrift 53 = .ok (.iconst 0, 1) := by decide +kernel
theorem dX4_hasUnsafeDrift_54 : decode cX4_hasUnsafeDrift 54 = .ok (.istore 8, 2) := by decide +kernel
theorem dX4_hasUnsafeDrift_56 : decode cX4_hasUnsafeDrift 56 = .ok (.iload 8, 2) := by decide +kernel
theorem dX4_hasUnsafeDrift_58 : decode cX4_hasUnsafeDrift 58 = .ok (.aload_n 0, 1) := by decide +kernel
theorem dX4_hasUnsafeDrift_59 : decode cX4_hasUnsafeDrift 59 = .ok (.getfield 20, 3) := by decide +kernel
theorem dX4_hasUnsafeDrift_62 : decode cX4_hasUnsafeDrift 62 = .ok (.bipush 6, 2) := by decide +kernel
theorem dX4_hasUnsafeDrift_64 : decode cX4_hasUnsafeDrift 64 = .ok (.iaload, 1) := by decide +kernel
theorem dX4_hasUnsafeDrift_65 : decode cX4_hasUnsafeDrift 65 = .ok (.if_icmp .ge 65, 3) := by decide +kernel
theorem dX4_hasUnsafeDrift_68 : decode cX4_hasUnsafeDrift 68 = .ok (.fload 6, 2) := by decide +kernel
theorem dX4_hasUnsafeDrift_70 : decode cX4_hasUnsafeDrift 70 = .ok (.fload_n 1, 1) := by decide +kernel
theorem dX4_hasUnsafeDrift_71 : decode cX4_hasUnsafeDrift 71 = .ok (.fadd, 1) := by decide +kernel
theorem dX4_hasUnsafeDrift_72 : decode cX4_hasUnsafeDrift 72 = .ok (.fstore 6, 2) := by decide +kernel
theorem dX4_hasUnsafeDrift_74 : decode cX4_hasUnsafeDrift 74 = .ok (.fload 7, 2) := by decide +kernel
theorem dX4_hasUnsafeDrift_76 : decode cX4_hasUnsafeDrift 76 = .ok (.aload_n 0, 1) := by decide +kernel
theorem dX4_hasUnsafeDrift_77 : decode cX4_hasUnsafeDrift 77 = .ok (.getfield 60, 3) := by decide +kernel
theorem dX4_hasUnsafeDrift_80 : decode cX4_hasUnsafeDrift 80 = .ok (.fadd, 1) := by decide +kernel
theorem dX4_hasUnsafeDrift_81 : decode cX4_hasUnsafeDrift 81 = .ok (.fstore 7, 2) := by decide +kernel
theorem dX4_hasUnsafeDrift_83 : decode cX4_hasUnsafeDrift 83 = .ok (.fload 6, 2) := by decide +kernel
theorem dX4_hasUnsafeDrift_85 : decode cX4_hasUnsafeDrift 85 = .ok (.fload 6, 2) := by decide +kernel
theorem dX4_hasUnsafeDrift_87 : decode cX4_hasUnsafeDrift 87 = .ok (.fmul, 1) := by decide +kernel
theorem dX4_hasUnsafeDrift_88 : decode cX4_hasUnsafeDrift 88 = .ok (.fload 7, 2) := by decide +kernel
theorem dX4_hasUnsafeDrift_90 : decode cX4_hasUnsafeDrift 90 = .ok (.fload 7, 2) := by decide +kernel
theorem dX4_hasUnsafeDrift_92 : decode cX4_hasUnsafeDrift 92 = .ok (.fmul, 1) := by decide +kernel
theorem dX4_hasUnsafeDrift_93 : decode cX4_hasUnsafeDrift 93 = .ok (.fadd, 1) := by decide +kernel
theorem dX4_hasUnsafeDrift_94 : decode cX4_hasUnsafeDrift 94 = .ok (.fload 5, 2) := by decide +kernel
theorem dX4_hasUnsafeDrift_96 : decode cX4_hasUnsafeDrift 96 = .ok (.fcmp .g, 1) := by decide +kernel
theorem dX4_hasUnsafeDrift_97 : decode cX4_hasUnsafeDrift 97 = .ok (.ifCond .ge 27, 3) := by decide +kernel
theorem dX4_hasUnsafeDrift_100 : decode cX4_hasUnsafeDrift 100 = .ok (.fload 7, 2) := by decide +kernel
theorem dX4_hasUnsafeDrift_102 : decode cX4_hasUnsafeDrift 102 = .ok (.invokestatic 172, 3) := by decide +kernel
theorem dX4_hasUnsafeDrift_105 : decode cX4_hasUnsafeDrift 105 = .ok (.fload 6, 2) := by decide +kernel
theorem dX4_hasUnsafeDrift_107 : decode cX4_hasUnsafeDrift 107 = .ok (.fload_n 2, 1) := by decide +kernel
theorem dX4_hasUnsafeDrift_108 : decode cX4_hasUnsafeDrift 108 = .ok (.fmul, 1) := by decide +kernel
theorem dX4_hasUnsafeDrift_109 : decode cX4_hasUnsafeDrift 109 = .ok (.fload_n 3, 1) := by decide +kernel
theorem dX4_hasUnsafeDrift_110 : decode cX4_hasUnsafeDrift 110 = .ok (.fadd, 1) := by decide +kernel
theorem dX4_hasUnsafeDrift_111 : decode cX4_hasUnsafeDrift 111 = .ok (.fcmp .l, 1) := by decide +kernel
theorem dX4_hasUnsafeDrift_112 : decode cX4_hasUnsafeDrift 112 = .ok (.ifCond .gt 10, 3) := by decide +kernel
theorem dX4_hasUnsafeDrift_115 : decode cX4_hasUnsafeDrift 115 = .ok (.fload 6, 2) := by decide +kernel
theorem dX4_hasUnsafeDrift_117 : decode cX4_hasUnsafeDrift 117 = .ok (.fconst 0, 1) := by decide +kernel
theorem dX4_hasUnsafeDrift_118 : decode cX4_hasUnsafeDrift 118 = .ok (.fcmp .g, 1) := by decide +kernel
theorem dX4_hasUnsafeDrift_119 : decode cX4_hasUnsafeDrift 119 = .ok (.ifCond .ge 5, 3) := by decide +kernel
theorem dX4_hasUnsafeDrift_122 : decode cX4_hasUnsafeDrift 122 = .ok (.iconst 1, 1) := by decide +kernel
theorem dX4_hasUnsafeDrift_123 : decode cX4_hasUnsafeDrift 123 = .ok (.ireturn, 1) := by decide +kernel
theorem dX4_hasUnsafeDrift_124 : decode cX4_hasUnsafeDrift 124 = .ok (.iinc 8 1, 3) := by decide +kernel
theorem dX4_hasUnsafeDrift_127 : decode cX4_hasUnsafeDrift 127 = .ok (.goto (-71), 3) := by decide +kernel
theorem dX4_hasUnsafeDrift_130 : decode cX4_hasUnsafeDrift 130 = .ok (.iconst 0, 1) := by decide +kernel
theorem dX4_hasUnsafeDrift_131 : decode cX4_hasUnsafeDrift 131 = .ok (.ireturn, 1) := by decide +kernel
theorem dX5_init_0 : decode cX5_init 0 = .ok (.aload_n 0, 1) := by decide +kernel
theorem dX5_init_1 : decode cX5_init 1 = .ok (.invokespecial 3, 3) := by decide +kernel
theorem dX5_init_4 : decode cX5_init 4 = .ok (.aload_n 0, 1) := by decide +kernel
theorem dX5_init_5 : decode cX5_init 5 = .ok (.iconst 4, 1) := by decide +kernel
theorem dX5_init_6 : decode cX5_init 6 = .ok (.newarray .int, 2) := by decide +kernel
theorem dX5_init_8 : decode cX5_init 8 = .ok (.putfield 9, 3) := by decide +kernel
theorem dX5_init_11 : decode cX5_init 11 = .ok (.aload_n 0, 1) := by decide +kernel
theorem dX5_init_12 : decode cX5_init 12 = .ok (.iconst 4, 1) := by decide +kernel
theorem dX5_init_13 : decode cX5_init 13 = .ok (.newarray .boolean, 2) := by decide +kernel
theorem dX5_init_15 : decode cX5_init 15 = .ok (.putfield 15, 3) := by decide +kernel
theorem dX5_init_18 : decode cX5_init 18 = .ok (.return_, 1) := by decide +kernel
theorem dX5_copyFrom_0 : decode cX5_copyFrom 0 = .ok (.aload_n 0, 1) := by decide +kernel
theorem dX5_copyFrom_1 : decode cX5_copyFrom 1 = .ok (.aload_n 1, 1) := by decide +kernel
theorem dX5_copyFrom_2 : decode cX5_copyFrom 2 = .ok (.getfield 19, 3) := by decide +kernel
theorem dX5_copyFrom_5 : decode cX5_copyFrom 5 = .ok (.putfield 19, 3) := by decide +kernel
theorem dX5_copyFrom_8 : decode cX5_copyFrom 8 = .ok (.iconst 0, 1) := by decide +kernel
theorem dX5_copyFrom_9 : decode cX5_copyFrom 9 = .ok (.istore_n 2, 1) := by decide +kernel
theorem dX5_copyFrom_10 : decode cX5_copyFrom 10 = .ok (.iload_n 2, 1) := by decide +kernel
theorem dX5_copyFrom_11 : decode cX5_copyFrom 11 = .ok (.iconst 4, 1) := by decide +kernel
theorem dX5_copyFrom_12 : decode cX5_copyFrom 12 = .ok (.if_icmp .ge 33, 3) := by decide +kernel
theorem dX5_copyFrom_15 : decode cX5_copyFrom 15 = .ok (.aload_n 0, 1) := by decide +kernel
theorem dX5_copyFrom_16 : decode cX5_copyFrom 16 = .ok (.getfield 9, 3) := by decide +kernel
theorem dX5_copyFrom_19 : decode cX5_copyFrom 19 = .ok (.iload_n 2, 1) := by decide +kernel
theorem dX5_copyFrom_20 : decode cX5_copyFrom 20 = .ok (.aload_n 1, 1) := by decide +kernel
theorem dX5_copyFrom_21 : decode cX5_copyFrom 21 = .ok (.getfield 9, 3) := by decide +kernel
theorem dX5_copyFrom_24 : decode cX5_copyFrom 24 = .ok (.iload_n 2, 1) := by decide +kernel
theorem dX5_copyFrom_25 : decode cX5_copyFrom 25 = .ok (.iaload, 1) := by decide +kernel
theorem dX5_copyFrom_26 : decode cX5_copyFrom 26 = .ok (.iastore, 1) := by decide +kernel
theorem dX5_copyFrom_27 : decode cX5_copyFrom 27 = .ok (.aload_n 0, 1) := by decide +kernel
theorem dX5_copyFrom_28 : decode cX5_copyFrom 28 = .ok (.getfield 15, 3) := by decide +kernel
theorem dX5_copyFrom_31 : decode cX5_copyFrom 31 = .ok (.iload_n 2, 1) := by decide +kernel
theorem dX5_copyFrom_32 : decode cX5_copyFrom 32 = .ok (.aload_n 1, 1) := by decide +kernel
theorem dX5_copyFrom_33 : decode cX5_copyFrom 33 = .ok (.getfield 15, 3) := by decide +kernel
theorem dX5_copyFrom_36 : decode cX5_copyFrom 36 = .ok (.iload_n 2, 1) := by decide +kernel
theorem dX5_copyFrom_37 : decode cX5_copyFrom 37 = .ok (.baload, 1) := by decide +kernel
theorem dX5_copyFrom_38 : decode cX5_copyFrom 38 = .ok (.bastore, 1) := by decide +kernel
theorem dX5_copyFrom_39 : decode cX5_copyFrom 39 = .ok (.iinc 2 1, 3) := by decide +kernel
theorem dX5_copyFrom_42 : decode cX5_copyFrom 42 = .ok (.goto (-32), 3) := by decide +kernel
theorem dX5_copyFrom_45 : decode cX5_copyFrom 45 = .ok (.return_, 1) := by decide +kernel
theorem dX5_has_0 : decode cX5_has 0 = .ok (.iload_n 1, 1) := by decide +kernel
theorem dX5_has_1 : decode cX5_has 1 = .ok (.ifCond .lt 15, 3) := by decide +kernel
theorem dX5_has_4 : decode cX5_has 4 = .ok (.iload_n 1, 1) := by decide +kernel
theorem dX5_has_5 : decode cX5_has 5 = .ok (.aload_n 0, 1) := by decide +kernel
theorem dX5_has_6 : decode cX5_has 6 = .ok (.getfield 19, 3) := by decide +kernel
theorem dX5_has_9 : decode cX5_has 9 = .ok (.if_icmp .ge 7, 3) := by decide +kernel
theorem dX5_has_12 : decode cX5_has 12 = .ok (.iconst 1, 1) := by decide +kernel
theorem dX5_has_13 : decode cX5_has 13 = .ok (.goto 4, 3) := by decide +kernel
theorem dX5_has_16 : decode cX5_has 16 = .ok (.iconst 0, 1) := by decide +kernel
theorem dX5_has_17 : decode cX5_has 17 = .ok (.ireturn, 1) := by decide +kernel
theorem dX5_metres_0 : decode cX5_metres 0 = .ok (.aload_n 0, 1) := by decide +kernel
theorem dX5_metres_1 : decode cX5_metres 1 = .ok (.getfield 9, 3) := by decide +kernel
