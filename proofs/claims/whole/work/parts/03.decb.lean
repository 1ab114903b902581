theorem dX1_init_12 : decode cX1_init 12 = .ok (.iconst 0, 1) := by decide +kernel
theorem dX1_init_13 : decode cX1_init 13 = .ok (.istore_n 1, 1) := by decide +kernel
theorem dX1_init_14 : decode cX1_init 14 = .ok (.iload_n 1, 1) := by decide +kernel
theorem dX1_init_15 : decode cX1_init 15 = .ok (.iconst 5, 1) := by decide +kernel
theorem dX1_init_16 : decode cX1_init 16 = .ok (.if_icmp .ge 22, 3) := by decide +kernel
theorem dX1_init_19 : decode cX1_init 19 = .ok (.aload_n 0, 1) := by decide +kernel
theorem dX1_init_20 : decode cX1_init 20 = .ok (.getfield 11, 3) := by decide +kernel
theorem dX1_init_23 : decode cX1_init 23 = .ok (.iload_n 1, 1) := by decide +kernel
theorem dX1_init_24 : decode cX1_init 24 = .ok (.new 9, 3) := by decide +kernel
theorem dX1_init_27 : decode cX1_init 27 = .ok (.dup, 1) := by decide +kernel
theorem dX1_init_28 : decode cX1_init 28 = .ok (.invokespecial 17, 3) := by decide +kernel
theorem dX1_init_31 : decode cX1_init 31 = .ok (.aastore, 1) := by decide +kernel
theorem dX1_init_32 : decode cX1_init 32 = .ok (.iinc 1 1, 3) := by decide +kernel
theorem dX1_init_35 : decode cX1_init 35 = .ok (.goto (-21), 3) := by decide +kernel
theorem dX1_init_38 : decode cX1_init 38 = .ok (.return_, 1) := by decide +kernel
theorem dX1_keep_0 : decode cX1_keep 0 = .ok (.aload_n 0, 1) := by decide +kernel
theorem dX1_keep_1 : decode cX1_keep 1 = .ok (.getfield 18, 3) := by decide +kernel
theorem dX1_keep_4 : decode cX1_keep 4 = .ok (.iconst 5, 1) := by decide +kernel
theorem dX1_keep_5 : decode cX1_keep 5 = .ok (.if_icmp .lt 7, 3) := by decide +kernel
theorem dX1_keep_8 : decode cX1_keep 8 = .ok (.aload_n 0, 1) := by decide +kernel
theorem dX1_keep_9 : decode cX1_keep 9 = .ok (.invokevirtual 22, 3) := by decide +kernel
theorem dX1_keep_12 : decode cX1_keep 12 = .ok (.aload_n 0, 1) := by decide +kernel
theorem dX1_keep_13 : decode cX1_keep 13 = .ok (.getfield 11, 3) := by decide +kernel
theorem dX1_keep_16 : decode cX1_keep 16 = .ok (.aload_n 0, 1) := by decide +kernel
theorem dX1_keep_17 : decode cX1_keep 17 = .ok (.getfield 18, 3) := by decide +kernel
theorem dX1_keep_20 : decode cX1_keep 20 = .ok (.aaload, 1) := by decide +kernel
theorem dX1_keep_21 : decode cX1_keep 21 = .ok (.aload_n 1, 1) := by decide +kernel
theorem dX1_keep_22 : decode cX1_keep 22 = .ok (.invokevirtual 25, 3) := by decide +kernel
theorem dX1_keep_25 : decode cX1_keep 25 = .ok (.aload_n 0, 1) := by decide +kernel
theorem dX1_keep_26 : decode cX1_keep 26 = .ok (.dup, 1) := by decide +kernel
theorem dX1_keep_27 : decode cX1_keep 27 = .ok (.getfield 18, 3) := by decide +kernel
theorem dX1_keep_30 : decode cX1_keep 30 = .ok (.iconst 1, 1) := by decide +kernel
theorem dX1_keep_31 : decode cX1_keep 31 = .ok (.iadd, 1) := by decide +kernel
theorem dX1_keep_32 : decode cX1_keep 32 = .ok (.putfield 18, 3) := by decide +kernel
theorem dX1_keep_35 : decode cX1_keep 35 = .ok (.return_, 1) := by decide +kernel
theorem dX1_dropOldest_0 : decode cX1_dropOldest 0 = .ok (.aload_n 0, 1) := by decide +kernel
theorem dX1_dropOldest_1 : decode cX1_dropOldest 1 = .ok (.getfield 11, 3) := by decide +kernel
theorem dX1_dropOldest_4 : decode cX1_dropOldest 4 = .ok (.iconst 0, 1) := by decide +kernel
theorem dX1_dropOldest_5 : decode cX1_dropOldest 5 = .ok (.aaload, 1) := by decide +kernel
theorem dX1_dropOldest_6 : decode cX1_dropOldest 6 = .ok (.astore_n 1, 1) := by decide +kernel
theorem dX1_dropOldest_7 : decode cX1_dropOldest 7 = .ok (.iconst 1, 1) := by decide +kernel
theorem dX1_dropOldest_8 : decode cX1_dropOldest 8 = .ok (.istore_n 2, 1) := by decide +kernel
theorem dX1_dropOldest_9 : decode cX1_dropOldest 9 = .ok (.iload_n 2, 1) := by decide +kernel
theorem dX1_dropOldest_10 : decode cX1_dropOldest 10 = .ok (.iconst 5, 1) := by decide +kernel
theorem dX1_dropOldest_11 : decode cX1_dropOldest 11 = .ok (.if_icmp .ge 23, 3) := by decide +kernel
theorem dX1_dropOldest_14 : decode cX1_dropOldest 14 = .ok (.aload_n 0, 1) := by decide +kernel
theorem dX1_dropOldest_15 : decode cX1_dropOldest 15 = .ok (.getfield 11, 3) := by decide +kernel
theorem dX1_dropOldest_18 : decode cX1_dropOldest 18 = .ok (.iload_n 2, 1) := by decide +kernel
theorem dX1_dropOldest_19 : decode cX1_dropOldest 19 = .ok (.iconst 1, 1) := by decide +kernel
theorem dX1_dropOldest_20 : decode cX1_dropOldest 20 = .ok (.isub, 1) := by decide +kernel
theorem dX1_dropOldest_21 : decode cX1_dropOldest 21 = .ok (.aload_n 0, 1) := by decide +kernel
theorem dX1_dropOldest_22 : decode cX1_dropOldest 22 = .ok (.getfield 11, 3) := by decide +kernel
theorem dX1_dropOldest_25 : decode cX1_dropOldest 25 = .ok (.iload_n 2, 1) := by decide +kernel
theorem dX1_dropOldest_26 : decode cX1_dropOldest 26 = .ok (.aaload, 1) := by decide +kernel
theorem dX1_dropOldest_27 : decode cX1_dropOldest 27 = .ok (.aastore, 1) := by decide +kernel
theorem dX1_dropOldest_28 : decode cX1_dropOldest 28 = .ok (.iinc 2 1, 3) := by decide +kernel
theorem dX1_dropOldest_31 : decode cX1_dropOldest 31 = .ok (.goto (-22), 3) := by decide +kernel
theorem dX1_dropOldest_34 : decode cX1_dropOldest 34 = .ok (.aload_n 0, 1) := by decide +kernel
theorem dX1_dropOldest_35 : decode cX1_dropOldest 35 = .ok (.getfield 11, 3) := by decide +kernel
theorem dX1_dropOldest_38 : decode cX1_dropOldest 38 = .ok (.iconst 4, 1) := by decide +kernel
theorem dX1_dropOldest_39 : decode cX1_dropOldest 39 = .ok (.aload_n 1, 1) := by decide +kernel
theorem dX1_dropOldest_40 : decode cX1_dropOldest 40 = .ok (.aastore, 1) := by decide +kernel
theorem dX1_dropOldest_41 : decode cX1_dropOldest 41 = .ok (.aload_n 0, 1) := by decide +kernel
theorem dX1_dropOldest_42 : decode cX1_dropOldest 42 = .ok (.iconst 4, 1) := by decide +kernel
theorem dX1_dropOldest_43 : decode cX1_dropOldest 43 = .ok (.putfield 18, 3) := by decide +kernel
theorem dX1_dropOldest_46 : decode cX1_dropOldest 46 = .ok (.return_, 1) := by decide +kernel
theorem dX1_takeLatest_0 : decode cX1_takeLatest 0 = .ok (.aload_n 0, 1) := by decide +kernel
theorem dX1_takeLatest_1 : decode cX1_takeLatest 1 = .ok (.dup, 1) := by decide +kernel
theorem dX1_takeLatest_2 : decode cX1_takeLatest 2 = .ok (.getfield 18, 3) := by decide +kernel
theorem dX1_takeLatest_5 : decode cX1_takeLatest 5 = .ok (.iconst 1, 1) := by decide +kernel
theorem dX1_takeLatest_6 : decode cX1_takeLatest 6 = .ok (.isub, 1) := by decide +kernel
theorem dX1_takeLatest_7 : decode cX1_takeLatest 7 = .ok (.putfield 18, 3) := by decide +kernel
theorem dX1_takeLatest_10 : decode cX1_takeLatest 10 = .ok (.aload_n 1, 1) := by decide +kernel
theorem dX1_takeLatest_11 : decode cX1_takeLatest 11 = .ok (.aload_n 0, 1) := by decide +kernel
theorem dX1_takeLatest_12 : decode cX1_takeLatest 12 = .ok (.getfield 11, 3) := by decide +kernel
theorem dX1_takeLatest_15 : decode cX1_takeLatest 15 = .ok (.aload_n 0, 1) := by decide +kernel
theorem dX1_takeLatest_16 : decode cX1_takeLatest 16 = .ok (.getfield 18, 3) := by decide +kernel
theorem dX1_takeLatest_19 : decode cX1_takeLatest 19 = .ok (.aaload, 1) := by decide +kernel
theorem dX1_takeLatest_20 : decode cX1_takeLatest 20 = .ok (.invokevirtual 25, 3) := by decide +kernel
theorem dX1_takeLatest_23 : decode cX1_takeLatest 23 = .ok (.return_, 1) := by decide +kernel
theorem dX2_init_0 : decode cX2_init 0 = .ok (.aload_n 0, 1) := by decide +kernel
theorem dX2_init_1 : decode cX2_init 1 = .ok (.invokespecial 3, 3) := by decide +kernel
theorem dX2_init_4 : decode cX2_init 4 = .ok (.aload_n 0, 1) := by decide +kernel
theorem dX2_init_5 : decode cX2_init 5 = .ok (.bipush 6, 2) := by decide +kernel
theorem dX2_init_7 : decode cX2_init 7 = .ok (.newarray .int, 2) := by decide +kernel
theorem dX2_init_9 : decode cX2_init 9 = .ok (.putfield 9, 3) := by decide +kernel
theorem dX2_init_12 : decode cX2_init 12 = .ok (.aload_n 0, 1) := by decide +kernel
theorem dX2_init_13 : decode cX2_init 13 = .ok (.bipush 6, 2) := by decide +kernel
theorem dX2_init_15 : decode cX2_init 15 = .ok (.newarray .int, 2) := by decide +kernel
theorem dX2_init_17 : decode cX2_init 17 = .ok (.putfield 15, 3) := by decide +kernel
theorem dX2_init_20 : decode cX2_init 20 = .ok (.return_, 1) := by decide +kernel
theorem dX2_copyFrom_0 : decode cX2_copyFrom 0 = .ok (.aload_n 0, 1) := by decide +kernel
theorem dX2_copyFrom_1 : decode cX2_copyFrom 1 = .ok (.aload_n 1, 1) := by decide +kernel
theorem dX2_copyFrom_2 : decode cX2_copyFrom 2 = .ok (.getfield 18, 3) := by decide +kernel
theorem dX2_copyFrom_5 : decode cX2_copyFrom 5 = .ok (.putfield 18, 3) := by decide +kernel
theorem dX2_copyFrom_8 : decode cX2_copyFrom 8 = .ok (.aload_n 1, 1) := by decide +kernel
theorem dX2_copyFrom_9 : decode cX2_copyFrom 9 = .ok (.getfield 9, 3) := by decide +kernel
theorem dX2_copyFrom_12 : decode cX2_copyFrom 12 = .ok (.iconst 0, 1) := by decide +kernel
theorem dX2_copyFrom_13 : decode cX2_copyFrom 13 = .ok (.aload_n 0, 1) := by decide +kernel
theorem dX2_copyFrom_14 : decode cX2_copyFrom 14 = .ok (.getfield 9, 3) := by decide +kernel
theorem dX2_copyFrom_17 : decode cX2_copyFrom 17 = .ok (.iconst 0, 1) := by decide +kernel
theorem dX2_copyFrom_18 : decode cX2_copyFrom 18 = .ok (.bipush 6, 2) := by decide +kernel
theorem dX2_copyFrom_20 : decode cX2_copyFrom 20 = .ok (.invokestatic 22, 3) := by decide +kernel
theorem dX2_copyFrom_23 : decode cX2_copyFrom 23 = .ok (.aload_n 1, 1) := by decide +kernel
theorem dX2_copyFrom_24 : decode cX2_copyFrom 24 = .ok (.getfield 15, 3) := by decide +kernel
theorem dX2_copyFrom_27 : decode cX2_copyFrom 27 = .ok (.iconst 0, 1) := by decide +kernel
theorem dX2_copyFrom_28 : decode cX2_copyFrom 28 = .ok (.aload_n 0, 1) := by decide +kernel
theorem dX2_copyFrom_29 : decode cX2_copyFrom 29 = .ok (.getfield 15, 3) := by decide +kernel
theorem dX2_copyFrom_32 : decode cX2_copyFrom 32 = .ok (.iconst 0, 1) := by decide +kernel
theorem dX2_copyFrom_33 : decode cX2_copyFrom 33 = .ok (.bipush 6, 2) := by decide +kernel
theorem dX2_copyFrom_35 : decode cX2_copyFrom 35 = .ok (.invokestatic 22, 3) := by decide +kernel
theorem dX2_copyFrom_38 : decode cX2_copyFrom 38 = .ok (.return_, 1) := by decide +kernel
theorem dX2_hasRoomFor_0 : decode cX2_hasRoomFor 0 = .ok (.aload_n 0, 1) := by decide +kernel
theorem dX2_hasRoomFor_1 : decode cX2_hasRoomFor 1 = .ok (.iload_n 1, 1) := by decide +kernel
theorem dX2_hasRoomFor_2 : decode cX2_hasRoomFor 2 = .ok (.invokevirtual 28, 3) := by decide +kernel
theorem dX2_hasRoomFor_5 : decode cX2_hasRoomFor 5 = .ok (.istore_n 2, 1) := by decide +kernel
theorem dX2_hasRoomFor_6 : decode cX2_hasRoomFor 6 = .ok (.aload_n 0, 1) := by decide +kernel
theorem dX2_hasRoomFor_7 : decode cX2_hasRoomFor 7 = .ok (.getfield 18, 3) := by decide +kernel
theorem dX2_hasRoomFor_10 : decode cX2_hasRoomFor 10 = .ok (.bipush 6, 2) := by decide +kernel
theorem dX2_hasRoomFor_12 : decode cX2_hasRoomFor 12 = .ok (.if_icmp .lt 21, 3) := by decide +kernel
theorem dX2_hasRoomFor_15 : decode cX2_hasRoomFor 15 = .ok (.iload_n 2, 1) := by decide +kernel
theorem dX2_hasRoomFor_16 : decode cX2_hasRoomFor 16 = .ok (.aload_n 0, 1) := by decide +kernel
theorem dX2_hasRoomFor_17 : decode cX2_hasRoomFor 17 = .ok (.getfield 18, 3) := by decide +kernel
theorem dX2_hasRoomFor_20 : decode cX2_hasRoomFor 20 = .ok (.if_icmp .ge 17, 3) := by decide +kernel
theorem dX2_hasRoomFor_23 : decode cX2_hasRoomFor 23 = .ok (.aload_n 0, 1) := by decide +kernel
theorem dX2_hasRoomFor_24 : decode cX2_hasRoomFor 24 = .ok (.getfield 9, 3) := by decide +kernel
theorem dX2_hasRoomFor_27 : decode cX2_hasRoomFor 27 = .ok (.iload_n 2, 1) := by decide +kernel
theorem dX2_hasRoomFor_28 : decode cX2_hasRoomFor 28 = .ok (.iaload, 1) := by decide +kernel
theorem dX2_hasRoomFor_29 : decode cX2_hasRoomFor 29 = .ok (.iload_n 1, 1) := by decide +kernel
theorem dX2_hasRoomFor_30 : decode cX2_hasRoomFor 30 = .ok (.if_icmp .ne 7, 3) := by decide +kernel
theorem dX2_hasRoomFor_33 : decode cX2_hasRoomFor 33 = .ok (.iconst 1, 1) := by decide +kernel
theorem dX2_hasRoomFor_34 : decode cX2_hasRoomFor 34 = .ok (.goto 4, 3) := by decide +kernel
theorem dX2_hasRoomFor_37 : decode cX2_hasRoomFor 37 = .ok (.iconst 0, 1) := by decide +kernel
theorem dX2_hasRoomFor_38 : decode cX2_hasRoomFor 38 = .ok (.ireturn, 1) := by decide +kernel
theorem dX2_put_0 : decode cX2_put 0 = .ok (.aload_n 0, 1) := by decide +kernel
theorem dX2_put_1 : decode cX2_put 1 = .ok (.iload_n 1, 1) := by decide +kernel
theorem dX2_put_2 : decode cX2_put 2 = .ok (.invokevirtual 28, 3) := by decide +kernel
theorem dX2_put_5 : decode cX2_put 5 = .ok (.istore_n 3, 1) := by decide +kernel
theorem dX2_put_6 : decode cX2_put 6 = .ok (.iload_n 3, 1) := by decide +kernel
theorem dX2_put_7 : decode cX2_put 7 = .ok (.aload_n 0, 1) := by decide +kernel
theorem dX2_put_8 : decode cX2_put 8 = .ok (.getfield 18, 3) := by decide +kernel
theorem dX2_put_11 : decode cX2_put 11 = .ok (.if_icmp .ge 13, 3) := by decide +kernel
theorem dX2_put_14 : decode cX2_put 14 = .ok (.aload_n 0, 1) := by decide +kernel
theorem dX2_put_15 : decode cX2_put 15 = .ok (.getfield 9, 3) := by decide +kernel
theorem dX2_put_18 : decode cX2_put 18 = .ok (.iload_n 3, 1) := by decide +kernel
theorem dX2_put_19 : decode cX2_put 19 = .ok (.iaload, 1) := by decide +kernel
theorem dX2_put_20 : decode cX2_put 20 = .ok (.iload_n 1, 1) := by decide +kernel
theorem dX2_put_21 : decode cX2_put 21 = .ok (.if_icmp .eq 63, 3) := by decide +kernel
theorem dX2_put_24 : decode cX2_put 24 = .ok (.aload_n 0, 1) := by decide +kernel
theorem dX2_put_25 : decode cX2_put 25 = .ok (.getfield 18, 3) := by decide +kernel
theorem dX2_put_28 : decode cX2_put 28 = .ok (.istore 4, 2) := by decide +kernel
theorem dX2_put_30 : decode cX2_put 30 = .ok (.iload 4, 2) := by decide +kernel
theorem dX2_put_32 : decode cX2_put 32 = .ok (.iload_n 3, 1) := by decide +kernel
theorem dX2_put_33 : decode cX2_put 33 = .ok (.if_icmp .le 41, 3) := by decide +kernel
theorem dX2_put_36 : decode cX2_put 36 = .ok (.aload_n 0, 1) := by decide +kernel
theorem dX2_put_37 : decode cX2_put 37 = .ok (.getfield 9, 3) := by decide +kernel
theorem dX2_put_40 : decode cX2_put 40 = .ok (.iload 4, 2) := by decide +kernel
theorem dX2_put_42 : decode cX2_put 42 = .ok (.aload_n 0, 1) := by decide +kernel
theorem dX2_put_43 : decode cX2_put 43 = .ok (.getfield 9, 3) := by decide +kernel
theorem dX2_put_46 : decode cX2_put 46 = .ok (.iload 4, 2) := by decide +kernel
theorem dX2_put_48 : decode cX2_put 48 = .ok (.iconst 1, 1) := by decide +kernel
theorem dX2_put_49 : decode cX2_put 49 = .ok (.isub, 1) := by decide +kernel
theorem dX2_put_50 : decode cX2_put 50 = .ok (.iaload, 1) := by decide +kernel
theorem dX2_put_51 : decode cX2_put 51 = .ok (.iastore, 1) := by decide +kernel
theorem dX2_put_52 : decode cX2_put 52 = .ok (.aload_n 0, 1) := by decide +kernel
theorem dX2_put_53 : decode cX2_put 53 = .ok (.getfield 15, 3) := by decide +kernel
theorem dX2_put_56 : decode cX2_put 56 = .ok (.iload 4, 2) := by decide +kernel
theorem dX2_put_58 : decode cX2_put 58 = .ok (.aload_n 0, 1) := by decide +kernel
theorem dX2_put_59 : decode cX2_put 59 = .ok (.getfield 15, 3) := by decide +kernel
theorem dX2_put_62 : decode cX2_put 62 = .ok (.iload 4, 2) := by decide +kernel
theorem dX2_put_64 : decode cX2_put 64 = .ok (.iconst 1, 1) := by decide +kernel
theorem dX2_put_65 : decode cX2_put 65 = .ok (.isub, 1) := by decide +kernel
theorem dX2_put_66 : decode cX2_put 66 = .ok (.iaload, 1) := by decide +kernel
theorem dX2_put_67 : decode cX2_put 67 = .ok (.iastore, 1) := by decide +kernel
theorem dX2_put_68 : decode cX2_put 68 = .ok (.iinc 4 (-1), 3) := by decide +kernel
theorem dX2_put_71 : decode cX2_put 71 = .ok (.goto (-41), 3) := by decide +kernel
theorem dX2_put_74 : decode cX2_put 74 = .ok (.aload_n 0, 1) := by decide +kernel
theorem dX2_put_75 : decode cX2_put 75 = .ok (.dup, 1) := by decide +kernel
theorem dX2_put_76 : decode cX2_put 76 = .ok (.getfield 18, 3) := by decide +kernel
theorem dX2_put_79 : decode cX2_put 79 = .ok (.iconst 1, 1) := by decide +kernel
theorem dX2_put_80 : decode cX2_put 80 = .ok (.iadd, 1) := by decide +kernel
theorem dX2_put_81 : decode cX2_put 81 = .ok (.putfield 18, 3) := by decide +kernel
theorem dX2_put_84 : decode cX2_put 84 = .ok (.aload_n 0, 1) := by decide +kernel
theorem dX2_put_85 : decode cX2_put 85 = .ok (.getfield 9, 3) := by decide +kernel
theorem dX2_put_88 : decode cX2_put 88 = .ok (.iload_n 3, 1) := by decide +kernel
theorem dX2_put_89 : decode cX2_put 89 = .ok (.iload_n 1, 1) := by decide +kernel
theorem dX2_put_90 : decode cX2_put 90 = .ok (.iastore, 1) := by decide +kernel
theorem dX2_put_91 : decode cX2_put 91 = .ok (.aload_n 0, 1) := by decide +kernel
theorem dX2_put_92 : decode cX2_put 92 = .ok (.getfield 15, 3) := by decide +kernel
theorem dX2_put_95 : decode cX2_put 95 = .ok (.iload_n 3, 1) := by decide +kernel
theorem dX2_put_96 : decode cX2_put 96 = .ok (.iload_n 2, 1) := by decide +kernel
theorem dX2_put_97 : decode cX2_put 97 = .ok (.iastore, 1) := by decide +kernel
theorem dX2_put_98 : decode cX2_put 98 = .ok (.return_, 1) := by decide +kernel
theorem dX2_indexFor_0 : decode cX2_indexFor 0 = .ok (.iconst 0, 1) := by decide +kernel
theorem dX2_indexFor_1 : decode cX2_indexFor 1 = .ok (.istore_n 2, 1) := by decide +kernel
theorem dX2_indexFor_2 : decode cX2_indexFor 2 = .ok (.iload_n 2, 1) := by decide +kernel
theorem dX2_indexFor_3 : decode cX2_indexFor 3 = .ok (.aload_n 0, 1) := by decide +kernel
theorem dX2_indexFor_4 : decode cX2_indexFor 4 = .ok (.getfield 18, 3) := by decide +kernel
theorem dX2_indexFor_7 : decode cX2_indexFor 7 = .ok (.if_icmp .ge 19, 3) := by decide +kernel
theorem dX2_indexFor_10 : decode cX2_indexFor 10 = .ok (.aload_n 0, 1) := by decide +kernel
theorem dX2_indexFor_11 : decode cX2_indexFor 11 = .ok (.getfield 9, 3) := by decide +kernel
theorem dX2_indexFor_14 : decode cX2_indexFor 14 = .ok (.iload_n 2, 1) := by decide +kernel
theorem dX2_indexFor_15 : decode cX2_indexFor 15 = .ok (.iaload, 1) := by decide +kernel
theorem dX2_indexFor_16 : decode cX2_indexFor 16 = .ok (.iload_n 1, 1) := by decide +kernel
theorem dX2_indexFor_17 : decode cX2_indexFor 17 = .ok (.if_icmp .ge 9, 3) := by decide +kernel
theorem dX2_indexFor_20 : decode cX2_indexFor 20 = .ok (.iinc 2 1, 3) := by decide +kernel
theorem dX2_indexFor_23 : decode cX2_indexFor 23 = .ok (.goto (-21), 3) := by decide +kernel
theorem dX2_indexFor_26 : decode cX2_indexFor 26 = .ok (.iload_n 2, 1) := by decide +kernel
theorem dX2_indexFor_27 : decode cX2_indexFor 27 = .ok (.ireturn, 1) := by decide +kernel
theorem dX2_limitAt_0 : decode cX2_limitAt 0 = .ok (.aload_n 0, 1) := by decide +kernel
theorem dX2_limitAt_1 : decode cX2_limitAt 1 = .ok (.getfield 18, 3) := by decide +kernel
theorem dX2_limitAt_4 : decode cX2_limitAt 4 = .ok (.ifCond .ne 6, 3) := by decide +kernel
theorem dX2_limitAt_7 : decode cX2_limitAt 7 = .ok (.ldc 32, 2) := by decide +kernel
theorem dX2_limitAt_9 : decode cX2_limitAt 9 = .ok (.freturn, 1) := by decide +kernel
theorem dX2_limitAt_10 : decode cX2_limitAt 10 = .ok (.fload_n 1, 1) := by decide +kernel
theorem dX2_limitAt_11 : decode cX2_limitAt 11 = .ok (.aload_n 0, 1) := by decide +kernel
theorem dX2_limitAt_12 : decode cX2_limitAt 12 = .ok (.getfield 9, 3) := by decide +kernel
theorem dX2_limitAt_15 : decode cX2_limitAt 15 = .ok (.iconst 0, 1) := by decide +kernel
theorem dX2_limitAt_16 : decode cX2_limitAt 16 = .ok (.iaload, 1) := by decide +kernel
theorem dX2_limitAt_17 : decode cX2_limitAt 17 = .ok (.i2f, 1) := by decide +kernel
theorem dX2_limitAt_18 : decode cX2_limitAt 18 = .ok (.ldc 33, 2) := by decide +kernel
theorem dX2_limitAt_20 : decode cX2_limitAt 20 = .ok (.fdiv, 1) := by decide +kernel
theorem dX2_limitAt_21 : decode cX2_limitAt 21 = .ok (.fcmp .g, 1) := by decide +kernel
theorem dX2_limitAt_22 : decode cX2_limitAt 22 = .ok (.ifCond .gt 14, 3) := by decide +kernel
theorem dX2_limitAt_25 : decode cX2_limitAt 25 = .ok (.aload_n 0, 1) := by decide +kernel
theorem dX2_limitAt_26 : decode cX2_limitAt 26 = .ok (.getfield 15, 3) := by decide +kernel
theorem dX2_limitAt_29 : decode cX2_limitAt 29 = .ok (.iconst 0, 1) := by decide +kernel
theorem dX2_limitAt_30 : decode cX2_limitAt 30 = .ok (.iaload, 1) := by decide +kernel
theorem dX2_limitAt_31 : decode cX2_limitAt 31 = .ok (.i2f, 1) := by decide +kernel
theorem dX2_limitAt_32 : decode cX2_limitAt 32 = .ok (.ldc 34, 2) := by decide +kernel
theorem dX2_limitAt_34 : decode cX2_limitAt 34 = .ok (.fdiv, 1) := by decide +kernel
theorem dX2_limitAt_35 : decode cX2_limitAt 35 = .ok (.freturn, 1) := by decide +kernel
theorem dX2_limitAt_36 : decode cX2_limitAt 36 = .ok (.iconst 1, 1) := by decide +kernel
theorem dX2_limitAt_37 : decode cX2_limitAt 37 = .ok (.istore_n 2, 1) := by decide +kernel
theorem dX2_limitAt_38 : decode cX2_limitAt 38 = .ok (.iload_n 2, 1) := by decide +kernel
theorem dX2_limitAt_39 : decode cX2_limitAt 39 = .ok (.aload_n 0, 1) := by decide +kernel
theorem dX2_limitAt_40 : decode cX2_limitAt 40 = .ok (.getfield 18, 3) := by decide +kernel
theorem dX2_limitAt_43 : decode cX2_limitAt 43 = .ok (.if_icmp .ge 92, 3) := by decide +kernel
theorem dX2_limitAt_46 : decode cX2_limitAt 46 = .ok (.aload_n 0, 1) := by decide +kernel
theorem dX2_limitAt_47 : decode cX2_limitAt 47 = .ok (.getfield 9, 3) := by decide +kernel
theorem dX2_limitAt_50 : decode cX2_limitAt 50 = .ok (.iload_n 2, 1) := by decide +kernel
theorem dX2_limitAt_51 : decode cX2_limitAt 51 = .ok (.iconst 1, 1) := by decide +kernel
theorem dX2_limitAt_52 : decode cX2_limitAt 52 = .ok (.isub, 1) := by decide +kernel
theorem dX2_limitAt_53 : decode cX2_limitAt 53 = .ok (.iaload, 1) := by decide +kernel
theorem dX2_limitAt_54 : decode cX2_limitAt 54 = .ok (.i2f, 1) := by decide +kernel
theorem dX2_limitAt_55 : decode cX2_limitAt 55 = .ok (.ldc 33, 2) := by decide +kernel
theorem dX2_limitAt_57 : decode cX2_limitAt 57 = .ok (.fdiv, 1) := by decide +kernel
theorem dX2_limitAt_58 : decode cX2_limitAt 58 = .ok (.fstore_n 3, 1) := by decide +kernel
theorem dX2_limitAt_59 : decode cX2_limitAt 59 = .ok (.aload_n 0, 1) := by decide +kernel
theorem dX2_limitAt_60 : decode cX2_limitAt 60 = .ok (.getfield 9, 3) := by decide +kernel
theorem dX2_limitAt_63 : decode cX2_limitAt 63 = .ok (.iload_n 2, 1) := by decide +kernel
theorem dX2_limitAt_64 : decode cX2_limitAt 64 = .ok (.iaload, 1) := by decide +kernel
theorem dX2_limitAt_65 : decode cX2_limitAt 65 = .ok (.i2f, 1) := by decide +kernel
theorem dX2_limitAt_66 : decode cX2_limitAt 66 = .ok (.ldc 33, 2) := by decide +kernel
theorem dX2_limitAt_68 : decode cX2_limitAt 68 = .ok (.fdiv, 1) := by decide +kernel
theorem dX2_limitAt_69 : decode cX2_limitAt 69 = .ok (.fstore 4, 2) := by decide +kernel
theorem dX2_limitAt_71 : decode cX2_limitAt 71 = .ok (.fload_n 1, 1) := by decide +kernel
theorem dX2_limitAt_72 : decode cX2_limitAt 72 = .ok (.fload 4, 2) := by decide +kernel
theorem dX2_limitAt_74 : decode cX2_limitAt 74 = .ok (.fcmp .g, 1) := by decide +kernel
theorem dX2_limitAt_75 : decode cX2_limitAt 75 = .ok (.ifCond .ge 54, 3) := by decide +kernel
theorem dX2_limitAt_78 : decode cX2_limitAt 78 = .ok (.fload_n 3, 1) := by decide +kernel
theorem dX2_limitAt_79 : decode cX2_limitAt 79 = .ok (.fload 4, 2) := by decide +kernel
theorem dX2_limitAt_81 : decode cX2_limitAt 81 = .ok (.fcmp .g, 1) := by decide +kernel
theorem dX2_limitAt_82 : decode cX2_limitAt 82 = .ok (.ifCond .ge 47, 3) := by decide +kernel
theorem dX2_limitAt_85 : decode cX2_limitAt 85 = .ok (.aload_n 0, 1) := by decide +kernel
theorem dX2_limitAt_86 : decode cX2_limitAt 86 = .ok (.getfield 15, 3) := by decide +kernel
theorem dX2_limitAt_89 : decode cX2_limitAt 89 = .ok (.iload_n 2, 1) := by decide +kernel
theorem dX2_limitAt_90 : decode cX2_limitAt 90 = .ok (.iconst 1, 1) := by decide +kernel
theorem dX2_limitAt_91 : decode cX2_limitAt 91 = .ok (.isub, 1) := by decide +kernel
theorem dX2_limitAt_92 : decode cX2_limitAt 92 = .ok (.iaload, 1) := by decide +kernel
theorem dX2_limitAt_93 : decode cX2_limitAt 93 = .ok (.i2f, 1) := by decide +kernel
theorem dX2_limitAt_94 : decode cX2_limitAt 94 = .ok (.ldc 34, 2) := by decide +kernel
theorem dX2_limitAt_96 : decode cX2_limitAt 96 = .ok (.fdiv, 1) := by decide +kernel
theorem dX2_limitAt_97 : decode cX2_limitAt 97 = .ok (.fstore 5, 2) := by decide +kernel
theorem dX2_limitAt_99 : decode cX2_limitAt 99 = .ok (.aload_n 0, 1) := by decide +kernel
theorem dX2_limitAt_100 : decode cX2_limitAt 100 = .ok (.getfield 15, 3) := by decide +kernel
theorem dX2_limitAt_103 : decode cX2_limitAt 103 = .ok (.iload_n 2, 1) := by decide +kernel
theorem dX2_limitAt_104 : decode cX2_limitAt 104 = .ok (.iaload, 1) := by decide +kernel
theorem dX2_limitAt_105 : decode cX2_limitAt 105 = .ok (.i2f, 1) := by decide +kernel
theorem dX2_limitAt_106 : decode cX2_limitAt 106 = .ok (.ldc 34, 2) := by decide +kernel
theorem dX2_limitAt_108 : decode cX2_limitAt 108 = .ok (.fdiv, 1) := by decide +kernel
theorem dX2_limitAt_109 : decode cX2_limitAt 109 = .ok (.fstore 6, 2) := by decide +kernel
theorem dX2_limitAt_111 : decode cX2_limitAt 111 = .ok (.fload 5, 2) := by decide +kernel
theorem dX2_limitAt_113 : decode cX2_limitAt 113 = .ok (.fload 6, 2) := by decide +kernel
theorem dX2_limitAt_115 : decode cX2_limitAt 115 = .ok (.fload 5, 2) := by decide +kernel
theorem dX2_limitAt_117 : decode cX2_limitAt 117 = .ok (.fsub, 1) := by decide +kernel
theorem dX2_limitAt_118 : decode cX2_limitAt 118 = .ok (.fload_n 1, 1) := by decide +kernel
theorem dX2_limitAt_119 : decode cX2_limitAt 119 = .ok (.fload_n 3, 1) := by decide +kernel
theorem dX2_limitAt_120 : decode cX2_limitAt 120 = .ok (.fsub, 1) := by decide +kernel
theorem dX2_limitAt_121 : decode cX2_limitAt 121 = .ok (.fload 4, 2) := by decide +kernel
theorem dX2_limitAt_123 : decode cX2_limitAt 123 = .ok (.fload_n 3, 1) := by decide +kernel
theorem dX2_limitAt_124 : decode cX2_limitAt 124 = .ok (.fsub, 1) := by decide +kernel
theorem dX2_limitAt_125 : decode cX2_limitAt 125 = .ok (.fdiv, 1) := by decide +kernel
theorem dX2_limitAt_126 : decode cX2_limitAt 126 = .ok (.fmul, 1) := by decide +kernel
theorem dX2_limitAt_127 : decode cX2_limitAt 127 = .ok (.fadd, 1) := by decide +kernel
theorem dX2_limitAt_128 : decode cX2_limitAt 128 = .ok (.freturn, 1) := by decide +kernel
theorem dX2_limitAt_129 : decode cX2_limitAt 129 = .ok (.iinc 2 1, 3) := by decide +kernel
theorem dX2_limitAt_132 : decode cX2_limitAt 132 = .ok (.goto (-94), 3) := by decide +kernel
theorem dX2_limitAt_135 : decode cX2_limitAt 135 = .ok (.aload_n 0, 1) := by decide +kernel
theorem dX2_limitAt_136 : decode cX2_limitAt 136 = .ok (.getfield 15, 3) := by decide +kernel
theorem dX2_limitAt_139 : decode cX2_limitAt 139 = .ok (.aload_n 0, 1) := by decide +kernel
theorem dX2_limitAt_140 : decode cX2_limitAt 140 = .ok (.getfield 18, 3) := by decide +kernel
theorem dX2_limitAt_143 : decode cX2_limitAt 143 = .ok (.iconst 1, 1) := by decide +kernel
theorem dX2_limitAt_144 : decode cX2_limitAt 144 = .ok (.isub, 1) := by decide +kernel
theorem dX2_limitAt_145 : decode cX2_limitAt 145 = .ok (.iaload, 1) := by decide +kernel
theorem dX2_limitAt_146 : decode cX2_limitAt 146 = .ok (.i2f, 1) := by decide +kernel
theorem dX2_limitAt_147 : decode cX2_limitAt 147 = .ok (.ldc 34, 2) := by decide +kernel
theorem dX2_limitAt_149 : decode cX2_limitAt 149 = .ok (.fdiv, 1) := by decide +kernel
theorem dX2_limitAt_150 : decode cX2_limitAt 150 = .ok (.freturn, 1) := by decide +kernel
theorem dX3_init_0 : decode cX3_init 0 = .ok (.aload_n 0, 1) := by decide +kernel
theorem dX3_init_1 : decode cX3_init 1 = .ok (.invokespecial 1, 3) := by decide +kernel
theorem dX3_init_4 : decode cX3_init 4 = .ok (.return_, 1) := by decide +kernel
theorem dX3_copyFrom_0 : decode cX3_copyFrom 0 = .ok (.aload_n 0, 1) := by decide +kernel
theorem dX3_copyFrom_1 : decode cX3_copyFrom 1 = .ok (.aload_n 1, 1) := by decide +kernel
theorem dX3_copyFrom_2 : decode cX3_copyFrom 2 = .ok (.getfield 7, 3) := by decide +kernel
theorem dX3_copyFrom_5 : decode cX3_copyFrom 5 = .ok (.putfield 7, 3) := by decide +kernel
theorem dX3_copyFrom_8 : decode cX3_copyFrom 8 = .ok (.aload_n 0, 1) := by decide +kernel
theorem dX3_copyFrom_9 : decode cX3_copyFrom 9 = .ok (.aload_n 1, 1) := by decide +kernel
theorem dX3_copyFrom_10 : decode cX3_copyFrom 10 = .ok (.getfield 13, 3) := by decide +kernel
theorem dX3_copyFrom_13 : decode cX3_copyFrom 13 = .ok (.putfield 13, 3) := by decide +kernel
theorem dX3_copyFrom_16 : decode cX3_copyFrom 16 = .ok (.aload_n 0, 1) := by decide +kernel
theorem dX3_copyFrom_17 : decode cX3_copyFrom 17 = .ok (.aload_n 1, 1) := by decide +kernel
theorem dX3_copyFrom_18 : decode cX3_copyFrom 18 = .ok (.getfield 16, 3) := by decide +kernel
theorem dX3_copyFrom_21 : decode cX3_copyFrom 21 = .ok (.putfield 16, 3) := by decide +kernel
theorem dX3_copyFrom_24 : decode cX3_copyFrom 24 = .ok (.aload_n 0, 1) := by decide +kernel
theorem dX3_copyFrom_25 : decode cX3_copyFrom 25 = .ok (.aload_n 1, 1) := by decide +kernel
theorem dX3_copyFrom_26 : decode cX3_copyFrom 26 = .ok (.getfield 20, 3) := by decide +kernel
theorem dX3_copyFrom_29 : decode cX3_copyFrom 29 = .ok (.putfield 20, 3) := by decide +kernel
theorem dX3_copyFrom_32 : decode cX3_copyFrom 32 = .ok (.aload_n 0, 1) := by decide +kernel
theorem dX3_copyFrom_33 : decode cX3_copyFrom 33 = .ok (.aload_n 1, 1) := by decide +kernel
theorem dX3_copyFrom_34 : decode cX3_copyFrom 34 = .ok (.getfield 23, 3) := by decide +kernel
theorem dX3_copyFrom_37 : decode cX3_copyFrom 37 = .ok (.putfield 23, 3) := by decide +kernel
theorem dX3_copyFrom_40 : decode cX3_copyFrom 40 = .ok (.return_, 1) := by decide +kernel
theorem dX3_startFar_0 : decode cX3_startFar 0 = .ok (.aload_n 0, 1) := by decide +kernel
theorem dX3_startFar_1 : decode cX3_startFar 1 = .ok (.iconst 0, 1) := by decide +kernel
theorem dX3_startFar_2 : decode cX3_startFar 2 = .ok (.putfield 16, 3) := by decide +kernel
theorem dX3_startFar_5 : decode cX3_startFar 5 = .ok (.aload_n 0, 1) := by decide +kernel
theorem dX3_startFar_6 : decode cX3_startFar 6 = .ok (.iconst 0, 1) := by decide +kernel
theorem dX3_startFar_7 : decode cX3_startFar 7 = .ok (.putfield 20, 3) := by decide +kernel
theorem dX3_startFar_10 : decode cX3_startFar 10 = .ok (.return_, 1) := by decide +kernel
theorem dX3_farMeasured_0 : decode cX3_farMeasured 0 = .ok (.fload_n 1, 1) := by decide +kernel
theorem dX3_farMeasured_1 : decode cX3_farMeasured 1 = .ok (.aload_n 0, 1) := by decide +kernel
theorem dX3_farMeasured_2 : decode cX3_farMeasured 2 = .ok (.getfield 7, 3) := by decide +kernel
theorem dX3_farMeasured_5 : decode cX3_farMeasured 5 = .ok (.i2f, 1) := by decide +kernel
theorem dX3_farMeasured_6 : decode cX3_farMeasured 6 = .ok (.ldc 26, 2) := by decide +kernel
theorem dX3_farMeasured_8 : decode cX3_farMeasured 8 = .ok (.fdiv, 1) := by decide +kernel
theorem dX3_farMeasured_9 : decode cX3_farMeasured 9 = .ok (.fadd, 1) := by decide +kernel
theorem dX3_farMeasured_10 : decode cX3_farMeasured 10 = .ok (.freturn, 1) := by decide +kernel
theorem dX3_nearMeasured_0 : decode cX3_nearMeasured 0 = .ok (.fload_n 1, 1) := by decide +kernel
theorem dX3_nearMeasured_1 : decode cX3_nearMeasured 1 = .ok (.aload_n 0, 1) := by decide +kernel
theorem dX3_nearMeasured_2 : decode cX3_nearMeasured 2 = .ok (.getfield 13, 3) := by decide +kernel
theorem dX3_nearMeasured_5 : decode cX3_nearMeasured 5 = .ok (.i2f, 1) := by decide +kernel
theorem dX3_nearMeasured_6 : decode cX3_nearMeasured 6 = .ok (.ldc 26, 2) := by decide +kernel
theorem dX3_nearMeasured_8 : decode cX3_nearMeasured 8 = .ok (.fdiv, 1) := by decide +kernel
theorem dX3_nearMeasured_9 : decode cX3_nearMeasured 9 = .ok (.fadd, 1) := by decide +kernel
theorem dX3_nearMeasured_10 : decode cX3_nearMeasured 10 = .ok (.freturn, 1) := by decide +kernel
theorem dX3_measured_0 : decode cX3_measured 0 = .ok (.aload_n 0, 1) := by decide +kernel
theorem dX3_measured_1 : decode cX3_measured 1 = .ok (.getfield 16, 3) := by decide +kernel
theorem dX3_measured_4 : decode cX3_measured 4 = .ok (.ifCond .eq 11, 3) := by decide +kernel
theorem dX3_measured_7 : decode cX3_measured 7 = .ok (.aload_n 0, 1) := by decide +kernel
theorem dX3_measured_8 : decode cX3_measured 8 = .ok (.fload_n 1, 1) := by decide +kernel
theorem dX3_measured_9 : decode cX3_measured 9 = .ok (.invokevirtual 27, 3) := by decide +kernel
theorem dX3_measured_12 : decode cX3_measured 12 = .ok (.goto 8, 3) := by decide +kernel
theorem dX3_measured_15 : decode cX3_measured 15 = .ok (.aload_n 0, 1) := by decide +kernel
theorem dX3_measured_16 : decode cX3_measured 16 = .ok (.fload_n 1, 1) := by decide +kernel
theorem dX3_measured_17 : decode cX3_measured 17 = .ok (.invokevirtual 31, 3) := by decide +kernel
theorem dX3_measured_20 : decode cX3_measured 20 = .ok (.freturn, 1) := by decide +kernel
theorem dX3_compare_0 : decode cX3_compare 0 = .ok (.fload_n 1, 1) := by decide +kernel
theorem dX3_compare_1 : decode cX3_compare 1 = .ok (.ldc 34, 2) := by decide +kernel
theorem dX3_compare_3 : decode cX3_compare 3 = .ok (.fcmp .g, 1) := by decide +kernel
theorem dX3_compare_4 : decode cX3_compare 4 = .ok (.ifCond .gt 7, 3) := by decide +kernel
theorem dX3_compare_7 : decode cX3_compare 7 = .ok (.iconst 1, 1) := by decide +kernel
theorem dX3_compare_8 : decode cX3_compare 8 = .ok (.goto 4, 3) := by decide +kernel
theorem dX3_compare_11 : decode cX3_compare 11 = .ok (.iconst 0, 1) := by decide +kernel
theorem dX3_compare_12 : decode cX3_compare 12 = .ok (.istore_n 2, 1) := by decide +kernel
theorem dX3_compare_13 : decode cX3_compare 13 = .ok (.aload_n 0, 1) := by decide +kernel
theorem dX3_compare_14 : decode cX3_compare 14 = .ok (.getfield 16, 3) := by decide +kernel
theorem dX3_compare_17 : decode cX3_compare 17 = .ok (.ifCond .ne 31, 3) := by decide +kernel
theorem dX3_compare_20 : decode cX3_compare 20 = .ok (.iload_n 2, 1) := by decide +kernel
theorem dX3_compare_21 : decode cX3_compare 21 = .ok (.ifCond .eq 27, 3) := by decide +kernel
theorem dX3_compare_24 : decode cX3_compare 24 = .ok (.aload_n 0, 1) := by decide +kernel
theorem dX3_compare_25 : decode cX3_compare 25 = .ok (.fload_n 1, 1) := by decide +kernel
theorem dX3_compare_26 : decode cX3_compare 26 = .ok (.invokevirtual 31, 3) := by decide +kernel
theorem dX3_compare_29 : decode cX3_compare 29 = .ok (.aload_n 0, 1) := by decide +kernel
theorem dX3_compare_30 : decode cX3_compare 30 = .ok (.fload_n 1, 1) := by decide +kernel
theorem dX3_compare_31 : decode cX3_compare 31 = .ok (.invokevirtual 27, 3) := by decide +kernel
theorem dX3_compare_34 : decode cX3_compare 34 = .ok (.fsub, 1) := by decide +kernel
theorem dX3_compare_35 : decode cX3_compare 35 = .ok (.invokestatic 35, 3) := by decide +kernel
theorem dX3_compare_38 : decode cX3_compare 38 = .ok (.ldc 40, 2) := by decide +kernel
theorem dX3_compare_40 : decode cX3_compare 40 = .ok (.fcmp .g, 1) := by decide +kernel
theorem dX3_compare_41 : decode cX3_compare 41 = .ok (.ifCond .ge 7, 3) := by decide +kernel
theorem dX3_compare_44 : decode cX3_compare 44 = .ok (.iconst 1, 1) := by decide +kernel
theorem dX3_compare_45 : decode cX3_compare 45 = .ok (.goto 4, 3) := by decide +kernel
theorem dX3_compare_48 : decode cX3_compare 48 = .ok (.iconst 0, 1) := by decide +kernel
theorem dX3_compare_49 : decode cX3_compare 49 = .ok (.istore_n 3, 1) := by decide +kernel
theorem dX3_compare_50 : decode cX3_compare 50 = .ok (.aload_n 0, 1) := by decide +kernel
theorem dX3_compare_51 : decode cX3_compare 51 = .ok (.iload_n 3, 1) := by decide +kernel
theorem dX3_compare_52 : decode cX3_compare 52 = .ok (.ifCond .eq 12, 3) := by decide +kernel
theorem dX3_compare_55 : decode cX3_compare 55 = .ok (.aload_n 0, 1) := by decide +kernel
theorem dX3_compare_56 : decode cX3_compare 56 = .ok (.getfield 20, 3) := by decide +kernel
theorem dX3_compare_59 : decode cX3_compare 59 = .ok (.iconst 1, 1) := by decide +kernel
theorem dX3_compare_60 : decode cX3_compare 60 = .ok (.iadd, 1) := by decide +kernel
theorem dX3_compare_61 : decode cX3_compare 61 = .ok (.goto 4, 3) := by decide +kernel
theorem dX3_compare_64 : decode cX3_compare 64 = .ok (.iconst 0, 1) := by decide +kernel
theorem dX3_compare_65 : decode cX3_compare 65 = .ok (.putfield 20, 3) := by decide +kernel
theorem dX3_compare_68 : decode cX3_compare 68 = .ok (.aload_n 0, 1) := by decide +kernel
theorem dX3_compare_69 : decode cX3_compare 69 = .ok (.getfield 20, 3) := by decide +kernel
theorem dX3_compare_72 : decode cX3_compare 72 = .ok (.iconst 3, 1) := by decide +kernel
theorem dX3_compare_73 : decode cX3_compare 73 = .ok (.if_icmp .ne 26, 3) := by decide +kernel
theorem dX3_compare_76 : decode cX3_compare 76 = .ok (.aload_n 0, 1) := by decide +kernel
theorem dX3_compare_77 : decode cX3_compare 77 = .ok (.iconst 1, 1) := by decide +kernel
theorem dX3_compare_78 : decode cX3_compare 78 = .ok (.putfield 16, 3) := by decide +kernel
theorem dX3_compare_81 : decode cX3_compare 81 = .ok (.aload_n 0, 1) := by decide +kernel
theorem dX3_compare_82 : decode cX3_compare 82 = .ok (.iconst 0, 1) := by decide +kernel
theorem dX3_compare_83 : decode cX3_compare 83 = .ok (.putfield 20, 3) := by decide +kernel
theorem dX3_compare_86 : decode cX3_compare 86 = .ok (.aload_n 0, 1) := by decide +kernel
theorem dX3_compare_87 : decode cX3_compare 87 = .ok (.dup, 1) := by decide +kernel
theorem dX3_compare_88 : decode cX3_compare 88 = .ok (.getfield 23, 3) := by decide +kernel
theorem dX3_compare_91 : decode cX3_compare 91 = .ok (.iconst 1, 1) := by decide +kernel
theorem dX3_compare_92 : decode cX3_compare 92 = .ok (.iadd, 1) := by decide +kernel
theorem dX3_compare_93 : decode cX3_compare 93 = .ok (.putfield 23, 3) := by decide +kernel
theorem dX3_compare_96 : decode cX3_compare 96 = .ok (.goto 29, 3) := by decide +kernel
theorem dX3_compare_99 : decode cX3_compare 99 = .ok (.aload_n 0, 1) := by decide +kernel
theorem dX3_compare_100 : decode cX3_compare 100 = .ok (.getfield 16, 3) := by decide +kernel
theorem dX3_compare_103 : decode cX3_compare 103 = .ok (.ifCond .eq 22, 3) := by decide +kernel
theorem dX3_compare_106 : decode cX3_compare 106 = .ok (.iload_n 2, 1) := by decide +kernel
theorem dX3_compare_107 : decode cX3_compare 107 = .ok (.ifCond .ne 18, 3) := by decide +kernel
theorem dX3_compare_110 : decode cX3_compare 110 = .ok (.aload_n 0, 1) := by decide +kernel
theorem dX3_compare_111 : decode cX3_compare 111 = .ok (.iconst 0, 1) := by decide +kernel
theorem dX3_compare_112 : decode cX3_compare 112 = .ok (.putfield 16, 3) := by decide +kernel
theorem dX3_compare_115 : decode cX3_compare 115 = .ok (.aload_n 0, 1) := by decide +kernel
theorem dX3_compare_116 : decode cX3_compare 116 = .ok (.dup, 1) := by decide +kernel
theorem dX3_compare_117 : decode cX3_compare 117 = .ok (.getfield 23, 3) := by decide +kernel
theorem dX3_compare_120 : decode cX3_compare 120 = .ok (.iconst 1, 1) := by decide +kernel
theorem dX3_compare_121 : decode cX3_compare 121 = .ok (.iadd, 1) := by decide +kernel
theorem dX3_compare_122 : decode cX3_compare 122 = .ok (.putfield 23, 3) := by decide +kernel
theorem dX3_compare_125 : decode cX3_compare 125 = .ok (.return_, 1) := by decide +kernel
theorem dX4_init_0 : decode cX4_init 0 = .ok (.aload_n 0, 1) := by decide +kernel
theorem dX4_init_1 : decode cX4_init 1 = .ok (.invokespecial 3, 3) := by decide +kernel
theorem dX4_init_4 : decode cX4_init 4 = .ok (.aload_n 0, 1) := by decide +kernel
theorem dX4_init_5 : decode cX4_init 5 = .ok (.ldc 9, 2) := by decide +kernel
theorem dX4_init_7 : decode cX4_init 7 = .ok (.putfield 10, 3) := by decide +kernel
theorem dX4_init_10 : decode cX4_init 10 = .ok (.aload_n 0, 1) := by decide +kernel
theorem dX4_init_11 : decode cX4_init 11 = .ok (.bipush (-5), 2) := by decide +kernel
theorem dX4_init_13 : decode cX4_init 13 = .ok (.putfield 16, 3) := by decide +kernel
theorem dX4_init_16 : decode cX4_init 16 = .ok (.aload_n 0, 1) := by decide +kernel
theorem dX4_init_17 : decode cX4_init 17 = .ok (.bipush 8, 2) := by decide +kernel
theorem dX4_init_19 : decode cX4_init 19 = .ok (.newarray .int, 2) := by decide +kernel
theorem dX4_init_21 : decode cX4_init 21 = .ok (.putfield 20, 3) := by decide +kernel
theorem dX4_init_24 : decode cX4_init 24 = .ok (.getstatic 24, 3) := by decide +kernel
theorem dX4_init_27 : decode cX4_init 27 = .ok (.iconst 0, 1) := by decide +kernel
theorem dX4_init_28 : decode cX4_init 28 = .ok (.aload_n 0, 1) := by decide +kernel
theorem dX4_init_29 : decode cX4_init 29 = .ok (.getfield 20, 3) := by decide +kernel
theorem dX4_init_32 : decode cX4_init 32 = .ok (.iconst 0, 1) := by decide +kernel
theorem dX4_init_33 : decode cX4_init 33 = .ok (.bipush 8, 2) := by decide +kernel
theorem dX4_init_35 : decode cX4_init 35 = .ok (.invokestatic 27, 3) := by decide +kernel
theorem dX4_init_38 : decode cX4_init 38 = .ok (.aload_n 0, 1) := by decide +kernel
theorem dX4_init_39 : decode cX4_init 39 = .ok (.new 33, 3) := by decide +kernel
theorem dX4_init_42 : decode cX4_init 42 = .ok (.dup, 1) := by decide +kernel
theorem dX4_init_43 : decode cX4_init 43 = .ok (.invokespecial 35, 3) := by decide +kernel
theorem dX4_init_46 : decode cX4_init 46 = .ok (.putfield 36, 3) := by decide +kernel
theorem dX4_init_49 : decode cX4_init 49 = .ok (.aload_n 0, 1) := by decide +kernel
theorem dX4_init_50 : decode cX4_init 50 = .ok (.new 40, 3) := by decide +kernel
theorem dX4_init_53 : decode cX4_init 53 = .ok (.dup, 1) := by decide +kernel
theorem dX4_init_54 : decode cX4_init 54 = .ok (.invokespecial 42, 3) := by decide +kernel
theorem dX4_init_57 : decode cX4_init 57 = .ok (.putfield 43, 3) := by decide +kernel
theorem dX4_init_60 : decode cX4_init 60 = .ok (.aload_n 0, 1) := by decide +kernel
theorem dX4_init_61 : decode cX4_init 61 = .ok (.new 47, 3) := by decide +kernel
theorem dX4_init_64 : decode cX4_init 64 = .ok (.dup, 1) := by decide +kernel
theorem dX4_init_65 : decode cX4_init 65 = .ok (.invokespecial 49, 3) := by decide +kernel
theorem dX4_init_68 : decode cX4_init 68 = .ok (.putfield 50, 3) := by decide +kernel
theorem dX4_init_71 : decode cX4_init 71 = .ok (.return_, 1) := by decide +kernel
theorem dX4_copyFrom_0 : decode cX4_copyFrom 0 = .ok (.aload_n 0, 1) := by decide +kernel
theorem dX4_copyFrom_1 : decode cX4_copyFrom 1 = .ok (.aload_n 1, 1) := by decide +kernel
theorem dX4_copyFrom_2 : decode cX4_copyFrom 2 = .ok (.getfield 10, 3) := by decide +kernel
theorem dX4_copyFrom_5 : decode cX4_copyFrom 5 = .ok (.putfield 10, 3) := by decide +kernel
theorem dX4_copyFrom_8 : decode cX4_copyFrom 8 = .ok (.aload_n 0, 1) := by decide +kernel
theorem dX4_copyFrom_9 : decode cX4_copyFrom 9 = .ok (.aload_n 1, 1) := by decide +kernel
theorem dX4_copyFrom_10 : decode cX4_copyFrom 10 = .ok (.getfield 54, 3) := by decide +kernel
theorem dX4_copyFrom_13 : decode cX4_copyFrom 13 = .ok (.putfield 54, 3) := by decide +kernel
theorem dX4_copyFrom_16 : decode cX4_copyFrom 16 = .ok (.aload_n 0, 1) := by decide +kernel
theorem dX4_copyFrom_17 : decode cX4_copyFrom 17 = .ok (.aload_n 1, 1) := by decide +kernel
theorem dX4_copyFrom_18 : decode cX4_copyFrom 18 = .ok (.getfield 57, 3) := by decide +kernel
theorem dX4_copyFrom_21 : decode cX4_copyFrom 21 = .ok (.putfield 57, 3) := by decide +kernel
theorem dX4_copyFrom_24 : decode cX4_copyFrom 24 = .ok (.aload_n 0, 1) := by decide +kernel
theorem dX4_copyFrom_25 : decode cX4_copyFrom 25 = .ok (.aload_n 1, 1) := by decide +kernel
theorem dX4_copyFrom_26 : decode cX4_copyFrom 26 = .ok (.getfield 60, 3) := by decide +kernel
theorem dX4_copyFrom_29 : decode cX4_copyFrom 29 = .ok (.putfield 60, 3) := by decide +kernel
theorem dX4_copyFrom_32 : decode cX4_copyFrom 32 = .ok (.aload_n 0, 1) := by decide +kernel
theorem dX4_copyFrom_33 : decode cX4_copyFrom 33 = .ok (.aload_n 1, 1) := by decide +kernel
theorem dX4_copyFrom_34 : decode cX4_copyFrom 34 = .ok (.getfield 63, 3) := by decide +kernel
theorem dX4_copyFrom_37 : decode cX4_copyFrom 37 = .ok (.putfield 63, 3) := by decide +kernel
theorem dX4_copyFrom_40 : decode cX4_copyFrom 40 = .ok (.aload_n 0, 1) := by decide +kernel
theorem dX4_copyFrom_41 : decode cX4_copyFrom 41 = .ok (.aload_n 1, 1) := by decide +kernel
theorem dX4_copyFrom_42 : decode cX4_copyFrom 42 = .ok (.getfield 16, 3) := by decide +kernel
theorem dX4_copyFrom_45 : decode cX4_copyFrom 45 = .ok (.putfield 16, 3) := by decide +kernel
theorem dX4_copyFrom_48 : decode cX4_copyFrom 48 = .ok (.aload_n 0, 1) := by decide +kernel
theorem dX4_copyFrom_49 : decode cX4_copyFrom 49 = .ok (.aload_n 1, 1) := by decide +kernel
theorem dX4_copyFrom_50 : decode cX4_copyFrom 50 = .ok (.getfield 66, 3) := by decide +kernel
theorem dX4_copyFrom_53 : decode cX4_copyFrom 53 = .ok (.putfield 66, 3) := by decide +kernel
theorem dX4_copyFrom_56 : decode cX4_copyFrom 56 = .ok (.aload_n 0, 1) := by decide +kernel
theorem dX4_copyFrom_57 : decode cX4_copyFrom 57 = .ok (.aload_n 1, 1) := by decide +kernel
theorem dX4_copyFrom_58 : decode cX4_copyFrom 58 = .ok (.getfield 69, 3) := by decide +kernel
theorem dX4_copyFrom_61 : decode cX4_copyFrom 61 = .ok (.putfield 69, 3) := by decide +kernel
theorem dX4_copyFrom_64 : decode cX4_copyFrom 64 = .ok (.aload_n 0, 1) := by decide +kernel
theorem dX4_copyFrom_65 : decode cX4_copyFrom 65 = .ok (.aload_n 1, 1) := by decide +kernel
theorem dX4_copyFrom_66 : decode cX4_copyFrom 66 = .ok (.getfield 72, 3) := by decide +kernel
theorem dX4_copyFrom_69 : decode cX4_copyFrom 69 = .ok (.putfield 72, 3) := by decide +kernel
theorem dX4_copyFrom_72 : decode cX4_copyFrom 72 = .ok (.aload_n 0, 1) := by decide +kernel
theorem dX4_copyFrom_73 : decode cX4_copyFrom 73 = .ok (.aload_n 1, 1) := by decide +kernel
theorem dX4_copyFrom_74 : decode cX4_copyFrom 74 = .ok (.getfield 75, 3) := by decide +kernel
theorem dX4_copyFrom_77 : decode cX4_copyFrom 77 = .ok (.putfield 75, 3) := by decide +kernel
theorem dX4_copyFrom_80 : decode cX4_copyFrom 80 = .ok (.aload_n 1, 1) := by decide +kernel
theorem dX4_copyFrom_81 : decode cX4_copyFrom 81 = .ok (.getfield 20, 3) := by decide +kernel
theorem dX4_copyFrom_84 : decode cX4_copyFrom 84 = .ok (.iconst 0, 1) := by decide +kernel
theorem dX4_copyFrom_85 : decode cX4_copyFrom 85 = .ok (.aload_n 0, 1) := by decide +kernel
theorem dX4_copyFrom_86 : decode cX4_copyFrom 86 = .ok (.getfield 20, 3) := by decide +kernel
theorem dX4_copyFrom_89 : decode cX4_copyFrom 89 = .ok (.iconst 0, 1) := by decide +kernel
theorem dX4_copyFrom_90 : decode cX4_copyFrom 90 = .ok (.bipush 8, 2) := by decide +kernel
theorem dX4_copyFrom_92 : decode cX4_copyFrom 92 = .ok (.invokestatic 27, 3) := by decide +kernel
theorem dX4_copyFrom_95 : decode cX4_copyFrom 95 = .ok (.aload_n 0, 1) := by decide +kernel
theorem dX4_copyFrom_96 : decode cX4_copyFrom 96 = .ok (.getfield 36, 3) := by decide +kernel
theorem dX4_copyFrom_99 : decode cX4_copyFrom 99 = .ok (.aload_n 1, 1) := by decide +kernel
theorem dX4_copyFrom_100 : decode cX4_copyFrom 100 = .ok (.getfield 36, 3) := by decide +kernel
theorem dX4_copyFrom_103 : decode cX4_copyFrom 103 = .ok (.invokevirtual 78, 3) := by decide +kernel
theorem dX4_copyFrom_106 : decode cX4_copyFrom 106 = .ok (.aload_n 0, 1) := by decide +kernel
theorem dX4_copyFrom_107 : decode cX4_copyFrom 107 = .ok (.getfield 43, 3) := by decide +kernel
theorem dX4_copyFrom_110 : decode cX4_copyFrom 110 = .ok (.aload_n 1, 1) := by decide +kernel
theorem dX4_copyFrom_111 : decode cX4_copyFrom 111 = .ok (.getfield 43, 3) := by decide +kernel
theorem dX4_copyFrom_114 : decode cX4_copyFrom 114 = .ok (.invokevirtual 82, 3) := by decide +kernel
theorem dX4_copyFrom_117 : decode cX4_copyFrom 117 = .ok (.aload_n 0, 1) := by decide +kernel
theorem dX4_copyFrom_118 : decode cX4_copyFrom 118 = .ok (.getfield 50, 3) := by decide +kernel
theorem dX4_copyFrom_121 : decode cX4_copyFrom 121 = .ok (.aload_n 1, 1) := by decide +kernel
theorem dX4_copyFrom_122 : decode cX4_copyFrom 122 = .ok (.getfield 50, 3) := by decide +kernel
theorem dX4_copyFrom_125 : decode cX4_copyFrom 125 = .ok (.invokevirtual 85, 3) := by decide +kernel
theorem dX4_copyFrom_128 : decode cX4_copyFrom 128 = .ok (.return_, 1) := by decide +kernel
theorem dX4_putShip_0 : decode cX4_putShip 0 = .ok (.aload_n 0, 1) := by decide +kernel
theorem dX4_putShip_1 : decode cX4_putShip 1 = .ok (.fload_n 1, 1) := by decide +kernel
theorem dX4_putShip_2 : decode cX4_putShip 2 = .ok (.putfield 10, 3) := by decide +kernel
theorem dX4_putShip_5 : decode cX4_putShip 5 = .ok (.aload_n 0, 1) := by decide +kernel
theorem dX4_putShip_6 : decode cX4_putShip 6 = .ok (.fload_n 2, 1) := by decide +kernel
theorem dX4_putShip_7 : decode cX4_putShip 7 = .ok (.putfield 54, 3) := by decide +kernel
theorem dX4_putShip_10 : decode cX4_putShip 10 = .ok (.aload_n 0, 1) := by decide +kernel
theorem dX4_putShip_11 : decode cX4_putShip 11 = .ok (.fload_n 3, 1) := by decide +kernel
theorem dX4_putShip_12 : decode cX4_putShip 12 = .ok (.putfield 57, 3) := by decide +kernel
theorem dX4_putShip_15 : decode cX4_putShip 15 = .ok (.aload_n 0, 1) := by decide +kernel
theorem dX4_putShip_16 : decode cX4_putShip 16 = .ok (.fload 4, 2) := by decide +kernel
theorem dX4_putShip_18 : decode cX4_putShip 18 = .ok (.putfield 60, 3) := by decide +kernel
theorem dX4_putShip_21 : decode cX4_putShip 21 = .ok (.aload_n 0, 1) := by decide +kernel
theorem dX4_putShip_22 : decode cX4_putShip 22 = .ok (.iconst 0, 1) := by decide +kernel
theorem dX4_putShip_23 : decode cX4_putShip 23 = .ok (.invokevirtual 88, 3) := by decide +kernel
theorem dX4_putShip_26 : decode cX4_putShip 26 = .ok (.aload_n 0, 1) := by decide +kernel
theorem dX4_putShip_27 : decode cX4_putShip 27 = .ok (.iconst 0, 1) := by decide +kernel
theorem dX4_putShip_28 : decode cX4_putShip 28 = .ok (.putfield 69, 3) := by decide +kernel
theorem dX4_putShip_31 : decode cX4_putShip 31 = .ok (.aload_n 0, 1) := by decide +kernel
theorem dX4_putShip_32 : decode cX4_putShip 32 = .ok (.getfield 50, 3) := by decide +kernel
theorem dX4_putShip_35 : decode cX4_putShip 35 = .ok (.invokevirtual 92, 3) := by decide +kernel
theorem dX4_putShip_38 : decode cX4_putShip 38 = .ok (.return_, 1) := by decide +kernel
theorem dX4_enter_0 : decode cX4_enter 0 = .ok (.aload_n 0, 1) := by decide +kernel
theorem dX4_enter_1 : decode cX4_enter 1 = .ok (.iload_n 1, 1) := by decide +kernel
theorem dX4_enter_2 : decode cX4_enter 2 = .ok (.putfield 63, 3) := by decide +kernel
theorem dX4_enter_5 : decode cX4_enter 5 = .ok (.aload_n 0, 1) := by decide +kernel
theorem dX4_enter_6 : decode cX4_enter 6 = .ok (.bipush (-5), 2) := by decide +kernel
theorem dX4_enter_8 : decode cX4_enter 8 = .ok (.putfield 16, 3) := by decide +kernel
theorem dX4_enter_11 : decode cX4_enter 11 = .ok (.return_, 1) := by decide +kernel
theorem dX4_startApproach_0 : decode cX4_startApproach 0 = .ok (.aload_n 0, 1) := by decide +kernel
theorem dX4_startApproach_1 : decode cX4_startApproach 1 = .ok (.iconst 1, 1) := by decide +kernel
theorem dX4_startApproach_2 : decode cX4_startApproach 2 = .ok (.invokevirtual 88, 3) := by decide +kernel
theorem dX4_startApproach_5 : decode cX4_startApproach 5 = .ok (.aload_n 0, 1) := by decide +kernel
theorem dX4_startApproach_6 : decode cX4_startApproach 6 = .ok (.iconst 0, 1) := by decide +kernel
theorem dX4_startApproach_7 : decode cX4_startApproach 7 = .ok (.putfield 69, 3) := by decide +kernel
theorem dX4_startApproach_10 : decode cX4_startApproach 10 = .ok (.return_, 1) := by decide +kernel
theorem dX4_hold_0 : decode cX4_hold 0 = .ok (.aload_n 0, 1) := by decide +kernel
theorem dX4_hold_1 : decode cX4_hold 1 = .ok (.iconst 2, 1) := by decide +kernel
theorem dX4_hold_2 : decode cX4_hold 2 = .ok (.putfield 63, 3) := by decide +kernel
theorem dX4_hold_5 : decode cX4_hold 5 = .ok (.aload_n 0, 1) := by decide +kernel
theorem dX4_hold_6 : decode cX4_hold 6 = .ok (.iload_n 1, 1) := by decide +kernel
theorem dX4_hold_7 : decode cX4_hold 7 = .ok (.putfield 16, 3) := by decide +kernel
theorem dX4_hold_10 : decode cX4_hold 10 = .ok (.aload_n 0, 1) := by decide +kernel
theorem dX4_hold_11 : decode cX4_hold 11 = .ok (.fload_n 2, 1) := by decide +kernel
theorem dX4_hold_12 : decode cX4_hold 12 = .ok (.putfield 66, 3) := by decide +kernel
theorem dX4_hold_15 : decode cX4_hold 15 = .ok (.return_, 1) := by decide +kernel
theorem dX4_hasArrived_0 : decode cX4_hasArrived 0 = .ok (.aload_n 0, 1) := by decide +kernel
theorem dX4_hasArrived_1 : decode cX4_hasArrived 1 = .ok (.getfield 63, 3) := by decide +kernel
theorem dX4_hasArrived_4 : decode cX4_hasArrived 4 = .ok (.iconst 4, 1) := by decide +kernel
theorem dX4_hasArrived_5 : decode cX4_hasArrived 5 = .ok (.if_icmp .eq 11, 3) := by decide +kernel
theorem dX4_hasArrived_8 : decode cX4_hasArrived 8 = .ok (.aload_n 0, 1) := by decide +kernel
theorem dX4_hasArrived_9 : decode cX4_hasArrived 9 = .ok (.getfield 63, 3) := by decide +kernel
theorem dX4_hasArrived_12 : decode cX4_hasArrived 12 = .ok (.iconst 5, 1) := by decide +kernel
theorem dX4_hasArrived_13 : decode cX4_hasArrived 13 = .ok (.if_icmp .ne 7, 3) := by decide +kernel
theorem dX4_hasArrived_16 : decode cX4_hasArrived 16 = .ok (.iconst 1, 1) := by decide +kernel
theorem dX4_hasArrived_17 : decode cX4_hasArrived 17 = .ok (.goto 4, 3) := by decide +kernel
theorem dX4_hasArrived_20 : decode cX4_hasArrived 20 = .ok (.iconst 0, 1) := by decide +kernel
theorem dX4_hasArrived_21 : decode cX4_hasArrived 21 = .ok (.ireturn, 1) := by decide +kernel
theorem dX4_errorOf_0 : decode cX4_errorOf 0 = .ok (.iload_n 1, 1) := by decide +kernel
theorem dX4_errorOf_1 : decode cX4_errorOf 1 = .ok (.lookupswitch 117 #[(98, 86), (102, 65), (103, 43), (111, 108)], 43) := by decide +kernel
theorem dX4_errorOf_44 : decode cX4_errorOf 44 = .ok (.aload_n 0, 1) := by decide +kernel
theorem dX4_errorOf_45 : decode cX4_errorOf 45 = .ok (.invokevirtual 95, 3) := by decide +kernel
theorem dX4_errorOf_48 : decode cX4_errorOf 48 = .ok (.ifCond .ne 11, 3) := by decide +kernel
theorem dX4_errorOf_51 : decode cX4_errorOf 51 = .ok (.aload_n 0, 1) := by decide +kernel
theorem dX4_errorOf_52 : decode cX4_errorOf 52 = .ok (.getfield 63, 3) := by decide +kernel
theorem dX4_errorOf_55 : decode cX4_errorOf 55 = .ok (.iconst 1, 1) := by decide +kernel
theorem dX4_errorOf_56 : decode cX4_errorOf 56 = .ok (.if_icmp .ne 8, 3) := by decide +kernel
theorem dX4_errorOf_59 : decode cX4_errorOf 59 = .ok (.bipush (-3), 2) := by decide +kernel
theorem dX4_errorOf_61 : decode cX4_errorOf 61 = .ok (.goto 4, 3) := by decide +kernel
theorem dX4_errorOf_64 : decode cX4_errorOf 64 = .ok (.iconst 0, 1) := by decide +kernel
theorem dX4_errorOf_65 : decode cX4_errorOf 65 = .ok (.ireturn, 1) := by decide +kernel
theorem dX4_errorOf_66 : decode cX4_errorOf 66 = .ok (.aload_n 0, 1) := by decide +kernel
theorem dX4_errorOf_67 : decode cX4_errorOf 67 = .ok (.invokevirtual 95, 3) := by decide +kernel
theorem dX4_errorOf_70 : decode cX4_errorOf 70 = .ok (.ifCond .ne 10, 3) := by decide +kernel
theorem dX4_errorOf_73 : decode cX4_errorOf 73 = .ok (.aload_n 0, 1) := by decide +kernel
theorem dX4_errorOf_74 : decode cX4_errorOf 74 = .ok (.getfield 63, 3) := by decide +kernel
theorem dX4_errorOf_77 : decode cX4_errorOf 77 = .ok (.ifCond .ne 8, 3) := by decide +kernel
theorem dX4_errorOf_80 : decode cX4_errorOf 80 = .ok (.bipush (-3), 2) := by decide +kernel
theorem dX4_errorOf_82 : decode cX4_errorOf 82 = .ok (.goto 4, 3) := by decide +kernel
theorem dX4_errorOf_85 : decode cX4_errorOf 85 = .ok (.iconst 0, 1) := by decide +kernel
theorem dX4_errorOf_86 : decode cX4_errorOf 86 = .ok (.ireturn, 1) := by decide +kernel
theorem dX4_errorOf_87 : decode cX4_errorOf 87 = .ok (.aload_n 0, 1) := by decide +kernel
theorem dX4_errorOf_88 : decode cX4_errorOf 88 = .ok (.invokevirtual 95, 3) := by decide +kernel
theorem dX4_errorOf_91 : decode cX4_errorOf 91 = .ok (.ifCond .ne 11, 3) := by decide +kernel
theorem dX4_errorOf_94 : decode cX4_errorOf 94 = .ok (.aload_n 0, 1) := by decide +kernel
theorem dX4_errorOf_95 : decode cX4_errorOf 95 = .ok (.getfield 63, 3) := by decide +kernel
theorem dX4_errorOf_98 : decode cX4_errorOf 98 = .ok (.iconst 3, 1) := by decide +kernel
theorem dX4_errorOf_99 : decode cX4_errorOf 99 = .ok (.if_icmp .ne 8, 3) := by decide +kernel
theorem dX4_errorOf_102 : decode cX4_errorOf 102 = .ok (.bipush (-3), 2) := by decide +kernel
theorem dX4_errorOf_104 : decode cX4_errorOf 104 = .ok (.goto 4, 3) := by decide +kernel
theorem dX4_errorOf_107 : decode cX4_errorOf 107 = .ok (.iconst 0, 1) := by decide +kernel
theorem dX4_errorOf_108 : decode cX4_errorOf 108 = .ok (.ireturn, 1) := by decide +kernel
theorem dX4_errorOf_109 : decode cX4_errorOf 109 = .ok (.aload_n 0, 1) := by decide +kernel
theorem dX4_errorOf_110 : decode cX4_errorOf 110 = .ok (.getfield 43, 3) := by decide +kernel
theorem dX4_errorOf_113 : decode cX4_errorOf 113 = .ok (.iload_n 2, 1) := by decide +kernel
theorem dX4_errorOf_114 : decode cX4_errorOf 114 = .ok (.invokevirtual 99, 3) := by decide +kernel
theorem dX4_errorOf_117 : decode cX4_errorOf 117 = .ok (.ireturn, 1) := by decide +kernel
theorem dX4_errorOf_118 : decode cX4_errorOf 118 = .ok (.iload_n 2, 1) := by decide +kernel
theorem dX4_errorOf_119 : decode cX4_errorOf 119 = .ok (.iconst 1, 1) := by decide +kernel
theorem dX4_errorOf_120 : decode cX4_errorOf 120 = .ok (.if_icmp .lt 10, 3) := by decide +kernel
theorem dX4_errorOf_123 : decode cX4_errorOf 123 = .ok (.iload_n 2, 1) := by decide +kernel
theorem dX4_errorOf_124 : decode cX4_errorOf 124 = .ok (.sipush 200, 3) := by decide +kernel
theorem dX4_errorOf_127 : decode cX4_errorOf 127 = .ok (.if_icmp .le 8, 3) := by decide +kernel
theorem dX4_errorOf_130 : decode cX4_errorOf 130 = .ok (.bipush (-2), 2) := by decide +kernel
theorem dX4_errorOf_132 : decode cX4_errorOf 132 = .ok (.goto 4, 3) := by decide +kernel
theorem dX4_errorOf_135 : decode cX4_errorOf 135 = .ok (.iconst 0, 1) := by decide +kernel
theorem dX4_errorOf_136 : decode cX4_errorOf 136 = .ok (.ireturn, 1) := by decide +kernel
theorem dX4_carryOut_0 : decode cX4_carryOut 0 = .ok (.iload_n 1, 1) := by decide +kernel
theorem dX4_carryOut_1 : decode cX4_carryOut 1 = .ok (.lookupswitch 100 #[(98, 62), (102, 52), (103, 43), (111, 72)], 43) := by decide +kernel
theorem dX4_carryOut_44 : decode cX4_carryOut 44 = .ok (.aload_n 0, 1) := by decide +kernel
theorem dX4_carryOut_45 : decode cX4_carryOut 45 = .ok (.invokevirtual 103, 3) := by decide +kernel
theorem dX4_carryOut_48 : decode cX4_carryOut 48 = .ok (.aload_n 0, 1) := by decide +kernel
theorem dX4_carryOut_49 : decode cX4_carryOut 49 = .ok (.invokevirtual 106, 3) := by decide +kernel
theorem dX4_carryOut_52 : decode cX4_carryOut 52 = .ok (.ireturn, 1) := by decide +kernel
theorem dX4_carryOut_53 : decode cX4_carryOut 53 = .ok (.aload_n 0, 1) := by decide +kernel
theorem dX4_carryOut_54 : decode cX4_carryOut 54 = .ok (.iconst 0, 1) := by decide +kernel
theorem dX4_carryOut_55 : decode cX4_carryOut 55 = .ok (.invokevirtual 88, 3) := by decide +kernel
theorem dX4_carryOut_58 : decode cX4_carryOut 58 = .ok (.aload_n 0, 1) := by decide +kernel
theorem dX4_carryOut_59 : decode cX4_carryOut 59 = .ok (.invokevirtual 106, 3) := by decide +kernel
theorem dX4_carryOut_62 : decode cX4_carryOut 62 = .ok (.ireturn, 1) := by decide +kernel
theorem dX4_carryOut_63 : decode cX4_carryOut 63 = .ok (.aload_n 0, 1) := by decide +kernel
theorem dX4_carryOut_64 : decode cX4_carryOut 64 = .ok (.iconst 3, 1) := by decide +kernel
theorem dX4_carryOut_65 : decode cX4_carryOut 65 = .ok (.invokevirtual 88, 3) := by decide +kernel
theorem dX4_carryOut_68 : decode cX4_carryOut 68 = .ok (.aload_n 0, 1) := by decide +kernel
theorem dX4_carryOut_69 : decode cX4_carryOut 69 = .ok (.invokevirtual 106, 3) := by decide +kernel
theorem dX4_carryOut_72 : decode cX4_carryOut 72 = .ok (.ireturn, 1) := by decide +kernel
theorem dX4_carryOut_73 : decode cX4_carryOut 73 = .ok (.aload_n 0, 1) := by decide +kernel
theorem dX4_carryOut_74 : decode cX4_carryOut 74 = .ok (.getfield 43, 3) := by decide +kernel
theorem dX4_carryOut_77 : decode cX4_carryOut 77 = .ok (.iload_n 2, 1) := by decide +kernel
theorem dX4_carryOut_78 : decode cX4_carryOut 78 = .ok (.invokevirtual 110, 3) := by decide +kernel
theorem dX4_carryOut_81 : decode cX4_carryOut 81 = .ok (.aload_n 0, 1) := by decide +kernel
theorem dX4_carryOut_82 : decode cX4_carryOut 82 = .ok (.getfield 16, 3) := by decide +kernel
theorem dX4_carryOut_85 : decode cX4_carryOut 85 = .ok (.iload_n 2, 1) := by decide +kernel
theorem dX4_carryOut_86 : decode cX4_carryOut 86 = .ok (.if_icmp .ne 7, 3) := by decide +kernel
theorem dX4_carryOut_89 : decode cX4_carryOut 89 = .ok (.aload_n 0, 1) := by decide +kernel
theorem dX4_carryOut_90 : decode cX4_carryOut 90 = .ok (.invokevirtual 103, 3) := by decide +kernel
theorem dX4_carryOut_93 : decode cX4_carryOut 93 = .ok (.aload_n 0, 1) := by decide +kernel
theorem dX4_carryOut_94 : decode cX4_carryOut 94 = .ok (.getfield 43, 3) := by decide +kernel
theorem dX4_carryOut_97 : decode cX4_carryOut 97 = .ok (.invokevirtual 113, 3) := by decide +kernel
theorem dX4_carryOut_100 : decode cX4_carryOut 100 = .ok (.ireturn, 1) := by decide +kernel
theorem dX4_carryOut_101 : decode cX4_carryOut 101 = .ok (.iconst 0, 1) := by decide +kernel
theorem dX4_carryOut_102 : decode cX4_carryOut 102 = .ok (.istore_n 3, 1) := by decide +kernel
theorem dX4_carryOut_103 : decode cX4_carryOut 103 = .ok (.iload_n 3, 1) := by decide +kernel
theorem dX4_carryOut_104 : decode cX4_carryOut 104 = .ok (.iload_n 2, 1) := by decide +kernel
theorem dX4_carryOut_105 : decode cX4_carryOut 105 = .ok (.if_icmp .ge 13, 3) := by decide +kernel
theorem dX4_carryOut_108 : decode cX4_carryOut 108 = .ok (.aload_n 0, 1) := by decide +kernel
theorem dX4_carryOut_109 : decode cX4_carryOut 109 = .ok (.invokevirtual 116, 3) := by decide +kernel
theorem dX4_carryOut_112 : decode cX4_carryOut 112 = .ok (.iinc 3 1, 3) := by decide +kernel
theorem dX4_carryOut_115 : decode cX4_carryOut 115 = .ok (.goto (-12), 3) := by decide +kernel
theorem dX4_carryOut_118 : decode cX4_carryOut 118 = .ok (.aload_n 0, 1) := by decide +kernel
theorem dX4_carryOut_119 : decode cX4_carryOut 119 = .ok (.getfield 63, 3) := by decide +kernel
theorem dX4_carryOut_122 : decode cX4_carryOut 122 = .ok (.ireturn, 1) := by decide +kernel
theorem dX4_passSecond_0 : decode cX4_passSecond 0 = .ok (.aload_n 0, 1) := by decide +kernel
theorem dX4_passSecond_1 : decode cX4_passSecond 1 = .ok (.dup, 1) := by decide +kernel
theorem dX4_passSecond_2 : decode cX4_passSecond 2 = .ok (.getfield 72, 3) := by decide +kernel
theorem dX4_passSecond_5 : decode cX4_passSecond 5 = .ok (.iconst 1, 1) := by decide +kernel
theorem dX4_passSecond_6 : decode cX4_passSecond 6 = .ok (.iadd, 1) := by decide +kernel
theorem dX4_passSecond_7 : decode cX4_passSecond 7 = .ok (.putfield 72, 3) := by decide +kernel
theorem dX4_passSecond_10 : decode cX4_passSecond 10 = .ok (.aload_n 0, 1) := by decide +kernel
theorem dX4_passSecond_11 : decode cX4_passSecond 11 = .ok (.invokevirtual 95, 3) := by decide +kernel
theorem dX4_passSecond_14 : decode cX4_passSecond 14 = .ok (.ifCond .eq 4, 3) := by decide +kernel
theorem dX4_passSecond_17 : decode cX4_passSecond 17 = .ok (.return_, 1) := by decide +kernel
theorem dX4_passSecond_18 : decode cX4_passSecond 18 = .ok (.aload_n 0, 1) := by decide +kernel
theorem dX4_passSecond_19 : decode cX4_passSecond 19 = .ok (.getfield 63, 3) := by decide +kernel
