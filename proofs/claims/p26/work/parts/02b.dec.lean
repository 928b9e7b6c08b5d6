theorem dX2_init_0 : decode cX2_init 0 = .ok (.aload_n 0, 1) := by decide +kernel
theorem dX2_init_1 : decode cX2_init 1 = .ok (.invokespecial 3, 3) := by decide +kernel
theorem dX2_init_4 : decode cX2_init 4 = .ok (.aload_n 0, 1) := by decide +kernel
theorem dX2_init_5 : decode cX2_init 5 = .ok (.iconst 2, 1) := by decide +kernel
theorem dX2_init_6 : decode cX2_init 6 = .ok (.putfield 9, 3) := by decide +kernel
theorem dX2_init_9 : decode cX2_init 9 = .ok (.aload_n 0, 1) := by decide +kernel
theorem dX2_init_10 : decode cX2_init 10 = .ok (.bipush 20, 2) := by decide +kernel
theorem dX2_init_12 : decode cX2_init 12 = .ok (.anewarray 15, 3) := by decide +kernel
theorem dX2_init_15 : decode cX2_init 15 = .ok (.putfield 17, 3) := by decide +kernel
theorem dX2_init_18 : decode cX2_init 18 = .ok (.iconst 0, 1) := by decide +kernel
theorem dX2_init_19 : decode cX2_init 19 = .ok (.istore_n 1, 1) := by decide +kernel
theorem dX2_init_20 : decode cX2_init 20 = .ok (.iload_n 1, 1) := by decide +kernel
theorem dX2_init_21 : decode cX2_init 21 = .ok (.bipush 20, 2) := by decide +kernel
theorem dX2_init_23 : decode cX2_init 23 = .ok (.if_icmp .ge 22, 3) := by decide +kernel
theorem dX2_init_26 : decode cX2_init 26 = .ok (.aload_n 0, 1) := by decide +kernel
theorem dX2_init_27 : decode cX2_init 27 = .ok (.getfield 17, 3) := by decide +kernel
theorem dX2_init_30 : decode cX2_init 30 = .ok (.iload_n 1, 1) := by decide +kernel
theorem dX2_init_31 : decode cX2_init 31 = .ok (.new 15, 3) := by decide +kernel
theorem dX2_init_34 : decode cX2_init 34 = .ok (.dup, 1) := by decide +kernel
theorem dX2_init_35 : decode cX2_init 35 = .ok (.invokespecial 21, 3) := by decide +kernel
theorem dX2_init_38 : decode cX2_init 38 = .ok (.aastore, 1) := by decide +kernel
theorem dX2_init_39 : decode cX2_init 39 = .ok (.iinc 1 1, 3) := by decide +kernel
theorem dX2_init_42 : decode cX2_init 42 = .ok (.goto (-22), 3) := by decide +kernel
theorem dX2_init_45 : decode cX2_init 45 = .ok (.aload_n 0, 1) := by decide +kernel
theorem dX2_init_46 : decode cX2_init 46 = .ok (.iconst 4, 1) := by decide +kernel
theorem dX2_init_47 : decode cX2_init 47 = .ok (.anewarray 22, 3) := by decide +kernel
theorem dX2_init_50 : decode cX2_init 50 = .ok (.putfield 24, 3) := by decide +kernel
theorem dX2_init_53 : decode cX2_init 53 = .ok (.iconst 0, 1) := by decide +kernel
theorem dX2_init_54 : decode cX2_init 54 = .ok (.istore_n 1, 1) := by decide +kernel
theorem dX2_init_55 : decode cX2_init 55 = .ok (.iload_n 1, 1) := by decide +kernel
theorem dX2_init_56 : decode cX2_init 56 = .ok (.iconst 4, 1) := by decide +kernel
theorem dX2_init_57 : decode cX2_init 57 = .ok (.if_icmp .ge 22, 3) := by decide +kernel
theorem dX2_init_60 : decode cX2_init 60 = .ok (.aload_n 0, 1) := by decide +kernel
theorem dX2_init_61 : decode cX2_init 61 = .ok (.getfield 24, 3) := by decide +kernel
theorem dX2_init_64 : decode cX2_init 64 = .ok (.iload_n 1, 1) := by decide +kernel
theorem dX2_init_65 : decode cX2_init 65 = .ok (.new 22, 3) := by decide +kernel
theorem dX2_init_68 : decode cX2_init 68 = .ok (.dup, 1) := by decide +kernel
theorem dX2_init_69 : decode cX2_init 69 = .ok (.invokespecial 28, 3) := by decide +kernel
theorem dX2_init_72 : decode cX2_init 72 = .ok (.aastore, 1) := by decide +kernel
theorem dX2_init_73 : decode cX2_init 73 = .ok (.iinc 1 1, 3) := by decide +kernel
theorem dX2_init_76 : decode cX2_init 76 = .ok (.goto (-21), 3) := by decide +kernel
theorem dX2_init_79 : decode cX2_init 79 = .ok (.aload_n 0, 1) := by decide +kernel
theorem dX2_init_80 : decode cX2_init 80 = .ok (.new 29, 3) := by decide +kernel
theorem dX2_init_83 : decode cX2_init 83 = .ok (.dup, 1) := by decide +kernel
theorem dX2_init_84 : decode cX2_init 84 = .ok (.invokespecial 31, 3) := by decide +kernel
theorem dX2_init_87 : decode cX2_init 87 = .ok (.putfield 32, 3) := by decide +kernel
theorem dX2_init_90 : decode cX2_init 90 = .ok (.aload_n 0, 1) := by decide +kernel
theorem dX2_init_91 : decode cX2_init 91 = .ok (.new 36, 3) := by decide +kernel
theorem dX2_init_94 : decode cX2_init 94 = .ok (.dup, 1) := by decide +kernel
theorem dX2_init_95 : decode cX2_init 95 = .ok (.invokespecial 38, 3) := by decide +kernel
theorem dX2_init_98 : decode cX2_init 98 = .ok (.putfield 39, 3) := by decide +kernel
theorem dX2_init_101 : decode cX2_init 101 = .ok (.return_, 1) := by decide +kernel
theorem dX2_copyFrom_0 : decode cX2_copyFrom 0 = .ok (.aload_n 0, 1) := by decide +kernel
theorem dX2_copyFrom_1 : decode cX2_copyFrom 1 = .ok (.aload_n 1, 1) := by decide +kernel
theorem dX2_copyFrom_2 : decode cX2_copyFrom 2 = .ok (.getfield 43, 3) := by decide +kernel
theorem dX2_copyFrom_5 : decode cX2_copyFrom 5 = .ok (.putfield 43, 3) := by decide +kernel
theorem dX2_copyFrom_8 : decode cX2_copyFrom 8 = .ok (.aload_n 0, 1) := by decide +kernel
theorem dX2_copyFrom_9 : decode cX2_copyFrom 9 = .ok (.aload_n 1, 1) := by decide +kernel
theorem dX2_copyFrom_10 : decode cX2_copyFrom 10 = .ok (.getfield 46, 3) := by decide +kernel
theorem dX2_copyFrom_13 : decode cX2_copyFrom 13 = .ok (.putfield 46, 3) := by decide +kernel
theorem dX2_copyFrom_16 : decode cX2_copyFrom 16 = .ok (.aload_n 0, 1) := by decide +kernel
theorem dX2_copyFrom_17 : decode cX2_copyFrom 17 = .ok (.aload_n 1, 1) := by decide +kernel
theorem dX2_copyFrom_18 : decode cX2_copyFrom 18 = .ok (.getfield 49, 3) := by decide +kernel
theorem dX2_copyFrom_21 : decode cX2_copyFrom 21 = .ok (.putfield 49, 3) := by decide +kernel
theorem dX2_copyFrom_24 : decode cX2_copyFrom 24 = .ok (.aload_n 0, 1) := by decide +kernel
theorem dX2_copyFrom_25 : decode cX2_copyFrom 25 = .ok (.aload_n 1, 1) := by decide +kernel
theorem dX2_copyFrom_26 : decode cX2_copyFrom 26 = .ok (.getfield 52, 3) := by decide +kernel
theorem dX2_copyFrom_29 : decode cX2_copyFrom 29 = .ok (.putfield 52, 3) := by decide +kernel
theorem dX2_copyFrom_32 : decode cX2_copyFrom 32 = .ok (.aload_n 0, 1) := by decide +kernel
theorem dX2_copyFrom_33 : decode cX2_copyFrom 33 = .ok (.aload_n 1, 1) := by decide +kernel
theorem dX2_copyFrom_34 : decode cX2_copyFrom 34 = .ok (.getfield 55, 3) := by decide +kernel
theorem dX2_copyFrom_37 : decode cX2_copyFrom 37 = .ok (.putfield 55, 3) := by decide +kernel
theorem dX2_copyFrom_40 : decode cX2_copyFrom 40 = .ok (.aload_n 0, 1) := by decide +kernel
theorem dX2_copyFrom_41 : decode cX2_copyFrom 41 = .ok (.aload_n 1, 1) := by decide +kernel
theorem dX2_copyFrom_42 : decode cX2_copyFrom 42 = .ok (.getfield 58, 3) := by decide +kernel
theorem dX2_copyFrom_45 : decode cX2_copyFrom 45 = .ok (.putfield 58, 3) := by decide +kernel
theorem dX2_copyFrom_48 : decode cX2_copyFrom 48 = .ok (.aload_n 0, 1) := by decide +kernel
theorem dX2_copyFrom_49 : decode cX2_copyFrom 49 = .ok (.aload_n 1, 1) := by decide +kernel
theorem dX2_copyFrom_50 : decode cX2_copyFrom 50 = .ok (.getfield 61, 3) := by decide +kernel
theorem dX2_copyFrom_53 : decode cX2_copyFrom 53 = .ok (.putfield 61, 3) := by decide +kernel
theorem dX2_copyFrom_56 : decode cX2_copyFrom 56 = .ok (.aload_n 0, 1) := by decide +kernel
theorem dX2_copyFrom_57 : decode cX2_copyFrom 57 = .ok (.aload_n 1, 1) := by decide +kernel
theorem dX2_copyFrom_58 : decode cX2_copyFrom 58 = .ok (.getfield 9, 3) := by decide +kernel
theorem dX2_copyFrom_61 : decode cX2_copyFrom 61 = .ok (.putfield 9, 3) := by decide +kernel
theorem dX2_copyFrom_64 : decode cX2_copyFrom 64 = .ok (.iconst 0, 1) := by decide +kernel
theorem dX2_copyFrom_65 : decode cX2_copyFrom 65 = .ok (.istore_n 2, 1) := by decide +kernel
theorem dX2_copyFrom_66 : decode cX2_copyFrom 66 = .ok (.iload_n 2, 1) := by decide +kernel
theorem dX2_copyFrom_67 : decode cX2_copyFrom 67 = .ok (.aload_n 0, 1) := by decide +kernel
theorem dX2_copyFrom_68 : decode cX2_copyFrom 68 = .ok (.getfield 58, 3) := by decide +kernel
theorem dX2_copyFrom_71 : decode cX2_copyFrom 71 = .ok (.if_icmp .ge 24, 3) := by decide +kernel
theorem dX2_copyFrom_74 : decode cX2_copyFrom 74 = .ok (.aload_n 0, 1) := by decide +kernel
theorem dX2_copyFrom_75 : decode cX2_copyFrom 75 = .ok (.getfield 17, 3) := by decide +kernel
theorem dX2_copyFrom_78 : decode cX2_copyFrom 78 = .ok (.iload_n 2, 1) := by decide +kernel
theorem dX2_copyFrom_79 : decode cX2_copyFrom 79 = .ok (.aaload, 1) := by decide +kernel
theorem dX2_copyFrom_80 : decode cX2_copyFrom 80 = .ok (.aload_n 1, 1) := by decide +kernel
theorem dX2_copyFrom_81 : decode cX2_copyFrom 81 = .ok (.getfield 17, 3) := by decide +kernel
theorem dX2_copyFrom_84 : decode cX2_copyFrom 84 = .ok (.iload_n 2, 1) := by decide +kernel
theorem dX2_copyFrom_85 : decode cX2_copyFrom 85 = .ok (.aaload, 1) := by decide +kernel
theorem dX2_copyFrom_86 : decode cX2_copyFrom 86 = .ok (.invokevirtual 64, 3) := by decide +kernel
theorem dX2_copyFrom_89 : decode cX2_copyFrom 89 = .ok (.iinc 2 1, 3) := by decide +kernel
theorem dX2_copyFrom_92 : decode cX2_copyFrom 92 = .ok (.goto (-26), 3) := by decide +kernel
theorem dX2_copyFrom_95 : decode cX2_copyFrom 95 = .ok (.iconst 0, 1) := by decide +kernel
theorem dX2_copyFrom_96 : decode cX2_copyFrom 96 = .ok (.istore_n 2, 1) := by decide +kernel
theorem dX2_copyFrom_97 : decode cX2_copyFrom 97 = .ok (.iload_n 2, 1) := by decide +kernel
theorem dX2_copyFrom_98 : decode cX2_copyFrom 98 = .ok (.iconst 4, 1) := by decide +kernel
theorem dX2_copyFrom_99 : decode cX2_copyFrom 99 = .ok (.if_icmp .ge 24, 3) := by decide +kernel
theorem dX2_copyFrom_102 : decode cX2_copyFrom 102 = .ok (.aload_n 0, 1) := by decide +kernel
theorem dX2_copyFrom_103 : decode cX2_copyFrom 103 = .ok (.getfield 24, 3) := by decide +kernel
theorem dX2_copyFrom_106 : decode cX2_copyFrom 106 = .ok (.iload_n 2, 1) := by decide +kernel
theorem dX2_copyFrom_107 : decode cX2_copyFrom 107 = .ok (.aaload, 1) := by decide +kernel
theorem dX2_copyFrom_108 : decode cX2_copyFrom 108 = .ok (.aload_n 1, 1) := by decide +kernel
theorem dX2_copyFrom_109 : decode cX2_copyFrom 109 = .ok (.getfield 24, 3) := by decide +kernel
theorem dX2_copyFrom_112 : decode cX2_copyFrom 112 = .ok (.iload_n 2, 1) := by decide +kernel
theorem dX2_copyFrom_113 : decode cX2_copyFrom 113 = .ok (.aaload, 1) := by decide +kernel
theorem dX2_copyFrom_114 : decode cX2_copyFrom 114 = .ok (.invokevirtual 68, 3) := by decide +kernel
theorem dX2_copyFrom_117 : decode cX2_copyFrom 117 = .ok (.iinc 2 1, 3) := by decide +kernel
theorem dX2_copyFrom_120 : decode cX2_copyFrom 120 = .ok (.goto (-23), 3) := by decide +kernel
theorem dX2_copyFrom_123 : decode cX2_copyFrom 123 = .ok (.aload_n 0, 1) := by decide +kernel
theorem dX2_copyFrom_124 : decode cX2_copyFrom 124 = .ok (.getfield 32, 3) := by decide +kernel
theorem dX2_copyFrom_127 : decode cX2_copyFrom 127 = .ok (.aload_n 1, 1) := by decide +kernel
theorem dX2_copyFrom_128 : decode cX2_copyFrom 128 = .ok (.getfield 32, 3) := by decide +kernel
theorem dX2_copyFrom_131 : decode cX2_copyFrom 131 = .ok (.invokevirtual 71, 3) := by decide +kernel
theorem dX2_copyFrom_134 : decode cX2_copyFrom 134 = .ok (.aload_n 0, 1) := by decide +kernel
theorem dX2_copyFrom_135 : decode cX2_copyFrom 135 = .ok (.getfield 39, 3) := by decide +kernel
theorem dX2_copyFrom_138 : decode cX2_copyFrom 138 = .ok (.aload_n 1, 1) := by decide +kernel
theorem dX2_copyFrom_139 : decode cX2_copyFrom 139 = .ok (.getfield 39, 3) := by decide +kernel
theorem dX2_copyFrom_142 : decode cX2_copyFrom 142 = .ok (.invokevirtual 74, 3) := by decide +kernel
theorem dX2_copyFrom_145 : decode cX2_copyFrom 145 = .ok (.return_, 1) := by decide +kernel
theorem dX2_hasRoomFor_0 : decode cX2_hasRoomFor 0 = .ok (.aload_n 0, 1) := by decide +kernel
theorem dX2_hasRoomFor_1 : decode cX2_hasRoomFor 1 = .ok (.getfield 58, 3) := by decide +kernel
theorem dX2_hasRoomFor_4 : decode cX2_hasRoomFor 4 = .ok (.iload_n 1, 1) := by decide +kernel
theorem dX2_hasRoomFor_5 : decode cX2_hasRoomFor 5 = .ok (.iadd, 1) := by decide +kernel
theorem dX2_hasRoomFor_6 : decode cX2_hasRoomFor 6 = .ok (.bipush 20, 2) := by decide +kernel
theorem dX2_hasRoomFor_8 : decode cX2_hasRoomFor 8 = .ok (.if_icmp .gt 19, 3) := by decide +kernel
theorem dX2_hasRoomFor_11 : decode cX2_hasRoomFor 11 = .ok (.aload_n 0, 1) := by decide +kernel
theorem dX2_hasRoomFor_12 : decode cX2_hasRoomFor 12 = .ok (.getfield 61, 3) := by decide +kernel
theorem dX2_hasRoomFor_15 : decode cX2_hasRoomFor 15 = .ok (.iload_n 1, 1) := by decide +kernel
theorem dX2_hasRoomFor_16 : decode cX2_hasRoomFor 16 = .ok (.iadd, 1) := by decide +kernel
theorem dX2_hasRoomFor_17 : decode cX2_hasRoomFor 17 = .ok (.sipush 500, 3) := by decide +kernel
theorem dX2_hasRoomFor_20 : decode cX2_hasRoomFor 20 = .ok (.if_icmp .gt 7, 3) := by decide +kernel
theorem dX2_hasRoomFor_23 : decode cX2_hasRoomFor 23 = .ok (.iconst 1, 1) := by decide +kernel
theorem dX2_hasRoomFor_24 : decode cX2_hasRoomFor 24 = .ok (.goto 4, 3) := by decide +kernel
theorem dX2_hasRoomFor_27 : decode cX2_hasRoomFor 27 = .ok (.iconst 0, 1) := by decide +kernel
theorem dX2_hasRoomFor_28 : decode cX2_hasRoomFor 28 = .ok (.ireturn, 1) := by decide +kernel
theorem dX2_placeOf_0 : decode cX2_placeOf 0 = .ok (.iconst 0, 1) := by decide +kernel
theorem dX2_placeOf_1 : decode cX2_placeOf 1 = .ok (.istore_n 2, 1) := by decide +kernel
theorem dX2_placeOf_2 : decode cX2_placeOf 2 = .ok (.iload_n 2, 1) := by decide +kernel
theorem dX2_placeOf_3 : decode cX2_placeOf 3 = .ok (.aload_n 0, 1) := by decide +kernel
theorem dX2_placeOf_4 : decode cX2_placeOf 4 = .ok (.getfield 58, 3) := by decide +kernel
theorem dX2_placeOf_7 : decode cX2_placeOf 7 = .ok (.if_icmp .ge 24, 3) := by decide +kernel
theorem dX2_placeOf_10 : decode cX2_placeOf 10 = .ok (.aload_n 0, 1) := by decide +kernel
theorem dX2_placeOf_11 : decode cX2_placeOf 11 = .ok (.getfield 17, 3) := by decide +kernel
theorem dX2_placeOf_14 : decode cX2_placeOf 14 = .ok (.iload_n 2, 1) := by decide +kernel
theorem dX2_placeOf_15 : decode cX2_placeOf 15 = .ok (.aaload, 1) := by decide +kernel
theorem dX2_placeOf_16 : decode cX2_placeOf 16 = .ok (.getfield 77, 3) := by decide +kernel
theorem dX2_placeOf_19 : decode cX2_placeOf 19 = .ok (.iload_n 1, 1) := by decide +kernel
theorem dX2_placeOf_20 : decode cX2_placeOf 20 = .ok (.if_icmp .ne 5, 3) := by decide +kernel
theorem dX2_placeOf_23 : decode cX2_placeOf 23 = .ok (.iload_n 2, 1) := by decide +kernel
theorem dX2_placeOf_24 : decode cX2_placeOf 24 = .ok (.ireturn, 1) := by decide +kernel
theorem dX2_placeOf_25 : decode cX2_placeOf 25 = .ok (.iinc 2 1, 3) := by decide +kernel
theorem dX2_placeOf_28 : decode cX2_placeOf 28 = .ok (.goto (-26), 3) := by decide +kernel
theorem dX2_placeOf_31 : decode cX2_placeOf 31 = .ok (.iconst (-1), 1) := by decide +kernel
theorem dX2_placeOf_32 : decode cX2_placeOf 32 = .ok (.ireturn, 1) := by decide +kernel
theorem dX2_hasRungSince_0 : decode cX2_hasRungSince 0 = .ok (.aload_n 0, 1) := by decide +kernel
theorem dX2_hasRungSince_1 : decode cX2_hasRungSince 1 = .ok (.iload_n 1, 1) := by decide +kernel
theorem dX2_hasRungSince_2 : decode cX2_hasRungSince 2 = .ok (.invokevirtual 80, 3) := by decide +kernel
theorem dX2_hasRungSince_5 : decode cX2_hasRungSince 5 = .ok (.istore_n 3, 1) := by decide +kernel
theorem dX2_hasRungSince_6 : decode cX2_hasRungSince 6 = .ok (.iload_n 3, 1) := by decide +kernel
theorem dX2_hasRungSince_7 : decode cX2_hasRungSince 7 = .ok (.iconst (-1), 1) := by decide +kernel
theorem dX2_hasRungSince_8 : decode cX2_hasRungSince 8 = .ok (.if_icmp .eq 16, 3) := by decide +kernel
theorem dX2_hasRungSince_11 : decode cX2_hasRungSince 11 = .ok (.aload_n 0, 1) := by decide +kernel
theorem dX2_hasRungSince_12 : decode cX2_hasRungSince 12 = .ok (.getfield 17, 3) := by decide +kernel
theorem dX2_hasRungSince_15 : decode cX2_hasRungSince 15 = .ok (.iload_n 3, 1) := by decide +kernel
theorem dX2_hasRungSince_16 : decode cX2_hasRungSince 16 = .ok (.aaload, 1) := by decide +kernel
theorem dX2_hasRungSince_17 : decode cX2_hasRungSince 17 = .ok (.getfield 84, 3) := by decide +kernel
theorem dX2_hasRungSince_20 : decode cX2_hasRungSince 20 = .ok (.iload_n 2, 1) := by decide +kernel
theorem dX2_hasRungSince_21 : decode cX2_hasRungSince 21 = .ok (.if_icmp .le 7, 3) := by decide +kernel
theorem dX2_hasRungSince_24 : decode cX2_hasRungSince 24 = .ok (.iconst 1, 1) := by decide +kernel
theorem dX2_hasRungSince_25 : decode cX2_hasRungSince 25 = .ok (.goto 4, 3) := by decide +kernel
theorem dX2_hasRungSince_28 : decode cX2_hasRungSince 28 = .ok (.iconst 0, 1) := by decide +kernel
theorem dX2_hasRungSince_29 : decode cX2_hasRungSince 29 = .ok (.ireturn, 1) := by decide +kernel
theorem dX2_addAlarm_0 : decode cX2_addAlarm 0 = .ok (.aload_n 0, 1) := by decide +kernel
theorem dX2_addAlarm_1 : decode cX2_addAlarm 1 = .ok (.iconst 1, 1) := by decide +kernel
theorem dX2_addAlarm_2 : decode cX2_addAlarm 2 = .ok (.invokevirtual 87, 3) := by decide +kernel
theorem dX2_addAlarm_5 : decode cX2_addAlarm 5 = .ok (.ifCond .ne 7, 3) := by decide +kernel
theorem dX2_addAlarm_8 : decode cX2_addAlarm 8 = .ok (.sipush (-1003), 3) := by decide +kernel
theorem dX2_addAlarm_11 : decode cX2_addAlarm 11 = .ok (.ireturn, 1) := by decide +kernel
theorem dX2_addAlarm_12 : decode cX2_addAlarm 12 = .ok (.aload_n 0, 1) := by decide +kernel
theorem dX2_addAlarm_13 : decode cX2_addAlarm 13 = .ok (.getfield 61, 3) := by decide +kernel
theorem dX2_addAlarm_16 : decode cX2_addAlarm 16 = .ok (.istore 4, 2) := by decide +kernel
theorem dX2_addAlarm_18 : decode cX2_addAlarm 18 = .ok (.aload_n 0, 1) := by decide +kernel
theorem dX2_addAlarm_19 : decode cX2_addAlarm 19 = .ok (.getfield 17, 3) := by decide +kernel
theorem dX2_addAlarm_22 : decode cX2_addAlarm 22 = .ok (.aload_n 0, 1) := by decide +kernel
theorem dX2_addAlarm_23 : decode cX2_addAlarm 23 = .ok (.getfield 58, 3) := by decide +kernel
theorem dX2_addAlarm_26 : decode cX2_addAlarm 26 = .ok (.aaload, 1) := by decide +kernel
theorem dX2_addAlarm_27 : decode cX2_addAlarm 27 = .ok (.iload 4, 2) := by decide +kernel
theorem dX2_addAlarm_29 : decode cX2_addAlarm 29 = .ok (.iload_n 1, 1) := by decide +kernel
theorem dX2_addAlarm_30 : decode cX2_addAlarm 30 = .ok (.iload_n 2, 1) := by decide +kernel
theorem dX2_addAlarm_31 : decode cX2_addAlarm 31 = .ok (.iload_n 3, 1) := by decide +kernel
theorem dX2_addAlarm_32 : decode cX2_addAlarm 32 = .ok (.invokevirtual 91, 3) := by decide +kernel
theorem dX2_addAlarm_35 : decode cX2_addAlarm 35 = .ok (.aload_n 0, 1) := by decide +kernel
theorem dX2_addAlarm_36 : decode cX2_addAlarm 36 = .ok (.dup, 1) := by decide +kernel
theorem dX2_addAlarm_37 : decode cX2_addAlarm 37 = .ok (.getfield 58, 3) := by decide +kernel
theorem dX2_addAlarm_40 : decode cX2_addAlarm 40 = .ok (.iconst 1, 1) := by decide +kernel
theorem dX2_addAlarm_41 : decode cX2_addAlarm 41 = .ok (.iadd, 1) := by decide +kernel
theorem dX2_addAlarm_42 : decode cX2_addAlarm 42 = .ok (.putfield 58, 3) := by decide +kernel
theorem dX2_addAlarm_45 : decode cX2_addAlarm 45 = .ok (.aload_n 0, 1) := by decide +kernel
theorem dX2_addAlarm_46 : decode cX2_addAlarm 46 = .ok (.dup, 1) := by decide +kernel
theorem dX2_addAlarm_47 : decode cX2_addAlarm 47 = .ok (.getfield 61, 3) := by decide +kernel
theorem dX2_addAlarm_50 : decode cX2_addAlarm 50 = .ok (.iconst 1, 1) := by decide +kernel
theorem dX2_addAlarm_51 : decode cX2_addAlarm 51 = .ok (.iadd, 1) := by decide +kernel
theorem dX2_addAlarm_52 : decode cX2_addAlarm 52 = .ok (.putfield 61, 3) := by decide +kernel
theorem dX2_addAlarm_55 : decode cX2_addAlarm 55 = .ok (.aload_n 0, 1) := by decide +kernel
theorem dX2_addAlarm_56 : decode cX2_addAlarm 56 = .ok (.invokevirtual 95, 3) := by decide +kernel
theorem dX2_addAlarm_59 : decode cX2_addAlarm 59 = .ok (.aload_n 0, 1) := by decide +kernel
theorem dX2_addAlarm_60 : decode cX2_addAlarm 60 = .ok (.invokevirtual 98, 3) := by decide +kernel
theorem dX2_addAlarm_63 : decode cX2_addAlarm 63 = .ok (.iload 4, 2) := by decide +kernel
theorem dX2_addAlarm_65 : decode cX2_addAlarm 65 = .ok (.ireturn, 1) := by decide +kernel
theorem dX2_cancelAlarm_0 : decode cX2_cancelAlarm 0 = .ok (.aload_n 0, 1) := by decide +kernel
theorem dX2_cancelAlarm_1 : decode cX2_cancelAlarm 1 = .ok (.aload_n 0, 1) := by decide +kernel
theorem dX2_cancelAlarm_2 : decode cX2_cancelAlarm 2 = .ok (.getfield 17, 3) := by decide +kernel
theorem dX2_cancelAlarm_5 : decode cX2_cancelAlarm 5 = .ok (.iload_n 1, 1) := by decide +kernel
theorem dX2_cancelAlarm_6 : decode cX2_cancelAlarm 6 = .ok (.aaload, 1) := by decide +kernel
theorem dX2_cancelAlarm_7 : decode cX2_cancelAlarm 7 = .ok (.invokevirtual 101, 3) := by decide +kernel
theorem dX2_cancelAlarm_10 : decode cX2_cancelAlarm 10 = .ok (.aload_n 0, 1) := by decide +kernel
theorem dX2_cancelAlarm_11 : decode cX2_cancelAlarm 11 = .ok (.iload_n 1, 1) := by decide +kernel
theorem dX2_cancelAlarm_12 : decode cX2_cancelAlarm 12 = .ok (.invokevirtual 104, 3) := by decide +kernel
theorem dX2_cancelAlarm_15 : decode cX2_cancelAlarm 15 = .ok (.aload_n 0, 1) := by decide +kernel
theorem dX2_cancelAlarm_16 : decode cX2_cancelAlarm 16 = .ok (.invokevirtual 98, 3) := by decide +kernel
theorem dX2_cancelAlarm_19 : decode cX2_cancelAlarm 19 = .ok (.return_, 1) := by decide +kernel
theorem dX2_moveAlarm_0 : decode cX2_moveAlarm 0 = .ok (.aload_n 0, 1) := by decide +kernel
theorem dX2_moveAlarm_1 : decode cX2_moveAlarm 1 = .ok (.getfield 17, 3) := by decide +kernel
theorem dX2_moveAlarm_4 : decode cX2_moveAlarm 4 = .ok (.iload_n 1, 1) := by decide +kernel
theorem dX2_moveAlarm_5 : decode cX2_moveAlarm 5 = .ok (.aaload, 1) := by decide +kernel
theorem dX2_moveAlarm_6 : decode cX2_moveAlarm 6 = .ok (.astore_n 3, 1) := by decide +kernel
theorem dX2_moveAlarm_7 : decode cX2_moveAlarm 7 = .ok (.aload_n 0, 1) := by decide +kernel
theorem dX2_moveAlarm_8 : decode cX2_moveAlarm 8 = .ok (.aload_n 3, 1) := by decide +kernel
theorem dX2_moveAlarm_9 : decode cX2_moveAlarm 9 = .ok (.invokevirtual 101, 3) := by decide +kernel
theorem dX2_moveAlarm_12 : decode cX2_moveAlarm 12 = .ok (.aload_n 3, 1) := by decide +kernel
theorem dX2_moveAlarm_13 : decode cX2_moveAlarm 13 = .ok (.iload_n 2, 1) := by decide +kernel
theorem dX2_moveAlarm_14 : decode cX2_moveAlarm 14 = .ok (.putfield 108, 3) := by decide +kernel
theorem dX2_moveAlarm_17 : decode cX2_moveAlarm 17 = .ok (.aload_n 0, 1) := by decide +kernel
theorem dX2_moveAlarm_18 : decode cX2_moveAlarm 18 = .ok (.invokevirtual 95, 3) := by decide +kernel
theorem dX2_moveAlarm_21 : decode cX2_moveAlarm 21 = .ok (.aload_n 0, 1) := by decide +kernel
theorem dX2_moveAlarm_22 : decode cX2_moveAlarm 22 = .ok (.invokevirtual 98, 3) := by decide +kernel
theorem dX2_moveAlarm_25 : decode cX2_moveAlarm 25 = .ok (.return_, 1) := by decide +kernel
theorem dX2_sortAlarms_0 : decode cX2_sortAlarms 0 = .ok (.iconst 1, 1) := by decide +kernel
theorem dX2_sortAlarms_1 : decode cX2_sortAlarms 1 = .ok (.istore_n 1, 1) := by decide +kernel
theorem dX2_sortAlarms_2 : decode cX2_sortAlarms 2 = .ok (.iload_n 1, 1) := by decide +kernel
theorem dX2_sortAlarms_3 : decode cX2_sortAlarms 3 = .ok (.aload_n 0, 1) := by decide +kernel
theorem dX2_sortAlarms_4 : decode cX2_sortAlarms 4 = .ok (.getfield 58, 3) := by decide +kernel
theorem dX2_sortAlarms_7 : decode cX2_sortAlarms 7 = .ok (.if_icmp .ge 71, 3) := by decide +kernel
theorem dX2_sortAlarms_10 : decode cX2_sortAlarms 10 = .ok (.iload_n 1, 1) := by decide +kernel
theorem dX2_sortAlarms_11 : decode cX2_sortAlarms 11 = .ok (.istore_n 2, 1) := by decide +kernel
theorem dX2_sortAlarms_12 : decode cX2_sortAlarms 12 = .ok (.iload_n 2, 1) := by decide +kernel
theorem dX2_sortAlarms_13 : decode cX2_sortAlarms 13 = .ok (.ifCond .le 59, 3) := by decide +kernel
theorem dX2_sortAlarms_16 : decode cX2_sortAlarms 16 = .ok (.aload_n 0, 1) := by decide +kernel
theorem dX2_sortAlarms_17 : decode cX2_sortAlarms 17 = .ok (.getfield 17, 3) := by decide +kernel
theorem dX2_sortAlarms_20 : decode cX2_sortAlarms 20 = .ok (.iload_n 2, 1) := by decide +kernel
theorem dX2_sortAlarms_21 : decode cX2_sortAlarms 21 = .ok (.aaload, 1) := by decide +kernel
theorem dX2_sortAlarms_22 : decode cX2_sortAlarms 22 = .ok (.aload_n 0, 1) := by decide +kernel
theorem dX2_sortAlarms_23 : decode cX2_sortAlarms 23 = .ok (.getfield 17, 3) := by decide +kernel
theorem dX2_sortAlarms_26 : decode cX2_sortAlarms 26 = .ok (.iload_n 2, 1) := by decide +kernel
theorem dX2_sortAlarms_27 : decode cX2_sortAlarms 27 = .ok (.iconst 1, 1) := by decide +kernel
theorem dX2_sortAlarms_28 : decode cX2_sortAlarms 28 = .ok (.isub, 1) := by decide +kernel
theorem dX2_sortAlarms_29 : decode cX2_sortAlarms 29 = .ok (.aaload, 1) := by decide +kernel
theorem dX2_sortAlarms_30 : decode cX2_sortAlarms 30 = .ok (.invokevirtual 111, 3) := by decide +kernel
theorem dX2_sortAlarms_33 : decode cX2_sortAlarms 33 = .ok (.ifCond .eq 39, 3) := by decide +kernel
theorem dX2_sortAlarms_36 : decode cX2_sortAlarms 36 = .ok (.aload_n 0, 1) := by decide +kernel
theorem dX2_sortAlarms_37 : decode cX2_sortAlarms 37 = .ok (.getfield 17, 3) := by decide +kernel
theorem dX2_sortAlarms_40 : decode cX2_sortAlarms 40 = .ok (.iload_n 2, 1) := by decide +kernel
theorem dX2_sortAlarms_41 : decode cX2_sortAlarms 41 = .ok (.aaload, 1) := by decide +kernel
theorem dX2_sortAlarms_42 : decode cX2_sortAlarms 42 = .ok (.astore_n 3, 1) := by decide +kernel
theorem dX2_sortAlarms_43 : decode cX2_sortAlarms 43 = .ok (.aload_n 0, 1) := by decide +kernel
theorem dX2_sortAlarms_44 : decode cX2_sortAlarms 44 = .ok (.getfield 17, 3) := by decide +kernel
theorem dX2_sortAlarms_47 : decode cX2_sortAlarms 47 = .ok (.iload_n 2, 1) := by decide +kernel
theorem dX2_sortAlarms_48 : decode cX2_sortAlarms 48 = .ok (.aload_n 0, 1) := by decide +kernel
theorem dX2_sortAlarms_49 : decode cX2_sortAlarms 49 = .ok (.getfield 17, 3) := by decide +kernel
theorem dX2_sortAlarms_52 : decode cX2_sortAlarms 52 = .ok (.iload_n 2, 1) := by decide +kernel
theorem dX2_sortAlarms_53 : decode cX2_sortAlarms 53 = .ok (.iconst 1, 1) := by decide +kernel
theorem dX2_sortAlarms_54 : decode cX2_sortAlarms 54 = .ok (.isub, 1) := by decide +kernel
theorem dX2_sortAlarms_55 : decode cX2_sortAlarms 55 = .ok (.aaload, 1) := by decide +kernel
theorem dX2_sortAlarms_56 : decode cX2_sortAlarms 56 = .ok (.aastore, 1) := by decide +kernel
theorem dX2_sortAlarms_57 : decode cX2_sortAlarms 57 = .ok (.aload_n 0, 1) := by decide +kernel
theorem dX2_sortAlarms_58 : decode cX2_sortAlarms 58 = .ok (.getfield 17, 3) := by decide +kernel
theorem dX2_sortAlarms_61 : decode cX2_sortAlarms 61 = .ok (.iload_n 2, 1) := by decide +kernel
theorem dX2_sortAlarms_62 : decode cX2_sortAlarms 62 = .ok (.iconst 1, 1) := by decide +kernel
theorem dX2_sortAlarms_63 : decode cX2_sortAlarms 63 = .ok (.isub, 1) := by decide +kernel
theorem dX2_sortAlarms_64 : decode cX2_sortAlarms 64 = .ok (.aload_n 3, 1) := by decide +kernel
theorem dX2_sortAlarms_65 : decode cX2_sortAlarms 65 = .ok (.aastore, 1) := by decide +kernel
theorem dX2_sortAlarms_66 : decode cX2_sortAlarms 66 = .ok (.iinc 2 (-1), 3) := by decide +kernel
theorem dX2_sortAlarms_69 : decode cX2_sortAlarms 69 = .ok (.goto (-57), 3) := by decide +kernel
theorem dX2_sortAlarms_72 : decode cX2_sortAlarms 72 = .ok (.iinc 1 1, 3) := by decide +kernel
theorem dX2_sortAlarms_75 : decode cX2_sortAlarms 75 = .ok (.goto (-73), 3) := by decide +kernel
theorem dX2_sortAlarms_78 : decode cX2_sortAlarms 78 = .ok (.return_, 1) := by decide +kernel
theorem dX2_removeAlarm_0 : decode cX2_removeAlarm 0 = .ok (.aload_n 0, 1) := by decide +kernel
theorem dX2_removeAlarm_1 : decode cX2_removeAlarm 1 = .ok (.getfield 17, 3) := by decide +kernel
theorem dX2_removeAlarm_4 : decode cX2_removeAlarm 4 = .ok (.iload_n 1, 1) := by decide +kernel
theorem dX2_removeAlarm_5 : decode cX2_removeAlarm 5 = .ok (.aaload, 1) := by decide +kernel
theorem dX2_removeAlarm_6 : decode cX2_removeAlarm 6 = .ok (.astore_n 2, 1) := by decide +kernel
theorem dX2_removeAlarm_7 : decode cX2_removeAlarm 7 = .ok (.iload_n 1, 1) := by decide +kernel
theorem dX2_removeAlarm_8 : decode cX2_removeAlarm 8 = .ok (.istore_n 3, 1) := by decide +kernel
theorem dX2_removeAlarm_9 : decode cX2_removeAlarm 9 = .ok (.iload_n 3, 1) := by decide +kernel
theorem dX2_removeAlarm_10 : decode cX2_removeAlarm 10 = .ok (.iconst 1, 1) := by decide +kernel
theorem dX2_removeAlarm_11 : decode cX2_removeAlarm 11 = .ok (.iadd, 1) := by decide +kernel
theorem dX2_removeAlarm_12 : decode cX2_removeAlarm 12 = .ok (.aload_n 0, 1) := by decide +kernel
theorem dX2_removeAlarm_13 : decode cX2_removeAlarm 13 = .ok (.getfield 58, 3) := by decide +kernel
theorem dX2_removeAlarm_16 : decode cX2_removeAlarm 16 = .ok (.if_icmp .ge 23, 3) := by decide +kernel
theorem dX2_removeAlarm_19 : decode cX2_removeAlarm 19 = .ok (.aload_n 0, 1) := by decide +kernel
theorem dX2_removeAlarm_20 : decode cX2_removeAlarm 20 = .ok (.getfield 17, 3) := by decide +kernel
theorem dX2_removeAlarm_23 : decode cX2_removeAlarm 23 = .ok (.iload_n 3, 1) := by decide +kernel
theorem dX2_removeAlarm_24 : decode cX2_removeAlarm 24 = .ok (.aload_n 0, 1) := by decide +kernel
theorem dX2_removeAlarm_25 : decode cX2_removeAlarm 25 = .ok (.getfield 17, 3) := by decide +kernel
theorem dX2_removeAlarm_28 : decode cX2_removeAlarm 28 = .ok (.iload_n 3, 1) := by decide +kernel
theorem dX2_removeAlarm_29 : decode cX2_removeAlarm 29 = .ok (.iconst 1, 1) := by decide +kernel
theorem dX2_removeAlarm_30 : decode cX2_removeAlarm 30 = .ok (.iadd, 1) := by decide +kernel
theorem dX2_removeAlarm_31 : decode cX2_removeAlarm 31 = .ok (.aaload, 1) := by decide +kernel
theorem dX2_removeAlarm_32 : decode cX2_removeAlarm 32 = .ok (.aastore, 1) := by decide +kernel
theorem dX2_removeAlarm_33 : decode cX2_removeAlarm 33 = .ok (.iinc 3 1, 3) := by decide +kernel
theorem dX2_removeAlarm_36 : decode cX2_removeAlarm 36 = .ok (.goto (-27), 3) := by decide +kernel
theorem dX2_removeAlarm_39 : decode cX2_removeAlarm 39 = .ok (.aload_n 0, 1) := by decide +kernel
theorem dX2_removeAlarm_40 : decode cX2_removeAlarm 40 = .ok (.dup, 1) := by decide +kernel
theorem dX2_removeAlarm_41 : decode cX2_removeAlarm 41 = .ok (.getfield 58, 3) := by decide +kernel
theorem dX2_removeAlarm_44 : decode cX2_removeAlarm 44 = .ok (.iconst 1, 1) := by decide +kernel
theorem dX2_removeAlarm_45 : decode cX2_removeAlarm 45 = .ok (.isub, 1) := by decide +kernel
theorem dX2_removeAlarm_46 : decode cX2_removeAlarm 46 = .ok (.putfield 58, 3) := by decide +kernel
theorem dX2_removeAlarm_49 : decode cX2_removeAlarm 49 = .ok (.aload_n 0, 1) := by decide +kernel
theorem dX2_removeAlarm_50 : decode cX2_removeAlarm 50 = .ok (.getfield 17, 3) := by decide +kernel
theorem dX2_removeAlarm_53 : decode cX2_removeAlarm 53 = .ok (.aload_n 0, 1) := by decide +kernel
theorem dX2_removeAlarm_54 : decode cX2_removeAlarm 54 = .ok (.getfield 58, 3) := by decide +kernel
theorem dX2_removeAlarm_57 : decode cX2_removeAlarm 57 = .ok (.aload_n 2, 1) := by decide +kernel
theorem dX2_removeAlarm_58 : decode cX2_removeAlarm 58 = .ok (.aastore, 1) := by decide +kernel
theorem dX2_removeAlarm_59 : decode cX2_removeAlarm 59 = .ok (.return_, 1) := by decide +kernel
theorem dX2_alarmsWithoutComparer_0 : decode cX2_alarmsWithoutComparer 0 = .ok (.iconst 0, 1) := by decide +kernel
theorem dX2_alarmsWithoutComparer_1 : decode cX2_alarmsWithoutComparer 1 = .ok (.istore_n 1, 1) := by decide +kernel
theorem dX2_alarmsWithoutComparer_2 : decode cX2_alarmsWithoutComparer 2 = .ok (.iconst 0, 1) := by decide +kernel
theorem dX2_alarmsWithoutComparer_3 : decode cX2_alarmsWithoutComparer 3 = .ok (.istore_n 2, 1) := by decide +kernel
theorem dX2_alarmsWithoutComparer_4 : decode cX2_alarmsWithoutComparer 4 = .ok (.iload_n 2, 1) := by decide +kernel
theorem dX2_alarmsWithoutComparer_5 : decode cX2_alarmsWithoutComparer 5 = .ok (.aload_n 0, 1) := by decide +kernel
theorem dX2_alarmsWithoutComparer_6 : decode cX2_alarmsWithoutComparer 6 = .ok (.getfield 58, 3) := by decide +kernel
theorem dX2_alarmsWithoutComparer_9 : decode cX2_alarmsWithoutComparer 9 = .ok (.if_icmp .ge 27, 3) := by decide +kernel
theorem dX2_alarmsWithoutComparer_12 : decode cX2_alarmsWithoutComparer 12 = .ok (.aload_n 0, 1) := by decide +kernel
theorem dX2_alarmsWithoutComparer_13 : decode cX2_alarmsWithoutComparer 13 = .ok (.getfield 17, 3) := by decide +kernel
theorem dX2_alarmsWithoutComparer_16 : decode cX2_alarmsWithoutComparer 16 = .ok (.iload_n 2, 1) := by decide +kernel
theorem dX2_alarmsWithoutComparer_17 : decode cX2_alarmsWithoutComparer 17 = .ok (.aaload, 1) := by decide +kernel
theorem dX2_alarmsWithoutComparer_18 : decode cX2_alarmsWithoutComparer 18 = .ok (.getfield 115, 3) := by decide +kernel
theorem dX2_alarmsWithoutComparer_21 : decode cX2_alarmsWithoutComparer 21 = .ok (.sipush (-1005), 3) := by decide +kernel
theorem dX2_alarmsWithoutComparer_24 : decode cX2_alarmsWithoutComparer 24 = .ok (.if_icmp .ne 6, 3) := by decide +kernel
theorem dX2_alarmsWithoutComparer_27 : decode cX2_alarmsWithoutComparer 27 = .ok (.iinc 1 1, 3) := by decide +kernel
theorem dX2_alarmsWithoutComparer_30 : decode cX2_alarmsWithoutComparer 30 = .ok (.iinc 2 1, 3) := by decide +kernel
theorem dX2_alarmsWithoutComparer_33 : decode cX2_alarmsWithoutComparer 33 = .ok (.goto (-29), 3) := by decide +kernel
theorem dX2_alarmsWithoutComparer_36 : decode cX2_alarmsWithoutComparer 36 = .ok (.iload_n 1, 1) := by decide +kernel
theorem dX2_alarmsWithoutComparer_37 : decode cX2_alarmsWithoutComparer 37 = .ok (.ireturn, 1) := by decide +kernel
theorem dX2_tick_0 : decode cX2_tick 0 = .ok (.aload_n 0, 1) := by decide +kernel
theorem dX2_tick_1 : decode cX2_tick 1 = .ok (.dup, 1) := by decide +kernel
theorem dX2_tick_2 : decode cX2_tick 2 = .ok (.getfield 46, 3) := by decide +kernel
theorem dX2_tick_5 : decode cX2_tick 5 = .ok (.iconst 1, 1) := by decide +kernel
theorem dX2_tick_6 : decode cX2_tick 6 = .ok (.iadd, 1) := by decide +kernel
theorem dX2_tick_7 : decode cX2_tick 7 = .ok (.putfield 46, 3) := by decide +kernel
theorem dX2_tick_10 : decode cX2_tick 10 = .ok (.aload_n 0, 1) := by decide +kernel
theorem dX2_tick_11 : decode cX2_tick 11 = .ok (.dup, 1) := by decide +kernel
theorem dX2_tick_12 : decode cX2_tick 12 = .ok (.getfield 43, 3) := by decide +kernel
theorem dX2_tick_15 : decode cX2_tick 15 = .ok (.aload_n 0, 1) := by decide +kernel
theorem dX2_tick_16 : decode cX2_tick 16 = .ok (.invokevirtual 118, 3) := by decide +kernel
theorem dX2_tick_19 : decode cX2_tick 19 = .ok (.iadd, 1) := by decide +kernel
theorem dX2_tick_20 : decode cX2_tick 20 = .ok (.putfield 43, 3) := by decide +kernel
theorem dX2_tick_23 : decode cX2_tick 23 = .ok (.iconst 0, 1) := by decide +kernel
theorem dX2_tick_24 : decode cX2_tick 24 = .ok (.istore_n 1, 1) := by decide +kernel
theorem dX2_tick_25 : decode cX2_tick 25 = .ok (.iload_n 1, 1) := by decide +kernel
theorem dX2_tick_26 : decode cX2_tick 26 = .ok (.aload_n 0, 1) := by decide +kernel
theorem dX2_tick_27 : decode cX2_tick 27 = .ok (.getfield 9, 3) := by decide +kernel
theorem dX2_tick_30 : decode cX2_tick 30 = .ok (.if_icmp .ge 18, 3) := by decide +kernel
theorem dX2_tick_33 : decode cX2_tick 33 = .ok (.aload_n 0, 1) := by decide +kernel
theorem dX2_tick_34 : decode cX2_tick 34 = .ok (.getfield 24, 3) := by decide +kernel
theorem dX2_tick_37 : decode cX2_tick 37 = .ok (.iload_n 1, 1) := by decide +kernel
theorem dX2_tick_38 : decode cX2_tick 38 = .ok (.aaload, 1) := by decide +kernel
theorem dX2_tick_39 : decode cX2_tick 39 = .ok (.invokevirtual 122, 3) := by decide +kernel
theorem dX2_tick_42 : decode cX2_tick 42 = .ok (.iinc 1 1, 3) := by decide +kernel
theorem dX2_tick_45 : decode cX2_tick 45 = .ok (.goto (-20), 3) := by decide +kernel
theorem dX2_tick_48 : decode cX2_tick 48 = .ok (.iconst 0, 1) := by decide +kernel
theorem dX2_tick_49 : decode cX2_tick 49 = .ok (.istore_n 1, 1) := by decide +kernel
theorem dX2_tick_50 : decode cX2_tick 50 = .ok (.iconst 0, 1) := by decide +kernel
theorem dX2_tick_51 : decode cX2_tick 51 = .ok (.istore_n 2, 1) := by decide +kernel
theorem dX2_tick_52 : decode cX2_tick 52 = .ok (.iload_n 2, 1) := by decide +kernel
theorem dX2_tick_53 : decode cX2_tick 53 = .ok (.aload_n 0, 1) := by decide +kernel
theorem dX2_tick_54 : decode cX2_tick 54 = .ok (.getfield 9, 3) := by decide +kernel
theorem dX2_tick_57 : decode cX2_tick 57 = .ok (.if_icmp .ge 32, 3) := by decide +kernel
theorem dX2_tick_60 : decode cX2_tick 60 = .ok (.aload_n 0, 1) := by decide +kernel
theorem dX2_tick_61 : decode cX2_tick 61 = .ok (.getfield 24, 3) := by decide +kernel
theorem dX2_tick_64 : decode cX2_tick 64 = .ok (.iload_n 2, 1) := by decide +kernel
theorem dX2_tick_65 : decode cX2_tick 65 = .ok (.aaload, 1) := by decide +kernel
theorem dX2_tick_66 : decode cX2_tick 66 = .ok (.aload_n 0, 1) := by decide +kernel
theorem dX2_tick_67 : decode cX2_tick 67 = .ok (.getfield 43, 3) := by decide +kernel
theorem dX2_tick_70 : decode cX2_tick 70 = .ok (.invokevirtual 125, 3) := by decide +kernel
theorem dX2_tick_73 : decode cX2_tick 73 = .ok (.ifCond .eq 10, 3) := by decide +kernel
theorem dX2_tick_76 : decode cX2_tick 76 = .ok (.aload_n 0, 1) := by decide +kernel
theorem dX2_tick_77 : decode cX2_tick 77 = .ok (.iload_n 2, 1) := by decide +kernel
theorem dX2_tick_78 : decode cX2_tick 78 = .ok (.invokevirtual 128, 3) := by decide +kernel
theorem dX2_tick_81 : decode cX2_tick 81 = .ok (.iconst 1, 1) := by decide +kernel
theorem dX2_tick_82 : decode cX2_tick 82 = .ok (.istore_n 1, 1) := by decide +kernel
theorem dX2_tick_83 : decode cX2_tick 83 = .ok (.iinc 2 1, 3) := by decide +kernel
theorem dX2_tick_86 : decode cX2_tick 86 = .ok (.goto (-34), 3) := by decide +kernel
theorem dX2_tick_89 : decode cX2_tick 89 = .ok (.iload_n 1, 1) := by decide +kernel
theorem dX2_tick_90 : decode cX2_tick 90 = .ok (.ifCond .eq 7, 3) := by decide +kernel
theorem dX2_tick_93 : decode cX2_tick 93 = .ok (.aload_n 0, 1) := by decide +kernel
theorem dX2_tick_94 : decode cX2_tick 94 = .ok (.invokevirtual 98, 3) := by decide +kernel
theorem dX2_tick_97 : decode cX2_tick 97 = .ok (.return_, 1) := by decide +kernel
theorem dX2_growth_0 : decode cX2_growth 0 = .ok (.aload_n 0, 1) := by decide +kernel
theorem dX2_growth_1 : decode cX2_growth 1 = .ok (.getfield 49, 3) := by decide +kernel
theorem dX2_growth_4 : decode cX2_growth 4 = .ok (.ifCond .eq 15, 3) := by decide +kernel
theorem dX2_growth_7 : decode cX2_growth 7 = .ok (.aload_n 0, 1) := by decide +kernel
theorem dX2_growth_8 : decode cX2_growth 8 = .ok (.getfield 46, 3) := by decide +kernel
theorem dX2_growth_11 : decode cX2_growth 11 = .ok (.aload_n 0, 1) := by decide +kernel
theorem dX2_growth_12 : decode cX2_growth 12 = .ok (.getfield 49, 3) := by decide +kernel
theorem dX2_growth_15 : decode cX2_growth 15 = .ok (.irem, 1) := by decide +kernel
theorem dX2_growth_16 : decode cX2_growth 16 = .ok (.ifCond .eq 5, 3) := by decide +kernel
theorem dX2_growth_19 : decode cX2_growth 19 = .ok (.iconst 1, 1) := by decide +kernel
theorem dX2_growth_20 : decode cX2_growth 20 = .ok (.ireturn, 1) := by decide +kernel
theorem dX2_growth_21 : decode cX2_growth 21 = .ok (.aload_n 0, 1) := by decide +kernel
theorem dX2_growth_22 : decode cX2_growth 22 = .ok (.getfield 49, 3) := by decide +kernel
theorem dX2_growth_25 : decode cX2_growth 25 = .ok (.ifCond .le 7, 3) := by decide +kernel
theorem dX2_growth_28 : decode cX2_growth 28 = .ok (.iconst 2, 1) := by decide +kernel
theorem dX2_growth_29 : decode cX2_growth 29 = .ok (.goto 4, 3) := by decide +kernel
theorem dX2_growth_32 : decode cX2_growth 32 = .ok (.iconst 0, 1) := by decide +kernel
theorem dX2_growth_33 : decode cX2_growth 33 = .ok (.ireturn, 1) := by decide +kernel
theorem dX2_ringComparer_0 : decode cX2_ringComparer 0 = .ok (.iconst 0, 1) := by decide +kernel
theorem dX2_ringComparer_1 : decode cX2_ringComparer 1 = .ok (.istore_n 2, 1) := by decide +kernel
theorem dX2_ringComparer_2 : decode cX2_ringComparer 2 = .ok (.iload_n 2, 1) := by decide +kernel
theorem dX2_ringComparer_3 : decode cX2_ringComparer 3 = .ok (.aload_n 0, 1) := by decide +kernel
theorem dX2_ringComparer_4 : decode cX2_ringComparer 4 = .ok (.getfield 58, 3) := by decide +kernel
theorem dX2_ringComparer_7 : decode cX2_ringComparer 7 = .ok (.if_icmp .ge 33, 3) := by decide +kernel
theorem dX2_ringComparer_10 : decode cX2_ringComparer 10 = .ok (.aload_n 0, 1) := by decide +kernel
theorem dX2_ringComparer_11 : decode cX2_ringComparer 11 = .ok (.getfield 17, 3) := by decide +kernel
theorem dX2_ringComparer_14 : decode cX2_ringComparer 14 = .ok (.iload_n 2, 1) := by decide +kernel
theorem dX2_ringComparer_15 : decode cX2_ringComparer 15 = .ok (.aaload, 1) := by decide +kernel
theorem dX2_ringComparer_16 : decode cX2_ringComparer 16 = .ok (.getfield 115, 3) := by decide +kernel
theorem dX2_ringComparer_19 : decode cX2_ringComparer 19 = .ok (.iload_n 1, 1) := by decide +kernel
theorem dX2_ringComparer_20 : decode cX2_ringComparer 20 = .ok (.if_icmp .ne 14, 3) := by decide +kernel
theorem dX2_ringComparer_23 : decode cX2_ringComparer 23 = .ok (.aload_n 0, 1) := by decide +kernel
theorem dX2_ringComparer_24 : decode cX2_ringComparer 24 = .ok (.aload_n 0, 1) := by decide +kernel
theorem dX2_ringComparer_25 : decode cX2_ringComparer 25 = .ok (.getfield 17, 3) := by decide +kernel
theorem dX2_ringComparer_28 : decode cX2_ringComparer 28 = .ok (.iload_n 2, 1) := by decide +kernel
theorem dX2_ringComparer_29 : decode cX2_ringComparer 29 = .ok (.aaload, 1) := by decide +kernel
theorem dX2_ringComparer_30 : decode cX2_ringComparer 30 = .ok (.iload_n 1, 1) := by decide +kernel
theorem dX2_ringComparer_31 : decode cX2_ringComparer 31 = .ok (.invokevirtual 131, 3) := by decide +kernel
theorem dX2_ringComparer_34 : decode cX2_ringComparer 34 = .ok (.iinc 2 1, 3) := by decide +kernel
theorem dX2_ringComparer_37 : decode cX2_ringComparer 37 = .ok (.goto (-35), 3) := by decide +kernel
theorem dX2_ringComparer_40 : decode cX2_ringComparer 40 = .ok (.aload_n 0, 1) := by decide +kernel
theorem dX2_ringComparer_41 : decode cX2_ringComparer 41 = .ok (.getfield 24, 3) := by decide +kernel
theorem dX2_ringComparer_44 : decode cX2_ringComparer 44 = .ok (.iload_n 1, 1) := by decide +kernel
theorem dX2_ringComparer_45 : decode cX2_ringComparer 45 = .ok (.aaload, 1) := by decide +kernel
theorem dX2_ringComparer_46 : decode cX2_ringComparer 46 = .ok (.invokevirtual 135, 3) := by decide +kernel
theorem dX2_ringComparer_49 : decode cX2_ringComparer 49 = .ok (.aload_n 0, 1) := by decide +kernel
theorem dX2_ringComparer_50 : decode cX2_ringComparer 50 = .ok (.getfield 58, 3) := by decide +kernel
theorem dX2_ringComparer_53 : decode cX2_ringComparer 53 = .ok (.iconst 1, 1) := by decide +kernel
theorem dX2_ringComparer_54 : decode cX2_ringComparer 54 = .ok (.isub, 1) := by decide +kernel
theorem dX2_ringComparer_55 : decode cX2_ringComparer 55 = .ok (.istore_n 2, 1) := by decide +kernel
theorem dX2_ringComparer_56 : decode cX2_ringComparer 56 = .ok (.iload_n 2, 1) := by decide +kernel
theorem dX2_ringComparer_57 : decode cX2_ringComparer 57 = .ok (.ifCond .lt 26, 3) := by decide +kernel
theorem dX2_ringComparer_60 : decode cX2_ringComparer 60 = .ok (.aload_n 0, 1) := by decide +kernel
theorem dX2_ringComparer_61 : decode cX2_ringComparer 61 = .ok (.getfield 17, 3) := by decide +kernel
theorem dX2_ringComparer_64 : decode cX2_ringComparer 64 = .ok (.iload_n 2, 1) := by decide +kernel
theorem dX2_ringComparer_65 : decode cX2_ringComparer 65 = .ok (.aaload, 1) := by decide +kernel
theorem dX2_ringComparer_66 : decode cX2_ringComparer 66 = .ok (.getfield 138, 3) := by decide +kernel
theorem dX2_ringComparer_69 : decode cX2_ringComparer 69 = .ok (.ifCond .eq 8, 3) := by decide +kernel
theorem dX2_ringComparer_72 : decode cX2_ringComparer 72 = .ok (.aload_n 0, 1) := by decide +kernel
theorem dX2_ringComparer_73 : decode cX2_ringComparer 73 = .ok (.iload_n 2, 1) := by decide +kernel
theorem dX2_ringComparer_74 : decode cX2_ringComparer 74 = .ok (.invokevirtual 104, 3) := by decide +kernel
theorem dX2_ringComparer_77 : decode cX2_ringComparer 77 = .ok (.iinc 2 (-1), 3) := by decide +kernel
theorem dX2_ringComparer_80 : decode cX2_ringComparer 80 = .ok (.goto (-24), 3) := by decide +kernel
theorem dX2_ringComparer_83 : decode cX2_ringComparer 83 = .ok (.aload_n 0, 1) := by decide +kernel
theorem dX2_ringComparer_84 : decode cX2_ringComparer 84 = .ok (.invokevirtual 95, 3) := by decide +kernel
theorem dX2_ringComparer_87 : decode cX2_ringComparer 87 = .ok (.return_, 1) := by decide +kernel
theorem dX2_ringAlarm_0 : decode cX2_ringAlarm 0 = .ok (.aload_n 0, 1) := by decide +kernel
theorem dX2_ringAlarm_1 : decode cX2_ringAlarm 1 = .ok (.getfield 43, 3) := by decide +kernel
theorem dX2_ringAlarm_4 : decode cX2_ringAlarm 4 = .ok (.aload_n 1, 1) := by decide +kernel
theorem dX2_ringAlarm_5 : decode cX2_ringAlarm 5 = .ok (.getfield 108, 3) := by decide +kernel
theorem dX2_ringAlarm_8 : decode cX2_ringAlarm 8 = .ok (.isub, 1) := by decide +kernel
theorem dX2_ringAlarm_9 : decode cX2_ringAlarm 9 = .ok (.istore_n 3, 1) := by decide +kernel
theorem dX2_ringAlarm_10 : decode cX2_ringAlarm 10 = .ok (.aload_n 0, 1) := by decide +kernel
theorem dX2_ringAlarm_11 : decode cX2_ringAlarm 11 = .ok (.getfield 39, 3) := by decide +kernel
theorem dX2_ringAlarm_14 : decode cX2_ringAlarm 14 = .ok (.aload_n 1, 1) := by decide +kernel
theorem dX2_ringAlarm_15 : decode cX2_ringAlarm 15 = .ok (.getfield 77, 3) := by decide +kernel
theorem dX2_ringAlarm_18 : decode cX2_ringAlarm 18 = .ok (.aload_n 0, 1) := by decide +kernel
theorem dX2_ringAlarm_19 : decode cX2_ringAlarm 19 = .ok (.getfield 43, 3) := by decide +kernel
theorem dX2_ringAlarm_22 : decode cX2_ringAlarm 22 = .ok (.iload_n 3, 1) := by decide +kernel
theorem dX2_ringAlarm_23 : decode cX2_ringAlarm 23 = .ok (.iload_n 2, 1) := by decide +kernel
theorem dX2_ringAlarm_24 : decode cX2_ringAlarm 24 = .ok (.invokevirtual 142, 3) := by decide +kernel
theorem dX2_ringAlarm_27 : decode cX2_ringAlarm 27 = .ok (.aload_n 0, 1) := by decide +kernel
theorem dX2_ringAlarm_28 : decode cX2_ringAlarm 28 = .ok (.getfield 32, 3) := by decide +kernel
theorem dX2_ringAlarm_31 : decode cX2_ringAlarm 31 = .ok (.iload_n 3, 1) := by decide +kernel
theorem dX2_ringAlarm_32 : decode cX2_ringAlarm 32 = .ok (.invokevirtual 145, 3) := by decide +kernel
theorem dX2_ringAlarm_35 : decode cX2_ringAlarm 35 = .ok (.aload_n 1, 1) := by decide +kernel
theorem dX2_ringAlarm_36 : decode cX2_ringAlarm 36 = .ok (.iload_n 3, 1) := by decide +kernel
theorem dX2_ringAlarm_37 : decode cX2_ringAlarm 37 = .ok (.invokevirtual 148, 3) := by decide +kernel
theorem dX2_ringAlarm_40 : decode cX2_ringAlarm 40 = .ok (.aload_n 0, 1) := by decide +kernel
theorem dX2_ringAlarm_41 : decode cX2_ringAlarm 41 = .ok (.getfield 32, 3) := by decide +kernel
theorem dX2_ringAlarm_44 : decode cX2_ringAlarm 44 = .ok (.dup, 1) := by decide +kernel
theorem dX2_ringAlarm_45 : decode cX2_ringAlarm 45 = .ok (.getfield 149, 3) := by decide +kernel
theorem dX2_ringAlarm_48 : decode cX2_ringAlarm 48 = .ok (.aload_n 1, 1) := by decide +kernel
theorem dX2_ringAlarm_49 : decode cX2_ringAlarm 49 = .ok (.iload_n 3, 1) := by decide +kernel
theorem dX2_ringAlarm_50 : decode cX2_ringAlarm 50 = .ok (.invokevirtual 152, 3) := by decide +kernel
theorem dX2_ringAlarm_53 : decode cX2_ringAlarm 53 = .ok (.iadd, 1) := by decide +kernel
theorem dX2_ringAlarm_54 : decode cX2_ringAlarm 54 = .ok (.putfield 149, 3) := by decide +kernel
theorem dX2_ringAlarm_57 : decode cX2_ringAlarm 57 = .ok (.return_, 1) := by decide +kernel
theorem dX2_changeComparers_0 : decode cX2_changeComparers 0 = .ok (.iload_n 1, 1) := by decide +kernel
theorem dX2_changeComparers_1 : decode cX2_changeComparers 1 = .ok (.istore_n 2, 1) := by decide +kernel
theorem dX2_changeComparers_2 : decode cX2_changeComparers 2 = .ok (.iload_n 2, 1) := by decide +kernel
theorem dX2_changeComparers_3 : decode cX2_changeComparers 3 = .ok (.aload_n 0, 1) := by decide +kernel
theorem dX2_changeComparers_4 : decode cX2_changeComparers 4 = .ok (.getfield 9, 3) := by decide +kernel
theorem dX2_changeComparers_7 : decode cX2_changeComparers 7 = .ok (.if_icmp .ge 14, 3) := by decide +kernel
theorem dX2_changeComparers_10 : decode cX2_changeComparers 10 = .ok (.aload_n 0, 1) := by decide +kernel
theorem dX2_changeComparers_11 : decode cX2_changeComparers 11 = .ok (.iload_n 2, 1) := by decide +kernel
theorem dX2_changeComparers_12 : decode cX2_changeComparers 12 = .ok (.invokevirtual 155, 3) := by decide +kernel
theorem dX2_changeComparers_15 : decode cX2_changeComparers 15 = .ok (.iinc 2 1, 3) := by decide +kernel
theorem dX2_changeComparers_18 : decode cX2_changeComparers 18 = .ok (.goto (-16), 3) := by decide +kernel
theorem dX2_changeComparers_21 : decode cX2_changeComparers 21 = .ok (.aload_n 0, 1) := by decide +kernel
theorem dX2_changeComparers_22 : decode cX2_changeComparers 22 = .ok (.iload_n 1, 1) := by decide +kernel
theorem dX2_changeComparers_23 : decode cX2_changeComparers 23 = .ok (.putfield 9, 3) := by decide +kernel
theorem dX2_changeComparers_26 : decode cX2_changeComparers 26 = .ok (.aload_n 0, 1) := by decide +kernel
theorem dX2_changeComparers_27 : decode cX2_changeComparers 27 = .ok (.invokevirtual 98, 3) := by decide +kernel
theorem dX2_changeComparers_30 : decode cX2_changeComparers 30 = .ok (.return_, 1) := by decide +kernel
theorem dX2_sendOffSharers_0 : decode cX2_sendOffSharers 0 = .ok (.iconst 0, 1) := by decide +kernel
theorem dX2_sendOffSharers_1 : decode cX2_sendOffSharers 1 = .ok (.istore_n 2, 1) := by decide +kernel
theorem dX2_sendOffSharers_2 : decode cX2_sendOffSharers 2 = .ok (.iload_n 2, 1) := by decide +kernel
theorem dX2_sendOffSharers_3 : decode cX2_sendOffSharers 3 = .ok (.aload_n 0, 1) := by decide +kernel
theorem dX2_sendOffSharers_4 : decode cX2_sendOffSharers 4 = .ok (.getfield 58, 3) := by decide +kernel
theorem dX2_sendOffSharers_7 : decode cX2_sendOffSharers 7 = .ok (.if_icmp .ge 34, 3) := by decide +kernel
theorem dX2_sendOffSharers_10 : decode cX2_sendOffSharers 10 = .ok (.aload_n 0, 1) := by decide +kernel
theorem dX2_sendOffSharers_11 : decode cX2_sendOffSharers 11 = .ok (.getfield 17, 3) := by decide +kernel
theorem dX2_sendOffSharers_14 : decode cX2_sendOffSharers 14 = .ok (.iload_n 2, 1) := by decide +kernel
theorem dX2_sendOffSharers_15 : decode cX2_sendOffSharers 15 = .ok (.aaload, 1) := by decide +kernel
theorem dX2_sendOffSharers_16 : decode cX2_sendOffSharers 16 = .ok (.getfield 115, 3) := by decide +kernel
theorem dX2_sendOffSharers_19 : decode cX2_sendOffSharers 19 = .ok (.iload_n 1, 1) := by decide +kernel
theorem dX2_sendOffSharers_20 : decode cX2_sendOffSharers 20 = .ok (.if_icmp .ne 15, 3) := by decide +kernel
theorem dX2_sendOffSharers_23 : decode cX2_sendOffSharers 23 = .ok (.aload_n 0, 1) := by decide +kernel
theorem dX2_sendOffSharers_24 : decode cX2_sendOffSharers 24 = .ok (.getfield 17, 3) := by decide +kernel
theorem dX2_sendOffSharers_27 : decode cX2_sendOffSharers 27 = .ok (.iload_n 2, 1) := by decide +kernel
theorem dX2_sendOffSharers_28 : decode cX2_sendOffSharers 28 = .ok (.aaload, 1) := by decide +kernel
theorem dX2_sendOffSharers_29 : decode cX2_sendOffSharers 29 = .ok (.sipush (-1005), 3) := by decide +kernel
theorem dX2_sendOffSharers_32 : decode cX2_sendOffSharers 32 = .ok (.putfield 115, 3) := by decide +kernel
theorem dX2_sendOffSharers_35 : decode cX2_sendOffSharers 35 = .ok (.iinc 2 1, 3) := by decide +kernel
theorem dX2_sendOffSharers_38 : decode cX2_sendOffSharers 38 = .ok (.goto (-36), 3) := by decide +kernel
theorem dX2_sendOffSharers_41 : decode cX2_sendOffSharers 41 = .ok (.aload_n 0, 1) := by decide +kernel
theorem dX2_sendOffSharers_42 : decode cX2_sendOffSharers 42 = .ok (.getfield 24, 3) := by decide +kernel
theorem dX2_sendOffSharers_45 : decode cX2_sendOffSharers 45 = .ok (.iload_n 1, 1) := by decide +kernel
theorem dX2_sendOffSharers_46 : decode cX2_sendOffSharers 46 = .ok (.aaload, 1) := by decide +kernel
theorem dX2_sendOffSharers_47 : decode cX2_sendOffSharers 47 = .ok (.invokevirtual 135, 3) := by decide +kernel
theorem dX2_sendOffSharers_50 : decode cX2_sendOffSharers 50 = .ok (.return_, 1) := by decide +kernel
theorem dX2_takeOff_0 : decode cX2_takeOff 0 = .ok (.aload_n 1, 1) := by decide +kernel
theorem dX2_takeOff_1 : decode cX2_takeOff 1 = .ok (.getfield 115, 3) := by decide +kernel
theorem dX2_takeOff_4 : decode cX2_takeOff 4 = .ok (.istore_n 2, 1) := by decide +kernel
theorem dX2_takeOff_5 : decode cX2_takeOff 5 = .ok (.iload_n 2, 1) := by decide +kernel
theorem dX2_takeOff_6 : decode cX2_takeOff 6 = .ok (.ifCond .lt 8, 3) := by decide +kernel
theorem dX2_takeOff_9 : decode cX2_takeOff 9 = .ok (.iload_n 2, 1) := by decide +kernel
theorem dX2_takeOff_10 : decode cX2_takeOff 10 = .ok (.iconst 4, 1) := by decide +kernel
theorem dX2_takeOff_11 : decode cX2_takeOff 11 = .ok (.if_icmp .lt 4, 3) := by decide +kernel
theorem dX2_takeOff_14 : decode cX2_takeOff 14 = .ok (.return_, 1) := by decide +kernel
theorem dX2_takeOff_15 : decode cX2_takeOff 15 = .ok (.aload_n 1, 1) := by decide +kernel
theorem dX2_takeOff_16 : decode cX2_takeOff 16 = .ok (.sipush (-1005), 3) := by decide +kernel
theorem dX2_takeOff_19 : decode cX2_takeOff 19 = .ok (.putfield 115, 3) := by decide +kernel
theorem dX2_takeOff_22 : decode cX2_takeOff 22 = .ok (.aload_n 0, 1) := by decide +kernel
theorem dX2_takeOff_23 : decode cX2_takeOff 23 = .ok (.getfield 24, 3) := by decide +kernel
theorem dX2_takeOff_26 : decode cX2_takeOff 26 = .ok (.iload_n 2, 1) := by decide +kernel
theorem dX2_takeOff_27 : decode cX2_takeOff 27 = .ok (.aaload, 1) := by decide +kernel
theorem dX2_takeOff_28 : decode cX2_takeOff 28 = .ok (.getfield 158, 3) := by decide +kernel
theorem dX2_takeOff_31 : decode cX2_takeOff 31 = .ok (.istore_n 3, 1) := by decide +kernel
theorem dX2_takeOff_32 : decode cX2_takeOff 32 = .ok (.aload_n 0, 1) := by decide +kernel
theorem dX2_takeOff_33 : decode cX2_takeOff 33 = .ok (.getfield 24, 3) := by decide +kernel
theorem dX2_takeOff_36 : decode cX2_takeOff 36 = .ok (.iload_n 2, 1) := by decide +kernel
theorem dX2_takeOff_37 : decode cX2_takeOff 37 = .ok (.aaload, 1) := by decide +kernel
theorem dX2_takeOff_38 : decode cX2_takeOff 38 = .ok (.invokevirtual 135, 3) := by decide +kernel
theorem dX2_takeOff_41 : decode cX2_takeOff 41 = .ok (.iconst 0, 1) := by decide +kernel
theorem dX2_takeOff_42 : decode cX2_takeOff 42 = .ok (.istore 4, 2) := by decide +kernel
theorem dX2_takeOff_44 : decode cX2_takeOff 44 = .ok (.iload 4, 2) := by decide +kernel
theorem dX2_takeOff_46 : decode cX2_takeOff 46 = .ok (.aload_n 0, 1) := by decide +kernel
theorem dX2_takeOff_47 : decode cX2_takeOff 47 = .ok (.getfield 58, 3) := by decide +kernel
theorem dX2_takeOff_50 : decode cX2_takeOff 50 = .ok (.if_icmp .ge 52, 3) := by decide +kernel
theorem dX2_takeOff_53 : decode cX2_takeOff 53 = .ok (.aload_n 0, 1) := by decide +kernel
theorem dX2_takeOff_54 : decode cX2_takeOff 54 = .ok (.getfield 17, 3) := by decide +kernel
theorem dX2_takeOff_57 : decode cX2_takeOff 57 = .ok (.iload 4, 2) := by decide +kernel
theorem dX2_takeOff_59 : decode cX2_takeOff 59 = .ok (.aaload, 1) := by decide +kernel
theorem dX2_takeOff_60 : decode cX2_takeOff 60 = .ok (.getfield 115, 3) := by decide +kernel
theorem dX2_takeOff_63 : decode cX2_takeOff 63 = .ok (.iload_n 2, 1) := by decide +kernel
theorem dX2_takeOff_64 : decode cX2_takeOff 64 = .ok (.if_icmp .ne 32, 3) := by decide +kernel
theorem dX2_takeOff_67 : decode cX2_takeOff 67 = .ok (.aload_n 0, 1) := by decide +kernel
theorem dX2_takeOff_68 : decode cX2_takeOff 68 = .ok (.getfield 24, 3) := by decide +kernel
theorem dX2_takeOff_71 : decode cX2_takeOff 71 = .ok (.iload_n 2, 1) := by decide +kernel
theorem dX2_takeOff_72 : decode cX2_takeOff 72 = .ok (.aaload, 1) := by decide +kernel
theorem dX2_takeOff_73 : decode cX2_takeOff 73 = .ok (.aload_n 0, 1) := by decide +kernel
theorem dX2_takeOff_74 : decode cX2_takeOff 74 = .ok (.getfield 17, 3) := by decide +kernel
theorem dX2_takeOff_77 : decode cX2_takeOff 77 = .ok (.iload 4, 2) := by decide +kernel
theorem dX2_takeOff_79 : decode cX2_takeOff 79 = .ok (.aaload, 1) := by decide +kernel
theorem dX2_takeOff_80 : decode cX2_takeOff 80 = .ok (.getfield 108, 3) := by decide +kernel
theorem dX2_takeOff_83 : decode cX2_takeOff 83 = .ok (.invokevirtual 161, 3) := by decide +kernel
theorem dX2_takeOff_86 : decode cX2_takeOff 86 = .ok (.aload_n 0, 1) := by decide +kernel
theorem dX2_takeOff_87 : decode cX2_takeOff 87 = .ok (.getfield 24, 3) := by decide +kernel
theorem dX2_takeOff_90 : decode cX2_takeOff 90 = .ok (.iload_n 2, 1) := by decide +kernel
theorem dX2_takeOff_91 : decode cX2_takeOff 91 = .ok (.aaload, 1) := by decide +kernel
theorem dX2_takeOff_92 : decode cX2_takeOff 92 = .ok (.iload_n 3, 1) := by decide +kernel
theorem dX2_takeOff_93 : decode cX2_takeOff 93 = .ok (.putfield 158, 3) := by decide +kernel
theorem dX2_takeOff_96 : decode cX2_takeOff 96 = .ok (.iinc 4 1, 3) := by decide +kernel
theorem dX2_takeOff_99 : decode cX2_takeOff 99 = .ok (.goto (-55), 3) := by decide +kernel
theorem dX2_takeOff_102 : decode cX2_takeOff 102 = .ok (.return_, 1) := by decide +kernel
theorem dX2_freeComparers_0 : decode cX2_freeComparers 0 = .ok (.iconst 0, 1) := by decide +kernel
theorem dX2_freeComparers_1 : decode cX2_freeComparers 1 = .ok (.istore_n 1, 1) := by decide +kernel
theorem dX2_freeComparers_2 : decode cX2_freeComparers 2 = .ok (.iconst 0, 1) := by decide +kernel
theorem dX2_freeComparers_3 : decode cX2_freeComparers 3 = .ok (.istore_n 2, 1) := by decide +kernel
theorem dX2_freeComparers_4 : decode cX2_freeComparers 4 = .ok (.iload_n 2, 1) := by decide +kernel
theorem dX2_freeComparers_5 : decode cX2_freeComparers 5 = .ok (.aload_n 0, 1) := by decide +kernel
theorem dX2_freeComparers_6 : decode cX2_freeComparers 6 = .ok (.getfield 9, 3) := by decide +kernel
theorem dX2_freeComparers_9 : decode cX2_freeComparers 9 = .ok (.if_icmp .ge 24, 3) := by decide +kernel
theorem dX2_freeComparers_12 : decode cX2_freeComparers 12 = .ok (.aload_n 0, 1) := by decide +kernel
theorem dX2_freeComparers_13 : decode cX2_freeComparers 13 = .ok (.getfield 24, 3) := by decide +kernel
theorem dX2_freeComparers_16 : decode cX2_freeComparers 16 = .ok (.iload_n 2, 1) := by decide +kernel
theorem dX2_freeComparers_17 : decode cX2_freeComparers 17 = .ok (.aaload, 1) := by decide +kernel
theorem dX2_freeComparers_18 : decode cX2_freeComparers 18 = .ok (.invokevirtual 164, 3) := by decide +kernel
theorem dX2_freeComparers_21 : decode cX2_freeComparers 21 = .ok (.ifCond .eq 6, 3) := by decide +kernel
theorem dX2_freeComparers_24 : decode cX2_freeComparers 24 = .ok (.iinc 1 1, 3) := by decide +kernel
theorem dX2_freeComparers_27 : decode cX2_freeComparers 27 = .ok (.iinc 2 1, 3) := by decide +kernel
theorem dX2_freeComparers_30 : decode cX2_freeComparers 30 = .ok (.goto (-26), 3) := by decide +kernel
theorem dX2_freeComparers_33 : decode cX2_freeComparers 33 = .ok (.iload_n 1, 1) := by decide +kernel
theorem dX2_freeComparers_34 : decode cX2_freeComparers 34 = .ok (.ireturn, 1) := by decide +kernel
theorem dX2_firstSharerOf_0 : decode cX2_firstSharerOf 0 = .ok (.iconst 0, 1) := by decide +kernel
theorem dX2_firstSharerOf_1 : decode cX2_firstSharerOf 1 = .ok (.istore_n 2, 1) := by decide +kernel
theorem dX2_firstSharerOf_2 : decode cX2_firstSharerOf 2 = .ok (.iload_n 2, 1) := by decide +kernel
theorem dX2_firstSharerOf_3 : decode cX2_firstSharerOf 3 = .ok (.aload_n 0, 1) := by decide +kernel
theorem dX2_firstSharerOf_4 : decode cX2_firstSharerOf 4 = .ok (.getfield 58, 3) := by decide +kernel
theorem dX2_firstSharerOf_7 : decode cX2_firstSharerOf 7 = .ok (.if_icmp .ge 32, 3) := by decide +kernel
theorem dX2_firstSharerOf_10 : decode cX2_firstSharerOf 10 = .ok (.aload_n 0, 1) := by decide +kernel
theorem dX2_firstSharerOf_11 : decode cX2_firstSharerOf 11 = .ok (.getfield 17, 3) := by decide +kernel
theorem dX2_firstSharerOf_14 : decode cX2_firstSharerOf 14 = .ok (.iload_n 2, 1) := by decide +kernel
theorem dX2_firstSharerOf_15 : decode cX2_firstSharerOf 15 = .ok (.aaload, 1) := by decide +kernel
theorem dX2_firstSharerOf_16 : decode cX2_firstSharerOf 16 = .ok (.getfield 115, 3) := by decide +kernel
theorem dX2_firstSharerOf_19 : decode cX2_firstSharerOf 19 = .ok (.iload_n 1, 1) := by decide +kernel
theorem dX2_firstSharerOf_20 : decode cX2_firstSharerOf 20 = .ok (.if_icmp .ne 13, 3) := by decide +kernel
theorem dX2_firstSharerOf_23 : decode cX2_firstSharerOf 23 = .ok (.aload_n 0, 1) := by decide +kernel
theorem dX2_firstSharerOf_24 : decode cX2_firstSharerOf 24 = .ok (.getfield 17, 3) := by decide +kernel
theorem dX2_firstSharerOf_27 : decode cX2_firstSharerOf 27 = .ok (.iload_n 2, 1) := by decide +kernel
theorem dX2_firstSharerOf_28 : decode cX2_firstSharerOf 28 = .ok (.aaload, 1) := by decide +kernel
theorem dX2_firstSharerOf_29 : decode cX2_firstSharerOf 29 = .ok (.getfield 77, 3) := by decide +kernel
theorem dX2_firstSharerOf_32 : decode cX2_firstSharerOf 32 = .ok (.ireturn, 1) := by decide +kernel
theorem dX2_firstSharerOf_33 : decode cX2_firstSharerOf 33 = .ok (.iinc 2 1, 3) := by decide +kernel
theorem dX2_firstSharerOf_36 : decode cX2_firstSharerOf 36 = .ok (.goto (-34), 3) := by decide +kernel
theorem dX2_firstSharerOf_39 : decode cX2_firstSharerOf 39 = .ok (.sipush (-1005), 3) := by decide +kernel
theorem dX2_firstSharerOf_42 : decode cX2_firstSharerOf 42 = .ok (.ireturn, 1) := by decide +kernel
theorem dX2_shareOut_0 : decode cX2_shareOut 0 = .ok (.iconst 0, 1) := by decide +kernel
theorem dX2_shareOut_1 : decode cX2_shareOut 1 = .ok (.istore_n 1, 1) := by decide +kernel
theorem dX2_shareOut_2 : decode cX2_shareOut 2 = .ok (.iload_n 1, 1) := by decide +kernel
theorem dX2_shareOut_3 : decode cX2_shareOut 3 = .ok (.ldc 168, 2) := by decide +kernel
theorem dX2_shareOut_5 : decode cX2_shareOut 5 = .ok (.if_icmp .ge 33, 3) := by decide +kernel
theorem dX2_shareOut_8 : decode cX2_shareOut 8 = .ok (.aload_n 0, 1) := by decide +kernel
theorem dX2_shareOut_9 : decode cX2_shareOut 9 = .ok (.invokevirtual 169, 3) := by decide +kernel
theorem dX2_shareOut_12 : decode cX2_shareOut 12 = .ok (.istore_n 2, 1) := by decide +kernel
theorem dX2_shareOut_13 : decode cX2_shareOut 13 = .ok (.iload_n 2, 1) := by decide +kernel
theorem dX2_shareOut_14 : decode cX2_shareOut 14 = .ok (.iconst (-1), 1) := by decide +kernel
theorem dX2_shareOut_15 : decode cX2_shareOut 15 = .ok (.if_icmp .eq 16, 3) := by decide +kernel
theorem dX2_shareOut_18 : decode cX2_shareOut 18 = .ok (.aload_n 0, 1) := by decide +kernel
theorem dX2_shareOut_19 : decode cX2_shareOut 19 = .ok (.aload_n 0, 1) := by decide +kernel
theorem dX2_shareOut_20 : decode cX2_shareOut 20 = .ok (.getfield 17, 3) := by decide +kernel
theorem dX2_shareOut_23 : decode cX2_shareOut 23 = .ok (.iload_n 2, 1) := by decide +kernel
theorem dX2_shareOut_24 : decode cX2_shareOut 24 = .ok (.aaload, 1) := by decide +kernel
theorem dX2_shareOut_25 : decode cX2_shareOut 25 = .ok (.invokevirtual 172, 3) := by decide +kernel
theorem dX2_shareOut_28 : decode cX2_shareOut 28 = .ok (.ifCond .ne 4, 3) := by decide +kernel
theorem dX2_shareOut_31 : decode cX2_shareOut 31 = .ok (.return_, 1) := by decide +kernel
theorem dX2_shareOut_32 : decode cX2_shareOut 32 = .ok (.iinc 1 1, 3) := by decide +kernel
theorem dX2_shareOut_35 : decode cX2_shareOut 35 = .ok (.goto (-33), 3) := by decide +kernel
theorem dX2_shareOut_38 : decode cX2_shareOut 38 = .ok (.return_, 1) := by decide +kernel
theorem dX2_firstWithoutComparer_0 : decode cX2_firstWithoutComparer 0 = .ok (.iconst 0, 1) := by decide +kernel
theorem dX2_firstWithoutComparer_1 : decode cX2_firstWithoutComparer 1 = .ok (.istore_n 1, 1) := by decide +kernel
theorem dX2_firstWithoutComparer_2 : decode cX2_firstWithoutComparer 2 = .ok (.iload_n 1, 1) := by decide +kernel
theorem dX2_firstWithoutComparer_3 : decode cX2_firstWithoutComparer 3 = .ok (.aload_n 0, 1) := by decide +kernel
theorem dX2_firstWithoutComparer_4 : decode cX2_firstWithoutComparer 4 = .ok (.getfield 58, 3) := by decide +kernel
theorem dX2_firstWithoutComparer_7 : decode cX2_firstWithoutComparer 7 = .ok (.if_icmp .ge 26, 3) := by decide +kernel
theorem dX2_firstWithoutComparer_10 : decode cX2_firstWithoutComparer 10 = .ok (.aload_n 0, 1) := by decide +kernel
theorem dX2_firstWithoutComparer_11 : decode cX2_firstWithoutComparer 11 = .ok (.getfield 17, 3) := by decide +kernel
theorem dX2_firstWithoutComparer_14 : decode cX2_firstWithoutComparer 14 = .ok (.iload_n 1, 1) := by decide +kernel
theorem dX2_firstWithoutComparer_15 : decode cX2_firstWithoutComparer 15 = .ok (.aaload, 1) := by decide +kernel
theorem dX2_firstWithoutComparer_16 : decode cX2_firstWithoutComparer 16 = .ok (.getfield 115, 3) := by decide +kernel
theorem dX2_firstWithoutComparer_19 : decode cX2_firstWithoutComparer 19 = .ok (.sipush (-1005), 3) := by decide +kernel
theorem dX2_firstWithoutComparer_22 : decode cX2_firstWithoutComparer 22 = .ok (.if_icmp .ne 5, 3) := by decide +kernel
theorem dX2_firstWithoutComparer_25 : decode cX2_firstWithoutComparer 25 = .ok (.iload_n 1, 1) := by decide +kernel
theorem dX2_firstWithoutComparer_26 : decode cX2_firstWithoutComparer 26 = .ok (.ireturn, 1) := by decide +kernel
theorem dX2_firstWithoutComparer_27 : decode cX2_firstWithoutComparer 27 = .ok (.iinc 1 1, 3) := by decide +kernel
theorem dX2_firstWithoutComparer_30 : decode cX2_firstWithoutComparer 30 = .ok (.goto (-28), 3) := by decide +kernel
theorem dX2_firstWithoutComparer_33 : decode cX2_firstWithoutComparer 33 = .ok (.iconst (-1), 1) := by decide +kernel
theorem dX2_firstWithoutComparer_34 : decode cX2_firstWithoutComparer 34 = .ok (.ireturn, 1) := by decide +kernel
theorem dX2_findComparerFor_0 : decode cX2_findComparerFor 0 = .ok (.aload_n 0, 1) := by decide +kernel
theorem dX2_findComparerFor_1 : decode cX2_findComparerFor 1 = .ok (.aload_n 1, 1) := by decide +kernel
theorem dX2_findComparerFor_2 : decode cX2_findComparerFor 2 = .ok (.getfield 108, 3) := by decide +kernel
theorem dX2_findComparerFor_5 : decode cX2_findComparerFor 5 = .ok (.invokevirtual 175, 3) := by decide +kernel
theorem dX2_findComparerFor_8 : decode cX2_findComparerFor 8 = .ok (.istore_n 2, 1) := by decide +kernel
theorem dX2_findComparerFor_9 : decode cX2_findComparerFor 9 = .ok (.iload_n 2, 1) := by decide +kernel
theorem dX2_findComparerFor_10 : decode cX2_findComparerFor 10 = .ok (.iconst (-1), 1) := by decide +kernel
theorem dX2_findComparerFor_11 : decode cX2_findComparerFor 11 = .ok (.if_icmp .eq 23, 3) := by decide +kernel
theorem dX2_findComparerFor_14 : decode cX2_findComparerFor 14 = .ok (.aload_n 0, 1) := by decide +kernel
theorem dX2_findComparerFor_15 : decode cX2_findComparerFor 15 = .ok (.getfield 24, 3) := by decide +kernel
theorem dX2_findComparerFor_18 : decode cX2_findComparerFor 18 = .ok (.iload_n 2, 1) := by decide +kernel
theorem dX2_findComparerFor_19 : decode cX2_findComparerFor 19 = .ok (.aaload, 1) := by decide +kernel
theorem dX2_findComparerFor_20 : decode cX2_findComparerFor 20 = .ok (.aload_n 1, 1) := by decide +kernel
theorem dX2_findComparerFor_21 : decode cX2_findComparerFor 21 = .ok (.getfield 108, 3) := by decide +kernel
theorem dX2_findComparerFor_24 : decode cX2_findComparerFor 24 = .ok (.invokevirtual 161, 3) := by decide +kernel
theorem dX2_findComparerFor_27 : decode cX2_findComparerFor 27 = .ok (.aload_n 1, 1) := by decide +kernel
theorem dX2_findComparerFor_28 : decode cX2_findComparerFor 28 = .ok (.iload_n 2, 1) := by decide +kernel
theorem dX2_findComparerFor_29 : decode cX2_findComparerFor 29 = .ok (.putfield 115, 3) := by decide +kernel
theorem dX2_findComparerFor_32 : decode cX2_findComparerFor 32 = .ok (.iconst 1, 1) := by decide +kernel
theorem dX2_findComparerFor_33 : decode cX2_findComparerFor 33 = .ok (.ireturn, 1) := by decide +kernel
theorem dX2_findComparerFor_34 : decode cX2_findComparerFor 34 = .ok (.aload_n 0, 1) := by decide +kernel
theorem dX2_findComparerFor_35 : decode cX2_findComparerFor 35 = .ok (.invokevirtual 178, 3) := by decide +kernel
theorem dX2_findComparerFor_38 : decode cX2_findComparerFor 38 = .ok (.istore_n 3, 1) := by decide +kernel
theorem dX2_findComparerFor_39 : decode cX2_findComparerFor 39 = .ok (.iload_n 3, 1) := by decide +kernel
theorem dX2_findComparerFor_40 : decode cX2_findComparerFor 40 = .ok (.iconst (-1), 1) := by decide +kernel
theorem dX2_findComparerFor_41 : decode cX2_findComparerFor 41 = .ok (.if_icmp .eq 11, 3) := by decide +kernel
theorem dX2_findComparerFor_44 : decode cX2_findComparerFor 44 = .ok (.aload_n 0, 1) := by decide +kernel
theorem dX2_findComparerFor_45 : decode cX2_findComparerFor 45 = .ok (.aload_n 1, 1) := by decide +kernel
theorem dX2_findComparerFor_46 : decode cX2_findComparerFor 46 = .ok (.iload_n 3, 1) := by decide +kernel
theorem dX2_findComparerFor_47 : decode cX2_findComparerFor 47 = .ok (.invokevirtual 181, 3) := by decide +kernel
theorem dX2_findComparerFor_50 : decode cX2_findComparerFor 50 = .ok (.iconst 1, 1) := by decide +kernel
theorem dX2_findComparerFor_51 : decode cX2_findComparerFor 51 = .ok (.ireturn, 1) := by decide +kernel
theorem dX2_findComparerFor_52 : decode cX2_findComparerFor 52 = .ok (.aload_n 0, 1) := by decide +kernel
theorem dX2_findComparerFor_53 : decode cX2_findComparerFor 53 = .ok (.invokevirtual 184, 3) := by decide +kernel
theorem dX2_findComparerFor_56 : decode cX2_findComparerFor 56 = .ok (.istore 4, 2) := by decide +kernel
theorem dX2_findComparerFor_58 : decode cX2_findComparerFor 58 = .ok (.aload_n 0, 1) := by decide +kernel
theorem dX2_findComparerFor_59 : decode cX2_findComparerFor 59 = .ok (.getfield 24, 3) := by decide +kernel
theorem dX2_findComparerFor_62 : decode cX2_findComparerFor 62 = .ok (.iload 4, 2) := by decide +kernel
theorem dX2_findComparerFor_64 : decode cX2_findComparerFor 64 = .ok (.aaload, 1) := by decide +kernel
theorem dX2_findComparerFor_65 : decode cX2_findComparerFor 65 = .ok (.getfield 187, 3) := by decide +kernel
theorem dX2_findComparerFor_68 : decode cX2_findComparerFor 68 = .ok (.aload_n 1, 1) := by decide +kernel
theorem dX2_findComparerFor_69 : decode cX2_findComparerFor 69 = .ok (.getfield 108, 3) := by decide +kernel
theorem dX2_findComparerFor_72 : decode cX2_findComparerFor 72 = .ok (.if_icmp .gt 5, 3) := by decide +kernel
theorem dX2_findComparerFor_75 : decode cX2_findComparerFor 75 = .ok (.iconst 0, 1) := by decide +kernel
theorem dX2_findComparerFor_76 : decode cX2_findComparerFor 76 = .ok (.ireturn, 1) := by decide +kernel
theorem dX2_findComparerFor_77 : decode cX2_findComparerFor 77 = .ok (.aload_n 0, 1) := by decide +kernel
theorem dX2_findComparerFor_78 : decode cX2_findComparerFor 78 = .ok (.iload 4, 2) := by decide +kernel
theorem dX2_findComparerFor_80 : decode cX2_findComparerFor 80 = .ok (.invokevirtual 155, 3) := by decide +kernel
theorem dX2_findComparerFor_83 : decode cX2_findComparerFor 83 = .ok (.aload_n 0, 1) := by decide +kernel
theorem dX2_findComparerFor_84 : decode cX2_findComparerFor 84 = .ok (.getfield 32, 3) := by decide +kernel
theorem dX2_findComparerFor_87 : decode cX2_findComparerFor 87 = .ok (.dup, 1) := by decide +kernel
theorem dX2_findComparerFor_88 : decode cX2_findComparerFor 88 = .ok (.getfield 190, 3) := by decide +kernel
theorem dX2_findComparerFor_91 : decode cX2_findComparerFor 91 = .ok (.iconst 1, 1) := by decide +kernel
theorem dX2_findComparerFor_92 : decode cX2_findComparerFor 92 = .ok (.iadd, 1) := by decide +kernel
theorem dX2_findComparerFor_93 : decode cX2_findComparerFor 93 = .ok (.putfield 190, 3) := by decide +kernel
theorem dX2_findComparerFor_96 : decode cX2_findComparerFor 96 = .ok (.aload_n 0, 1) := by decide +kernel
theorem dX2_findComparerFor_97 : decode cX2_findComparerFor 97 = .ok (.aload_n 1, 1) := by decide +kernel
theorem dX2_findComparerFor_98 : decode cX2_findComparerFor 98 = .ok (.iload 4, 2) := by decide +kernel
theorem dX2_findComparerFor_100 : decode cX2_findComparerFor 100 = .ok (.invokevirtual 181, 3) := by decide +kernel
theorem dX2_findComparerFor_103 : decode cX2_findComparerFor 103 = .ok (.iconst 1, 1) := by decide +kernel
theorem dX2_findComparerFor_104 : decode cX2_findComparerFor 104 = .ok (.ireturn, 1) := by decide +kernel
theorem dX2_firstThatCanTake_0 : decode cX2_firstThatCanTake 0 = .ok (.iconst 0, 1) := by decide +kernel
theorem dX2_firstThatCanTake_1 : decode cX2_firstThatCanTake 1 = .ok (.istore_n 2, 1) := by decide +kernel
theorem dX2_firstThatCanTake_2 : decode cX2_firstThatCanTake 2 = .ok (.iload_n 2, 1) := by decide +kernel
theorem dX2_firstThatCanTake_3 : decode cX2_firstThatCanTake 3 = .ok (.aload_n 0, 1) := by decide +kernel
theorem dX2_firstThatCanTake_4 : decode cX2_firstThatCanTake 4 = .ok (.getfield 9, 3) := by decide +kernel
theorem dX2_firstThatCanTake_7 : decode cX2_firstThatCanTake 7 = .ok (.if_icmp .ge 28, 3) := by decide +kernel
theorem dX2_firstThatCanTake_10 : decode cX2_firstThatCanTake 10 = .ok (.aload_n 0, 1) := by decide +kernel
theorem dX2_firstThatCanTake_11 : decode cX2_firstThatCanTake 11 = .ok (.getfield 24, 3) := by decide +kernel
theorem dX2_firstThatCanTake_14 : decode cX2_firstThatCanTake 14 = .ok (.iload_n 2, 1) := by decide +kernel
theorem dX2_firstThatCanTake_15 : decode cX2_firstThatCanTake 15 = .ok (.aaload, 1) := by decide +kernel
theorem dX2_firstThatCanTake_16 : decode cX2_firstThatCanTake 16 = .ok (.iload_n 1, 1) := by decide +kernel
theorem dX2_firstThatCanTake_17 : decode cX2_firstThatCanTake 17 = .ok (.aload_n 0, 1) := by decide +kernel
theorem dX2_firstThatCanTake_18 : decode cX2_firstThatCanTake 18 = .ok (.getfield 52, 3) := by decide +kernel
theorem dX2_firstThatCanTake_21 : decode cX2_firstThatCanTake 21 = .ok (.invokevirtual 193, 3) := by decide +kernel
theorem dX2_firstThatCanTake_24 : decode cX2_firstThatCanTake 24 = .ok (.ifCond .eq 5, 3) := by decide +kernel
theorem dX2_firstThatCanTake_27 : decode cX2_firstThatCanTake 27 = .ok (.iload_n 2, 1) := by decide +kernel
theorem dX2_firstThatCanTake_28 : decode cX2_firstThatCanTake 28 = .ok (.ireturn, 1) := by decide +kernel
theorem dX2_firstThatCanTake_29 : decode cX2_firstThatCanTake 29 = .ok (.iinc 2 1, 3) := by decide +kernel
theorem dX2_firstThatCanTake_32 : decode cX2_firstThatCanTake 32 = .ok (.goto (-30), 3) := by decide +kernel
theorem dX2_firstThatCanTake_35 : decode cX2_firstThatCanTake 35 = .ok (.iconst (-1), 1) := by decide +kernel
theorem dX2_firstThatCanTake_36 : decode cX2_firstThatCanTake 36 = .ok (.ireturn, 1) := by decide +kernel
theorem dX2_firstFree_0 : decode cX2_firstFree 0 = .ok (.iconst 0, 1) := by decide +kernel
theorem dX2_firstFree_1 : decode cX2_firstFree 1 = .ok (.istore_n 1, 1) := by decide +kernel
theorem dX2_firstFree_2 : decode cX2_firstFree 2 = .ok (.iload_n 1, 1) := by decide +kernel
theorem dX2_firstFree_3 : decode cX2_firstFree 3 = .ok (.aload_n 0, 1) := by decide +kernel
theorem dX2_firstFree_4 : decode cX2_firstFree 4 = .ok (.getfield 9, 3) := by decide +kernel
theorem dX2_firstFree_7 : decode cX2_firstFree 7 = .ok (.if_icmp .ge 23, 3) := by decide +kernel
theorem dX2_firstFree_10 : decode cX2_firstFree 10 = .ok (.aload_n 0, 1) := by decide +kernel
theorem dX2_firstFree_11 : decode cX2_firstFree 11 = .ok (.getfield 24, 3) := by decide +kernel
theorem dX2_firstFree_14 : decode cX2_firstFree 14 = .ok (.iload_n 1, 1) := by decide +kernel
theorem dX2_firstFree_15 : decode cX2_firstFree 15 = .ok (.aaload, 1) := by decide +kernel
theorem dX2_firstFree_16 : decode cX2_firstFree 16 = .ok (.invokevirtual 164, 3) := by decide +kernel
theorem dX2_firstFree_19 : decode cX2_firstFree 19 = .ok (.ifCond .eq 5, 3) := by decide +kernel
theorem dX2_firstFree_22 : decode cX2_firstFree 22 = .ok (.iload_n 1, 1) := by decide +kernel
theorem dX2_firstFree_23 : decode cX2_firstFree 23 = .ok (.ireturn, 1) := by decide +kernel
theorem dX2_firstFree_24 : decode cX2_firstFree 24 = .ok (.iinc 1 1, 3) := by decide +kernel
theorem dX2_firstFree_27 : decode cX2_firstFree 27 = .ok (.goto (-25), 3) := by decide +kernel
theorem dX2_firstFree_30 : decode cX2_firstFree 30 = .ok (.iconst (-1), 1) := by decide +kernel
theorem dX2_firstFree_31 : decode cX2_firstFree 31 = .ok (.ireturn, 1) := by decide +kernel
theorem dX2_firstOfGreatestCount_0 : decode cX2_firstOfGreatestCount 0 = .ok (.iconst 0, 1) := by decide +kernel
theorem dX2_firstOfGreatestCount_1 : decode cX2_firstOfGreatestCount 1 = .ok (.istore_n 1, 1) := by decide +kernel
theorem dX2_firstOfGreatestCount_2 : decode cX2_firstOfGreatestCount 2 = .ok (.iconst 1, 1) := by decide +kernel
theorem dX2_firstOfGreatestCount_3 : decode cX2_firstOfGreatestCount 3 = .ok (.istore_n 2, 1) := by decide +kernel
theorem dX2_firstOfGreatestCount_4 : decode cX2_firstOfGreatestCount 4 = .ok (.iload_n 2, 1) := by decide +kernel
theorem dX2_firstOfGreatestCount_5 : decode cX2_firstOfGreatestCount 5 = .ok (.aload_n 0, 1) := by decide +kernel
theorem dX2_firstOfGreatestCount_6 : decode cX2_firstOfGreatestCount 6 = .ok (.getfield 9, 3) := by decide +kernel
theorem dX2_firstOfGreatestCount_9 : decode cX2_firstOfGreatestCount 9 = .ok (.if_icmp .ge 32, 3) := by decide +kernel
theorem dX2_firstOfGreatestCount_12 : decode cX2_firstOfGreatestCount 12 = .ok (.aload_n 0, 1) := by decide +kernel
theorem dX2_firstOfGreatestCount_13 : decode cX2_firstOfGreatestCount 13 = .ok (.getfield 24, 3) := by decide +kernel
theorem dX2_firstOfGreatestCount_16 : decode cX2_firstOfGreatestCount 16 = .ok (.iload_n 2, 1) := by decide +kernel
theorem dX2_firstOfGreatestCount_17 : decode cX2_firstOfGreatestCount 17 = .ok (.aaload, 1) := by decide +kernel
theorem dX2_firstOfGreatestCount_18 : decode cX2_firstOfGreatestCount 18 = .ok (.getfield 187, 3) := by decide +kernel
theorem dX2_firstOfGreatestCount_21 : decode cX2_firstOfGreatestCount 21 = .ok (.aload_n 0, 1) := by decide +kernel
theorem dX2_firstOfGreatestCount_22 : decode cX2_firstOfGreatestCount 22 = .ok (.getfield 24, 3) := by decide +kernel
theorem dX2_firstOfGreatestCount_25 : decode cX2_firstOfGreatestCount 25 = .ok (.iload_n 1, 1) := by decide +kernel
theorem dX2_firstOfGreatestCount_26 : decode cX2_firstOfGreatestCount 26 = .ok (.aaload, 1) := by decide +kernel
theorem dX2_firstOfGreatestCount_27 : decode cX2_firstOfGreatestCount 27 = .ok (.getfield 187, 3) := by decide +kernel
theorem dX2_firstOfGreatestCount_30 : decode cX2_firstOfGreatestCount 30 = .ok (.if_icmp .le 5, 3) := by decide +kernel
theorem dX2_firstOfGreatestCount_33 : decode cX2_firstOfGreatestCount 33 = .ok (.iload_n 2, 1) := by decide +kernel
theorem dX2_firstOfGreatestCount_34 : decode cX2_firstOfGreatestCount 34 = .ok (.istore_n 1, 1) := by decide +kernel
theorem dX2_firstOfGreatestCount_35 : decode cX2_firstOfGreatestCount 35 = .ok (.iinc 2 1, 3) := by decide +kernel
theorem dX2_firstOfGreatestCount_38 : decode cX2_firstOfGreatestCount 38 = .ok (.goto (-34), 3) := by decide +kernel
theorem dX2_firstOfGreatestCount_41 : decode cX2_firstOfGreatestCount 41 = .ok (.iload_n 1, 1) := by decide +kernel
theorem dX2_firstOfGreatestCount_42 : decode cX2_firstOfGreatestCount 42 = .ok (.ireturn, 1) := by decide +kernel
theorem dX2_loadFor_0 : decode cX2_loadFor 0 = .ok (.aload_n 0, 1) := by decide +kernel
theorem dX2_loadFor_1 : decode cX2_loadFor 1 = .ok (.getfield 24, 3) := by decide +kernel
theorem dX2_loadFor_4 : decode cX2_loadFor 4 = .ok (.iload_n 2, 1) := by decide +kernel
theorem dX2_loadFor_5 : decode cX2_loadFor 5 = .ok (.aaload, 1) := by decide +kernel
theorem dX2_loadFor_6 : decode cX2_loadFor 6 = .ok (.aload_n 1, 1) := by decide +kernel
theorem dX2_loadFor_7 : decode cX2_loadFor 7 = .ok (.getfield 108, 3) := by decide +kernel
theorem dX2_loadFor_10 : decode cX2_loadFor 10 = .ok (.aload_n 0, 1) := by decide +kernel
theorem dX2_loadFor_11 : decode cX2_loadFor 11 = .ok (.getfield 55, 3) := by decide +kernel
theorem dX2_loadFor_14 : decode cX2_loadFor 14 = .ok (.invokevirtual 197, 3) := by decide +kernel
theorem dX2_loadFor_17 : decode cX2_loadFor 17 = .ok (.aload_n 1, 1) := by decide +kernel
theorem dX2_loadFor_18 : decode cX2_loadFor 18 = .ok (.iload_n 2, 1) := by decide +kernel
theorem dX2_loadFor_19 : decode cX2_loadFor 19 = .ok (.putfield 115, 3) := by decide +kernel
theorem dX2_loadFor_22 : decode cX2_loadFor 22 = .ok (.aload_n 0, 1) := by decide +kernel
theorem dX2_loadFor_23 : decode cX2_loadFor 23 = .ok (.getfield 32, 3) := by decide +kernel
theorem dX2_loadFor_26 : decode cX2_loadFor 26 = .ok (.dup, 1) := by decide +kernel
theorem dX2_loadFor_27 : decode cX2_loadFor 27 = .ok (.getfield 201, 3) := by decide +kernel
theorem dX2_loadFor_30 : decode cX2_loadFor 30 = .ok (.iconst 1, 1) := by decide +kernel
theorem dX2_loadFor_31 : decode cX2_loadFor 31 = .ok (.iadd, 1) := by decide +kernel
theorem dX2_loadFor_32 : decode cX2_loadFor 32 = .ok (.putfield 201, 3) := by decide +kernel
theorem dX2_loadFor_35 : decode cX2_loadFor 35 = .ok (.return_, 1) := by decide +kernel
