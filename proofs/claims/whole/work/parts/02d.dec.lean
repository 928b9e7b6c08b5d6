theorem dX8_init_0 : decode cX8_init 0 = .ok (.aload_n 0, 1) := by decide +kernel
theorem dX8_init_1 : decode cX8_init 1 = .ok (.invokespecial 1, 3) := by decide +kernel
theorem dX8_init_4 : decode cX8_init 4 = .ok (.aload_n 0, 1) := by decide +kernel
theorem dX8_init_5 : decode cX8_init 5 = .ok (.sipush 195, 3) := by decide +kernel
theorem dX8_init_8 : decode cX8_init 8 = .ok (.newarray .int, 2) := by decide +kernel
theorem dX8_init_10 : decode cX8_init 10 = .ok (.putfield 7, 3) := by decide +kernel
theorem dX8_init_13 : decode cX8_init 13 = .ok (.aload_n 0, 1) := by decide +kernel
theorem dX8_init_14 : decode cX8_init 14 = .ok (.sipush 195, 3) := by decide +kernel
theorem dX8_init_17 : decode cX8_init 17 = .ok (.newarray .int, 2) := by decide +kernel
theorem dX8_init_19 : decode cX8_init 19 = .ok (.putfield 13, 3) := by decide +kernel
theorem dX8_init_22 : decode cX8_init 22 = .ok (.aload_n 0, 1) := by decide +kernel
theorem dX8_init_23 : decode cX8_init 23 = .ok (.sipush 780, 3) := by decide +kernel
theorem dX8_init_26 : decode cX8_init 26 = .ok (.newarray .int, 2) := by decide +kernel
theorem dX8_init_28 : decode cX8_init 28 = .ok (.putfield 16, 3) := by decide +kernel
theorem dX8_init_31 : decode cX8_init 31 = .ok (.aload_n 0, 1) := by decide +kernel
theorem dX8_init_32 : decode cX8_init 32 = .ok (.sipush 195, 3) := by decide +kernel
theorem dX8_init_35 : decode cX8_init 35 = .ok (.newarray .int, 2) := by decide +kernel
theorem dX8_init_37 : decode cX8_init 37 = .ok (.putfield 19, 3) := by decide +kernel
theorem dX8_init_40 : decode cX8_init 40 = .ok (.aload_n 0, 1) := by decide +kernel
theorem dX8_init_41 : decode cX8_init 41 = .ok (.bipush 60, 2) := by decide +kernel
theorem dX8_init_43 : decode cX8_init 43 = .ok (.newarray .char, 2) := by decide +kernel
theorem dX8_init_45 : decode cX8_init 45 = .ok (.putfield 22, 3) := by decide +kernel
theorem dX8_init_48 : decode cX8_init 48 = .ok (.aload_n 0, 1) := by decide +kernel
theorem dX8_init_49 : decode cX8_init 49 = .ok (.bipush 96, 2) := by decide +kernel
theorem dX8_init_51 : decode cX8_init 51 = .ok (.newarray .int, 2) := by decide +kernel
theorem dX8_init_53 : decode cX8_init 53 = .ok (.putfield 26, 3) := by decide +kernel
theorem dX8_init_56 : decode cX8_init 56 = .ok (.aload_n 0, 1) := by decide +kernel
theorem dX8_init_57 : decode cX8_init 57 = .ok (.getfield 7, 3) := by decide +kernel
theorem dX8_init_60 : decode cX8_init 60 = .ok (.bipush 10, 2) := by decide +kernel
theorem dX8_init_62 : decode cX8_init 62 = .ok (.iconst 2, 1) := by decide +kernel
theorem dX8_init_63 : decode cX8_init 63 = .ok (.iastore, 1) := by decide +kernel
theorem dX8_init_64 : decode cX8_init 64 = .ok (.iconst 0, 1) := by decide +kernel
theorem dX8_init_65 : decode cX8_init 65 = .ok (.istore_n 1, 1) := by decide +kernel
theorem dX8_init_66 : decode cX8_init 66 = .ok (.iload_n 1, 1) := by decide +kernel
theorem dX8_init_67 : decode cX8_init 67 = .ok (.iconst 4, 1) := by decide +kernel
theorem dX8_init_68 : decode cX8_init 68 = .ok (.if_icmp .ge 24, 3) := by decide +kernel
theorem dX8_init_71 : decode cX8_init 71 = .ok (.aload_n 0, 1) := by decide +kernel
theorem dX8_init_72 : decode cX8_init 72 = .ok (.getfield 7, 3) := by decide +kernel
theorem dX8_init_75 : decode cX8_init 75 = .ok (.sipush 154, 3) := by decide +kernel
theorem dX8_init_78 : decode cX8_init 78 = .ok (.iconst 2, 1) := by decide +kernel
theorem dX8_init_79 : decode cX8_init 79 = .ok (.iload_n 1, 1) := by decide +kernel
theorem dX8_init_80 : decode cX8_init 80 = .ok (.imul, 1) := by decide +kernel
theorem dX8_init_81 : decode cX8_init 81 = .ok (.iadd, 1) := by decide +kernel
theorem dX8_init_82 : decode cX8_init 82 = .ok (.sipush (-1005), 3) := by decide +kernel
theorem dX8_init_85 : decode cX8_init 85 = .ok (.iastore, 1) := by decide +kernel
theorem dX8_init_86 : decode cX8_init 86 = .ok (.iinc 1 1, 3) := by decide +kernel
theorem dX8_init_89 : decode cX8_init 89 = .ok (.goto (-23), 3) := by decide +kernel
theorem dX8_init_92 : decode cX8_init 92 = .ok (.return_, 1) := by decide +kernel
theorem dX8_in_0 : decode cX8_in 0 = .ok (.iload_n 0, 1) := by decide +kernel
theorem dX8_in_1 : decode cX8_in 1 = .ok (.iload_n 1, 1) := by decide +kernel
theorem dX8_in_2 : decode cX8_in 2 = .ok (.if_icmp .lt 12, 3) := by decide +kernel
theorem dX8_in_5 : decode cX8_in 5 = .ok (.iload_n 0, 1) := by decide +kernel
theorem dX8_in_6 : decode cX8_in 6 = .ok (.iload_n 2, 1) := by decide +kernel
theorem dX8_in_7 : decode cX8_in 7 = .ok (.if_icmp .gt 7, 3) := by decide +kernel
theorem dX8_in_10 : decode cX8_in 10 = .ok (.iconst 1, 1) := by decide +kernel
theorem dX8_in_11 : decode cX8_in 11 = .ok (.goto 4, 3) := by decide +kernel
theorem dX8_in_14 : decode cX8_in 14 = .ok (.iconst 0, 1) := by decide +kernel
theorem dX8_in_15 : decode cX8_in 15 = .ok (.ireturn, 1) := by decide +kernel
theorem dX8_lays_0 : decode cX8_lays 0 = .ok (.iconst 0, 1) := by decide +kernel
theorem dX8_lays_1 : decode cX8_lays 1 = .ok (.istore 4, 2) := by decide +kernel
theorem dX8_lays_3 : decode cX8_lays 3 = .ok (.iload 4, 2) := by decide +kernel
theorem dX8_lays_5 : decode cX8_lays 5 = .ok (.sipush 195, 3) := by decide +kernel
theorem dX8_lays_8 : decode cX8_lays 8 = .ok (.if_icmp .ge 21, 3) := by decide +kernel
theorem dX8_lays_11 : decode cX8_lays 11 = .ok (.aload_n 2, 1) := by decide +kernel
theorem dX8_lays_12 : decode cX8_lays 12 = .ok (.iload_n 3, 1) := by decide +kernel
theorem dX8_lays_13 : decode cX8_lays 13 = .ok (.iload 4, 2) := by decide +kernel
theorem dX8_lays_15 : decode cX8_lays 15 = .ok (.iadd, 1) := by decide +kernel
theorem dX8_lays_16 : decode cX8_lays 16 = .ok (.aload_n 0, 1) := by decide +kernel
theorem dX8_lays_17 : decode cX8_lays 17 = .ok (.iload_n 1, 1) := by decide +kernel
theorem dX8_lays_18 : decode cX8_lays 18 = .ok (.iload 4, 2) := by decide +kernel
theorem dX8_lays_20 : decode cX8_lays 20 = .ok (.iadd, 1) := by decide +kernel
theorem dX8_lays_21 : decode cX8_lays 21 = .ok (.iaload, 1) := by decide +kernel
theorem dX8_lays_22 : decode cX8_lays 22 = .ok (.iastore, 1) := by decide +kernel
theorem dX8_lays_23 : decode cX8_lays 23 = .ok (.iinc 4 1, 3) := by decide +kernel
theorem dX8_lays_26 : decode cX8_lays 26 = .ok (.goto (-23), 3) := by decide +kernel
theorem dX8_lays_29 : decode cX8_lays 29 = .ok (.return_, 1) := by decide +kernel
theorem dX8_records_0 : decode cX8_records 0 = .ok (.aload_n 0, 1) := by decide +kernel
theorem dX8_records_1 : decode cX8_records 1 = .ok (.getfield 29, 3) := by decide +kernel
theorem dX8_records_4 : decode cX8_records 4 = .ok (.iconst 4, 1) := by decide +kernel
theorem dX8_records_5 : decode cX8_records 5 = .ok (.if_icmp .ne 44, 3) := by decide +kernel
theorem dX8_records_8 : decode cX8_records 8 = .ok (.iconst 0, 1) := by decide +kernel
theorem dX8_records_9 : decode cX8_records 9 = .ok (.istore_n 1, 1) := by decide +kernel
theorem dX8_records_10 : decode cX8_records 10 = .ok (.iload_n 1, 1) := by decide +kernel
theorem dX8_records_11 : decode cX8_records 11 = .ok (.sipush 585, 3) := by decide +kernel
theorem dX8_records_14 : decode cX8_records 14 = .ok (.if_icmp .ge 25, 3) := by decide +kernel
theorem dX8_records_17 : decode cX8_records 17 = .ok (.aload_n 0, 1) := by decide +kernel
theorem dX8_records_18 : decode cX8_records 18 = .ok (.getfield 16, 3) := by decide +kernel
theorem dX8_records_21 : decode cX8_records 21 = .ok (.iload_n 1, 1) := by decide +kernel
theorem dX8_records_22 : decode cX8_records 22 = .ok (.aload_n 0, 1) := by decide +kernel
theorem dX8_records_23 : decode cX8_records 23 = .ok (.getfield 16, 3) := by decide +kernel
theorem dX8_records_26 : decode cX8_records 26 = .ok (.iload_n 1, 1) := by decide +kernel
theorem dX8_records_27 : decode cX8_records 27 = .ok (.sipush 195, 3) := by decide +kernel
theorem dX8_records_30 : decode cX8_records 30 = .ok (.iadd, 1) := by decide +kernel
theorem dX8_records_31 : decode cX8_records 31 = .ok (.iaload, 1) := by decide +kernel
theorem dX8_records_32 : decode cX8_records 32 = .ok (.iastore, 1) := by decide +kernel
theorem dX8_records_33 : decode cX8_records 33 = .ok (.iinc 1 1, 3) := by decide +kernel
theorem dX8_records_36 : decode cX8_records 36 = .ok (.goto (-26), 3) := by decide +kernel
theorem dX8_records_39 : decode cX8_records 39 = .ok (.aload_n 0, 1) := by decide +kernel
theorem dX8_records_40 : decode cX8_records 40 = .ok (.dup, 1) := by decide +kernel
theorem dX8_records_41 : decode cX8_records 41 = .ok (.getfield 29, 3) := by decide +kernel
theorem dX8_records_44 : decode cX8_records 44 = .ok (.iconst 1, 1) := by decide +kernel
theorem dX8_records_45 : decode cX8_records 45 = .ok (.isub, 1) := by decide +kernel
theorem dX8_records_46 : decode cX8_records 46 = .ok (.putfield 29, 3) := by decide +kernel
theorem dX8_records_49 : decode cX8_records 49 = .ok (.aload_n 0, 1) := by decide +kernel
theorem dX8_records_50 : decode cX8_records 50 = .ok (.getfield 7, 3) := by decide +kernel
theorem dX8_records_53 : decode cX8_records 53 = .ok (.iconst 0, 1) := by decide +kernel
theorem dX8_records_54 : decode cX8_records 54 = .ok (.aload_n 0, 1) := by decide +kernel
theorem dX8_records_55 : decode cX8_records 55 = .ok (.getfield 16, 3) := by decide +kernel
theorem dX8_records_58 : decode cX8_records 58 = .ok (.sipush 195, 3) := by decide +kernel
theorem dX8_records_61 : decode cX8_records 61 = .ok (.aload_n 0, 1) := by decide +kernel
theorem dX8_records_62 : decode cX8_records 62 = .ok (.getfield 29, 3) := by decide +kernel
theorem dX8_records_65 : decode cX8_records 65 = .ok (.imul, 1) := by decide +kernel
theorem dX8_records_66 : decode cX8_records 66 = .ok (.invokestatic 33, 3) := by decide +kernel
theorem dX8_records_69 : decode cX8_records 69 = .ok (.aload_n 0, 1) := by decide +kernel
theorem dX8_records_70 : decode cX8_records 70 = .ok (.dup, 1) := by decide +kernel
theorem dX8_records_71 : decode cX8_records 71 = .ok (.getfield 29, 3) := by decide +kernel
theorem dX8_records_74 : decode cX8_records 74 = .ok (.iconst 1, 1) := by decide +kernel
theorem dX8_records_75 : decode cX8_records 75 = .ok (.iadd, 1) := by decide +kernel
theorem dX8_records_76 : decode cX8_records 76 = .ok (.putfield 29, 3) := by decide +kernel
theorem dX8_records_79 : decode cX8_records 79 = .ok (.return_, 1) := by decide +kernel
theorem dX8_of_0 : decode cX8_of 0 = .ok (.aload_n 0, 1) := by decide +kernel
theorem dX8_of_1 : decode cX8_of 1 = .ok (.bipush 14, 2) := by decide +kernel
theorem dX8_of_3 : decode cX8_of 3 = .ok (.bipush 7, 2) := by decide +kernel
theorem dX8_of_5 : decode cX8_of 5 = .ok (.iload_n 1, 1) := by decide +kernel
theorem dX8_of_6 : decode cX8_of 6 = .ok (.imul, 1) := by decide +kernel
theorem dX8_of_7 : decode cX8_of 7 = .ok (.iadd, 1) := by decide +kernel
theorem dX8_of_8 : decode cX8_of 8 = .ok (.iload_n 2, 1) := by decide +kernel
theorem dX8_of_9 : decode cX8_of 9 = .ok (.iadd, 1) := by decide +kernel
theorem dX8_of_10 : decode cX8_of 10 = .ok (.iaload, 1) := by decide +kernel
theorem dX8_of_11 : decode cX8_of 11 = .ok (.ireturn, 1) := by decide +kernel
theorem dX8_put_0 : decode cX8_put 0 = .ok (.aload_n 0, 1) := by decide +kernel
theorem dX8_put_1 : decode cX8_put 1 = .ok (.bipush 14, 2) := by decide +kernel
theorem dX8_put_3 : decode cX8_put 3 = .ok (.bipush 7, 2) := by decide +kernel
theorem dX8_put_5 : decode cX8_put 5 = .ok (.iload_n 1, 1) := by decide +kernel
theorem dX8_put_6 : decode cX8_put 6 = .ok (.imul, 1) := by decide +kernel
theorem dX8_put_7 : decode cX8_put 7 = .ok (.iadd, 1) := by decide +kernel
theorem dX8_put_8 : decode cX8_put 8 = .ok (.iload_n 2, 1) := by decide +kernel
theorem dX8_put_9 : decode cX8_put 9 = .ok (.iadd, 1) := by decide +kernel
theorem dX8_put_10 : decode cX8_put 10 = .ok (.iload_n 3, 1) := by decide +kernel
theorem dX8_put_11 : decode cX8_put 11 = .ok (.iastore, 1) := by decide +kernel
theorem dX8_put_12 : decode cX8_put 12 = .ok (.return_, 1) := by decide +kernel
theorem dX8_find_0 : decode cX8_find 0 = .ok (.iconst 0, 1) := by decide +kernel
theorem dX8_find_1 : decode cX8_find 1 = .ok (.istore_n 2, 1) := by decide +kernel
theorem dX8_find_2 : decode cX8_find 2 = .ok (.iload_n 2, 1) := by decide +kernel
theorem dX8_find_3 : decode cX8_find 3 = .ok (.aload_n 0, 1) := by decide +kernel
theorem dX8_find_4 : decode cX8_find 4 = .ok (.iconst 2, 1) := by decide +kernel
theorem dX8_find_5 : decode cX8_find 5 = .ok (.iaload, 1) := by decide +kernel
theorem dX8_find_6 : decode cX8_find 6 = .ok (.if_icmp .ge 21, 3) := by decide +kernel
theorem dX8_find_9 : decode cX8_find 9 = .ok (.aload_n 0, 1) := by decide +kernel
theorem dX8_find_10 : decode cX8_find 10 = .ok (.iload_n 2, 1) := by decide +kernel
theorem dX8_find_11 : decode cX8_find 11 = .ok (.iconst 0, 1) := by decide +kernel
theorem dX8_find_12 : decode cX8_find 12 = .ok (.invokestatic 37, 3) := by decide +kernel
theorem dX8_find_15 : decode cX8_find 15 = .ok (.iload_n 1, 1) := by decide +kernel
theorem dX8_find_16 : decode cX8_find 16 = .ok (.if_icmp .ne 5, 3) := by decide +kernel
theorem dX8_find_19 : decode cX8_find 19 = .ok (.iload_n 2, 1) := by decide +kernel
theorem dX8_find_20 : decode cX8_find 20 = .ok (.ireturn, 1) := by decide +kernel
theorem dX8_find_21 : decode cX8_find 21 = .ok (.iinc 2 1, 3) := by decide +kernel
theorem dX8_find_24 : decode cX8_find 24 = .ok (.goto (-22), 3) := by decide +kernel
theorem dX8_find_27 : decode cX8_find 27 = .ok (.sipush (-1005), 3) := by decide +kernel
theorem dX8_find_30 : decode cX8_find 30 = .ok (.ireturn, 1) := by decide +kernel
theorem dX8_isAhead_0 : decode cX8_isAhead 0 = .ok (.aload_n 0, 1) := by decide +kernel
theorem dX8_isAhead_1 : decode cX8_isAhead 1 = .ok (.iload_n 1, 1) := by decide +kernel
theorem dX8_isAhead_2 : decode cX8_isAhead 2 = .ok (.iconst 1, 1) := by decide +kernel
theorem dX8_isAhead_3 : decode cX8_isAhead 3 = .ok (.invokestatic 37, 3) := by decide +kernel
theorem dX8_isAhead_6 : decode cX8_isAhead 6 = .ok (.aload_n 0, 1) := by decide +kernel
theorem dX8_isAhead_7 : decode cX8_isAhead 7 = .ok (.iload_n 2, 1) := by decide +kernel
theorem dX8_isAhead_8 : decode cX8_isAhead 8 = .ok (.iconst 1, 1) := by decide +kernel
theorem dX8_isAhead_9 : decode cX8_isAhead 9 = .ok (.invokestatic 37, 3) := by decide +kernel
theorem dX8_isAhead_12 : decode cX8_isAhead 12 = .ok (.isub, 1) := by decide +kernel
theorem dX8_isAhead_13 : decode cX8_isAhead 13 = .ok (.istore_n 3, 1) := by decide +kernel
theorem dX8_isAhead_14 : decode cX8_isAhead 14 = .ok (.iload_n 3, 1) := by decide +kernel
theorem dX8_isAhead_15 : decode cX8_isAhead 15 = .ok (.ifCond .eq 7, 3) := by decide +kernel
theorem dX8_isAhead_18 : decode cX8_isAhead 18 = .ok (.iload_n 3, 1) := by decide +kernel
theorem dX8_isAhead_19 : decode cX8_isAhead 19 = .ok (.goto 16, 3) := by decide +kernel
theorem dX8_isAhead_22 : decode cX8_isAhead 22 = .ok (.aload_n 0, 1) := by decide +kernel
theorem dX8_isAhead_23 : decode cX8_isAhead 23 = .ok (.iload_n 2, 1) := by decide +kernel
theorem dX8_isAhead_24 : decode cX8_isAhead 24 = .ok (.iconst 3, 1) := by decide +kernel
theorem dX8_isAhead_25 : decode cX8_isAhead 25 = .ok (.invokestatic 37, 3) := by decide +kernel
theorem dX8_isAhead_28 : decode cX8_isAhead 28 = .ok (.aload_n 0, 1) := by decide +kernel
theorem dX8_isAhead_29 : decode cX8_isAhead 29 = .ok (.iload_n 1, 1) := by decide +kernel
theorem dX8_isAhead_30 : decode cX8_isAhead 30 = .ok (.iconst 3, 1) := by decide +kernel
theorem dX8_isAhead_31 : decode cX8_isAhead 31 = .ok (.invokestatic 37, 3) := by decide +kernel
theorem dX8_isAhead_34 : decode cX8_isAhead 34 = .ok (.isub, 1) := by decide +kernel
theorem dX8_isAhead_35 : decode cX8_isAhead 35 = .ok (.istore_n 3, 1) := by decide +kernel
theorem dX8_isAhead_36 : decode cX8_isAhead 36 = .ok (.iload_n 3, 1) := by decide +kernel
theorem dX8_isAhead_37 : decode cX8_isAhead 37 = .ok (.ifCond .eq 15, 3) := by decide +kernel
theorem dX8_isAhead_40 : decode cX8_isAhead 40 = .ok (.iload_n 3, 1) := by decide +kernel
theorem dX8_isAhead_41 : decode cX8_isAhead 41 = .ok (.ifCond .ge 7, 3) := by decide +kernel
theorem dX8_isAhead_44 : decode cX8_isAhead 44 = .ok (.iconst 1, 1) := by decide +kernel
theorem dX8_isAhead_45 : decode cX8_isAhead 45 = .ok (.goto 17, 3) := by decide +kernel
theorem dX8_isAhead_48 : decode cX8_isAhead 48 = .ok (.iconst 0, 1) := by decide +kernel
theorem dX8_isAhead_49 : decode cX8_isAhead 49 = .ok (.goto 13, 3) := by decide +kernel
theorem dX8_isAhead_52 : decode cX8_isAhead 52 = .ok (.iload_n 1, 1) := by decide +kernel
theorem dX8_isAhead_53 : decode cX8_isAhead 53 = .ok (.iload_n 2, 1) := by decide +kernel
theorem dX8_isAhead_54 : decode cX8_isAhead 54 = .ok (.if_icmp .ge 7, 3) := by decide +kernel
theorem dX8_isAhead_57 : decode cX8_isAhead 57 = .ok (.iconst 1, 1) := by decide +kernel
theorem dX8_isAhead_58 : decode cX8_isAhead 58 = .ok (.goto 4, 3) := by decide +kernel
theorem dX8_isAhead_61 : decode cX8_isAhead 61 = .ok (.iconst 0, 1) := by decide +kernel
theorem dX8_isAhead_62 : decode cX8_isAhead 62 = .ok (.ireturn, 1) := by decide +kernel
theorem dX8_firstOf_0 : decode cX8_firstOf 0 = .ok (.sipush (-1005), 3) := by decide +kernel
theorem dX8_firstOf_3 : decode cX8_firstOf 3 = .ok (.istore_n 2, 1) := by decide +kernel
theorem dX8_firstOf_4 : decode cX8_firstOf 4 = .ok (.iconst 0, 1) := by decide +kernel
theorem dX8_firstOf_5 : decode cX8_firstOf 5 = .ok (.istore_n 3, 1) := by decide +kernel
theorem dX8_firstOf_6 : decode cX8_firstOf 6 = .ok (.iload_n 3, 1) := by decide +kernel
theorem dX8_firstOf_7 : decode cX8_firstOf 7 = .ok (.aload_n 0, 1) := by decide +kernel
theorem dX8_firstOf_8 : decode cX8_firstOf 8 = .ok (.iconst 2, 1) := by decide +kernel
theorem dX8_firstOf_9 : decode cX8_firstOf 9 = .ok (.iaload, 1) := by decide +kernel
theorem dX8_firstOf_10 : decode cX8_firstOf 10 = .ok (.if_icmp .ge 41, 3) := by decide +kernel
theorem dX8_firstOf_13 : decode cX8_firstOf 13 = .ok (.aload_n 0, 1) := by decide +kernel
theorem dX8_firstOf_14 : decode cX8_firstOf 14 = .ok (.iload_n 3, 1) := by decide +kernel
theorem dX8_firstOf_15 : decode cX8_firstOf 15 = .ok (.iconst 4, 1) := by decide +kernel
theorem dX8_firstOf_16 : decode cX8_firstOf 16 = .ok (.invokestatic 37, 3) := by decide +kernel
theorem dX8_firstOf_19 : decode cX8_firstOf 19 = .ok (.iload_n 1, 1) := by decide +kernel
theorem dX8_firstOf_20 : decode cX8_firstOf 20 = .ok (.if_icmp .ne 23, 3) := by decide +kernel
theorem dX8_firstOf_23 : decode cX8_firstOf 23 = .ok (.iload_n 2, 1) := by decide +kernel
theorem dX8_firstOf_24 : decode cX8_firstOf 24 = .ok (.sipush (-1005), 3) := by decide +kernel
theorem dX8_firstOf_27 : decode cX8_firstOf 27 = .ok (.if_icmp .eq 12, 3) := by decide +kernel
theorem dX8_firstOf_30 : decode cX8_firstOf 30 = .ok (.aload_n 0, 1) := by decide +kernel
theorem dX8_firstOf_31 : decode cX8_firstOf 31 = .ok (.iload_n 3, 1) := by decide +kernel
theorem dX8_firstOf_32 : decode cX8_firstOf 32 = .ok (.iload_n 2, 1) := by decide +kernel
theorem dX8_firstOf_33 : decode cX8_firstOf 33 = .ok (.invokestatic 41, 3) := by decide +kernel
theorem dX8_firstOf_36 : decode cX8_firstOf 36 = .ok (.ifCond .eq 7, 3) := by decide +kernel
theorem dX8_firstOf_39 : decode cX8_firstOf 39 = .ok (.iload_n 3, 1) := by decide +kernel
theorem dX8_firstOf_40 : decode cX8_firstOf 40 = .ok (.goto 4, 3) := by decide +kernel
theorem dX8_firstOf_43 : decode cX8_firstOf 43 = .ok (.iload_n 2, 1) := by decide +kernel
theorem dX8_firstOf_44 : decode cX8_firstOf 44 = .ok (.istore_n 2, 1) := by decide +kernel
theorem dX8_firstOf_45 : decode cX8_firstOf 45 = .ok (.iinc 3 1, 3) := by decide +kernel
theorem dX8_firstOf_48 : decode cX8_firstOf 48 = .ok (.goto (-42), 3) := by decide +kernel
theorem dX8_firstOf_51 : decode cX8_firstOf 51 = .ok (.iload_n 2, 1) := by decide +kernel
theorem dX8_firstOf_52 : decode cX8_firstOf 52 = .ok (.ireturn, 1) := by decide +kernel
theorem dX8_placeOf_0 : decode cX8_placeOf 0 = .ok (.iconst 0, 1) := by decide +kernel
theorem dX8_placeOf_1 : decode cX8_placeOf 1 = .ok (.istore_n 2, 1) := by decide +kernel
theorem dX8_placeOf_2 : decode cX8_placeOf 2 = .ok (.iconst 0, 1) := by decide +kernel
theorem dX8_placeOf_3 : decode cX8_placeOf 3 = .ok (.istore_n 3, 1) := by decide +kernel
theorem dX8_placeOf_4 : decode cX8_placeOf 4 = .ok (.iload_n 3, 1) := by decide +kernel
theorem dX8_placeOf_5 : decode cX8_placeOf 5 = .ok (.aload_n 0, 1) := by decide +kernel
theorem dX8_placeOf_6 : decode cX8_placeOf 6 = .ok (.iconst 2, 1) := by decide +kernel
theorem dX8_placeOf_7 : decode cX8_placeOf 7 = .ok (.iaload, 1) := by decide +kernel
theorem dX8_placeOf_8 : decode cX8_placeOf 8 = .ok (.if_icmp .ge 31, 3) := by decide +kernel
theorem dX8_placeOf_11 : decode cX8_placeOf 11 = .ok (.iload_n 2, 1) := by decide +kernel
theorem dX8_placeOf_12 : decode cX8_placeOf 12 = .ok (.iload_n 3, 1) := by decide +kernel
theorem dX8_placeOf_13 : decode cX8_placeOf 13 = .ok (.iload_n 1, 1) := by decide +kernel
theorem dX8_placeOf_14 : decode cX8_placeOf 14 = .ok (.if_icmp .eq 16, 3) := by decide +kernel
theorem dX8_placeOf_17 : decode cX8_placeOf 17 = .ok (.aload_n 0, 1) := by decide +kernel
theorem dX8_placeOf_18 : decode cX8_placeOf 18 = .ok (.iload_n 3, 1) := by decide +kernel
theorem dX8_placeOf_19 : decode cX8_placeOf 19 = .ok (.iload_n 1, 1) := by decide +kernel
theorem dX8_placeOf_20 : decode cX8_placeOf 20 = .ok (.invokestatic 41, 3) := by decide +kernel
theorem dX8_placeOf_23 : decode cX8_placeOf 23 = .ok (.ifCond .eq 7, 3) := by decide +kernel
theorem dX8_placeOf_26 : decode cX8_placeOf 26 = .ok (.iconst 1, 1) := by decide +kernel
theorem dX8_placeOf_27 : decode cX8_placeOf 27 = .ok (.goto 4, 3) := by decide +kernel
theorem dX8_placeOf_30 : decode cX8_placeOf 30 = .ok (.iconst 0, 1) := by decide +kernel
theorem dX8_placeOf_31 : decode cX8_placeOf 31 = .ok (.iadd, 1) := by decide +kernel
theorem dX8_placeOf_32 : decode cX8_placeOf 32 = .ok (.istore_n 2, 1) := by decide +kernel
theorem dX8_placeOf_33 : decode cX8_placeOf 33 = .ok (.iinc 3 1, 3) := by decide +kernel
theorem dX8_placeOf_36 : decode cX8_placeOf 36 = .ok (.goto (-32), 3) := by decide +kernel
theorem dX8_placeOf_39 : decode cX8_placeOf 39 = .ok (.iload_n 2, 1) := by decide +kernel
theorem dX8_placeOf_40 : decode cX8_placeOf 40 = .ok (.ireturn, 1) := by decide +kernel
theorem dX8_countOf_0 : decode cX8_countOf 0 = .ok (.aload_n 0, 1) := by decide +kernel
theorem dX8_countOf_1 : decode cX8_countOf 1 = .ok (.sipush 154, 3) := by decide +kernel
theorem dX8_countOf_4 : decode cX8_countOf 4 = .ok (.iconst 2, 1) := by decide +kernel
theorem dX8_countOf_5 : decode cX8_countOf 5 = .ok (.iload_n 1, 1) := by decide +kernel
theorem dX8_countOf_6 : decode cX8_countOf 6 = .ok (.imul, 1) := by decide +kernel
theorem dX8_countOf_7 : decode cX8_countOf 7 = .ok (.iadd, 1) := by decide +kernel
theorem dX8_countOf_8 : decode cX8_countOf 8 = .ok (.iaload, 1) := by decide +kernel
theorem dX8_countOf_9 : decode cX8_countOf 9 = .ok (.ireturn, 1) := by decide +kernel
theorem dX8_sharing_0 : decode cX8_sharing 0 = .ok (.iconst 0, 1) := by decide +kernel
theorem dX8_sharing_1 : decode cX8_sharing 1 = .ok (.istore_n 2, 1) := by decide +kernel
theorem dX8_sharing_2 : decode cX8_sharing 2 = .ok (.iconst 0, 1) := by decide +kernel
theorem dX8_sharing_3 : decode cX8_sharing 3 = .ok (.istore_n 3, 1) := by decide +kernel
theorem dX8_sharing_4 : decode cX8_sharing 4 = .ok (.iload_n 3, 1) := by decide +kernel
theorem dX8_sharing_5 : decode cX8_sharing 5 = .ok (.aload_n 0, 1) := by decide +kernel
theorem dX8_sharing_6 : decode cX8_sharing 6 = .ok (.iconst 2, 1) := by decide +kernel
theorem dX8_sharing_7 : decode cX8_sharing 7 = .ok (.iaload, 1) := by decide +kernel
theorem dX8_sharing_8 : decode cX8_sharing 8 = .ok (.if_icmp .ge 27, 3) := by decide +kernel
theorem dX8_sharing_11 : decode cX8_sharing 11 = .ok (.iload_n 2, 1) := by decide +kernel
theorem dX8_sharing_12 : decode cX8_sharing 12 = .ok (.aload_n 0, 1) := by decide +kernel
theorem dX8_sharing_13 : decode cX8_sharing 13 = .ok (.iload_n 3, 1) := by decide +kernel
theorem dX8_sharing_14 : decode cX8_sharing 14 = .ok (.iconst 4, 1) := by decide +kernel
theorem dX8_sharing_15 : decode cX8_sharing 15 = .ok (.invokestatic 37, 3) := by decide +kernel
theorem dX8_sharing_18 : decode cX8_sharing 18 = .ok (.iload_n 1, 1) := by decide +kernel
theorem dX8_sharing_19 : decode cX8_sharing 19 = .ok (.if_icmp .ne 7, 3) := by decide +kernel
theorem dX8_sharing_22 : decode cX8_sharing 22 = .ok (.iconst 1, 1) := by decide +kernel
theorem dX8_sharing_23 : decode cX8_sharing 23 = .ok (.goto 4, 3) := by decide +kernel
theorem dX8_sharing_26 : decode cX8_sharing 26 = .ok (.iconst 0, 1) := by decide +kernel
theorem dX8_sharing_27 : decode cX8_sharing 27 = .ok (.iadd, 1) := by decide +kernel
theorem dX8_sharing_28 : decode cX8_sharing 28 = .ok (.istore_n 2, 1) := by decide +kernel
theorem dX8_sharing_29 : decode cX8_sharing 29 = .ok (.iinc 3 1, 3) := by decide +kernel
theorem dX8_sharing_32 : decode cX8_sharing 32 = .ok (.goto (-28), 3) := by decide +kernel
theorem dX8_sharing_35 : decode cX8_sharing 35 = .ok (.iload_n 2, 1) := by decide +kernel
theorem dX8_sharing_36 : decode cX8_sharing 36 = .ok (.ireturn, 1) := by decide +kernel
theorem dX8_extreme_0 : decode cX8_extreme 0 = .ok (.iload_n 2, 1) := by decide +kernel
theorem dX8_extreme_1 : decode cX8_extreme 1 = .ok (.istore 4, 2) := by decide +kernel
theorem dX8_extreme_3 : decode cX8_extreme 3 = .ok (.iconst 0, 1) := by decide +kernel
theorem dX8_extreme_4 : decode cX8_extreme 4 = .ok (.istore 5, 2) := by decide +kernel
theorem dX8_extreme_6 : decode cX8_extreme 6 = .ok (.iload 5, 2) := by decide +kernel
theorem dX8_extreme_8 : decode cX8_extreme 8 = .ok (.aload_n 0, 1) := by decide +kernel
theorem dX8_extreme_9 : decode cX8_extreme 9 = .ok (.iconst 2, 1) := by decide +kernel
theorem dX8_extreme_10 : decode cX8_extreme 10 = .ok (.iaload, 1) := by decide +kernel
theorem dX8_extreme_11 : decode cX8_extreme 11 = .ok (.if_icmp .ge 54, 3) := by decide +kernel
theorem dX8_extreme_14 : decode cX8_extreme 14 = .ok (.aload_n 0, 1) := by decide +kernel
theorem dX8_extreme_15 : decode cX8_extreme 15 = .ok (.iload 5, 2) := by decide +kernel
theorem dX8_extreme_17 : decode cX8_extreme 17 = .ok (.iconst 1, 1) := by decide +kernel
theorem dX8_extreme_18 : decode cX8_extreme 18 = .ok (.invokestatic 37, 3) := by decide +kernel
theorem dX8_extreme_21 : decode cX8_extreme 21 = .ok (.istore 6, 2) := by decide +kernel
theorem dX8_extreme_23 : decode cX8_extreme 23 = .ok (.aload_n 0, 1) := by decide +kernel
theorem dX8_extreme_24 : decode cX8_extreme 24 = .ok (.iload 5, 2) := by decide +kernel
theorem dX8_extreme_26 : decode cX8_extreme 26 = .ok (.iconst 4, 1) := by decide +kernel
theorem dX8_extreme_27 : decode cX8_extreme 27 = .ok (.invokestatic 37, 3) := by decide +kernel
theorem dX8_extreme_30 : decode cX8_extreme 30 = .ok (.iload_n 1, 1) := by decide +kernel
theorem dX8_extreme_31 : decode cX8_extreme 31 = .ok (.if_icmp .ne 24, 3) := by decide +kernel
theorem dX8_extreme_34 : decode cX8_extreme 34 = .ok (.iload 6, 2) := by decide +kernel
theorem dX8_extreme_36 : decode cX8_extreme 36 = .ok (.iload 4, 2) := by decide +kernel
theorem dX8_extreme_38 : decode cX8_extreme 38 = .ok (.if_icmp .le 7, 3) := by decide +kernel
theorem dX8_extreme_41 : decode cX8_extreme 41 = .ok (.iconst 1, 1) := by decide +kernel
theorem dX8_extreme_42 : decode cX8_extreme 42 = .ok (.goto 4, 3) := by decide +kernel
theorem dX8_extreme_45 : decode cX8_extreme 45 = .ok (.iconst 0, 1) := by decide +kernel
theorem dX8_extreme_46 : decode cX8_extreme 46 = .ok (.iload_n 3, 1) := by decide +kernel
theorem dX8_extreme_47 : decode cX8_extreme 47 = .ok (.if_icmp .ne 8, 3) := by decide +kernel
theorem dX8_extreme_50 : decode cX8_extreme 50 = .ok (.iload 6, 2) := by decide +kernel
theorem dX8_extreme_52 : decode cX8_extreme 52 = .ok (.goto 5, 3) := by decide +kernel
theorem dX8_extreme_55 : decode cX8_extreme 55 = .ok (.iload 4, 2) := by decide +kernel
theorem dX8_extreme_57 : decode cX8_extreme 57 = .ok (.istore 4, 2) := by decide +kernel
theorem dX8_extreme_59 : decode cX8_extreme 59 = .ok (.iinc 5 1, 3) := by decide +kernel
theorem dX8_extreme_62 : decode cX8_extreme 62 = .ok (.goto (-56), 3) := by decide +kernel
theorem dX8_extreme_65 : decode cX8_extreme 65 = .ok (.iload 4, 2) := by decide +kernel
theorem dX8_extreme_67 : decode cX8_extreme 67 = .ok (.ireturn, 1) := by decide +kernel
theorem dX8_fits_0 : decode cX8_fits 0 = .ok (.aload_n 0, 1) := by decide +kernel
theorem dX8_fits_1 : decode cX8_fits 1 = .ok (.iload_n 1, 1) := by decide +kernel
theorem dX8_fits_2 : decode cX8_fits 2 = .ok (.iload_n 2, 1) := by decide +kernel
theorem dX8_fits_3 : decode cX8_fits 3 = .ok (.iconst 1, 1) := by decide +kernel
theorem dX8_fits_4 : decode cX8_fits 4 = .ok (.invokestatic 45, 3) := by decide +kernel
theorem dX8_fits_7 : decode cX8_fits 7 = .ok (.aload_n 0, 1) := by decide +kernel
theorem dX8_fits_8 : decode cX8_fits 8 = .ok (.iload_n 1, 1) := by decide +kernel
theorem dX8_fits_9 : decode cX8_fits 9 = .ok (.iload_n 2, 1) := by decide +kernel
theorem dX8_fits_10 : decode cX8_fits 10 = .ok (.iconst 0, 1) := by decide +kernel
theorem dX8_fits_11 : decode cX8_fits 11 = .ok (.invokestatic 45, 3) := by decide +kernel
theorem dX8_fits_14 : decode cX8_fits 14 = .ok (.isub, 1) := by decide +kernel
theorem dX8_fits_15 : decode cX8_fits 15 = .ok (.aload_n 0, 1) := by decide +kernel
theorem dX8_fits_16 : decode cX8_fits 16 = .ok (.bipush 11, 2) := by decide +kernel
theorem dX8_fits_18 : decode cX8_fits 18 = .ok (.iaload, 1) := by decide +kernel
theorem dX8_fits_19 : decode cX8_fits 19 = .ok (.if_icmp .gt 7, 3) := by decide +kernel
theorem dX8_fits_22 : decode cX8_fits 22 = .ok (.iconst 1, 1) := by decide +kernel
theorem dX8_fits_23 : decode cX8_fits 23 = .ok (.goto 4, 3) := by decide +kernel
theorem dX8_fits_26 : decode cX8_fits 26 = .ok (.iconst 0, 1) := by decide +kernel
theorem dX8_fits_27 : decode cX8_fits 27 = .ok (.ireturn, 1) := by decide +kernel
theorem dX8_joinable_0 : decode cX8_joinable 0 = .ok (.iconst 0, 1) := by decide +kernel
theorem dX8_joinable_1 : decode cX8_joinable 1 = .ok (.istore_n 2, 1) := by decide +kernel
theorem dX8_joinable_2 : decode cX8_joinable 2 = .ok (.iload_n 2, 1) := by decide +kernel
theorem dX8_joinable_3 : decode cX8_joinable 3 = .ok (.aload_n 0, 1) := by decide +kernel
theorem dX8_joinable_4 : decode cX8_joinable 4 = .ok (.bipush 10, 2) := by decide +kernel
theorem dX8_joinable_6 : decode cX8_joinable 6 = .ok (.iaload, 1) := by decide +kernel
theorem dX8_joinable_7 : decode cX8_joinable 7 = .ok (.if_icmp .ge 31, 3) := by decide +kernel
theorem dX8_joinable_10 : decode cX8_joinable 10 = .ok (.aload_n 0, 1) := by decide +kernel
theorem dX8_joinable_11 : decode cX8_joinable 11 = .ok (.iload_n 2, 1) := by decide +kernel
theorem dX8_joinable_12 : decode cX8_joinable 12 = .ok (.invokestatic 49, 3) := by decide +kernel
theorem dX8_joinable_15 : decode cX8_joinable 15 = .ok (.sipush (-1005), 3) := by decide +kernel
theorem dX8_joinable_18 : decode cX8_joinable 18 = .ok (.if_icmp .eq 14, 3) := by decide +kernel
theorem dX8_joinable_21 : decode cX8_joinable 21 = .ok (.aload_n 0, 1) := by decide +kernel
theorem dX8_joinable_22 : decode cX8_joinable 22 = .ok (.iload_n 2, 1) := by decide +kernel
theorem dX8_joinable_23 : decode cX8_joinable 23 = .ok (.iload_n 1, 1) := by decide +kernel
theorem dX8_joinable_24 : decode cX8_joinable 24 = .ok (.invokestatic 53, 3) := by decide +kernel
theorem dX8_joinable_27 : decode cX8_joinable 27 = .ok (.ifCond .eq 5, 3) := by decide +kernel
theorem dX8_joinable_30 : decode cX8_joinable 30 = .ok (.iload_n 2, 1) := by decide +kernel
theorem dX8_joinable_31 : decode cX8_joinable 31 = .ok (.ireturn, 1) := by decide +kernel
theorem dX8_joinable_32 : decode cX8_joinable 32 = .ok (.iinc 2 1, 3) := by decide +kernel
theorem dX8_joinable_35 : decode cX8_joinable 35 = .ok (.goto (-33), 3) := by decide +kernel
theorem dX8_joinable_38 : decode cX8_joinable 38 = .ok (.sipush (-1005), 3) := by decide +kernel
theorem dX8_joinable_41 : decode cX8_joinable 41 = .ok (.ireturn, 1) := by decide +kernel
theorem dX8_freeOne_0 : decode cX8_freeOne 0 = .ok (.iconst 0, 1) := by decide +kernel
theorem dX8_freeOne_1 : decode cX8_freeOne 1 = .ok (.istore_n 1, 1) := by decide +kernel
theorem dX8_freeOne_2 : decode cX8_freeOne 2 = .ok (.iload_n 1, 1) := by decide +kernel
theorem dX8_freeOne_3 : decode cX8_freeOne 3 = .ok (.aload_n 0, 1) := by decide +kernel
theorem dX8_freeOne_4 : decode cX8_freeOne 4 = .ok (.bipush 10, 2) := by decide +kernel
theorem dX8_freeOne_6 : decode cX8_freeOne 6 = .ok (.iaload, 1) := by decide +kernel
theorem dX8_freeOne_7 : decode cX8_freeOne 7 = .ok (.if_icmp .ge 22, 3) := by decide +kernel
theorem dX8_freeOne_10 : decode cX8_freeOne 10 = .ok (.aload_n 0, 1) := by decide +kernel
theorem dX8_freeOne_11 : decode cX8_freeOne 11 = .ok (.iload_n 1, 1) := by decide +kernel
theorem dX8_freeOne_12 : decode cX8_freeOne 12 = .ok (.invokestatic 49, 3) := by decide +kernel
theorem dX8_freeOne_15 : decode cX8_freeOne 15 = .ok (.sipush (-1005), 3) := by decide +kernel
theorem dX8_freeOne_18 : decode cX8_freeOne 18 = .ok (.if_icmp .ne 5, 3) := by decide +kernel
theorem dX8_freeOne_21 : decode cX8_freeOne 21 = .ok (.iload_n 1, 1) := by decide +kernel
theorem dX8_freeOne_22 : decode cX8_freeOne 22 = .ok (.ireturn, 1) := by decide +kernel
theorem dX8_freeOne_23 : decode cX8_freeOne 23 = .ok (.iinc 1 1, 3) := by decide +kernel
theorem dX8_freeOne_26 : decode cX8_freeOne 26 = .ok (.goto (-24), 3) := by decide +kernel
theorem dX8_freeOne_29 : decode cX8_freeOne 29 = .ok (.sipush (-1005), 3) := by decide +kernel
theorem dX8_freeOne_32 : decode cX8_freeOne 32 = .ok (.ireturn, 1) := by decide +kernel
theorem dX8_latest_0 : decode cX8_latest 0 = .ok (.iconst 0, 1) := by decide +kernel
theorem dX8_latest_1 : decode cX8_latest 1 = .ok (.istore_n 1, 1) := by decide +kernel
theorem dX8_latest_2 : decode cX8_latest 2 = .ok (.iconst 1, 1) := by decide +kernel
theorem dX8_latest_3 : decode cX8_latest 3 = .ok (.istore_n 2, 1) := by decide +kernel
theorem dX8_latest_4 : decode cX8_latest 4 = .ok (.iload_n 2, 1) := by decide +kernel
theorem dX8_latest_5 : decode cX8_latest 5 = .ok (.aload_n 0, 1) := by decide +kernel
theorem dX8_latest_6 : decode cX8_latest 6 = .ok (.bipush 10, 2) := by decide +kernel
theorem dX8_latest_8 : decode cX8_latest 8 = .ok (.iaload, 1) := by decide +kernel
theorem dX8_latest_9 : decode cX8_latest 9 = .ok (.if_icmp .ge 28, 3) := by decide +kernel
theorem dX8_latest_12 : decode cX8_latest 12 = .ok (.aload_n 0, 1) := by decide +kernel
theorem dX8_latest_13 : decode cX8_latest 13 = .ok (.iload_n 2, 1) := by decide +kernel
theorem dX8_latest_14 : decode cX8_latest 14 = .ok (.invokestatic 49, 3) := by decide +kernel
theorem dX8_latest_17 : decode cX8_latest 17 = .ok (.aload_n 0, 1) := by decide +kernel
theorem dX8_latest_18 : decode cX8_latest 18 = .ok (.iload_n 1, 1) := by decide +kernel
theorem dX8_latest_19 : decode cX8_latest 19 = .ok (.invokestatic 49, 3) := by decide +kernel
theorem dX8_latest_22 : decode cX8_latest 22 = .ok (.if_icmp .le 7, 3) := by decide +kernel
theorem dX8_latest_25 : decode cX8_latest 25 = .ok (.iload_n 2, 1) := by decide +kernel
theorem dX8_latest_26 : decode cX8_latest 26 = .ok (.goto 4, 3) := by decide +kernel
theorem dX8_latest_29 : decode cX8_latest 29 = .ok (.iload_n 1, 1) := by decide +kernel
theorem dX8_latest_30 : decode cX8_latest 30 = .ok (.istore_n 1, 1) := by decide +kernel
theorem dX8_latest_31 : decode cX8_latest 31 = .ok (.iinc 2 1, 3) := by decide +kernel
theorem dX8_latest_34 : decode cX8_latest 34 = .ok (.goto (-30), 3) := by decide +kernel
theorem dX8_latest_37 : decode cX8_latest 37 = .ok (.iload_n 1, 1) := by decide +kernel
theorem dX8_latest_38 : decode cX8_latest 38 = .ok (.ireturn, 1) := by decide +kernel
theorem dX8_frees_0 : decode cX8_frees 0 = .ok (.iconst 0, 1) := by decide +kernel
theorem dX8_frees_1 : decode cX8_frees 1 = .ok (.istore_n 2, 1) := by decide +kernel
theorem dX8_frees_2 : decode cX8_frees 2 = .ok (.iload_n 2, 1) := by decide +kernel
theorem dX8_frees_3 : decode cX8_frees 3 = .ok (.aload_n 0, 1) := by decide +kernel
theorem dX8_frees_4 : decode cX8_frees 4 = .ok (.iconst 2, 1) := by decide +kernel
theorem dX8_frees_5 : decode cX8_frees 5 = .ok (.iaload, 1) := by decide +kernel
theorem dX8_frees_6 : decode cX8_frees 6 = .ok (.if_icmp .ge 28, 3) := by decide +kernel
theorem dX8_frees_9 : decode cX8_frees 9 = .ok (.aload_n 0, 1) := by decide +kernel
theorem dX8_frees_10 : decode cX8_frees 10 = .ok (.iload_n 2, 1) := by decide +kernel
theorem dX8_frees_11 : decode cX8_frees 11 = .ok (.iconst 4, 1) := by decide +kernel
theorem dX8_frees_12 : decode cX8_frees 12 = .ok (.invokestatic 37, 3) := by decide +kernel
theorem dX8_frees_15 : decode cX8_frees 15 = .ok (.iload_n 1, 1) := by decide +kernel
theorem dX8_frees_16 : decode cX8_frees 16 = .ok (.if_icmp .ne 12, 3) := by decide +kernel
theorem dX8_frees_19 : decode cX8_frees 19 = .ok (.aload_n 0, 1) := by decide +kernel
theorem dX8_frees_20 : decode cX8_frees 20 = .ok (.iload_n 2, 1) := by decide +kernel
theorem dX8_frees_21 : decode cX8_frees 21 = .ok (.iconst 4, 1) := by decide +kernel
theorem dX8_frees_22 : decode cX8_frees 22 = .ok (.sipush (-1005), 3) := by decide +kernel
theorem dX8_frees_25 : decode cX8_frees 25 = .ok (.invokestatic 56, 3) := by decide +kernel
theorem dX8_frees_28 : decode cX8_frees 28 = .ok (.iinc 2 1, 3) := by decide +kernel
theorem dX8_frees_31 : decode cX8_frees 31 = .ok (.goto (-29), 3) := by decide +kernel
theorem dX8_frees_34 : decode cX8_frees 34 = .ok (.aload_n 0, 1) := by decide +kernel
theorem dX8_frees_35 : decode cX8_frees 35 = .ok (.sipush 154, 3) := by decide +kernel
theorem dX8_frees_38 : decode cX8_frees 38 = .ok (.iconst 2, 1) := by decide +kernel
theorem dX8_frees_39 : decode cX8_frees 39 = .ok (.iload_n 1, 1) := by decide +kernel
theorem dX8_frees_40 : decode cX8_frees 40 = .ok (.imul, 1) := by decide +kernel
theorem dX8_frees_41 : decode cX8_frees 41 = .ok (.iadd, 1) := by decide +kernel
theorem dX8_frees_42 : decode cX8_frees 42 = .ok (.sipush (-1005), 3) := by decide +kernel
theorem dX8_frees_45 : decode cX8_frees 45 = .ok (.iastore, 1) := by decide +kernel
theorem dX8_frees_46 : decode cX8_frees 46 = .ok (.aload_n 0, 1) := by decide +kernel
theorem dX8_frees_47 : decode cX8_frees 47 = .ok (.sipush 154, 3) := by decide +kernel
theorem dX8_frees_50 : decode cX8_frees 50 = .ok (.iconst 2, 1) := by decide +kernel
theorem dX8_frees_51 : decode cX8_frees 51 = .ok (.iload_n 1, 1) := by decide +kernel
theorem dX8_frees_52 : decode cX8_frees 52 = .ok (.imul, 1) := by decide +kernel
theorem dX8_frees_53 : decode cX8_frees 53 = .ok (.iadd, 1) := by decide +kernel
theorem dX8_frees_54 : decode cX8_frees 54 = .ok (.iconst 1, 1) := by decide +kernel
theorem dX8_frees_55 : decode cX8_frees 55 = .ok (.iadd, 1) := by decide +kernel
theorem dX8_frees_56 : decode cX8_frees 56 = .ok (.iconst 0, 1) := by decide +kernel
theorem dX8_frees_57 : decode cX8_frees 57 = .ok (.iastore, 1) := by decide +kernel
theorem dX8_frees_58 : decode cX8_frees 58 = .ok (.return_, 1) := by decide +kernel
theorem dX8_loads_0 : decode cX8_loads 0 = .ok (.aload_n 0, 1) := by decide +kernel
theorem dX8_loads_1 : decode cX8_loads 1 = .ok (.iload_n 2, 1) := by decide +kernel
theorem dX8_loads_2 : decode cX8_loads 2 = .ok (.iconst 4, 1) := by decide +kernel
theorem dX8_loads_3 : decode cX8_loads 3 = .ok (.iload_n 1, 1) := by decide +kernel
theorem dX8_loads_4 : decode cX8_loads 4 = .ok (.invokestatic 56, 3) := by decide +kernel
theorem dX8_loads_7 : decode cX8_loads 7 = .ok (.aload_n 0, 1) := by decide +kernel
theorem dX8_loads_8 : decode cX8_loads 8 = .ok (.sipush 154, 3) := by decide +kernel
theorem dX8_loads_11 : decode cX8_loads 11 = .ok (.iconst 2, 1) := by decide +kernel
theorem dX8_loads_12 : decode cX8_loads 12 = .ok (.iload_n 1, 1) := by decide +kernel
theorem dX8_loads_13 : decode cX8_loads 13 = .ok (.imul, 1) := by decide +kernel
theorem dX8_loads_14 : decode cX8_loads 14 = .ok (.iadd, 1) := by decide +kernel
theorem dX8_loads_15 : decode cX8_loads 15 = .ok (.aload_n 0, 1) := by decide +kernel
theorem dX8_loads_16 : decode cX8_loads 16 = .ok (.iload_n 2, 1) := by decide +kernel
theorem dX8_loads_17 : decode cX8_loads 17 = .ok (.iconst 1, 1) := by decide +kernel
theorem dX8_loads_18 : decode cX8_loads 18 = .ok (.invokestatic 37, 3) := by decide +kernel
theorem dX8_loads_21 : decode cX8_loads 21 = .ok (.iastore, 1) := by decide +kernel
theorem dX8_loads_22 : decode cX8_loads 22 = .ok (.aload_n 0, 1) := by decide +kernel
theorem dX8_loads_23 : decode cX8_loads 23 = .ok (.sipush 154, 3) := by decide +kernel
theorem dX8_loads_26 : decode cX8_loads 26 = .ok (.iconst 2, 1) := by decide +kernel
theorem dX8_loads_27 : decode cX8_loads 27 = .ok (.iload_n 1, 1) := by decide +kernel
theorem dX8_loads_28 : decode cX8_loads 28 = .ok (.imul, 1) := by decide +kernel
theorem dX8_loads_29 : decode cX8_loads 29 = .ok (.iadd, 1) := by decide +kernel
theorem dX8_loads_30 : decode cX8_loads 30 = .ok (.iconst 1, 1) := by decide +kernel
theorem dX8_loads_31 : decode cX8_loads 31 = .ok (.iadd, 1) := by decide +kernel
theorem dX8_loads_32 : decode cX8_loads 32 = .ok (.aload_n 0, 1) := by decide +kernel
theorem dX8_loads_33 : decode cX8_loads 33 = .ok (.bipush 12, 2) := by decide +kernel
theorem dX8_loads_35 : decode cX8_loads 35 = .ok (.iaload, 1) := by decide +kernel
theorem dX8_loads_36 : decode cX8_loads 36 = .ok (.iastore, 1) := by decide +kernel
theorem dX8_loads_37 : decode cX8_loads 37 = .ok (.aload_n 0, 1) := by decide +kernel
theorem dX8_loads_38 : decode cX8_loads 38 = .ok (.bipush 8, 2) := by decide +kernel
theorem dX8_loads_40 : decode cX8_loads 40 = .ok (.dup2, 1) := by decide +kernel
theorem dX8_loads_41 : decode cX8_loads 41 = .ok (.iaload, 1) := by decide +kernel
theorem dX8_loads_42 : decode cX8_loads 42 = .ok (.iconst 1, 1) := by decide +kernel
theorem dX8_loads_43 : decode cX8_loads 43 = .ok (.iadd, 1) := by decide +kernel
theorem dX8_loads_44 : decode cX8_loads 44 = .ok (.iastore, 1) := by decide +kernel
theorem dX8_loads_45 : decode cX8_loads 45 = .ok (.return_, 1) := by decide +kernel
theorem dX8_isShared_0 : decode cX8_isShared 0 = .ok (.aload_n 0, 1) := by decide +kernel
theorem dX8_isShared_1 : decode cX8_isShared 1 = .ok (.iload_n 1, 1) := by decide +kernel
theorem dX8_isShared_2 : decode cX8_isShared 2 = .ok (.iconst 1, 1) := by decide +kernel
theorem dX8_isShared_3 : decode cX8_isShared 3 = .ok (.invokestatic 37, 3) := by decide +kernel
theorem dX8_isShared_6 : decode cX8_isShared 6 = .ok (.istore_n 2, 1) := by decide +kernel
theorem dX8_isShared_7 : decode cX8_isShared 7 = .ok (.aload_n 0, 1) := by decide +kernel
theorem dX8_isShared_8 : decode cX8_isShared 8 = .ok (.iload_n 2, 1) := by decide +kernel
theorem dX8_isShared_9 : decode cX8_isShared 9 = .ok (.invokestatic 60, 3) := by decide +kernel
theorem dX8_isShared_12 : decode cX8_isShared 12 = .ok (.istore_n 3, 1) := by decide +kernel
theorem dX8_isShared_13 : decode cX8_isShared 13 = .ok (.iload_n 3, 1) := by decide +kernel
theorem dX8_isShared_14 : decode cX8_isShared 14 = .ok (.sipush (-1005), 3) := by decide +kernel
theorem dX8_isShared_17 : decode cX8_isShared 17 = .ok (.if_icmp .eq 28, 3) := by decide +kernel
theorem dX8_isShared_20 : decode cX8_isShared 20 = .ok (.aload_n 0, 1) := by decide +kernel
theorem dX8_isShared_21 : decode cX8_isShared 21 = .ok (.iload_n 1, 1) := by decide +kernel
theorem dX8_isShared_22 : decode cX8_isShared 22 = .ok (.iconst 4, 1) := by decide +kernel
theorem dX8_isShared_23 : decode cX8_isShared 23 = .ok (.iload_n 3, 1) := by decide +kernel
theorem dX8_isShared_24 : decode cX8_isShared 24 = .ok (.invokestatic 56, 3) := by decide +kernel
theorem dX8_isShared_27 : decode cX8_isShared 27 = .ok (.aload_n 0, 1) := by decide +kernel
theorem dX8_isShared_28 : decode cX8_isShared 28 = .ok (.sipush 154, 3) := by decide +kernel
theorem dX8_isShared_31 : decode cX8_isShared 31 = .ok (.iconst 2, 1) := by decide +kernel
theorem dX8_isShared_32 : decode cX8_isShared 32 = .ok (.iload_n 3, 1) := by decide +kernel
theorem dX8_isShared_33 : decode cX8_isShared 33 = .ok (.imul, 1) := by decide +kernel
theorem dX8_isShared_34 : decode cX8_isShared 34 = .ok (.iadd, 1) := by decide +kernel
theorem dX8_isShared_35 : decode cX8_isShared 35 = .ok (.aload_n 0, 1) := by decide +kernel
theorem dX8_isShared_36 : decode cX8_isShared 36 = .ok (.iload_n 3, 1) := by decide +kernel
theorem dX8_isShared_37 : decode cX8_isShared 37 = .ok (.iload_n 2, 1) := by decide +kernel
theorem dX8_isShared_38 : decode cX8_isShared 38 = .ok (.iconst 1, 1) := by decide +kernel
theorem dX8_isShared_39 : decode cX8_isShared 39 = .ok (.invokestatic 45, 3) := by decide +kernel
theorem dX8_isShared_42 : decode cX8_isShared 42 = .ok (.iastore, 1) := by decide +kernel
theorem dX8_isShared_43 : decode cX8_isShared 43 = .ok (.iconst 1, 1) := by decide +kernel
theorem dX8_isShared_44 : decode cX8_isShared 44 = .ok (.ireturn, 1) := by decide +kernel
theorem dX8_isShared_45 : decode cX8_isShared 45 = .ok (.aload_n 0, 1) := by decide +kernel
theorem dX8_isShared_46 : decode cX8_isShared 46 = .ok (.invokestatic 63, 3) := by decide +kernel
theorem dX8_isShared_49 : decode cX8_isShared 49 = .ok (.istore_n 3, 1) := by decide +kernel
theorem dX8_isShared_50 : decode cX8_isShared 50 = .ok (.iload_n 3, 1) := by decide +kernel
theorem dX8_isShared_51 : decode cX8_isShared 51 = .ok (.sipush (-1005), 3) := by decide +kernel
theorem dX8_isShared_54 : decode cX8_isShared 54 = .ok (.if_icmp .ne 32, 3) := by decide +kernel
theorem dX8_isShared_57 : decode cX8_isShared 57 = .ok (.aload_n 0, 1) := by decide +kernel
theorem dX8_isShared_58 : decode cX8_isShared 58 = .ok (.invokestatic 67, 3) := by decide +kernel
theorem dX8_isShared_61 : decode cX8_isShared 61 = .ok (.istore_n 3, 1) := by decide +kernel
theorem dX8_isShared_62 : decode cX8_isShared 62 = .ok (.aload_n 0, 1) := by decide +kernel
theorem dX8_isShared_63 : decode cX8_isShared 63 = .ok (.iload_n 3, 1) := by decide +kernel
theorem dX8_isShared_64 : decode cX8_isShared 64 = .ok (.invokestatic 49, 3) := by decide +kernel
theorem dX8_isShared_67 : decode cX8_isShared 67 = .ok (.iload_n 2, 1) := by decide +kernel
theorem dX8_isShared_68 : decode cX8_isShared 68 = .ok (.if_icmp .gt 5, 3) := by decide +kernel
theorem dX8_isShared_71 : decode cX8_isShared 71 = .ok (.iconst 0, 1) := by decide +kernel
theorem dX8_isShared_72 : decode cX8_isShared 72 = .ok (.ireturn, 1) := by decide +kernel
theorem dX8_isShared_73 : decode cX8_isShared 73 = .ok (.aload_n 0, 1) := by decide +kernel
theorem dX8_isShared_74 : decode cX8_isShared 74 = .ok (.iload_n 3, 1) := by decide +kernel
theorem dX8_isShared_75 : decode cX8_isShared 75 = .ok (.invokestatic 70, 3) := by decide +kernel
theorem dX8_isShared_78 : decode cX8_isShared 78 = .ok (.aload_n 0, 1) := by decide +kernel
theorem dX8_isShared_79 : decode cX8_isShared 79 = .ok (.bipush 9, 2) := by decide +kernel
theorem dX8_isShared_81 : decode cX8_isShared 81 = .ok (.dup2, 1) := by decide +kernel
theorem dX8_isShared_82 : decode cX8_isShared 82 = .ok (.iaload, 1) := by decide +kernel
theorem dX8_isShared_83 : decode cX8_isShared 83 = .ok (.iconst 1, 1) := by decide +kernel
theorem dX8_isShared_84 : decode cX8_isShared 84 = .ok (.iadd, 1) := by decide +kernel
theorem dX8_isShared_85 : decode cX8_isShared 85 = .ok (.iastore, 1) := by decide +kernel
theorem dX8_isShared_86 : decode cX8_isShared 86 = .ok (.aload_n 0, 1) := by decide +kernel
theorem dX8_isShared_87 : decode cX8_isShared 87 = .ok (.iload_n 3, 1) := by decide +kernel
theorem dX8_isShared_88 : decode cX8_isShared 88 = .ok (.iload_n 1, 1) := by decide +kernel
theorem dX8_isShared_89 : decode cX8_isShared 89 = .ok (.invokestatic 74, 3) := by decide +kernel
theorem dX8_isShared_92 : decode cX8_isShared 92 = .ok (.iconst 1, 1) := by decide +kernel
theorem dX8_isShared_93 : decode cX8_isShared 93 = .ok (.ireturn, 1) := by decide +kernel
theorem dX8_shares_0 : decode cX8_shares 0 = .ok (.aload_n 0, 1) := by decide +kernel
theorem dX8_shares_1 : decode cX8_shares 1 = .ok (.sipush (-1005), 3) := by decide +kernel
theorem dX8_shares_4 : decode cX8_shares 4 = .ok (.invokestatic 78, 3) := by decide +kernel
theorem dX8_shares_7 : decode cX8_shares 7 = .ok (.istore_n 1, 1) := by decide +kernel
theorem dX8_shares_8 : decode cX8_shares 8 = .ok (.iload_n 1, 1) := by decide +kernel
theorem dX8_shares_9 : decode cX8_shares 9 = .ok (.sipush (-1005), 3) := by decide +kernel
theorem dX8_shares_12 : decode cX8_shares 12 = .ok (.if_icmp .eq 28, 3) := by decide +kernel
theorem dX8_shares_15 : decode cX8_shares 15 = .ok (.aload_n 0, 1) := by decide +kernel
theorem dX8_shares_16 : decode cX8_shares 16 = .ok (.iload_n 1, 1) := by decide +kernel
theorem dX8_shares_17 : decode cX8_shares 17 = .ok (.invokestatic 81, 3) := by decide +kernel
theorem dX8_shares_20 : decode cX8_shares 20 = .ok (.ifCond .eq 13, 3) := by decide +kernel
theorem dX8_shares_23 : decode cX8_shares 23 = .ok (.aload_n 0, 1) := by decide +kernel
theorem dX8_shares_24 : decode cX8_shares 24 = .ok (.sipush (-1005), 3) := by decide +kernel
theorem dX8_shares_27 : decode cX8_shares 27 = .ok (.invokestatic 78, 3) := by decide +kernel
theorem dX8_shares_30 : decode cX8_shares 30 = .ok (.goto 6, 3) := by decide +kernel
theorem dX8_shares_33 : decode cX8_shares 33 = .ok (.sipush (-1005), 3) := by decide +kernel
theorem dX8_shares_36 : decode cX8_shares 36 = .ok (.istore_n 1, 1) := by decide +kernel
theorem dX8_shares_37 : decode cX8_shares 37 = .ok (.goto (-29), 3) := by decide +kernel
theorem dX8_shares_40 : decode cX8_shares 40 = .ok (.return_, 1) := by decide +kernel
theorem dX8_takesOff_0 : decode cX8_takesOff 0 = .ok (.aload_n 0, 1) := by decide +kernel
theorem dX8_takesOff_1 : decode cX8_takesOff 1 = .ok (.iload_n 1, 1) := by decide +kernel
theorem dX8_takesOff_2 : decode cX8_takesOff 2 = .ok (.iconst 4, 1) := by decide +kernel
theorem dX8_takesOff_3 : decode cX8_takesOff 3 = .ok (.invokestatic 37, 3) := by decide +kernel
theorem dX8_takesOff_6 : decode cX8_takesOff 6 = .ok (.istore_n 2, 1) := by decide +kernel
theorem dX8_takesOff_7 : decode cX8_takesOff 7 = .ok (.iload_n 2, 1) := by decide +kernel
theorem dX8_takesOff_8 : decode cX8_takesOff 8 = .ok (.sipush (-1005), 3) := by decide +kernel
theorem dX8_takesOff_11 : decode cX8_takesOff 11 = .ok (.if_icmp .ne 4, 3) := by decide +kernel
theorem dX8_takesOff_14 : decode cX8_takesOff 14 = .ok (.return_, 1) := by decide +kernel
theorem dX8_takesOff_15 : decode cX8_takesOff 15 = .ok (.aload_n 0, 1) := by decide +kernel
theorem dX8_takesOff_16 : decode cX8_takesOff 16 = .ok (.iload_n 1, 1) := by decide +kernel
theorem dX8_takesOff_17 : decode cX8_takesOff 17 = .ok (.iconst 4, 1) := by decide +kernel
theorem dX8_takesOff_18 : decode cX8_takesOff 18 = .ok (.sipush (-1005), 3) := by decide +kernel
theorem dX8_takesOff_21 : decode cX8_takesOff 21 = .ok (.invokestatic 56, 3) := by decide +kernel
theorem dX8_takesOff_24 : decode cX8_takesOff 24 = .ok (.aload_n 0, 1) := by decide +kernel
theorem dX8_takesOff_25 : decode cX8_takesOff 25 = .ok (.iload_n 2, 1) := by decide +kernel
theorem dX8_takesOff_26 : decode cX8_takesOff 26 = .ok (.invokestatic 78, 3) := by decide +kernel
theorem dX8_takesOff_29 : decode cX8_takesOff 29 = .ok (.istore_n 3, 1) := by decide +kernel
theorem dX8_takesOff_30 : decode cX8_takesOff 30 = .ok (.iload_n 3, 1) := by decide +kernel
theorem dX8_takesOff_31 : decode cX8_takesOff 31 = .ok (.sipush (-1005), 3) := by decide +kernel
theorem dX8_takesOff_34 : decode cX8_takesOff 34 = .ok (.if_icmp .ne 11, 3) := by decide +kernel
theorem dX8_takesOff_37 : decode cX8_takesOff 37 = .ok (.aload_n 0, 1) := by decide +kernel
theorem dX8_takesOff_38 : decode cX8_takesOff 38 = .ok (.iload_n 2, 1) := by decide +kernel
theorem dX8_takesOff_39 : decode cX8_takesOff 39 = .ok (.invokestatic 70, 3) := by decide +kernel
theorem dX8_takesOff_42 : decode cX8_takesOff 42 = .ok (.goto 24, 3) := by decide +kernel
theorem dX8_takesOff_45 : decode cX8_takesOff 45 = .ok (.aload_n 0, 1) := by decide +kernel
theorem dX8_takesOff_46 : decode cX8_takesOff 46 = .ok (.sipush 154, 3) := by decide +kernel
theorem dX8_takesOff_49 : decode cX8_takesOff 49 = .ok (.iconst 2, 1) := by decide +kernel
theorem dX8_takesOff_50 : decode cX8_takesOff 50 = .ok (.iload_n 2, 1) := by decide +kernel
theorem dX8_takesOff_51 : decode cX8_takesOff 51 = .ok (.imul, 1) := by decide +kernel
theorem dX8_takesOff_52 : decode cX8_takesOff 52 = .ok (.iadd, 1) := by decide +kernel
theorem dX8_takesOff_53 : decode cX8_takesOff 53 = .ok (.aload_n 0, 1) := by decide +kernel
theorem dX8_takesOff_54 : decode cX8_takesOff 54 = .ok (.iload_n 2, 1) := by decide +kernel
theorem dX8_takesOff_55 : decode cX8_takesOff 55 = .ok (.aload_n 0, 1) := by decide +kernel
theorem dX8_takesOff_56 : decode cX8_takesOff 56 = .ok (.iload_n 3, 1) := by decide +kernel
theorem dX8_takesOff_57 : decode cX8_takesOff 57 = .ok (.iconst 1, 1) := by decide +kernel
theorem dX8_takesOff_58 : decode cX8_takesOff 58 = .ok (.invokestatic 37, 3) := by decide +kernel
theorem dX8_takesOff_61 : decode cX8_takesOff 61 = .ok (.iconst 1, 1) := by decide +kernel
theorem dX8_takesOff_62 : decode cX8_takesOff 62 = .ok (.invokestatic 45, 3) := by decide +kernel
theorem dX8_takesOff_65 : decode cX8_takesOff 65 = .ok (.iastore, 1) := by decide +kernel
theorem dX8_takesOff_66 : decode cX8_takesOff 66 = .ok (.return_, 1) := by decide +kernel
theorem dX8_removes_0 : decode cX8_removes 0 = .ok (.aload_n 0, 1) := by decide +kernel
theorem dX8_removes_1 : decode cX8_removes 1 = .ok (.iconst 2, 1) := by decide +kernel
theorem dX8_removes_2 : decode cX8_removes 2 = .ok (.dup2, 1) := by decide +kernel
theorem dX8_removes_3 : decode cX8_removes 3 = .ok (.iaload, 1) := by decide +kernel
theorem dX8_removes_4 : decode cX8_removes 4 = .ok (.iconst 1, 1) := by decide +kernel
theorem dX8_removes_5 : decode cX8_removes 5 = .ok (.isub, 1) := by decide +kernel
theorem dX8_removes_6 : decode cX8_removes 6 = .ok (.iastore, 1) := by decide +kernel
theorem dX8_removes_7 : decode cX8_removes 7 = .ok (.bipush 7, 2) := by decide +kernel
theorem dX8_removes_9 : decode cX8_removes 9 = .ok (.iload_n 1, 1) := by decide +kernel
theorem dX8_removes_10 : decode cX8_removes 10 = .ok (.imul, 1) := by decide +kernel
theorem dX8_removes_11 : decode cX8_removes 11 = .ok (.istore_n 2, 1) := by decide +kernel
theorem dX8_removes_12 : decode cX8_removes 12 = .ok (.iload_n 2, 1) := by decide +kernel
theorem dX8_removes_13 : decode cX8_removes 13 = .ok (.bipush 7, 2) := by decide +kernel
theorem dX8_removes_15 : decode cX8_removes 15 = .ok (.aload_n 0, 1) := by decide +kernel
theorem dX8_removes_16 : decode cX8_removes 16 = .ok (.iconst 2, 1) := by decide +kernel
theorem dX8_removes_17 : decode cX8_removes 17 = .ok (.iaload, 1) := by decide +kernel
theorem dX8_removes_18 : decode cX8_removes 18 = .ok (.imul, 1) := by decide +kernel
theorem dX8_removes_19 : decode cX8_removes 19 = .ok (.if_icmp .ge 24, 3) := by decide +kernel
theorem dX8_removes_22 : decode cX8_removes 22 = .ok (.aload_n 0, 1) := by decide +kernel
theorem dX8_removes_23 : decode cX8_removes 23 = .ok (.bipush 14, 2) := by decide +kernel
theorem dX8_removes_25 : decode cX8_removes 25 = .ok (.iload_n 2, 1) := by decide +kernel
theorem dX8_removes_26 : decode cX8_removes 26 = .ok (.iadd, 1) := by decide +kernel
theorem dX8_removes_27 : decode cX8_removes 27 = .ok (.aload_n 0, 1) := by decide +kernel
theorem dX8_removes_28 : decode cX8_removes 28 = .ok (.bipush 14, 2) := by decide +kernel
theorem dX8_removes_30 : decode cX8_removes 30 = .ok (.iload_n 2, 1) := by decide +kernel
theorem dX8_removes_31 : decode cX8_removes 31 = .ok (.iadd, 1) := by decide +kernel
theorem dX8_removes_32 : decode cX8_removes 32 = .ok (.bipush 7, 2) := by decide +kernel
theorem dX8_removes_34 : decode cX8_removes 34 = .ok (.iadd, 1) := by decide +kernel
theorem dX8_removes_35 : decode cX8_removes 35 = .ok (.iaload, 1) := by decide +kernel
theorem dX8_removes_36 : decode cX8_removes 36 = .ok (.iastore, 1) := by decide +kernel
theorem dX8_removes_37 : decode cX8_removes 37 = .ok (.iinc 2 1, 3) := by decide +kernel
theorem dX8_removes_40 : decode cX8_removes 40 = .ok (.goto (-28), 3) := by decide +kernel
theorem dX8_removes_43 : decode cX8_removes 43 = .ok (.iconst 0, 1) := by decide +kernel
theorem dX8_removes_44 : decode cX8_removes 44 = .ok (.istore_n 2, 1) := by decide +kernel
theorem dX8_removes_45 : decode cX8_removes 45 = .ok (.iload_n 2, 1) := by decide +kernel
theorem dX8_removes_46 : decode cX8_removes 46 = .ok (.bipush 7, 2) := by decide +kernel
theorem dX8_removes_48 : decode cX8_removes 48 = .ok (.if_icmp .ge 23, 3) := by decide +kernel
theorem dX8_removes_51 : decode cX8_removes 51 = .ok (.aload_n 0, 1) := by decide +kernel
theorem dX8_removes_52 : decode cX8_removes 52 = .ok (.bipush 14, 2) := by decide +kernel
theorem dX8_removes_54 : decode cX8_removes 54 = .ok (.bipush 7, 2) := by decide +kernel
theorem dX8_removes_56 : decode cX8_removes 56 = .ok (.aload_n 0, 1) := by decide +kernel
theorem dX8_removes_57 : decode cX8_removes 57 = .ok (.iconst 2, 1) := by decide +kernel
theorem dX8_removes_58 : decode cX8_removes 58 = .ok (.iaload, 1) := by decide +kernel
theorem dX8_removes_59 : decode cX8_removes 59 = .ok (.imul, 1) := by decide +kernel
theorem dX8_removes_60 : decode cX8_removes 60 = .ok (.iadd, 1) := by decide +kernel
theorem dX8_removes_61 : decode cX8_removes 61 = .ok (.iload_n 2, 1) := by decide +kernel
theorem dX8_removes_62 : decode cX8_removes 62 = .ok (.iadd, 1) := by decide +kernel
theorem dX8_removes_63 : decode cX8_removes 63 = .ok (.iconst 0, 1) := by decide +kernel
theorem dX8_removes_64 : decode cX8_removes 64 = .ok (.iastore, 1) := by decide +kernel
theorem dX8_removes_65 : decode cX8_removes 65 = .ok (.iinc 2 1, 3) := by decide +kernel
theorem dX8_removes_68 : decode cX8_removes 68 = .ok (.goto (-23), 3) := by decide +kernel
theorem dX8_removes_71 : decode cX8_removes 71 = .ok (.return_, 1) := by decide +kernel
theorem dX8_logs_0 : decode cX8_logs 0 = .ok (.bipush 31, 2) := by decide +kernel
theorem dX8_logs_2 : decode cX8_logs 2 = .ok (.istore 4, 2) := by decide +kernel
theorem dX8_logs_4 : decode cX8_logs 4 = .ok (.iload 4, 2) := by decide +kernel
theorem dX8_logs_6 : decode cX8_logs 6 = .ok (.iconst 3, 1) := by decide +kernel
theorem dX8_logs_7 : decode cX8_logs 7 = .ok (.if_icmp .le 27, 3) := by decide +kernel
theorem dX8_logs_10 : decode cX8_logs 10 = .ok (.aload_n 0, 1) := by decide +kernel
theorem dX8_logs_11 : decode cX8_logs 11 = .ok (.sipush 162, 3) := by decide +kernel
theorem dX8_logs_14 : decode cX8_logs 14 = .ok (.iload 4, 2) := by decide +kernel
theorem dX8_logs_16 : decode cX8_logs 16 = .ok (.iadd, 1) := by decide +kernel
theorem dX8_logs_17 : decode cX8_logs 17 = .ok (.aload_n 0, 1) := by decide +kernel
theorem dX8_logs_18 : decode cX8_logs 18 = .ok (.sipush 162, 3) := by decide +kernel
theorem dX8_logs_21 : decode cX8_logs 21 = .ok (.iload 4, 2) := by decide +kernel
theorem dX8_logs_23 : decode cX8_logs 23 = .ok (.iadd, 1) := by decide +kernel
theorem dX8_logs_24 : decode cX8_logs 24 = .ok (.iconst 4, 1) := by decide +kernel
theorem dX8_logs_25 : decode cX8_logs 25 = .ok (.isub, 1) := by decide +kernel
theorem dX8_logs_26 : decode cX8_logs 26 = .ok (.iaload, 1) := by decide +kernel
theorem dX8_logs_27 : decode cX8_logs 27 = .ok (.iastore, 1) := by decide +kernel
theorem dX8_logs_28 : decode cX8_logs 28 = .ok (.iinc 4 (-1), 3) := by decide +kernel
theorem dX8_logs_31 : decode cX8_logs 31 = .ok (.goto (-27), 3) := by decide +kernel
theorem dX8_logs_34 : decode cX8_logs 34 = .ok (.aload_n 0, 1) := by decide +kernel
theorem dX8_logs_35 : decode cX8_logs 35 = .ok (.sipush 162, 3) := by decide +kernel
theorem dX8_logs_38 : decode cX8_logs 38 = .ok (.iload_n 1, 1) := by decide +kernel
theorem dX8_logs_39 : decode cX8_logs 39 = .ok (.iastore, 1) := by decide +kernel
theorem dX8_logs_40 : decode cX8_logs 40 = .ok (.aload_n 0, 1) := by decide +kernel
theorem dX8_logs_41 : decode cX8_logs 41 = .ok (.sipush 163, 3) := by decide +kernel
theorem dX8_logs_44 : decode cX8_logs 44 = .ok (.aload_n 0, 1) := by decide +kernel
theorem dX8_logs_45 : decode cX8_logs 45 = .ok (.iconst 0, 1) := by decide +kernel
theorem dX8_logs_46 : decode cX8_logs 46 = .ok (.iaload, 1) := by decide +kernel
theorem dX8_logs_47 : decode cX8_logs 47 = .ok (.iastore, 1) := by decide +kernel
theorem dX8_logs_48 : decode cX8_logs 48 = .ok (.aload_n 0, 1) := by decide +kernel
theorem dX8_logs_49 : decode cX8_logs 49 = .ok (.sipush 164, 3) := by decide +kernel
theorem dX8_logs_52 : decode cX8_logs 52 = .ok (.iload_n 2, 1) := by decide +kernel
theorem dX8_logs_53 : decode cX8_logs 53 = .ok (.iastore, 1) := by decide +kernel
theorem dX8_logs_54 : decode cX8_logs 54 = .ok (.aload_n 0, 1) := by decide +kernel
theorem dX8_logs_55 : decode cX8_logs 55 = .ok (.sipush 165, 3) := by decide +kernel
theorem dX8_logs_58 : decode cX8_logs 58 = .ok (.iload_n 3, 1) := by decide +kernel
theorem dX8_logs_59 : decode cX8_logs 59 = .ok (.iastore, 1) := by decide +kernel
theorem dX8_logs_60 : decode cX8_logs 60 = .ok (.aload_n 0, 1) := by decide +kernel
theorem dX8_logs_61 : decode cX8_logs 61 = .ok (.sipush 194, 3) := by decide +kernel
theorem dX8_logs_64 : decode cX8_logs 64 = .ok (.dup2, 1) := by decide +kernel
theorem dX8_logs_65 : decode cX8_logs 65 = .ok (.iaload, 1) := by decide +kernel
theorem dX8_logs_66 : decode cX8_logs 66 = .ok (.aload_n 0, 1) := by decide +kernel
theorem dX8_logs_67 : decode cX8_logs 67 = .ok (.sipush 194, 3) := by decide +kernel
theorem dX8_logs_70 : decode cX8_logs 70 = .ok (.iaload, 1) := by decide +kernel
theorem dX8_logs_71 : decode cX8_logs 71 = .ok (.bipush 8, 2) := by decide +kernel
theorem dX8_logs_73 : decode cX8_logs 73 = .ok (.if_icmp .ge 7, 3) := by decide +kernel
theorem dX8_logs_76 : decode cX8_logs 76 = .ok (.iconst 1, 1) := by decide +kernel
theorem dX8_logs_77 : decode cX8_logs 77 = .ok (.goto 4, 3) := by decide +kernel
theorem dX8_logs_80 : decode cX8_logs 80 = .ok (.iconst 0, 1) := by decide +kernel
theorem dX8_logs_81 : decode cX8_logs 81 = .ok (.iadd, 1) := by decide +kernel
theorem dX8_logs_82 : decode cX8_logs 82 = .ok (.iastore, 1) := by decide +kernel
theorem dX8_logs_83 : decode cX8_logs 83 = .ok (.return_, 1) := by decide +kernel
theorem dX8_rings_0 : decode cX8_rings 0 = .ok (.aload_n 0, 1) := by decide +kernel
theorem dX8_rings_1 : decode cX8_rings 1 = .ok (.iconst 0, 1) := by decide +kernel
theorem dX8_rings_2 : decode cX8_rings 2 = .ok (.iaload, 1) := by decide +kernel
theorem dX8_rings_3 : decode cX8_rings 3 = .ok (.aload_n 0, 1) := by decide +kernel
theorem dX8_rings_4 : decode cX8_rings 4 = .ok (.iload_n 1, 1) := by decide +kernel
theorem dX8_rings_5 : decode cX8_rings 5 = .ok (.iconst 1, 1) := by decide +kernel
theorem dX8_rings_6 : decode cX8_rings 6 = .ok (.invokestatic 37, 3) := by decide +kernel
theorem dX8_rings_9 : decode cX8_rings 9 = .ok (.isub, 1) := by decide +kernel
theorem dX8_rings_10 : decode cX8_rings 10 = .ok (.istore_n 2, 1) := by decide +kernel
theorem dX8_rings_11 : decode cX8_rings 11 = .ok (.aload_n 0, 1) := by decide +kernel
theorem dX8_rings_12 : decode cX8_rings 12 = .ok (.aload_n 0, 1) := by decide +kernel
theorem dX8_rings_13 : decode cX8_rings 13 = .ok (.iload_n 1, 1) := by decide +kernel
theorem dX8_rings_14 : decode cX8_rings 14 = .ok (.iconst 0, 1) := by decide +kernel
theorem dX8_rings_15 : decode cX8_rings 15 = .ok (.invokestatic 37, 3) := by decide +kernel
theorem dX8_rings_18 : decode cX8_rings 18 = .ok (.iload_n 2, 1) := by decide +kernel
theorem dX8_rings_19 : decode cX8_rings 19 = .ok (.aload_n 0, 1) := by decide +kernel
theorem dX8_rings_20 : decode cX8_rings 20 = .ok (.iload_n 1, 1) := by decide +kernel
theorem dX8_rings_21 : decode cX8_rings 21 = .ok (.iconst 4, 1) := by decide +kernel
theorem dX8_rings_22 : decode cX8_rings 22 = .ok (.invokestatic 37, 3) := by decide +kernel
theorem dX8_rings_25 : decode cX8_rings 25 = .ok (.invokestatic 85, 3) := by decide +kernel
theorem dX8_rings_28 : decode cX8_rings 28 = .ok (.aload_n 0, 1) := by decide +kernel
theorem dX8_rings_29 : decode cX8_rings 29 = .ok (.iconst 4, 1) := by decide +kernel
theorem dX8_rings_30 : decode cX8_rings 30 = .ok (.dup2, 1) := by decide +kernel
theorem dX8_rings_31 : decode cX8_rings 31 = .ok (.iaload, 1) := by decide +kernel
theorem dX8_rings_32 : decode cX8_rings 32 = .ok (.iconst 1, 1) := by decide +kernel
theorem dX8_rings_33 : decode cX8_rings 33 = .ok (.iadd, 1) := by decide +kernel
theorem dX8_rings_34 : decode cX8_rings 34 = .ok (.iastore, 1) := by decide +kernel
theorem dX8_rings_35 : decode cX8_rings 35 = .ok (.aload_n 0, 1) := by decide +kernel
theorem dX8_rings_36 : decode cX8_rings 36 = .ok (.iconst 5, 1) := by decide +kernel
theorem dX8_rings_37 : decode cX8_rings 37 = .ok (.dup2, 1) := by decide +kernel
theorem dX8_rings_38 : decode cX8_rings 38 = .ok (.iaload, 1) := by decide +kernel
theorem dX8_rings_39 : decode cX8_rings 39 = .ok (.iload_n 2, 1) := by decide +kernel
theorem dX8_rings_40 : decode cX8_rings 40 = .ok (.iadd, 1) := by decide +kernel
theorem dX8_rings_41 : decode cX8_rings 41 = .ok (.iastore, 1) := by decide +kernel
theorem dX8_rings_42 : decode cX8_rings 42 = .ok (.aload_n 0, 1) := by decide +kernel
theorem dX8_rings_43 : decode cX8_rings 43 = .ok (.bipush 6, 2) := by decide +kernel
theorem dX8_rings_45 : decode cX8_rings 45 = .ok (.iload_n 2, 1) := by decide +kernel
theorem dX8_rings_46 : decode cX8_rings 46 = .ok (.aload_n 0, 1) := by decide +kernel
theorem dX8_rings_47 : decode cX8_rings 47 = .ok (.bipush 6, 2) := by decide +kernel
theorem dX8_rings_49 : decode cX8_rings 49 = .ok (.iaload, 1) := by decide +kernel
theorem dX8_rings_50 : decode cX8_rings 50 = .ok (.if_icmp .le 7, 3) := by decide +kernel
theorem dX8_rings_53 : decode cX8_rings 53 = .ok (.iload_n 2, 1) := by decide +kernel
theorem dX8_rings_54 : decode cX8_rings 54 = .ok (.goto 7, 3) := by decide +kernel
theorem dX8_rings_57 : decode cX8_rings 57 = .ok (.aload_n 0, 1) := by decide +kernel
theorem dX8_rings_58 : decode cX8_rings 58 = .ok (.bipush 6, 2) := by decide +kernel
theorem dX8_rings_60 : decode cX8_rings 60 = .ok (.iaload, 1) := by decide +kernel
theorem dX8_rings_61 : decode cX8_rings 61 = .ok (.iastore, 1) := by decide +kernel
theorem dX8_rings_62 : decode cX8_rings 62 = .ok (.aload_n 0, 1) := by decide +kernel
theorem dX8_rings_63 : decode cX8_rings 63 = .ok (.iload_n 1, 1) := by decide +kernel
theorem dX8_rings_64 : decode cX8_rings 64 = .ok (.iconst 2, 1) := by decide +kernel
theorem dX8_rings_65 : decode cX8_rings 65 = .ok (.invokestatic 37, 3) := by decide +kernel
theorem dX8_rings_68 : decode cX8_rings 68 = .ok (.ifCond .ne 9, 3) := by decide +kernel
theorem dX8_rings_71 : decode cX8_rings 71 = .ok (.aload_n 0, 1) := by decide +kernel
theorem dX8_rings_72 : decode cX8_rings 72 = .ok (.iload_n 1, 1) := by decide +kernel
theorem dX8_rings_73 : decode cX8_rings 73 = .ok (.invokestatic 88, 3) := by decide +kernel
theorem dX8_rings_76 : decode cX8_rings 76 = .ok (.return_, 1) := by decide +kernel
theorem dX8_rings_77 : decode cX8_rings 77 = .ok (.aload_n 0, 1) := by decide +kernel
theorem dX8_rings_78 : decode cX8_rings 78 = .ok (.iload_n 1, 1) := by decide +kernel
theorem dX8_rings_79 : decode cX8_rings 79 = .ok (.iconst 5, 1) := by decide +kernel
theorem dX8_rings_80 : decode cX8_rings 80 = .ok (.aload_n 0, 1) := by decide +kernel
theorem dX8_rings_81 : decode cX8_rings 81 = .ok (.iload_n 1, 1) := by decide +kernel
theorem dX8_rings_82 : decode cX8_rings 82 = .ok (.iconst 5, 1) := by decide +kernel
theorem dX8_rings_83 : decode cX8_rings 83 = .ok (.invokestatic 37, 3) := by decide +kernel
theorem dX8_rings_86 : decode cX8_rings 86 = .ok (.iconst 1, 1) := by decide +kernel
theorem dX8_rings_87 : decode cX8_rings 87 = .ok (.iadd, 1) := by decide +kernel
theorem dX8_rings_88 : decode cX8_rings 88 = .ok (.invokestatic 56, 3) := by decide +kernel
theorem dX8_rings_91 : decode cX8_rings 91 = .ok (.aload_n 0, 1) := by decide +kernel
theorem dX8_rings_92 : decode cX8_rings 92 = .ok (.iload_n 1, 1) := by decide +kernel
theorem dX8_rings_93 : decode cX8_rings 93 = .ok (.bipush 6, 2) := by decide +kernel
theorem dX8_rings_95 : decode cX8_rings 95 = .ok (.iload_n 2, 1) := by decide +kernel
theorem dX8_rings_96 : decode cX8_rings 96 = .ok (.aload_n 0, 1) := by decide +kernel
theorem dX8_rings_97 : decode cX8_rings 97 = .ok (.iload_n 1, 1) := by decide +kernel
theorem dX8_rings_98 : decode cX8_rings 98 = .ok (.bipush 6, 2) := by decide +kernel
theorem dX8_rings_100 : decode cX8_rings 100 = .ok (.invokestatic 37, 3) := by decide +kernel
theorem dX8_rings_103 : decode cX8_rings 103 = .ok (.if_icmp .le 7, 3) := by decide +kernel
theorem dX8_rings_106 : decode cX8_rings 106 = .ok (.iload_n 2, 1) := by decide +kernel
theorem dX8_rings_107 : decode cX8_rings 107 = .ok (.goto 10, 3) := by decide +kernel
theorem dX8_rings_110 : decode cX8_rings 110 = .ok (.aload_n 0, 1) := by decide +kernel
theorem dX8_rings_111 : decode cX8_rings 111 = .ok (.iload_n 1, 1) := by decide +kernel
theorem dX8_rings_112 : decode cX8_rings 112 = .ok (.bipush 6, 2) := by decide +kernel
theorem dX8_rings_114 : decode cX8_rings 114 = .ok (.invokestatic 37, 3) := by decide +kernel
theorem dX8_rings_117 : decode cX8_rings 117 = .ok (.invokestatic 56, 3) := by decide +kernel
theorem dX8_rings_120 : decode cX8_rings 120 = .ok (.aload_n 0, 1) := by decide +kernel
theorem dX8_rings_121 : decode cX8_rings 121 = .ok (.iload_n 1, 1) := by decide +kernel
theorem dX8_rings_122 : decode cX8_rings 122 = .ok (.iconst 4, 1) := by decide +kernel
theorem dX8_rings_123 : decode cX8_rings 123 = .ok (.sipush (-1005), 3) := by decide +kernel
theorem dX8_rings_126 : decode cX8_rings 126 = .ok (.invokestatic 56, 3) := by decide +kernel
theorem dX8_rings_129 : decode cX8_rings 129 = .ok (.aload_n 0, 1) := by decide +kernel
theorem dX8_rings_130 : decode cX8_rings 130 = .ok (.iload_n 1, 1) := by decide +kernel
theorem dX8_rings_131 : decode cX8_rings 131 = .ok (.iconst 1, 1) := by decide +kernel
theorem dX8_rings_132 : decode cX8_rings 132 = .ok (.aload_n 0, 1) := by decide +kernel
theorem dX8_rings_133 : decode cX8_rings 133 = .ok (.iload_n 1, 1) := by decide +kernel
theorem dX8_rings_134 : decode cX8_rings 134 = .ok (.iconst 1, 1) := by decide +kernel
theorem dX8_rings_135 : decode cX8_rings 135 = .ok (.invokestatic 37, 3) := by decide +kernel
theorem dX8_rings_138 : decode cX8_rings 138 = .ok (.aload_n 0, 1) := by decide +kernel
theorem dX8_rings_139 : decode cX8_rings 139 = .ok (.iload_n 1, 1) := by decide +kernel
theorem dX8_rings_140 : decode cX8_rings 140 = .ok (.iconst 2, 1) := by decide +kernel
theorem dX8_rings_141 : decode cX8_rings 141 = .ok (.invokestatic 37, 3) := by decide +kernel
theorem dX8_rings_144 : decode cX8_rings 144 = .ok (.iadd, 1) := by decide +kernel
theorem dX8_rings_145 : decode cX8_rings 145 = .ok (.invokestatic 56, 3) := by decide +kernel
theorem dX8_rings_148 : decode cX8_rings 148 = .ok (.aload_n 0, 1) := by decide +kernel
theorem dX8_rings_149 : decode cX8_rings 149 = .ok (.iload_n 1, 1) := by decide +kernel
theorem dX8_rings_150 : decode cX8_rings 150 = .ok (.iconst 1, 1) := by decide +kernel
theorem dX8_rings_151 : decode cX8_rings 151 = .ok (.invokestatic 37, 3) := by decide +kernel
theorem dX8_rings_154 : decode cX8_rings 154 = .ok (.aload_n 0, 1) := by decide +kernel
theorem dX8_rings_155 : decode cX8_rings 155 = .ok (.iconst 0, 1) := by decide +kernel
theorem dX8_rings_156 : decode cX8_rings 156 = .ok (.iaload, 1) := by decide +kernel
theorem dX8_rings_157 : decode cX8_rings 157 = .ok (.if_icmp .gt 33, 3) := by decide +kernel
theorem dX8_rings_160 : decode cX8_rings 160 = .ok (.aload_n 0, 1) := by decide +kernel
theorem dX8_rings_161 : decode cX8_rings 161 = .ok (.bipush 7, 2) := by decide +kernel
theorem dX8_rings_163 : decode cX8_rings 163 = .ok (.dup2, 1) := by decide +kernel
theorem dX8_rings_164 : decode cX8_rings 164 = .ok (.iaload, 1) := by decide +kernel
theorem dX8_rings_165 : decode cX8_rings 165 = .ok (.iconst 1, 1) := by decide +kernel
theorem dX8_rings_166 : decode cX8_rings 166 = .ok (.iadd, 1) := by decide +kernel
theorem dX8_rings_167 : decode cX8_rings 167 = .ok (.iastore, 1) := by decide +kernel
theorem dX8_rings_168 : decode cX8_rings 168 = .ok (.aload_n 0, 1) := by decide +kernel
theorem dX8_rings_169 : decode cX8_rings 169 = .ok (.iload_n 1, 1) := by decide +kernel
theorem dX8_rings_170 : decode cX8_rings 170 = .ok (.iconst 1, 1) := by decide +kernel
theorem dX8_rings_171 : decode cX8_rings 171 = .ok (.aload_n 0, 1) := by decide +kernel
theorem dX8_rings_172 : decode cX8_rings 172 = .ok (.iload_n 1, 1) := by decide +kernel
theorem dX8_rings_173 : decode cX8_rings 173 = .ok (.iconst 1, 1) := by decide +kernel
theorem dX8_rings_174 : decode cX8_rings 174 = .ok (.invokestatic 37, 3) := by decide +kernel
theorem dX8_rings_177 : decode cX8_rings 177 = .ok (.aload_n 0, 1) := by decide +kernel
theorem dX8_rings_178 : decode cX8_rings 178 = .ok (.iload_n 1, 1) := by decide +kernel
theorem dX8_rings_179 : decode cX8_rings 179 = .ok (.iconst 2, 1) := by decide +kernel
theorem dX8_rings_180 : decode cX8_rings 180 = .ok (.invokestatic 37, 3) := by decide +kernel
theorem dX8_rings_183 : decode cX8_rings 183 = .ok (.iadd, 1) := by decide +kernel
theorem dX8_rings_184 : decode cX8_rings 184 = .ok (.invokestatic 56, 3) := by decide +kernel
theorem dX8_rings_187 : decode cX8_rings 187 = .ok (.goto (-39), 3) := by decide +kernel
theorem dX8_rings_190 : decode cX8_rings 190 = .ok (.return_, 1) := by decide +kernel
theorem dX8_ringsAll_0 : decode cX8_ringsAll 0 = .ok (.iconst 0, 1) := by decide +kernel
theorem dX8_ringsAll_1 : decode cX8_ringsAll 1 = .ok (.istore_n 2, 1) := by decide +kernel
theorem dX8_ringsAll_2 : decode cX8_ringsAll 2 = .ok (.aload_n 0, 1) := by decide +kernel
theorem dX8_ringsAll_3 : decode cX8_ringsAll 3 = .ok (.iload_n 1, 1) := by decide +kernel
theorem dX8_ringsAll_4 : decode cX8_ringsAll 4 = .ok (.invokestatic 78, 3) := by decide +kernel
theorem dX8_ringsAll_7 : decode cX8_ringsAll 7 = .ok (.istore_n 3, 1) := by decide +kernel
theorem dX8_ringsAll_8 : decode cX8_ringsAll 8 = .ok (.iload_n 3, 1) := by decide +kernel
theorem dX8_ringsAll_9 : decode cX8_ringsAll 9 = .ok (.sipush (-1005), 3) := by decide +kernel
theorem dX8_ringsAll_12 : decode cX8_ringsAll 12 = .ok (.if_icmp .eq 20, 3) := by decide +kernel
theorem dX8_ringsAll_15 : decode cX8_ringsAll 15 = .ok (.aload_n 0, 1) := by decide +kernel
theorem dX8_ringsAll_16 : decode cX8_ringsAll 16 = .ok (.iload_n 3, 1) := by decide +kernel
theorem dX8_ringsAll_17 : decode cX8_ringsAll 17 = .ok (.invokestatic 91, 3) := by decide +kernel
theorem dX8_ringsAll_20 : decode cX8_ringsAll 20 = .ok (.iinc 2 1, 3) := by decide +kernel
theorem dX8_ringsAll_23 : decode cX8_ringsAll 23 = .ok (.aload_n 0, 1) := by decide +kernel
theorem dX8_ringsAll_24 : decode cX8_ringsAll 24 = .ok (.iload_n 1, 1) := by decide +kernel
theorem dX8_ringsAll_25 : decode cX8_ringsAll 25 = .ok (.invokestatic 78, 3) := by decide +kernel
theorem dX8_ringsAll_28 : decode cX8_ringsAll 28 = .ok (.istore_n 3, 1) := by decide +kernel
theorem dX8_ringsAll_29 : decode cX8_ringsAll 29 = .ok (.goto (-21), 3) := by decide +kernel
theorem dX8_ringsAll_32 : decode cX8_ringsAll 32 = .ok (.aload_n 0, 1) := by decide +kernel
theorem dX8_ringsAll_33 : decode cX8_ringsAll 33 = .ok (.iload_n 1, 1) := by decide +kernel
theorem dX8_ringsAll_34 : decode cX8_ringsAll 34 = .ok (.invokestatic 70, 3) := by decide +kernel
theorem dX8_ringsAll_37 : decode cX8_ringsAll 37 = .ok (.iload_n 2, 1) := by decide +kernel
theorem dX8_ringsAll_38 : decode cX8_ringsAll 38 = .ok (.ireturn, 1) := by decide +kernel
theorem dX8_tick_0 : decode cX8_tick 0 = .ok (.aload_n 0, 1) := by decide +kernel
theorem dX8_tick_1 : decode cX8_tick 1 = .ok (.iconst 1, 1) := by decide +kernel
theorem dX8_tick_2 : decode cX8_tick 2 = .ok (.dup2, 1) := by decide +kernel
theorem dX8_tick_3 : decode cX8_tick 3 = .ok (.iaload, 1) := by decide +kernel
theorem dX8_tick_4 : decode cX8_tick 4 = .ok (.iconst 1, 1) := by decide +kernel
theorem dX8_tick_5 : decode cX8_tick 5 = .ok (.iadd, 1) := by decide +kernel
theorem dX8_tick_6 : decode cX8_tick 6 = .ok (.iastore, 1) := by decide +kernel
theorem dX8_tick_7 : decode cX8_tick 7 = .ok (.aload_n 0, 1) := by decide +kernel
theorem dX8_tick_8 : decode cX8_tick 8 = .ok (.bipush 13, 2) := by decide +kernel
theorem dX8_tick_10 : decode cX8_tick 10 = .ok (.iaload, 1) := by decide +kernel
theorem dX8_tick_11 : decode cX8_tick 11 = .ok (.istore_n 1, 1) := by decide +kernel
theorem dX8_tick_12 : decode cX8_tick 12 = .ok (.iload_n 1, 1) := by decide +kernel
theorem dX8_tick_13 : decode cX8_tick 13 = .ok (.ifCond .eq 15, 3) := by decide +kernel
theorem dX8_tick_16 : decode cX8_tick 16 = .ok (.aload_n 0, 1) := by decide +kernel
theorem dX8_tick_17 : decode cX8_tick 17 = .ok (.iconst 1, 1) := by decide +kernel
theorem dX8_tick_18 : decode cX8_tick 18 = .ok (.iaload, 1) := by decide +kernel
theorem dX8_tick_19 : decode cX8_tick 19 = .ok (.iload_n 1, 1) := by decide +kernel
theorem dX8_tick_20 : decode cX8_tick 20 = .ok (.irem, 1) := by decide +kernel
theorem dX8_tick_21 : decode cX8_tick 21 = .ok (.ifCond .ne 7, 3) := by decide +kernel
theorem dX8_tick_24 : decode cX8_tick 24 = .ok (.iconst 1, 1) := by decide +kernel
theorem dX8_tick_25 : decode cX8_tick 25 = .ok (.goto 4, 3) := by decide +kernel
theorem dX8_tick_28 : decode cX8_tick 28 = .ok (.iconst 0, 1) := by decide +kernel
theorem dX8_tick_29 : decode cX8_tick 29 = .ok (.istore_n 2, 1) := by decide +kernel
theorem dX8_tick_30 : decode cX8_tick 30 = .ok (.aload_n 0, 1) := by decide +kernel
theorem dX8_tick_31 : decode cX8_tick 31 = .ok (.iconst 0, 1) := by decide +kernel
theorem dX8_tick_32 : decode cX8_tick 32 = .ok (.dup2, 1) := by decide +kernel
theorem dX8_tick_33 : decode cX8_tick 33 = .ok (.iaload, 1) := by decide +kernel
theorem dX8_tick_34 : decode cX8_tick 34 = .ok (.iload_n 2, 1) := by decide +kernel
theorem dX8_tick_35 : decode cX8_tick 35 = .ok (.ifCond .ne 7, 3) := by decide +kernel
theorem dX8_tick_38 : decode cX8_tick 38 = .ok (.iconst 1, 1) := by decide +kernel
theorem dX8_tick_39 : decode cX8_tick 39 = .ok (.goto 12, 3) := by decide +kernel
theorem dX8_tick_42 : decode cX8_tick 42 = .ok (.iload_n 1, 1) := by decide +kernel
theorem dX8_tick_43 : decode cX8_tick 43 = .ok (.ifCond .le 7, 3) := by decide +kernel
theorem dX8_tick_46 : decode cX8_tick 46 = .ok (.iconst 2, 1) := by decide +kernel
theorem dX8_tick_47 : decode cX8_tick 47 = .ok (.goto 4, 3) := by decide +kernel
theorem dX8_tick_50 : decode cX8_tick 50 = .ok (.iconst 0, 1) := by decide +kernel
theorem dX8_tick_51 : decode cX8_tick 51 = .ok (.iadd, 1) := by decide +kernel
theorem dX8_tick_52 : decode cX8_tick 52 = .ok (.iastore, 1) := by decide +kernel
theorem dX8_tick_53 : decode cX8_tick 53 = .ok (.iconst 0, 1) := by decide +kernel
theorem dX8_tick_54 : decode cX8_tick 54 = .ok (.istore_n 3, 1) := by decide +kernel
theorem dX8_tick_55 : decode cX8_tick 55 = .ok (.iconst 0, 1) := by decide +kernel
theorem dX8_tick_56 : decode cX8_tick 56 = .ok (.istore 4, 2) := by decide +kernel
theorem dX8_tick_58 : decode cX8_tick 58 = .ok (.iload 4, 2) := by decide +kernel
theorem dX8_tick_60 : decode cX8_tick 60 = .ok (.aload_n 0, 1) := by decide +kernel
theorem dX8_tick_61 : decode cX8_tick 61 = .ok (.bipush 10, 2) := by decide +kernel
theorem dX8_tick_63 : decode cX8_tick 63 = .ok (.iaload, 1) := by decide +kernel
theorem dX8_tick_64 : decode cX8_tick 64 = .ok (.if_icmp .ge 44, 3) := by decide +kernel
theorem dX8_tick_67 : decode cX8_tick 67 = .ok (.aload_n 0, 1) := by decide +kernel
theorem dX8_tick_68 : decode cX8_tick 68 = .ok (.sipush 154, 3) := by decide +kernel
theorem dX8_tick_71 : decode cX8_tick 71 = .ok (.iconst 2, 1) := by decide +kernel
theorem dX8_tick_72 : decode cX8_tick 72 = .ok (.iload 4, 2) := by decide +kernel
theorem dX8_tick_74 : decode cX8_tick 74 = .ok (.imul, 1) := by decide +kernel
theorem dX8_tick_75 : decode cX8_tick 75 = .ok (.iadd, 1) := by decide +kernel
theorem dX8_tick_76 : decode cX8_tick 76 = .ok (.iconst 1, 1) := by decide +kernel
theorem dX8_tick_77 : decode cX8_tick 77 = .ok (.iadd, 1) := by decide +kernel
theorem dX8_tick_78 : decode cX8_tick 78 = .ok (.dup2, 1) := by decide +kernel
theorem dX8_tick_79 : decode cX8_tick 79 = .ok (.iaload, 1) := by decide +kernel
theorem dX8_tick_80 : decode cX8_tick 80 = .ok (.aload_n 0, 1) := by decide +kernel
theorem dX8_tick_81 : decode cX8_tick 81 = .ok (.sipush 154, 3) := by decide +kernel
theorem dX8_tick_84 : decode cX8_tick 84 = .ok (.iconst 2, 1) := by decide +kernel
theorem dX8_tick_85 : decode cX8_tick 85 = .ok (.iload 4, 2) := by decide +kernel
theorem dX8_tick_87 : decode cX8_tick 87 = .ok (.imul, 1) := by decide +kernel
theorem dX8_tick_88 : decode cX8_tick 88 = .ok (.iadd, 1) := by decide +kernel
theorem dX8_tick_89 : decode cX8_tick 89 = .ok (.iconst 1, 1) := by decide +kernel
theorem dX8_tick_90 : decode cX8_tick 90 = .ok (.iadd, 1) := by decide +kernel
theorem dX8_tick_91 : decode cX8_tick 91 = .ok (.iaload, 1) := by decide +kernel
theorem dX8_tick_92 : decode cX8_tick 92 = .ok (.ifCond .le 7, 3) := by decide +kernel
theorem dX8_tick_95 : decode cX8_tick 95 = .ok (.iconst 1, 1) := by decide +kernel
theorem dX8_tick_96 : decode cX8_tick 96 = .ok (.goto 4, 3) := by decide +kernel
theorem dX8_tick_99 : decode cX8_tick 99 = .ok (.iconst 0, 1) := by decide +kernel
theorem dX8_tick_100 : decode cX8_tick 100 = .ok (.isub, 1) := by decide +kernel
theorem dX8_tick_101 : decode cX8_tick 101 = .ok (.iastore, 1) := by decide +kernel
theorem dX8_tick_102 : decode cX8_tick 102 = .ok (.iinc 4 1, 3) := by decide +kernel
theorem dX8_tick_105 : decode cX8_tick 105 = .ok (.goto (-47), 3) := by decide +kernel
theorem dX8_tick_108 : decode cX8_tick 108 = .ok (.iconst 0, 1) := by decide +kernel
theorem dX8_tick_109 : decode cX8_tick 109 = .ok (.istore 4, 2) := by decide +kernel
theorem dX8_tick_111 : decode cX8_tick 111 = .ok (.iload 4, 2) := by decide +kernel
theorem dX8_tick_113 : decode cX8_tick 113 = .ok (.aload_n 0, 1) := by decide +kernel
theorem dX8_tick_114 : decode cX8_tick 114 = .ok (.bipush 10, 2) := by decide +kernel
theorem dX8_tick_116 : decode cX8_tick 116 = .ok (.iaload, 1) := by decide +kernel
theorem dX8_tick_117 : decode cX8_tick 117 = .ok (.if_icmp .ge 73, 3) := by decide +kernel
theorem dX8_tick_120 : decode cX8_tick 120 = .ok (.aload_n 0, 1) := by decide +kernel
theorem dX8_tick_121 : decode cX8_tick 121 = .ok (.iload 4, 2) := by decide +kernel
theorem dX8_tick_123 : decode cX8_tick 123 = .ok (.invokestatic 49, 3) := by decide +kernel
theorem dX8_tick_126 : decode cX8_tick 126 = .ok (.sipush (-1005), 3) := by decide +kernel
theorem dX8_tick_129 : decode cX8_tick 129 = .ok (.if_icmp .eq 34, 3) := by decide +kernel
theorem dX8_tick_132 : decode cX8_tick 132 = .ok (.aload_n 0, 1) := by decide +kernel
theorem dX8_tick_133 : decode cX8_tick 133 = .ok (.sipush 154, 3) := by decide +kernel
theorem dX8_tick_136 : decode cX8_tick 136 = .ok (.iconst 2, 1) := by decide +kernel
theorem dX8_tick_137 : decode cX8_tick 137 = .ok (.iload 4, 2) := by decide +kernel
theorem dX8_tick_139 : decode cX8_tick 139 = .ok (.imul, 1) := by decide +kernel
theorem dX8_tick_140 : decode cX8_tick 140 = .ok (.iadd, 1) := by decide +kernel
theorem dX8_tick_141 : decode cX8_tick 141 = .ok (.iconst 1, 1) := by decide +kernel
theorem dX8_tick_142 : decode cX8_tick 142 = .ok (.iadd, 1) := by decide +kernel
theorem dX8_tick_143 : decode cX8_tick 143 = .ok (.iaload, 1) := by decide +kernel
theorem dX8_tick_144 : decode cX8_tick 144 = .ok (.ifCond .ne 19, 3) := by decide +kernel
theorem dX8_tick_147 : decode cX8_tick 147 = .ok (.aload_n 0, 1) := by decide +kernel
theorem dX8_tick_148 : decode cX8_tick 148 = .ok (.iload 4, 2) := by decide +kernel
theorem dX8_tick_150 : decode cX8_tick 150 = .ok (.invokestatic 49, 3) := by decide +kernel
theorem dX8_tick_153 : decode cX8_tick 153 = .ok (.aload_n 0, 1) := by decide +kernel
theorem dX8_tick_154 : decode cX8_tick 154 = .ok (.iconst 0, 1) := by decide +kernel
theorem dX8_tick_155 : decode cX8_tick 155 = .ok (.iaload, 1) := by decide +kernel
theorem dX8_tick_156 : decode cX8_tick 156 = .ok (.if_icmp .gt 7, 3) := by decide +kernel
theorem dX8_tick_159 : decode cX8_tick 159 = .ok (.iconst 1, 1) := by decide +kernel
theorem dX8_tick_160 : decode cX8_tick 160 = .ok (.goto 4, 3) := by decide +kernel
theorem dX8_tick_163 : decode cX8_tick 163 = .ok (.iconst 0, 1) := by decide +kernel
theorem dX8_tick_164 : decode cX8_tick 164 = .ok (.istore 5, 2) := by decide +kernel
theorem dX8_tick_166 : decode cX8_tick 166 = .ok (.iload_n 3, 1) := by decide +kernel
theorem dX8_tick_167 : decode cX8_tick 167 = .ok (.iload 5, 2) := by decide +kernel
theorem dX8_tick_169 : decode cX8_tick 169 = .ok (.ifCond .eq 12, 3) := by decide +kernel
theorem dX8_tick_172 : decode cX8_tick 172 = .ok (.aload_n 0, 1) := by decide +kernel
theorem dX8_tick_173 : decode cX8_tick 173 = .ok (.iload 4, 2) := by decide +kernel
theorem dX8_tick_175 : decode cX8_tick 175 = .ok (.invokestatic 94, 3) := by decide +kernel
theorem dX8_tick_178 : decode cX8_tick 178 = .ok (.goto 4, 3) := by decide +kernel
theorem dX8_tick_181 : decode cX8_tick 181 = .ok (.iconst 0, 1) := by decide +kernel
theorem dX8_tick_182 : decode cX8_tick 182 = .ok (.iadd, 1) := by decide +kernel
theorem dX8_tick_183 : decode cX8_tick 183 = .ok (.istore_n 3, 1) := by decide +kernel
theorem dX8_tick_184 : decode cX8_tick 184 = .ok (.iinc 4 1, 3) := by decide +kernel
theorem dX8_tick_187 : decode cX8_tick 187 = .ok (.goto (-76), 3) := by decide +kernel
theorem dX8_tick_190 : decode cX8_tick 190 = .ok (.aload_n 0, 1) := by decide +kernel
theorem dX8_tick_191 : decode cX8_tick 191 = .ok (.invokestatic 97, 3) := by decide +kernel
theorem dX8_tick_194 : decode cX8_tick 194 = .ok (.iload_n 3, 1) := by decide +kernel
theorem dX8_tick_195 : decode cX8_tick 195 = .ok (.ireturn, 1) := by decide +kernel
theorem dX8_ticks_0 : decode cX8_ticks 0 = .ok (.iconst 0, 1) := by decide +kernel
theorem dX8_ticks_1 : decode cX8_ticks 1 = .ok (.istore_n 2, 1) := by decide +kernel
theorem dX8_ticks_2 : decode cX8_ticks 2 = .ok (.iconst 0, 1) := by decide +kernel
theorem dX8_ticks_3 : decode cX8_ticks 3 = .ok (.istore_n 3, 1) := by decide +kernel
theorem dX8_ticks_4 : decode cX8_ticks 4 = .ok (.iload_n 3, 1) := by decide +kernel
theorem dX8_ticks_5 : decode cX8_ticks 5 = .ok (.iload_n 1, 1) := by decide +kernel
theorem dX8_ticks_6 : decode cX8_ticks 6 = .ok (.if_icmp .ge 16, 3) := by decide +kernel
theorem dX8_ticks_9 : decode cX8_ticks 9 = .ok (.iload_n 2, 1) := by decide +kernel
theorem dX8_ticks_10 : decode cX8_ticks 10 = .ok (.aload_n 0, 1) := by decide +kernel
theorem dX8_ticks_11 : decode cX8_ticks 11 = .ok (.invokestatic 101, 3) := by decide +kernel
theorem dX8_ticks_14 : decode cX8_ticks 14 = .ok (.iadd, 1) := by decide +kernel
theorem dX8_ticks_15 : decode cX8_ticks 15 = .ok (.istore_n 2, 1) := by decide +kernel
theorem dX8_ticks_16 : decode cX8_ticks 16 = .ok (.iinc 3 1, 3) := by decide +kernel
theorem dX8_ticks_19 : decode cX8_ticks 19 = .ok (.goto (-15), 3) := by decide +kernel
theorem dX8_ticks_22 : decode cX8_ticks 22 = .ok (.iload_n 2, 1) := by decide +kernel
theorem dX8_ticks_23 : decode cX8_ticks 23 = .ok (.ireturn, 1) := by decide +kernel
theorem dX8_sets_0 : decode cX8_sets 0 = .ok (.aload_n 0, 1) := by decide +kernel
theorem dX8_sets_1 : decode cX8_sets 1 = .ok (.iconst 2, 1) := by decide +kernel
theorem dX8_sets_2 : decode cX8_sets 2 = .ok (.iaload, 1) := by decide +kernel
theorem dX8_sets_3 : decode cX8_sets 3 = .ok (.istore 4, 2) := by decide +kernel
theorem dX8_sets_5 : decode cX8_sets 5 = .ok (.aload_n 0, 1) := by decide +kernel
theorem dX8_sets_6 : decode cX8_sets 6 = .ok (.iconst 2, 1) := by decide +kernel
theorem dX8_sets_7 : decode cX8_sets 7 = .ok (.dup2, 1) := by decide +kernel
theorem dX8_sets_8 : decode cX8_sets 8 = .ok (.iaload, 1) := by decide +kernel
theorem dX8_sets_9 : decode cX8_sets 9 = .ok (.iconst 1, 1) := by decide +kernel
theorem dX8_sets_10 : decode cX8_sets 10 = .ok (.iadd, 1) := by decide +kernel
theorem dX8_sets_11 : decode cX8_sets 11 = .ok (.iastore, 1) := by decide +kernel
theorem dX8_sets_12 : decode cX8_sets 12 = .ok (.aload_n 0, 1) := by decide +kernel
theorem dX8_sets_13 : decode cX8_sets 13 = .ok (.iload 4, 2) := by decide +kernel
theorem dX8_sets_15 : decode cX8_sets 15 = .ok (.iconst 0, 1) := by decide +kernel
theorem dX8_sets_16 : decode cX8_sets 16 = .ok (.aload_n 0, 1) := by decide +kernel
theorem dX8_sets_17 : decode cX8_sets 17 = .ok (.iconst 3, 1) := by decide +kernel
theorem dX8_sets_18 : decode cX8_sets 18 = .ok (.iaload, 1) := by decide +kernel
theorem dX8_sets_19 : decode cX8_sets 19 = .ok (.invokestatic 56, 3) := by decide +kernel
theorem dX8_sets_22 : decode cX8_sets 22 = .ok (.aload_n 0, 1) := by decide +kernel
theorem dX8_sets_23 : decode cX8_sets 23 = .ok (.iload 4, 2) := by decide +kernel
theorem dX8_sets_25 : decode cX8_sets 25 = .ok (.iconst 1, 1) := by decide +kernel
theorem dX8_sets_26 : decode cX8_sets 26 = .ok (.iload_n 1, 1) := by decide +kernel
theorem dX8_sets_27 : decode cX8_sets 27 = .ok (.invokestatic 56, 3) := by decide +kernel
theorem dX8_sets_30 : decode cX8_sets 30 = .ok (.aload_n 0, 1) := by decide +kernel
theorem dX8_sets_31 : decode cX8_sets 31 = .ok (.iload 4, 2) := by decide +kernel
theorem dX8_sets_33 : decode cX8_sets 33 = .ok (.iconst 2, 1) := by decide +kernel
theorem dX8_sets_34 : decode cX8_sets 34 = .ok (.iload_n 2, 1) := by decide +kernel
theorem dX8_sets_35 : decode cX8_sets 35 = .ok (.invokestatic 56, 3) := by decide +kernel
theorem dX8_sets_38 : decode cX8_sets 38 = .ok (.aload_n 0, 1) := by decide +kernel
theorem dX8_sets_39 : decode cX8_sets 39 = .ok (.iload 4, 2) := by decide +kernel
theorem dX8_sets_41 : decode cX8_sets 41 = .ok (.iconst 3, 1) := by decide +kernel
theorem dX8_sets_42 : decode cX8_sets 42 = .ok (.iload_n 3, 1) := by decide +kernel
theorem dX8_sets_43 : decode cX8_sets 43 = .ok (.invokestatic 56, 3) := by decide +kernel
theorem dX8_sets_46 : decode cX8_sets 46 = .ok (.aload_n 0, 1) := by decide +kernel
theorem dX8_sets_47 : decode cX8_sets 47 = .ok (.iload 4, 2) := by decide +kernel
theorem dX8_sets_49 : decode cX8_sets 49 = .ok (.iconst 4, 1) := by decide +kernel
theorem dX8_sets_50 : decode cX8_sets 50 = .ok (.sipush (-1005), 3) := by decide +kernel
theorem dX8_sets_53 : decode cX8_sets 53 = .ok (.invokestatic 56, 3) := by decide +kernel
theorem dX8_sets_56 : decode cX8_sets 56 = .ok (.aload_n 0, 1) := by decide +kernel
theorem dX8_sets_57 : decode cX8_sets 57 = .ok (.iload 4, 2) := by decide +kernel
theorem dX8_sets_59 : decode cX8_sets 59 = .ok (.iconst 5, 1) := by decide +kernel
theorem dX8_sets_60 : decode cX8_sets 60 = .ok (.iconst 0, 1) := by decide +kernel
theorem dX8_sets_61 : decode cX8_sets 61 = .ok (.invokestatic 56, 3) := by decide +kernel
theorem dX8_sets_64 : decode cX8_sets 64 = .ok (.aload_n 0, 1) := by decide +kernel
theorem dX8_sets_65 : decode cX8_sets 65 = .ok (.iload 4, 2) := by decide +kernel
theorem dX8_sets_67 : decode cX8_sets 67 = .ok (.bipush 6, 2) := by decide +kernel
theorem dX8_sets_69 : decode cX8_sets 69 = .ok (.sipush (-1005), 3) := by decide +kernel
theorem dX8_sets_72 : decode cX8_sets 72 = .ok (.invokestatic 56, 3) := by decide +kernel
theorem dX8_sets_75 : decode cX8_sets 75 = .ok (.aload_n 0, 1) := by decide +kernel
theorem dX8_sets_76 : decode cX8_sets 76 = .ok (.iconst 3, 1) := by decide +kernel
theorem dX8_sets_77 : decode cX8_sets 77 = .ok (.dup2, 1) := by decide +kernel
theorem dX8_sets_78 : decode cX8_sets 78 = .ok (.iaload, 1) := by decide +kernel
theorem dX8_sets_79 : decode cX8_sets 79 = .ok (.iconst 1, 1) := by decide +kernel
theorem dX8_sets_80 : decode cX8_sets 80 = .ok (.iadd, 1) := by decide +kernel
theorem dX8_sets_81 : decode cX8_sets 81 = .ok (.iastore, 1) := by decide +kernel
theorem dX8_sets_82 : decode cX8_sets 82 = .ok (.aload_n 0, 1) := by decide +kernel
theorem dX8_sets_83 : decode cX8_sets 83 = .ok (.invokestatic 97, 3) := by decide +kernel
theorem dX8_sets_86 : decode cX8_sets 86 = .ok (.return_, 1) := by decide +kernel
theorem dX8_set_0 : decode cX8_set 0 = .ok (.iload_n 1, 1) := by decide +kernel
theorem dX8_set_1 : decode cX8_set 1 = .ok (.iconst 0, 1) := by decide +kernel
theorem dX8_set_2 : decode cX8_set 2 = .ok (.ldc 104, 2) := by decide +kernel
theorem dX8_set_4 : decode cX8_set 4 = .ok (.invokestatic 105, 3) := by decide +kernel
theorem dX8_set_7 : decode cX8_set 7 = .ok (.ifCond .eq 23, 3) := by decide +kernel
theorem dX8_set_10 : decode cX8_set 10 = .ok (.iload_n 2, 1) := by decide +kernel
theorem dX8_set_11 : decode cX8_set 11 = .ok (.iconst 0, 1) := by decide +kernel
theorem dX8_set_12 : decode cX8_set 12 = .ok (.sipush 9999, 3) := by decide +kernel
theorem dX8_set_15 : decode cX8_set 15 = .ok (.invokestatic 105, 3) := by decide +kernel
theorem dX8_set_18 : decode cX8_set 18 = .ok (.ifCond .eq 12, 3) := by decide +kernel
theorem dX8_set_21 : decode cX8_set 21 = .ok (.iload_n 3, 1) := by decide +kernel
theorem dX8_set_22 : decode cX8_set 22 = .ok (.iconst 0, 1) := by decide +kernel
theorem dX8_set_23 : decode cX8_set 23 = .ok (.iconst 3, 1) := by decide +kernel
theorem dX8_set_24 : decode cX8_set 24 = .ok (.invokestatic 105, 3) := by decide +kernel
theorem dX8_set_27 : decode cX8_set 27 = .ok (.ifCond .ne 7, 3) := by decide +kernel
theorem dX8_set_30 : decode cX8_set 30 = .ok (.sipush (-1002), 3) := by decide +kernel
theorem dX8_set_33 : decode cX8_set 33 = .ok (.ireturn, 1) := by decide +kernel
theorem dX8_set_34 : decode cX8_set 34 = .ok (.iload_n 1, 1) := by decide +kernel
theorem dX8_set_35 : decode cX8_set 35 = .ok (.aload_n 0, 1) := by decide +kernel
theorem dX8_set_36 : decode cX8_set 36 = .ok (.getfield 7, 3) := by decide +kernel
theorem dX8_set_39 : decode cX8_set 39 = .ok (.iconst 0, 1) := by decide +kernel
theorem dX8_set_40 : decode cX8_set 40 = .ok (.iaload, 1) := by decide +kernel
theorem dX8_set_41 : decode cX8_set 41 = .ok (.if_icmp .ge 7, 3) := by decide +kernel
theorem dX8_set_44 : decode cX8_set 44 = .ok (.sipush (-1004), 3) := by decide +kernel
theorem dX8_set_47 : decode cX8_set 47 = .ok (.ireturn, 1) := by decide +kernel
theorem dX8_set_48 : decode cX8_set 48 = .ok (.aload_n 0, 1) := by decide +kernel
theorem dX8_set_49 : decode cX8_set 49 = .ok (.getfield 7, 3) := by decide +kernel
theorem dX8_set_52 : decode cX8_set 52 = .ok (.iconst 2, 1) := by decide +kernel
theorem dX8_set_53 : decode cX8_set 53 = .ok (.iaload, 1) := by decide +kernel
theorem dX8_set_54 : decode cX8_set 54 = .ok (.bipush 20, 2) := by decide +kernel
theorem dX8_set_56 : decode cX8_set 56 = .ok (.if_icmp .eq 15, 3) := by decide +kernel
theorem dX8_set_59 : decode cX8_set 59 = .ok (.aload_n 0, 1) := by decide +kernel
theorem dX8_set_60 : decode cX8_set 60 = .ok (.getfield 7, 3) := by decide +kernel
theorem dX8_set_63 : decode cX8_set 63 = .ok (.iconst 3, 1) := by decide +kernel
theorem dX8_set_64 : decode cX8_set 64 = .ok (.iaload, 1) := by decide +kernel
theorem dX8_set_65 : decode cX8_set 65 = .ok (.sipush 500, 3) := by decide +kernel
theorem dX8_set_68 : decode cX8_set 68 = .ok (.if_icmp .ne 7, 3) := by decide +kernel
theorem dX8_set_71 : decode cX8_set 71 = .ok (.sipush (-1003), 3) := by decide +kernel
theorem dX8_set_74 : decode cX8_set 74 = .ok (.ireturn, 1) := by decide +kernel
theorem dX8_set_75 : decode cX8_set 75 = .ok (.aload_n 0, 1) := by decide +kernel
theorem dX8_set_76 : decode cX8_set 76 = .ok (.invokevirtual 109, 3) := by decide +kernel
theorem dX8_set_79 : decode cX8_set 79 = .ok (.aload_n 0, 1) := by decide +kernel
theorem dX8_set_80 : decode cX8_set 80 = .ok (.getfield 7, 3) := by decide +kernel
theorem dX8_set_83 : decode cX8_set 83 = .ok (.iload_n 1, 1) := by decide +kernel
theorem dX8_set_84 : decode cX8_set 84 = .ok (.iload_n 2, 1) := by decide +kernel
theorem dX8_set_85 : decode cX8_set 85 = .ok (.iload_n 3, 1) := by decide +kernel
theorem dX8_set_86 : decode cX8_set 86 = .ok (.invokestatic 112, 3) := by decide +kernel
theorem dX8_set_89 : decode cX8_set 89 = .ok (.aload_n 0, 1) := by decide +kernel
theorem dX8_set_90 : decode cX8_set 90 = .ok (.getfield 7, 3) := by decide +kernel
theorem dX8_set_93 : decode cX8_set 93 = .ok (.iconst 3, 1) := by decide +kernel
theorem dX8_set_94 : decode cX8_set 94 = .ok (.iaload, 1) := by decide +kernel
theorem dX8_set_95 : decode cX8_set 95 = .ok (.iconst 1, 1) := by decide +kernel
theorem dX8_set_96 : decode cX8_set 96 = .ok (.isub, 1) := by decide +kernel
theorem dX8_set_97 : decode cX8_set 97 = .ok (.ireturn, 1) := by decide +kernel
