theorem dX0_init_0 : decode cX0_init 0 = .ok (.aload_n 0, 1) := by decide +kernel
theorem dX0_init_1 : decode cX0_init 1 = .ok (.invokespecial 3, 3) := by decide +kernel
theorem dX0_init_4 : decode cX0_init 4 = .ok (.return_, 1) := by decide +kernel
theorem dX0_begin_0 : decode cX0_begin 0 = .ok (.aload_n 0, 1) := by decide +kernel
theorem dX0_begin_1 : decode cX0_begin 1 = .ok (.iload_n 1, 1) := by decide +kernel
theorem dX0_begin_2 : decode cX0_begin 2 = .ok (.putfield 9, 3) := by decide +kernel
theorem dX0_begin_5 : decode cX0_begin 5 = .ok (.aload_n 0, 1) := by decide +kernel
theorem dX0_begin_6 : decode cX0_begin 6 = .ok (.iload_n 2, 1) := by decide +kernel
theorem dX0_begin_7 : decode cX0_begin 7 = .ok (.putfield 15, 3) := by decide +kernel
theorem dX0_begin_10 : decode cX0_begin 10 = .ok (.aload_n 0, 1) := by decide +kernel
theorem dX0_begin_11 : decode cX0_begin 11 = .ok (.iload_n 3, 1) := by decide +kernel
theorem dX0_begin_12 : decode cX0_begin 12 = .ok (.putfield 18, 3) := by decide +kernel
theorem dX0_begin_15 : decode cX0_begin 15 = .ok (.aload_n 0, 1) := by decide +kernel
theorem dX0_begin_16 : decode cX0_begin 16 = .ok (.iload 4, 2) := by decide +kernel
theorem dX0_begin_18 : decode cX0_begin 18 = .ok (.putfield 21, 3) := by decide +kernel
theorem dX0_begin_21 : decode cX0_begin 21 = .ok (.aload_n 0, 1) := by decide +kernel
theorem dX0_begin_22 : decode cX0_begin 22 = .ok (.sipush (-1005), 3) := by decide +kernel
theorem dX0_begin_25 : decode cX0_begin 25 = .ok (.putfield 24, 3) := by decide +kernel
theorem dX0_begin_28 : decode cX0_begin 28 = .ok (.aload_n 0, 1) := by decide +kernel
theorem dX0_begin_29 : decode cX0_begin 29 = .ok (.iconst 0, 1) := by decide +kernel
theorem dX0_begin_30 : decode cX0_begin 30 = .ok (.putfield 27, 3) := by decide +kernel
theorem dX0_begin_33 : decode cX0_begin 33 = .ok (.aload_n 0, 1) := by decide +kernel
theorem dX0_begin_34 : decode cX0_begin 34 = .ok (.sipush (-1005), 3) := by decide +kernel
theorem dX0_begin_37 : decode cX0_begin 37 = .ok (.putfield 30, 3) := by decide +kernel
theorem dX0_begin_40 : decode cX0_begin 40 = .ok (.aload_n 0, 1) := by decide +kernel
theorem dX0_begin_41 : decode cX0_begin 41 = .ok (.iconst 0, 1) := by decide +kernel
theorem dX0_begin_42 : decode cX0_begin 42 = .ok (.putfield 33, 3) := by decide +kernel
theorem dX0_begin_45 : decode cX0_begin 45 = .ok (.return_, 1) := by decide +kernel
theorem dX0_copyFrom_0 : decode cX0_copyFrom 0 = .ok (.aload_n 0, 1) := by decide +kernel
theorem dX0_copyFrom_1 : decode cX0_copyFrom 1 = .ok (.aload_n 1, 1) := by decide +kernel
theorem dX0_copyFrom_2 : decode cX0_copyFrom 2 = .ok (.getfield 9, 3) := by decide +kernel
theorem dX0_copyFrom_5 : decode cX0_copyFrom 5 = .ok (.putfield 9, 3) := by decide +kernel
theorem dX0_copyFrom_8 : decode cX0_copyFrom 8 = .ok (.aload_n 0, 1) := by decide +kernel
theorem dX0_copyFrom_9 : decode cX0_copyFrom 9 = .ok (.aload_n 1, 1) := by decide +kernel
theorem dX0_copyFrom_10 : decode cX0_copyFrom 10 = .ok (.getfield 15, 3) := by decide +kernel
theorem dX0_copyFrom_13 : decode cX0_copyFrom 13 = .ok (.putfield 15, 3) := by decide +kernel
theorem dX0_copyFrom_16 : decode cX0_copyFrom 16 = .ok (.aload_n 0, 1) := by decide +kernel
theorem dX0_copyFrom_17 : decode cX0_copyFrom 17 = .ok (.aload_n 1, 1) := by decide +kernel
theorem dX0_copyFrom_18 : decode cX0_copyFrom 18 = .ok (.getfield 18, 3) := by decide +kernel
theorem dX0_copyFrom_21 : decode cX0_copyFrom 21 = .ok (.putfield 18, 3) := by decide +kernel
theorem dX0_copyFrom_24 : decode cX0_copyFrom 24 = .ok (.aload_n 0, 1) := by decide +kernel
theorem dX0_copyFrom_25 : decode cX0_copyFrom 25 = .ok (.aload_n 1, 1) := by decide +kernel
theorem dX0_copyFrom_26 : decode cX0_copyFrom 26 = .ok (.getfield 21, 3) := by decide +kernel
theorem dX0_copyFrom_29 : decode cX0_copyFrom 29 = .ok (.putfield 21, 3) := by decide +kernel
theorem dX0_copyFrom_32 : decode cX0_copyFrom 32 = .ok (.aload_n 0, 1) := by decide +kernel
theorem dX0_copyFrom_33 : decode cX0_copyFrom 33 = .ok (.aload_n 1, 1) := by decide +kernel
theorem dX0_copyFrom_34 : decode cX0_copyFrom 34 = .ok (.getfield 24, 3) := by decide +kernel
theorem dX0_copyFrom_37 : decode cX0_copyFrom 37 = .ok (.putfield 24, 3) := by decide +kernel
theorem dX0_copyFrom_40 : decode cX0_copyFrom 40 = .ok (.aload_n 0, 1) := by decide +kernel
theorem dX0_copyFrom_41 : decode cX0_copyFrom 41 = .ok (.aload_n 1, 1) := by decide +kernel
theorem dX0_copyFrom_42 : decode cX0_copyFrom 42 = .ok (.getfield 27, 3) := by decide +kernel
theorem dX0_copyFrom_45 : decode cX0_copyFrom 45 = .ok (.putfield 27, 3) := by decide +kernel
theorem dX0_copyFrom_48 : decode cX0_copyFrom 48 = .ok (.aload_n 0, 1) := by decide +kernel
theorem dX0_copyFrom_49 : decode cX0_copyFrom 49 = .ok (.aload_n 1, 1) := by decide +kernel
theorem dX0_copyFrom_50 : decode cX0_copyFrom 50 = .ok (.getfield 30, 3) := by decide +kernel
theorem dX0_copyFrom_53 : decode cX0_copyFrom 53 = .ok (.putfield 30, 3) := by decide +kernel
theorem dX0_copyFrom_56 : decode cX0_copyFrom 56 = .ok (.aload_n 0, 1) := by decide +kernel
theorem dX0_copyFrom_57 : decode cX0_copyFrom 57 = .ok (.aload_n 1, 1) := by decide +kernel
theorem dX0_copyFrom_58 : decode cX0_copyFrom 58 = .ok (.getfield 33, 3) := by decide +kernel
theorem dX0_copyFrom_61 : decode cX0_copyFrom 61 = .ok (.putfield 33, 3) := by decide +kernel
theorem dX0_copyFrom_64 : decode cX0_copyFrom 64 = .ok (.return_, 1) := by decide +kernel
theorem dX0_isBefore_0 : decode cX0_isBefore 0 = .ok (.aload_n 0, 1) := by decide +kernel
theorem dX0_isBefore_1 : decode cX0_isBefore 1 = .ok (.getfield 15, 3) := by decide +kernel
theorem dX0_isBefore_4 : decode cX0_isBefore 4 = .ok (.aload_n 1, 1) := by decide +kernel
theorem dX0_isBefore_5 : decode cX0_isBefore 5 = .ok (.getfield 15, 3) := by decide +kernel
theorem dX0_isBefore_8 : decode cX0_isBefore 8 = .ok (.if_icmp .eq 20, 3) := by decide +kernel
theorem dX0_isBefore_11 : decode cX0_isBefore 11 = .ok (.aload_n 0, 1) := by decide +kernel
theorem dX0_isBefore_12 : decode cX0_isBefore 12 = .ok (.getfield 15, 3) := by decide +kernel
theorem dX0_isBefore_15 : decode cX0_isBefore 15 = .ok (.aload_n 1, 1) := by decide +kernel
theorem dX0_isBefore_16 : decode cX0_isBefore 16 = .ok (.getfield 15, 3) := by decide +kernel
theorem dX0_isBefore_19 : decode cX0_isBefore 19 = .ok (.if_icmp .ge 7, 3) := by decide +kernel
theorem dX0_isBefore_22 : decode cX0_isBefore 22 = .ok (.iconst 1, 1) := by decide +kernel
theorem dX0_isBefore_23 : decode cX0_isBefore 23 = .ok (.goto 4, 3) := by decide +kernel
theorem dX0_isBefore_26 : decode cX0_isBefore 26 = .ok (.iconst 0, 1) := by decide +kernel
theorem dX0_isBefore_27 : decode cX0_isBefore 27 = .ok (.ireturn, 1) := by decide +kernel
theorem dX0_isBefore_28 : decode cX0_isBefore 28 = .ok (.aload_n 0, 1) := by decide +kernel
theorem dX0_isBefore_29 : decode cX0_isBefore 29 = .ok (.getfield 21, 3) := by decide +kernel
theorem dX0_isBefore_32 : decode cX0_isBefore 32 = .ok (.aload_n 1, 1) := by decide +kernel
theorem dX0_isBefore_33 : decode cX0_isBefore 33 = .ok (.getfield 21, 3) := by decide +kernel
theorem dX0_isBefore_36 : decode cX0_isBefore 36 = .ok (.if_icmp .eq 20, 3) := by decide +kernel
theorem dX0_isBefore_39 : decode cX0_isBefore 39 = .ok (.aload_n 0, 1) := by decide +kernel
theorem dX0_isBefore_40 : decode cX0_isBefore 40 = .ok (.getfield 21, 3) := by decide +kernel
theorem dX0_isBefore_43 : decode cX0_isBefore 43 = .ok (.aload_n 1, 1) := by decide +kernel
theorem dX0_isBefore_44 : decode cX0_isBefore 44 = .ok (.getfield 21, 3) := by decide +kernel
theorem dX0_isBefore_47 : decode cX0_isBefore 47 = .ok (.if_icmp .le 7, 3) := by decide +kernel
theorem dX0_isBefore_50 : decode cX0_isBefore 50 = .ok (.iconst 1, 1) := by decide +kernel
theorem dX0_isBefore_51 : decode cX0_isBefore 51 = .ok (.goto 4, 3) := by decide +kernel
theorem dX0_isBefore_54 : decode cX0_isBefore 54 = .ok (.iconst 0, 1) := by decide +kernel
theorem dX0_isBefore_55 : decode cX0_isBefore 55 = .ok (.ireturn, 1) := by decide +kernel
theorem dX0_isBefore_56 : decode cX0_isBefore 56 = .ok (.aload_n 0, 1) := by decide +kernel
theorem dX0_isBefore_57 : decode cX0_isBefore 57 = .ok (.getfield 9, 3) := by decide +kernel
theorem dX0_isBefore_60 : decode cX0_isBefore 60 = .ok (.aload_n 1, 1) := by decide +kernel
theorem dX0_isBefore_61 : decode cX0_isBefore 61 = .ok (.getfield 9, 3) := by decide +kernel
theorem dX0_isBefore_64 : decode cX0_isBefore 64 = .ok (.if_icmp .ge 7, 3) := by decide +kernel
theorem dX0_isBefore_67 : decode cX0_isBefore 67 = .ok (.iconst 1, 1) := by decide +kernel
theorem dX0_isBefore_68 : decode cX0_isBefore 68 = .ok (.goto 4, 3) := by decide +kernel
theorem dX0_isBefore_71 : decode cX0_isBefore 71 = .ok (.iconst 0, 1) := by decide +kernel
theorem dX0_isBefore_72 : decode cX0_isBefore 72 = .ok (.ireturn, 1) := by decide +kernel
theorem dX0_noteRing_0 : decode cX0_noteRing 0 = .ok (.aload_n 0, 1) := by decide +kernel
theorem dX0_noteRing_1 : decode cX0_noteRing 1 = .ok (.dup, 1) := by decide +kernel
theorem dX0_noteRing_2 : decode cX0_noteRing 2 = .ok (.getfield 27, 3) := by decide +kernel
theorem dX0_noteRing_5 : decode cX0_noteRing 5 = .ok (.iconst 1, 1) := by decide +kernel
theorem dX0_noteRing_6 : decode cX0_noteRing 6 = .ok (.iadd, 1) := by decide +kernel
theorem dX0_noteRing_7 : decode cX0_noteRing 7 = .ok (.putfield 27, 3) := by decide +kernel
theorem dX0_noteRing_10 : decode cX0_noteRing 10 = .ok (.aload_n 0, 1) := by decide +kernel
theorem dX0_noteRing_11 : decode cX0_noteRing 11 = .ok (.aload_n 0, 1) := by decide +kernel
theorem dX0_noteRing_12 : decode cX0_noteRing 12 = .ok (.getfield 30, 3) := by decide +kernel
theorem dX0_noteRing_15 : decode cX0_noteRing 15 = .ok (.iload_n 1, 1) := by decide +kernel
theorem dX0_noteRing_16 : decode cX0_noteRing 16 = .ok (.invokestatic 37, 3) := by decide +kernel
theorem dX0_noteRing_19 : decode cX0_noteRing 19 = .ok (.putfield 30, 3) := by decide +kernel
theorem dX0_noteRing_22 : decode cX0_noteRing 22 = .ok (.aload_n 0, 1) := by decide +kernel
theorem dX0_noteRing_23 : decode cX0_noteRing 23 = .ok (.sipush (-1005), 3) := by decide +kernel
theorem dX0_noteRing_26 : decode cX0_noteRing 26 = .ok (.putfield 24, 3) := by decide +kernel
theorem dX0_noteRing_29 : decode cX0_noteRing 29 = .ok (.return_, 1) := by decide +kernel
theorem dX0_goOn_0 : decode cX0_goOn 0 = .ok (.aload_n 0, 1) := by decide +kernel
theorem dX0_goOn_1 : decode cX0_goOn 1 = .ok (.getfield 18, 3) := by decide +kernel
theorem dX0_goOn_4 : decode cX0_goOn 4 = .ok (.ifCond .gt 10, 3) := by decide +kernel
theorem dX0_goOn_7 : decode cX0_goOn 7 = .ok (.aload_n 0, 1) := by decide +kernel
theorem dX0_goOn_8 : decode cX0_goOn 8 = .ok (.iconst 1, 1) := by decide +kernel
theorem dX0_goOn_9 : decode cX0_goOn 9 = .ok (.putfield 33, 3) := by decide +kernel
theorem dX0_goOn_12 : decode cX0_goOn 12 = .ok (.iconst 0, 1) := by decide +kernel
theorem dX0_goOn_13 : decode cX0_goOn 13 = .ok (.ireturn, 1) := by decide +kernel
theorem dX0_goOn_14 : decode cX0_goOn 14 = .ok (.iload_n 1, 1) := by decide +kernel
theorem dX0_goOn_15 : decode cX0_goOn 15 = .ok (.aload_n 0, 1) := by decide +kernel
theorem dX0_goOn_16 : decode cX0_goOn 16 = .ok (.getfield 18, 3) := by decide +kernel
theorem dX0_goOn_19 : decode cX0_goOn 19 = .ok (.idiv, 1) := by decide +kernel
theorem dX0_goOn_20 : decode cX0_goOn 20 = .ok (.istore_n 2, 1) := by decide +kernel
theorem dX0_goOn_21 : decode cX0_goOn 21 = .ok (.aload_n 0, 1) := by decide +kernel
theorem dX0_goOn_22 : decode cX0_goOn 22 = .ok (.dup, 1) := by decide +kernel
theorem dX0_goOn_23 : decode cX0_goOn 23 = .ok (.getfield 15, 3) := by decide +kernel
theorem dX0_goOn_26 : decode cX0_goOn 26 = .ok (.iload_n 2, 1) := by decide +kernel
theorem dX0_goOn_27 : decode cX0_goOn 27 = .ok (.iconst 1, 1) := by decide +kernel
theorem dX0_goOn_28 : decode cX0_goOn 28 = .ok (.iadd, 1) := by decide +kernel
theorem dX0_goOn_29 : decode cX0_goOn 29 = .ok (.aload_n 0, 1) := by decide +kernel
theorem dX0_goOn_30 : decode cX0_goOn 30 = .ok (.getfield 18, 3) := by decide +kernel
theorem dX0_goOn_33 : decode cX0_goOn 33 = .ok (.imul, 1) := by decide +kernel
theorem dX0_goOn_34 : decode cX0_goOn 34 = .ok (.iadd, 1) := by decide +kernel
theorem dX0_goOn_35 : decode cX0_goOn 35 = .ok (.putfield 15, 3) := by decide +kernel
theorem dX0_goOn_38 : decode cX0_goOn 38 = .ok (.iload_n 2, 1) := by decide +kernel
theorem dX0_goOn_39 : decode cX0_goOn 39 = .ok (.ireturn, 1) := by decide +kernel
theorem dX1_init_0 : decode cX1_init 0 = .ok (.aload_n 0, 1) := by decide +kernel
theorem dX1_init_1 : decode cX1_init 1 = .ok (.invokespecial 3, 3) := by decide +kernel
theorem dX1_init_4 : decode cX1_init 4 = .ok (.aload_n 0, 1) := by decide +kernel
theorem dX1_init_5 : decode cX1_init 5 = .ok (.bipush 60, 2) := by decide +kernel
theorem dX1_init_7 : decode cX1_init 7 = .ok (.newarray .char, 2) := by decide +kernel
theorem dX1_init_9 : decode cX1_init 9 = .ok (.putfield 9, 3) := by decide +kernel
theorem dX1_init_12 : decode cX1_init 12 = .ok (.aload_n 0, 1) := by decide +kernel
theorem dX1_init_13 : decode cX1_init 13 = .ok (.bipush 30, 2) := by decide +kernel
theorem dX1_init_15 : decode cX1_init 15 = .ok (.newarray .int, 2) := by decide +kernel
theorem dX1_init_17 : decode cX1_init 17 = .ok (.putfield 15, 3) := by decide +kernel
theorem dX1_init_20 : decode cX1_init 20 = .ok (.aload_n 0, 1) := by decide +kernel
theorem dX1_init_21 : decode cX1_init 21 = .ok (.bipush 30, 2) := by decide +kernel
theorem dX1_init_23 : decode cX1_init 23 = .ok (.newarray .int, 2) := by decide +kernel
theorem dX1_init_25 : decode cX1_init 25 = .ok (.putfield 19, 3) := by decide +kernel
theorem dX1_init_28 : decode cX1_init 28 = .ok (.aload_n 0, 1) := by decide +kernel
theorem dX1_init_29 : decode cX1_init 29 = .ok (.bipush 30, 2) := by decide +kernel
theorem dX1_init_31 : decode cX1_init 31 = .ok (.newarray .int, 2) := by decide +kernel
theorem dX1_init_33 : decode cX1_init 33 = .ok (.putfield 22, 3) := by decide +kernel
theorem dX1_init_36 : decode cX1_init 36 = .ok (.return_, 1) := by decide +kernel
theorem dX1_append_0 : decode cX1_append 0 = .ok (.aload_n 0, 1) := by decide +kernel
theorem dX1_append_1 : decode cX1_append 1 = .ok (.getfield 25, 3) := by decide +kernel
theorem dX1_append_4 : decode cX1_append 4 = .ok (.bipush 60, 2) := by decide +kernel
theorem dX1_append_6 : decode cX1_append 6 = .ok (.if_icmp .lt 5, 3) := by decide +kernel
theorem dX1_append_9 : decode cX1_append 9 = .ok (.iconst 0, 1) := by decide +kernel
theorem dX1_append_10 : decode cX1_append 10 = .ok (.ireturn, 1) := by decide +kernel
theorem dX1_append_11 : decode cX1_append 11 = .ok (.aload_n 0, 1) := by decide +kernel
theorem dX1_append_12 : decode cX1_append 12 = .ok (.getfield 9, 3) := by decide +kernel
theorem dX1_append_15 : decode cX1_append 15 = .ok (.aload_n 0, 1) := by decide +kernel
theorem dX1_append_16 : decode cX1_append 16 = .ok (.getfield 25, 3) := by decide +kernel
theorem dX1_append_19 : decode cX1_append 19 = .ok (.iload_n 1, 1) := by decide +kernel
theorem dX1_append_20 : decode cX1_append 20 = .ok (.castore, 1) := by decide +kernel
theorem dX1_append_21 : decode cX1_append 21 = .ok (.aload_n 0, 1) := by decide +kernel
theorem dX1_append_22 : decode cX1_append 22 = .ok (.dup, 1) := by decide +kernel
theorem dX1_append_23 : decode cX1_append 23 = .ok (.getfield 25, 3) := by decide +kernel
theorem dX1_append_26 : decode cX1_append 26 = .ok (.iconst 1, 1) := by decide +kernel
theorem dX1_append_27 : decode cX1_append 27 = .ok (.iadd, 1) := by decide +kernel
theorem dX1_append_28 : decode cX1_append 28 = .ok (.putfield 25, 3) := by decide +kernel
theorem dX1_append_31 : decode cX1_append 31 = .ok (.iconst 1, 1) := by decide +kernel
theorem dX1_append_32 : decode cX1_append 32 = .ok (.ireturn, 1) := by decide +kernel
theorem dX1_readList_0 : decode cX1_readList 0 = .ok (.aload_n 0, 1) := by decide +kernel
theorem dX1_readList_1 : decode cX1_readList 1 = .ok (.iconst 0, 1) := by decide +kernel
theorem dX1_readList_2 : decode cX1_readList 2 = .ok (.putfield 29, 3) := by decide +kernel
theorem dX1_readList_5 : decode cX1_readList 5 = .ok (.aload_n 0, 1) := by decide +kernel
theorem dX1_readList_6 : decode cX1_readList 6 = .ok (.iconst 0, 1) := by decide +kernel
theorem dX1_readList_7 : decode cX1_readList 7 = .ok (.putfield 32, 3) := by decide +kernel
theorem dX1_readList_10 : decode cX1_readList 10 = .ok (.iconst 0, 1) := by decide +kernel
theorem dX1_readList_11 : decode cX1_readList 11 = .ok (.istore_n 1, 1) := by decide +kernel
theorem dX1_readList_12 : decode cX1_readList 12 = .ok (.iload_n 1, 1) := by decide +kernel
theorem dX1_readList_13 : decode cX1_readList 13 = .ok (.bipush 30, 2) := by decide +kernel
theorem dX1_readList_15 : decode cX1_readList 15 = .ok (.if_icmp .gt 50, 3) := by decide +kernel
theorem dX1_readList_18 : decode cX1_readList 18 = .ok (.aload_n 0, 1) := by decide +kernel
theorem dX1_readList_19 : decode cX1_readList 19 = .ok (.invokevirtual 35, 3) := by decide +kernel
theorem dX1_readList_22 : decode cX1_readList 22 = .ok (.ifCond .ne 8, 3) := by decide +kernel
theorem dX1_readList_25 : decode cX1_readList 25 = .ok (.aload_n 0, 1) := by decide +kernel
theorem dX1_readList_26 : decode cX1_readList 26 = .ok (.getfield 32, 3) := by decide +kernel
theorem dX1_readList_29 : decode cX1_readList 29 = .ok (.ireturn, 1) := by decide +kernel
theorem dX1_readList_30 : decode cX1_readList 30 = .ok (.aload_n 0, 1) := by decide +kernel
theorem dX1_readList_31 : decode cX1_readList 31 = .ok (.bipush 59, 2) := by decide +kernel
theorem dX1_readList_33 : decode cX1_readList 33 = .ok (.invokevirtual 39, 3) := by decide +kernel
theorem dX1_readList_36 : decode cX1_readList 36 = .ok (.ifCond .ne 23, 3) := by decide +kernel
theorem dX1_readList_39 : decode cX1_readList 39 = .ok (.aload_n 0, 1) := by decide +kernel
theorem dX1_readList_40 : decode cX1_readList 40 = .ok (.getfield 32, 3) := by decide +kernel
theorem dX1_readList_43 : decode cX1_readList 43 = .ok (.aload_n 0, 1) := by decide +kernel
theorem dX1_readList_44 : decode cX1_readList 44 = .ok (.getfield 25, 3) := by decide +kernel
theorem dX1_readList_47 : decode cX1_readList 47 = .ok (.if_icmp .ne 7, 3) := by decide +kernel
theorem dX1_readList_50 : decode cX1_readList 50 = .ok (.iconst (-1), 1) := by decide +kernel
theorem dX1_readList_51 : decode cX1_readList 51 = .ok (.goto 7, 3) := by decide +kernel
theorem dX1_readList_54 : decode cX1_readList 54 = .ok (.aload_n 0, 1) := by decide +kernel
theorem dX1_readList_55 : decode cX1_readList 55 = .ok (.getfield 32, 3) := by decide +kernel
theorem dX1_readList_58 : decode cX1_readList 58 = .ok (.ireturn, 1) := by decide +kernel
theorem dX1_readList_59 : decode cX1_readList 59 = .ok (.iinc 1 1, 3) := by decide +kernel
theorem dX1_readList_62 : decode cX1_readList 62 = .ok (.goto (-50), 3) := by decide +kernel
theorem dX1_readList_65 : decode cX1_readList 65 = .ok (.aload_n 0, 1) := by decide +kernel
theorem dX1_readList_66 : decode cX1_readList 66 = .ok (.getfield 32, 3) := by decide +kernel
theorem dX1_readList_69 : decode cX1_readList 69 = .ok (.ireturn, 1) := by decide +kernel
theorem dX1_readAlarm_0 : decode cX1_readAlarm 0 = .ok (.aload_n 0, 1) := by decide +kernel
theorem dX1_readAlarm_1 : decode cX1_readAlarm 1 = .ok (.iconst 0, 1) := by decide +kernel
theorem dX1_readAlarm_2 : decode cX1_readAlarm 2 = .ok (.ldc 43, 2) := by decide +kernel
theorem dX1_readAlarm_4 : decode cX1_readAlarm 4 = .ok (.invokevirtual 44, 3) := by decide +kernel
theorem dX1_readAlarm_7 : decode cX1_readAlarm 7 = .ok (.istore_n 1, 1) := by decide +kernel
theorem dX1_readAlarm_8 : decode cX1_readAlarm 8 = .ok (.iconst 0, 1) := by decide +kernel
theorem dX1_readAlarm_9 : decode cX1_readAlarm 9 = .ok (.istore_n 2, 1) := by decide +kernel
theorem dX1_readAlarm_10 : decode cX1_readAlarm 10 = .ok (.iconst 0, 1) := by decide +kernel
theorem dX1_readAlarm_11 : decode cX1_readAlarm 11 = .ok (.istore_n 3, 1) := by decide +kernel
theorem dX1_readAlarm_12 : decode cX1_readAlarm 12 = .ok (.iload_n 1, 1) := by decide +kernel
theorem dX1_readAlarm_13 : decode cX1_readAlarm 13 = .ok (.iconst (-1), 1) := by decide +kernel
theorem dX1_readAlarm_14 : decode cX1_readAlarm 14 = .ok (.if_icmp .eq 21, 3) := by decide +kernel
theorem dX1_readAlarm_17 : decode cX1_readAlarm 17 = .ok (.aload_n 0, 1) := by decide +kernel
theorem dX1_readAlarm_18 : decode cX1_readAlarm 18 = .ok (.bipush 47, 2) := by decide +kernel
theorem dX1_readAlarm_20 : decode cX1_readAlarm 20 = .ok (.invokevirtual 39, 3) := by decide +kernel
theorem dX1_readAlarm_23 : decode cX1_readAlarm 23 = .ok (.ifCond .eq 12, 3) := by decide +kernel
theorem dX1_readAlarm_26 : decode cX1_readAlarm 26 = .ok (.aload_n 0, 1) := by decide +kernel
theorem dX1_readAlarm_27 : decode cX1_readAlarm 27 = .ok (.iconst 1, 1) := by decide +kernel
theorem dX1_readAlarm_28 : decode cX1_readAlarm 28 = .ok (.sipush 9999, 3) := by decide +kernel
theorem dX1_readAlarm_31 : decode cX1_readAlarm 31 = .ok (.invokevirtual 44, 3) := by decide +kernel
theorem dX1_readAlarm_34 : decode cX1_readAlarm 34 = .ok (.istore_n 2, 1) := by decide +kernel
theorem dX1_readAlarm_35 : decode cX1_readAlarm 35 = .ok (.iload_n 1, 1) := by decide +kernel
theorem dX1_readAlarm_36 : decode cX1_readAlarm 36 = .ok (.iconst (-1), 1) := by decide +kernel
theorem dX1_readAlarm_37 : decode cX1_readAlarm 37 = .ok (.if_icmp .eq 24, 3) := by decide +kernel
theorem dX1_readAlarm_40 : decode cX1_readAlarm 40 = .ok (.iload_n 2, 1) := by decide +kernel
theorem dX1_readAlarm_41 : decode cX1_readAlarm 41 = .ok (.iconst (-1), 1) := by decide +kernel
theorem dX1_readAlarm_42 : decode cX1_readAlarm 42 = .ok (.if_icmp .eq 19, 3) := by decide +kernel
theorem dX1_readAlarm_45 : decode cX1_readAlarm 45 = .ok (.aload_n 0, 1) := by decide +kernel
theorem dX1_readAlarm_46 : decode cX1_readAlarm 46 = .ok (.bipush 33, 2) := by decide +kernel
theorem dX1_readAlarm_48 : decode cX1_readAlarm 48 = .ok (.invokevirtual 39, 3) := by decide +kernel
theorem dX1_readAlarm_51 : decode cX1_readAlarm 51 = .ok (.ifCond .eq 10, 3) := by decide +kernel
theorem dX1_readAlarm_54 : decode cX1_readAlarm 54 = .ok (.aload_n 0, 1) := by decide +kernel
theorem dX1_readAlarm_55 : decode cX1_readAlarm 55 = .ok (.iconst 1, 1) := by decide +kernel
theorem dX1_readAlarm_56 : decode cX1_readAlarm 56 = .ok (.iconst 3, 1) := by decide +kernel
theorem dX1_readAlarm_57 : decode cX1_readAlarm 57 = .ok (.invokevirtual 44, 3) := by decide +kernel
theorem dX1_readAlarm_60 : decode cX1_readAlarm 60 = .ok (.istore_n 3, 1) := by decide +kernel
theorem dX1_readAlarm_61 : decode cX1_readAlarm 61 = .ok (.iload_n 1, 1) := by decide +kernel
theorem dX1_readAlarm_62 : decode cX1_readAlarm 62 = .ok (.iconst (-1), 1) := by decide +kernel
theorem dX1_readAlarm_63 : decode cX1_readAlarm 63 = .ok (.if_icmp .eq 22, 3) := by decide +kernel
theorem dX1_readAlarm_66 : decode cX1_readAlarm 66 = .ok (.iload_n 2, 1) := by decide +kernel
theorem dX1_readAlarm_67 : decode cX1_readAlarm 67 = .ok (.iconst (-1), 1) := by decide +kernel
theorem dX1_readAlarm_68 : decode cX1_readAlarm 68 = .ok (.if_icmp .eq 17, 3) := by decide +kernel
theorem dX1_readAlarm_71 : decode cX1_readAlarm 71 = .ok (.iload_n 3, 1) := by decide +kernel
theorem dX1_readAlarm_72 : decode cX1_readAlarm 72 = .ok (.iconst (-1), 1) := by decide +kernel
theorem dX1_readAlarm_73 : decode cX1_readAlarm 73 = .ok (.if_icmp .eq 12, 3) := by decide +kernel
theorem dX1_readAlarm_76 : decode cX1_readAlarm 76 = .ok (.aload_n 0, 1) := by decide +kernel
theorem dX1_readAlarm_77 : decode cX1_readAlarm 77 = .ok (.getfield 29, 3) := by decide +kernel
theorem dX1_readAlarm_80 : decode cX1_readAlarm 80 = .ok (.bipush 30, 2) := by decide +kernel
theorem dX1_readAlarm_82 : decode cX1_readAlarm 82 = .ok (.if_icmp .lt 5, 3) := by decide +kernel
theorem dX1_readAlarm_85 : decode cX1_readAlarm 85 = .ok (.iconst 0, 1) := by decide +kernel
theorem dX1_readAlarm_86 : decode cX1_readAlarm 86 = .ok (.ireturn, 1) := by decide +kernel
theorem dX1_readAlarm_87 : decode cX1_readAlarm 87 = .ok (.aload_n 0, 1) := by decide +kernel
theorem dX1_readAlarm_88 : decode cX1_readAlarm 88 = .ok (.getfield 15, 3) := by decide +kernel
theorem dX1_readAlarm_91 : decode cX1_readAlarm 91 = .ok (.aload_n 0, 1) := by decide +kernel
theorem dX1_readAlarm_92 : decode cX1_readAlarm 92 = .ok (.getfield 29, 3) := by decide +kernel
theorem dX1_readAlarm_95 : decode cX1_readAlarm 95 = .ok (.iload_n 1, 1) := by decide +kernel
theorem dX1_readAlarm_96 : decode cX1_readAlarm 96 = .ok (.iastore, 1) := by decide +kernel
theorem dX1_readAlarm_97 : decode cX1_readAlarm 97 = .ok (.aload_n 0, 1) := by decide +kernel
theorem dX1_readAlarm_98 : decode cX1_readAlarm 98 = .ok (.getfield 19, 3) := by decide +kernel
theorem dX1_readAlarm_101 : decode cX1_readAlarm 101 = .ok (.aload_n 0, 1) := by decide +kernel
theorem dX1_readAlarm_102 : decode cX1_readAlarm 102 = .ok (.getfield 29, 3) := by decide +kernel
theorem dX1_readAlarm_105 : decode cX1_readAlarm 105 = .ok (.iload_n 2, 1) := by decide +kernel
theorem dX1_readAlarm_106 : decode cX1_readAlarm 106 = .ok (.iastore, 1) := by decide +kernel
theorem dX1_readAlarm_107 : decode cX1_readAlarm 107 = .ok (.aload_n 0, 1) := by decide +kernel
theorem dX1_readAlarm_108 : decode cX1_readAlarm 108 = .ok (.getfield 22, 3) := by decide +kernel
theorem dX1_readAlarm_111 : decode cX1_readAlarm 111 = .ok (.aload_n 0, 1) := by decide +kernel
theorem dX1_readAlarm_112 : decode cX1_readAlarm 112 = .ok (.getfield 29, 3) := by decide +kernel
theorem dX1_readAlarm_115 : decode cX1_readAlarm 115 = .ok (.iload_n 3, 1) := by decide +kernel
theorem dX1_readAlarm_116 : decode cX1_readAlarm 116 = .ok (.iastore, 1) := by decide +kernel
theorem dX1_readAlarm_117 : decode cX1_readAlarm 117 = .ok (.aload_n 0, 1) := by decide +kernel
theorem dX1_readAlarm_118 : decode cX1_readAlarm 118 = .ok (.dup, 1) := by decide +kernel
theorem dX1_readAlarm_119 : decode cX1_readAlarm 119 = .ok (.getfield 29, 3) := by decide +kernel
theorem dX1_readAlarm_122 : decode cX1_readAlarm 122 = .ok (.iconst 1, 1) := by decide +kernel
theorem dX1_readAlarm_123 : decode cX1_readAlarm 123 = .ok (.iadd, 1) := by decide +kernel
theorem dX1_readAlarm_124 : decode cX1_readAlarm 124 = .ok (.putfield 29, 3) := by decide +kernel
theorem dX1_readAlarm_127 : decode cX1_readAlarm 127 = .ok (.iconst 1, 1) := by decide +kernel
theorem dX1_readAlarm_128 : decode cX1_readAlarm 128 = .ok (.ireturn, 1) := by decide +kernel
theorem dX1_readSign_0 : decode cX1_readSign 0 = .ok (.aload_n 0, 1) := by decide +kernel
theorem dX1_readSign_1 : decode cX1_readSign 1 = .ok (.getfield 32, 3) := by decide +kernel
theorem dX1_readSign_4 : decode cX1_readSign 4 = .ok (.aload_n 0, 1) := by decide +kernel
theorem dX1_readSign_5 : decode cX1_readSign 5 = .ok (.getfield 25, 3) := by decide +kernel
theorem dX1_readSign_8 : decode cX1_readSign 8 = .ok (.if_icmp .ge 25, 3) := by decide +kernel
theorem dX1_readSign_11 : decode cX1_readSign 11 = .ok (.aload_n 0, 1) := by decide +kernel
theorem dX1_readSign_12 : decode cX1_readSign 12 = .ok (.getfield 32, 3) := by decide +kernel
theorem dX1_readSign_15 : decode cX1_readSign 15 = .ok (.bipush 60, 2) := by decide +kernel
theorem dX1_readSign_17 : decode cX1_readSign 17 = .ok (.if_icmp .ge 16, 3) := by decide +kernel
theorem dX1_readSign_20 : decode cX1_readSign 20 = .ok (.aload_n 0, 1) := by decide +kernel
theorem dX1_readSign_21 : decode cX1_readSign 21 = .ok (.getfield 9, 3) := by decide +kernel
theorem dX1_readSign_24 : decode cX1_readSign 24 = .ok (.aload_n 0, 1) := by decide +kernel
theorem dX1_readSign_25 : decode cX1_readSign 25 = .ok (.getfield 32, 3) := by decide +kernel
theorem dX1_readSign_28 : decode cX1_readSign 28 = .ok (.caload, 1) := by decide +kernel
theorem dX1_readSign_29 : decode cX1_readSign 29 = .ok (.iload_n 1, 1) := by decide +kernel
theorem dX1_readSign_30 : decode cX1_readSign 30 = .ok (.if_icmp .eq 5, 3) := by decide +kernel
theorem dX1_readSign_33 : decode cX1_readSign 33 = .ok (.iconst 0, 1) := by decide +kernel
theorem dX1_readSign_34 : decode cX1_readSign 34 = .ok (.ireturn, 1) := by decide +kernel
theorem dX1_readSign_35 : decode cX1_readSign 35 = .ok (.aload_n 0, 1) := by decide +kernel
theorem dX1_readSign_36 : decode cX1_readSign 36 = .ok (.dup, 1) := by decide +kernel
theorem dX1_readSign_37 : decode cX1_readSign 37 = .ok (.getfield 32, 3) := by decide +kernel
theorem dX1_readSign_40 : decode cX1_readSign 40 = .ok (.iconst 1, 1) := by decide +kernel
theorem dX1_readSign_41 : decode cX1_readSign 41 = .ok (.iadd, 1) := by decide +kernel
theorem dX1_readSign_42 : decode cX1_readSign 42 = .ok (.putfield 32, 3) := by decide +kernel
theorem dX1_readSign_45 : decode cX1_readSign 45 = .ok (.iconst 1, 1) := by decide +kernel
theorem dX1_readSign_46 : decode cX1_readSign 46 = .ok (.ireturn, 1) := by decide +kernel
theorem dX1_readNumber_0 : decode cX1_readNumber 0 = .ok (.aload_n 0, 1) := by decide +kernel
theorem dX1_readNumber_1 : decode cX1_readNumber 1 = .ok (.invokevirtual 48, 3) := by decide +kernel
theorem dX1_readNumber_4 : decode cX1_readNumber 4 = .ok (.istore_n 3, 1) := by decide +kernel
theorem dX1_readNumber_5 : decode cX1_readNumber 5 = .ok (.iload_n 3, 1) := by decide +kernel
theorem dX1_readNumber_6 : decode cX1_readNumber 6 = .ok (.iconst (-1), 1) := by decide +kernel
theorem dX1_readNumber_7 : decode cX1_readNumber 7 = .ok (.if_icmp .eq 13, 3) := by decide +kernel
theorem dX1_readNumber_10 : decode cX1_readNumber 10 = .ok (.iload_n 3, 1) := by decide +kernel
theorem dX1_readNumber_11 : decode cX1_readNumber 11 = .ok (.iload_n 1, 1) := by decide +kernel
theorem dX1_readNumber_12 : decode cX1_readNumber 12 = .ok (.if_icmp .lt 8, 3) := by decide +kernel
theorem dX1_readNumber_15 : decode cX1_readNumber 15 = .ok (.iload_n 3, 1) := by decide +kernel
theorem dX1_readNumber_16 : decode cX1_readNumber 16 = .ok (.iload_n 2, 1) := by decide +kernel
theorem dX1_readNumber_17 : decode cX1_readNumber 17 = .ok (.if_icmp .le 5, 3) := by decide +kernel
theorem dX1_readNumber_20 : decode cX1_readNumber 20 = .ok (.iconst (-1), 1) := by decide +kernel
theorem dX1_readNumber_21 : decode cX1_readNumber 21 = .ok (.ireturn, 1) := by decide +kernel
theorem dX1_readNumber_22 : decode cX1_readNumber 22 = .ok (.aload_n 0, 1) := by decide +kernel
theorem dX1_readNumber_23 : decode cX1_readNumber 23 = .ok (.dup, 1) := by decide +kernel
theorem dX1_readNumber_24 : decode cX1_readNumber 24 = .ok (.getfield 32, 3) := by decide +kernel
theorem dX1_readNumber_27 : decode cX1_readNumber 27 = .ok (.iconst 1, 1) := by decide +kernel
theorem dX1_readNumber_28 : decode cX1_readNumber 28 = .ok (.iadd, 1) := by decide +kernel
theorem dX1_readNumber_29 : decode cX1_readNumber 29 = .ok (.putfield 32, 3) := by decide +kernel
theorem dX1_readNumber_32 : decode cX1_readNumber 32 = .ok (.iload_n 3, 1) := by decide +kernel
theorem dX1_readNumber_33 : decode cX1_readNumber 33 = .ok (.ifCond .le 60, 3) := by decide +kernel
theorem dX1_readNumber_36 : decode cX1_readNumber 36 = .ok (.aload_n 0, 1) := by decide +kernel
theorem dX1_readNumber_37 : decode cX1_readNumber 37 = .ok (.getfield 32, 3) := by decide +kernel
theorem dX1_readNumber_40 : decode cX1_readNumber 40 = .ok (.aload_n 0, 1) := by decide +kernel
theorem dX1_readNumber_41 : decode cX1_readNumber 41 = .ok (.getfield 25, 3) := by decide +kernel
theorem dX1_readNumber_44 : decode cX1_readNumber 44 = .ok (.if_icmp .ge 49, 3) := by decide +kernel
theorem dX1_readNumber_47 : decode cX1_readNumber 47 = .ok (.aload_n 0, 1) := by decide +kernel
theorem dX1_readNumber_48 : decode cX1_readNumber 48 = .ok (.invokevirtual 48, 3) := by decide +kernel
theorem dX1_readNumber_51 : decode cX1_readNumber 51 = .ok (.istore 4, 2) := by decide +kernel
theorem dX1_readNumber_53 : decode cX1_readNumber 53 = .ok (.iload 4, 2) := by decide +kernel
theorem dX1_readNumber_55 : decode cX1_readNumber 55 = .ok (.iconst (-1), 1) := by decide +kernel
theorem dX1_readNumber_56 : decode cX1_readNumber 56 = .ok (.if_icmp .eq 14, 3) := by decide +kernel
theorem dX1_readNumber_59 : decode cX1_readNumber 59 = .ok (.iload_n 3, 1) := by decide +kernel
theorem dX1_readNumber_60 : decode cX1_readNumber 60 = .ok (.bipush 10, 2) := by decide +kernel
theorem dX1_readNumber_62 : decode cX1_readNumber 62 = .ok (.imul, 1) := by decide +kernel
theorem dX1_readNumber_63 : decode cX1_readNumber 63 = .ok (.iload 4, 2) := by decide +kernel
theorem dX1_readNumber_65 : decode cX1_readNumber 65 = .ok (.iadd, 1) := by decide +kernel
theorem dX1_readNumber_66 : decode cX1_readNumber 66 = .ok (.iload_n 2, 1) := by decide +kernel
theorem dX1_readNumber_67 : decode cX1_readNumber 67 = .ok (.if_icmp .le 5, 3) := by decide +kernel
theorem dX1_readNumber_70 : decode cX1_readNumber 70 = .ok (.iload_n 3, 1) := by decide +kernel
theorem dX1_readNumber_71 : decode cX1_readNumber 71 = .ok (.ireturn, 1) := by decide +kernel
theorem dX1_readNumber_72 : decode cX1_readNumber 72 = .ok (.iload_n 3, 1) := by decide +kernel
theorem dX1_readNumber_73 : decode cX1_readNumber 73 = .ok (.bipush 10, 2) := by decide +kernel
theorem dX1_readNumber_75 : decode cX1_readNumber 75 = .ok (.imul, 1) := by decide +kernel
theorem dX1_readNumber_76 : decode cX1_readNumber 76 = .ok (.iload 4, 2) := by decide +kernel
theorem dX1_readNumber_78 : decode cX1_readNumber 78 = .ok (.iadd, 1) := by decide +kernel
theorem dX1_readNumber_79 : decode cX1_readNumber 79 = .ok (.istore_n 3, 1) := by decide +kernel
theorem dX1_readNumber_80 : decode cX1_readNumber 80 = .ok (.aload_n 0, 1) := by decide +kernel
theorem dX1_readNumber_81 : decode cX1_readNumber 81 = .ok (.dup, 1) := by decide +kernel
theorem dX1_readNumber_82 : decode cX1_readNumber 82 = .ok (.getfield 32, 3) := by decide +kernel
theorem dX1_readNumber_85 : decode cX1_readNumber 85 = .ok (.iconst 1, 1) := by decide +kernel
theorem dX1_readNumber_86 : decode cX1_readNumber 86 = .ok (.iadd, 1) := by decide +kernel
theorem dX1_readNumber_87 : decode cX1_readNumber 87 = .ok (.putfield 32, 3) := by decide +kernel
theorem dX1_readNumber_90 : decode cX1_readNumber 90 = .ok (.goto (-58), 3) := by decide +kernel
theorem dX1_readNumber_93 : decode cX1_readNumber 93 = .ok (.iload_n 3, 1) := by decide +kernel
theorem dX1_readNumber_94 : decode cX1_readNumber 94 = .ok (.ireturn, 1) := by decide +kernel
theorem dX1_digitHere_0 : decode cX1_digitHere 0 = .ok (.aload_n 0, 1) := by decide +kernel
theorem dX1_digitHere_1 : decode cX1_digitHere 1 = .ok (.getfield 32, 3) := by decide +kernel
theorem dX1_digitHere_4 : decode cX1_digitHere 4 = .ok (.aload_n 0, 1) := by decide +kernel
theorem dX1_digitHere_5 : decode cX1_digitHere 5 = .ok (.getfield 25, 3) := by decide +kernel
theorem dX1_digitHere_8 : decode cX1_digitHere 8 = .ok (.if_icmp .ge 12, 3) := by decide +kernel
theorem dX1_digitHere_11 : decode cX1_digitHere 11 = .ok (.aload_n 0, 1) := by decide +kernel
theorem dX1_digitHere_12 : decode cX1_digitHere 12 = .ok (.getfield 32, 3) := by decide +kernel
theorem dX1_digitHere_15 : decode cX1_digitHere 15 = .ok (.bipush 60, 2) := by decide +kernel
theorem dX1_digitHere_17 : decode cX1_digitHere 17 = .ok (.if_icmp .lt 5, 3) := by decide +kernel
theorem dX1_digitHere_20 : decode cX1_digitHere 20 = .ok (.iconst (-1), 1) := by decide +kernel
theorem dX1_digitHere_21 : decode cX1_digitHere 21 = .ok (.ireturn, 1) := by decide +kernel
theorem dX1_digitHere_22 : decode cX1_digitHere 22 = .ok (.aload_n 0, 1) := by decide +kernel
theorem dX1_digitHere_23 : decode cX1_digitHere 23 = .ok (.getfield 9, 3) := by decide +kernel
theorem dX1_digitHere_26 : decode cX1_digitHere 26 = .ok (.aload_n 0, 1) := by decide +kernel
theorem dX1_digitHere_27 : decode cX1_digitHere 27 = .ok (.getfield 32, 3) := by decide +kernel
theorem dX1_digitHere_30 : decode cX1_digitHere 30 = .ok (.caload, 1) := by decide +kernel
theorem dX1_digitHere_31 : decode cX1_digitHere 31 = .ok (.istore_n 1, 1) := by decide +kernel
theorem dX1_digitHere_32 : decode cX1_digitHere 32 = .ok (.iload_n 1, 1) := by decide +kernel
theorem dX1_digitHere_33 : decode cX1_digitHere 33 = .ok (.bipush 48, 2) := by decide +kernel
theorem dX1_digitHere_35 : decode cX1_digitHere 35 = .ok (.if_icmp .lt 16, 3) := by decide +kernel
theorem dX1_digitHere_38 : decode cX1_digitHere 38 = .ok (.iload_n 1, 1) := by decide +kernel
theorem dX1_digitHere_39 : decode cX1_digitHere 39 = .ok (.bipush 57, 2) := by decide +kernel
theorem dX1_digitHere_41 : decode cX1_digitHere 41 = .ok (.if_icmp .gt 10, 3) := by decide +kernel
theorem dX1_digitHere_44 : decode cX1_digitHere 44 = .ok (.iload_n 1, 1) := by decide +kernel
theorem dX1_digitHere_45 : decode cX1_digitHere 45 = .ok (.bipush 48, 2) := by decide +kernel
theorem dX1_digitHere_47 : decode cX1_digitHere 47 = .ok (.isub, 1) := by decide +kernel
theorem dX1_digitHere_48 : decode cX1_digitHere 48 = .ok (.goto 4, 3) := by decide +kernel
theorem dX1_digitHere_51 : decode cX1_digitHere 51 = .ok (.iconst (-1), 1) := by decide +kernel
theorem dX1_digitHere_52 : decode cX1_digitHere 52 = .ok (.ireturn, 1) := by decide +kernel
theorem dX1_leastTime_0 : decode cX1_leastTime 0 = .ok (.ldc 43, 2) := by decide +kernel
theorem dX1_leastTime_2 : decode cX1_leastTime 2 = .ok (.istore_n 1, 1) := by decide +kernel
theorem dX1_leastTime_3 : decode cX1_leastTime 3 = .ok (.iconst 0, 1) := by decide +kernel
theorem dX1_leastTime_4 : decode cX1_leastTime 4 = .ok (.istore_n 2, 1) := by decide +kernel
theorem dX1_leastTime_5 : decode cX1_leastTime 5 = .ok (.iload_n 2, 1) := by decide +kernel
theorem dX1_leastTime_6 : decode cX1_leastTime 6 = .ok (.aload_n 0, 1) := by decide +kernel
theorem dX1_leastTime_7 : decode cX1_leastTime 7 = .ok (.getfield 29, 3) := by decide +kernel
theorem dX1_leastTime_10 : decode cX1_leastTime 10 = .ok (.if_icmp .ge 20, 3) := by decide +kernel
theorem dX1_leastTime_13 : decode cX1_leastTime 13 = .ok (.iload_n 1, 1) := by decide +kernel
theorem dX1_leastTime_14 : decode cX1_leastTime 14 = .ok (.aload_n 0, 1) := by decide +kernel
theorem dX1_leastTime_15 : decode cX1_leastTime 15 = .ok (.getfield 15, 3) := by decide +kernel
theorem dX1_leastTime_18 : decode cX1_leastTime 18 = .ok (.iload_n 2, 1) := by decide +kernel
theorem dX1_leastTime_19 : decode cX1_leastTime 19 = .ok (.iaload, 1) := by decide +kernel
theorem dX1_leastTime_20 : decode cX1_leastTime 20 = .ok (.invokestatic 52, 3) := by decide +kernel
theorem dX1_leastTime_23 : decode cX1_leastTime 23 = .ok (.istore_n 1, 1) := by decide +kernel
theorem dX1_leastTime_24 : decode cX1_leastTime 24 = .ok (.iinc 2 1, 3) := by decide +kernel
theorem dX1_leastTime_27 : decode cX1_leastTime 27 = .ok (.goto (-22), 3) := by decide +kernel
theorem dX1_leastTime_30 : decode cX1_leastTime 30 = .ok (.iload_n 1, 1) := by decide +kernel
theorem dX1_leastTime_31 : decode cX1_leastTime 31 = .ok (.ireturn, 1) := by decide +kernel
theorem dX3_init_0 : decode cX3_init 0 = .ok (.aload_n 0, 1) := by decide +kernel
theorem dX3_init_1 : decode cX3_init 1 = .ok (.invokespecial 1, 3) := by decide +kernel
theorem dX3_init_4 : decode cX3_init 4 = .ok (.return_, 1) := by decide +kernel
theorem dX3_copyFrom_0 : decode cX3_copyFrom 0 = .ok (.aload_n 0, 1) := by decide +kernel
theorem dX3_copyFrom_1 : decode cX3_copyFrom 1 = .ok (.aload_n 1, 1) := by decide +kernel
theorem dX3_copyFrom_2 : decode cX3_copyFrom 2 = .ok (.getfield 7, 3) := by decide +kernel
theorem dX3_copyFrom_5 : decode cX3_copyFrom 5 = .ok (.putfield 7, 3) := by decide +kernel
theorem dX3_copyFrom_8 : decode cX3_copyFrom 8 = .ok (.aload_n 0, 1) := by decide +kernel
theorem dX3_copyFrom_9 : decode cX3_copyFrom 9 = .ok (.aload_n 1, 1) := by decide +kernel
theorem dX3_copyFrom_10 : decode cX3_copyFrom 10 = .ok (.getfield 13, 3) := by decide +kernel
theorem dX3_copyFrom_13 : decode cX3_copyFrom 13 = .ok (.putfield 13, 3) := by decide +kernel
theorem dX3_copyFrom_16 : decode cX3_copyFrom 16 = .ok (.aload_n 0, 1) := by decide +kernel
theorem dX3_copyFrom_17 : decode cX3_copyFrom 17 = .ok (.aload_n 1, 1) := by decide +kernel
theorem dX3_copyFrom_18 : decode cX3_copyFrom 18 = .ok (.getfield 16, 3) := by decide +kernel
theorem dX3_copyFrom_21 : decode cX3_copyFrom 21 = .ok (.putfield 16, 3) := by decide +kernel
theorem dX3_copyFrom_24 : decode cX3_copyFrom 24 = .ok (.aload_n 0, 1) := by decide +kernel
theorem dX3_copyFrom_25 : decode cX3_copyFrom 25 = .ok (.aload_n 1, 1) := by decide +kernel
theorem dX3_copyFrom_26 : decode cX3_copyFrom 26 = .ok (.getfield 19, 3) := by decide +kernel
theorem dX3_copyFrom_29 : decode cX3_copyFrom 29 = .ok (.putfield 19, 3) := by decide +kernel
theorem dX3_copyFrom_32 : decode cX3_copyFrom 32 = .ok (.return_, 1) := by decide +kernel
theorem dX3_isFree_0 : decode cX3_isFree 0 = .ok (.aload_n 0, 1) := by decide +kernel
theorem dX3_isFree_1 : decode cX3_isFree 1 = .ok (.getfield 7, 3) := by decide +kernel
theorem dX3_isFree_4 : decode cX3_isFree 4 = .ok (.ifCond .ne 7, 3) := by decide +kernel
theorem dX3_isFree_7 : decode cX3_isFree 7 = .ok (.iconst 1, 1) := by decide +kernel
theorem dX3_isFree_8 : decode cX3_isFree 8 = .ok (.goto 4, 3) := by decide +kernel
theorem dX3_isFree_11 : decode cX3_isFree 11 = .ok (.iconst 0, 1) := by decide +kernel
theorem dX3_isFree_12 : decode cX3_isFree 12 = .ok (.ireturn, 1) := by decide +kernel
theorem dX3_isDue_0 : decode cX3_isDue 0 = .ok (.aload_n 0, 1) := by decide +kernel
theorem dX3_isDue_1 : decode cX3_isDue 1 = .ok (.getfield 7, 3) := by decide +kernel
theorem dX3_isDue_4 : decode cX3_isDue 4 = .ok (.ifCond .le 22, 3) := by decide +kernel
theorem dX3_isDue_7 : decode cX3_isDue 7 = .ok (.aload_n 0, 1) := by decide +kernel
theorem dX3_isDue_8 : decode cX3_isDue 8 = .ok (.getfield 19, 3) := by decide +kernel
theorem dX3_isDue_11 : decode cX3_isDue 11 = .ok (.ifCond .ne 15, 3) := by decide +kernel
theorem dX3_isDue_14 : decode cX3_isDue 14 = .ok (.aload_n 0, 1) := by decide +kernel
theorem dX3_isDue_15 : decode cX3_isDue 15 = .ok (.getfield 16, 3) := by decide +kernel
theorem dX3_isDue_18 : decode cX3_isDue 18 = .ok (.iload_n 1, 1) := by decide +kernel
theorem dX3_isDue_19 : decode cX3_isDue 19 = .ok (.if_icmp .gt 7, 3) := by decide +kernel
theorem dX3_isDue_22 : decode cX3_isDue 22 = .ok (.iconst 1, 1) := by decide +kernel
theorem dX3_isDue_23 : decode cX3_isDue 23 = .ok (.goto 4, 3) := by decide +kernel
theorem dX3_isDue_26 : decode cX3_isDue 26 = .ok (.iconst 0, 1) := by decide +kernel
theorem dX3_isDue_27 : decode cX3_isDue 27 = .ok (.ireturn, 1) := by decide +kernel
theorem dX3_canTake_0 : decode cX3_canTake 0 = .ok (.aload_n 0, 1) := by decide +kernel
theorem dX3_canTake_1 : decode cX3_canTake 1 = .ok (.getfield 7, 3) := by decide +kernel
theorem dX3_canTake_4 : decode cX3_canTake 4 = .ok (.ifCond .le 40, 3) := by decide +kernel
theorem dX3_canTake_7 : decode cX3_canTake 7 = .ok (.aload_n 0, 1) := by decide +kernel
theorem dX3_canTake_8 : decode cX3_canTake 8 = .ok (.getfield 16, 3) := by decide +kernel
theorem dX3_canTake_11 : decode cX3_canTake 11 = .ok (.aload_n 0, 1) := by decide +kernel
theorem dX3_canTake_12 : decode cX3_canTake 12 = .ok (.getfield 13, 3) := by decide +kernel
theorem dX3_canTake_15 : decode cX3_canTake 15 = .ok (.isub, 1) := by decide +kernel
theorem dX3_canTake_16 : decode cX3_canTake 16 = .ok (.iload_n 2, 1) := by decide +kernel
theorem dX3_canTake_17 : decode cX3_canTake 17 = .ok (.if_icmp .gt 27, 3) := by decide +kernel
theorem dX3_canTake_20 : decode cX3_canTake 20 = .ok (.aload_n 0, 1) := by decide +kernel
theorem dX3_canTake_21 : decode cX3_canTake 21 = .ok (.getfield 16, 3) := by decide +kernel
theorem dX3_canTake_24 : decode cX3_canTake 24 = .ok (.iload_n 1, 1) := by decide +kernel
theorem dX3_canTake_25 : decode cX3_canTake 25 = .ok (.isub, 1) := by decide +kernel
theorem dX3_canTake_26 : decode cX3_canTake 26 = .ok (.iload_n 2, 1) := by decide +kernel
theorem dX3_canTake_27 : decode cX3_canTake 27 = .ok (.if_icmp .gt 17, 3) := by decide +kernel
theorem dX3_canTake_30 : decode cX3_canTake 30 = .ok (.iload_n 1, 1) := by decide +kernel
theorem dX3_canTake_31 : decode cX3_canTake 31 = .ok (.aload_n 0, 1) := by decide +kernel
theorem dX3_canTake_32 : decode cX3_canTake 32 = .ok (.getfield 13, 3) := by decide +kernel
theorem dX3_canTake_35 : decode cX3_canTake 35 = .ok (.isub, 1) := by decide +kernel
theorem dX3_canTake_36 : decode cX3_canTake 36 = .ok (.iload_n 2, 1) := by decide +kernel
theorem dX3_canTake_37 : decode cX3_canTake 37 = .ok (.if_icmp .gt 7, 3) := by decide +kernel
theorem dX3_canTake_40 : decode cX3_canTake 40 = .ok (.iconst 1, 1) := by decide +kernel
theorem dX3_canTake_41 : decode cX3_canTake 41 = .ok (.goto 4, 3) := by decide +kernel
theorem dX3_canTake_44 : decode cX3_canTake 44 = .ok (.iconst 0, 1) := by decide +kernel
theorem dX3_canTake_45 : decode cX3_canTake 45 = .ok (.ireturn, 1) := by decide +kernel
theorem dX3_release_0 : decode cX3_release 0 = .ok (.aload_n 0, 1) := by decide +kernel
theorem dX3_release_1 : decode cX3_release 1 = .ok (.iconst 0, 1) := by decide +kernel
theorem dX3_release_2 : decode cX3_release 2 = .ok (.putfield 7, 3) := by decide +kernel
theorem dX3_release_5 : decode cX3_release 5 = .ok (.aload_n 0, 1) := by decide +kernel
theorem dX3_release_6 : decode cX3_release 6 = .ok (.iconst 0, 1) := by decide +kernel
theorem dX3_release_7 : decode cX3_release 7 = .ok (.putfield 13, 3) := by decide +kernel
theorem dX3_release_10 : decode cX3_release 10 = .ok (.aload_n 0, 1) := by decide +kernel
theorem dX3_release_11 : decode cX3_release 11 = .ok (.iconst 0, 1) := by decide +kernel
theorem dX3_release_12 : decode cX3_release 12 = .ok (.putfield 16, 3) := by decide +kernel
theorem dX3_release_15 : decode cX3_release 15 = .ok (.aload_n 0, 1) := by decide +kernel
theorem dX3_release_16 : decode cX3_release 16 = .ok (.iconst 0, 1) := by decide +kernel
theorem dX3_release_17 : decode cX3_release 17 = .ok (.putfield 19, 3) := by decide +kernel
theorem dX3_release_20 : decode cX3_release 20 = .ok (.return_, 1) := by decide +kernel
theorem dX3_load_0 : decode cX3_load 0 = .ok (.aload_n 0, 1) := by decide +kernel
theorem dX3_load_1 : decode cX3_load 1 = .ok (.iconst 1, 1) := by decide +kernel
theorem dX3_load_2 : decode cX3_load 2 = .ok (.putfield 7, 3) := by decide +kernel
theorem dX3_load_5 : decode cX3_load 5 = .ok (.aload_n 0, 1) := by decide +kernel
theorem dX3_load_6 : decode cX3_load 6 = .ok (.iload_n 1, 1) := by decide +kernel
theorem dX3_load_7 : decode cX3_load 7 = .ok (.putfield 13, 3) := by decide +kernel
theorem dX3_load_10 : decode cX3_load 10 = .ok (.aload_n 0, 1) := by decide +kernel
theorem dX3_load_11 : decode cX3_load 11 = .ok (.iload_n 1, 1) := by decide +kernel
theorem dX3_load_12 : decode cX3_load 12 = .ok (.putfield 16, 3) := by decide +kernel
theorem dX3_load_15 : decode cX3_load 15 = .ok (.aload_n 0, 1) := by decide +kernel
theorem dX3_load_16 : decode cX3_load 16 = .ok (.iload_n 2, 1) := by decide +kernel
theorem dX3_load_17 : decode cX3_load 17 = .ok (.putfield 19, 3) := by decide +kernel
theorem dX3_load_20 : decode cX3_load 20 = .ok (.return_, 1) := by decide +kernel
theorem dX3_join_0 : decode cX3_join 0 = .ok (.aload_n 0, 1) := by decide +kernel
theorem dX3_join_1 : decode cX3_join 1 = .ok (.aload_n 0, 1) := by decide +kernel
theorem dX3_join_2 : decode cX3_join 2 = .ok (.getfield 7, 3) := by decide +kernel
theorem dX3_join_5 : decode cX3_join 5 = .ok (.ifCond .ne 7, 3) := by decide +kernel
theorem dX3_join_8 : decode cX3_join 8 = .ok (.iload_n 1, 1) := by decide +kernel
theorem dX3_join_9 : decode cX3_join 9 = .ok (.goto 11, 3) := by decide +kernel
theorem dX3_join_12 : decode cX3_join 12 = .ok (.aload_n 0, 1) := by decide +kernel
theorem dX3_join_13 : decode cX3_join 13 = .ok (.getfield 13, 3) := by decide +kernel
theorem dX3_join_16 : decode cX3_join 16 = .ok (.iload_n 1, 1) := by decide +kernel
theorem dX3_join_17 : decode cX3_join 17 = .ok (.invokestatic 22, 3) := by decide +kernel
theorem dX3_join_20 : decode cX3_join 20 = .ok (.putfield 13, 3) := by decide +kernel
theorem dX3_join_23 : decode cX3_join 23 = .ok (.aload_n 0, 1) := by decide +kernel
theorem dX3_join_24 : decode cX3_join 24 = .ok (.aload_n 0, 1) := by decide +kernel
theorem dX3_join_25 : decode cX3_join 25 = .ok (.getfield 7, 3) := by decide +kernel
theorem dX3_join_28 : decode cX3_join 28 = .ok (.ifCond .ne 7, 3) := by decide +kernel
theorem dX3_join_31 : decode cX3_join 31 = .ok (.iload_n 1, 1) := by decide +kernel
theorem dX3_join_32 : decode cX3_join 32 = .ok (.goto 11, 3) := by decide +kernel
theorem dX3_join_35 : decode cX3_join 35 = .ok (.aload_n 0, 1) := by decide +kernel
theorem dX3_join_36 : decode cX3_join 36 = .ok (.getfield 16, 3) := by decide +kernel
theorem dX3_join_39 : decode cX3_join 39 = .ok (.iload_n 1, 1) := by decide +kernel
theorem dX3_join_40 : decode cX3_join 40 = .ok (.invokestatic 28, 3) := by decide +kernel
theorem dX3_join_43 : decode cX3_join 43 = .ok (.putfield 16, 3) := by decide +kernel
theorem dX3_join_46 : decode cX3_join 46 = .ok (.aload_n 0, 1) := by decide +kernel
theorem dX3_join_47 : decode cX3_join 47 = .ok (.dup, 1) := by decide +kernel
theorem dX3_join_48 : decode cX3_join 48 = .ok (.getfield 7, 3) := by decide +kernel
theorem dX3_join_51 : decode cX3_join 51 = .ok (.iconst 1, 1) := by decide +kernel
theorem dX3_join_52 : decode cX3_join 52 = .ok (.iadd, 1) := by decide +kernel
theorem dX3_join_53 : decode cX3_join 53 = .ok (.putfield 7, 3) := by decide +kernel
theorem dX3_join_56 : decode cX3_join 56 = .ok (.return_, 1) := by decide +kernel
theorem dX3_loadOn_0 : decode cX3_loadOn 0 = .ok (.aload_n 0, 1) := by decide +kernel
theorem dX3_loadOn_1 : decode cX3_loadOn 1 = .ok (.getfield 19, 3) := by decide +kernel
theorem dX3_loadOn_4 : decode cX3_loadOn 4 = .ok (.ifCond .le 13, 3) := by decide +kernel
theorem dX3_loadOn_7 : decode cX3_loadOn 7 = .ok (.aload_n 0, 1) := by decide +kernel
theorem dX3_loadOn_8 : decode cX3_loadOn 8 = .ok (.dup, 1) := by decide +kernel
theorem dX3_loadOn_9 : decode cX3_loadOn 9 = .ok (.getfield 19, 3) := by decide +kernel
theorem dX3_loadOn_12 : decode cX3_loadOn 12 = .ok (.iconst 1, 1) := by decide +kernel
theorem dX3_loadOn_13 : decode cX3_loadOn 13 = .ok (.isub, 1) := by decide +kernel
theorem dX3_loadOn_14 : decode cX3_loadOn 14 = .ok (.putfield 19, 3) := by decide +kernel
theorem dX3_loadOn_17 : decode cX3_loadOn 17 = .ok (.return_, 1) := by decide +kernel
theorem dX4_init_0 : decode cX4_init 0 = .ok (.aload_n 0, 1) := by decide +kernel
theorem dX4_init_1 : decode cX4_init 1 = .ok (.invokespecial 3, 3) := by decide +kernel
theorem dX4_init_4 : decode cX4_init 4 = .ok (.aload_n 0, 1) := by decide +kernel
theorem dX4_init_5 : decode cX4_init 5 = .ok (.iconst 4, 1) := by decide +kernel
theorem dX4_init_6 : decode cX4_init 6 = .ok (.anewarray 9, 3) := by decide +kernel
theorem dX4_init_9 : decode cX4_init 9 = .ok (.putfield 11, 3) := by decide +kernel
theorem dX4_init_12 : decode cX4_init 12 = .ok (.iconst 0, 1) := by decide +kernel
theorem dX4_init_13 : decode cX4_init 13 = .ok (.istore_n 1, 1) := by decide +kernel
theorem dX4_init_14 : decode cX4_init 14 = .ok (.iload_n 1, 1) := by decide +kernel
theorem dX4_init_15 : decode cX4_init 15 = .ok (.iconst 4, 1) := by decide +kernel
theorem dX4_init_16 : decode cX4_init 16 = .ok (.if_icmp .ge 22, 3) := by decide +kernel
theorem dX4_init_19 : decode cX4_init 19 = .ok (.aload_n 0, 1) := by decide +kernel
theorem dX4_init_20 : decode cX4_init 20 = .ok (.getfield 11, 3) := by decide +kernel
theorem dX4_init_23 : decode cX4_init 23 = .ok (.iload_n 1, 1) := by decide +kernel
theorem dX4_init_24 : decode cX4_init 24 = .ok (.new 9, 3) := by decide +kernel
theorem dX4_init_27 : decode cX4_init 27 = .ok (.dup, 1) := by decide +kernel
theorem dX4_init_28 : decode cX4_init 28 = .ok (.invokespecial 17, 3) := by decide +kernel
theorem dX4_init_31 : decode cX4_init 31 = .ok (.aastore, 1) := by decide +kernel
theorem dX4_init_32 : decode cX4_init 32 = .ok (.iinc 1 1, 3) := by decide +kernel
theorem dX4_init_35 : decode cX4_init 35 = .ok (.goto (-21), 3) := by decide +kernel
theorem dX4_init_38 : decode cX4_init 38 = .ok (.return_, 1) := by decide +kernel
theorem dX4_recordState_0 : decode cX4_recordState 0 = .ok (.aload_n 0, 1) := by decide +kernel
theorem dX4_recordState_1 : decode cX4_recordState 1 = .ok (.getfield 18, 3) := by decide +kernel
theorem dX4_recordState_4 : decode cX4_recordState 4 = .ok (.iconst 4, 1) := by decide +kernel
theorem dX4_recordState_5 : decode cX4_recordState 5 = .ok (.if_icmp .ne 7, 3) := by decide +kernel
theorem dX4_recordState_8 : decode cX4_recordState 8 = .ok (.aload_n 0, 1) := by decide +kernel
theorem dX4_recordState_9 : decode cX4_recordState 9 = .ok (.invokevirtual 22, 3) := by decide +kernel
theorem dX4_recordState_12 : decode cX4_recordState 12 = .ok (.aload_n 0, 1) := by decide +kernel
theorem dX4_recordState_13 : decode cX4_recordState 13 = .ok (.getfield 11, 3) := by decide +kernel
theorem dX4_recordState_16 : decode cX4_recordState 16 = .ok (.aload_n 0, 1) := by decide +kernel
theorem dX4_recordState_17 : decode cX4_recordState 17 = .ok (.getfield 18, 3) := by decide +kernel
theorem dX4_recordState_20 : decode cX4_recordState 20 = .ok (.aaload, 1) := by decide +kernel
theorem dX4_recordState_21 : decode cX4_recordState 21 = .ok (.aload_n 1, 1) := by decide +kernel
theorem dX4_recordState_22 : decode cX4_recordState 22 = .ok (.invokevirtual 25, 3) := by decide +kernel
theorem dX4_recordState_25 : decode cX4_recordState 25 = .ok (.aload_n 0, 1) := by decide +kernel
theorem dX4_recordState_26 : decode cX4_recordState 26 = .ok (.dup, 1) := by decide +kernel
theorem dX4_recordState_27 : decode cX4_recordState 27 = .ok (.getfield 18, 3) := by decide +kernel
theorem dX4_recordState_30 : decode cX4_recordState 30 = .ok (.iconst 1, 1) := by decide +kernel
theorem dX4_recordState_31 : decode cX4_recordState 31 = .ok (.iadd, 1) := by decide +kernel
theorem dX4_recordState_32 : decode cX4_recordState 32 = .ok (.putfield 18, 3) := by decide +kernel
theorem dX4_recordState_35 : decode cX4_recordState 35 = .ok (.return_, 1) := by decide +kernel
theorem dX4_dropOldest_0 : decode cX4_dropOldest 0 = .ok (.aload_n 0, 1) := by decide +kernel
theorem dX4_dropOldest_1 : decode cX4_dropOldest 1 = .ok (.getfield 11, 3) := by decide +kernel
theorem dX4_dropOldest_4 : decode cX4_dropOldest 4 = .ok (.iconst 0, 1) := by decide +kernel
theorem dX4_dropOldest_5 : decode cX4_dropOldest 5 = .ok (.aaload, 1) := by decide +kernel
theorem dX4_dropOldest_6 : decode cX4_dropOldest 6 = .ok (.astore_n 1, 1) := by decide +kernel
theorem dX4_dropOldest_7 : decode cX4_dropOldest 7 = .ok (.iconst 0, 1) := by decide +kernel
theorem dX4_dropOldest_8 : decode cX4_dropOldest 8 = .ok (.istore_n 2, 1) := by decide +kernel
theorem dX4_dropOldest_9 : decode cX4_dropOldest 9 = .ok (.iload_n 2, 1) := by decide +kernel
theorem dX4_dropOldest_10 : decode cX4_dropOldest 10 = .ok (.iconst 1, 1) := by decide +kernel
theorem dX4_dropOldest_11 : decode cX4_dropOldest 11 = .ok (.iadd, 1) := by decide +kernel
theorem dX4_dropOldest_12 : decode cX4_dropOldest 12 = .ok (.iconst 4, 1) := by decide +kernel
theorem dX4_dropOldest_13 : decode cX4_dropOldest 13 = .ok (.if_icmp .ge 23, 3) := by decide +kernel
theorem dX4_dropOldest_16 : decode cX4_dropOldest 16 = .ok (.aload_n 0, 1) := by decide +kernel
theorem dX4_dropOldest_17 : decode cX4_dropOldest 17 = .ok (.getfield 11, 3) := by decide +kernel
theorem dX4_dropOldest_20 : decode cX4_dropOldest 20 = .ok (.iload_n 2, 1) := by decide +kernel
theorem dX4_dropOldest_21 : decode cX4_dropOldest 21 = .ok (.aload_n 0, 1) := by decide +kernel
theorem dX4_dropOldest_22 : decode cX4_dropOldest 22 = .ok (.getfield 11, 3) := by decide +kernel
theorem dX4_dropOldest_25 : decode cX4_dropOldest 25 = .ok (.iload_n 2, 1) := by decide +kernel
theorem dX4_dropOldest_26 : decode cX4_dropOldest 26 = .ok (.iconst 1, 1) := by decide +kernel
theorem dX4_dropOldest_27 : decode cX4_dropOldest 27 = .ok (.iadd, 1) := by decide +kernel
theorem dX4_dropOldest_28 : decode cX4_dropOldest 28 = .ok (.aaload, 1) := by decide +kernel
theorem dX4_dropOldest_29 : decode cX4_dropOldest 29 = .ok (.aastore, 1) := by decide +kernel
theorem dX4_dropOldest_30 : decode cX4_dropOldest 30 = .ok (.iinc 2 1, 3) := by decide +kernel
theorem dX4_dropOldest_33 : decode cX4_dropOldest 33 = .ok (.goto (-24), 3) := by decide +kernel
theorem dX4_dropOldest_36 : decode cX4_dropOldest 36 = .ok (.aload_n 0, 1) := by decide +kernel
theorem dX4_dropOldest_37 : decode cX4_dropOldest 37 = .ok (.getfield 11, 3) := by decide +kernel
theorem dX4_dropOldest_40 : decode cX4_dropOldest 40 = .ok (.iconst 3, 1) := by decide +kernel
theorem dX4_dropOldest_41 : decode cX4_dropOldest 41 = .ok (.aload_n 1, 1) := by decide +kernel
theorem dX4_dropOldest_42 : decode cX4_dropOldest 42 = .ok (.aastore, 1) := by decide +kernel
theorem dX4_dropOldest_43 : decode cX4_dropOldest 43 = .ok (.aload_n 0, 1) := by decide +kernel
theorem dX4_dropOldest_44 : decode cX4_dropOldest 44 = .ok (.dup, 1) := by decide +kernel
theorem dX4_dropOldest_45 : decode cX4_dropOldest 45 = .ok (.getfield 18, 3) := by decide +kernel
theorem dX4_dropOldest_48 : decode cX4_dropOldest 48 = .ok (.iconst 1, 1) := by decide +kernel
theorem dX4_dropOldest_49 : decode cX4_dropOldest 49 = .ok (.isub, 1) := by decide +kernel
theorem dX4_dropOldest_50 : decode cX4_dropOldest 50 = .ok (.putfield 18, 3) := by decide +kernel
theorem dX4_dropOldest_53 : decode cX4_dropOldest 53 = .ok (.return_, 1) := by decide +kernel
theorem dX4_takeBack_0 : decode cX4_takeBack 0 = .ok (.aload_n 0, 1) := by decide +kernel
theorem dX4_takeBack_1 : decode cX4_takeBack 1 = .ok (.getfield 18, 3) := by decide +kernel
theorem dX4_takeBack_4 : decode cX4_takeBack 4 = .ok (.ifCond .le 26, 3) := by decide +kernel
theorem dX4_takeBack_7 : decode cX4_takeBack 7 = .ok (.aload_n 0, 1) := by decide +kernel
theorem dX4_takeBack_8 : decode cX4_takeBack 8 = .ok (.dup, 1) := by decide +kernel
theorem dX4_takeBack_9 : decode cX4_takeBack 9 = .ok (.getfield 18, 3) := by decide +kernel
theorem dX4_takeBack_12 : decode cX4_takeBack 12 = .ok (.iconst 1, 1) := by decide +kernel
theorem dX4_takeBack_13 : decode cX4_takeBack 13 = .ok (.isub, 1) := by decide +kernel
theorem dX4_takeBack_14 : decode cX4_takeBack 14 = .ok (.putfield 18, 3) := by decide +kernel
theorem dX4_takeBack_17 : decode cX4_takeBack 17 = .ok (.aload_n 1, 1) := by decide +kernel
theorem dX4_takeBack_18 : decode cX4_takeBack 18 = .ok (.aload_n 0, 1) := by decide +kernel
theorem dX4_takeBack_19 : decode cX4_takeBack 19 = .ok (.getfield 11, 3) := by decide +kernel
theorem dX4_takeBack_22 : decode cX4_takeBack 22 = .ok (.aload_n 0, 1) := by decide +kernel
theorem dX4_takeBack_23 : decode cX4_takeBack 23 = .ok (.getfield 18, 3) := by decide +kernel
theorem dX4_takeBack_26 : decode cX4_takeBack 26 = .ok (.aaload, 1) := by decide +kernel
theorem dX4_takeBack_27 : decode cX4_takeBack 27 = .ok (.invokevirtual 25, 3) := by decide +kernel
theorem dX4_takeBack_30 : decode cX4_takeBack 30 = .ok (.return_, 1) := by decide +kernel
theorem dX5_init_0 : decode cX5_init 0 = .ok (.aload_n 0, 1) := by decide +kernel
theorem dX5_init_1 : decode cX5_init 1 = .ok (.invokespecial 3, 3) := by decide +kernel
theorem dX5_init_4 : decode cX5_init 4 = .ok (.aload_n 0, 1) := by decide +kernel
theorem dX5_init_5 : decode cX5_init 5 = .ok (.bipush 32, 2) := by decide +kernel
theorem dX5_init_7 : decode cX5_init 7 = .ok (.newarray .int, 2) := by decide +kernel
theorem dX5_init_9 : decode cX5_init 9 = .ok (.putfield 9, 3) := by decide +kernel
theorem dX5_init_12 : decode cX5_init 12 = .ok (.return_, 1) := by decide +kernel
theorem dX5_copyFrom_0 : decode cX5_copyFrom 0 = .ok (.aload_n 1, 1) := by decide +kernel
theorem dX5_copyFrom_1 : decode cX5_copyFrom 1 = .ok (.getfield 9, 3) := by decide +kernel
theorem dX5_copyFrom_4 : decode cX5_copyFrom 4 = .ok (.iconst 0, 1) := by decide +kernel
theorem dX5_copyFrom_5 : decode cX5_copyFrom 5 = .ok (.aload_n 0, 1) := by decide +kernel
theorem dX5_copyFrom_6 : decode cX5_copyFrom 6 = .ok (.getfield 9, 3) := by decide +kernel
theorem dX5_copyFrom_9 : decode cX5_copyFrom 9 = .ok (.iconst 0, 1) := by decide +kernel
theorem dX5_copyFrom_10 : decode cX5_copyFrom 10 = .ok (.bipush 32, 2) := by decide +kernel
theorem dX5_copyFrom_12 : decode cX5_copyFrom 12 = .ok (.invokestatic 15, 3) := by decide +kernel
theorem dX5_copyFrom_15 : decode cX5_copyFrom 15 = .ok (.aload_n 0, 1) := by decide +kernel
theorem dX5_copyFrom_16 : decode cX5_copyFrom 16 = .ok (.aload_n 1, 1) := by decide +kernel
theorem dX5_copyFrom_17 : decode cX5_copyFrom 17 = .ok (.getfield 21, 3) := by decide +kernel
theorem dX5_copyFrom_20 : decode cX5_copyFrom 20 = .ok (.putfield 21, 3) := by decide +kernel
theorem dX5_copyFrom_23 : decode cX5_copyFrom 23 = .ok (.return_, 1) := by decide +kernel
theorem dX5_note_0 : decode cX5_note 0 = .ok (.aload_n 0, 1) := by decide +kernel
theorem dX5_note_1 : decode cX5_note 1 = .ok (.getfield 21, 3) := by decide +kernel
theorem dX5_note_4 : decode cX5_note 4 = .ok (.bipush 8, 2) := by decide +kernel
theorem dX5_note_6 : decode cX5_note 6 = .ok (.irem, 1) := by decide +kernel
theorem dX5_note_7 : decode cX5_note 7 = .ok (.iconst 4, 1) := by decide +kernel
theorem dX5_note_8 : decode cX5_note 8 = .ok (.imul, 1) := by decide +kernel
theorem dX5_note_9 : decode cX5_note 9 = .ok (.istore 5, 2) := by decide +kernel
theorem dX5_note_11 : decode cX5_note 11 = .ok (.aload_n 0, 1) := by decide +kernel
theorem dX5_note_12 : decode cX5_note 12 = .ok (.getfield 9, 3) := by decide +kernel
theorem dX5_note_15 : decode cX5_note 15 = .ok (.iload 5, 2) := by decide +kernel
theorem dX5_note_17 : decode cX5_note 17 = .ok (.iload_n 1, 1) := by decide +kernel
theorem dX5_note_18 : decode cX5_note 18 = .ok (.iastore, 1) := by decide +kernel
theorem dX5_note_19 : decode cX5_note 19 = .ok (.aload_n 0, 1) := by decide +kernel
theorem dX5_note_20 : decode cX5_note 20 = .ok (.getfield 9, 3) := by decide +kernel
theorem dX5_note_23 : decode cX5_note 23 = .ok (.iload 5, 2) := by decide +kernel
theorem dX5_note_25 : decode cX5_note 25 = .ok (.iconst 1, 1) := by decide +kernel
theorem dX5_note_26 : decode cX5_note 26 = .ok (.iadd, 1) := by decide +kernel
theorem dX5_note_27 : decode cX5_note 27 = .ok (.iload_n 2, 1) := by decide +kernel
theorem dX5_note_28 : decode cX5_note 28 = .ok (.iastore, 1) := by decide +kernel
theorem dX5_note_29 : decode cX5_note 29 = .ok (.aload_n 0, 1) := by decide +kernel
theorem dX5_note_30 : decode cX5_note 30 = .ok (.getfield 9, 3) := by decide +kernel
theorem dX5_note_33 : decode cX5_note 33 = .ok (.iload 5, 2) := by decide +kernel
theorem dX5_note_35 : decode cX5_note 35 = .ok (.iconst 2, 1) := by decide +kernel
theorem dX5_note_36 : decode cX5_note 36 = .ok (.iadd, 1) := by decide +kernel
theorem dX5_note_37 : decode cX5_note 37 = .ok (.iload_n 3, 1) := by decide +kernel
theorem dX5_note_38 : decode cX5_note 38 = .ok (.iastore, 1) := by decide +kernel
theorem dX5_note_39 : decode cX5_note 39 = .ok (.aload_n 0, 1) := by decide +kernel
theorem dX5_note_40 : decode cX5_note 40 = .ok (.getfield 9, 3) := by decide +kernel
theorem dX5_note_43 : decode cX5_note 43 = .ok (.iload 5, 2) := by decide +kernel
theorem dX5_note_45 : decode cX5_note 45 = .ok (.iconst 3, 1) := by decide +kernel
theorem dX5_note_46 : decode cX5_note 46 = .ok (.iadd, 1) := by decide +kernel
theorem dX5_note_47 : decode cX5_note 47 = .ok (.iload 4, 2) := by decide +kernel
theorem dX5_note_49 : decode cX5_note 49 = .ok (.iastore, 1) := by decide +kernel
theorem dX5_note_50 : decode cX5_note 50 = .ok (.aload_n 0, 1) := by decide +kernel
theorem dX5_note_51 : decode cX5_note 51 = .ok (.dup, 1) := by decide +kernel
theorem dX5_note_52 : decode cX5_note 52 = .ok (.getfield 21, 3) := by decide +kernel
theorem dX5_note_55 : decode cX5_note 55 = .ok (.iconst 1, 1) := by decide +kernel
theorem dX5_note_56 : decode cX5_note 56 = .ok (.iadd, 1) := by decide +kernel
theorem dX5_note_57 : decode cX5_note 57 = .ok (.putfield 21, 3) := by decide +kernel
theorem dX5_note_60 : decode cX5_note 60 = .ok (.return_, 1) := by decide +kernel
theorem dX5_tell_0 : decode cX5_tell 0 = .ok (.iload_n 1, 1) := by decide +kernel
theorem dX5_tell_1 : decode cX5_tell 1 = .ok (.ifCond .lt 12, 3) := by decide +kernel
theorem dX5_tell_4 : decode cX5_tell 4 = .ok (.iload_n 2, 1) := by decide +kernel
theorem dX5_tell_5 : decode cX5_tell 5 = .ok (.ifCond .lt 8, 3) := by decide +kernel
theorem dX5_tell_8 : decode cX5_tell 8 = .ok (.iload_n 2, 1) := by decide +kernel
theorem dX5_tell_9 : decode cX5_tell 9 = .ok (.iconst 4, 1) := by decide +kernel
theorem dX5_tell_10 : decode cX5_tell 10 = .ok (.if_icmp .lt 7, 3) := by decide +kernel
theorem dX5_tell_13 : decode cX5_tell 13 = .ok (.sipush (-1002), 3) := by decide +kernel
theorem dX5_tell_16 : decode cX5_tell 16 = .ok (.ireturn, 1) := by decide +kernel
theorem dX5_tell_17 : decode cX5_tell 17 = .ok (.iload_n 1, 1) := by decide +kernel
theorem dX5_tell_18 : decode cX5_tell 18 = .ok (.bipush 8, 2) := by decide +kernel
theorem dX5_tell_20 : decode cX5_tell 20 = .ok (.if_icmp .ge 11, 3) := by decide +kernel
theorem dX5_tell_23 : decode cX5_tell 23 = .ok (.iload_n 1, 1) := by decide +kernel
theorem dX5_tell_24 : decode cX5_tell 24 = .ok (.aload_n 0, 1) := by decide +kernel
theorem dX5_tell_25 : decode cX5_tell 25 = .ok (.getfield 21, 3) := by decide +kernel
theorem dX5_tell_28 : decode cX5_tell 28 = .ok (.if_icmp .lt 7, 3) := by decide +kernel
theorem dX5_tell_31 : decode cX5_tell 31 = .ok (.sipush (-1005), 3) := by decide +kernel
theorem dX5_tell_34 : decode cX5_tell 34 = .ok (.ireturn, 1) := by decide +kernel
theorem dX5_tell_35 : decode cX5_tell 35 = .ok (.aload_n 0, 1) := by decide +kernel
theorem dX5_tell_36 : decode cX5_tell 36 = .ok (.getfield 9, 3) := by decide +kernel
theorem dX5_tell_39 : decode cX5_tell 39 = .ok (.aload_n 0, 1) := by decide +kernel
theorem dX5_tell_40 : decode cX5_tell 40 = .ok (.getfield 21, 3) := by decide +kernel
theorem dX5_tell_43 : decode cX5_tell 43 = .ok (.iconst 1, 1) := by decide +kernel
theorem dX5_tell_44 : decode cX5_tell 44 = .ok (.isub, 1) := by decide +kernel
theorem dX5_tell_45 : decode cX5_tell 45 = .ok (.iload_n 1, 1) := by decide +kernel
theorem dX5_tell_46 : decode cX5_tell 46 = .ok (.isub, 1) := by decide +kernel
theorem dX5_tell_47 : decode cX5_tell 47 = .ok (.bipush 8, 2) := by decide +kernel
theorem dX5_tell_49 : decode cX5_tell 49 = .ok (.irem, 1) := by decide +kernel
theorem dX5_tell_50 : decode cX5_tell 50 = .ok (.iconst 4, 1) := by decide +kernel
theorem dX5_tell_51 : decode cX5_tell 51 = .ok (.imul, 1) := by decide +kernel
theorem dX5_tell_52 : decode cX5_tell 52 = .ok (.iload_n 2, 1) := by decide +kernel
theorem dX5_tell_53 : decode cX5_tell 53 = .ok (.iadd, 1) := by decide +kernel
theorem dX5_tell_54 : decode cX5_tell 54 = .ok (.iaload, 1) := by decide +kernel
theorem dX5_tell_55 : decode cX5_tell 55 = .ok (.ireturn, 1) := by decide +kernel
theorem dX6_init_0 : decode cX6_init 0 = .ok (.aload_n 0, 1) := by decide +kernel
theorem dX6_init_1 : decode cX6_init 1 = .ok (.invokespecial 1, 3) := by decide +kernel
theorem dX6_init_4 : decode cX6_init 4 = .ok (.return_, 1) := by decide +kernel
theorem dX6_clear_0 : decode cX6_clear 0 = .ok (.aload_n 0, 1) := by decide +kernel
theorem dX6_clear_1 : decode cX6_clear 1 = .ok (.iconst 0, 1) := by decide +kernel
theorem dX6_clear_2 : decode cX6_clear 2 = .ok (.putfield 7, 3) := by decide +kernel
theorem dX6_clear_5 : decode cX6_clear 5 = .ok (.aload_n 0, 1) := by decide +kernel
theorem dX6_clear_6 : decode cX6_clear 6 = .ok (.iconst 0, 1) := by decide +kernel
theorem dX6_clear_7 : decode cX6_clear 7 = .ok (.putfield 13, 3) := by decide +kernel
theorem dX6_clear_10 : decode cX6_clear 10 = .ok (.aload_n 0, 1) := by decide +kernel
theorem dX6_clear_11 : decode cX6_clear 11 = .ok (.iconst 0, 1) := by decide +kernel
theorem dX6_clear_12 : decode cX6_clear 12 = .ok (.putfield 16, 3) := by decide +kernel
theorem dX6_clear_15 : decode cX6_clear 15 = .ok (.aload_n 0, 1) := by decide +kernel
theorem dX6_clear_16 : decode cX6_clear 16 = .ok (.iconst 0, 1) := by decide +kernel
theorem dX6_clear_17 : decode cX6_clear 17 = .ok (.putfield 19, 3) := by decide +kernel
theorem dX6_clear_20 : decode cX6_clear 20 = .ok (.aload_n 0, 1) := by decide +kernel
theorem dX6_clear_21 : decode cX6_clear 21 = .ok (.iconst 0, 1) := by decide +kernel
theorem dX6_clear_22 : decode cX6_clear 22 = .ok (.putfield 22, 3) := by decide +kernel
theorem dX6_clear_25 : decode cX6_clear 25 = .ok (.aload_n 0, 1) := by decide +kernel
theorem dX6_clear_26 : decode cX6_clear 26 = .ok (.iconst 0, 1) := by decide +kernel
theorem dX6_clear_27 : decode cX6_clear 27 = .ok (.putfield 25, 3) := by decide +kernel
theorem dX6_clear_30 : decode cX6_clear 30 = .ok (.return_, 1) := by decide +kernel
theorem dX6_copyFrom_0 : decode cX6_copyFrom 0 = .ok (.aload_n 0, 1) := by decide +kernel
theorem dX6_copyFrom_1 : decode cX6_copyFrom 1 = .ok (.aload_n 1, 1) := by decide +kernel
theorem dX6_copyFrom_2 : decode cX6_copyFrom 2 = .ok (.getfield 7, 3) := by decide +kernel
theorem dX6_copyFrom_5 : decode cX6_copyFrom 5 = .ok (.putfield 7, 3) := by decide +kernel
theorem dX6_copyFrom_8 : decode cX6_copyFrom 8 = .ok (.aload_n 0, 1) := by decide +kernel
theorem dX6_copyFrom_9 : decode cX6_copyFrom 9 = .ok (.aload_n 1, 1) := by decide +kernel
theorem dX6_copyFrom_10 : decode cX6_copyFrom 10 = .ok (.getfield 13, 3) := by decide +kernel
theorem dX6_copyFrom_13 : decode cX6_copyFrom 13 = .ok (.putfield 13, 3) := by decide +kernel
theorem dX6_copyFrom_16 : decode cX6_copyFrom 16 = .ok (.aload_n 0, 1) := by decide +kernel
theorem dX6_copyFrom_17 : decode cX6_copyFrom 17 = .ok (.aload_n 1, 1) := by decide +kernel
theorem dX6_copyFrom_18 : decode cX6_copyFrom 18 = .ok (.getfield 16, 3) := by decide +kernel
theorem dX6_copyFrom_21 : decode cX6_copyFrom 21 = .ok (.putfield 16, 3) := by decide +kernel
theorem dX6_copyFrom_24 : decode cX6_copyFrom 24 = .ok (.aload_n 0, 1) := by decide +kernel
theorem dX6_copyFrom_25 : decode cX6_copyFrom 25 = .ok (.aload_n 1, 1) := by decide +kernel
theorem dX6_copyFrom_26 : decode cX6_copyFrom 26 = .ok (.getfield 19, 3) := by decide +kernel
theorem dX6_copyFrom_29 : decode cX6_copyFrom 29 = .ok (.putfield 19, 3) := by decide +kernel
theorem dX6_copyFrom_32 : decode cX6_copyFrom 32 = .ok (.aload_n 0, 1) := by decide +kernel
theorem dX6_copyFrom_33 : decode cX6_copyFrom 33 = .ok (.aload_n 1, 1) := by decide +kernel
theorem dX6_copyFrom_34 : decode cX6_copyFrom 34 = .ok (.getfield 22, 3) := by decide +kernel
theorem dX6_copyFrom_37 : decode cX6_copyFrom 37 = .ok (.putfield 22, 3) := by decide +kernel
theorem dX6_copyFrom_40 : decode cX6_copyFrom 40 = .ok (.aload_n 0, 1) := by decide +kernel
theorem dX6_copyFrom_41 : decode cX6_copyFrom 41 = .ok (.aload_n 1, 1) := by decide +kernel
theorem dX6_copyFrom_42 : decode cX6_copyFrom 42 = .ok (.getfield 25, 3) := by decide +kernel
theorem dX6_copyFrom_45 : decode cX6_copyFrom 45 = .ok (.putfield 25, 3) := by decide +kernel
theorem dX6_copyFrom_48 : decode cX6_copyFrom 48 = .ok (.return_, 1) := by decide +kernel
theorem dX6_noteRing_0 : decode cX6_noteRing 0 = .ok (.aload_n 0, 1) := by decide +kernel
theorem dX6_noteRing_1 : decode cX6_noteRing 1 = .ok (.dup, 1) := by decide +kernel
theorem dX6_noteRing_2 : decode cX6_noteRing 2 = .ok (.getfield 7, 3) := by decide +kernel
theorem dX6_noteRing_5 : decode cX6_noteRing 5 = .ok (.iconst 1, 1) := by decide +kernel
theorem dX6_noteRing_6 : decode cX6_noteRing 6 = .ok (.iadd, 1) := by decide +kernel
theorem dX6_noteRing_7 : decode cX6_noteRing 7 = .ok (.putfield 7, 3) := by decide +kernel
theorem dX6_noteRing_10 : decode cX6_noteRing 10 = .ok (.aload_n 0, 1) := by decide +kernel
theorem dX6_noteRing_11 : decode cX6_noteRing 11 = .ok (.dup, 1) := by decide +kernel
theorem dX6_noteRing_12 : decode cX6_noteRing 12 = .ok (.getfield 13, 3) := by decide +kernel
theorem dX6_noteRing_15 : decode cX6_noteRing 15 = .ok (.iload_n 1, 1) := by decide +kernel
theorem dX6_noteRing_16 : decode cX6_noteRing 16 = .ok (.iadd, 1) := by decide +kernel
theorem dX6_noteRing_17 : decode cX6_noteRing 17 = .ok (.putfield 13, 3) := by decide +kernel
theorem dX6_noteRing_20 : decode cX6_noteRing 20 = .ok (.aload_n 0, 1) := by decide +kernel
theorem dX6_noteRing_21 : decode cX6_noteRing 21 = .ok (.aload_n 0, 1) := by decide +kernel
theorem dX6_noteRing_22 : decode cX6_noteRing 22 = .ok (.getfield 16, 3) := by decide +kernel
theorem dX6_noteRing_25 : decode cX6_noteRing 25 = .ok (.iload_n 1, 1) := by decide +kernel
theorem dX6_noteRing_26 : decode cX6_noteRing 26 = .ok (.invokestatic 28, 3) := by decide +kernel
theorem dX6_noteRing_29 : decode cX6_noteRing 29 = .ok (.putfield 16, 3) := by decide +kernel
theorem dX6_noteRing_32 : decode cX6_noteRing 32 = .ok (.return_, 1) := by decide +kernel
