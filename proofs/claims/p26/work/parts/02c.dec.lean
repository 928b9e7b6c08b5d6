theorem dX7_init_0 : decode cX7_init 0 = .ok (.aload_n 0, 1) := by decide +kernel
theorem dX7_init_1 : decode cX7_init 1 = .ok (.invokespecial 1, 3) := by decide +kernel
theorem dX7_init_4 : decode cX7_init 4 = .ok (.aload_n 0, 1) := by decide +kernel
theorem dX7_init_5 : decode cX7_init 5 = .ok (.new 7, 3) := by decide +kernel
theorem dX7_init_8 : decode cX7_init 8 = .ok (.dup, 1) := by decide +kernel
theorem dX7_init_9 : decode cX7_init 9 = .ok (.invokespecial 9, 3) := by decide +kernel
theorem dX7_init_12 : decode cX7_init 12 = .ok (.putfield 10, 3) := by decide +kernel
theorem dX7_init_15 : decode cX7_init 15 = .ok (.aload_n 0, 1) := by decide +kernel
theorem dX7_init_16 : decode cX7_init 16 = .ok (.new 7, 3) := by decide +kernel
theorem dX7_init_19 : decode cX7_init 19 = .ok (.dup, 1) := by decide +kernel
theorem dX7_init_20 : decode cX7_init 20 = .ok (.invokespecial 9, 3) := by decide +kernel
theorem dX7_init_23 : decode cX7_init 23 = .ok (.putfield 16, 3) := by decide +kernel
theorem dX7_init_26 : decode cX7_init 26 = .ok (.aload_n 0, 1) := by decide +kernel
theorem dX7_init_27 : decode cX7_init 27 = .ok (.new 7, 3) := by decide +kernel
theorem dX7_init_30 : decode cX7_init 30 = .ok (.dup, 1) := by decide +kernel
theorem dX7_init_31 : decode cX7_init 31 = .ok (.invokespecial 9, 3) := by decide +kernel
theorem dX7_init_34 : decode cX7_init 34 = .ok (.putfield 19, 3) := by decide +kernel
theorem dX7_init_37 : decode cX7_init 37 = .ok (.aload_n 0, 1) := by decide +kernel
theorem dX7_init_38 : decode cX7_init 38 = .ok (.new 22, 3) := by decide +kernel
theorem dX7_init_41 : decode cX7_init 41 = .ok (.dup, 1) := by decide +kernel
theorem dX7_init_42 : decode cX7_init 42 = .ok (.invokespecial 24, 3) := by decide +kernel
theorem dX7_init_45 : decode cX7_init 45 = .ok (.putfield 25, 3) := by decide +kernel
theorem dX7_init_48 : decode cX7_init 48 = .ok (.aload_n 0, 1) := by decide +kernel
theorem dX7_init_49 : decode cX7_init 49 = .ok (.new 29, 3) := by decide +kernel
theorem dX7_init_52 : decode cX7_init 52 = .ok (.dup, 1) := by decide +kernel
theorem dX7_init_53 : decode cX7_init 53 = .ok (.invokespecial 31, 3) := by decide +kernel
theorem dX7_init_56 : decode cX7_init 56 = .ok (.putfield 32, 3) := by decide +kernel
theorem dX7_init_59 : decode cX7_init 59 = .ok (.aload_n 0, 1) := by decide +kernel
theorem dX7_init_60 : decode cX7_init 60 = .ok (.iconst 0, 1) := by decide +kernel
theorem dX7_init_61 : decode cX7_init 61 = .ok (.putfield 36, 3) := by decide +kernel
theorem dX7_init_64 : decode cX7_init 64 = .ok (.return_, 1) := by decide +kernel
theorem dX7_set_0 : decode cX7_set 0 = .ok (.iload_n 1, 1) := by decide +kernel
theorem dX7_set_1 : decode cX7_set 1 = .ok (.iconst 0, 1) := by decide +kernel
theorem dX7_set_2 : decode cX7_set 2 = .ok (.ldc 40, 2) := by decide +kernel
theorem dX7_set_4 : decode cX7_set 4 = .ok (.invokestatic 41, 3) := by decide +kernel
theorem dX7_set_7 : decode cX7_set 7 = .ok (.ifCond .eq 23, 3) := by decide +kernel
theorem dX7_set_10 : decode cX7_set 10 = .ok (.iload_n 2, 1) := by decide +kernel
theorem dX7_set_11 : decode cX7_set 11 = .ok (.iconst 0, 1) := by decide +kernel
theorem dX7_set_12 : decode cX7_set 12 = .ok (.sipush 9999, 3) := by decide +kernel
theorem dX7_set_15 : decode cX7_set 15 = .ok (.invokestatic 41, 3) := by decide +kernel
theorem dX7_set_18 : decode cX7_set 18 = .ok (.ifCond .eq 12, 3) := by decide +kernel
theorem dX7_set_21 : decode cX7_set 21 = .ok (.iload_n 3, 1) := by decide +kernel
theorem dX7_set_22 : decode cX7_set 22 = .ok (.iconst 0, 1) := by decide +kernel
theorem dX7_set_23 : decode cX7_set 23 = .ok (.iconst 3, 1) := by decide +kernel
theorem dX7_set_24 : decode cX7_set 24 = .ok (.invokestatic 41, 3) := by decide +kernel
theorem dX7_set_27 : decode cX7_set 27 = .ok (.ifCond .ne 7, 3) := by decide +kernel
theorem dX7_set_30 : decode cX7_set 30 = .ok (.sipush (-1002), 3) := by decide +kernel
theorem dX7_set_33 : decode cX7_set 33 = .ok (.ireturn, 1) := by decide +kernel
theorem dX7_set_34 : decode cX7_set 34 = .ok (.iload_n 1, 1) := by decide +kernel
theorem dX7_set_35 : decode cX7_set 35 = .ok (.aload_n 0, 1) := by decide +kernel
theorem dX7_set_36 : decode cX7_set 36 = .ok (.getfield 10, 3) := by decide +kernel
theorem dX7_set_39 : decode cX7_set 39 = .ok (.getfield 45, 3) := by decide +kernel
theorem dX7_set_42 : decode cX7_set 42 = .ok (.if_icmp .ge 7, 3) := by decide +kernel
theorem dX7_set_45 : decode cX7_set 45 = .ok (.sipush (-1004), 3) := by decide +kernel
theorem dX7_set_48 : decode cX7_set 48 = .ok (.ireturn, 1) := by decide +kernel
theorem dX7_set_49 : decode cX7_set 49 = .ok (.aload_n 0, 1) := by decide +kernel
theorem dX7_set_50 : decode cX7_set 50 = .ok (.getfield 10, 3) := by decide +kernel
theorem dX7_set_53 : decode cX7_set 53 = .ok (.iconst 1, 1) := by decide +kernel
theorem dX7_set_54 : decode cX7_set 54 = .ok (.invokevirtual 49, 3) := by decide +kernel
theorem dX7_set_57 : decode cX7_set 57 = .ok (.ifCond .ne 7, 3) := by decide +kernel
theorem dX7_set_60 : decode cX7_set 60 = .ok (.sipush (-1003), 3) := by decide +kernel
theorem dX7_set_63 : decode cX7_set 63 = .ok (.ireturn, 1) := by decide +kernel
theorem dX7_set_64 : decode cX7_set 64 = .ok (.aload_n 0, 1) := by decide +kernel
theorem dX7_set_65 : decode cX7_set 65 = .ok (.getfield 25, 3) := by decide +kernel
theorem dX7_set_68 : decode cX7_set 68 = .ok (.aload_n 0, 1) := by decide +kernel
theorem dX7_set_69 : decode cX7_set 69 = .ok (.getfield 10, 3) := by decide +kernel
theorem dX7_set_72 : decode cX7_set 72 = .ok (.invokevirtual 53, 3) := by decide +kernel
theorem dX7_set_75 : decode cX7_set 75 = .ok (.aload_n 0, 1) := by decide +kernel
theorem dX7_set_76 : decode cX7_set 76 = .ok (.getfield 10, 3) := by decide +kernel
theorem dX7_set_79 : decode cX7_set 79 = .ok (.iload_n 1, 1) := by decide +kernel
theorem dX7_set_80 : decode cX7_set 80 = .ok (.iload_n 2, 1) := by decide +kernel
theorem dX7_set_81 : decode cX7_set 81 = .ok (.iload_n 3, 1) := by decide +kernel
theorem dX7_set_82 : decode cX7_set 82 = .ok (.invokevirtual 57, 3) := by decide +kernel
theorem dX7_set_85 : decode cX7_set 85 = .ok (.ireturn, 1) := by decide +kernel
theorem dX7_setAll_0 : decode cX7_setAll 0 = .ok (.aload_n 0, 1) := by decide +kernel
theorem dX7_setAll_1 : decode cX7_setAll 1 = .ok (.getfield 32, 3) := by decide +kernel
theorem dX7_setAll_4 : decode cX7_setAll 4 = .ok (.invokevirtual 61, 3) := by decide +kernel
theorem dX7_setAll_7 : decode cX7_setAll 7 = .ok (.istore_n 1, 1) := by decide +kernel
theorem dX7_setAll_8 : decode cX7_setAll 8 = .ok (.iload_n 1, 1) := by decide +kernel
theorem dX7_setAll_9 : decode cX7_setAll 9 = .ok (.iconst (-1), 1) := by decide +kernel
theorem dX7_setAll_10 : decode cX7_setAll 10 = .ok (.if_icmp .eq 9, 3) := by decide +kernel
theorem dX7_setAll_13 : decode cX7_setAll 13 = .ok (.sipush (-1100), 3) := by decide +kernel
theorem dX7_setAll_16 : decode cX7_setAll 16 = .ok (.iload_n 1, 1) := by decide +kernel
theorem dX7_setAll_17 : decode cX7_setAll 17 = .ok (.isub, 1) := by decide +kernel
theorem dX7_setAll_18 : decode cX7_setAll 18 = .ok (.ireturn, 1) := by decide +kernel
theorem dX7_setAll_19 : decode cX7_setAll 19 = .ok (.aload_n 0, 1) := by decide +kernel
theorem dX7_setAll_20 : decode cX7_setAll 20 = .ok (.getfield 32, 3) := by decide +kernel
theorem dX7_setAll_23 : decode cX7_setAll 23 = .ok (.invokevirtual 65, 3) := by decide +kernel
theorem dX7_setAll_26 : decode cX7_setAll 26 = .ok (.aload_n 0, 1) := by decide +kernel
theorem dX7_setAll_27 : decode cX7_setAll 27 = .ok (.getfield 10, 3) := by decide +kernel
theorem dX7_setAll_30 : decode cX7_setAll 30 = .ok (.getfield 45, 3) := by decide +kernel
theorem dX7_setAll_33 : decode cX7_setAll 33 = .ok (.if_icmp .ge 7, 3) := by decide +kernel
theorem dX7_setAll_36 : decode cX7_setAll 36 = .ok (.sipush (-1004), 3) := by decide +kernel
theorem dX7_setAll_39 : decode cX7_setAll 39 = .ok (.ireturn, 1) := by decide +kernel
theorem dX7_setAll_40 : decode cX7_setAll 40 = .ok (.aload_n 0, 1) := by decide +kernel
theorem dX7_setAll_41 : decode cX7_setAll 41 = .ok (.getfield 10, 3) := by decide +kernel
theorem dX7_setAll_44 : decode cX7_setAll 44 = .ok (.aload_n 0, 1) := by decide +kernel
theorem dX7_setAll_45 : decode cX7_setAll 45 = .ok (.getfield 32, 3) := by decide +kernel
theorem dX7_setAll_48 : decode cX7_setAll 48 = .ok (.getfield 68, 3) := by decide +kernel
theorem dX7_setAll_51 : decode cX7_setAll 51 = .ok (.invokevirtual 49, 3) := by decide +kernel
theorem dX7_setAll_54 : decode cX7_setAll 54 = .ok (.ifCond .ne 7, 3) := by decide +kernel
theorem dX7_setAll_57 : decode cX7_setAll 57 = .ok (.sipush (-1003), 3) := by decide +kernel
theorem dX7_setAll_60 : decode cX7_setAll 60 = .ok (.ireturn, 1) := by decide +kernel
theorem dX7_setAll_61 : decode cX7_setAll 61 = .ok (.aload_n 0, 1) := by decide +kernel
theorem dX7_setAll_62 : decode cX7_setAll 62 = .ok (.getfield 25, 3) := by decide +kernel
theorem dX7_setAll_65 : decode cX7_setAll 65 = .ok (.aload_n 0, 1) := by decide +kernel
theorem dX7_setAll_66 : decode cX7_setAll 66 = .ok (.getfield 10, 3) := by decide +kernel
theorem dX7_setAll_69 : decode cX7_setAll 69 = .ok (.invokevirtual 53, 3) := by decide +kernel
theorem dX7_setAll_72 : decode cX7_setAll 72 = .ok (.iconst 0, 1) := by decide +kernel
theorem dX7_setAll_73 : decode cX7_setAll 73 = .ok (.istore_n 2, 1) := by decide +kernel
theorem dX7_setAll_74 : decode cX7_setAll 74 = .ok (.iload_n 2, 1) := by decide +kernel
theorem dX7_setAll_75 : decode cX7_setAll 75 = .ok (.aload_n 0, 1) := by decide +kernel
theorem dX7_setAll_76 : decode cX7_setAll 76 = .ok (.getfield 32, 3) := by decide +kernel
theorem dX7_setAll_79 : decode cX7_setAll 79 = .ok (.getfield 68, 3) := by decide +kernel
theorem dX7_setAll_82 : decode cX7_setAll 82 = .ok (.if_icmp .ge 50, 3) := by decide +kernel
theorem dX7_setAll_85 : decode cX7_setAll 85 = .ok (.iload_n 2, 1) := by decide +kernel
theorem dX7_setAll_86 : decode cX7_setAll 86 = .ok (.bipush 30, 2) := by decide +kernel
theorem dX7_setAll_88 : decode cX7_setAll 88 = .ok (.if_icmp .ge 44, 3) := by decide +kernel
theorem dX7_setAll_91 : decode cX7_setAll 91 = .ok (.aload_n 0, 1) := by decide +kernel
theorem dX7_setAll_92 : decode cX7_setAll 92 = .ok (.getfield 10, 3) := by decide +kernel
theorem dX7_setAll_95 : decode cX7_setAll 95 = .ok (.aload_n 0, 1) := by decide +kernel
theorem dX7_setAll_96 : decode cX7_setAll 96 = .ok (.getfield 32, 3) := by decide +kernel
theorem dX7_setAll_99 : decode cX7_setAll 99 = .ok (.getfield 71, 3) := by decide +kernel
theorem dX7_setAll_102 : decode cX7_setAll 102 = .ok (.iload_n 2, 1) := by decide +kernel
theorem dX7_setAll_103 : decode cX7_setAll 103 = .ok (.iaload, 1) := by decide +kernel
theorem dX7_setAll_104 : decode cX7_setAll 104 = .ok (.aload_n 0, 1) := by decide +kernel
theorem dX7_setAll_105 : decode cX7_setAll 105 = .ok (.getfield 32, 3) := by decide +kernel
theorem dX7_setAll_108 : decode cX7_setAll 108 = .ok (.getfield 75, 3) := by decide +kernel
theorem dX7_setAll_111 : decode cX7_setAll 111 = .ok (.iload_n 2, 1) := by decide +kernel
theorem dX7_setAll_112 : decode cX7_setAll 112 = .ok (.iaload, 1) := by decide +kernel
theorem dX7_setAll_113 : decode cX7_setAll 113 = .ok (.aload_n 0, 1) := by decide +kernel
theorem dX7_setAll_114 : decode cX7_setAll 114 = .ok (.getfield 32, 3) := by decide +kernel
theorem dX7_setAll_117 : decode cX7_setAll 117 = .ok (.getfield 78, 3) := by decide +kernel
theorem dX7_setAll_120 : decode cX7_setAll 120 = .ok (.iload_n 2, 1) := by decide +kernel
theorem dX7_setAll_121 : decode cX7_setAll 121 = .ok (.iaload, 1) := by decide +kernel
theorem dX7_setAll_122 : decode cX7_setAll 122 = .ok (.invokevirtual 57, 3) := by decide +kernel
theorem dX7_setAll_125 : decode cX7_setAll 125 = .ok (.pop, 1) := by decide +kernel
theorem dX7_setAll_126 : decode cX7_setAll 126 = .ok (.iinc 2 1, 3) := by decide +kernel
theorem dX7_setAll_129 : decode cX7_setAll 129 = .ok (.goto (-55), 3) := by decide +kernel
theorem dX7_setAll_132 : decode cX7_setAll 132 = .ok (.aload_n 0, 1) := by decide +kernel
theorem dX7_setAll_133 : decode cX7_setAll 133 = .ok (.getfield 10, 3) := by decide +kernel
theorem dX7_setAll_136 : decode cX7_setAll 136 = .ok (.getfield 81, 3) := by decide +kernel
theorem dX7_setAll_139 : decode cX7_setAll 139 = .ok (.ireturn, 1) := by decide +kernel
theorem dX7_cancel_0 : decode cX7_cancel 0 = .ok (.aload_n 0, 1) := by decide +kernel
theorem dX7_cancel_1 : decode cX7_cancel 1 = .ok (.getfield 10, 3) := by decide +kernel
theorem dX7_cancel_4 : decode cX7_cancel 4 = .ok (.iload_n 1, 1) := by decide +kernel
theorem dX7_cancel_5 : decode cX7_cancel 5 = .ok (.invokevirtual 84, 3) := by decide +kernel
theorem dX7_cancel_8 : decode cX7_cancel 8 = .ok (.istore_n 2, 1) := by decide +kernel
theorem dX7_cancel_9 : decode cX7_cancel 9 = .ok (.iload_n 2, 1) := by decide +kernel
theorem dX7_cancel_10 : decode cX7_cancel 10 = .ok (.iconst (-1), 1) := by decide +kernel
theorem dX7_cancel_11 : decode cX7_cancel 11 = .ok (.if_icmp .ne 7, 3) := by decide +kernel
theorem dX7_cancel_14 : decode cX7_cancel 14 = .ok (.sipush (-1001), 3) := by decide +kernel
theorem dX7_cancel_17 : decode cX7_cancel 17 = .ok (.ireturn, 1) := by decide +kernel
theorem dX7_cancel_18 : decode cX7_cancel 18 = .ok (.aload_n 0, 1) := by decide +kernel
theorem dX7_cancel_19 : decode cX7_cancel 19 = .ok (.getfield 25, 3) := by decide +kernel
theorem dX7_cancel_22 : decode cX7_cancel 22 = .ok (.aload_n 0, 1) := by decide +kernel
theorem dX7_cancel_23 : decode cX7_cancel 23 = .ok (.getfield 10, 3) := by decide +kernel
theorem dX7_cancel_26 : decode cX7_cancel 26 = .ok (.invokevirtual 53, 3) := by decide +kernel
theorem dX7_cancel_29 : decode cX7_cancel 29 = .ok (.aload_n 0, 1) := by decide +kernel
theorem dX7_cancel_30 : decode cX7_cancel 30 = .ok (.getfield 10, 3) := by decide +kernel
theorem dX7_cancel_33 : decode cX7_cancel 33 = .ok (.iload_n 2, 1) := by decide +kernel
theorem dX7_cancel_34 : decode cX7_cancel 34 = .ok (.invokevirtual 88, 3) := by decide +kernel
theorem dX7_cancel_37 : decode cX7_cancel 37 = .ok (.aload_n 0, 1) := by decide +kernel
theorem dX7_cancel_38 : decode cX7_cancel 38 = .ok (.getfield 10, 3) := by decide +kernel
theorem dX7_cancel_41 : decode cX7_cancel 41 = .ok (.getfield 81, 3) := by decide +kernel
theorem dX7_cancel_44 : decode cX7_cancel 44 = .ok (.ireturn, 1) := by decide +kernel
theorem dX7_move_0 : decode cX7_move 0 = .ok (.aload_n 0, 1) := by decide +kernel
theorem dX7_move_1 : decode cX7_move 1 = .ok (.getfield 10, 3) := by decide +kernel
theorem dX7_move_4 : decode cX7_move 4 = .ok (.iload_n 1, 1) := by decide +kernel
theorem dX7_move_5 : decode cX7_move 5 = .ok (.invokevirtual 84, 3) := by decide +kernel
theorem dX7_move_8 : decode cX7_move 8 = .ok (.istore_n 3, 1) := by decide +kernel
theorem dX7_move_9 : decode cX7_move 9 = .ok (.iload_n 3, 1) := by decide +kernel
theorem dX7_move_10 : decode cX7_move 10 = .ok (.iconst (-1), 1) := by decide +kernel
theorem dX7_move_11 : decode cX7_move 11 = .ok (.if_icmp .ne 7, 3) := by decide +kernel
theorem dX7_move_14 : decode cX7_move 14 = .ok (.sipush (-1001), 3) := by decide +kernel
theorem dX7_move_17 : decode cX7_move 17 = .ok (.ireturn, 1) := by decide +kernel
theorem dX7_move_18 : decode cX7_move 18 = .ok (.iload_n 2, 1) := by decide +kernel
theorem dX7_move_19 : decode cX7_move 19 = .ok (.iconst 0, 1) := by decide +kernel
theorem dX7_move_20 : decode cX7_move 20 = .ok (.ldc 40, 2) := by decide +kernel
theorem dX7_move_22 : decode cX7_move 22 = .ok (.invokestatic 41, 3) := by decide +kernel
theorem dX7_move_25 : decode cX7_move 25 = .ok (.ifCond .ne 7, 3) := by decide +kernel
theorem dX7_move_28 : decode cX7_move 28 = .ok (.sipush (-1002), 3) := by decide +kernel
theorem dX7_move_31 : decode cX7_move 31 = .ok (.ireturn, 1) := by decide +kernel
theorem dX7_move_32 : decode cX7_move 32 = .ok (.iload_n 2, 1) := by decide +kernel
theorem dX7_move_33 : decode cX7_move 33 = .ok (.aload_n 0, 1) := by decide +kernel
theorem dX7_move_34 : decode cX7_move 34 = .ok (.getfield 10, 3) := by decide +kernel
theorem dX7_move_37 : decode cX7_move 37 = .ok (.getfield 45, 3) := by decide +kernel
theorem dX7_move_40 : decode cX7_move 40 = .ok (.if_icmp .ge 7, 3) := by decide +kernel
theorem dX7_move_43 : decode cX7_move 43 = .ok (.sipush (-1004), 3) := by decide +kernel
theorem dX7_move_46 : decode cX7_move 46 = .ok (.ireturn, 1) := by decide +kernel
theorem dX7_move_47 : decode cX7_move 47 = .ok (.aload_n 0, 1) := by decide +kernel
theorem dX7_move_48 : decode cX7_move 48 = .ok (.getfield 10, 3) := by decide +kernel
theorem dX7_move_51 : decode cX7_move 51 = .ok (.getfield 92, 3) := by decide +kernel
theorem dX7_move_54 : decode cX7_move 54 = .ok (.iload_n 3, 1) := by decide +kernel
theorem dX7_move_55 : decode cX7_move 55 = .ok (.aaload, 1) := by decide +kernel
theorem dX7_move_56 : decode cX7_move 56 = .ok (.getfield 96, 3) := by decide +kernel
theorem dX7_move_59 : decode cX7_move 59 = .ok (.istore 4, 2) := by decide +kernel
theorem dX7_move_61 : decode cX7_move 61 = .ok (.iload 4, 2) := by decide +kernel
theorem dX7_move_63 : decode cX7_move 63 = .ok (.iload_n 2, 1) := by decide +kernel
theorem dX7_move_64 : decode cX7_move 64 = .ok (.if_icmp .ne 7, 3) := by decide +kernel
theorem dX7_move_67 : decode cX7_move 67 = .ok (.sipush (-1005), 3) := by decide +kernel
theorem dX7_move_70 : decode cX7_move 70 = .ok (.ireturn, 1) := by decide +kernel
theorem dX7_move_71 : decode cX7_move 71 = .ok (.aload_n 0, 1) := by decide +kernel
theorem dX7_move_72 : decode cX7_move 72 = .ok (.getfield 25, 3) := by decide +kernel
theorem dX7_move_75 : decode cX7_move 75 = .ok (.aload_n 0, 1) := by decide +kernel
theorem dX7_move_76 : decode cX7_move 76 = .ok (.getfield 10, 3) := by decide +kernel
theorem dX7_move_79 : decode cX7_move 79 = .ok (.invokevirtual 53, 3) := by decide +kernel
theorem dX7_move_82 : decode cX7_move 82 = .ok (.aload_n 0, 1) := by decide +kernel
theorem dX7_move_83 : decode cX7_move 83 = .ok (.getfield 10, 3) := by decide +kernel
theorem dX7_move_86 : decode cX7_move 86 = .ok (.iload_n 3, 1) := by decide +kernel
theorem dX7_move_87 : decode cX7_move 87 = .ok (.iload_n 2, 1) := by decide +kernel
theorem dX7_move_88 : decode cX7_move 88 = .ok (.invokevirtual 101, 3) := by decide +kernel
theorem dX7_move_91 : decode cX7_move 91 = .ok (.iload 4, 2) := by decide +kernel
theorem dX7_move_93 : decode cX7_move 93 = .ok (.ireturn, 1) := by decide +kernel
theorem dX7_setComparers_0 : decode cX7_setComparers 0 = .ok (.iload_n 1, 1) := by decide +kernel
theorem dX7_setComparers_1 : decode cX7_setComparers 1 = .ok (.iconst 1, 1) := by decide +kernel
theorem dX7_setComparers_2 : decode cX7_setComparers 2 = .ok (.iconst 4, 1) := by decide +kernel
theorem dX7_setComparers_3 : decode cX7_setComparers 3 = .ok (.invokestatic 41, 3) := by decide +kernel
theorem dX7_setComparers_6 : decode cX7_setComparers 6 = .ok (.ifCond .ne 7, 3) := by decide +kernel
theorem dX7_setComparers_9 : decode cX7_setComparers 9 = .ok (.sipush (-1002), 3) := by decide +kernel
theorem dX7_setComparers_12 : decode cX7_setComparers 12 = .ok (.ireturn, 1) := by decide +kernel
theorem dX7_setComparers_13 : decode cX7_setComparers 13 = .ok (.aload_n 0, 1) := by decide +kernel
theorem dX7_setComparers_14 : decode cX7_setComparers 14 = .ok (.getfield 10, 3) := by decide +kernel
theorem dX7_setComparers_17 : decode cX7_setComparers 17 = .ok (.getfield 105, 3) := by decide +kernel
theorem dX7_setComparers_20 : decode cX7_setComparers 20 = .ok (.istore_n 2, 1) := by decide +kernel
theorem dX7_setComparers_21 : decode cX7_setComparers 21 = .ok (.iload_n 2, 1) := by decide +kernel
theorem dX7_setComparers_22 : decode cX7_setComparers 22 = .ok (.iload_n 1, 1) := by decide +kernel
theorem dX7_setComparers_23 : decode cX7_setComparers 23 = .ok (.if_icmp .ne 7, 3) := by decide +kernel
theorem dX7_setComparers_26 : decode cX7_setComparers 26 = .ok (.sipush (-1005), 3) := by decide +kernel
theorem dX7_setComparers_29 : decode cX7_setComparers 29 = .ok (.ireturn, 1) := by decide +kernel
theorem dX7_setComparers_30 : decode cX7_setComparers 30 = .ok (.aload_n 0, 1) := by decide +kernel
theorem dX7_setComparers_31 : decode cX7_setComparers 31 = .ok (.getfield 25, 3) := by decide +kernel
theorem dX7_setComparers_34 : decode cX7_setComparers 34 = .ok (.aload_n 0, 1) := by decide +kernel
theorem dX7_setComparers_35 : decode cX7_setComparers 35 = .ok (.getfield 10, 3) := by decide +kernel
theorem dX7_setComparers_38 : decode cX7_setComparers 38 = .ok (.invokevirtual 53, 3) := by decide +kernel
theorem dX7_setComparers_41 : decode cX7_setComparers 41 = .ok (.aload_n 0, 1) := by decide +kernel
theorem dX7_setComparers_42 : decode cX7_setComparers 42 = .ok (.getfield 10, 3) := by decide +kernel
theorem dX7_setComparers_45 : decode cX7_setComparers 45 = .ok (.iload_n 1, 1) := by decide +kernel
theorem dX7_setComparers_46 : decode cX7_setComparers 46 = .ok (.invokevirtual 108, 3) := by decide +kernel
theorem dX7_setComparers_49 : decode cX7_setComparers 49 = .ok (.iload_n 2, 1) := by decide +kernel
theorem dX7_setComparers_50 : decode cX7_setComparers 50 = .ok (.ireturn, 1) := by decide +kernel
theorem dX7_setWindow_0 : decode cX7_setWindow 0 = .ok (.iload_n 1, 1) := by decide +kernel
theorem dX7_setWindow_1 : decode cX7_setWindow 1 = .ok (.iconst 0, 1) := by decide +kernel
theorem dX7_setWindow_2 : decode cX7_setWindow 2 = .ok (.bipush 20, 2) := by decide +kernel
theorem dX7_setWindow_4 : decode cX7_setWindow 4 = .ok (.invokestatic 41, 3) := by decide +kernel
theorem dX7_setWindow_7 : decode cX7_setWindow 7 = .ok (.ifCond .ne 7, 3) := by decide +kernel
theorem dX7_setWindow_10 : decode cX7_setWindow 10 = .ok (.sipush (-1002), 3) := by decide +kernel
theorem dX7_setWindow_13 : decode cX7_setWindow 13 = .ok (.ireturn, 1) := by decide +kernel
theorem dX7_setWindow_14 : decode cX7_setWindow 14 = .ok (.aload_n 0, 1) := by decide +kernel
theorem dX7_setWindow_15 : decode cX7_setWindow 15 = .ok (.getfield 10, 3) := by decide +kernel
theorem dX7_setWindow_18 : decode cX7_setWindow 18 = .ok (.getfield 111, 3) := by decide +kernel
theorem dX7_setWindow_21 : decode cX7_setWindow 21 = .ok (.istore_n 2, 1) := by decide +kernel
theorem dX7_setWindow_22 : decode cX7_setWindow 22 = .ok (.iload_n 2, 1) := by decide +kernel
theorem dX7_setWindow_23 : decode cX7_setWindow 23 = .ok (.iload_n 1, 1) := by decide +kernel
theorem dX7_setWindow_24 : decode cX7_setWindow 24 = .ok (.if_icmp .ne 7, 3) := by decide +kernel
theorem dX7_setWindow_27 : decode cX7_setWindow 27 = .ok (.sipush (-1005), 3) := by decide +kernel
theorem dX7_setWindow_30 : decode cX7_setWindow 30 = .ok (.ireturn, 1) := by decide +kernel
theorem dX7_setWindow_31 : decode cX7_setWindow 31 = .ok (.aload_n 0, 1) := by decide +kernel
theorem dX7_setWindow_32 : decode cX7_setWindow 32 = .ok (.getfield 25, 3) := by decide +kernel
theorem dX7_setWindow_35 : decode cX7_setWindow 35 = .ok (.aload_n 0, 1) := by decide +kernel
theorem dX7_setWindow_36 : decode cX7_setWindow 36 = .ok (.getfield 10, 3) := by decide +kernel
theorem dX7_setWindow_39 : decode cX7_setWindow 39 = .ok (.invokevirtual 53, 3) := by decide +kernel
theorem dX7_setWindow_42 : decode cX7_setWindow 42 = .ok (.aload_n 0, 1) := by decide +kernel
theorem dX7_setWindow_43 : decode cX7_setWindow 43 = .ok (.getfield 10, 3) := by decide +kernel
theorem dX7_setWindow_46 : decode cX7_setWindow 46 = .ok (.iload_n 1, 1) := by decide +kernel
theorem dX7_setWindow_47 : decode cX7_setWindow 47 = .ok (.putfield 111, 3) := by decide +kernel
theorem dX7_setWindow_50 : decode cX7_setWindow 50 = .ok (.aload_n 0, 1) := by decide +kernel
theorem dX7_setWindow_51 : decode cX7_setWindow 51 = .ok (.getfield 10, 3) := by decide +kernel
theorem dX7_setWindow_54 : decode cX7_setWindow 54 = .ok (.invokevirtual 114, 3) := by decide +kernel
theorem dX7_setWindow_57 : decode cX7_setWindow 57 = .ok (.iload_n 2, 1) := by decide +kernel
theorem dX7_setWindow_58 : decode cX7_setWindow 58 = .ok (.ireturn, 1) := by decide +kernel
theorem dX7_setLoading_0 : decode cX7_setLoading 0 = .ok (.iload_n 1, 1) := by decide +kernel
theorem dX7_setLoading_1 : decode cX7_setLoading 1 = .ok (.iconst 0, 1) := by decide +kernel
theorem dX7_setLoading_2 : decode cX7_setLoading 2 = .ok (.bipush 9, 2) := by decide +kernel
theorem dX7_setLoading_4 : decode cX7_setLoading 4 = .ok (.invokestatic 41, 3) := by decide +kernel
theorem dX7_setLoading_7 : decode cX7_setLoading 7 = .ok (.ifCond .ne 7, 3) := by decide +kernel
theorem dX7_setLoading_10 : decode cX7_setLoading 10 = .ok (.sipush (-1002), 3) := by decide +kernel
theorem dX7_setLoading_13 : decode cX7_setLoading 13 = .ok (.ireturn, 1) := by decide +kernel
theorem dX7_setLoading_14 : decode cX7_setLoading 14 = .ok (.aload_n 0, 1) := by decide +kernel
theorem dX7_setLoading_15 : decode cX7_setLoading 15 = .ok (.getfield 10, 3) := by decide +kernel
theorem dX7_setLoading_18 : decode cX7_setLoading 18 = .ok (.getfield 117, 3) := by decide +kernel
theorem dX7_setLoading_21 : decode cX7_setLoading 21 = .ok (.istore_n 2, 1) := by decide +kernel
theorem dX7_setLoading_22 : decode cX7_setLoading 22 = .ok (.iload_n 2, 1) := by decide +kernel
theorem dX7_setLoading_23 : decode cX7_setLoading 23 = .ok (.iload_n 1, 1) := by decide +kernel
theorem dX7_setLoading_24 : decode cX7_setLoading 24 = .ok (.if_icmp .ne 7, 3) := by decide +kernel
theorem dX7_setLoading_27 : decode cX7_setLoading 27 = .ok (.sipush (-1005), 3) := by decide +kernel
theorem dX7_setLoading_30 : decode cX7_setLoading 30 = .ok (.ireturn, 1) := by decide +kernel
theorem dX7_setLoading_31 : decode cX7_setLoading 31 = .ok (.aload_n 0, 1) := by decide +kernel
theorem dX7_setLoading_32 : decode cX7_setLoading 32 = .ok (.getfield 25, 3) := by decide +kernel
theorem dX7_setLoading_35 : decode cX7_setLoading 35 = .ok (.aload_n 0, 1) := by decide +kernel
theorem dX7_setLoading_36 : decode cX7_setLoading 36 = .ok (.getfield 10, 3) := by decide +kernel
theorem dX7_setLoading_39 : decode cX7_setLoading 39 = .ok (.invokevirtual 53, 3) := by decide +kernel
theorem dX7_setLoading_42 : decode cX7_setLoading 42 = .ok (.aload_n 0, 1) := by decide +kernel
theorem dX7_setLoading_43 : decode cX7_setLoading 43 = .ok (.getfield 10, 3) := by decide +kernel
theorem dX7_setLoading_46 : decode cX7_setLoading 46 = .ok (.iload_n 1, 1) := by decide +kernel
theorem dX7_setLoading_47 : decode cX7_setLoading 47 = .ok (.putfield 117, 3) := by decide +kernel
theorem dX7_setLoading_50 : decode cX7_setLoading 50 = .ok (.iload_n 2, 1) := by decide +kernel
theorem dX7_setLoading_51 : decode cX7_setLoading 51 = .ok (.ireturn, 1) := by decide +kernel
theorem dX7_setDrift_0 : decode cX7_setDrift 0 = .ok (.iload_n 1, 1) := by decide +kernel
theorem dX7_setDrift_1 : decode cX7_setDrift 1 = .ok (.sipush (-999), 3) := by decide +kernel
theorem dX7_setDrift_4 : decode cX7_setDrift 4 = .ok (.sipush 999, 3) := by decide +kernel
theorem dX7_setDrift_7 : decode cX7_setDrift 7 = .ok (.invokestatic 41, 3) := by decide +kernel
theorem dX7_setDrift_10 : decode cX7_setDrift 10 = .ok (.ifCond .eq 13, 3) := by decide +kernel
theorem dX7_setDrift_13 : decode cX7_setDrift 13 = .ok (.iload_n 1, 1) := by decide +kernel
theorem dX7_setDrift_14 : decode cX7_setDrift 14 = .ok (.iconst 1, 1) := by decide +kernel
theorem dX7_setDrift_15 : decode cX7_setDrift 15 = .ok (.if_icmp .eq 8, 3) := by decide +kernel
theorem dX7_setDrift_18 : decode cX7_setDrift 18 = .ok (.iload_n 1, 1) := by decide +kernel
theorem dX7_setDrift_19 : decode cX7_setDrift 19 = .ok (.iconst (-1), 1) := by decide +kernel
theorem dX7_setDrift_20 : decode cX7_setDrift 20 = .ok (.if_icmp .ne 7, 3) := by decide +kernel
theorem dX7_setDrift_23 : decode cX7_setDrift 23 = .ok (.sipush (-1002), 3) := by decide +kernel
theorem dX7_setDrift_26 : decode cX7_setDrift 26 = .ok (.ireturn, 1) := by decide +kernel
theorem dX7_setDrift_27 : decode cX7_setDrift 27 = .ok (.aload_n 0, 1) := by decide +kernel
theorem dX7_setDrift_28 : decode cX7_setDrift 28 = .ok (.getfield 10, 3) := by decide +kernel
theorem dX7_setDrift_31 : decode cX7_setDrift 31 = .ok (.getfield 120, 3) := by decide +kernel
theorem dX7_setDrift_34 : decode cX7_setDrift 34 = .ok (.istore_n 2, 1) := by decide +kernel
theorem dX7_setDrift_35 : decode cX7_setDrift 35 = .ok (.iload_n 2, 1) := by decide +kernel
theorem dX7_setDrift_36 : decode cX7_setDrift 36 = .ok (.iload_n 1, 1) := by decide +kernel
theorem dX7_setDrift_37 : decode cX7_setDrift 37 = .ok (.if_icmp .ne 7, 3) := by decide +kernel
theorem dX7_setDrift_40 : decode cX7_setDrift 40 = .ok (.sipush (-1005), 3) := by decide +kernel
theorem dX7_setDrift_43 : decode cX7_setDrift 43 = .ok (.ireturn, 1) := by decide +kernel
theorem dX7_setDrift_44 : decode cX7_setDrift 44 = .ok (.aload_n 0, 1) := by decide +kernel
theorem dX7_setDrift_45 : decode cX7_setDrift 45 = .ok (.getfield 25, 3) := by decide +kernel
theorem dX7_setDrift_48 : decode cX7_setDrift 48 = .ok (.aload_n 0, 1) := by decide +kernel
theorem dX7_setDrift_49 : decode cX7_setDrift 49 = .ok (.getfield 10, 3) := by decide +kernel
theorem dX7_setDrift_52 : decode cX7_setDrift 52 = .ok (.invokevirtual 53, 3) := by decide +kernel
theorem dX7_setDrift_55 : decode cX7_setDrift 55 = .ok (.aload_n 0, 1) := by decide +kernel
theorem dX7_setDrift_56 : decode cX7_setDrift 56 = .ok (.getfield 10, 3) := by decide +kernel
theorem dX7_setDrift_59 : decode cX7_setDrift 59 = .ok (.iload_n 1, 1) := by decide +kernel
theorem dX7_setDrift_60 : decode cX7_setDrift 60 = .ok (.putfield 120, 3) := by decide +kernel
theorem dX7_setDrift_63 : decode cX7_setDrift 63 = .ok (.iload_n 2, 1) := by decide +kernel
theorem dX7_setDrift_64 : decode cX7_setDrift 64 = .ok (.ireturn, 1) := by decide +kernel
theorem dX7_correct_0 : decode cX7_correct 0 = .ok (.iload_n 1, 1) := by decide +kernel
theorem dX7_correct_1 : decode cX7_correct 1 = .ok (.sipush (-999), 3) := by decide +kernel
theorem dX7_correct_4 : decode cX7_correct 4 = .ok (.sipush 999, 3) := by decide +kernel
theorem dX7_correct_7 : decode cX7_correct 7 = .ok (.invokestatic 41, 3) := by decide +kernel
theorem dX7_correct_10 : decode cX7_correct 10 = .ok (.ifCond .ne 7, 3) := by decide +kernel
theorem dX7_correct_13 : decode cX7_correct 13 = .ok (.sipush (-1002), 3) := by decide +kernel
theorem dX7_correct_16 : decode cX7_correct 16 = .ok (.ireturn, 1) := by decide +kernel
theorem dX7_correct_17 : decode cX7_correct 17 = .ok (.aload_n 0, 1) := by decide +kernel
theorem dX7_correct_18 : decode cX7_correct 18 = .ok (.getfield 10, 3) := by decide +kernel
theorem dX7_correct_21 : decode cX7_correct 21 = .ok (.getfield 45, 3) := by decide +kernel
theorem dX7_correct_24 : decode cX7_correct 24 = .ok (.iload_n 1, 1) := by decide +kernel
theorem dX7_correct_25 : decode cX7_correct 25 = .ok (.iadd, 1) := by decide +kernel
theorem dX7_correct_26 : decode cX7_correct 26 = .ok (.istore_n 2, 1) := by decide +kernel
theorem dX7_correct_27 : decode cX7_correct 27 = .ok (.iload_n 2, 1) := by decide +kernel
theorem dX7_correct_28 : decode cX7_correct 28 = .ok (.iconst 0, 1) := by decide +kernel
theorem dX7_correct_29 : decode cX7_correct 29 = .ok (.ldc 40, 2) := by decide +kernel
theorem dX7_correct_31 : decode cX7_correct 31 = .ok (.invokestatic 41, 3) := by decide +kernel
theorem dX7_correct_34 : decode cX7_correct 34 = .ok (.ifCond .ne 7, 3) := by decide +kernel
theorem dX7_correct_37 : decode cX7_correct 37 = .ok (.sipush (-1004), 3) := by decide +kernel
theorem dX7_correct_40 : decode cX7_correct 40 = .ok (.ireturn, 1) := by decide +kernel
theorem dX7_correct_41 : decode cX7_correct 41 = .ok (.iload_n 1, 1) := by decide +kernel
theorem dX7_correct_42 : decode cX7_correct 42 = .ok (.ifCond .ne 7, 3) := by decide +kernel
theorem dX7_correct_45 : decode cX7_correct 45 = .ok (.sipush (-1005), 3) := by decide +kernel
theorem dX7_correct_48 : decode cX7_correct 48 = .ok (.ireturn, 1) := by decide +kernel
theorem dX7_correct_49 : decode cX7_correct 49 = .ok (.aload_n 0, 1) := by decide +kernel
theorem dX7_correct_50 : decode cX7_correct 50 = .ok (.getfield 25, 3) := by decide +kernel
theorem dX7_correct_53 : decode cX7_correct 53 = .ok (.aload_n 0, 1) := by decide +kernel
theorem dX7_correct_54 : decode cX7_correct 54 = .ok (.getfield 10, 3) := by decide +kernel
theorem dX7_correct_57 : decode cX7_correct 57 = .ok (.invokevirtual 53, 3) := by decide +kernel
theorem dX7_correct_60 : decode cX7_correct 60 = .ok (.aload_n 0, 1) := by decide +kernel
theorem dX7_correct_61 : decode cX7_correct 61 = .ok (.getfield 10, 3) := by decide +kernel
theorem dX7_correct_64 : decode cX7_correct 64 = .ok (.iload_n 2, 1) := by decide +kernel
theorem dX7_correct_65 : decode cX7_correct 65 = .ok (.putfield 45, 3) := by decide +kernel
theorem dX7_correct_68 : decode cX7_correct 68 = .ok (.aload_n 0, 1) := by decide +kernel
theorem dX7_correct_69 : decode cX7_correct 69 = .ok (.getfield 10, 3) := by decide +kernel
theorem dX7_correct_72 : decode cX7_correct 72 = .ok (.invokevirtual 114, 3) := by decide +kernel
theorem dX7_correct_75 : decode cX7_correct 75 = .ok (.iload_n 2, 1) := by decide +kernel
theorem dX7_correct_76 : decode cX7_correct 76 = .ok (.ireturn, 1) := by decide +kernel
theorem dX7_run_0 : decode cX7_run 0 = .ok (.iload_n 1, 1) := by decide +kernel
theorem dX7_run_1 : decode cX7_run 1 = .ok (.iconst 1, 1) := by decide +kernel
theorem dX7_run_2 : decode cX7_run 2 = .ok (.sipush 1000, 3) := by decide +kernel
theorem dX7_run_5 : decode cX7_run 5 = .ok (.invokestatic 41, 3) := by decide +kernel
theorem dX7_run_8 : decode cX7_run 8 = .ok (.ifCond .ne 7, 3) := by decide +kernel
theorem dX7_run_11 : decode cX7_run 11 = .ok (.sipush (-1002), 3) := by decide +kernel
theorem dX7_run_14 : decode cX7_run 14 = .ok (.ireturn, 1) := by decide +kernel
theorem dX7_run_15 : decode cX7_run 15 = .ok (.aload_n 0, 1) := by decide +kernel
theorem dX7_run_16 : decode cX7_run 16 = .ok (.getfield 10, 3) := by decide +kernel
theorem dX7_run_19 : decode cX7_run 19 = .ok (.getfield 45, 3) := by decide +kernel
theorem dX7_run_22 : decode cX7_run 22 = .ok (.iconst 2, 1) := by decide +kernel
theorem dX7_run_23 : decode cX7_run 23 = .ok (.iload_n 1, 1) := by decide +kernel
theorem dX7_run_24 : decode cX7_run 24 = .ok (.imul, 1) := by decide +kernel
theorem dX7_run_25 : decode cX7_run 25 = .ok (.iadd, 1) := by decide +kernel
theorem dX7_run_26 : decode cX7_run 26 = .ok (.ldc 40, 2) := by decide +kernel
theorem dX7_run_28 : decode cX7_run 28 = .ok (.if_icmp .le 7, 3) := by decide +kernel
theorem dX7_run_31 : decode cX7_run 31 = .ok (.sipush (-1003), 3) := by decide +kernel
theorem dX7_run_34 : decode cX7_run 34 = .ok (.ireturn, 1) := by decide +kernel
theorem dX7_run_35 : decode cX7_run 35 = .ok (.aload_n 0, 1) := by decide +kernel
theorem dX7_run_36 : decode cX7_run 36 = .ok (.getfield 25, 3) := by decide +kernel
theorem dX7_run_39 : decode cX7_run 39 = .ok (.aload_n 0, 1) := by decide +kernel
theorem dX7_run_40 : decode cX7_run 40 = .ok (.getfield 10, 3) := by decide +kernel
theorem dX7_run_43 : decode cX7_run 43 = .ok (.invokevirtual 53, 3) := by decide +kernel
theorem dX7_run_46 : decode cX7_run 46 = .ok (.aload_n 0, 1) := by decide +kernel
theorem dX7_run_47 : decode cX7_run 47 = .ok (.getfield 10, 3) := by decide +kernel
theorem dX7_run_50 : decode cX7_run 50 = .ok (.getfield 123, 3) := by decide +kernel
theorem dX7_run_53 : decode cX7_run 53 = .ok (.getfield 127, 3) := by decide +kernel
theorem dX7_run_56 : decode cX7_run 56 = .ok (.istore_n 2, 1) := by decide +kernel
theorem dX7_run_57 : decode cX7_run 57 = .ok (.iconst 0, 1) := by decide +kernel
theorem dX7_run_58 : decode cX7_run 58 = .ok (.istore_n 3, 1) := by decide +kernel
theorem dX7_run_59 : decode cX7_run 59 = .ok (.iload_n 3, 1) := by decide +kernel
theorem dX7_run_60 : decode cX7_run 60 = .ok (.iload_n 1, 1) := by decide +kernel
theorem dX7_run_61 : decode cX7_run 61 = .ok (.if_icmp .ge 16, 3) := by decide +kernel
theorem dX7_run_64 : decode cX7_run 64 = .ok (.aload_n 0, 1) := by decide +kernel
theorem dX7_run_65 : decode cX7_run 65 = .ok (.getfield 10, 3) := by decide +kernel
theorem dX7_run_68 : decode cX7_run 68 = .ok (.invokevirtual 132, 3) := by decide +kernel
theorem dX7_run_71 : decode cX7_run 71 = .ok (.iinc 3 1, 3) := by decide +kernel
theorem dX7_run_74 : decode cX7_run 74 = .ok (.goto (-15), 3) := by decide +kernel
theorem dX7_run_77 : decode cX7_run 77 = .ok (.aload_n 0, 1) := by decide +kernel
theorem dX7_run_78 : decode cX7_run 78 = .ok (.getfield 10, 3) := by decide +kernel
theorem dX7_run_81 : decode cX7_run 81 = .ok (.getfield 123, 3) := by decide +kernel
theorem dX7_run_84 : decode cX7_run 84 = .ok (.getfield 127, 3) := by decide +kernel
theorem dX7_run_87 : decode cX7_run 87 = .ok (.iload_n 2, 1) := by decide +kernel
theorem dX7_run_88 : decode cX7_run 88 = .ok (.isub, 1) := by decide +kernel
theorem dX7_run_89 : decode cX7_run 89 = .ok (.ireturn, 1) := by decide +kernel
theorem dX7_type_0 : decode cX7_type 0 = .ok (.aload_n 0, 1) := by decide +kernel
theorem dX7_type_1 : decode cX7_type 1 = .ok (.getfield 32, 3) := by decide +kernel
theorem dX7_type_4 : decode cX7_type 4 = .ok (.iload_n 1, 1) := by decide +kernel
theorem dX7_type_5 : decode cX7_type 5 = .ok (.invokevirtual 135, 3) := by decide +kernel
theorem dX7_type_8 : decode cX7_type 8 = .ok (.ifCond .eq 13, 3) := by decide +kernel
theorem dX7_type_11 : decode cX7_type 11 = .ok (.aload_n 0, 1) := by decide +kernel
theorem dX7_type_12 : decode cX7_type 12 = .ok (.getfield 32, 3) := by decide +kernel
theorem dX7_type_15 : decode cX7_type 15 = .ok (.getfield 139, 3) := by decide +kernel
theorem dX7_type_18 : decode cX7_type 18 = .ok (.goto 6, 3) := by decide +kernel
theorem dX7_type_21 : decode cX7_type 21 = .ok (.sipush (-1003), 3) := by decide +kernel
theorem dX7_type_24 : decode cX7_type 24 = .ok (.ireturn, 1) := by decide +kernel
theorem dX7_clearText_0 : decode cX7_clearText 0 = .ok (.aload_n 0, 1) := by decide +kernel
theorem dX7_clearText_1 : decode cX7_clearText 1 = .ok (.getfield 32, 3) := by decide +kernel
theorem dX7_clearText_4 : decode cX7_clearText 4 = .ok (.getfield 139, 3) := by decide +kernel
theorem dX7_clearText_7 : decode cX7_clearText 7 = .ok (.istore_n 1, 1) := by decide +kernel
theorem dX7_clearText_8 : decode cX7_clearText 8 = .ok (.aload_n 0, 1) := by decide +kernel
theorem dX7_clearText_9 : decode cX7_clearText 9 = .ok (.getfield 32, 3) := by decide +kernel
theorem dX7_clearText_12 : decode cX7_clearText 12 = .ok (.iconst 0, 1) := by decide +kernel
theorem dX7_clearText_13 : decode cX7_clearText 13 = .ok (.putfield 139, 3) := by decide +kernel
theorem dX7_clearText_16 : decode cX7_clearText 16 = .ok (.iload_n 1, 1) := by decide +kernel
theorem dX7_clearText_17 : decode cX7_clearText 17 = .ok (.ireturn, 1) := by decide +kernel
theorem dX7_undo_0 : decode cX7_undo 0 = .ok (.aload_n 0, 1) := by decide +kernel
theorem dX7_undo_1 : decode cX7_undo 1 = .ok (.getfield 25, 3) := by decide +kernel
theorem dX7_undo_4 : decode cX7_undo 4 = .ok (.getfield 142, 3) := by decide +kernel
theorem dX7_undo_7 : decode cX7_undo 7 = .ok (.ifCond .ne 7, 3) := by decide +kernel
theorem dX7_undo_10 : decode cX7_undo 10 = .ok (.sipush (-1005), 3) := by decide +kernel
theorem dX7_undo_13 : decode cX7_undo 13 = .ok (.ireturn, 1) := by decide +kernel
theorem dX7_undo_14 : decode cX7_undo 14 = .ok (.aload_n 0, 1) := by decide +kernel
theorem dX7_undo_15 : decode cX7_undo 15 = .ok (.getfield 25, 3) := by decide +kernel
theorem dX7_undo_18 : decode cX7_undo 18 = .ok (.aload_n 0, 1) := by decide +kernel
theorem dX7_undo_19 : decode cX7_undo 19 = .ok (.getfield 10, 3) := by decide +kernel
theorem dX7_undo_22 : decode cX7_undo 22 = .ok (.invokevirtual 145, 3) := by decide +kernel
theorem dX7_undo_25 : decode cX7_undo 25 = .ok (.aload_n 0, 1) := by decide +kernel
theorem dX7_undo_26 : decode cX7_undo 26 = .ok (.getfield 25, 3) := by decide +kernel
theorem dX7_undo_29 : decode cX7_undo 29 = .ok (.getfield 142, 3) := by decide +kernel
theorem dX7_undo_32 : decode cX7_undo 32 = .ok (.ireturn, 1) := by decide +kernel
theorem dX7_keep_0 : decode cX7_keep 0 = .ok (.aload_n 0, 1) := by decide +kernel
theorem dX7_keep_1 : decode cX7_keep 1 = .ok (.getfield 19, 3) := by decide +kernel
theorem dX7_keep_4 : decode cX7_keep 4 = .ok (.aload_n 0, 1) := by decide +kernel
theorem dX7_keep_5 : decode cX7_keep 5 = .ok (.getfield 10, 3) := by decide +kernel
theorem dX7_keep_8 : decode cX7_keep 8 = .ok (.invokevirtual 148, 3) := by decide +kernel
theorem dX7_keep_11 : decode cX7_keep 11 = .ok (.aload_n 0, 1) := by decide +kernel
theorem dX7_keep_12 : decode cX7_keep 12 = .ok (.iconst 1, 1) := by decide +kernel
theorem dX7_keep_13 : decode cX7_keep 13 = .ok (.putfield 36, 3) := by decide +kernel
theorem dX7_keep_16 : decode cX7_keep 16 = .ok (.aload_n 0, 1) := by decide +kernel
theorem dX7_keep_17 : decode cX7_keep 17 = .ok (.getfield 10, 3) := by decide +kernel
theorem dX7_keep_20 : decode cX7_keep 20 = .ok (.getfield 45, 3) := by decide +kernel
theorem dX7_keep_23 : decode cX7_keep 23 = .ok (.ireturn, 1) := by decide +kernel
theorem dX7_restore_0 : decode cX7_restore 0 = .ok (.aload_n 0, 1) := by decide +kernel
theorem dX7_restore_1 : decode cX7_restore 1 = .ok (.getfield 36, 3) := by decide +kernel
theorem dX7_restore_4 : decode cX7_restore 4 = .ok (.ifCond .ne 7, 3) := by decide +kernel
theorem dX7_restore_7 : decode cX7_restore 7 = .ok (.sipush (-1005), 3) := by decide +kernel
theorem dX7_restore_10 : decode cX7_restore 10 = .ok (.ireturn, 1) := by decide +kernel
theorem dX7_restore_11 : decode cX7_restore 11 = .ok (.aload_n 0, 1) := by decide +kernel
theorem dX7_restore_12 : decode cX7_restore 12 = .ok (.getfield 25, 3) := by decide +kernel
theorem dX7_restore_15 : decode cX7_restore 15 = .ok (.aload_n 0, 1) := by decide +kernel
theorem dX7_restore_16 : decode cX7_restore 16 = .ok (.getfield 10, 3) := by decide +kernel
theorem dX7_restore_19 : decode cX7_restore 19 = .ok (.invokevirtual 53, 3) := by decide +kernel
theorem dX7_restore_22 : decode cX7_restore 22 = .ok (.aload_n 0, 1) := by decide +kernel
theorem dX7_restore_23 : decode cX7_restore 23 = .ok (.getfield 10, 3) := by decide +kernel
theorem dX7_restore_26 : decode cX7_restore 26 = .ok (.aload_n 0, 1) := by decide +kernel
theorem dX7_restore_27 : decode cX7_restore 27 = .ok (.getfield 19, 3) := by decide +kernel
theorem dX7_restore_30 : decode cX7_restore 30 = .ok (.invokevirtual 148, 3) := by decide +kernel
theorem dX7_restore_33 : decode cX7_restore 33 = .ok (.aload_n 0, 1) := by decide +kernel
theorem dX7_restore_34 : decode cX7_restore 34 = .ok (.getfield 10, 3) := by decide +kernel
theorem dX7_restore_37 : decode cX7_restore 37 = .ok (.getfield 45, 3) := by decide +kernel
theorem dX7_restore_40 : decode cX7_restore 40 = .ok (.ireturn, 1) := by decide +kernel
theorem dX7_alarm_0 : decode cX7_alarm 0 = .ok (.aload_n 0, 1) := by decide +kernel
theorem dX7_alarm_1 : decode cX7_alarm 1 = .ok (.getfield 10, 3) := by decide +kernel
theorem dX7_alarm_4 : decode cX7_alarm 4 = .ok (.iload_n 1, 1) := by decide +kernel
theorem dX7_alarm_5 : decode cX7_alarm 5 = .ok (.invokevirtual 84, 3) := by decide +kernel
theorem dX7_alarm_8 : decode cX7_alarm 8 = .ok (.istore_n 3, 1) := by decide +kernel
theorem dX7_alarm_9 : decode cX7_alarm 9 = .ok (.iload_n 3, 1) := by decide +kernel
theorem dX7_alarm_10 : decode cX7_alarm 10 = .ok (.iconst (-1), 1) := by decide +kernel
theorem dX7_alarm_11 : decode cX7_alarm 11 = .ok (.if_icmp .ne 7, 3) := by decide +kernel
theorem dX7_alarm_14 : decode cX7_alarm 14 = .ok (.sipush (-1001), 3) := by decide +kernel
theorem dX7_alarm_17 : decode cX7_alarm 17 = .ok (.ireturn, 1) := by decide +kernel
theorem dX7_alarm_18 : decode cX7_alarm 18 = .ok (.aload_n 0, 1) := by decide +kernel
theorem dX7_alarm_19 : decode cX7_alarm 19 = .ok (.getfield 10, 3) := by decide +kernel
theorem dX7_alarm_22 : decode cX7_alarm 22 = .ok (.getfield 92, 3) := by decide +kernel
theorem dX7_alarm_25 : decode cX7_alarm 25 = .ok (.iload_n 3, 1) := by decide +kernel
theorem dX7_alarm_26 : decode cX7_alarm 26 = .ok (.aaload, 1) := by decide +kernel
theorem dX7_alarm_27 : decode cX7_alarm 27 = .ok (.astore 4, 2) := by decide +kernel
theorem dX7_alarm_29 : decode cX7_alarm 29 = .ok (.iload_n 2, 1) := by decide +kernel
theorem dX7_alarm_30 : decode cX7_alarm 30 = .ok (.tableswitch 80 0 6 #[42, 48, 54, 60, 66, 68, 74], 42) := by decide +kernel
theorem dX7_alarm_72 : decode cX7_alarm 72 = .ok (.aload 4, 2) := by decide +kernel
theorem dX7_alarm_74 : decode cX7_alarm 74 = .ok (.getfield 96, 3) := by decide +kernel
theorem dX7_alarm_77 : decode cX7_alarm 77 = .ok (.ireturn, 1) := by decide +kernel
theorem dX7_alarm_78 : decode cX7_alarm 78 = .ok (.aload 4, 2) := by decide +kernel
theorem dX7_alarm_80 : decode cX7_alarm 80 = .ok (.getfield 151, 3) := by decide +kernel
theorem dX7_alarm_83 : decode cX7_alarm 83 = .ok (.ireturn, 1) := by decide +kernel
theorem dX7_alarm_84 : decode cX7_alarm 84 = .ok (.aload 4, 2) := by decide +kernel
theorem dX7_alarm_86 : decode cX7_alarm 86 = .ok (.getfield 154, 3) := by decide +kernel
theorem dX7_alarm_89 : decode cX7_alarm 89 = .ok (.ireturn, 1) := by decide +kernel
theorem dX7_alarm_90 : decode cX7_alarm 90 = .ok (.aload 4, 2) := by decide +kernel
theorem dX7_alarm_92 : decode cX7_alarm 92 = .ok (.getfield 157, 3) := by decide +kernel
theorem dX7_alarm_95 : decode cX7_alarm 95 = .ok (.ireturn, 1) := by decide +kernel
theorem dX7_alarm_96 : decode cX7_alarm 96 = .ok (.iload_n 3, 1) := by decide +kernel
theorem dX7_alarm_97 : decode cX7_alarm 97 = .ok (.ireturn, 1) := by decide +kernel
theorem dX7_alarm_98 : decode cX7_alarm 98 = .ok (.aload 4, 2) := by decide +kernel
theorem dX7_alarm_100 : decode cX7_alarm 100 = .ok (.getfield 160, 3) := by decide +kernel
theorem dX7_alarm_103 : decode cX7_alarm 103 = .ok (.ireturn, 1) := by decide +kernel
theorem dX7_alarm_104 : decode cX7_alarm 104 = .ok (.aload 4, 2) := by decide +kernel
theorem dX7_alarm_106 : decode cX7_alarm 106 = .ok (.getfield 161, 3) := by decide +kernel
theorem dX7_alarm_109 : decode cX7_alarm 109 = .ok (.ireturn, 1) := by decide +kernel
theorem dX7_alarm_110 : decode cX7_alarm 110 = .ok (.sipush (-1002), 3) := by decide +kernel
theorem dX7_alarm_113 : decode cX7_alarm 113 = .ok (.ireturn, 1) := by decide +kernel
theorem dX7_comparer_0 : decode cX7_comparer 0 = .ok (.iload_n 1, 1) := by decide +kernel
theorem dX7_comparer_1 : decode cX7_comparer 1 = .ok (.iconst 0, 1) := by decide +kernel
theorem dX7_comparer_2 : decode cX7_comparer 2 = .ok (.aload_n 0, 1) := by decide +kernel
theorem dX7_comparer_3 : decode cX7_comparer 3 = .ok (.getfield 10, 3) := by decide +kernel
theorem dX7_comparer_6 : decode cX7_comparer 6 = .ok (.getfield 105, 3) := by decide +kernel
theorem dX7_comparer_9 : decode cX7_comparer 9 = .ok (.iconst 1, 1) := by decide +kernel
theorem dX7_comparer_10 : decode cX7_comparer 10 = .ok (.isub, 1) := by decide +kernel
theorem dX7_comparer_11 : decode cX7_comparer 11 = .ok (.invokestatic 41, 3) := by decide +kernel
theorem dX7_comparer_14 : decode cX7_comparer 14 = .ok (.ifCond .ne 7, 3) := by decide +kernel
theorem dX7_comparer_17 : decode cX7_comparer 17 = .ok (.sipush (-1001), 3) := by decide +kernel
theorem dX7_comparer_20 : decode cX7_comparer 20 = .ok (.ireturn, 1) := by decide +kernel
theorem dX7_comparer_21 : decode cX7_comparer 21 = .ok (.aload_n 0, 1) := by decide +kernel
theorem dX7_comparer_22 : decode cX7_comparer 22 = .ok (.getfield 10, 3) := by decide +kernel
theorem dX7_comparer_25 : decode cX7_comparer 25 = .ok (.getfield 164, 3) := by decide +kernel
theorem dX7_comparer_28 : decode cX7_comparer 28 = .ok (.iload_n 1, 1) := by decide +kernel
theorem dX7_comparer_29 : decode cX7_comparer 29 = .ok (.aaload, 1) := by decide +kernel
theorem dX7_comparer_30 : decode cX7_comparer 30 = .ok (.astore_n 3, 1) := by decide +kernel
theorem dX7_comparer_31 : decode cX7_comparer 31 = .ok (.iload_n 2, 1) := by decide +kernel
theorem dX7_comparer_32 : decode cX7_comparer 32 = .ok (.tableswitch 69 0 3 #[32, 50, 55, 60], 32) := by decide +kernel
theorem dX7_comparer_64 : decode cX7_comparer 64 = .ok (.aload_n 3, 1) := by decide +kernel
theorem dX7_comparer_65 : decode cX7_comparer 65 = .ok (.invokevirtual 168, 3) := by decide +kernel
theorem dX7_comparer_68 : decode cX7_comparer 68 = .ok (.ifCond .eq 9, 3) := by decide +kernel
theorem dX7_comparer_71 : decode cX7_comparer 71 = .ok (.sipush (-1005), 3) := by decide +kernel
theorem dX7_comparer_74 : decode cX7_comparer 74 = .ok (.goto 7, 3) := by decide +kernel
theorem dX7_comparer_77 : decode cX7_comparer 77 = .ok (.aload_n 3, 1) := by decide +kernel
theorem dX7_comparer_78 : decode cX7_comparer 78 = .ok (.getfield 174, 3) := by decide +kernel
theorem dX7_comparer_81 : decode cX7_comparer 81 = .ok (.ireturn, 1) := by decide +kernel
theorem dX7_comparer_82 : decode cX7_comparer 82 = .ok (.aload_n 3, 1) := by decide +kernel
theorem dX7_comparer_83 : decode cX7_comparer 83 = .ok (.getfield 177, 3) := by decide +kernel
theorem dX7_comparer_86 : decode cX7_comparer 86 = .ok (.ireturn, 1) := by decide +kernel
theorem dX7_comparer_87 : decode cX7_comparer 87 = .ok (.aload_n 3, 1) := by decide +kernel
theorem dX7_comparer_88 : decode cX7_comparer 88 = .ok (.getfield 180, 3) := by decide +kernel
theorem dX7_comparer_91 : decode cX7_comparer 91 = .ok (.ireturn, 1) := by decide +kernel
theorem dX7_comparer_92 : decode cX7_comparer 92 = .ok (.aload_n 0, 1) := by decide +kernel
theorem dX7_comparer_93 : decode cX7_comparer 93 = .ok (.getfield 10, 3) := by decide +kernel
theorem dX7_comparer_96 : decode cX7_comparer 96 = .ok (.iload_n 1, 1) := by decide +kernel
theorem dX7_comparer_97 : decode cX7_comparer 97 = .ok (.invokevirtual 183, 3) := by decide +kernel
theorem dX7_comparer_100 : decode cX7_comparer 100 = .ok (.ireturn, 1) := by decide +kernel
theorem dX7_comparer_101 : decode cX7_comparer 101 = .ok (.sipush (-1002), 3) := by decide +kernel
theorem dX7_comparer_104 : decode cX7_comparer 104 = .ok (.ireturn, 1) := by decide +kernel
theorem dX7_at_0 : decode cX7_at 0 = .ok (.iload_n 1, 1) := by decide +kernel
theorem dX7_at_1 : decode cX7_at 1 = .ok (.ifCond .ge 7, 3) := by decide +kernel
theorem dX7_at_4 : decode cX7_at 4 = .ok (.sipush (-1002), 3) := by decide +kernel
theorem dX7_at_7 : decode cX7_at 7 = .ok (.ireturn, 1) := by decide +kernel
theorem dX7_at_8 : decode cX7_at 8 = .ok (.iload_n 1, 1) := by decide +kernel
theorem dX7_at_9 : decode cX7_at 9 = .ok (.aload_n 0, 1) := by decide +kernel
theorem dX7_at_10 : decode cX7_at 10 = .ok (.getfield 10, 3) := by decide +kernel
theorem dX7_at_13 : decode cX7_at 13 = .ok (.getfield 81, 3) := by decide +kernel
theorem dX7_at_16 : decode cX7_at 16 = .ok (.if_icmp .ge 18, 3) := by decide +kernel
theorem dX7_at_19 : decode cX7_at 19 = .ok (.aload_n 0, 1) := by decide +kernel
theorem dX7_at_20 : decode cX7_at 20 = .ok (.getfield 10, 3) := by decide +kernel
theorem dX7_at_23 : decode cX7_at 23 = .ok (.getfield 92, 3) := by decide +kernel
theorem dX7_at_26 : decode cX7_at 26 = .ok (.iload_n 1, 1) := by decide +kernel
theorem dX7_at_27 : decode cX7_at 27 = .ok (.aaload, 1) := by decide +kernel
theorem dX7_at_28 : decode cX7_at 28 = .ok (.getfield 186, 3) := by decide +kernel
theorem dX7_at_31 : decode cX7_at 31 = .ok (.goto 6, 3) := by decide +kernel
theorem dX7_at_34 : decode cX7_at 34 = .ok (.sipush (-1005), 3) := by decide +kernel
theorem dX7_at_37 : decode cX7_at 37 = .ok (.ireturn, 1) := by decide +kernel
theorem dX7_ringsIn_0 : decode cX7_ringsIn 0 = .ok (.aload_n 0, 1) := by decide +kernel
theorem dX7_ringsIn_1 : decode cX7_ringsIn 1 = .ok (.getfield 10, 3) := by decide +kernel
theorem dX7_ringsIn_4 : decode cX7_ringsIn 4 = .ok (.iload_n 1, 1) := by decide +kernel
theorem dX7_ringsIn_5 : decode cX7_ringsIn 5 = .ok (.invokevirtual 84, 3) := by decide +kernel
theorem dX7_ringsIn_8 : decode cX7_ringsIn 8 = .ok (.istore_n 2, 1) := by decide +kernel
theorem dX7_ringsIn_9 : decode cX7_ringsIn 9 = .ok (.iload_n 2, 1) := by decide +kernel
theorem dX7_ringsIn_10 : decode cX7_ringsIn 10 = .ok (.iconst (-1), 1) := by decide +kernel
theorem dX7_ringsIn_11 : decode cX7_ringsIn 11 = .ok (.if_icmp .ne 7, 3) := by decide +kernel
theorem dX7_ringsIn_14 : decode cX7_ringsIn 14 = .ok (.sipush (-1001), 3) := by decide +kernel
theorem dX7_ringsIn_17 : decode cX7_ringsIn 17 = .ok (.ireturn, 1) := by decide +kernel
theorem dX7_ringsIn_18 : decode cX7_ringsIn 18 = .ok (.aload_n 0, 1) := by decide +kernel
theorem dX7_ringsIn_19 : decode cX7_ringsIn 19 = .ok (.getfield 10, 3) := by decide +kernel
theorem dX7_ringsIn_22 : decode cX7_ringsIn 22 = .ok (.getfield 92, 3) := by decide +kernel
theorem dX7_ringsIn_25 : decode cX7_ringsIn 25 = .ok (.iload_n 2, 1) := by decide +kernel
theorem dX7_ringsIn_26 : decode cX7_ringsIn 26 = .ok (.aaload, 1) := by decide +kernel
theorem dX7_ringsIn_27 : decode cX7_ringsIn 27 = .ok (.getfield 160, 3) := by decide +kernel
theorem dX7_ringsIn_30 : decode cX7_ringsIn 30 = .ok (.istore_n 3, 1) := by decide +kernel
theorem dX7_ringsIn_31 : decode cX7_ringsIn 31 = .ok (.aload_n 0, 1) := by decide +kernel
theorem dX7_ringsIn_32 : decode cX7_ringsIn 32 = .ok (.getfield 16, 3) := by decide +kernel
theorem dX7_ringsIn_35 : decode cX7_ringsIn 35 = .ok (.aload_n 0, 1) := by decide +kernel
theorem dX7_ringsIn_36 : decode cX7_ringsIn 36 = .ok (.getfield 10, 3) := by decide +kernel
theorem dX7_ringsIn_39 : decode cX7_ringsIn 39 = .ok (.invokevirtual 148, 3) := by decide +kernel
theorem dX7_ringsIn_42 : decode cX7_ringsIn 42 = .ok (.iconst 1, 1) := by decide +kernel
theorem dX7_ringsIn_43 : decode cX7_ringsIn 43 = .ok (.istore 4, 2) := by decide +kernel
theorem dX7_ringsIn_45 : decode cX7_ringsIn 45 = .ok (.iload 4, 2) := by decide +kernel
theorem dX7_ringsIn_47 : decode cX7_ringsIn 47 = .ok (.sipush 1000, 3) := by decide +kernel
theorem dX7_ringsIn_50 : decode cX7_ringsIn 50 = .ok (.if_icmp .gt 31, 3) := by decide +kernel
theorem dX7_ringsIn_53 : decode cX7_ringsIn 53 = .ok (.aload_n 0, 1) := by decide +kernel
theorem dX7_ringsIn_54 : decode cX7_ringsIn 54 = .ok (.getfield 16, 3) := by decide +kernel
theorem dX7_ringsIn_57 : decode cX7_ringsIn 57 = .ok (.invokevirtual 132, 3) := by decide +kernel
theorem dX7_ringsIn_60 : decode cX7_ringsIn 60 = .ok (.aload_n 0, 1) := by decide +kernel
theorem dX7_ringsIn_61 : decode cX7_ringsIn 61 = .ok (.getfield 16, 3) := by decide +kernel
theorem dX7_ringsIn_64 : decode cX7_ringsIn 64 = .ok (.iload_n 1, 1) := by decide +kernel
theorem dX7_ringsIn_65 : decode cX7_ringsIn 65 = .ok (.iload_n 3, 1) := by decide +kernel
theorem dX7_ringsIn_66 : decode cX7_ringsIn 66 = .ok (.invokevirtual 189, 3) := by decide +kernel
theorem dX7_ringsIn_69 : decode cX7_ringsIn 69 = .ok (.ifCond .eq 6, 3) := by decide +kernel
theorem dX7_ringsIn_72 : decode cX7_ringsIn 72 = .ok (.iload 4, 2) := by decide +kernel
theorem dX7_ringsIn_74 : decode cX7_ringsIn 74 = .ok (.ireturn, 1) := by decide +kernel
theorem dX7_ringsIn_75 : decode cX7_ringsIn 75 = .ok (.iinc 4 1, 3) := by decide +kernel
theorem dX7_ringsIn_78 : decode cX7_ringsIn 78 = .ok (.goto (-33), 3) := by decide +kernel
theorem dX7_ringsIn_81 : decode cX7_ringsIn 81 = .ok (.sipush (-1005), 3) := by decide +kernel
theorem dX7_ringsIn_84 : decode cX7_ringsIn 84 = .ok (.ireturn, 1) := by decide +kernel
theorem dX7_ifComparers_0 : decode cX7_ifComparers 0 = .ok (.iload_n 1, 1) := by decide +kernel
theorem dX7_ifComparers_1 : decode cX7_ifComparers 1 = .ok (.iconst 1, 1) := by decide +kernel
theorem dX7_ifComparers_2 : decode cX7_ifComparers 2 = .ok (.iconst 4, 1) := by decide +kernel
theorem dX7_ifComparers_3 : decode cX7_ifComparers 3 = .ok (.invokestatic 41, 3) := by decide +kernel
theorem dX7_ifComparers_6 : decode cX7_ifComparers 6 = .ok (.ifCond .eq 23, 3) := by decide +kernel
theorem dX7_ifComparers_9 : decode cX7_ifComparers 9 = .ok (.iload_n 2, 1) := by decide +kernel
theorem dX7_ifComparers_10 : decode cX7_ifComparers 10 = .ok (.iconst 1, 1) := by decide +kernel
theorem dX7_ifComparers_11 : decode cX7_ifComparers 11 = .ok (.sipush 500, 3) := by decide +kernel
theorem dX7_ifComparers_14 : decode cX7_ifComparers 14 = .ok (.invokestatic 41, 3) := by decide +kernel
theorem dX7_ifComparers_17 : decode cX7_ifComparers 17 = .ok (.ifCond .eq 12, 3) := by decide +kernel
theorem dX7_ifComparers_20 : decode cX7_ifComparers 20 = .ok (.iload_n 3, 1) := by decide +kernel
theorem dX7_ifComparers_21 : decode cX7_ifComparers 21 = .ok (.iconst 0, 1) := by decide +kernel
theorem dX7_ifComparers_22 : decode cX7_ifComparers 22 = .ok (.iconst 3, 1) := by decide +kernel
theorem dX7_ifComparers_23 : decode cX7_ifComparers 23 = .ok (.invokestatic 41, 3) := by decide +kernel
theorem dX7_ifComparers_26 : decode cX7_ifComparers 26 = .ok (.ifCond .ne 7, 3) := by decide +kernel
theorem dX7_ifComparers_29 : decode cX7_ifComparers 29 = .ok (.sipush (-1002), 3) := by decide +kernel
theorem dX7_ifComparers_32 : decode cX7_ifComparers 32 = .ok (.ireturn, 1) := by decide +kernel
theorem dX7_ifComparers_33 : decode cX7_ifComparers 33 = .ok (.aload_n 0, 1) := by decide +kernel
theorem dX7_ifComparers_34 : decode cX7_ifComparers 34 = .ok (.iload_n 1, 1) := by decide +kernel
theorem dX7_ifComparers_35 : decode cX7_ifComparers 35 = .ok (.iload_n 2, 1) := by decide +kernel
theorem dX7_ifComparers_36 : decode cX7_ifComparers 36 = .ok (.invokevirtual 193, 3) := by decide +kernel
theorem dX7_ifComparers_39 : decode cX7_ifComparers 39 = .ok (.iload_n 3, 1) := by decide +kernel
theorem dX7_ifComparers_40 : decode cX7_ifComparers 40 = .ok (.tableswitch 61 0 2 #[28, 39, 50], 28) := by decide +kernel
theorem dX7_ifComparers_68 : decode cX7_ifComparers 68 = .ok (.aload_n 0, 1) := by decide +kernel
theorem dX7_ifComparers_69 : decode cX7_ifComparers 69 = .ok (.getfield 16, 3) := by decide +kernel
theorem dX7_ifComparers_72 : decode cX7_ifComparers 72 = .ok (.getfield 123, 3) := by decide +kernel
theorem dX7_ifComparers_75 : decode cX7_ifComparers 75 = .ok (.getfield 127, 3) := by decide +kernel
theorem dX7_ifComparers_78 : decode cX7_ifComparers 78 = .ok (.ireturn, 1) := by decide +kernel
theorem dX7_ifComparers_79 : decode cX7_ifComparers 79 = .ok (.aload_n 0, 1) := by decide +kernel
theorem dX7_ifComparers_80 : decode cX7_ifComparers 80 = .ok (.getfield 16, 3) := by decide +kernel
theorem dX7_ifComparers_83 : decode cX7_ifComparers 83 = .ok (.getfield 123, 3) := by decide +kernel
theorem dX7_ifComparers_86 : decode cX7_ifComparers 86 = .ok (.getfield 196, 3) := by decide +kernel
theorem dX7_ifComparers_89 : decode cX7_ifComparers 89 = .ok (.ireturn, 1) := by decide +kernel
theorem dX7_ifComparers_90 : decode cX7_ifComparers 90 = .ok (.aload_n 0, 1) := by decide +kernel
theorem dX7_ifComparers_91 : decode cX7_ifComparers 91 = .ok (.getfield 16, 3) := by decide +kernel
theorem dX7_ifComparers_94 : decode cX7_ifComparers 94 = .ok (.getfield 123, 3) := by decide +kernel
theorem dX7_ifComparers_97 : decode cX7_ifComparers 97 = .ok (.getfield 199, 3) := by decide +kernel
theorem dX7_ifComparers_100 : decode cX7_ifComparers 100 = .ok (.ireturn, 1) := by decide +kernel
theorem dX7_ifComparers_101 : decode cX7_ifComparers 101 = .ok (.aload_n 0, 1) := by decide +kernel
theorem dX7_ifComparers_102 : decode cX7_ifComparers 102 = .ok (.getfield 16, 3) := by decide +kernel
theorem dX7_ifComparers_105 : decode cX7_ifComparers 105 = .ok (.getfield 123, 3) := by decide +kernel
theorem dX7_ifComparers_108 : decode cX7_ifComparers 108 = .ok (.getfield 200, 3) := by decide +kernel
theorem dX7_ifComparers_111 : decode cX7_ifComparers 111 = .ok (.ireturn, 1) := by decide +kernel
theorem dX7_fewest_0 : decode cX7_fewest 0 = .ok (.iload_n 1, 1) := by decide +kernel
theorem dX7_fewest_1 : decode cX7_fewest 1 = .ok (.iconst 1, 1) := by decide +kernel
theorem dX7_fewest_2 : decode cX7_fewest 2 = .ok (.sipush 500, 3) := by decide +kernel
theorem dX7_fewest_5 : decode cX7_fewest 5 = .ok (.invokestatic 41, 3) := by decide +kernel
theorem dX7_fewest_8 : decode cX7_fewest 8 = .ok (.ifCond .ne 7, 3) := by decide +kernel
theorem dX7_fewest_11 : decode cX7_fewest 11 = .ok (.sipush (-1002), 3) := by decide +kernel
theorem dX7_fewest_14 : decode cX7_fewest 14 = .ok (.ireturn, 1) := by decide +kernel
theorem dX7_fewest_15 : decode cX7_fewest 15 = .ok (.iconst 0, 1) := by decide +kernel
theorem dX7_fewest_16 : decode cX7_fewest 16 = .ok (.istore_n 2, 1) := by decide +kernel
theorem dX7_fewest_17 : decode cX7_fewest 17 = .ok (.iconst 0, 1) := by decide +kernel
theorem dX7_fewest_18 : decode cX7_fewest 18 = .ok (.istore_n 3, 1) := by decide +kernel
theorem dX7_fewest_19 : decode cX7_fewest 19 = .ok (.iconst 1, 1) := by decide +kernel
theorem dX7_fewest_20 : decode cX7_fewest 20 = .ok (.istore 4, 2) := by decide +kernel
theorem dX7_fewest_22 : decode cX7_fewest 22 = .ok (.iload 4, 2) := by decide +kernel
theorem dX7_fewest_24 : decode cX7_fewest 24 = .ok (.iconst 4, 1) := by decide +kernel
theorem dX7_fewest_25 : decode cX7_fewest 25 = .ok (.if_icmp .gt 48, 3) := by decide +kernel
theorem dX7_fewest_28 : decode cX7_fewest 28 = .ok (.aload_n 0, 1) := by decide +kernel
theorem dX7_fewest_29 : decode cX7_fewest 29 = .ok (.iload 4, 2) := by decide +kernel
theorem dX7_fewest_31 : decode cX7_fewest 31 = .ok (.iload_n 1, 1) := by decide +kernel
theorem dX7_fewest_32 : decode cX7_fewest 32 = .ok (.invokevirtual 193, 3) := by decide +kernel
theorem dX7_fewest_35 : decode cX7_fewest 35 = .ok (.iload_n 2, 1) := by decide +kernel
theorem dX7_fewest_36 : decode cX7_fewest 36 = .ok (.ifCond .eq 17, 3) := by decide +kernel
theorem dX7_fewest_39 : decode cX7_fewest 39 = .ok (.aload_n 0, 1) := by decide +kernel
theorem dX7_fewest_40 : decode cX7_fewest 40 = .ok (.getfield 16, 3) := by decide +kernel
theorem dX7_fewest_43 : decode cX7_fewest 43 = .ok (.getfield 123, 3) := by decide +kernel
theorem dX7_fewest_46 : decode cX7_fewest 46 = .ok (.getfield 196, 3) := by decide +kernel
theorem dX7_fewest_49 : decode cX7_fewest 49 = .ok (.iload_n 3, 1) := by decide +kernel
theorem dX7_fewest_50 : decode cX7_fewest 50 = .ok (.if_icmp .ge 17, 3) := by decide +kernel
theorem dX7_fewest_53 : decode cX7_fewest 53 = .ok (.iload 4, 2) := by decide +kernel
theorem dX7_fewest_55 : decode cX7_fewest 55 = .ok (.istore_n 2, 1) := by decide +kernel
theorem dX7_fewest_56 : decode cX7_fewest 56 = .ok (.aload_n 0, 1) := by decide +kernel
theorem dX7_fewest_57 : decode cX7_fewest 57 = .ok (.getfield 16, 3) := by decide +kernel
theorem dX7_fewest_60 : decode cX7_fewest 60 = .ok (.getfield 123, 3) := by decide +kernel
theorem dX7_fewest_63 : decode cX7_fewest 63 = .ok (.getfield 196, 3) := by decide +kernel
theorem dX7_fewest_66 : decode cX7_fewest 66 = .ok (.istore_n 3, 1) := by decide +kernel
theorem dX7_fewest_67 : decode cX7_fewest 67 = .ok (.iinc 4 1, 3) := by decide +kernel
theorem dX7_fewest_70 : decode cX7_fewest 70 = .ok (.goto (-48), 3) := by decide +kernel
theorem dX7_fewest_73 : decode cX7_fewest 73 = .ok (.iload_n 2, 1) := by decide +kernel
theorem dX7_fewest_74 : decode cX7_fewest 74 = .ok (.ireturn, 1) := by decide +kernel
theorem dX7_ring_0 : decode cX7_ring 0 = .ok (.aload_n 0, 1) := by decide +kernel
theorem dX7_ring_1 : decode cX7_ring 1 = .ok (.getfield 10, 3) := by decide +kernel
theorem dX7_ring_4 : decode cX7_ring 4 = .ok (.getfield 203, 3) := by decide +kernel
theorem dX7_ring_7 : decode cX7_ring 7 = .ok (.iload_n 1, 1) := by decide +kernel
theorem dX7_ring_8 : decode cX7_ring 8 = .ok (.iload_n 2, 1) := by decide +kernel
theorem dX7_ring_9 : decode cX7_ring 9 = .ok (.invokevirtual 207, 3) := by decide +kernel
theorem dX7_ring_12 : decode cX7_ring 12 = .ok (.ireturn, 1) := by decide +kernel
theorem dX7_count_0 : decode cX7_count 0 = .ok (.iload_n 1, 1) := by decide +kernel
theorem dX7_count_1 : decode cX7_count 1 = .ok (.tableswitch 249 0 17 #[87, 95, 103, 111, 119, 127, 135, 146, 157, 168, 179, 190, 201, 209, 217, 225, 233, 241], 87) := by decide +kernel
theorem dX7_count_88 : decode cX7_count 88 = .ok (.aload_n 0, 1) := by decide +kernel
theorem dX7_count_89 : decode cX7_count 89 = .ok (.getfield 10, 3) := by decide +kernel
theorem dX7_count_92 : decode cX7_count 92 = .ok (.getfield 45, 3) := by decide +kernel
theorem dX7_count_95 : decode cX7_count 95 = .ok (.ireturn, 1) := by decide +kernel
theorem dX7_count_96 : decode cX7_count 96 = .ok (.aload_n 0, 1) := by decide +kernel
theorem dX7_count_97 : decode cX7_count 97 = .ok (.getfield 10, 3) := by decide +kernel
theorem dX7_count_100 : decode cX7_count 100 = .ok (.getfield 213, 3) := by decide +kernel
theorem dX7_count_103 : decode cX7_count 103 = .ok (.ireturn, 1) := by decide +kernel
theorem dX7_count_104 : decode cX7_count 104 = .ok (.aload_n 0, 1) := by decide +kernel
theorem dX7_count_105 : decode cX7_count 105 = .ok (.getfield 10, 3) := by decide +kernel
theorem dX7_count_108 : decode cX7_count 108 = .ok (.getfield 81, 3) := by decide +kernel
theorem dX7_count_111 : decode cX7_count 111 = .ok (.ireturn, 1) := by decide +kernel
theorem dX7_count_112 : decode cX7_count 112 = .ok (.aload_n 0, 1) := by decide +kernel
theorem dX7_count_113 : decode cX7_count 113 = .ok (.getfield 10, 3) := by decide +kernel
theorem dX7_count_116 : decode cX7_count 116 = .ok (.getfield 216, 3) := by decide +kernel
theorem dX7_count_119 : decode cX7_count 119 = .ok (.ireturn, 1) := by decide +kernel
theorem dX7_count_120 : decode cX7_count 120 = .ok (.aload_n 0, 1) := by decide +kernel
theorem dX7_count_121 : decode cX7_count 121 = .ok (.getfield 10, 3) := by decide +kernel
theorem dX7_count_124 : decode cX7_count 124 = .ok (.invokevirtual 219, 3) := by decide +kernel
theorem dX7_count_127 : decode cX7_count 127 = .ok (.ireturn, 1) := by decide +kernel
theorem dX7_count_128 : decode cX7_count 128 = .ok (.aload_n 0, 1) := by decide +kernel
theorem dX7_count_129 : decode cX7_count 129 = .ok (.getfield 10, 3) := by decide +kernel
theorem dX7_count_132 : decode cX7_count 132 = .ok (.invokevirtual 222, 3) := by decide +kernel
theorem dX7_count_135 : decode cX7_count 135 = .ok (.ireturn, 1) := by decide +kernel
theorem dX7_count_136 : decode cX7_count 136 = .ok (.aload_n 0, 1) := by decide +kernel
theorem dX7_count_137 : decode cX7_count 137 = .ok (.getfield 10, 3) := by decide +kernel
theorem dX7_count_140 : decode cX7_count 140 = .ok (.getfield 123, 3) := by decide +kernel
theorem dX7_count_143 : decode cX7_count 143 = .ok (.getfield 127, 3) := by decide +kernel
theorem dX7_count_146 : decode cX7_count 146 = .ok (.ireturn, 1) := by decide +kernel
theorem dX7_count_147 : decode cX7_count 147 = .ok (.aload_n 0, 1) := by decide +kernel
theorem dX7_count_148 : decode cX7_count 148 = .ok (.getfield 10, 3) := by decide +kernel
theorem dX7_count_151 : decode cX7_count 151 = .ok (.getfield 123, 3) := by decide +kernel
theorem dX7_count_154 : decode cX7_count 154 = .ok (.getfield 196, 3) := by decide +kernel
theorem dX7_count_157 : decode cX7_count 157 = .ok (.ireturn, 1) := by decide +kernel
theorem dX7_count_158 : decode cX7_count 158 = .ok (.aload_n 0, 1) := by decide +kernel
theorem dX7_count_159 : decode cX7_count 159 = .ok (.getfield 10, 3) := by decide +kernel
theorem dX7_count_162 : decode cX7_count 162 = .ok (.getfield 123, 3) := by decide +kernel
theorem dX7_count_165 : decode cX7_count 165 = .ok (.getfield 199, 3) := by decide +kernel
theorem dX7_count_168 : decode cX7_count 168 = .ok (.ireturn, 1) := by decide +kernel
theorem dX7_count_169 : decode cX7_count 169 = .ok (.aload_n 0, 1) := by decide +kernel
theorem dX7_count_170 : decode cX7_count 170 = .ok (.getfield 10, 3) := by decide +kernel
theorem dX7_count_173 : decode cX7_count 173 = .ok (.getfield 123, 3) := by decide +kernel
theorem dX7_count_176 : decode cX7_count 176 = .ok (.getfield 200, 3) := by decide +kernel
theorem dX7_count_179 : decode cX7_count 179 = .ok (.ireturn, 1) := by decide +kernel
theorem dX7_count_180 : decode cX7_count 180 = .ok (.aload_n 0, 1) := by decide +kernel
theorem dX7_count_181 : decode cX7_count 181 = .ok (.getfield 10, 3) := by decide +kernel
theorem dX7_count_184 : decode cX7_count 184 = .ok (.getfield 123, 3) := by decide +kernel
theorem dX7_count_187 : decode cX7_count 187 = .ok (.getfield 225, 3) := by decide +kernel
theorem dX7_count_190 : decode cX7_count 190 = .ok (.ireturn, 1) := by decide +kernel
theorem dX7_count_191 : decode cX7_count 191 = .ok (.aload_n 0, 1) := by decide +kernel
theorem dX7_count_192 : decode cX7_count 192 = .ok (.getfield 10, 3) := by decide +kernel
theorem dX7_count_195 : decode cX7_count 195 = .ok (.getfield 123, 3) := by decide +kernel
theorem dX7_count_198 : decode cX7_count 198 = .ok (.getfield 228, 3) := by decide +kernel
theorem dX7_count_201 : decode cX7_count 201 = .ok (.ireturn, 1) := by decide +kernel
theorem dX7_count_202 : decode cX7_count 202 = .ok (.aload_n 0, 1) := by decide +kernel
theorem dX7_count_203 : decode cX7_count 203 = .ok (.getfield 10, 3) := by decide +kernel
theorem dX7_count_206 : decode cX7_count 206 = .ok (.getfield 105, 3) := by decide +kernel
theorem dX7_count_209 : decode cX7_count 209 = .ok (.ireturn, 1) := by decide +kernel
theorem dX7_count_210 : decode cX7_count 210 = .ok (.aload_n 0, 1) := by decide +kernel
theorem dX7_count_211 : decode cX7_count 211 = .ok (.getfield 10, 3) := by decide +kernel
theorem dX7_count_214 : decode cX7_count 214 = .ok (.getfield 111, 3) := by decide +kernel
theorem dX7_count_217 : decode cX7_count 217 = .ok (.ireturn, 1) := by decide +kernel
theorem dX7_count_218 : decode cX7_count 218 = .ok (.aload_n 0, 1) := by decide +kernel
theorem dX7_count_219 : decode cX7_count 219 = .ok (.getfield 10, 3) := by decide +kernel
theorem dX7_count_222 : decode cX7_count 222 = .ok (.getfield 117, 3) := by decide +kernel
theorem dX7_count_225 : decode cX7_count 225 = .ok (.ireturn, 1) := by decide +kernel
theorem dX7_count_226 : decode cX7_count 226 = .ok (.aload_n 0, 1) := by decide +kernel
theorem dX7_count_227 : decode cX7_count 227 = .ok (.getfield 10, 3) := by decide +kernel
theorem dX7_count_230 : decode cX7_count 230 = .ok (.getfield 120, 3) := by decide +kernel
theorem dX7_count_233 : decode cX7_count 233 = .ok (.ireturn, 1) := by decide +kernel
theorem dX7_count_234 : decode cX7_count 234 = .ok (.aload_n 0, 1) := by decide +kernel
theorem dX7_count_235 : decode cX7_count 235 = .ok (.getfield 25, 3) := by decide +kernel
theorem dX7_count_238 : decode cX7_count 238 = .ok (.getfield 142, 3) := by decide +kernel
theorem dX7_count_241 : decode cX7_count 241 = .ok (.ireturn, 1) := by decide +kernel
theorem dX7_count_242 : decode cX7_count 242 = .ok (.aload_n 0, 1) := by decide +kernel
theorem dX7_count_243 : decode cX7_count 243 = .ok (.getfield 32, 3) := by decide +kernel
theorem dX7_count_246 : decode cX7_count 246 = .ok (.getfield 139, 3) := by decide +kernel
theorem dX7_count_249 : decode cX7_count 249 = .ok (.ireturn, 1) := by decide +kernel
theorem dX7_count_250 : decode cX7_count 250 = .ok (.sipush (-1002), 3) := by decide +kernel
theorem dX7_count_253 : decode cX7_count 253 = .ok (.ireturn, 1) := by decide +kernel
theorem dX7_isWithin_0 : decode cX7_isWithin 0 = .ok (.iload_n 0, 1) := by decide +kernel
theorem dX7_isWithin_1 : decode cX7_isWithin 1 = .ok (.iload_n 1, 1) := by decide +kernel
theorem dX7_isWithin_2 : decode cX7_isWithin 2 = .ok (.if_icmp .lt 12, 3) := by decide +kernel
theorem dX7_isWithin_5 : decode cX7_isWithin 5 = .ok (.iload_n 0, 1) := by decide +kernel
theorem dX7_isWithin_6 : decode cX7_isWithin 6 = .ok (.iload_n 2, 1) := by decide +kernel
theorem dX7_isWithin_7 : decode cX7_isWithin 7 = .ok (.if_icmp .gt 7, 3) := by decide +kernel
theorem dX7_isWithin_10 : decode cX7_isWithin 10 = .ok (.iconst 1, 1) := by decide +kernel
theorem dX7_isWithin_11 : decode cX7_isWithin 11 = .ok (.goto 4, 3) := by decide +kernel
theorem dX7_isWithin_14 : decode cX7_isWithin 14 = .ok (.iconst 0, 1) := by decide +kernel
theorem dX7_isWithin_15 : decode cX7_isWithin 15 = .ok (.ireturn, 1) := by decide +kernel
theorem dX7_tryComparers_0 : decode cX7_tryComparers 0 = .ok (.aload_n 0, 1) := by decide +kernel
theorem dX7_tryComparers_1 : decode cX7_tryComparers 1 = .ok (.getfield 16, 3) := by decide +kernel
theorem dX7_tryComparers_4 : decode cX7_tryComparers 4 = .ok (.aload_n 0, 1) := by decide +kernel
theorem dX7_tryComparers_5 : decode cX7_tryComparers 5 = .ok (.getfield 10, 3) := by decide +kernel
theorem dX7_tryComparers_8 : decode cX7_tryComparers 8 = .ok (.invokevirtual 148, 3) := by decide +kernel
theorem dX7_tryComparers_11 : decode cX7_tryComparers 11 = .ok (.aload_n 0, 1) := by decide +kernel
theorem dX7_tryComparers_12 : decode cX7_tryComparers 12 = .ok (.getfield 16, 3) := by decide +kernel
theorem dX7_tryComparers_15 : decode cX7_tryComparers 15 = .ok (.iload_n 1, 1) := by decide +kernel
theorem dX7_tryComparers_16 : decode cX7_tryComparers 16 = .ok (.invokevirtual 108, 3) := by decide +kernel
theorem dX7_tryComparers_19 : decode cX7_tryComparers 19 = .ok (.aload_n 0, 1) := by decide +kernel
theorem dX7_tryComparers_20 : decode cX7_tryComparers 20 = .ok (.getfield 16, 3) := by decide +kernel
theorem dX7_tryComparers_23 : decode cX7_tryComparers 23 = .ok (.getfield 123, 3) := by decide +kernel
theorem dX7_tryComparers_26 : decode cX7_tryComparers 26 = .ok (.invokevirtual 231, 3) := by decide +kernel
theorem dX7_tryComparers_29 : decode cX7_tryComparers 29 = .ok (.iconst 0, 1) := by decide +kernel
theorem dX7_tryComparers_30 : decode cX7_tryComparers 30 = .ok (.istore_n 3, 1) := by decide +kernel
theorem dX7_tryComparers_31 : decode cX7_tryComparers 31 = .ok (.iload_n 3, 1) := by decide +kernel
theorem dX7_tryComparers_32 : decode cX7_tryComparers 32 = .ok (.iload_n 2, 1) := by decide +kernel
theorem dX7_tryComparers_33 : decode cX7_tryComparers 33 = .ok (.if_icmp .ge 16, 3) := by decide +kernel
theorem dX7_tryComparers_36 : decode cX7_tryComparers 36 = .ok (.aload_n 0, 1) := by decide +kernel
theorem dX7_tryComparers_37 : decode cX7_tryComparers 37 = .ok (.getfield 16, 3) := by decide +kernel
theorem dX7_tryComparers_40 : decode cX7_tryComparers 40 = .ok (.invokevirtual 132, 3) := by decide +kernel
theorem dX7_tryComparers_43 : decode cX7_tryComparers 43 = .ok (.iinc 3 1, 3) := by decide +kernel
theorem dX7_tryComparers_46 : decode cX7_tryComparers 46 = .ok (.goto (-15), 3) := by decide +kernel
theorem dX7_tryComparers_49 : decode cX7_tryComparers 49 = .ok (.return_, 1) := by decide +kernel
