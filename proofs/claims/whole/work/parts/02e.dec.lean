theorem dX8_setAll_0 : decode cX8_setAll 0 = .ok (.aload_n 0, 1) := by decide +kernel
theorem dX8_setAll_1 : decode cX8_setAll 1 = .ok (.invokevirtual 115, 3) := by decide +kernel
theorem dX8_setAll_4 : decode cX8_setAll 4 = .ok (.istore_n 1, 1) := by decide +kernel
theorem dX8_setAll_5 : decode cX8_setAll 5 = .ok (.iload_n 1, 1) := by decide +kernel
theorem dX8_setAll_6 : decode cX8_setAll 6 = .ok (.sipush (-1005), 3) := by decide +kernel
theorem dX8_setAll_9 : decode cX8_setAll 9 = .ok (.if_icmp .eq 9, 3) := by decide +kernel
theorem dX8_setAll_12 : decode cX8_setAll 12 = .ok (.sipush (-1100), 3) := by decide +kernel
theorem dX8_setAll_15 : decode cX8_setAll 15 = .ok (.iload_n 1, 1) := by decide +kernel
theorem dX8_setAll_16 : decode cX8_setAll 16 = .ok (.isub, 1) := by decide +kernel
theorem dX8_setAll_17 : decode cX8_setAll 17 = .ok (.ireturn, 1) := by decide +kernel
theorem dX8_setAll_18 : decode cX8_setAll 18 = .ok (.iconst 0, 1) := by decide +kernel
theorem dX8_setAll_19 : decode cX8_setAll 19 = .ok (.istore_n 2, 1) := by decide +kernel
theorem dX8_setAll_20 : decode cX8_setAll 20 = .ok (.iload_n 2, 1) := by decide +kernel
theorem dX8_setAll_21 : decode cX8_setAll 21 = .ok (.aload_n 0, 1) := by decide +kernel
theorem dX8_setAll_22 : decode cX8_setAll 22 = .ok (.getfield 119, 3) := by decide +kernel
theorem dX8_setAll_25 : decode cX8_setAll 25 = .ok (.if_icmp .ge 30, 3) := by decide +kernel
theorem dX8_setAll_28 : decode cX8_setAll 28 = .ok (.aload_n 0, 1) := by decide +kernel
theorem dX8_setAll_29 : decode cX8_setAll 29 = .ok (.getfield 26, 3) := by decide +kernel
theorem dX8_setAll_32 : decode cX8_setAll 32 = .ok (.iconst 3, 1) := by decide +kernel
theorem dX8_setAll_33 : decode cX8_setAll 33 = .ok (.iload_n 2, 1) := by decide +kernel
theorem dX8_setAll_34 : decode cX8_setAll 34 = .ok (.imul, 1) := by decide +kernel
theorem dX8_setAll_35 : decode cX8_setAll 35 = .ok (.iaload, 1) := by decide +kernel
theorem dX8_setAll_36 : decode cX8_setAll 36 = .ok (.aload_n 0, 1) := by decide +kernel
theorem dX8_setAll_37 : decode cX8_setAll 37 = .ok (.getfield 7, 3) := by decide +kernel
theorem dX8_setAll_40 : decode cX8_setAll 40 = .ok (.iconst 0, 1) := by decide +kernel
theorem dX8_setAll_41 : decode cX8_setAll 41 = .ok (.iaload, 1) := by decide +kernel
theorem dX8_setAll_42 : decode cX8_setAll 42 = .ok (.if_icmp .ge 7, 3) := by decide +kernel
theorem dX8_setAll_45 : decode cX8_setAll 45 = .ok (.sipush (-1004), 3) := by decide +kernel
theorem dX8_setAll_48 : decode cX8_setAll 48 = .ok (.ireturn, 1) := by decide +kernel
theorem dX8_setAll_49 : decode cX8_setAll 49 = .ok (.iinc 2 1, 3) := by decide +kernel
theorem dX8_setAll_52 : decode cX8_setAll 52 = .ok (.goto (-32), 3) := by decide +kernel
theorem dX8_setAll_55 : decode cX8_setAll 55 = .ok (.aload_n 0, 1) := by decide +kernel
theorem dX8_setAll_56 : decode cX8_setAll 56 = .ok (.getfield 7, 3) := by decide +kernel
theorem dX8_setAll_59 : decode cX8_setAll 59 = .ok (.iconst 2, 1) := by decide +kernel
theorem dX8_setAll_60 : decode cX8_setAll 60 = .ok (.iaload, 1) := by decide +kernel
theorem dX8_setAll_61 : decode cX8_setAll 61 = .ok (.aload_n 0, 1) := by decide +kernel
theorem dX8_setAll_62 : decode cX8_setAll 62 = .ok (.getfield 119, 3) := by decide +kernel
theorem dX8_setAll_65 : decode cX8_setAll 65 = .ok (.iadd, 1) := by decide +kernel
theorem dX8_setAll_66 : decode cX8_setAll 66 = .ok (.bipush 20, 2) := by decide +kernel
theorem dX8_setAll_68 : decode cX8_setAll 68 = .ok (.if_icmp .gt 20, 3) := by decide +kernel
theorem dX8_setAll_71 : decode cX8_setAll 71 = .ok (.aload_n 0, 1) := by decide +kernel
theorem dX8_setAll_72 : decode cX8_setAll 72 = .ok (.getfield 7, 3) := by decide +kernel
theorem dX8_setAll_75 : decode cX8_setAll 75 = .ok (.iconst 3, 1) := by decide +kernel
theorem dX8_setAll_76 : decode cX8_setAll 76 = .ok (.iaload, 1) := by decide +kernel
theorem dX8_setAll_77 : decode cX8_setAll 77 = .ok (.aload_n 0, 1) := by decide +kernel
theorem dX8_setAll_78 : decode cX8_setAll 78 = .ok (.getfield 119, 3) := by decide +kernel
theorem dX8_setAll_81 : decode cX8_setAll 81 = .ok (.iadd, 1) := by decide +kernel
theorem dX8_setAll_82 : decode cX8_setAll 82 = .ok (.sipush 500, 3) := by decide +kernel
theorem dX8_setAll_85 : decode cX8_setAll 85 = .ok (.if_icmp .le 7, 3) := by decide +kernel
theorem dX8_setAll_88 : decode cX8_setAll 88 = .ok (.sipush (-1003), 3) := by decide +kernel
theorem dX8_setAll_91 : decode cX8_setAll 91 = .ok (.ireturn, 1) := by decide +kernel
theorem dX8_setAll_92 : decode cX8_setAll 92 = .ok (.aload_n 0, 1) := by decide +kernel
theorem dX8_setAll_93 : decode cX8_setAll 93 = .ok (.invokevirtual 109, 3) := by decide +kernel
theorem dX8_setAll_96 : decode cX8_setAll 96 = .ok (.iconst 0, 1) := by decide +kernel
theorem dX8_setAll_97 : decode cX8_setAll 97 = .ok (.istore_n 2, 1) := by decide +kernel
theorem dX8_setAll_98 : decode cX8_setAll 98 = .ok (.iload_n 2, 1) := by decide +kernel
theorem dX8_setAll_99 : decode cX8_setAll 99 = .ok (.aload_n 0, 1) := by decide +kernel
theorem dX8_setAll_100 : decode cX8_setAll 100 = .ok (.getfield 119, 3) := by decide +kernel
theorem dX8_setAll_103 : decode cX8_setAll 103 = .ok (.if_icmp .ge 44, 3) := by decide +kernel
theorem dX8_setAll_106 : decode cX8_setAll 106 = .ok (.aload_n 0, 1) := by decide +kernel
theorem dX8_setAll_107 : decode cX8_setAll 107 = .ok (.getfield 7, 3) := by decide +kernel
theorem dX8_setAll_110 : decode cX8_setAll 110 = .ok (.aload_n 0, 1) := by decide +kernel
theorem dX8_setAll_111 : decode cX8_setAll 111 = .ok (.getfield 26, 3) := by decide +kernel
theorem dX8_setAll_114 : decode cX8_setAll 114 = .ok (.iconst 3, 1) := by decide +kernel
theorem dX8_setAll_115 : decode cX8_setAll 115 = .ok (.iload_n 2, 1) := by decide +kernel
theorem dX8_setAll_116 : decode cX8_setAll 116 = .ok (.imul, 1) := by decide +kernel
theorem dX8_setAll_117 : decode cX8_setAll 117 = .ok (.iaload, 1) := by decide +kernel
theorem dX8_setAll_118 : decode cX8_setAll 118 = .ok (.aload_n 0, 1) := by decide +kernel
theorem dX8_setAll_119 : decode cX8_setAll 119 = .ok (.getfield 26, 3) := by decide +kernel
theorem dX8_setAll_122 : decode cX8_setAll 122 = .ok (.iconst 3, 1) := by decide +kernel
theorem dX8_setAll_123 : decode cX8_setAll 123 = .ok (.iload_n 2, 1) := by decide +kernel
theorem dX8_setAll_124 : decode cX8_setAll 124 = .ok (.imul, 1) := by decide +kernel
theorem dX8_setAll_125 : decode cX8_setAll 125 = .ok (.iconst 1, 1) := by decide +kernel
theorem dX8_setAll_126 : decode cX8_setAll 126 = .ok (.iadd, 1) := by decide +kernel
theorem dX8_setAll_127 : decode cX8_setAll 127 = .ok (.iaload, 1) := by decide +kernel
theorem dX8_setAll_128 : decode cX8_setAll 128 = .ok (.aload_n 0, 1) := by decide +kernel
theorem dX8_setAll_129 : decode cX8_setAll 129 = .ok (.getfield 26, 3) := by decide +kernel
theorem dX8_setAll_132 : decode cX8_setAll 132 = .ok (.iconst 3, 1) := by decide +kernel
theorem dX8_setAll_133 : decode cX8_setAll 133 = .ok (.iload_n 2, 1) := by decide +kernel
theorem dX8_setAll_134 : decode cX8_setAll 134 = .ok (.imul, 1) := by decide +kernel
theorem dX8_setAll_135 : decode cX8_setAll 135 = .ok (.iconst 2, 1) := by decide +kernel
theorem dX8_setAll_136 : decode cX8_setAll 136 = .ok (.iadd, 1) := by decide +kernel
theorem dX8_setAll_137 : decode cX8_setAll 137 = .ok (.iaload, 1) := by decide +kernel
theorem dX8_setAll_138 : decode cX8_setAll 138 = .ok (.invokestatic 112, 3) := by decide +kernel
theorem dX8_setAll_141 : decode cX8_setAll 141 = .ok (.iinc 2 1, 3) := by decide +kernel
theorem dX8_setAll_144 : decode cX8_setAll 144 = .ok (.goto (-46), 3) := by decide +kernel
theorem dX8_setAll_147 : decode cX8_setAll 147 = .ok (.aload_n 0, 1) := by decide +kernel
theorem dX8_setAll_148 : decode cX8_setAll 148 = .ok (.getfield 7, 3) := by decide +kernel
theorem dX8_setAll_151 : decode cX8_setAll 151 = .ok (.iconst 2, 1) := by decide +kernel
theorem dX8_setAll_152 : decode cX8_setAll 152 = .ok (.iaload, 1) := by decide +kernel
theorem dX8_setAll_153 : decode cX8_setAll 153 = .ok (.ireturn, 1) := by decide +kernel
theorem dX8_cancel_0 : decode cX8_cancel 0 = .ok (.aload_n 0, 1) := by decide +kernel
theorem dX8_cancel_1 : decode cX8_cancel 1 = .ok (.getfield 7, 3) := by decide +kernel
theorem dX8_cancel_4 : decode cX8_cancel 4 = .ok (.iload_n 1, 1) := by decide +kernel
theorem dX8_cancel_5 : decode cX8_cancel 5 = .ok (.invokestatic 122, 3) := by decide +kernel
theorem dX8_cancel_8 : decode cX8_cancel 8 = .ok (.istore_n 2, 1) := by decide +kernel
theorem dX8_cancel_9 : decode cX8_cancel 9 = .ok (.iload_n 2, 1) := by decide +kernel
theorem dX8_cancel_10 : decode cX8_cancel 10 = .ok (.sipush (-1005), 3) := by decide +kernel
theorem dX8_cancel_13 : decode cX8_cancel 13 = .ok (.if_icmp .ne 7, 3) := by decide +kernel
theorem dX8_cancel_16 : decode cX8_cancel 16 = .ok (.sipush (-1001), 3) := by decide +kernel
theorem dX8_cancel_19 : decode cX8_cancel 19 = .ok (.ireturn, 1) := by decide +kernel
theorem dX8_cancel_20 : decode cX8_cancel 20 = .ok (.aload_n 0, 1) := by decide +kernel
theorem dX8_cancel_21 : decode cX8_cancel 21 = .ok (.invokevirtual 109, 3) := by decide +kernel
theorem dX8_cancel_24 : decode cX8_cancel 24 = .ok (.aload_n 0, 1) := by decide +kernel
theorem dX8_cancel_25 : decode cX8_cancel 25 = .ok (.getfield 7, 3) := by decide +kernel
theorem dX8_cancel_28 : decode cX8_cancel 28 = .ok (.iload_n 2, 1) := by decide +kernel
theorem dX8_cancel_29 : decode cX8_cancel 29 = .ok (.invokestatic 125, 3) := by decide +kernel
theorem dX8_cancel_32 : decode cX8_cancel 32 = .ok (.aload_n 0, 1) := by decide +kernel
theorem dX8_cancel_33 : decode cX8_cancel 33 = .ok (.getfield 7, 3) := by decide +kernel
theorem dX8_cancel_36 : decode cX8_cancel 36 = .ok (.iload_n 2, 1) := by decide +kernel
theorem dX8_cancel_37 : decode cX8_cancel 37 = .ok (.invokestatic 88, 3) := by decide +kernel
theorem dX8_cancel_40 : decode cX8_cancel 40 = .ok (.aload_n 0, 1) := by decide +kernel
theorem dX8_cancel_41 : decode cX8_cancel 41 = .ok (.getfield 7, 3) := by decide +kernel
theorem dX8_cancel_44 : decode cX8_cancel 44 = .ok (.invokestatic 97, 3) := by decide +kernel
theorem dX8_cancel_47 : decode cX8_cancel 47 = .ok (.aload_n 0, 1) := by decide +kernel
theorem dX8_cancel_48 : decode cX8_cancel 48 = .ok (.getfield 7, 3) := by decide +kernel
theorem dX8_cancel_51 : decode cX8_cancel 51 = .ok (.iconst 2, 1) := by decide +kernel
theorem dX8_cancel_52 : decode cX8_cancel 52 = .ok (.iaload, 1) := by decide +kernel
theorem dX8_cancel_53 : decode cX8_cancel 53 = .ok (.ireturn, 1) := by decide +kernel
theorem dX8_move_0 : decode cX8_move 0 = .ok (.aload_n 0, 1) := by decide +kernel
theorem dX8_move_1 : decode cX8_move 1 = .ok (.getfield 7, 3) := by decide +kernel
theorem dX8_move_4 : decode cX8_move 4 = .ok (.iload_n 1, 1) := by decide +kernel
theorem dX8_move_5 : decode cX8_move 5 = .ok (.invokestatic 122, 3) := by decide +kernel
theorem dX8_move_8 : decode cX8_move 8 = .ok (.istore_n 3, 1) := by decide +kernel
theorem dX8_move_9 : decode cX8_move 9 = .ok (.iload_n 3, 1) := by decide +kernel
theorem dX8_move_10 : decode cX8_move 10 = .ok (.sipush (-1005), 3) := by decide +kernel
theorem dX8_move_13 : decode cX8_move 13 = .ok (.if_icmp .ne 7, 3) := by decide +kernel
theorem dX8_move_16 : decode cX8_move 16 = .ok (.sipush (-1001), 3) := by decide +kernel
theorem dX8_move_19 : decode cX8_move 19 = .ok (.ireturn, 1) := by decide +kernel
theorem dX8_move_20 : decode cX8_move 20 = .ok (.iload_n 2, 1) := by decide +kernel
theorem dX8_move_21 : decode cX8_move 21 = .ok (.iconst 0, 1) := by decide +kernel
theorem dX8_move_22 : decode cX8_move 22 = .ok (.ldc 104, 2) := by decide +kernel
theorem dX8_move_24 : decode cX8_move 24 = .ok (.invokestatic 105, 3) := by decide +kernel
theorem dX8_move_27 : decode cX8_move 27 = .ok (.ifCond .ne 7, 3) := by decide +kernel
theorem dX8_move_30 : decode cX8_move 30 = .ok (.sipush (-1002), 3) := by decide +kernel
theorem dX8_move_33 : decode cX8_move 33 = .ok (.ireturn, 1) := by decide +kernel
theorem dX8_move_34 : decode cX8_move 34 = .ok (.iload_n 2, 1) := by decide +kernel
theorem dX8_move_35 : decode cX8_move 35 = .ok (.aload_n 0, 1) := by decide +kernel
theorem dX8_move_36 : decode cX8_move 36 = .ok (.getfield 7, 3) := by decide +kernel
theorem dX8_move_39 : decode cX8_move 39 = .ok (.iconst 0, 1) := by decide +kernel
theorem dX8_move_40 : decode cX8_move 40 = .ok (.iaload, 1) := by decide +kernel
theorem dX8_move_41 : decode cX8_move 41 = .ok (.if_icmp .ge 7, 3) := by decide +kernel
theorem dX8_move_44 : decode cX8_move 44 = .ok (.sipush (-1004), 3) := by decide +kernel
theorem dX8_move_47 : decode cX8_move 47 = .ok (.ireturn, 1) := by decide +kernel
theorem dX8_move_48 : decode cX8_move 48 = .ok (.aload_n 0, 1) := by decide +kernel
theorem dX8_move_49 : decode cX8_move 49 = .ok (.getfield 7, 3) := by decide +kernel
theorem dX8_move_52 : decode cX8_move 52 = .ok (.iload_n 3, 1) := by decide +kernel
theorem dX8_move_53 : decode cX8_move 53 = .ok (.iconst 1, 1) := by decide +kernel
theorem dX8_move_54 : decode cX8_move 54 = .ok (.invokestatic 37, 3) := by decide +kernel
theorem dX8_move_57 : decode cX8_move 57 = .ok (.istore 4, 2) := by decide +kernel
theorem dX8_move_59 : decode cX8_move 59 = .ok (.iload 4, 2) := by decide +kernel
theorem dX8_move_61 : decode cX8_move 61 = .ok (.iload_n 2, 1) := by decide +kernel
theorem dX8_move_62 : decode cX8_move 62 = .ok (.if_icmp .ne 7, 3) := by decide +kernel
theorem dX8_move_65 : decode cX8_move 65 = .ok (.sipush (-1005), 3) := by decide +kernel
theorem dX8_move_68 : decode cX8_move 68 = .ok (.ireturn, 1) := by decide +kernel
theorem dX8_move_69 : decode cX8_move 69 = .ok (.aload_n 0, 1) := by decide +kernel
theorem dX8_move_70 : decode cX8_move 70 = .ok (.invokevirtual 109, 3) := by decide +kernel
theorem dX8_move_73 : decode cX8_move 73 = .ok (.aload_n 0, 1) := by decide +kernel
theorem dX8_move_74 : decode cX8_move 74 = .ok (.getfield 7, 3) := by decide +kernel
theorem dX8_move_77 : decode cX8_move 77 = .ok (.iload_n 3, 1) := by decide +kernel
theorem dX8_move_78 : decode cX8_move 78 = .ok (.invokestatic 125, 3) := by decide +kernel
theorem dX8_move_81 : decode cX8_move 81 = .ok (.aload_n 0, 1) := by decide +kernel
theorem dX8_move_82 : decode cX8_move 82 = .ok (.getfield 7, 3) := by decide +kernel
theorem dX8_move_85 : decode cX8_move 85 = .ok (.iload_n 3, 1) := by decide +kernel
theorem dX8_move_86 : decode cX8_move 86 = .ok (.iconst 1, 1) := by decide +kernel
theorem dX8_move_87 : decode cX8_move 87 = .ok (.iload_n 2, 1) := by decide +kernel
theorem dX8_move_88 : decode cX8_move 88 = .ok (.invokestatic 56, 3) := by decide +kernel
theorem dX8_move_91 : decode cX8_move 91 = .ok (.aload_n 0, 1) := by decide +kernel
theorem dX8_move_92 : decode cX8_move 92 = .ok (.getfield 7, 3) := by decide +kernel
theorem dX8_move_95 : decode cX8_move 95 = .ok (.invokestatic 97, 3) := by decide +kernel
theorem dX8_move_98 : decode cX8_move 98 = .ok (.iload 4, 2) := by decide +kernel
theorem dX8_move_100 : decode cX8_move 100 = .ok (.ireturn, 1) := by decide +kernel
theorem dX8_setsComparers_0 : decode cX8_setsComparers 0 = .ok (.iload_n 1, 1) := by decide +kernel
theorem dX8_setsComparers_1 : decode cX8_setsComparers 1 = .ok (.istore_n 2, 1) := by decide +kernel
theorem dX8_setsComparers_2 : decode cX8_setsComparers 2 = .ok (.iload_n 2, 1) := by decide +kernel
theorem dX8_setsComparers_3 : decode cX8_setsComparers 3 = .ok (.aload_n 0, 1) := by decide +kernel
theorem dX8_setsComparers_4 : decode cX8_setsComparers 4 = .ok (.bipush 10, 2) := by decide +kernel
theorem dX8_setsComparers_6 : decode cX8_setsComparers 6 = .ok (.iaload, 1) := by decide +kernel
theorem dX8_setsComparers_7 : decode cX8_setsComparers 7 = .ok (.if_icmp .ge 14, 3) := by decide +kernel
theorem dX8_setsComparers_10 : decode cX8_setsComparers 10 = .ok (.aload_n 0, 1) := by decide +kernel
theorem dX8_setsComparers_11 : decode cX8_setsComparers 11 = .ok (.iload_n 2, 1) := by decide +kernel
theorem dX8_setsComparers_12 : decode cX8_setsComparers 12 = .ok (.invokestatic 70, 3) := by decide +kernel
theorem dX8_setsComparers_15 : decode cX8_setsComparers 15 = .ok (.iinc 2 1, 3) := by decide +kernel
theorem dX8_setsComparers_18 : decode cX8_setsComparers 18 = .ok (.goto (-16), 3) := by decide +kernel
theorem dX8_setsComparers_21 : decode cX8_setsComparers 21 = .ok (.aload_n 0, 1) := by decide +kernel
theorem dX8_setsComparers_22 : decode cX8_setsComparers 22 = .ok (.bipush 10, 2) := by decide +kernel
theorem dX8_setsComparers_24 : decode cX8_setsComparers 24 = .ok (.iload_n 1, 1) := by decide +kernel
theorem dX8_setsComparers_25 : decode cX8_setsComparers 25 = .ok (.iastore, 1) := by decide +kernel
theorem dX8_setsComparers_26 : decode cX8_setsComparers 26 = .ok (.aload_n 0, 1) := by decide +kernel
theorem dX8_setsComparers_27 : decode cX8_setsComparers 27 = .ok (.invokestatic 97, 3) := by decide +kernel
theorem dX8_setsComparers_30 : decode cX8_setsComparers 30 = .ok (.return_, 1) := by decide +kernel
theorem dX8_setComparers_0 : decode cX8_setComparers 0 = .ok (.iload_n 1, 1) := by decide +kernel
theorem dX8_setComparers_1 : decode cX8_setComparers 1 = .ok (.iconst 1, 1) := by decide +kernel
theorem dX8_setComparers_2 : decode cX8_setComparers 2 = .ok (.iconst 4, 1) := by decide +kernel
theorem dX8_setComparers_3 : decode cX8_setComparers 3 = .ok (.invokestatic 105, 3) := by decide +kernel
theorem dX8_setComparers_6 : decode cX8_setComparers 6 = .ok (.ifCond .ne 7, 3) := by decide +kernel
theorem dX8_setComparers_9 : decode cX8_setComparers 9 = .ok (.sipush (-1002), 3) := by decide +kernel
theorem dX8_setComparers_12 : decode cX8_setComparers 12 = .ok (.ireturn, 1) := by decide +kernel
theorem dX8_setComparers_13 : decode cX8_setComparers 13 = .ok (.aload_n 0, 1) := by decide +kernel
theorem dX8_setComparers_14 : decode cX8_setComparers 14 = .ok (.getfield 7, 3) := by decide +kernel
theorem dX8_setComparers_17 : decode cX8_setComparers 17 = .ok (.bipush 10, 2) := by decide +kernel
theorem dX8_setComparers_19 : decode cX8_setComparers 19 = .ok (.iaload, 1) := by decide +kernel
theorem dX8_setComparers_20 : decode cX8_setComparers 20 = .ok (.istore_n 2, 1) := by decide +kernel
theorem dX8_setComparers_21 : decode cX8_setComparers 21 = .ok (.iload_n 2, 1) := by decide +kernel
theorem dX8_setComparers_22 : decode cX8_setComparers 22 = .ok (.iload_n 1, 1) := by decide +kernel
theorem dX8_setComparers_23 : decode cX8_setComparers 23 = .ok (.if_icmp .ne 7, 3) := by decide +kernel
theorem dX8_setComparers_26 : decode cX8_setComparers 26 = .ok (.sipush (-1005), 3) := by decide +kernel
theorem dX8_setComparers_29 : decode cX8_setComparers 29 = .ok (.ireturn, 1) := by decide +kernel
theorem dX8_setComparers_30 : decode cX8_setComparers 30 = .ok (.aload_n 0, 1) := by decide +kernel
theorem dX8_setComparers_31 : decode cX8_setComparers 31 = .ok (.invokevirtual 109, 3) := by decide +kernel
theorem dX8_setComparers_34 : decode cX8_setComparers 34 = .ok (.aload_n 0, 1) := by decide +kernel
theorem dX8_setComparers_35 : decode cX8_setComparers 35 = .ok (.getfield 7, 3) := by decide +kernel
theorem dX8_setComparers_38 : decode cX8_setComparers 38 = .ok (.iload_n 1, 1) := by decide +kernel
theorem dX8_setComparers_39 : decode cX8_setComparers 39 = .ok (.invokestatic 128, 3) := by decide +kernel
theorem dX8_setComparers_42 : decode cX8_setComparers 42 = .ok (.iload_n 2, 1) := by decide +kernel
theorem dX8_setComparers_43 : decode cX8_setComparers 43 = .ok (.ireturn, 1) := by decide +kernel
theorem dX8_becomes_0 : decode cX8_becomes 0 = .ok (.aload_n 0, 1) := by decide +kernel
theorem dX8_becomes_1 : decode cX8_becomes 1 = .ok (.getfield 7, 3) := by decide +kernel
theorem dX8_becomes_4 : decode cX8_becomes 4 = .ok (.iload_n 1, 1) := by decide +kernel
theorem dX8_becomes_5 : decode cX8_becomes 5 = .ok (.iaload, 1) := by decide +kernel
theorem dX8_becomes_6 : decode cX8_becomes 6 = .ok (.istore_n 3, 1) := by decide +kernel
theorem dX8_becomes_7 : decode cX8_becomes 7 = .ok (.iload_n 3, 1) := by decide +kernel
theorem dX8_becomes_8 : decode cX8_becomes 8 = .ok (.iload_n 2, 1) := by decide +kernel
theorem dX8_becomes_9 : decode cX8_becomes 9 = .ok (.if_icmp .ne 7, 3) := by decide +kernel
theorem dX8_becomes_12 : decode cX8_becomes 12 = .ok (.sipush (-1005), 3) := by decide +kernel
theorem dX8_becomes_15 : decode cX8_becomes 15 = .ok (.ireturn, 1) := by decide +kernel
theorem dX8_becomes_16 : decode cX8_becomes 16 = .ok (.aload_n 0, 1) := by decide +kernel
theorem dX8_becomes_17 : decode cX8_becomes 17 = .ok (.invokevirtual 109, 3) := by decide +kernel
theorem dX8_becomes_20 : decode cX8_becomes 20 = .ok (.aload_n 0, 1) := by decide +kernel
theorem dX8_becomes_21 : decode cX8_becomes 21 = .ok (.getfield 7, 3) := by decide +kernel
theorem dX8_becomes_24 : decode cX8_becomes 24 = .ok (.iload_n 1, 1) := by decide +kernel
theorem dX8_becomes_25 : decode cX8_becomes 25 = .ok (.iload_n 2, 1) := by decide +kernel
theorem dX8_becomes_26 : decode cX8_becomes 26 = .ok (.iastore, 1) := by decide +kernel
theorem dX8_becomes_27 : decode cX8_becomes 27 = .ok (.iload_n 3, 1) := by decide +kernel
theorem dX8_becomes_28 : decode cX8_becomes 28 = .ok (.ireturn, 1) := by decide +kernel
theorem dX8_setWindow_0 : decode cX8_setWindow 0 = .ok (.iload_n 1, 1) := by decide +kernel
theorem dX8_setWindow_1 : decode cX8_setWindow 1 = .ok (.iconst 0, 1) := by decide +kernel
theorem dX8_setWindow_2 : decode cX8_setWindow 2 = .ok (.bipush 20, 2) := by decide +kernel
theorem dX8_setWindow_4 : decode cX8_setWindow 4 = .ok (.invokestatic 105, 3) := by decide +kernel
theorem dX8_setWindow_7 : decode cX8_setWindow 7 = .ok (.ifCond .ne 7, 3) := by decide +kernel
theorem dX8_setWindow_10 : decode cX8_setWindow 10 = .ok (.sipush (-1002), 3) := by decide +kernel
theorem dX8_setWindow_13 : decode cX8_setWindow 13 = .ok (.ireturn, 1) := by decide +kernel
theorem dX8_setWindow_14 : decode cX8_setWindow 14 = .ok (.aload_n 0, 1) := by decide +kernel
theorem dX8_setWindow_15 : decode cX8_setWindow 15 = .ok (.bipush 11, 2) := by decide +kernel
theorem dX8_setWindow_17 : decode cX8_setWindow 17 = .ok (.iload_n 1, 1) := by decide +kernel
theorem dX8_setWindow_18 : decode cX8_setWindow 18 = .ok (.invokevirtual 131, 3) := by decide +kernel
theorem dX8_setWindow_21 : decode cX8_setWindow 21 = .ok (.istore_n 2, 1) := by decide +kernel
theorem dX8_setWindow_22 : decode cX8_setWindow 22 = .ok (.iload_n 2, 1) := by decide +kernel
theorem dX8_setWindow_23 : decode cX8_setWindow 23 = .ok (.sipush (-1005), 3) := by decide +kernel
theorem dX8_setWindow_26 : decode cX8_setWindow 26 = .ok (.if_icmp .eq 10, 3) := by decide +kernel
theorem dX8_setWindow_29 : decode cX8_setWindow 29 = .ok (.aload_n 0, 1) := by decide +kernel
theorem dX8_setWindow_30 : decode cX8_setWindow 30 = .ok (.getfield 7, 3) := by decide +kernel
theorem dX8_setWindow_33 : decode cX8_setWindow 33 = .ok (.invokestatic 97, 3) := by decide +kernel
theorem dX8_setWindow_36 : decode cX8_setWindow 36 = .ok (.iload_n 2, 1) := by decide +kernel
theorem dX8_setWindow_37 : decode cX8_setWindow 37 = .ok (.ireturn, 1) := by decide +kernel
theorem dX8_setLoading_0 : decode cX8_setLoading 0 = .ok (.iload_n 1, 1) := by decide +kernel
theorem dX8_setLoading_1 : decode cX8_setLoading 1 = .ok (.iconst 0, 1) := by decide +kernel
theorem dX8_setLoading_2 : decode cX8_setLoading 2 = .ok (.bipush 9, 2) := by decide +kernel
theorem dX8_setLoading_4 : decode cX8_setLoading 4 = .ok (.invokestatic 105, 3) := by decide +kernel
theorem dX8_setLoading_7 : decode cX8_setLoading 7 = .ok (.ifCond .eq 13, 3) := by decide +kernel
theorem dX8_setLoading_10 : decode cX8_setLoading 10 = .ok (.aload_n 0, 1) := by decide +kernel
theorem dX8_setLoading_11 : decode cX8_setLoading 11 = .ok (.bipush 12, 2) := by decide +kernel
theorem dX8_setLoading_13 : decode cX8_setLoading 13 = .ok (.iload_n 1, 1) := by decide +kernel
theorem dX8_setLoading_14 : decode cX8_setLoading 14 = .ok (.invokevirtual 131, 3) := by decide +kernel
theorem dX8_setLoading_17 : decode cX8_setLoading 17 = .ok (.goto 6, 3) := by decide +kernel
theorem dX8_setLoading_20 : decode cX8_setLoading 20 = .ok (.sipush (-1002), 3) := by decide +kernel
theorem dX8_setLoading_23 : decode cX8_setLoading 23 = .ok (.ireturn, 1) := by decide +kernel
theorem dX8_setDrift_0 : decode cX8_setDrift 0 = .ok (.iload_n 1, 1) := by decide +kernel
theorem dX8_setDrift_1 : decode cX8_setDrift 1 = .ok (.ifCond .eq 26, 3) := by decide +kernel
theorem dX8_setDrift_4 : decode cX8_setDrift 4 = .ok (.iload_n 1, 1) := by decide +kernel
theorem dX8_setDrift_5 : decode cX8_setDrift 5 = .ok (.iconst 2, 1) := by decide +kernel
theorem dX8_setDrift_6 : decode cX8_setDrift 6 = .ok (.sipush 999, 3) := by decide +kernel
theorem dX8_setDrift_9 : decode cX8_setDrift 9 = .ok (.invokestatic 105, 3) := by decide +kernel
theorem dX8_setDrift_12 : decode cX8_setDrift 12 = .ok (.ifCond .ne 15, 3) := by decide +kernel
theorem dX8_setDrift_15 : decode cX8_setDrift 15 = .ok (.iload_n 1, 1) := by decide +kernel
theorem dX8_setDrift_16 : decode cX8_setDrift 16 = .ok (.sipush (-999), 3) := by decide +kernel
theorem dX8_setDrift_19 : decode cX8_setDrift 19 = .ok (.bipush (-2), 2) := by decide +kernel
theorem dX8_setDrift_21 : decode cX8_setDrift 21 = .ok (.invokestatic 105, 3) := by decide +kernel
theorem dX8_setDrift_24 : decode cX8_setDrift 24 = .ok (.ifCond .eq 7, 3) := by decide +kernel
theorem dX8_setDrift_27 : decode cX8_setDrift 27 = .ok (.iconst 1, 1) := by decide +kernel
theorem dX8_setDrift_28 : decode cX8_setDrift 28 = .ok (.goto 4, 3) := by decide +kernel
theorem dX8_setDrift_31 : decode cX8_setDrift 31 = .ok (.iconst 0, 1) := by decide +kernel
theorem dX8_setDrift_32 : decode cX8_setDrift 32 = .ok (.istore_n 2, 1) := by decide +kernel
theorem dX8_setDrift_33 : decode cX8_setDrift 33 = .ok (.iload_n 2, 1) := by decide +kernel
theorem dX8_setDrift_34 : decode cX8_setDrift 34 = .ok (.ifCond .eq 13, 3) := by decide +kernel
theorem dX8_setDrift_37 : decode cX8_setDrift 37 = .ok (.aload_n 0, 1) := by decide +kernel
theorem dX8_setDrift_38 : decode cX8_setDrift 38 = .ok (.bipush 13, 2) := by decide +kernel
theorem dX8_setDrift_40 : decode cX8_setDrift 40 = .ok (.iload_n 1, 1) := by decide +kernel
theorem dX8_setDrift_41 : decode cX8_setDrift 41 = .ok (.invokevirtual 131, 3) := by decide +kernel
theorem dX8_setDrift_44 : decode cX8_setDrift 44 = .ok (.goto 6, 3) := by decide +kernel
theorem dX8_setDrift_47 : decode cX8_setDrift 47 = .ok (.sipush (-1002), 3) := by decide +kernel
theorem dX8_setDrift_50 : decode cX8_setDrift 50 = .ok (.ireturn, 1) := by decide +kernel
theorem dX8_correct_0 : decode cX8_correct 0 = .ok (.iload_n 1, 1) := by decide +kernel
theorem dX8_correct_1 : decode cX8_correct 1 = .ok (.sipush (-999), 3) := by decide +kernel
theorem dX8_correct_4 : decode cX8_correct 4 = .ok (.sipush 999, 3) := by decide +kernel
theorem dX8_correct_7 : decode cX8_correct 7 = .ok (.invokestatic 105, 3) := by decide +kernel
theorem dX8_correct_10 : decode cX8_correct 10 = .ok (.ifCond .ne 7, 3) := by decide +kernel
theorem dX8_correct_13 : decode cX8_correct 13 = .ok (.sipush (-1002), 3) := by decide +kernel
theorem dX8_correct_16 : decode cX8_correct 16 = .ok (.ireturn, 1) := by decide +kernel
theorem dX8_correct_17 : decode cX8_correct 17 = .ok (.aload_n 0, 1) := by decide +kernel
theorem dX8_correct_18 : decode cX8_correct 18 = .ok (.getfield 7, 3) := by decide +kernel
theorem dX8_correct_21 : decode cX8_correct 21 = .ok (.iconst 0, 1) := by decide +kernel
theorem dX8_correct_22 : decode cX8_correct 22 = .ok (.iaload, 1) := by decide +kernel
theorem dX8_correct_23 : decode cX8_correct 23 = .ok (.iload_n 1, 1) := by decide +kernel
theorem dX8_correct_24 : decode cX8_correct 24 = .ok (.iadd, 1) := by decide +kernel
theorem dX8_correct_25 : decode cX8_correct 25 = .ok (.iconst 0, 1) := by decide +kernel
theorem dX8_correct_26 : decode cX8_correct 26 = .ok (.ldc 104, 2) := by decide +kernel
theorem dX8_correct_28 : decode cX8_correct 28 = .ok (.invokestatic 105, 3) := by decide +kernel
theorem dX8_correct_31 : decode cX8_correct 31 = .ok (.ifCond .ne 7, 3) := by decide +kernel
theorem dX8_correct_34 : decode cX8_correct 34 = .ok (.sipush (-1004), 3) := by decide +kernel
theorem dX8_correct_37 : decode cX8_correct 37 = .ok (.ireturn, 1) := by decide +kernel
theorem dX8_correct_38 : decode cX8_correct 38 = .ok (.iload_n 1, 1) := by decide +kernel
theorem dX8_correct_39 : decode cX8_correct 39 = .ok (.ifCond .ne 7, 3) := by decide +kernel
theorem dX8_correct_42 : decode cX8_correct 42 = .ok (.sipush (-1005), 3) := by decide +kernel
theorem dX8_correct_45 : decode cX8_correct 45 = .ok (.ireturn, 1) := by decide +kernel
theorem dX8_correct_46 : decode cX8_correct 46 = .ok (.aload_n 0, 1) := by decide +kernel
theorem dX8_correct_47 : decode cX8_correct 47 = .ok (.invokevirtual 109, 3) := by decide +kernel
theorem dX8_correct_50 : decode cX8_correct 50 = .ok (.aload_n 0, 1) := by decide +kernel
theorem dX8_correct_51 : decode cX8_correct 51 = .ok (.getfield 7, 3) := by decide +kernel
theorem dX8_correct_54 : decode cX8_correct 54 = .ok (.iconst 0, 1) := by decide +kernel
theorem dX8_correct_55 : decode cX8_correct 55 = .ok (.dup2, 1) := by decide +kernel
theorem dX8_correct_56 : decode cX8_correct 56 = .ok (.iaload, 1) := by decide +kernel
theorem dX8_correct_57 : decode cX8_correct 57 = .ok (.iload_n 1, 1) := by decide +kernel
theorem dX8_correct_58 : decode cX8_correct 58 = .ok (.iadd, 1) := by decide +kernel
theorem dX8_correct_59 : decode cX8_correct 59 = .ok (.iastore, 1) := by decide +kernel
theorem dX8_correct_60 : decode cX8_correct 60 = .ok (.aload_n 0, 1) := by decide +kernel
theorem dX8_correct_61 : decode cX8_correct 61 = .ok (.getfield 7, 3) := by decide +kernel
theorem dX8_correct_64 : decode cX8_correct 64 = .ok (.invokestatic 97, 3) := by decide +kernel
theorem dX8_correct_67 : decode cX8_correct 67 = .ok (.aload_n 0, 1) := by decide +kernel
theorem dX8_correct_68 : decode cX8_correct 68 = .ok (.getfield 7, 3) := by decide +kernel
theorem dX8_correct_71 : decode cX8_correct 71 = .ok (.iconst 0, 1) := by decide +kernel
theorem dX8_correct_72 : decode cX8_correct 72 = .ok (.iaload, 1) := by decide +kernel
theorem dX8_correct_73 : decode cX8_correct 73 = .ok (.ireturn, 1) := by decide +kernel
theorem dX8_run_0 : decode cX8_run 0 = .ok (.iload_n 1, 1) := by decide +kernel
theorem dX8_run_1 : decode cX8_run 1 = .ok (.iconst 1, 1) := by decide +kernel
theorem dX8_run_2 : decode cX8_run 2 = .ok (.sipush 1000, 3) := by decide +kernel
theorem dX8_run_5 : decode cX8_run 5 = .ok (.invokestatic 105, 3) := by decide +kernel
theorem dX8_run_8 : decode cX8_run 8 = .ok (.ifCond .ne 7, 3) := by decide +kernel
theorem dX8_run_11 : decode cX8_run 11 = .ok (.sipush (-1002), 3) := by decide +kernel
theorem dX8_run_14 : decode cX8_run 14 = .ok (.ireturn, 1) := by decide +kernel
theorem dX8_run_15 : decode cX8_run 15 = .ok (.aload_n 0, 1) := by decide +kernel
theorem dX8_run_16 : decode cX8_run 16 = .ok (.getfield 7, 3) := by decide +kernel
theorem dX8_run_19 : decode cX8_run 19 = .ok (.iconst 0, 1) := by decide +kernel
theorem dX8_run_20 : decode cX8_run 20 = .ok (.iaload, 1) := by decide +kernel
theorem dX8_run_21 : decode cX8_run 21 = .ok (.iconst 2, 1) := by decide +kernel
theorem dX8_run_22 : decode cX8_run 22 = .ok (.iload_n 1, 1) := by decide +kernel
theorem dX8_run_23 : decode cX8_run 23 = .ok (.imul, 1) := by decide +kernel
theorem dX8_run_24 : decode cX8_run 24 = .ok (.iadd, 1) := by decide +kernel
theorem dX8_run_25 : decode cX8_run 25 = .ok (.ldc 104, 2) := by decide +kernel
theorem dX8_run_27 : decode cX8_run 27 = .ok (.if_icmp .le 7, 3) := by decide +kernel
theorem dX8_run_30 : decode cX8_run 30 = .ok (.sipush (-1003), 3) := by decide +kernel
theorem dX8_run_33 : decode cX8_run 33 = .ok (.ireturn, 1) := by decide +kernel
theorem dX8_run_34 : decode cX8_run 34 = .ok (.aload_n 0, 1) := by decide +kernel
theorem dX8_run_35 : decode cX8_run 35 = .ok (.invokevirtual 109, 3) := by decide +kernel
theorem dX8_run_38 : decode cX8_run 38 = .ok (.aload_n 0, 1) := by decide +kernel
theorem dX8_run_39 : decode cX8_run 39 = .ok (.getfield 7, 3) := by decide +kernel
theorem dX8_run_42 : decode cX8_run 42 = .ok (.iload_n 1, 1) := by decide +kernel
theorem dX8_run_43 : decode cX8_run 43 = .ok (.invokestatic 135, 3) := by decide +kernel
theorem dX8_run_46 : decode cX8_run 46 = .ok (.ireturn, 1) := by decide +kernel
theorem dX8_type_0 : decode cX8_type 0 = .ok (.aload_n 0, 1) := by decide +kernel
theorem dX8_type_1 : decode cX8_type 1 = .ok (.getfield 138, 3) := by decide +kernel
theorem dX8_type_4 : decode cX8_type 4 = .ok (.bipush 60, 2) := by decide +kernel
theorem dX8_type_6 : decode cX8_type 6 = .ok (.if_icmp .ne 7, 3) := by decide +kernel
theorem dX8_type_9 : decode cX8_type 9 = .ok (.sipush (-1003), 3) := by decide +kernel
theorem dX8_type_12 : decode cX8_type 12 = .ok (.ireturn, 1) := by decide +kernel
theorem dX8_type_13 : decode cX8_type 13 = .ok (.aload_n 0, 1) := by decide +kernel
theorem dX8_type_14 : decode cX8_type 14 = .ok (.getfield 22, 3) := by decide +kernel
theorem dX8_type_17 : decode cX8_type 17 = .ok (.aload_n 0, 1) := by decide +kernel
theorem dX8_type_18 : decode cX8_type 18 = .ok (.getfield 138, 3) := by decide +kernel
theorem dX8_type_21 : decode cX8_type 21 = .ok (.iload_n 1, 1) := by decide +kernel
theorem dX8_type_22 : decode cX8_type 22 = .ok (.castore, 1) := by decide +kernel
theorem dX8_type_23 : decode cX8_type 23 = .ok (.aload_n 0, 1) := by decide +kernel
theorem dX8_type_24 : decode cX8_type 24 = .ok (.dup, 1) := by decide +kernel
theorem dX8_type_25 : decode cX8_type 25 = .ok (.getfield 138, 3) := by decide +kernel
theorem dX8_type_28 : decode cX8_type 28 = .ok (.iconst 1, 1) := by decide +kernel
theorem dX8_type_29 : decode cX8_type 29 = .ok (.iadd, 1) := by decide +kernel
theorem dX8_type_30 : decode cX8_type 30 = .ok (.putfield 138, 3) := by decide +kernel
theorem dX8_type_33 : decode cX8_type 33 = .ok (.aload_n 0, 1) := by decide +kernel
theorem dX8_type_34 : decode cX8_type 34 = .ok (.getfield 138, 3) := by decide +kernel
theorem dX8_type_37 : decode cX8_type 37 = .ok (.ireturn, 1) := by decide +kernel
theorem dX8_clearText_0 : decode cX8_clearText 0 = .ok (.aload_n 0, 1) := by decide +kernel
theorem dX8_clearText_1 : decode cX8_clearText 1 = .ok (.getfield 138, 3) := by decide +kernel
theorem dX8_clearText_4 : decode cX8_clearText 4 = .ok (.istore_n 1, 1) := by decide +kernel
theorem dX8_clearText_5 : decode cX8_clearText 5 = .ok (.aload_n 0, 1) := by decide +kernel
theorem dX8_clearText_6 : decode cX8_clearText 6 = .ok (.iconst 0, 1) := by decide +kernel
theorem dX8_clearText_7 : decode cX8_clearText 7 = .ok (.putfield 138, 3) := by decide +kernel
theorem dX8_clearText_10 : decode cX8_clearText 10 = .ok (.iload_n 1, 1) := by decide +kernel
theorem dX8_clearText_11 : decode cX8_clearText 11 = .ok (.ireturn, 1) := by decide +kernel
theorem dX8_sees_0 : decode cX8_sees 0 = .ok (.aload_n 0, 1) := by decide +kernel
theorem dX8_sees_1 : decode cX8_sees 1 = .ok (.getfield 141, 3) := by decide +kernel
theorem dX8_sees_4 : decode cX8_sees 4 = .ok (.aload_n 0, 1) := by decide +kernel
theorem dX8_sees_5 : decode cX8_sees 5 = .ok (.getfield 138, 3) := by decide +kernel
theorem dX8_sees_8 : decode cX8_sees 8 = .ok (.if_icmp .ge 24, 3) := by decide +kernel
theorem dX8_sees_11 : decode cX8_sees 11 = .ok (.aload_n 0, 1) := by decide +kernel
theorem dX8_sees_12 : decode cX8_sees 12 = .ok (.getfield 22, 3) := by decide +kernel
theorem dX8_sees_15 : decode cX8_sees 15 = .ok (.aload_n 0, 1) := by decide +kernel
theorem dX8_sees_16 : decode cX8_sees 16 = .ok (.getfield 141, 3) := by decide +kernel
theorem dX8_sees_19 : decode cX8_sees 19 = .ok (.caload, 1) := by decide +kernel
theorem dX8_sees_20 : decode cX8_sees 20 = .ok (.iload_n 1, 1) := by decide +kernel
theorem dX8_sees_21 : decode cX8_sees 21 = .ok (.iload_n 2, 1) := by decide +kernel
theorem dX8_sees_22 : decode cX8_sees 22 = .ok (.invokestatic 105, 3) := by decide +kernel
theorem dX8_sees_25 : decode cX8_sees 25 = .ok (.ifCond .eq 7, 3) := by decide +kernel
theorem dX8_sees_28 : decode cX8_sees 28 = .ok (.iconst 1, 1) := by decide +kernel
theorem dX8_sees_29 : decode cX8_sees 29 = .ok (.goto 4, 3) := by decide +kernel
theorem dX8_sees_32 : decode cX8_sees 32 = .ok (.iconst 0, 1) := by decide +kernel
theorem dX8_sees_33 : decode cX8_sees 33 = .ok (.ireturn, 1) := by decide +kernel
theorem dX8_takes_0 : decode cX8_takes 0 = .ok (.aload_n 0, 1) := by decide +kernel
theorem dX8_takes_1 : decode cX8_takes 1 = .ok (.iload_n 1, 1) := by decide +kernel
theorem dX8_takes_2 : decode cX8_takes 2 = .ok (.iload_n 1, 1) := by decide +kernel
theorem dX8_takes_3 : decode cX8_takes 3 = .ok (.invokevirtual 144, 3) := by decide +kernel
theorem dX8_takes_6 : decode cX8_takes 6 = .ok (.istore_n 2, 1) := by decide +kernel
theorem dX8_takes_7 : decode cX8_takes 7 = .ok (.aload_n 0, 1) := by decide +kernel
theorem dX8_takes_8 : decode cX8_takes 8 = .ok (.dup, 1) := by decide +kernel
theorem dX8_takes_9 : decode cX8_takes 9 = .ok (.getfield 141, 3) := by decide +kernel
theorem dX8_takes_12 : decode cX8_takes 12 = .ok (.iload_n 2, 1) := by decide +kernel
theorem dX8_takes_13 : decode cX8_takes 13 = .ok (.ifCond .eq 7, 3) := by decide +kernel
theorem dX8_takes_16 : decode cX8_takes 16 = .ok (.iconst 1, 1) := by decide +kernel
theorem dX8_takes_17 : decode cX8_takes 17 = .ok (.goto 4, 3) := by decide +kernel
theorem dX8_takes_20 : decode cX8_takes 20 = .ok (.iconst 0, 1) := by decide +kernel
theorem dX8_takes_21 : decode cX8_takes 21 = .ok (.iadd, 1) := by decide +kernel
theorem dX8_takes_22 : decode cX8_takes 22 = .ok (.putfield 141, 3) := by decide +kernel
theorem dX8_takes_25 : decode cX8_takes 25 = .ok (.iload_n 2, 1) := by decide +kernel
theorem dX8_takes_26 : decode cX8_takes 26 = .ok (.ireturn, 1) := by decide +kernel
theorem dX8_isNumber_0 : decode cX8_isNumber 0 = .ok (.aload_n 0, 1) := by decide +kernel
theorem dX8_isNumber_1 : decode cX8_isNumber 1 = .ok (.bipush 48, 2) := by decide +kernel
theorem dX8_isNumber_3 : decode cX8_isNumber 3 = .ok (.iload_n 2, 1) := by decide +kernel
theorem dX8_isNumber_4 : decode cX8_isNumber 4 = .ok (.iadd, 1) := by decide +kernel
theorem dX8_isNumber_5 : decode cX8_isNumber 5 = .ok (.bipush 48, 2) := by decide +kernel
theorem dX8_isNumber_7 : decode cX8_isNumber 7 = .ok (.iload_n 3, 1) := by decide +kernel
theorem dX8_isNumber_8 : decode cX8_isNumber 8 = .ok (.bipush 9, 2) := by decide +kernel
theorem dX8_isNumber_10 : decode cX8_isNumber 10 = .ok (.if_icmp .ge 7, 3) := by decide +kernel
theorem dX8_isNumber_13 : decode cX8_isNumber 13 = .ok (.iload_n 3, 1) := by decide +kernel
theorem dX8_isNumber_14 : decode cX8_isNumber 14 = .ok (.goto 5, 3) := by decide +kernel
theorem dX8_isNumber_17 : decode cX8_isNumber 17 = .ok (.bipush 9, 2) := by decide +kernel
theorem dX8_isNumber_19 : decode cX8_isNumber 19 = .ok (.iadd, 1) := by decide +kernel
theorem dX8_isNumber_20 : decode cX8_isNumber 20 = .ok (.invokevirtual 144, 3) := by decide +kernel
theorem dX8_isNumber_23 : decode cX8_isNumber 23 = .ok (.ifCond .ne 5, 3) := by decide +kernel
theorem dX8_isNumber_26 : decode cX8_isNumber 26 = .ok (.iconst 0, 1) := by decide +kernel
theorem dX8_isNumber_27 : decode cX8_isNumber 27 = .ok (.ireturn, 1) := by decide +kernel
theorem dX8_isNumber_28 : decode cX8_isNumber 28 = .ok (.aload_n 0, 1) := by decide +kernel
theorem dX8_isNumber_29 : decode cX8_isNumber 29 = .ok (.getfield 22, 3) := by decide +kernel
theorem dX8_isNumber_32 : decode cX8_isNumber 32 = .ok (.aload_n 0, 1) := by decide +kernel
theorem dX8_isNumber_33 : decode cX8_isNumber 33 = .ok (.getfield 141, 3) := by decide +kernel
theorem dX8_isNumber_36 : decode cX8_isNumber 36 = .ok (.caload, 1) := by decide +kernel
theorem dX8_isNumber_37 : decode cX8_isNumber 37 = .ok (.bipush 48, 2) := by decide +kernel
theorem dX8_isNumber_39 : decode cX8_isNumber 39 = .ok (.isub, 1) := by decide +kernel
theorem dX8_isNumber_40 : decode cX8_isNumber 40 = .ok (.istore 4, 2) := by decide +kernel
theorem dX8_isNumber_42 : decode cX8_isNumber 42 = .ok (.aload_n 0, 1) := by decide +kernel
theorem dX8_isNumber_43 : decode cX8_isNumber 43 = .ok (.dup, 1) := by decide +kernel
theorem dX8_isNumber_44 : decode cX8_isNumber 44 = .ok (.getfield 141, 3) := by decide +kernel
theorem dX8_isNumber_47 : decode cX8_isNumber 47 = .ok (.iconst 1, 1) := by decide +kernel
theorem dX8_isNumber_48 : decode cX8_isNumber 48 = .ok (.iadd, 1) := by decide +kernel
theorem dX8_isNumber_49 : decode cX8_isNumber 49 = .ok (.putfield 141, 3) := by decide +kernel
theorem dX8_isNumber_52 : decode cX8_isNumber 52 = .ok (.iload 4, 2) := by decide +kernel
theorem dX8_isNumber_54 : decode cX8_isNumber 54 = .ok (.ifCond .le 69, 3) := by decide +kernel
theorem dX8_isNumber_57 : decode cX8_isNumber 57 = .ok (.aload_n 0, 1) := by decide +kernel
theorem dX8_isNumber_58 : decode cX8_isNumber 58 = .ok (.bipush 48, 2) := by decide +kernel
theorem dX8_isNumber_60 : decode cX8_isNumber 60 = .ok (.bipush 57, 2) := by decide +kernel
theorem dX8_isNumber_62 : decode cX8_isNumber 62 = .ok (.invokevirtual 144, 3) := by decide +kernel
theorem dX8_isNumber_65 : decode cX8_isNumber 65 = .ok (.ifCond .eq 58, 3) := by decide +kernel
theorem dX8_isNumber_68 : decode cX8_isNumber 68 = .ok (.bipush 10, 2) := by decide +kernel
theorem dX8_isNumber_70 : decode cX8_isNumber 70 = .ok (.iload 4, 2) := by decide +kernel
theorem dX8_isNumber_72 : decode cX8_isNumber 72 = .ok (.imul, 1) := by decide +kernel
theorem dX8_isNumber_73 : decode cX8_isNumber 73 = .ok (.aload_n 0, 1) := by decide +kernel
theorem dX8_isNumber_74 : decode cX8_isNumber 74 = .ok (.getfield 22, 3) := by decide +kernel
theorem dX8_isNumber_77 : decode cX8_isNumber 77 = .ok (.aload_n 0, 1) := by decide +kernel
theorem dX8_isNumber_78 : decode cX8_isNumber 78 = .ok (.getfield 141, 3) := by decide +kernel
theorem dX8_isNumber_81 : decode cX8_isNumber 81 = .ok (.caload, 1) := by decide +kernel
theorem dX8_isNumber_82 : decode cX8_isNumber 82 = .ok (.iadd, 1) := by decide +kernel
theorem dX8_isNumber_83 : decode cX8_isNumber 83 = .ok (.bipush 48, 2) := by decide +kernel
theorem dX8_isNumber_85 : decode cX8_isNumber 85 = .ok (.isub, 1) := by decide +kernel
theorem dX8_isNumber_86 : decode cX8_isNumber 86 = .ok (.iload_n 3, 1) := by decide +kernel
theorem dX8_isNumber_87 : decode cX8_isNumber 87 = .ok (.if_icmp .gt 36, 3) := by decide +kernel
theorem dX8_isNumber_90 : decode cX8_isNumber 90 = .ok (.bipush 10, 2) := by decide +kernel
theorem dX8_isNumber_92 : decode cX8_isNumber 92 = .ok (.iload 4, 2) := by decide +kernel
theorem dX8_isNumber_94 : decode cX8_isNumber 94 = .ok (.imul, 1) := by decide +kernel
theorem dX8_isNumber_95 : decode cX8_isNumber 95 = .ok (.aload_n 0, 1) := by decide +kernel
theorem dX8_isNumber_96 : decode cX8_isNumber 96 = .ok (.getfield 22, 3) := by decide +kernel
theorem dX8_isNumber_99 : decode cX8_isNumber 99 = .ok (.aload_n 0, 1) := by decide +kernel
theorem dX8_isNumber_100 : decode cX8_isNumber 100 = .ok (.getfield 141, 3) := by decide +kernel
theorem dX8_isNumber_103 : decode cX8_isNumber 103 = .ok (.caload, 1) := by decide +kernel
theorem dX8_isNumber_104 : decode cX8_isNumber 104 = .ok (.iadd, 1) := by decide +kernel
theorem dX8_isNumber_105 : decode cX8_isNumber 105 = .ok (.bipush 48, 2) := by decide +kernel
theorem dX8_isNumber_107 : decode cX8_isNumber 107 = .ok (.isub, 1) := by decide +kernel
theorem dX8_isNumber_108 : decode cX8_isNumber 108 = .ok (.istore 4, 2) := by decide +kernel
theorem dX8_isNumber_110 : decode cX8_isNumber 110 = .ok (.aload_n 0, 1) := by decide +kernel
theorem dX8_isNumber_111 : decode cX8_isNumber 111 = .ok (.dup, 1) := by decide +kernel
theorem dX8_isNumber_112 : decode cX8_isNumber 112 = .ok (.getfield 141, 3) := by decide +kernel
theorem dX8_isNumber_115 : decode cX8_isNumber 115 = .ok (.iconst 1, 1) := by decide +kernel
theorem dX8_isNumber_116 : decode cX8_isNumber 116 = .ok (.iadd, 1) := by decide +kernel
theorem dX8_isNumber_117 : decode cX8_isNumber 117 = .ok (.putfield 141, 3) := by decide +kernel
theorem dX8_isNumber_120 : decode cX8_isNumber 120 = .ok (.goto (-68), 3) := by decide +kernel
theorem dX8_isNumber_123 : decode cX8_isNumber 123 = .ok (.aload_n 0, 1) := by decide +kernel
theorem dX8_isNumber_124 : decode cX8_isNumber 124 = .ok (.getfield 26, 3) := by decide +kernel
theorem dX8_isNumber_127 : decode cX8_isNumber 127 = .ok (.iconst 3, 1) := by decide +kernel
theorem dX8_isNumber_128 : decode cX8_isNumber 128 = .ok (.aload_n 0, 1) := by decide +kernel
theorem dX8_isNumber_129 : decode cX8_isNumber 129 = .ok (.getfield 119, 3) := by decide +kernel
theorem dX8_isNumber_132 : decode cX8_isNumber 132 = .ok (.imul, 1) := by decide +kernel
theorem dX8_isNumber_133 : decode cX8_isNumber 133 = .ok (.iload_n 1, 1) := by decide +kernel
theorem dX8_isNumber_134 : decode cX8_isNumber 134 = .ok (.iadd, 1) := by decide +kernel
theorem dX8_isNumber_135 : decode cX8_isNumber 135 = .ok (.iload 4, 2) := by decide +kernel
theorem dX8_isNumber_137 : decode cX8_isNumber 137 = .ok (.iastore, 1) := by decide +kernel
theorem dX8_isNumber_138 : decode cX8_isNumber 138 = .ok (.iconst 1, 1) := by decide +kernel
theorem dX8_isNumber_139 : decode cX8_isNumber 139 = .ok (.ireturn, 1) := by decide +kernel
theorem dX8_isAlarmTold_0 : decode cX8_isAlarmTold 0 = .ok (.aload_n 0, 1) := by decide +kernel
theorem dX8_isAlarmTold_1 : decode cX8_isAlarmTold 1 = .ok (.getfield 26, 3) := by decide +kernel
theorem dX8_isAlarmTold_4 : decode cX8_isAlarmTold 4 = .ok (.iconst 3, 1) := by decide +kernel
theorem dX8_isAlarmTold_5 : decode cX8_isAlarmTold 5 = .ok (.aload_n 0, 1) := by decide +kernel
theorem dX8_isAlarmTold_6 : decode cX8_isAlarmTold 6 = .ok (.getfield 119, 3) := by decide +kernel
theorem dX8_isAlarmTold_9 : decode cX8_isAlarmTold 9 = .ok (.imul, 1) := by decide +kernel
theorem dX8_isAlarmTold_10 : decode cX8_isAlarmTold 10 = .ok (.iconst 1, 1) := by decide +kernel
theorem dX8_isAlarmTold_11 : decode cX8_isAlarmTold 11 = .ok (.iadd, 1) := by decide +kernel
theorem dX8_isAlarmTold_12 : decode cX8_isAlarmTold 12 = .ok (.iconst 0, 1) := by decide +kernel
theorem dX8_isAlarmTold_13 : decode cX8_isAlarmTold 13 = .ok (.iastore, 1) := by decide +kernel
theorem dX8_isAlarmTold_14 : decode cX8_isAlarmTold 14 = .ok (.aload_n 0, 1) := by decide +kernel
theorem dX8_isAlarmTold_15 : decode cX8_isAlarmTold 15 = .ok (.getfield 26, 3) := by decide +kernel
theorem dX8_isAlarmTold_18 : decode cX8_isAlarmTold 18 = .ok (.iconst 3, 1) := by decide +kernel
theorem dX8_isAlarmTold_19 : decode cX8_isAlarmTold 19 = .ok (.aload_n 0, 1) := by decide +kernel
theorem dX8_isAlarmTold_20 : decode cX8_isAlarmTold 20 = .ok (.getfield 119, 3) := by decide +kernel
theorem dX8_isAlarmTold_23 : decode cX8_isAlarmTold 23 = .ok (.imul, 1) := by decide +kernel
theorem dX8_isAlarmTold_24 : decode cX8_isAlarmTold 24 = .ok (.iconst 2, 1) := by decide +kernel
theorem dX8_isAlarmTold_25 : decode cX8_isAlarmTold 25 = .ok (.iadd, 1) := by decide +kernel
theorem dX8_isAlarmTold_26 : decode cX8_isAlarmTold 26 = .ok (.iconst 0, 1) := by decide +kernel
theorem dX8_isAlarmTold_27 : decode cX8_isAlarmTold 27 = .ok (.iastore, 1) := by decide +kernel
theorem dX8_isAlarmTold_28 : decode cX8_isAlarmTold 28 = .ok (.aload_n 0, 1) := by decide +kernel
theorem dX8_isAlarmTold_29 : decode cX8_isAlarmTold 29 = .ok (.iconst 0, 1) := by decide +kernel
theorem dX8_isAlarmTold_30 : decode cX8_isAlarmTold 30 = .ok (.iconst 0, 1) := by decide +kernel
theorem dX8_isAlarmTold_31 : decode cX8_isAlarmTold 31 = .ok (.ldc 104, 2) := by decide +kernel
theorem dX8_isAlarmTold_33 : decode cX8_isAlarmTold 33 = .ok (.invokevirtual 148, 3) := by decide +kernel
theorem dX8_isAlarmTold_36 : decode cX8_isAlarmTold 36 = .ok (.ifCond .eq 24, 3) := by decide +kernel
theorem dX8_isAlarmTold_39 : decode cX8_isAlarmTold 39 = .ok (.aload_n 0, 1) := by decide +kernel
theorem dX8_isAlarmTold_40 : decode cX8_isAlarmTold 40 = .ok (.bipush 47, 2) := by decide +kernel
theorem dX8_isAlarmTold_42 : decode cX8_isAlarmTold 42 = .ok (.invokevirtual 151, 3) := by decide +kernel
theorem dX8_isAlarmTold_45 : decode cX8_isAlarmTold 45 = .ok (.ifCond .eq 17, 3) := by decide +kernel
theorem dX8_isAlarmTold_48 : decode cX8_isAlarmTold 48 = .ok (.aload_n 0, 1) := by decide +kernel
theorem dX8_isAlarmTold_49 : decode cX8_isAlarmTold 49 = .ok (.iconst 1, 1) := by decide +kernel
theorem dX8_isAlarmTold_50 : decode cX8_isAlarmTold 50 = .ok (.iconst 1, 1) := by decide +kernel
theorem dX8_isAlarmTold_51 : decode cX8_isAlarmTold 51 = .ok (.sipush 9999, 3) := by decide +kernel
theorem dX8_isAlarmTold_54 : decode cX8_isAlarmTold 54 = .ok (.invokevirtual 148, 3) := by decide +kernel
theorem dX8_isAlarmTold_57 : decode cX8_isAlarmTold 57 = .ok (.ifCond .ne 5, 3) := by decide +kernel
theorem dX8_isAlarmTold_60 : decode cX8_isAlarmTold 60 = .ok (.iconst 0, 1) := by decide +kernel
theorem dX8_isAlarmTold_61 : decode cX8_isAlarmTold 61 = .ok (.ireturn, 1) := by decide +kernel
theorem dX8_isAlarmTold_62 : decode cX8_isAlarmTold 62 = .ok (.aload_n 0, 1) := by decide +kernel
theorem dX8_isAlarmTold_63 : decode cX8_isAlarmTold 63 = .ok (.bipush 33, 2) := by decide +kernel
theorem dX8_isAlarmTold_65 : decode cX8_isAlarmTold 65 = .ok (.invokevirtual 151, 3) := by decide +kernel
theorem dX8_isAlarmTold_68 : decode cX8_isAlarmTold 68 = .ok (.ifCond .eq 13, 3) := by decide +kernel
theorem dX8_isAlarmTold_71 : decode cX8_isAlarmTold 71 = .ok (.aload_n 0, 1) := by decide +kernel
theorem dX8_isAlarmTold_72 : decode cX8_isAlarmTold 72 = .ok (.iconst 2, 1) := by decide +kernel
theorem dX8_isAlarmTold_73 : decode cX8_isAlarmTold 73 = .ok (.iconst 1, 1) := by decide +kernel
theorem dX8_isAlarmTold_74 : decode cX8_isAlarmTold 74 = .ok (.iconst 3, 1) := by decide +kernel
theorem dX8_isAlarmTold_75 : decode cX8_isAlarmTold 75 = .ok (.invokevirtual 148, 3) := by decide +kernel
theorem dX8_isAlarmTold_78 : decode cX8_isAlarmTold 78 = .ok (.ifCond .eq 7, 3) := by decide +kernel
theorem dX8_isAlarmTold_81 : decode cX8_isAlarmTold 81 = .ok (.iconst 1, 1) := by decide +kernel
theorem dX8_isAlarmTold_82 : decode cX8_isAlarmTold 82 = .ok (.goto 4, 3) := by decide +kernel
theorem dX8_isAlarmTold_85 : decode cX8_isAlarmTold 85 = .ok (.iconst 0, 1) := by decide +kernel
theorem dX8_isAlarmTold_86 : decode cX8_isAlarmTold 86 = .ok (.ireturn, 1) := by decide +kernel
theorem dX8_fault_0 : decode cX8_fault 0 = .ok (.aload_n 0, 1) := by decide +kernel
theorem dX8_fault_1 : decode cX8_fault 1 = .ok (.iconst 0, 1) := by decide +kernel
theorem dX8_fault_2 : decode cX8_fault 2 = .ok (.putfield 141, 3) := by decide +kernel
theorem dX8_fault_5 : decode cX8_fault 5 = .ok (.aload_n 0, 1) := by decide +kernel
theorem dX8_fault_6 : decode cX8_fault 6 = .ok (.iconst 0, 1) := by decide +kernel
theorem dX8_fault_7 : decode cX8_fault 7 = .ok (.putfield 119, 3) := by decide +kernel
theorem dX8_fault_10 : decode cX8_fault 10 = .ok (.iconst 1, 1) := by decide +kernel
theorem dX8_fault_11 : decode cX8_fault 11 = .ok (.istore_n 1, 1) := by decide +kernel
theorem dX8_fault_12 : decode cX8_fault 12 = .ok (.iload_n 1, 1) := by decide +kernel
theorem dX8_fault_13 : decode cX8_fault 13 = .ok (.ifCond .eq 35, 3) := by decide +kernel
theorem dX8_fault_16 : decode cX8_fault 16 = .ok (.aload_n 0, 1) := by decide +kernel
theorem dX8_fault_17 : decode cX8_fault 17 = .ok (.invokevirtual 155, 3) := by decide +kernel
theorem dX8_fault_20 : decode cX8_fault 20 = .ok (.ifCond .ne 8, 3) := by decide +kernel
theorem dX8_fault_23 : decode cX8_fault 23 = .ok (.aload_n 0, 1) := by decide +kernel
theorem dX8_fault_24 : decode cX8_fault 24 = .ok (.getfield 141, 3) := by decide +kernel
theorem dX8_fault_27 : decode cX8_fault 27 = .ok (.ireturn, 1) := by decide +kernel
theorem dX8_fault_28 : decode cX8_fault 28 = .ok (.aload_n 0, 1) := by decide +kernel
theorem dX8_fault_29 : decode cX8_fault 29 = .ok (.dup, 1) := by decide +kernel
theorem dX8_fault_30 : decode cX8_fault 30 = .ok (.getfield 119, 3) := by decide +kernel
theorem dX8_fault_33 : decode cX8_fault 33 = .ok (.iconst 1, 1) := by decide +kernel
theorem dX8_fault_34 : decode cX8_fault 34 = .ok (.iadd, 1) := by decide +kernel
theorem dX8_fault_35 : decode cX8_fault 35 = .ok (.putfield 119, 3) := by decide +kernel
theorem dX8_fault_38 : decode cX8_fault 38 = .ok (.aload_n 0, 1) := by decide +kernel
theorem dX8_fault_39 : decode cX8_fault 39 = .ok (.bipush 59, 2) := by decide +kernel
theorem dX8_fault_41 : decode cX8_fault 41 = .ok (.invokevirtual 151, 3) := by decide +kernel
theorem dX8_fault_44 : decode cX8_fault 44 = .ok (.istore_n 1, 1) := by decide +kernel
theorem dX8_fault_45 : decode cX8_fault 45 = .ok (.goto (-33), 3) := by decide +kernel
theorem dX8_fault_48 : decode cX8_fault 48 = .ok (.aload_n 0, 1) := by decide +kernel
theorem dX8_fault_49 : decode cX8_fault 49 = .ok (.getfield 141, 3) := by decide +kernel
theorem dX8_fault_52 : decode cX8_fault 52 = .ok (.aload_n 0, 1) := by decide +kernel
theorem dX8_fault_53 : decode cX8_fault 53 = .ok (.getfield 138, 3) := by decide +kernel
theorem dX8_fault_56 : decode cX8_fault 56 = .ok (.if_icmp .ne 9, 3) := by decide +kernel
theorem dX8_fault_59 : decode cX8_fault 59 = .ok (.sipush (-1005), 3) := by decide +kernel
theorem dX8_fault_62 : decode cX8_fault 62 = .ok (.goto 7, 3) := by decide +kernel
theorem dX8_fault_65 : decode cX8_fault 65 = .ok (.aload_n 0, 1) := by decide +kernel
theorem dX8_fault_66 : decode cX8_fault 66 = .ok (.getfield 141, 3) := by decide +kernel
theorem dX8_fault_69 : decode cX8_fault 69 = .ok (.ireturn, 1) := by decide +kernel
theorem dX8_undo_0 : decode cX8_undo 0 = .ok (.aload_n 0, 1) := by decide +kernel
theorem dX8_undo_1 : decode cX8_undo 1 = .ok (.getfield 29, 3) := by decide +kernel
theorem dX8_undo_4 : decode cX8_undo 4 = .ok (.ifCond .ne 7, 3) := by decide +kernel
theorem dX8_undo_7 : decode cX8_undo 7 = .ok (.sipush (-1005), 3) := by decide +kernel
theorem dX8_undo_10 : decode cX8_undo 10 = .ok (.ireturn, 1) := by decide +kernel
theorem dX8_undo_11 : decode cX8_undo 11 = .ok (.aload_n 0, 1) := by decide +kernel
theorem dX8_undo_12 : decode cX8_undo 12 = .ok (.dup, 1) := by decide +kernel
theorem dX8_undo_13 : decode cX8_undo 13 = .ok (.getfield 29, 3) := by decide +kernel
theorem dX8_undo_16 : decode cX8_undo 16 = .ok (.iconst 1, 1) := by decide +kernel
theorem dX8_undo_17 : decode cX8_undo 17 = .ok (.isub, 1) := by decide +kernel
theorem dX8_undo_18 : decode cX8_undo 18 = .ok (.putfield 29, 3) := by decide +kernel
theorem dX8_undo_21 : decode cX8_undo 21 = .ok (.aload_n 0, 1) := by decide +kernel
theorem dX8_undo_22 : decode cX8_undo 22 = .ok (.getfield 16, 3) := by decide +kernel
theorem dX8_undo_25 : decode cX8_undo 25 = .ok (.sipush 195, 3) := by decide +kernel
theorem dX8_undo_28 : decode cX8_undo 28 = .ok (.aload_n 0, 1) := by decide +kernel
theorem dX8_undo_29 : decode cX8_undo 29 = .ok (.getfield 29, 3) := by decide +kernel
theorem dX8_undo_32 : decode cX8_undo 32 = .ok (.imul, 1) := by decide +kernel
theorem dX8_undo_33 : decode cX8_undo 33 = .ok (.aload_n 0, 1) := by decide +kernel
theorem dX8_undo_34 : decode cX8_undo 34 = .ok (.getfield 7, 3) := by decide +kernel
theorem dX8_undo_37 : decode cX8_undo 37 = .ok (.iconst 0, 1) := by decide +kernel
theorem dX8_undo_38 : decode cX8_undo 38 = .ok (.invokestatic 33, 3) := by decide +kernel
theorem dX8_undo_41 : decode cX8_undo 41 = .ok (.aload_n 0, 1) := by decide +kernel
theorem dX8_undo_42 : decode cX8_undo 42 = .ok (.getfield 29, 3) := by decide +kernel
theorem dX8_undo_45 : decode cX8_undo 45 = .ok (.ireturn, 1) := by decide +kernel
theorem dX8_keep_0 : decode cX8_keep 0 = .ok (.aload_n 0, 1) := by decide +kernel
theorem dX8_keep_1 : decode cX8_keep 1 = .ok (.getfield 7, 3) := by decide +kernel
theorem dX8_keep_4 : decode cX8_keep 4 = .ok (.iconst 0, 1) := by decide +kernel
theorem dX8_keep_5 : decode cX8_keep 5 = .ok (.aload_n 0, 1) := by decide +kernel
theorem dX8_keep_6 : decode cX8_keep 6 = .ok (.getfield 19, 3) := by decide +kernel
theorem dX8_keep_9 : decode cX8_keep 9 = .ok (.iconst 0, 1) := by decide +kernel
theorem dX8_keep_10 : decode cX8_keep 10 = .ok (.invokestatic 33, 3) := by decide +kernel
theorem dX8_keep_13 : decode cX8_keep 13 = .ok (.aload_n 0, 1) := by decide +kernel
theorem dX8_keep_14 : decode cX8_keep 14 = .ok (.iconst 1, 1) := by decide +kernel
theorem dX8_keep_15 : decode cX8_keep 15 = .ok (.putfield 159, 3) := by decide +kernel
theorem dX8_keep_18 : decode cX8_keep 18 = .ok (.aload_n 0, 1) := by decide +kernel
theorem dX8_keep_19 : decode cX8_keep 19 = .ok (.getfield 7, 3) := by decide +kernel
theorem dX8_keep_22 : decode cX8_keep 22 = .ok (.iconst 0, 1) := by decide +kernel
theorem dX8_keep_23 : decode cX8_keep 23 = .ok (.iaload, 1) := by decide +kernel
theorem dX8_keep_24 : decode cX8_keep 24 = .ok (.ireturn, 1) := by decide +kernel
theorem dX8_restore_0 : decode cX8_restore 0 = .ok (.aload_n 0, 1) := by decide +kernel
theorem dX8_restore_1 : decode cX8_restore 1 = .ok (.getfield 159, 3) := by decide +kernel
theorem dX8_restore_4 : decode cX8_restore 4 = .ok (.ifCond .ne 7, 3) := by decide +kernel
theorem dX8_restore_7 : decode cX8_restore 7 = .ok (.sipush (-1005), 3) := by decide +kernel
theorem dX8_restore_10 : decode cX8_restore 10 = .ok (.ireturn, 1) := by decide +kernel
theorem dX8_restore_11 : decode cX8_restore 11 = .ok (.aload_n 0, 1) := by decide +kernel
theorem dX8_restore_12 : decode cX8_restore 12 = .ok (.invokevirtual 109, 3) := by decide +kernel
theorem dX8_restore_15 : decode cX8_restore 15 = .ok (.aload_n 0, 1) := by decide +kernel
theorem dX8_restore_16 : decode cX8_restore 16 = .ok (.getfield 19, 3) := by decide +kernel
theorem dX8_restore_19 : decode cX8_restore 19 = .ok (.iconst 0, 1) := by decide +kernel
theorem dX8_restore_20 : decode cX8_restore 20 = .ok (.aload_n 0, 1) := by decide +kernel
theorem dX8_restore_21 : decode cX8_restore 21 = .ok (.getfield 7, 3) := by decide +kernel
theorem dX8_restore_24 : decode cX8_restore 24 = .ok (.iconst 0, 1) := by decide +kernel
theorem dX8_restore_25 : decode cX8_restore 25 = .ok (.invokestatic 33, 3) := by decide +kernel
theorem dX8_restore_28 : decode cX8_restore 28 = .ok (.aload_n 0, 1) := by decide +kernel
theorem dX8_restore_29 : decode cX8_restore 29 = .ok (.getfield 7, 3) := by decide +kernel
theorem dX8_restore_32 : decode cX8_restore 32 = .ok (.iconst 0, 1) := by decide +kernel
theorem dX8_restore_33 : decode cX8_restore 33 = .ok (.iaload, 1) := by decide +kernel
theorem dX8_restore_34 : decode cX8_restore 34 = .ok (.ireturn, 1) := by decide +kernel
theorem dX8_alarm_0 : decode cX8_alarm 0 = .ok (.aload_n 0, 1) := by decide +kernel
theorem dX8_alarm_1 : decode cX8_alarm 1 = .ok (.getfield 7, 3) := by decide +kernel
theorem dX8_alarm_4 : decode cX8_alarm 4 = .ok (.iload_n 1, 1) := by decide +kernel
theorem dX8_alarm_5 : decode cX8_alarm 5 = .ok (.invokestatic 122, 3) := by decide +kernel
theorem dX8_alarm_8 : decode cX8_alarm 8 = .ok (.istore_n 3, 1) := by decide +kernel
theorem dX8_alarm_9 : decode cX8_alarm 9 = .ok (.iload_n 3, 1) := by decide +kernel
theorem dX8_alarm_10 : decode cX8_alarm 10 = .ok (.sipush (-1005), 3) := by decide +kernel
theorem dX8_alarm_13 : decode cX8_alarm 13 = .ok (.if_icmp .ne 7, 3) := by decide +kernel
theorem dX8_alarm_16 : decode cX8_alarm 16 = .ok (.sipush (-1001), 3) := by decide +kernel
theorem dX8_alarm_19 : decode cX8_alarm 19 = .ok (.ireturn, 1) := by decide +kernel
theorem dX8_alarm_20 : decode cX8_alarm 20 = .ok (.iload_n 2, 1) := by decide +kernel
theorem dX8_alarm_21 : decode cX8_alarm 21 = .ok (.tableswitch 85 0 6 #[43, 43, 43, 43, 55, 64, 74], 43) := by decide +kernel
theorem dX8_alarm_64 : decode cX8_alarm 64 = .ok (.aload_n 0, 1) := by decide +kernel
theorem dX8_alarm_65 : decode cX8_alarm 65 = .ok (.getfield 7, 3) := by decide +kernel
theorem dX8_alarm_68 : decode cX8_alarm 68 = .ok (.iload_n 3, 1) := by decide +kernel
theorem dX8_alarm_69 : decode cX8_alarm 69 = .ok (.iconst 1, 1) := by decide +kernel
theorem dX8_alarm_70 : decode cX8_alarm 70 = .ok (.iload_n 2, 1) := by decide +kernel
theorem dX8_alarm_71 : decode cX8_alarm 71 = .ok (.iadd, 1) := by decide +kernel
theorem dX8_alarm_72 : decode cX8_alarm 72 = .ok (.invokestatic 37, 3) := by decide +kernel
theorem dX8_alarm_75 : decode cX8_alarm 75 = .ok (.ireturn, 1) := by decide +kernel
theorem dX8_alarm_76 : decode cX8_alarm 76 = .ok (.aload_n 0, 1) := by decide +kernel
theorem dX8_alarm_77 : decode cX8_alarm 77 = .ok (.getfield 7, 3) := by decide +kernel
theorem dX8_alarm_80 : decode cX8_alarm 80 = .ok (.iload_n 3, 1) := by decide +kernel
theorem dX8_alarm_81 : decode cX8_alarm 81 = .ok (.invokestatic 163, 3) := by decide +kernel
theorem dX8_alarm_84 : decode cX8_alarm 84 = .ok (.ireturn, 1) := by decide +kernel
theorem dX8_alarm_85 : decode cX8_alarm 85 = .ok (.aload_n 0, 1) := by decide +kernel
theorem dX8_alarm_86 : decode cX8_alarm 86 = .ok (.getfield 7, 3) := by decide +kernel
theorem dX8_alarm_89 : decode cX8_alarm 89 = .ok (.iload_n 3, 1) := by decide +kernel
theorem dX8_alarm_90 : decode cX8_alarm 90 = .ok (.iconst 5, 1) := by decide +kernel
theorem dX8_alarm_91 : decode cX8_alarm 91 = .ok (.invokestatic 37, 3) := by decide +kernel
theorem dX8_alarm_94 : decode cX8_alarm 94 = .ok (.ireturn, 1) := by decide +kernel
theorem dX8_alarm_95 : decode cX8_alarm 95 = .ok (.aload_n 0, 1) := by decide +kernel
theorem dX8_alarm_96 : decode cX8_alarm 96 = .ok (.getfield 7, 3) := by decide +kernel
theorem dX8_alarm_99 : decode cX8_alarm 99 = .ok (.iload_n 3, 1) := by decide +kernel
theorem dX8_alarm_100 : decode cX8_alarm 100 = .ok (.bipush 6, 2) := by decide +kernel
theorem dX8_alarm_102 : decode cX8_alarm 102 = .ok (.invokestatic 37, 3) := by decide +kernel
theorem dX8_alarm_105 : decode cX8_alarm 105 = .ok (.ireturn, 1) := by decide +kernel
theorem dX8_alarm_106 : decode cX8_alarm 106 = .ok (.sipush (-1002), 3) := by decide +kernel
theorem dX8_alarm_109 : decode cX8_alarm 109 = .ok (.ireturn, 1) := by decide +kernel
theorem dX8_comparer_0 : decode cX8_comparer 0 = .ok (.iload_n 1, 1) := by decide +kernel
theorem dX8_comparer_1 : decode cX8_comparer 1 = .ok (.iconst 0, 1) := by decide +kernel
theorem dX8_comparer_2 : decode cX8_comparer 2 = .ok (.aload_n 0, 1) := by decide +kernel
theorem dX8_comparer_3 : decode cX8_comparer 3 = .ok (.getfield 7, 3) := by decide +kernel
theorem dX8_comparer_6 : decode cX8_comparer 6 = .ok (.bipush 10, 2) := by decide +kernel
theorem dX8_comparer_8 : decode cX8_comparer 8 = .ok (.iaload, 1) := by decide +kernel
theorem dX8_comparer_9 : decode cX8_comparer 9 = .ok (.iconst 1, 1) := by decide +kernel
theorem dX8_comparer_10 : decode cX8_comparer 10 = .ok (.isub, 1) := by decide +kernel
theorem dX8_comparer_11 : decode cX8_comparer 11 = .ok (.invokestatic 105, 3) := by decide +kernel
theorem dX8_comparer_14 : decode cX8_comparer 14 = .ok (.ifCond .ne 7, 3) := by decide +kernel
theorem dX8_comparer_17 : decode cX8_comparer 17 = .ok (.sipush (-1001), 3) := by decide +kernel
theorem dX8_comparer_20 : decode cX8_comparer 20 = .ok (.ireturn, 1) := by decide +kernel
theorem dX8_comparer_21 : decode cX8_comparer 21 = .ok (.aload_n 0, 1) := by decide +kernel
theorem dX8_comparer_22 : decode cX8_comparer 22 = .ok (.getfield 7, 3) := by decide +kernel
theorem dX8_comparer_25 : decode cX8_comparer 25 = .ok (.iload_n 1, 1) := by decide +kernel
theorem dX8_comparer_26 : decode cX8_comparer 26 = .ok (.invokestatic 78, 3) := by decide +kernel
theorem dX8_comparer_29 : decode cX8_comparer 29 = .ok (.istore_n 3, 1) := by decide +kernel
theorem dX8_comparer_30 : decode cX8_comparer 30 = .ok (.iload_n 2, 1) := by decide +kernel
theorem dX8_comparer_31 : decode cX8_comparer 31 = .ok (.tableswitch 85 0 3 #[29, 38, 47, 62], 29) := by decide +kernel
theorem dX8_comparer_60 : decode cX8_comparer 60 = .ok (.aload_n 0, 1) := by decide +kernel
theorem dX8_comparer_61 : decode cX8_comparer 61 = .ok (.getfield 7, 3) := by decide +kernel
theorem dX8_comparer_64 : decode cX8_comparer 64 = .ok (.iload_n 1, 1) := by decide +kernel
theorem dX8_comparer_65 : decode cX8_comparer 65 = .ok (.invokestatic 49, 3) := by decide +kernel
theorem dX8_comparer_68 : decode cX8_comparer 68 = .ok (.ireturn, 1) := by decide +kernel
theorem dX8_comparer_69 : decode cX8_comparer 69 = .ok (.aload_n 0, 1) := by decide +kernel
theorem dX8_comparer_70 : decode cX8_comparer 70 = .ok (.getfield 7, 3) := by decide +kernel
theorem dX8_comparer_73 : decode cX8_comparer 73 = .ok (.iload_n 1, 1) := by decide +kernel
theorem dX8_comparer_74 : decode cX8_comparer 74 = .ok (.invokestatic 166, 3) := by decide +kernel
theorem dX8_comparer_77 : decode cX8_comparer 77 = .ok (.ireturn, 1) := by decide +kernel
theorem dX8_comparer_78 : decode cX8_comparer 78 = .ok (.aload_n 0, 1) := by decide +kernel
theorem dX8_comparer_79 : decode cX8_comparer 79 = .ok (.getfield 7, 3) := by decide +kernel
theorem dX8_comparer_82 : decode cX8_comparer 82 = .ok (.sipush 154, 3) := by decide +kernel
theorem dX8_comparer_85 : decode cX8_comparer 85 = .ok (.iconst 2, 1) := by decide +kernel
theorem dX8_comparer_86 : decode cX8_comparer 86 = .ok (.iload_n 1, 1) := by decide +kernel
theorem dX8_comparer_87 : decode cX8_comparer 87 = .ok (.imul, 1) := by decide +kernel
theorem dX8_comparer_88 : decode cX8_comparer 88 = .ok (.iadd, 1) := by decide +kernel
theorem dX8_comparer_89 : decode cX8_comparer 89 = .ok (.iconst 1, 1) := by decide +kernel
theorem dX8_comparer_90 : decode cX8_comparer 90 = .ok (.iadd, 1) := by decide +kernel
theorem dX8_comparer_91 : decode cX8_comparer 91 = .ok (.iaload, 1) := by decide +kernel
theorem dX8_comparer_92 : decode cX8_comparer 92 = .ok (.ireturn, 1) := by decide +kernel
theorem dX8_comparer_93 : decode cX8_comparer 93 = .ok (.iload_n 3, 1) := by decide +kernel
theorem dX8_comparer_94 : decode cX8_comparer 94 = .ok (.sipush (-1005), 3) := by decide +kernel
theorem dX8_comparer_97 : decode cX8_comparer 97 = .ok (.if_icmp .ne 9, 3) := by decide +kernel
theorem dX8_comparer_100 : decode cX8_comparer 100 = .ok (.sipush (-1005), 3) := by decide +kernel
theorem dX8_comparer_103 : decode cX8_comparer 103 = .ok (.goto 12, 3) := by decide +kernel
theorem dX8_comparer_106 : decode cX8_comparer 106 = .ok (.aload_n 0, 1) := by decide +kernel
theorem dX8_comparer_107 : decode cX8_comparer 107 = .ok (.getfield 7, 3) := by decide +kernel
theorem dX8_comparer_110 : decode cX8_comparer 110 = .ok (.iload_n 3, 1) := by decide +kernel
theorem dX8_comparer_111 : decode cX8_comparer 111 = .ok (.iconst 0, 1) := by decide +kernel
theorem dX8_comparer_112 : decode cX8_comparer 112 = .ok (.invokestatic 37, 3) := by decide +kernel
theorem dX8_comparer_115 : decode cX8_comparer 115 = .ok (.ireturn, 1) := by decide +kernel
theorem dX8_comparer_116 : decode cX8_comparer 116 = .ok (.sipush (-1002), 3) := by decide +kernel
theorem dX8_comparer_119 : decode cX8_comparer 119 = .ok (.ireturn, 1) := by decide +kernel
theorem dX8_at_0 : decode cX8_at 0 = .ok (.iload_n 1, 1) := by decide +kernel
theorem dX8_at_1 : decode cX8_at 1 = .ok (.ifCond .ge 7, 3) := by decide +kernel
theorem dX8_at_4 : decode cX8_at 4 = .ok (.sipush (-1002), 3) := by decide +kernel
theorem dX8_at_7 : decode cX8_at 7 = .ok (.ireturn, 1) := by decide +kernel
theorem dX8_at_8 : decode cX8_at 8 = .ok (.iconst 0, 1) := by decide +kernel
theorem dX8_at_9 : decode cX8_at 9 = .ok (.istore_n 2, 1) := by decide +kernel
theorem dX8_at_10 : decode cX8_at 10 = .ok (.iload_n 2, 1) := by decide +kernel
theorem dX8_at_11 : decode cX8_at 11 = .ok (.aload_n 0, 1) := by decide +kernel
theorem dX8_at_12 : decode cX8_at 12 = .ok (.getfield 7, 3) := by decide +kernel
theorem dX8_at_15 : decode cX8_at 15 = .ok (.iconst 2, 1) := by decide +kernel
theorem dX8_at_16 : decode cX8_at 16 = .ok (.iaload, 1) := by decide +kernel
theorem dX8_at_17 : decode cX8_at 17 = .ok (.if_icmp .ge 31, 3) := by decide +kernel
theorem dX8_at_20 : decode cX8_at 20 = .ok (.aload_n 0, 1) := by decide +kernel
theorem dX8_at_21 : decode cX8_at 21 = .ok (.getfield 7, 3) := by decide +kernel
theorem dX8_at_24 : decode cX8_at 24 = .ok (.iload_n 2, 1) := by decide +kernel
theorem dX8_at_25 : decode cX8_at 25 = .ok (.invokestatic 163, 3) := by decide +kernel
theorem dX8_at_28 : decode cX8_at 28 = .ok (.iload_n 1, 1) := by decide +kernel
theorem dX8_at_29 : decode cX8_at 29 = .ok (.if_icmp .ne 13, 3) := by decide +kernel
theorem dX8_at_32 : decode cX8_at 32 = .ok (.aload_n 0, 1) := by decide +kernel
theorem dX8_at_33 : decode cX8_at 33 = .ok (.getfield 7, 3) := by decide +kernel
theorem dX8_at_36 : decode cX8_at 36 = .ok (.iload_n 2, 1) := by decide +kernel
theorem dX8_at_37 : decode cX8_at 37 = .ok (.iconst 0, 1) := by decide +kernel
theorem dX8_at_38 : decode cX8_at 38 = .ok (.invokestatic 37, 3) := by decide +kernel
theorem dX8_at_41 : decode cX8_at 41 = .ok (.ireturn, 1) := by decide +kernel
theorem dX8_at_42 : decode cX8_at 42 = .ok (.iinc 2 1, 3) := by decide +kernel
theorem dX8_at_45 : decode cX8_at 45 = .ok (.goto (-35), 3) := by decide +kernel
theorem dX8_at_48 : decode cX8_at 48 = .ok (.sipush (-1005), 3) := by decide +kernel
theorem dX8_at_51 : decode cX8_at 51 = .ok (.ireturn, 1) := by decide +kernel
theorem dX8_ringsIn_0 : decode cX8_ringsIn 0 = .ok (.aload_n 0, 1) := by decide +kernel
theorem dX8_ringsIn_1 : decode cX8_ringsIn 1 = .ok (.getfield 7, 3) := by decide +kernel
theorem dX8_ringsIn_4 : decode cX8_ringsIn 4 = .ok (.iload_n 1, 1) := by decide +kernel
theorem dX8_ringsIn_5 : decode cX8_ringsIn 5 = .ok (.invokestatic 122, 3) := by decide +kernel
theorem dX8_ringsIn_8 : decode cX8_ringsIn 8 = .ok (.istore_n 2, 1) := by decide +kernel
theorem dX8_ringsIn_9 : decode cX8_ringsIn 9 = .ok (.iload_n 2, 1) := by decide +kernel
theorem dX8_ringsIn_10 : decode cX8_ringsIn 10 = .ok (.sipush (-1005), 3) := by decide +kernel
theorem dX8_ringsIn_13 : decode cX8_ringsIn 13 = .ok (.if_icmp .ne 7, 3) := by decide +kernel
theorem dX8_ringsIn_16 : decode cX8_ringsIn 16 = .ok (.sipush (-1001), 3) := by decide +kernel
theorem dX8_ringsIn_19 : decode cX8_ringsIn 19 = .ok (.ireturn, 1) := by decide +kernel
theorem dX8_ringsIn_20 : decode cX8_ringsIn 20 = .ok (.aload_n 0, 1) := by decide +kernel
theorem dX8_ringsIn_21 : decode cX8_ringsIn 21 = .ok (.getfield 7, 3) := by decide +kernel
theorem dX8_ringsIn_24 : decode cX8_ringsIn 24 = .ok (.iload_n 2, 1) := by decide +kernel
theorem dX8_ringsIn_25 : decode cX8_ringsIn 25 = .ok (.iconst 5, 1) := by decide +kernel
theorem dX8_ringsIn_26 : decode cX8_ringsIn 26 = .ok (.invokestatic 37, 3) := by decide +kernel
theorem dX8_ringsIn_29 : decode cX8_ringsIn 29 = .ok (.istore_n 3, 1) := by decide +kernel
theorem dX8_ringsIn_30 : decode cX8_ringsIn 30 = .ok (.aload_n 0, 1) := by decide +kernel
theorem dX8_ringsIn_31 : decode cX8_ringsIn 31 = .ok (.getfield 7, 3) := by decide +kernel
theorem dX8_ringsIn_34 : decode cX8_ringsIn 34 = .ok (.iconst 0, 1) := by decide +kernel
theorem dX8_ringsIn_35 : decode cX8_ringsIn 35 = .ok (.aload_n 0, 1) := by decide +kernel
theorem dX8_ringsIn_36 : decode cX8_ringsIn 36 = .ok (.getfield 13, 3) := by decide +kernel
theorem dX8_ringsIn_39 : decode cX8_ringsIn 39 = .ok (.iconst 0, 1) := by decide +kernel
theorem dX8_ringsIn_40 : decode cX8_ringsIn 40 = .ok (.invokestatic 33, 3) := by decide +kernel
theorem dX8_ringsIn_43 : decode cX8_ringsIn 43 = .ok (.iconst 0, 1) := by decide +kernel
theorem dX8_ringsIn_44 : decode cX8_ringsIn 44 = .ok (.istore 4, 2) := by decide +kernel
theorem dX8_ringsIn_46 : decode cX8_ringsIn 46 = .ok (.iconst 1, 1) := by decide +kernel
theorem dX8_ringsIn_47 : decode cX8_ringsIn 47 = .ok (.istore 5, 2) := by decide +kernel
theorem dX8_ringsIn_49 : decode cX8_ringsIn 49 = .ok (.iload 5, 2) := by decide +kernel
theorem dX8_ringsIn_51 : decode cX8_ringsIn 51 = .ok (.sipush 1000, 3) := by decide +kernel
theorem dX8_ringsIn_54 : decode cX8_ringsIn 54 = .ok (.if_icmp .gt 61, 3) := by decide +kernel
theorem dX8_ringsIn_57 : decode cX8_ringsIn 57 = .ok (.iload 4, 2) := by decide +kernel
theorem dX8_ringsIn_59 : decode cX8_ringsIn 59 = .ok (.aload_n 0, 1) := by decide +kernel
theorem dX8_ringsIn_60 : decode cX8_ringsIn 60 = .ok (.getfield 13, 3) := by decide +kernel
theorem dX8_ringsIn_63 : decode cX8_ringsIn 63 = .ok (.invokestatic 101, 3) := by decide +kernel
theorem dX8_ringsIn_66 : decode cX8_ringsIn 66 = .ok (.iadd, 1) := by decide +kernel
theorem dX8_ringsIn_67 : decode cX8_ringsIn 67 = .ok (.istore 4, 2) := by decide +kernel
theorem dX8_ringsIn_69 : decode cX8_ringsIn 69 = .ok (.aload_n 0, 1) := by decide +kernel
theorem dX8_ringsIn_70 : decode cX8_ringsIn 70 = .ok (.getfield 13, 3) := by decide +kernel
theorem dX8_ringsIn_73 : decode cX8_ringsIn 73 = .ok (.iload_n 1, 1) := by decide +kernel
theorem dX8_ringsIn_74 : decode cX8_ringsIn 74 = .ok (.invokestatic 122, 3) := by decide +kernel
theorem dX8_ringsIn_77 : decode cX8_ringsIn 77 = .ok (.istore 6, 2) := by decide +kernel
theorem dX8_ringsIn_79 : decode cX8_ringsIn 79 = .ok (.iload 4, 2) := by decide +kernel
theorem dX8_ringsIn_81 : decode cX8_ringsIn 81 = .ok (.ifCond .le 28, 3) := by decide +kernel
theorem dX8_ringsIn_84 : decode cX8_ringsIn 84 = .ok (.iload 6, 2) := by decide +kernel
theorem dX8_ringsIn_86 : decode cX8_ringsIn 86 = .ok (.sipush (-1005), 3) := by decide +kernel
theorem dX8_ringsIn_89 : decode cX8_ringsIn 89 = .ok (.if_icmp .eq 17, 3) := by decide +kernel
theorem dX8_ringsIn_92 : decode cX8_ringsIn 92 = .ok (.aload_n 0, 1) := by decide +kernel
theorem dX8_ringsIn_93 : decode cX8_ringsIn 93 = .ok (.getfield 13, 3) := by decide +kernel
theorem dX8_ringsIn_96 : decode cX8_ringsIn 96 = .ok (.iload 6, 2) := by decide +kernel
theorem dX8_ringsIn_98 : decode cX8_ringsIn 98 = .ok (.iconst 5, 1) := by decide +kernel
theorem dX8_ringsIn_99 : decode cX8_ringsIn 99 = .ok (.invokestatic 37, 3) := by decide +kernel
theorem dX8_ringsIn_102 : decode cX8_ringsIn 102 = .ok (.iload_n 3, 1) := by decide +kernel
theorem dX8_ringsIn_103 : decode cX8_ringsIn 103 = .ok (.if_icmp .eq 6, 3) := by decide +kernel
theorem dX8_ringsIn_106 : decode cX8_ringsIn 106 = .ok (.iload 5, 2) := by decide +kernel
theorem dX8_ringsIn_108 : decode cX8_ringsIn 108 = .ok (.ireturn, 1) := by decide +kernel
theorem dX8_ringsIn_109 : decode cX8_ringsIn 109 = .ok (.iinc 5 1, 3) := by decide +kernel
theorem dX8_ringsIn_112 : decode cX8_ringsIn 112 = .ok (.goto (-63), 3) := by decide +kernel
theorem dX8_ringsIn_115 : decode cX8_ringsIn 115 = .ok (.sipush (-1005), 3) := by decide +kernel
theorem dX8_ringsIn_118 : decode cX8_ringsIn 118 = .ok (.ireturn, 1) := by decide +kernel
theorem dX8_would_0 : decode cX8_would 0 = .ok (.aload_n 0, 1) := by decide +kernel
theorem dX8_would_1 : decode cX8_would 1 = .ok (.getfield 7, 3) := by decide +kernel
theorem dX8_would_4 : decode cX8_would 4 = .ok (.iconst 0, 1) := by decide +kernel
theorem dX8_would_5 : decode cX8_would 5 = .ok (.aload_n 0, 1) := by decide +kernel
theorem dX8_would_6 : decode cX8_would 6 = .ok (.getfield 13, 3) := by decide +kernel
theorem dX8_would_9 : decode cX8_would 9 = .ok (.iconst 0, 1) := by decide +kernel
theorem dX8_would_10 : decode cX8_would 10 = .ok (.invokestatic 33, 3) := by decide +kernel
theorem dX8_would_13 : decode cX8_would 13 = .ok (.iload_n 1, 1) := by decide +kernel
theorem dX8_would_14 : decode cX8_would 14 = .ok (.aload_n 0, 1) := by decide +kernel
theorem dX8_would_15 : decode cX8_would 15 = .ok (.getfield 13, 3) := by decide +kernel
theorem dX8_would_18 : decode cX8_would 18 = .ok (.bipush 10, 2) := by decide +kernel
theorem dX8_would_20 : decode cX8_would 20 = .ok (.iaload, 1) := by decide +kernel
theorem dX8_would_21 : decode cX8_would 21 = .ok (.if_icmp .eq 11, 3) := by decide +kernel
theorem dX8_would_24 : decode cX8_would 24 = .ok (.aload_n 0, 1) := by decide +kernel
theorem dX8_would_25 : decode cX8_would 25 = .ok (.getfield 13, 3) := by decide +kernel
theorem dX8_would_28 : decode cX8_would 28 = .ok (.iload_n 1, 1) := by decide +kernel
theorem dX8_would_29 : decode cX8_would 29 = .ok (.invokestatic 128, 3) := by decide +kernel
theorem dX8_would_32 : decode cX8_would 32 = .ok (.aload_n 0, 1) := by decide +kernel
theorem dX8_would_33 : decode cX8_would 33 = .ok (.getfield 13, 3) := by decide +kernel
theorem dX8_would_36 : decode cX8_would 36 = .ok (.iconst 5, 1) := by decide +kernel
theorem dX8_would_37 : decode cX8_would 37 = .ok (.iconst 0, 1) := by decide +kernel
theorem dX8_would_38 : decode cX8_would 38 = .ok (.iastore, 1) := by decide +kernel
theorem dX8_would_39 : decode cX8_would 39 = .ok (.aload_n 0, 1) := by decide +kernel
theorem dX8_would_40 : decode cX8_would 40 = .ok (.getfield 13, 3) := by decide +kernel
theorem dX8_would_43 : decode cX8_would 43 = .ok (.bipush 6, 2) := by decide +kernel
theorem dX8_would_45 : decode cX8_would 45 = .ok (.iconst 0, 1) := by decide +kernel
theorem dX8_would_46 : decode cX8_would 46 = .ok (.iastore, 1) := by decide +kernel
theorem dX8_would_47 : decode cX8_would 47 = .ok (.aload_n 0, 1) := by decide +kernel
theorem dX8_would_48 : decode cX8_would 48 = .ok (.getfield 13, 3) := by decide +kernel
theorem dX8_would_51 : decode cX8_would 51 = .ok (.bipush 7, 2) := by decide +kernel
theorem dX8_would_53 : decode cX8_would 53 = .ok (.iconst 0, 1) := by decide +kernel
theorem dX8_would_54 : decode cX8_would 54 = .ok (.iastore, 1) := by decide +kernel
theorem dX8_would_55 : decode cX8_would 55 = .ok (.aload_n 0, 1) := by decide +kernel
theorem dX8_would_56 : decode cX8_would 56 = .ok (.getfield 13, 3) := by decide +kernel
theorem dX8_would_59 : decode cX8_would 59 = .ok (.iload_n 2, 1) := by decide +kernel
theorem dX8_would_60 : decode cX8_would 60 = .ok (.invokestatic 135, 3) := by decide +kernel
theorem dX8_would_63 : decode cX8_would 63 = .ok (.ireturn, 1) := by decide +kernel
theorem dX8_ifComparers_0 : decode cX8_ifComparers 0 = .ok (.iload_n 1, 1) := by decide +kernel
theorem dX8_ifComparers_1 : decode cX8_ifComparers 1 = .ok (.iconst 1, 1) := by decide +kernel
theorem dX8_ifComparers_2 : decode cX8_ifComparers 2 = .ok (.iconst 4, 1) := by decide +kernel
theorem dX8_ifComparers_3 : decode cX8_ifComparers 3 = .ok (.invokestatic 105, 3) := by decide +kernel
theorem dX8_ifComparers_6 : decode cX8_ifComparers 6 = .ok (.ifCond .eq 23, 3) := by decide +kernel
theorem dX8_ifComparers_9 : decode cX8_ifComparers 9 = .ok (.iload_n 2, 1) := by decide +kernel
theorem dX8_ifComparers_10 : decode cX8_ifComparers 10 = .ok (.iconst 1, 1) := by decide +kernel
theorem dX8_ifComparers_11 : decode cX8_ifComparers 11 = .ok (.sipush 500, 3) := by decide +kernel
theorem dX8_ifComparers_14 : decode cX8_ifComparers 14 = .ok (.invokestatic 105, 3) := by decide +kernel
theorem dX8_ifComparers_17 : decode cX8_ifComparers 17 = .ok (.ifCond .eq 12, 3) := by decide +kernel
theorem dX8_ifComparers_20 : decode cX8_ifComparers 20 = .ok (.iload_n 3, 1) := by decide +kernel
theorem dX8_ifComparers_21 : decode cX8_ifComparers 21 = .ok (.iconst 0, 1) := by decide +kernel
theorem dX8_ifComparers_22 : decode cX8_ifComparers 22 = .ok (.iconst 3, 1) := by decide +kernel
theorem dX8_ifComparers_23 : decode cX8_ifComparers 23 = .ok (.invokestatic 105, 3) := by decide +kernel
theorem dX8_ifComparers_26 : decode cX8_ifComparers 26 = .ok (.ifCond .ne 7, 3) := by decide +kernel
theorem dX8_ifComparers_29 : decode cX8_ifComparers 29 = .ok (.sipush (-1002), 3) := by decide +kernel
theorem dX8_ifComparers_32 : decode cX8_ifComparers 32 = .ok (.ireturn, 1) := by decide +kernel
theorem dX8_ifComparers_33 : decode cX8_ifComparers 33 = .ok (.aload_n 0, 1) := by decide +kernel
theorem dX8_ifComparers_34 : decode cX8_ifComparers 34 = .ok (.iload_n 1, 1) := by decide +kernel
theorem dX8_ifComparers_35 : decode cX8_ifComparers 35 = .ok (.iload_n 2, 1) := by decide +kernel
theorem dX8_ifComparers_36 : decode cX8_ifComparers 36 = .ok (.invokevirtual 169, 3) := by decide +kernel
theorem dX8_ifComparers_39 : decode cX8_ifComparers 39 = .ok (.istore 4, 2) := by decide +kernel
theorem dX8_ifComparers_41 : decode cX8_ifComparers 41 = .ok (.iload_n 3, 1) := by decide +kernel
theorem dX8_ifComparers_42 : decode cX8_ifComparers 42 = .ok (.ifCond .ne 8, 3) := by decide +kernel
theorem dX8_ifComparers_45 : decode cX8_ifComparers 45 = .ok (.iload 4, 2) := by decide +kernel
theorem dX8_ifComparers_47 : decode cX8_ifComparers 47 = .ok (.goto 39, 3) := by decide +kernel
theorem dX8_ifComparers_50 : decode cX8_ifComparers 50 = .ok (.iload_n 3, 1) := by decide +kernel
theorem dX8_ifComparers_51 : decode cX8_ifComparers 51 = .ok (.iconst 1, 1) := by decide +kernel
theorem dX8_ifComparers_52 : decode cX8_ifComparers 52 = .ok (.if_icmp .ne 12, 3) := by decide +kernel
theorem dX8_ifComparers_55 : decode cX8_ifComparers 55 = .ok (.aload_n 0, 1) := by decide +kernel
theorem dX8_ifComparers_56 : decode cX8_ifComparers 56 = .ok (.getfield 13, 3) := by decide +kernel
theorem dX8_ifComparers_59 : decode cX8_ifComparers 59 = .ok (.iconst 5, 1) := by decide +kernel
theorem dX8_ifComparers_60 : decode cX8_ifComparers 60 = .ok (.iaload, 1) := by decide +kernel
theorem dX8_ifComparers_61 : decode cX8_ifComparers 61 = .ok (.goto 25, 3) := by decide +kernel
theorem dX8_ifComparers_64 : decode cX8_ifComparers 64 = .ok (.iload_n 3, 1) := by decide +kernel
theorem dX8_ifComparers_65 : decode cX8_ifComparers 65 = .ok (.iconst 2, 1) := by decide +kernel
theorem dX8_ifComparers_66 : decode cX8_ifComparers 66 = .ok (.if_icmp .ne 13, 3) := by decide +kernel
theorem dX8_ifComparers_69 : decode cX8_ifComparers 69 = .ok (.aload_n 0, 1) := by decide +kernel
theorem dX8_ifComparers_70 : decode cX8_ifComparers 70 = .ok (.getfield 13, 3) := by decide +kernel
theorem dX8_ifComparers_73 : decode cX8_ifComparers 73 = .ok (.bipush 6, 2) := by decide +kernel
theorem dX8_ifComparers_75 : decode cX8_ifComparers 75 = .ok (.iaload, 1) := by decide +kernel
theorem dX8_ifComparers_76 : decode cX8_ifComparers 76 = .ok (.goto 10, 3) := by decide +kernel
theorem dX8_ifComparers_79 : decode cX8_ifComparers 79 = .ok (.aload_n 0, 1) := by decide +kernel
theorem dX8_ifComparers_80 : decode cX8_ifComparers 80 = .ok (.getfield 13, 3) := by decide +kernel
theorem dX8_ifComparers_83 : decode cX8_ifComparers 83 = .ok (.bipush 7, 2) := by decide +kernel
theorem dX8_ifComparers_85 : decode cX8_ifComparers 85 = .ok (.iaload, 1) := by decide +kernel
theorem dX8_ifComparers_86 : decode cX8_ifComparers 86 = .ok (.ireturn, 1) := by decide +kernel
theorem dX8_fewest_0 : decode cX8_fewest 0 = .ok (.iload_n 1, 1) := by decide +kernel
theorem dX8_fewest_1 : decode cX8_fewest 1 = .ok (.iconst 1, 1) := by decide +kernel
theorem dX8_fewest_2 : decode cX8_fewest 2 = .ok (.sipush 500, 3) := by decide +kernel
theorem dX8_fewest_5 : decode cX8_fewest 5 = .ok (.invokestatic 105, 3) := by decide +kernel
theorem dX8_fewest_8 : decode cX8_fewest 8 = .ok (.ifCond .ne 7, 3) := by decide +kernel
theorem dX8_fewest_11 : decode cX8_fewest 11 = .ok (.sipush (-1002), 3) := by decide +kernel
theorem dX8_fewest_14 : decode cX8_fewest 14 = .ok (.ireturn, 1) := by decide +kernel
theorem dX8_fewest_15 : decode cX8_fewest 15 = .ok (.iconst 0, 1) := by decide +kernel
theorem dX8_fewest_16 : decode cX8_fewest 16 = .ok (.istore_n 2, 1) := by decide +kernel
theorem dX8_fewest_17 : decode cX8_fewest 17 = .ok (.iconst 0, 1) := by decide +kernel
theorem dX8_fewest_18 : decode cX8_fewest 18 = .ok (.istore_n 3, 1) := by decide +kernel
theorem dX8_fewest_19 : decode cX8_fewest 19 = .ok (.iconst 1, 1) := by decide +kernel
theorem dX8_fewest_20 : decode cX8_fewest 20 = .ok (.istore 4, 2) := by decide +kernel
theorem dX8_fewest_22 : decode cX8_fewest 22 = .ok (.iload 4, 2) := by decide +kernel
theorem dX8_fewest_24 : decode cX8_fewest 24 = .ok (.iconst 5, 1) := by decide +kernel
theorem dX8_fewest_25 : decode cX8_fewest 25 = .ok (.if_icmp .ge 72, 3) := by decide +kernel
theorem dX8_fewest_28 : decode cX8_fewest 28 = .ok (.aload_n 0, 1) := by decide +kernel
theorem dX8_fewest_29 : decode cX8_fewest 29 = .ok (.iload 4, 2) := by decide +kernel
theorem dX8_fewest_31 : decode cX8_fewest 31 = .ok (.iload_n 1, 1) := by decide +kernel
theorem dX8_fewest_32 : decode cX8_fewest 32 = .ok (.invokevirtual 169, 3) := by decide +kernel
theorem dX8_fewest_35 : decode cX8_fewest 35 = .ok (.istore 5, 2) := by decide +kernel
theorem dX8_fewest_37 : decode cX8_fewest 37 = .ok (.iload_n 2, 1) := by decide +kernel
theorem dX8_fewest_38 : decode cX8_fewest 38 = .ok (.ifCond .eq 13, 3) := by decide +kernel
theorem dX8_fewest_41 : decode cX8_fewest 41 = .ok (.aload_n 0, 1) := by decide +kernel
theorem dX8_fewest_42 : decode cX8_fewest 42 = .ok (.getfield 13, 3) := by decide +kernel
theorem dX8_fewest_45 : decode cX8_fewest 45 = .ok (.iconst 5, 1) := by decide +kernel
theorem dX8_fewest_46 : decode cX8_fewest 46 = .ok (.iaload, 1) := by decide +kernel
theorem dX8_fewest_47 : decode cX8_fewest 47 = .ok (.iload_n 3, 1) := by decide +kernel
theorem dX8_fewest_48 : decode cX8_fewest 48 = .ok (.if_icmp .ge 7, 3) := by decide +kernel
theorem dX8_fewest_51 : decode cX8_fewest 51 = .ok (.iconst 1, 1) := by decide +kernel
theorem dX8_fewest_52 : decode cX8_fewest 52 = .ok (.goto 4, 3) := by decide +kernel
theorem dX8_fewest_55 : decode cX8_fewest 55 = .ok (.iconst 0, 1) := by decide +kernel
theorem dX8_fewest_56 : decode cX8_fewest 56 = .ok (.istore 6, 2) := by decide +kernel
theorem dX8_fewest_58 : decode cX8_fewest 58 = .ok (.iload 6, 2) := by decide +kernel
theorem dX8_fewest_60 : decode cX8_fewest 60 = .ok (.ifCond .eq 13, 3) := by decide +kernel
theorem dX8_fewest_63 : decode cX8_fewest 63 = .ok (.iload 5, 2) := by decide +kernel
theorem dX8_fewest_65 : decode cX8_fewest 65 = .ok (.ifCond .lt 8, 3) := by decide +kernel
theorem dX8_fewest_68 : decode cX8_fewest 68 = .ok (.iload 4, 2) := by decide +kernel
theorem dX8_fewest_70 : decode cX8_fewest 70 = .ok (.goto 4, 3) := by decide +kernel
theorem dX8_fewest_73 : decode cX8_fewest 73 = .ok (.iload_n 2, 1) := by decide +kernel
theorem dX8_fewest_74 : decode cX8_fewest 74 = .ok (.istore_n 2, 1) := by decide +kernel
theorem dX8_fewest_75 : decode cX8_fewest 75 = .ok (.iload 6, 2) := by decide +kernel
theorem dX8_fewest_77 : decode cX8_fewest 77 = .ok (.ifCond .eq 12, 3) := by decide +kernel
theorem dX8_fewest_80 : decode cX8_fewest 80 = .ok (.aload_n 0, 1) := by decide +kernel
theorem dX8_fewest_81 : decode cX8_fewest 81 = .ok (.getfield 13, 3) := by decide +kernel
theorem dX8_fewest_84 : decode cX8_fewest 84 = .ok (.iconst 5, 1) := by decide +kernel
theorem dX8_fewest_85 : decode cX8_fewest 85 = .ok (.iaload, 1) := by decide +kernel
theorem dX8_fewest_86 : decode cX8_fewest 86 = .ok (.goto 4, 3) := by decide +kernel
theorem dX8_fewest_89 : decode cX8_fewest 89 = .ok (.iload_n 3, 1) := by decide +kernel
theorem dX8_fewest_90 : decode cX8_fewest 90 = .ok (.istore_n 3, 1) := by decide +kernel
theorem dX8_fewest_91 : decode cX8_fewest 91 = .ok (.iinc 4 1, 3) := by decide +kernel
theorem dX8_fewest_94 : decode cX8_fewest 94 = .ok (.goto (-72), 3) := by decide +kernel
theorem dX8_fewest_97 : decode cX8_fewest 97 = .ok (.iload_n 2, 1) := by decide +kernel
theorem dX8_fewest_98 : decode cX8_fewest 98 = .ok (.ireturn, 1) := by decide +kernel
theorem dX8_ring_0 : decode cX8_ring 0 = .ok (.iload_n 1, 1) := by decide +kernel
theorem dX8_ring_1 : decode cX8_ring 1 = .ok (.ifCond .lt 12, 3) := by decide +kernel
theorem dX8_ring_4 : decode cX8_ring 4 = .ok (.iload_n 2, 1) := by decide +kernel
theorem dX8_ring_5 : decode cX8_ring 5 = .ok (.iconst 0, 1) := by decide +kernel
theorem dX8_ring_6 : decode cX8_ring 6 = .ok (.iconst 3, 1) := by decide +kernel
theorem dX8_ring_7 : decode cX8_ring 7 = .ok (.invokestatic 105, 3) := by decide +kernel
theorem dX8_ring_10 : decode cX8_ring 10 = .ok (.ifCond .ne 7, 3) := by decide +kernel
theorem dX8_ring_13 : decode cX8_ring 13 = .ok (.sipush (-1002), 3) := by decide +kernel
theorem dX8_ring_16 : decode cX8_ring 16 = .ok (.ireturn, 1) := by decide +kernel
theorem dX8_ring_17 : decode cX8_ring 17 = .ok (.iload_n 1, 1) := by decide +kernel
theorem dX8_ring_18 : decode cX8_ring 18 = .ok (.aload_n 0, 1) := by decide +kernel
theorem dX8_ring_19 : decode cX8_ring 19 = .ok (.getfield 7, 3) := by decide +kernel
theorem dX8_ring_22 : decode cX8_ring 22 = .ok (.sipush 194, 3) := by decide +kernel
theorem dX8_ring_25 : decode cX8_ring 25 = .ok (.iaload, 1) := by decide +kernel
theorem dX8_ring_26 : decode cX8_ring 26 = .ok (.if_icmp .ge 20, 3) := by decide +kernel
theorem dX8_ring_29 : decode cX8_ring 29 = .ok (.aload_n 0, 1) := by decide +kernel
theorem dX8_ring_30 : decode cX8_ring 30 = .ok (.getfield 7, 3) := by decide +kernel
theorem dX8_ring_33 : decode cX8_ring 33 = .ok (.sipush 162, 3) := by decide +kernel
theorem dX8_ring_36 : decode cX8_ring 36 = .ok (.iconst 4, 1) := by decide +kernel
theorem dX8_ring_37 : decode cX8_ring 37 = .ok (.iload_n 1, 1) := by decide +kernel
theorem dX8_ring_38 : decode cX8_ring 38 = .ok (.imul, 1) := by decide +kernel
theorem dX8_ring_39 : decode cX8_ring 39 = .ok (.iadd, 1) := by decide +kernel
theorem dX8_ring_40 : decode cX8_ring 40 = .ok (.iload_n 2, 1) := by decide +kernel
theorem dX8_ring_41 : decode cX8_ring 41 = .ok (.iadd, 1) := by decide +kernel
theorem dX8_ring_42 : decode cX8_ring 42 = .ok (.iaload, 1) := by decide +kernel
theorem dX8_ring_43 : decode cX8_ring 43 = .ok (.goto 6, 3) := by decide +kernel
theorem dX8_ring_46 : decode cX8_ring 46 = .ok (.sipush (-1005), 3) := by decide +kernel
theorem dX8_ring_49 : decode cX8_ring 49 = .ok (.ireturn, 1) := by decide +kernel
theorem dX8_free_0 : decode cX8_free 0 = .ok (.iconst 0, 1) := by decide +kernel
theorem dX8_free_1 : decode cX8_free 1 = .ok (.istore_n 1, 1) := by decide +kernel
theorem dX8_free_2 : decode cX8_free 2 = .ok (.iconst 0, 1) := by decide +kernel
theorem dX8_free_3 : decode cX8_free 3 = .ok (.istore_n 2, 1) := by decide +kernel
theorem dX8_free_4 : decode cX8_free 4 = .ok (.iload_n 2, 1) := by decide +kernel
theorem dX8_free_5 : decode cX8_free 5 = .ok (.aload_n 0, 1) := by decide +kernel
theorem dX8_free_6 : decode cX8_free 6 = .ok (.getfield 7, 3) := by decide +kernel
theorem dX8_free_9 : decode cX8_free 9 = .ok (.bipush 10, 2) := by decide +kernel
theorem dX8_free_11 : decode cX8_free 11 = .ok (.iaload, 1) := by decide +kernel
theorem dX8_free_12 : decode cX8_free 12 = .ok (.if_icmp .ge 31, 3) := by decide +kernel
theorem dX8_free_15 : decode cX8_free 15 = .ok (.iload_n 1, 1) := by decide +kernel
theorem dX8_free_16 : decode cX8_free 16 = .ok (.aload_n 0, 1) := by decide +kernel
theorem dX8_free_17 : decode cX8_free 17 = .ok (.getfield 7, 3) := by decide +kernel
theorem dX8_free_20 : decode cX8_free 20 = .ok (.iload_n 2, 1) := by decide +kernel
theorem dX8_free_21 : decode cX8_free 21 = .ok (.invokestatic 49, 3) := by decide +kernel
theorem dX8_free_24 : decode cX8_free 24 = .ok (.sipush (-1005), 3) := by decide +kernel
theorem dX8_free_27 : decode cX8_free 27 = .ok (.if_icmp .ne 7, 3) := by decide +kernel
theorem dX8_free_30 : decode cX8_free 30 = .ok (.iconst 1, 1) := by decide +kernel
theorem dX8_free_31 : decode cX8_free 31 = .ok (.goto 4, 3) := by decide +kernel
theorem dX8_free_34 : decode cX8_free 34 = .ok (.iconst 0, 1) := by decide +kernel
theorem dX8_free_35 : decode cX8_free 35 = .ok (.iadd, 1) := by decide +kernel
theorem dX8_free_36 : decode cX8_free 36 = .ok (.istore_n 1, 1) := by decide +kernel
theorem dX8_free_37 : decode cX8_free 37 = .ok (.iinc 2 1, 3) := by decide +kernel
theorem dX8_free_40 : decode cX8_free 40 = .ok (.goto (-36), 3) := by decide +kernel
theorem dX8_free_43 : decode cX8_free 43 = .ok (.iload_n 1, 1) := by decide +kernel
theorem dX8_free_44 : decode cX8_free 44 = .ok (.ireturn, 1) := by decide +kernel
theorem dX8_count_0 : decode cX8_count 0 = .ok (.iload_n 1, 1) := by decide +kernel
theorem dX8_count_1 : decode cX8_count 1 = .ok (.tableswitch 132 0 17 #[87, 87, 87, 87, 94, 105, 110, 110, 110, 110, 110, 110, 110, 110, 110, 110, 122, 127], 87) := by decide +kernel
theorem dX8_count_88 : decode cX8_count 88 = .ok (.aload_n 0, 1) := by decide +kernel
theorem dX8_count_89 : decode cX8_count 89 = .ok (.getfield 7, 3) := by decide +kernel
theorem dX8_count_92 : decode cX8_count 92 = .ok (.iload_n 1, 1) := by decide +kernel
theorem dX8_count_93 : decode cX8_count 93 = .ok (.iaload, 1) := by decide +kernel
theorem dX8_count_94 : decode cX8_count 94 = .ok (.ireturn, 1) := by decide +kernel
theorem dX8_count_95 : decode cX8_count 95 = .ok (.aload_n 0, 1) := by decide +kernel
theorem dX8_count_96 : decode cX8_count 96 = .ok (.getfield 7, 3) := by decide +kernel
theorem dX8_count_99 : decode cX8_count 99 = .ok (.sipush (-1005), 3) := by decide +kernel
theorem dX8_count_102 : decode cX8_count 102 = .ok (.invokestatic 166, 3) := by decide +kernel
theorem dX8_count_105 : decode cX8_count 105 = .ok (.ireturn, 1) := by decide +kernel
theorem dX8_count_106 : decode cX8_count 106 = .ok (.aload_n 0, 1) := by decide +kernel
theorem dX8_count_107 : decode cX8_count 107 = .ok (.invokevirtual 172, 3) := by decide +kernel
theorem dX8_count_110 : decode cX8_count 110 = .ok (.ireturn, 1) := by decide +kernel
theorem dX8_count_111 : decode cX8_count 111 = .ok (.aload_n 0, 1) := by decide +kernel
theorem dX8_count_112 : decode cX8_count 112 = .ok (.getfield 7, 3) := by decide +kernel
theorem dX8_count_115 : decode cX8_count 115 = .ok (.iconst 4, 1) := by decide +kernel
theorem dX8_count_116 : decode cX8_count 116 = .ok (.iload_n 1, 1) := by decide +kernel
theorem dX8_count_117 : decode cX8_count 117 = .ok (.iadd, 1) := by decide +kernel
theorem dX8_count_118 : decode cX8_count 118 = .ok (.bipush 6, 2) := by decide +kernel
theorem dX8_count_120 : decode cX8_count 120 = .ok (.isub, 1) := by decide +kernel
theorem dX8_count_121 : decode cX8_count 121 = .ok (.iaload, 1) := by decide +kernel
theorem dX8_count_122 : decode cX8_count 122 = .ok (.ireturn, 1) := by decide +kernel
theorem dX8_count_123 : decode cX8_count 123 = .ok (.aload_n 0, 1) := by decide +kernel
theorem dX8_count_124 : decode cX8_count 124 = .ok (.getfield 29, 3) := by decide +kernel
theorem dX8_count_127 : decode cX8_count 127 = .ok (.ireturn, 1) := by decide +kernel
theorem dX8_count_128 : decode cX8_count 128 = .ok (.aload_n 0, 1) := by decide +kernel
theorem dX8_count_129 : decode cX8_count 129 = .ok (.getfield 138, 3) := by decide +kernel
theorem dX8_count_132 : decode cX8_count 132 = .ok (.ireturn, 1) := by decide +kernel
theorem dX8_count_133 : decode cX8_count 133 = .ok (.sipush (-1002), 3) := by decide +kernel
theorem dX8_count_136 : decode cX8_count 136 = .ok (.ireturn, 1) := by decide +kernel
