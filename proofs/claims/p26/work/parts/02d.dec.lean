theorem dL_part_0 : decode cL_part 0 = .ok (.iload_n 0, 1) := by decide +kernel
theorem dL_part_1 : decode cL_part 1 = .ok (.ldc 7, 2) := by decide +kernel
theorem dL_part_3 : decode cL_part 3 = .ok (.iand, 1) := by decide +kernel
theorem dL_part_4 : decode cL_part 4 = .ok (.iload_n 1, 1) := by decide +kernel
theorem dL_part_5 : decode cL_part 5 = .ok (.irem, 1) := by decide +kernel
theorem dL_part_6 : decode cL_part 6 = .ok (.ireturn, 1) := by decide +kernel
theorem dL_drawn_0 : decode cL_drawn 0 = .ok (.aload_n 0, 1) := by decide +kernel
theorem dL_drawn_1 : decode cL_drawn 1 = .ok (.arraylength, 1) := by decide +kernel
theorem dL_drawn_2 : decode cL_drawn 2 = .ok (.ifCond .ne 13, 3) := by decide +kernel
theorem dL_drawn_5 : decode cL_drawn 5 = .ok (.sipush 7919, 3) := by decide +kernel
theorem dL_drawn_8 : decode cL_drawn 8 = .ok (.iload_n 1, 1) := by decide +kernel
theorem dL_drawn_9 : decode cL_drawn 9 = .ok (.imul, 1) := by decide +kernel
theorem dL_drawn_10 : decode cL_drawn 10 = .ok (.iconst 3, 1) := by decide +kernel
theorem dL_drawn_11 : decode cL_drawn 11 = .ok (.iadd, 1) := by decide +kernel
theorem dL_drawn_12 : decode cL_drawn 12 = .ok (.goto 27, 3) := by decide +kernel
theorem dL_drawn_15 : decode cL_drawn 15 = .ok (.aload_n 0, 1) := by decide +kernel
theorem dL_drawn_16 : decode cL_drawn 16 = .ok (.iload_n 1, 1) := by decide +kernel
theorem dL_drawn_17 : decode cL_drawn 17 = .ok (.aload_n 0, 1) := by decide +kernel
theorem dL_drawn_18 : decode cL_drawn 18 = .ok (.arraylength, 1) := by decide +kernel
theorem dL_drawn_19 : decode cL_drawn 19 = .ok (.irem, 1) := by decide +kernel
theorem dL_drawn_20 : decode cL_drawn 20 = .ok (.iaload, 1) := by decide +kernel
theorem dL_drawn_21 : decode cL_drawn 21 = .ok (.iload_n 1, 1) := by decide +kernel
theorem dL_drawn_22 : decode cL_drawn 22 = .ok (.bipush 7, 2) := by decide +kernel
theorem dL_drawn_24 : decode cL_drawn 24 = .ok (.irem, 1) := by decide +kernel
theorem dL_drawn_25 : decode cL_drawn 25 = .ok (.ishr, 1) := by decide +kernel
theorem dL_drawn_26 : decode cL_drawn 26 = .ok (.iload_n 1, 1) := by decide +kernel
theorem dL_drawn_27 : decode cL_drawn 27 = .ok (.aload_n 0, 1) := by decide +kernel
theorem dL_drawn_28 : decode cL_drawn 28 = .ok (.arraylength, 1) := by decide +kernel
theorem dL_drawn_29 : decode cL_drawn 29 = .ok (.idiv, 1) := by decide +kernel
theorem dL_drawn_30 : decode cL_drawn 30 = .ok (.bipush 31, 2) := by decide +kernel
theorem dL_drawn_32 : decode cL_drawn 32 = .ok (.imul, 1) := by decide +kernel
theorem dL_drawn_33 : decode cL_drawn 33 = .ok (.ixor, 1) := by decide +kernel
theorem dL_drawn_34 : decode cL_drawn 34 = .ok (.iload_n 1, 1) := by decide +kernel
theorem dL_drawn_35 : decode cL_drawn 35 = .ok (.ldc 8, 2) := by decide +kernel
theorem dL_drawn_37 : decode cL_drawn 37 = .ok (.imul, 1) := by decide +kernel
theorem dL_drawn_38 : decode cL_drawn 38 = .ok (.ixor, 1) := by decide +kernel
theorem dL_drawn_39 : decode cL_drawn 39 = .ok (.ireturn, 1) := by decide +kernel
theorem dL_seen_0 : decode cL_seen 0 = .ok (.ldc2_w 9, 3) := by decide +kernel
theorem dL_seen_3 : decode cL_seen 3 = .ok (.lstore_n 1, 1) := by decide +kernel
theorem dL_seen_4 : decode cL_seen 4 = .ok (.iconst 0, 1) := by decide +kernel
theorem dL_seen_5 : decode cL_seen 5 = .ok (.istore_n 3, 1) := by decide +kernel
theorem dL_seen_6 : decode cL_seen 6 = .ok (.iload_n 3, 1) := by decide +kernel
theorem dL_seen_7 : decode cL_seen 7 = .ok (.bipush 16, 2) := by decide +kernel
theorem dL_seen_9 : decode cL_seen 9 = .ok (.if_icmp .ge 22, 3) := by decide +kernel
theorem dL_seen_12 : decode cL_seen 12 = .ok (.ldc2_w 11, 3) := by decide +kernel
theorem dL_seen_15 : decode cL_seen 15 = .ok (.lload_n 1, 1) := by decide +kernel
theorem dL_seen_16 : decode cL_seen 16 = .ok (.lmul, 1) := by decide +kernel
theorem dL_seen_17 : decode cL_seen 17 = .ok (.aload_n 0, 1) := by decide +kernel
theorem dL_seen_18 : decode cL_seen 18 = .ok (.iload_n 3, 1) := by decide +kernel
theorem dL_seen_19 : decode cL_seen 19 = .ok (.invokevirtual 13, 3) := by decide +kernel
theorem dL_seen_22 : decode cL_seen 22 = .ok (.i2l, 1) := by decide +kernel
theorem dL_seen_23 : decode cL_seen 23 = .ok (.ladd, 1) := by decide +kernel
theorem dL_seen_24 : decode cL_seen 24 = .ok (.lstore_n 1, 1) := by decide +kernel
theorem dL_seen_25 : decode cL_seen 25 = .ok (.iinc 3 1, 3) := by decide +kernel
theorem dL_seen_28 : decode cL_seen 28 = .ok (.goto (-22), 3) := by decide +kernel
theorem dL_seen_31 : decode cL_seen 31 = .ok (.iconst 0, 1) := by decide +kernel
theorem dL_seen_32 : decode cL_seen 32 = .ok (.istore_n 3, 1) := by decide +kernel
theorem dL_seen_33 : decode cL_seen 33 = .ok (.iload_n 3, 1) := by decide +kernel
theorem dL_seen_34 : decode cL_seen 34 = .ok (.bipush 7, 2) := by decide +kernel
theorem dL_seen_36 : decode cL_seen 36 = .ok (.aload_n 0, 1) := by decide +kernel
theorem dL_seen_37 : decode cL_seen 37 = .ok (.iconst 2, 1) := by decide +kernel
theorem dL_seen_38 : decode cL_seen 38 = .ok (.invokevirtual 13, 3) := by decide +kernel
theorem dL_seen_41 : decode cL_seen 41 = .ok (.imul, 1) := by decide +kernel
theorem dL_seen_42 : decode cL_seen 42 = .ok (.if_icmp .ge 47, 3) := by decide +kernel
theorem dL_seen_45 : decode cL_seen 45 = .ok (.ldc2_w 11, 3) := by decide +kernel
theorem dL_seen_48 : decode cL_seen 48 = .ok (.ldc2_w 11, 3) := by decide +kernel
theorem dL_seen_51 : decode cL_seen 51 = .ok (.lload_n 1, 1) := by decide +kernel
theorem dL_seen_52 : decode cL_seen 52 = .ok (.lmul, 1) := by decide +kernel
theorem dL_seen_53 : decode cL_seen 53 = .ok (.aload_n 0, 1) := by decide +kernel
theorem dL_seen_54 : decode cL_seen 54 = .ok (.iload_n 3, 1) := by decide +kernel
theorem dL_seen_55 : decode cL_seen 55 = .ok (.bipush 7, 2) := by decide +kernel
theorem dL_seen_57 : decode cL_seen 57 = .ok (.idiv, 1) := by decide +kernel
theorem dL_seen_58 : decode cL_seen 58 = .ok (.invokevirtual 19, 3) := by decide +kernel
theorem dL_seen_61 : decode cL_seen 61 = .ok (.i2l, 1) := by decide +kernel
theorem dL_seen_62 : decode cL_seen 62 = .ok (.ladd, 1) := by decide +kernel
theorem dL_seen_63 : decode cL_seen 63 = .ok (.lmul, 1) := by decide +kernel
theorem dL_seen_64 : decode cL_seen 64 = .ok (.aload_n 0, 1) := by decide +kernel
theorem dL_seen_65 : decode cL_seen 65 = .ok (.aload_n 0, 1) := by decide +kernel
theorem dL_seen_66 : decode cL_seen 66 = .ok (.iload_n 3, 1) := by decide +kernel
theorem dL_seen_67 : decode cL_seen 67 = .ok (.bipush 7, 2) := by decide +kernel
theorem dL_seen_69 : decode cL_seen 69 = .ok (.idiv, 1) := by decide +kernel
theorem dL_seen_70 : decode cL_seen 70 = .ok (.invokevirtual 19, 3) := by decide +kernel
theorem dL_seen_73 : decode cL_seen 73 = .ok (.iload_n 3, 1) := by decide +kernel
theorem dL_seen_74 : decode cL_seen 74 = .ok (.bipush 7, 2) := by decide +kernel
theorem dL_seen_76 : decode cL_seen 76 = .ok (.irem, 1) := by decide +kernel
theorem dL_seen_77 : decode cL_seen 77 = .ok (.invokevirtual 22, 3) := by decide +kernel
theorem dL_seen_80 : decode cL_seen 80 = .ok (.i2l, 1) := by decide +kernel
theorem dL_seen_81 : decode cL_seen 81 = .ok (.ladd, 1) := by decide +kernel
theorem dL_seen_82 : decode cL_seen 82 = .ok (.lstore_n 1, 1) := by decide +kernel
theorem dL_seen_83 : decode cL_seen 83 = .ok (.iinc 3 1, 3) := by decide +kernel
theorem dL_seen_86 : decode cL_seen 86 = .ok (.goto (-53), 3) := by decide +kernel
theorem dL_seen_89 : decode cL_seen 89 = .ok (.iconst 0, 1) := by decide +kernel
theorem dL_seen_90 : decode cL_seen 90 = .ok (.istore_n 3, 1) := by decide +kernel
theorem dL_seen_91 : decode cL_seen 91 = .ok (.iload_n 3, 1) := by decide +kernel
theorem dL_seen_92 : decode cL_seen 92 = .ok (.iconst 4, 1) := by decide +kernel
theorem dL_seen_93 : decode cL_seen 93 = .ok (.aload_n 0, 1) := by decide +kernel
theorem dL_seen_94 : decode cL_seen 94 = .ok (.bipush 12, 2) := by decide +kernel
theorem dL_seen_96 : decode cL_seen 96 = .ok (.invokevirtual 13, 3) := by decide +kernel
theorem dL_seen_99 : decode cL_seen 99 = .ok (.imul, 1) := by decide +kernel
theorem dL_seen_100 : decode cL_seen 100 = .ok (.if_icmp .ge 27, 3) := by decide +kernel
theorem dL_seen_103 : decode cL_seen 103 = .ok (.ldc2_w 11, 3) := by decide +kernel
theorem dL_seen_106 : decode cL_seen 106 = .ok (.lload_n 1, 1) := by decide +kernel
theorem dL_seen_107 : decode cL_seen 107 = .ok (.lmul, 1) := by decide +kernel
theorem dL_seen_108 : decode cL_seen 108 = .ok (.aload_n 0, 1) := by decide +kernel
theorem dL_seen_109 : decode cL_seen 109 = .ok (.iload_n 3, 1) := by decide +kernel
theorem dL_seen_110 : decode cL_seen 110 = .ok (.iconst 4, 1) := by decide +kernel
theorem dL_seen_111 : decode cL_seen 111 = .ok (.idiv, 1) := by decide +kernel
theorem dL_seen_112 : decode cL_seen 112 = .ok (.iload_n 3, 1) := by decide +kernel
theorem dL_seen_113 : decode cL_seen 113 = .ok (.iconst 4, 1) := by decide +kernel
theorem dL_seen_114 : decode cL_seen 114 = .ok (.irem, 1) := by decide +kernel
theorem dL_seen_115 : decode cL_seen 115 = .ok (.invokevirtual 26, 3) := by decide +kernel
theorem dL_seen_118 : decode cL_seen 118 = .ok (.i2l, 1) := by decide +kernel
theorem dL_seen_119 : decode cL_seen 119 = .ok (.ladd, 1) := by decide +kernel
theorem dL_seen_120 : decode cL_seen 120 = .ok (.lstore_n 1, 1) := by decide +kernel
theorem dL_seen_121 : decode cL_seen 121 = .ok (.iinc 3 1, 3) := by decide +kernel
theorem dL_seen_124 : decode cL_seen 124 = .ok (.goto (-33), 3) := by decide +kernel
theorem dL_seen_127 : decode cL_seen 127 = .ok (.iconst 0, 1) := by decide +kernel
theorem dL_seen_128 : decode cL_seen 128 = .ok (.istore_n 3, 1) := by decide +kernel
theorem dL_seen_129 : decode cL_seen 129 = .ok (.iload_n 3, 1) := by decide +kernel
theorem dL_seen_130 : decode cL_seen 130 = .ok (.bipush 32, 2) := by decide +kernel
theorem dL_seen_132 : decode cL_seen 132 = .ok (.if_icmp .ge 27, 3) := by decide +kernel
theorem dL_seen_135 : decode cL_seen 135 = .ok (.ldc2_w 11, 3) := by decide +kernel
theorem dL_seen_138 : decode cL_seen 138 = .ok (.lload_n 1, 1) := by decide +kernel
theorem dL_seen_139 : decode cL_seen 139 = .ok (.lmul, 1) := by decide +kernel
theorem dL_seen_140 : decode cL_seen 140 = .ok (.aload_n 0, 1) := by decide +kernel
theorem dL_seen_141 : decode cL_seen 141 = .ok (.iload_n 3, 1) := by decide +kernel
theorem dL_seen_142 : decode cL_seen 142 = .ok (.iconst 4, 1) := by decide +kernel
theorem dL_seen_143 : decode cL_seen 143 = .ok (.idiv, 1) := by decide +kernel
theorem dL_seen_144 : decode cL_seen 144 = .ok (.iload_n 3, 1) := by decide +kernel
theorem dL_seen_145 : decode cL_seen 145 = .ok (.iconst 4, 1) := by decide +kernel
theorem dL_seen_146 : decode cL_seen 146 = .ok (.irem, 1) := by decide +kernel
theorem dL_seen_147 : decode cL_seen 147 = .ok (.invokevirtual 29, 3) := by decide +kernel
theorem dL_seen_150 : decode cL_seen 150 = .ok (.i2l, 1) := by decide +kernel
theorem dL_seen_151 : decode cL_seen 151 = .ok (.ladd, 1) := by decide +kernel
theorem dL_seen_152 : decode cL_seen 152 = .ok (.lstore_n 1, 1) := by decide +kernel
theorem dL_seen_153 : decode cL_seen 153 = .ok (.iinc 3 1, 3) := by decide +kernel
theorem dL_seen_156 : decode cL_seen 156 = .ok (.goto (-27), 3) := by decide +kernel
theorem dL_seen_159 : decode cL_seen 159 = .ok (.lload_n 1, 1) := by decide +kernel
theorem dL_seen_160 : decode cL_seen 160 = .ok (.lreturn, 1) := by decide +kernel
theorem dL_refusesAny_0 : decode cL_refusesAny 0 = .ok (.iload_n 1, 1) := by decide +kernel
theorem dL_refusesAny_1 : decode cL_refusesAny 1 = .ok (.ifCond .ne 7, 3) := by decide +kernel
theorem dL_refusesAny_4 : decode cL_refusesAny 4 = .ok (.iconst (-1), 1) := by decide +kernel
theorem dL_refusesAny_5 : decode cL_refusesAny 5 = .ok (.goto 8, 3) := by decide +kernel
theorem dL_refusesAny_8 : decode cL_refusesAny 8 = .ok (.aload_n 0, 1) := by decide +kernel
theorem dL_refusesAny_9 : decode cL_refusesAny 9 = .ok (.iconst 3, 1) := by decide +kernel
theorem dL_refusesAny_10 : decode cL_refusesAny 10 = .ok (.invokevirtual 13, 3) := by decide +kernel
theorem dL_refusesAny_13 : decode cL_refusesAny 13 = .ok (.istore_n 2, 1) := by decide +kernel
theorem dL_refusesAny_14 : decode cL_refusesAny 14 = .ok (.iload_n 1, 1) := by decide +kernel
theorem dL_refusesAny_15 : decode cL_refusesAny 15 = .ok (.ifCond .ne 7, 3) := by decide +kernel
theorem dL_refusesAny_18 : decode cL_refusesAny 18 = .ok (.iconst (-1), 1) := by decide +kernel
theorem dL_refusesAny_19 : decode cL_refusesAny 19 = .ok (.goto 5, 3) := by decide +kernel
theorem dL_refusesAny_22 : decode cL_refusesAny 22 = .ok (.ldc 32, 2) := by decide +kernel
theorem dL_refusesAny_24 : decode cL_refusesAny 24 = .ok (.istore_n 3, 1) := by decide +kernel
theorem dL_refusesAny_25 : decode cL_refusesAny 25 = .ok (.aload_n 0, 1) := by decide +kernel
theorem dL_refusesAny_26 : decode cL_refusesAny 26 = .ok (.iload_n 3, 1) := by decide +kernel
theorem dL_refusesAny_27 : decode cL_refusesAny 27 = .ok (.iconst 0, 1) := by decide +kernel
theorem dL_refusesAny_28 : decode cL_refusesAny 28 = .ok (.iconst 0, 1) := by decide +kernel
theorem dL_refusesAny_29 : decode cL_refusesAny 29 = .ok (.invokevirtual 33, 3) := by decide +kernel
theorem dL_refusesAny_32 : decode cL_refusesAny 32 = .ok (.sipush (-1002), 3) := by decide +kernel
theorem dL_refusesAny_35 : decode cL_refusesAny 35 = .ok (.if_icmp .ne 217, 3) := by decide +kernel
theorem dL_refusesAny_38 : decode cL_refusesAny 38 = .ok (.aload_n 0, 1) := by decide +kernel
theorem dL_refusesAny_39 : decode cL_refusesAny 39 = .ok (.ldc 39, 2) := by decide +kernel
theorem dL_refusesAny_41 : decode cL_refusesAny 41 = .ok (.iload_n 1, 1) := by decide +kernel
theorem dL_refusesAny_42 : decode cL_refusesAny 42 = .ok (.ifCond .ne 7, 3) := by decide +kernel
theorem dL_refusesAny_45 : decode cL_refusesAny 45 = .ok (.iconst (-1), 1) := by decide +kernel
theorem dL_refusesAny_46 : decode cL_refusesAny 46 = .ok (.goto 6, 3) := by decide +kernel
theorem dL_refusesAny_49 : decode cL_refusesAny 49 = .ok (.sipush 10000, 3) := by decide +kernel
theorem dL_refusesAny_52 : decode cL_refusesAny 52 = .ok (.iconst 0, 1) := by decide +kernel
theorem dL_refusesAny_53 : decode cL_refusesAny 53 = .ok (.invokevirtual 33, 3) := by decide +kernel
theorem dL_refusesAny_56 : decode cL_refusesAny 56 = .ok (.sipush (-1002), 3) := by decide +kernel
theorem dL_refusesAny_59 : decode cL_refusesAny 59 = .ok (.if_icmp .ne 193, 3) := by decide +kernel
theorem dL_refusesAny_62 : decode cL_refusesAny 62 = .ok (.aload_n 0, 1) := by decide +kernel
theorem dL_refusesAny_63 : decode cL_refusesAny 63 = .ok (.ldc 39, 2) := by decide +kernel
theorem dL_refusesAny_65 : decode cL_refusesAny 65 = .ok (.iconst 0, 1) := by decide +kernel
theorem dL_refusesAny_66 : decode cL_refusesAny 66 = .ok (.iload_n 1, 1) := by decide +kernel
theorem dL_refusesAny_67 : decode cL_refusesAny 67 = .ok (.ifCond .ne 7, 3) := by decide +kernel
theorem dL_refusesAny_70 : decode cL_refusesAny 70 = .ok (.iconst (-1), 1) := by decide +kernel
theorem dL_refusesAny_71 : decode cL_refusesAny 71 = .ok (.goto 4, 3) := by decide +kernel
theorem dL_refusesAny_74 : decode cL_refusesAny 74 = .ok (.iconst 4, 1) := by decide +kernel
theorem dL_refusesAny_75 : decode cL_refusesAny 75 = .ok (.invokevirtual 33, 3) := by decide +kernel
theorem dL_refusesAny_78 : decode cL_refusesAny 78 = .ok (.sipush (-1002), 3) := by decide +kernel
theorem dL_refusesAny_81 : decode cL_refusesAny 81 = .ok (.if_icmp .ne 171, 3) := by decide +kernel
theorem dL_refusesAny_84 : decode cL_refusesAny 84 = .ok (.aload_n 0, 1) := by decide +kernel
theorem dL_refusesAny_85 : decode cL_refusesAny 85 = .ok (.iload_n 2, 1) := by decide +kernel
theorem dL_refusesAny_86 : decode cL_refusesAny 86 = .ok (.invokevirtual 40, 3) := by decide +kernel
theorem dL_refusesAny_89 : decode cL_refusesAny 89 = .ok (.sipush (-1001), 3) := by decide +kernel
theorem dL_refusesAny_92 : decode cL_refusesAny 92 = .ok (.if_icmp .ne 160, 3) := by decide +kernel
theorem dL_refusesAny_95 : decode cL_refusesAny 95 = .ok (.aload_n 0, 1) := by decide +kernel
theorem dL_refusesAny_96 : decode cL_refusesAny 96 = .ok (.iload_n 2, 1) := by decide +kernel
theorem dL_refusesAny_97 : decode cL_refusesAny 97 = .ok (.iload_n 3, 1) := by decide +kernel
theorem dL_refusesAny_98 : decode cL_refusesAny 98 = .ok (.invokevirtual 43, 3) := by decide +kernel
theorem dL_refusesAny_101 : decode cL_refusesAny 101 = .ok (.sipush (-1001), 3) := by decide +kernel
theorem dL_refusesAny_104 : decode cL_refusesAny 104 = .ok (.if_icmp .ne 148, 3) := by decide +kernel
theorem dL_refusesAny_107 : decode cL_refusesAny 107 = .ok (.aload_n 0, 1) := by decide +kernel
theorem dL_refusesAny_108 : decode cL_refusesAny 108 = .ok (.iload_n 1, 1) := by decide +kernel
theorem dL_refusesAny_109 : decode cL_refusesAny 109 = .ok (.ifCond .ne 7, 3) := by decide +kernel
theorem dL_refusesAny_112 : decode cL_refusesAny 112 = .ok (.iconst 0, 1) := by decide +kernel
theorem dL_refusesAny_113 : decode cL_refusesAny 113 = .ok (.goto 4, 3) := by decide +kernel
theorem dL_refusesAny_116 : decode cL_refusesAny 116 = .ok (.iconst 5, 1) := by decide +kernel
theorem dL_refusesAny_117 : decode cL_refusesAny 117 = .ok (.invokevirtual 46, 3) := by decide +kernel
theorem dL_refusesAny_120 : decode cL_refusesAny 120 = .ok (.sipush (-1002), 3) := by decide +kernel
theorem dL_refusesAny_123 : decode cL_refusesAny 123 = .ok (.if_icmp .ne 129, 3) := by decide +kernel
theorem dL_refusesAny_126 : decode cL_refusesAny 126 = .ok (.aload_n 0, 1) := by decide +kernel
theorem dL_refusesAny_127 : decode cL_refusesAny 127 = .ok (.iload_n 1, 1) := by decide +kernel
theorem dL_refusesAny_128 : decode cL_refusesAny 128 = .ok (.ifCond .ne 7, 3) := by decide +kernel
theorem dL_refusesAny_131 : decode cL_refusesAny 131 = .ok (.iconst (-1), 1) := by decide +kernel
theorem dL_refusesAny_132 : decode cL_refusesAny 132 = .ok (.goto 5, 3) := by decide +kernel
theorem dL_refusesAny_135 : decode cL_refusesAny 135 = .ok (.bipush 21, 2) := by decide +kernel
theorem dL_refusesAny_137 : decode cL_refusesAny 137 = .ok (.invokevirtual 49, 3) := by decide +kernel
theorem dL_refusesAny_140 : decode cL_refusesAny 140 = .ok (.sipush (-1002), 3) := by decide +kernel
theorem dL_refusesAny_143 : decode cL_refusesAny 143 = .ok (.if_icmp .ne 109, 3) := by decide +kernel
theorem dL_refusesAny_146 : decode cL_refusesAny 146 = .ok (.aload_n 0, 1) := by decide +kernel
theorem dL_refusesAny_147 : decode cL_refusesAny 147 = .ok (.iload_n 1, 1) := by decide +kernel
theorem dL_refusesAny_148 : decode cL_refusesAny 148 = .ok (.ifCond .ne 7, 3) := by decide +kernel
theorem dL_refusesAny_151 : decode cL_refusesAny 151 = .ok (.iconst (-1), 1) := by decide +kernel
theorem dL_refusesAny_152 : decode cL_refusesAny 152 = .ok (.goto 5, 3) := by decide +kernel
theorem dL_refusesAny_155 : decode cL_refusesAny 155 = .ok (.bipush 10, 2) := by decide +kernel
theorem dL_refusesAny_157 : decode cL_refusesAny 157 = .ok (.invokevirtual 52, 3) := by decide +kernel
theorem dL_refusesAny_160 : decode cL_refusesAny 160 = .ok (.sipush (-1002), 3) := by decide +kernel
theorem dL_refusesAny_163 : decode cL_refusesAny 163 = .ok (.if_icmp .ne 89, 3) := by decide +kernel
theorem dL_refusesAny_166 : decode cL_refusesAny 166 = .ok (.aload_n 0, 1) := by decide +kernel
theorem dL_refusesAny_167 : decode cL_refusesAny 167 = .ok (.iload_n 1, 1) := by decide +kernel
theorem dL_refusesAny_168 : decode cL_refusesAny 168 = .ok (.ifCond .ne 7, 3) := by decide +kernel
theorem dL_refusesAny_171 : decode cL_refusesAny 171 = .ok (.iconst (-1), 1) := by decide +kernel
theorem dL_refusesAny_172 : decode cL_refusesAny 172 = .ok (.goto 4, 3) := by decide +kernel
theorem dL_refusesAny_175 : decode cL_refusesAny 175 = .ok (.iconst 1, 1) := by decide +kernel
theorem dL_refusesAny_176 : decode cL_refusesAny 176 = .ok (.invokevirtual 55, 3) := by decide +kernel
theorem dL_refusesAny_179 : decode cL_refusesAny 179 = .ok (.sipush (-1002), 3) := by decide +kernel
theorem dL_refusesAny_182 : decode cL_refusesAny 182 = .ok (.if_icmp .ne 70, 3) := by decide +kernel
theorem dL_refusesAny_185 : decode cL_refusesAny 185 = .ok (.aload_n 0, 1) := by decide +kernel
theorem dL_refusesAny_186 : decode cL_refusesAny 186 = .ok (.iload_n 1, 1) := by decide +kernel
theorem dL_refusesAny_187 : decode cL_refusesAny 187 = .ok (.ifCond .ne 9, 3) := by decide +kernel
theorem dL_refusesAny_190 : decode cL_refusesAny 190 = .ok (.sipush (-1000), 3) := by decide +kernel
theorem dL_refusesAny_193 : decode cL_refusesAny 193 = .ok (.goto 6, 3) := by decide +kernel
theorem dL_refusesAny_196 : decode cL_refusesAny 196 = .ok (.sipush 1000, 3) := by decide +kernel
theorem dL_refusesAny_199 : decode cL_refusesAny 199 = .ok (.invokevirtual 55, 3) := by decide +kernel
theorem dL_refusesAny_202 : decode cL_refusesAny 202 = .ok (.sipush (-1002), 3) := by decide +kernel
theorem dL_refusesAny_205 : decode cL_refusesAny 205 = .ok (.if_icmp .ne 47, 3) := by decide +kernel
theorem dL_refusesAny_208 : decode cL_refusesAny 208 = .ok (.aload_n 0, 1) := by decide +kernel
theorem dL_refusesAny_209 : decode cL_refusesAny 209 = .ok (.iload_n 1, 1) := by decide +kernel
theorem dL_refusesAny_210 : decode cL_refusesAny 210 = .ok (.ifCond .ne 9, 3) := by decide +kernel
theorem dL_refusesAny_213 : decode cL_refusesAny 213 = .ok (.sipush (-1000), 3) := by decide +kernel
theorem dL_refusesAny_216 : decode cL_refusesAny 216 = .ok (.goto 6, 3) := by decide +kernel
theorem dL_refusesAny_219 : decode cL_refusesAny 219 = .ok (.sipush 1000, 3) := by decide +kernel
theorem dL_refusesAny_222 : decode cL_refusesAny 222 = .ok (.invokevirtual 58, 3) := by decide +kernel
theorem dL_refusesAny_225 : decode cL_refusesAny 225 = .ok (.sipush (-1002), 3) := by decide +kernel
theorem dL_refusesAny_228 : decode cL_refusesAny 228 = .ok (.if_icmp .ne 24, 3) := by decide +kernel
theorem dL_refusesAny_231 : decode cL_refusesAny 231 = .ok (.aload_n 0, 1) := by decide +kernel
theorem dL_refusesAny_232 : decode cL_refusesAny 232 = .ok (.iload_n 1, 1) := by decide +kernel
theorem dL_refusesAny_233 : decode cL_refusesAny 233 = .ok (.ifCond .ne 7, 3) := by decide +kernel
theorem dL_refusesAny_236 : decode cL_refusesAny 236 = .ok (.iconst 0, 1) := by decide +kernel
theorem dL_refusesAny_237 : decode cL_refusesAny 237 = .ok (.goto 6, 3) := by decide +kernel
theorem dL_refusesAny_240 : decode cL_refusesAny 240 = .ok (.sipush 1001, 3) := by decide +kernel
theorem dL_refusesAny_243 : decode cL_refusesAny 243 = .ok (.invokevirtual 61, 3) := by decide +kernel
theorem dL_refusesAny_246 : decode cL_refusesAny 246 = .ok (.sipush (-1002), 3) := by decide +kernel
theorem dL_refusesAny_249 : decode cL_refusesAny 249 = .ok (.if_icmp .eq 5, 3) := by decide +kernel
theorem dL_refusesAny_252 : decode cL_refusesAny 252 = .ok (.iconst 0, 1) := by decide +kernel
theorem dL_refusesAny_253 : decode cL_refusesAny 253 = .ok (.ireturn, 1) := by decide +kernel
theorem dL_refusesAny_254 : decode cL_refusesAny 254 = .ok (.aload_n 0, 1) := by decide +kernel
theorem dL_refusesAny_255 : decode cL_refusesAny 255 = .ok (.iload_n 2, 1) := by decide +kernel
theorem dL_refusesAny_256 : decode cL_refusesAny 256 = .ok (.bipush 9, 2) := by decide +kernel
theorem dL_refusesAny_258 : decode cL_refusesAny 258 = .ok (.invokevirtual 22, 3) := by decide +kernel
theorem dL_refusesAny_261 : decode cL_refusesAny 261 = .ok (.sipush (-1001), 3) := by decide +kernel
theorem dL_refusesAny_264 : decode cL_refusesAny 264 = .ok (.if_icmp .ne 217, 3) := by decide +kernel
theorem dL_refusesAny_267 : decode cL_refusesAny 267 = .ok (.aload_n 0, 1) := by decide +kernel
theorem dL_refusesAny_268 : decode cL_refusesAny 268 = .ok (.iload_n 1, 1) := by decide +kernel
theorem dL_refusesAny_269 : decode cL_refusesAny 269 = .ok (.ifCond .ne 7, 3) := by decide +kernel
theorem dL_refusesAny_272 : decode cL_refusesAny 272 = .ok (.iconst (-1), 1) := by decide +kernel
theorem dL_refusesAny_273 : decode cL_refusesAny 273 = .ok (.goto 9, 3) := by decide +kernel
theorem dL_refusesAny_276 : decode cL_refusesAny 276 = .ok (.aload_n 0, 1) := by decide +kernel
theorem dL_refusesAny_277 : decode cL_refusesAny 277 = .ok (.bipush 12, 2) := by decide +kernel
theorem dL_refusesAny_279 : decode cL_refusesAny 279 = .ok (.invokevirtual 13, 3) := by decide +kernel
theorem dL_refusesAny_282 : decode cL_refusesAny 282 = .ok (.bipush 9, 2) := by decide +kernel
theorem dL_refusesAny_284 : decode cL_refusesAny 284 = .ok (.invokevirtual 26, 3) := by decide +kernel
theorem dL_refusesAny_287 : decode cL_refusesAny 287 = .ok (.sipush (-1001), 3) := by decide +kernel
theorem dL_refusesAny_290 : decode cL_refusesAny 290 = .ok (.if_icmp .ne 191, 3) := by decide +kernel
theorem dL_refusesAny_293 : decode cL_refusesAny 293 = .ok (.aload_n 0, 1) := by decide +kernel
theorem dL_refusesAny_294 : decode cL_refusesAny 294 = .ok (.iconst 0, 1) := by decide +kernel
theorem dL_refusesAny_295 : decode cL_refusesAny 295 = .ok (.iload_n 1, 1) := by decide +kernel
theorem dL_refusesAny_296 : decode cL_refusesAny 296 = .ok (.ifCond .ne 7, 3) := by decide +kernel
theorem dL_refusesAny_299 : decode cL_refusesAny 299 = .ok (.iconst (-1), 1) := by decide +kernel
theorem dL_refusesAny_300 : decode cL_refusesAny 300 = .ok (.goto 4, 3) := by decide +kernel
theorem dL_refusesAny_303 : decode cL_refusesAny 303 = .ok (.iconst 4, 1) := by decide +kernel
theorem dL_refusesAny_304 : decode cL_refusesAny 304 = .ok (.invokevirtual 26, 3) := by decide +kernel
theorem dL_refusesAny_307 : decode cL_refusesAny 307 = .ok (.sipush (-1002), 3) := by decide +kernel
theorem dL_refusesAny_310 : decode cL_refusesAny 310 = .ok (.if_icmp .ne 171, 3) := by decide +kernel
theorem dL_refusesAny_313 : decode cL_refusesAny 313 = .ok (.aload_n 0, 1) := by decide +kernel
theorem dL_refusesAny_314 : decode cL_refusesAny 314 = .ok (.iconst (-1), 1) := by decide +kernel
theorem dL_refusesAny_315 : decode cL_refusesAny 315 = .ok (.iload_n 1, 1) := by decide +kernel
theorem dL_refusesAny_316 : decode cL_refusesAny 316 = .ok (.isub, 1) := by decide +kernel
theorem dL_refusesAny_317 : decode cL_refusesAny 317 = .ok (.invokevirtual 19, 3) := by decide +kernel
theorem dL_refusesAny_320 : decode cL_refusesAny 320 = .ok (.sipush (-1002), 3) := by decide +kernel
theorem dL_refusesAny_323 : decode cL_refusesAny 323 = .ok (.if_icmp .ne 158, 3) := by decide +kernel
theorem dL_refusesAny_326 : decode cL_refusesAny 326 = .ok (.aload_n 0, 1) := by decide +kernel
theorem dL_refusesAny_327 : decode cL_refusesAny 327 = .ok (.iload_n 2, 1) := by decide +kernel
theorem dL_refusesAny_328 : decode cL_refusesAny 328 = .ok (.invokevirtual 64, 3) := by decide +kernel
theorem dL_refusesAny_331 : decode cL_refusesAny 331 = .ok (.sipush (-1001), 3) := by decide +kernel
theorem dL_refusesAny_334 : decode cL_refusesAny 334 = .ok (.if_icmp .ne 147, 3) := by decide +kernel
theorem dL_refusesAny_337 : decode cL_refusesAny 337 = .ok (.aload_n 0, 1) := by decide +kernel
theorem dL_refusesAny_338 : decode cL_refusesAny 338 = .ok (.iload_n 1, 1) := by decide +kernel
theorem dL_refusesAny_339 : decode cL_refusesAny 339 = .ok (.ifCond .ne 7, 3) := by decide +kernel
theorem dL_refusesAny_342 : decode cL_refusesAny 342 = .ok (.iconst 0, 1) := by decide +kernel
theorem dL_refusesAny_343 : decode cL_refusesAny 343 = .ok (.goto 4, 3) := by decide +kernel
theorem dL_refusesAny_346 : decode cL_refusesAny 346 = .ok (.iconst 5, 1) := by decide +kernel
theorem dL_refusesAny_347 : decode cL_refusesAny 347 = .ok (.iconst 1, 1) := by decide +kernel
theorem dL_refusesAny_348 : decode cL_refusesAny 348 = .ok (.iconst 0, 1) := by decide +kernel
theorem dL_refusesAny_349 : decode cL_refusesAny 349 = .ok (.invokevirtual 67, 3) := by decide +kernel
theorem dL_refusesAny_352 : decode cL_refusesAny 352 = .ok (.sipush (-1002), 3) := by decide +kernel
theorem dL_refusesAny_355 : decode cL_refusesAny 355 = .ok (.if_icmp .ne 126, 3) := by decide +kernel
theorem dL_refusesAny_358 : decode cL_refusesAny 358 = .ok (.aload_n 0, 1) := by decide +kernel
theorem dL_refusesAny_359 : decode cL_refusesAny 359 = .ok (.iconst 1, 1) := by decide +kernel
theorem dL_refusesAny_360 : decode cL_refusesAny 360 = .ok (.iload_n 1, 1) := by decide +kernel
theorem dL_refusesAny_361 : decode cL_refusesAny 361 = .ok (.ifCond .ne 7, 3) := by decide +kernel
theorem dL_refusesAny_364 : decode cL_refusesAny 364 = .ok (.iconst 0, 1) := by decide +kernel
theorem dL_refusesAny_365 : decode cL_refusesAny 365 = .ok (.goto 6, 3) := by decide +kernel
theorem dL_refusesAny_368 : decode cL_refusesAny 368 = .ok (.sipush 501, 3) := by decide +kernel
theorem dL_refusesAny_371 : decode cL_refusesAny 371 = .ok (.iconst 0, 1) := by decide +kernel
theorem dL_refusesAny_372 : decode cL_refusesAny 372 = .ok (.invokevirtual 67, 3) := by decide +kernel
theorem dL_refusesAny_375 : decode cL_refusesAny 375 = .ok (.sipush (-1002), 3) := by decide +kernel
theorem dL_refusesAny_378 : decode cL_refusesAny 378 = .ok (.if_icmp .ne 103, 3) := by decide +kernel
theorem dL_refusesAny_381 : decode cL_refusesAny 381 = .ok (.aload_n 0, 1) := by decide +kernel
theorem dL_refusesAny_382 : decode cL_refusesAny 382 = .ok (.iconst 1, 1) := by decide +kernel
theorem dL_refusesAny_383 : decode cL_refusesAny 383 = .ok (.iconst 1, 1) := by decide +kernel
theorem dL_refusesAny_384 : decode cL_refusesAny 384 = .ok (.iload_n 1, 1) := by decide +kernel
theorem dL_refusesAny_385 : decode cL_refusesAny 385 = .ok (.ifCond .ne 7, 3) := by decide +kernel
theorem dL_refusesAny_388 : decode cL_refusesAny 388 = .ok (.iconst (-1), 1) := by decide +kernel
theorem dL_refusesAny_389 : decode cL_refusesAny 389 = .ok (.goto 4, 3) := by decide +kernel
theorem dL_refusesAny_392 : decode cL_refusesAny 392 = .ok (.iconst 4, 1) := by decide +kernel
theorem dL_refusesAny_393 : decode cL_refusesAny 393 = .ok (.invokevirtual 67, 3) := by decide +kernel
theorem dL_refusesAny_396 : decode cL_refusesAny 396 = .ok (.sipush (-1002), 3) := by decide +kernel
theorem dL_refusesAny_399 : decode cL_refusesAny 399 = .ok (.if_icmp .ne 82, 3) := by decide +kernel
theorem dL_refusesAny_402 : decode cL_refusesAny 402 = .ok (.aload_n 0, 1) := by decide +kernel
theorem dL_refusesAny_403 : decode cL_refusesAny 403 = .ok (.iload_n 1, 1) := by decide +kernel
theorem dL_refusesAny_404 : decode cL_refusesAny 404 = .ok (.ifCond .ne 7, 3) := by decide +kernel
theorem dL_refusesAny_407 : decode cL_refusesAny 407 = .ok (.iconst 0, 1) := by decide +kernel
theorem dL_refusesAny_408 : decode cL_refusesAny 408 = .ok (.goto 6, 3) := by decide +kernel
theorem dL_refusesAny_411 : decode cL_refusesAny 411 = .ok (.sipush 501, 3) := by decide +kernel
theorem dL_refusesAny_414 : decode cL_refusesAny 414 = .ok (.invokevirtual 70, 3) := by decide +kernel
theorem dL_refusesAny_417 : decode cL_refusesAny 417 = .ok (.sipush (-1002), 3) := by decide +kernel
theorem dL_refusesAny_420 : decode cL_refusesAny 420 = .ok (.if_icmp .ne 61, 3) := by decide +kernel
theorem dL_refusesAny_423 : decode cL_refusesAny 423 = .ok (.aload_n 0, 1) := by decide +kernel
theorem dL_refusesAny_424 : decode cL_refusesAny 424 = .ok (.iconst (-1), 1) := by decide +kernel
theorem dL_refusesAny_425 : decode cL_refusesAny 425 = .ok (.iload_n 1, 1) := by decide +kernel
theorem dL_refusesAny_426 : decode cL_refusesAny 426 = .ok (.isub, 1) := by decide +kernel
theorem dL_refusesAny_427 : decode cL_refusesAny 427 = .ok (.iconst 0, 1) := by decide +kernel
theorem dL_refusesAny_428 : decode cL_refusesAny 428 = .ok (.invokevirtual 29, 3) := by decide +kernel
theorem dL_refusesAny_431 : decode cL_refusesAny 431 = .ok (.sipush (-1002), 3) := by decide +kernel
theorem dL_refusesAny_434 : decode cL_refusesAny 434 = .ok (.if_icmp .ne 47, 3) := by decide +kernel
theorem dL_refusesAny_437 : decode cL_refusesAny 437 = .ok (.aload_n 0, 1) := by decide +kernel
theorem dL_refusesAny_438 : decode cL_refusesAny 438 = .ok (.iconst 0, 1) := by decide +kernel
theorem dL_refusesAny_439 : decode cL_refusesAny 439 = .ok (.iload_n 1, 1) := by decide +kernel
theorem dL_refusesAny_440 : decode cL_refusesAny 440 = .ok (.ifCond .ne 7, 3) := by decide +kernel
theorem dL_refusesAny_443 : decode cL_refusesAny 443 = .ok (.iconst (-1), 1) := by decide +kernel
theorem dL_refusesAny_444 : decode cL_refusesAny 444 = .ok (.goto 4, 3) := by decide +kernel
theorem dL_refusesAny_447 : decode cL_refusesAny 447 = .ok (.iconst 4, 1) := by decide +kernel
theorem dL_refusesAny_448 : decode cL_refusesAny 448 = .ok (.invokevirtual 29, 3) := by decide +kernel
theorem dL_refusesAny_451 : decode cL_refusesAny 451 = .ok (.sipush (-1002), 3) := by decide +kernel
theorem dL_refusesAny_454 : decode cL_refusesAny 454 = .ok (.if_icmp .ne 27, 3) := by decide +kernel
theorem dL_refusesAny_457 : decode cL_refusesAny 457 = .ok (.aload_n 0, 1) := by decide +kernel
theorem dL_refusesAny_458 : decode cL_refusesAny 458 = .ok (.iload_n 1, 1) := by decide +kernel
theorem dL_refusesAny_459 : decode cL_refusesAny 459 = .ok (.ifCond .ne 7, 3) := by decide +kernel
theorem dL_refusesAny_462 : decode cL_refusesAny 462 = .ok (.iconst (-1), 1) := by decide +kernel
theorem dL_refusesAny_463 : decode cL_refusesAny 463 = .ok (.goto 5, 3) := by decide +kernel
theorem dL_refusesAny_466 : decode cL_refusesAny 466 = .ok (.bipush 18, 2) := by decide +kernel
theorem dL_refusesAny_468 : decode cL_refusesAny 468 = .ok (.invokevirtual 13, 3) := by decide +kernel
theorem dL_refusesAny_471 : decode cL_refusesAny 471 = .ok (.sipush (-1002), 3) := by decide +kernel
theorem dL_refusesAny_474 : decode cL_refusesAny 474 = .ok (.if_icmp .ne 7, 3) := by decide +kernel
theorem dL_refusesAny_477 : decode cL_refusesAny 477 = .ok (.iconst 1, 1) := by decide +kernel
theorem dL_refusesAny_478 : decode cL_refusesAny 478 = .ok (.goto 4, 3) := by decide +kernel
theorem dL_refusesAny_481 : decode cL_refusesAny 481 = .ok (.iconst 0, 1) := by decide +kernel
theorem dL_refusesAny_482 : decode cL_refusesAny 482 = .ok (.ireturn, 1) := by decide +kernel
theorem dL_refused_0 : decode cL_refused 0 = .ok (.aload_n 0, 1) := by decide +kernel
theorem dL_refused_1 : decode cL_refused 1 = .ok (.invokestatic 73, 3) := by decide +kernel
theorem dL_refused_4 : decode cL_refused 4 = .ok (.lstore_n 1, 1) := by decide +kernel
theorem dL_refused_5 : decode cL_refused 5 = .ok (.aload_n 0, 1) := by decide +kernel
theorem dL_refused_6 : decode cL_refused 6 = .ok (.bipush 16, 2) := by decide +kernel
theorem dL_refused_8 : decode cL_refused 8 = .ok (.invokevirtual 13, 3) := by decide +kernel
theorem dL_refused_11 : decode cL_refused 11 = .ok (.istore_n 3, 1) := by decide +kernel
theorem dL_refused_12 : decode cL_refused 12 = .ok (.aload_n 0, 1) := by decide +kernel
theorem dL_refused_13 : decode cL_refused 13 = .ok (.iconst 0, 1) := by decide +kernel
theorem dL_refused_14 : decode cL_refused 14 = .ok (.invokevirtual 19, 3) := by decide +kernel
theorem dL_refused_17 : decode cL_refused 17 = .ok (.istore 4, 2) := by decide +kernel
theorem dL_refused_19 : decode cL_refused 19 = .ok (.iload 4, 2) := by decide +kernel
theorem dL_refused_21 : decode cL_refused 21 = .ok (.sipush (-1005), 3) := by decide +kernel
theorem dL_refused_24 : decode cL_refused 24 = .ok (.if_icmp .eq 57, 3) := by decide +kernel
theorem dL_refused_27 : decode cL_refused 27 = .ok (.aload_n 0, 1) := by decide +kernel
theorem dL_refused_28 : decode cL_refused 28 = .ok (.iload 4, 2) := by decide +kernel
theorem dL_refused_30 : decode cL_refused 30 = .ok (.iconst (-1), 1) := by decide +kernel
theorem dL_refused_31 : decode cL_refused 31 = .ok (.invokevirtual 22, 3) := by decide +kernel
theorem dL_refused_34 : decode cL_refused 34 = .ok (.sipush (-1002), 3) := by decide +kernel
theorem dL_refused_37 : decode cL_refused 37 = .ok (.if_icmp .ne 48, 3) := by decide +kernel
theorem dL_refused_40 : decode cL_refused 40 = .ok (.aload_n 0, 1) := by decide +kernel
theorem dL_refused_41 : decode cL_refused 41 = .ok (.iload 4, 2) := by decide +kernel
theorem dL_refused_43 : decode cL_refused 43 = .ok (.bipush 7, 2) := by decide +kernel
theorem dL_refused_45 : decode cL_refused 45 = .ok (.invokevirtual 22, 3) := by decide +kernel
theorem dL_refused_48 : decode cL_refused 48 = .ok (.sipush (-1002), 3) := by decide +kernel
theorem dL_refused_51 : decode cL_refused 51 = .ok (.if_icmp .ne 34, 3) := by decide +kernel
theorem dL_refused_54 : decode cL_refused 54 = .ok (.aload_n 0, 1) := by decide +kernel
theorem dL_refused_55 : decode cL_refused 55 = .ok (.iload 4, 2) := by decide +kernel
theorem dL_refused_57 : decode cL_refused 57 = .ok (.iconst (-1), 1) := by decide +kernel
theorem dL_refused_58 : decode cL_refused 58 = .ok (.invokevirtual 43, 3) := by decide +kernel
theorem dL_refused_61 : decode cL_refused 61 = .ok (.sipush (-1002), 3) := by decide +kernel
theorem dL_refused_64 : decode cL_refused 64 = .ok (.if_icmp .ne 21, 3) := by decide +kernel
theorem dL_refused_67 : decode cL_refused 67 = .ok (.aload_n 0, 1) := by decide +kernel
theorem dL_refused_68 : decode cL_refused 68 = .ok (.iload 4, 2) := by decide +kernel
theorem dL_refused_70 : decode cL_refused 70 = .ok (.ldc 32, 2) := by decide +kernel
theorem dL_refused_72 : decode cL_refused 72 = .ok (.invokevirtual 43, 3) := by decide +kernel
theorem dL_refused_75 : decode cL_refused 75 = .ok (.sipush (-1002), 3) := by decide +kernel
theorem dL_refused_78 : decode cL_refused 78 = .ok (.if_icmp .ne 7, 3) := by decide +kernel
theorem dL_refused_81 : decode cL_refused 81 = .ok (.iconst 1, 1) := by decide +kernel
theorem dL_refused_82 : decode cL_refused 82 = .ok (.goto 4, 3) := by decide +kernel
theorem dL_refused_85 : decode cL_refused 85 = .ok (.iconst 0, 1) := by decide +kernel
theorem dL_refused_86 : decode cL_refused 86 = .ok (.istore 5, 2) := by decide +kernel
theorem dL_refused_88 : decode cL_refused 88 = .ok (.iload 5, 2) := by decide +kernel
theorem dL_refused_90 : decode cL_refused 90 = .ok (.ifCond .eq 42, 3) := by decide +kernel
theorem dL_refused_93 : decode cL_refused 93 = .ok (.aload_n 0, 1) := by decide +kernel
theorem dL_refused_94 : decode cL_refused 94 = .ok (.iconst 0, 1) := by decide +kernel
theorem dL_refused_95 : decode cL_refused 95 = .ok (.invokestatic 77, 3) := by decide +kernel
theorem dL_refused_98 : decode cL_refused 98 = .ok (.ifCond .eq 34, 3) := by decide +kernel
theorem dL_refused_101 : decode cL_refused 101 = .ok (.aload_n 0, 1) := by decide +kernel
theorem dL_refused_102 : decode cL_refused 102 = .ok (.iconst 1, 1) := by decide +kernel
theorem dL_refused_103 : decode cL_refused 103 = .ok (.invokestatic 77, 3) := by decide +kernel
theorem dL_refused_106 : decode cL_refused 106 = .ok (.ifCond .eq 26, 3) := by decide +kernel
theorem dL_refused_109 : decode cL_refused 109 = .ok (.aload_n 0, 1) := by decide +kernel
theorem dL_refused_110 : decode cL_refused 110 = .ok (.invokestatic 73, 3) := by decide +kernel
theorem dL_refused_113 : decode cL_refused 113 = .ok (.lload_n 1, 1) := by decide +kernel
theorem dL_refused_114 : decode cL_refused 114 = .ok (.lcmp, 1) := by decide +kernel
theorem dL_refused_115 : decode cL_refused 115 = .ok (.ifCond .ne 17, 3) := by decide +kernel
theorem dL_refused_118 : decode cL_refused 118 = .ok (.aload_n 0, 1) := by decide +kernel
theorem dL_refused_119 : decode cL_refused 119 = .ok (.bipush 16, 2) := by decide +kernel
theorem dL_refused_121 : decode cL_refused 121 = .ok (.invokevirtual 13, 3) := by decide +kernel
theorem dL_refused_124 : decode cL_refused 124 = .ok (.iload_n 3, 1) := by decide +kernel
theorem dL_refused_125 : decode cL_refused 125 = .ok (.if_icmp .ne 7, 3) := by decide +kernel
theorem dL_refused_128 : decode cL_refused 128 = .ok (.iconst 1, 1) := by decide +kernel
theorem dL_refused_129 : decode cL_refused 129 = .ok (.goto 4, 3) := by decide +kernel
theorem dL_refused_132 : decode cL_refused 132 = .ok (.iconst 0, 1) := by decide +kernel
theorem dL_refused_133 : decode cL_refused 133 = .ok (.ireturn, 1) := by decide +kernel
theorem dL_types_0 : decode cL_types 0 = .ok (.iconst 1, 1) := by decide +kernel
theorem dL_types_1 : decode cL_types 1 = .ok (.istore_n 3, 1) := by decide +kernel
theorem dL_types_2 : decode cL_types 2 = .ok (.bipush 56, 2) := by decide +kernel
theorem dL_types_4 : decode cL_types 4 = .ok (.istore 4, 2) := by decide +kernel
theorem dL_types_6 : decode cL_types 6 = .ok (.iload 4, 2) := by decide +kernel
theorem dL_types_8 : decode cL_types 8 = .ok (.ifCond .lt 45, 3) := by decide +kernel
theorem dL_types_11 : decode cL_types 11 = .ok (.lload_n 1, 1) := by decide +kernel
theorem dL_types_12 : decode cL_types 12 = .ok (.iload 4, 2) := by decide +kernel
theorem dL_types_14 : decode cL_types 14 = .ok (.lshr, 1) := by decide +kernel
theorem dL_types_15 : decode cL_types 15 = .ok (.ldc2_w 98, 3) := by decide +kernel
theorem dL_types_18 : decode cL_types 18 = .ok (.land, 1) := by decide +kernel
theorem dL_types_19 : decode cL_types 19 = .ok (.l2i, 1) := by decide +kernel
theorem dL_types_20 : decode cL_types 20 = .ok (.istore 5, 2) := by decide +kernel
theorem dL_types_22 : decode cL_types 22 = .ok (.iload_n 3, 1) := by decide +kernel
theorem dL_types_23 : decode cL_types 23 = .ok (.ifCond .eq 22, 3) := by decide +kernel
theorem dL_types_26 : decode cL_types 26 = .ok (.iload 5, 2) := by decide +kernel
theorem dL_types_28 : decode cL_types 28 = .ok (.ifCond .eq 13, 3) := by decide +kernel
theorem dL_types_31 : decode cL_types 31 = .ok (.aload_n 0, 1) := by decide +kernel
theorem dL_types_32 : decode cL_types 32 = .ok (.iload 5, 2) := by decide +kernel
theorem dL_types_34 : decode cL_types 34 = .ok (.i2c, 1) := by decide +kernel
theorem dL_types_35 : decode cL_types 35 = .ok (.invokevirtual 100, 3) := by decide +kernel
theorem dL_types_38 : decode cL_types 38 = .ok (.ifCond .le 7, 3) := by decide +kernel
theorem dL_types_41 : decode cL_types 41 = .ok (.iconst 1, 1) := by decide +kernel
theorem dL_types_42 : decode cL_types 42 = .ok (.goto 4, 3) := by decide +kernel
theorem dL_types_45 : decode cL_types 45 = .ok (.iconst 0, 1) := by decide +kernel
theorem dL_types_46 : decode cL_types 46 = .ok (.istore_n 3, 1) := by decide +kernel
theorem dL_types_47 : decode cL_types 47 = .ok (.iinc 4 (-8), 3) := by decide +kernel
theorem dL_types_50 : decode cL_types 50 = .ok (.goto (-44), 3) := by decide +kernel
theorem dL_types_53 : decode cL_types 53 = .ok (.iload_n 3, 1) := by decide +kernel
theorem dL_types_54 : decode cL_types 54 = .ok (.ireturn, 1) := by decide +kernel
theorem dL_told_0 : decode cL_told 0 = .ok (.new 14, 3) := by decide +kernel
theorem dL_told_3 : decode cL_told 3 = .ok (.dup, 1) := by decide +kernel
theorem dL_told_4 : decode cL_told 4 = .ok (.invokespecial 81, 3) := by decide +kernel
theorem dL_told_7 : decode cL_told 7 = .ok (.astore 4, 2) := by decide +kernel
theorem dL_told_9 : decode cL_told 9 = .ok (.aload 4, 2) := by decide +kernel
theorem dL_told_11 : decode cL_told 11 = .ok (.lload_n 0, 1) := by decide +kernel
theorem dL_told_12 : decode cL_told 12 = .ok (.invokestatic 104, 3) := by decide +kernel
theorem dL_told_15 : decode cL_told 15 = .ok (.ifCond .eq 20, 3) := by decide +kernel
theorem dL_told_18 : decode cL_told 18 = .ok (.aload 4, 2) := by decide +kernel
theorem dL_told_20 : decode cL_told 20 = .ok (.lload_n 2, 1) := by decide +kernel
theorem dL_told_21 : decode cL_told 21 = .ok (.invokestatic 104, 3) := by decide +kernel
theorem dL_told_24 : decode cL_told 24 = .ok (.ifCond .eq 11, 3) := by decide +kernel
theorem dL_told_27 : decode cL_told 27 = .ok (.aload 4, 2) := by decide +kernel
theorem dL_told_29 : decode cL_told 29 = .ok (.invokevirtual 108, 3) := by decide +kernel
theorem dL_told_32 : decode cL_told 32 = .ok (.goto 5, 3) := by decide +kernel
theorem dL_told_35 : decode cL_told 35 = .ok (.bipush (-99), 2) := by decide +kernel
theorem dL_told_37 : decode cL_told 37 = .ok (.istore 5, 2) := by decide +kernel
theorem dL_told_39 : decode cL_told 39 = .ok (.aload 4, 2) := by decide +kernel
theorem dL_told_41 : decode cL_told 41 = .ok (.bipush 16, 2) := by decide +kernel
theorem dL_told_43 : decode cL_told 43 = .ok (.invokevirtual 13, 3) := by decide +kernel
theorem dL_told_46 : decode cL_told 46 = .ok (.iload 5, 2) := by decide +kernel
theorem dL_told_48 : decode cL_told 48 = .ok (.ifCond .le 7, 3) := by decide +kernel
theorem dL_told_51 : decode cL_told 51 = .ok (.iconst 1, 1) := by decide +kernel
theorem dL_told_52 : decode cL_told 52 = .ok (.goto 4, 3) := by decide +kernel
theorem dL_told_55 : decode cL_told 55 = .ok (.iconst 0, 1) := by decide +kernel
theorem dL_told_56 : decode cL_told 56 = .ok (.if_icmp .ne 28, 3) := by decide +kernel
theorem dL_told_59 : decode cL_told 59 = .ok (.aload 4, 2) := by decide +kernel
theorem dL_told_61 : decode cL_told 61 = .ok (.iconst 2, 1) := by decide +kernel
theorem dL_told_62 : decode cL_told 62 = .ok (.invokevirtual 13, 3) := by decide +kernel
theorem dL_told_65 : decode cL_told 65 = .ok (.iload 5, 2) := by decide +kernel
theorem dL_told_67 : decode cL_told 67 = .ok (.ifCond .le 8, 3) := by decide +kernel
theorem dL_told_70 : decode cL_told 70 = .ok (.iload 5, 2) := by decide +kernel
theorem dL_told_72 : decode cL_told 72 = .ok (.goto 4, 3) := by decide +kernel
theorem dL_told_75 : decode cL_told 75 = .ok (.iconst 0, 1) := by decide +kernel
theorem dL_told_76 : decode cL_told 76 = .ok (.if_icmp .ne 8, 3) := by decide +kernel
theorem dL_told_79 : decode cL_told 79 = .ok (.iload 5, 2) := by decide +kernel
theorem dL_told_81 : decode cL_told 81 = .ok (.goto 5, 3) := by decide +kernel
theorem dL_told_84 : decode cL_told 84 = .ok (.bipush (-98), 2) := by decide +kernel
theorem dL_told_86 : decode cL_told 86 = .ok (.ireturn, 1) := by decide +kernel
