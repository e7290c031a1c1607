theorem dX11_within_0 : decode cX11_within 0 = .ok (.iload_n 0, 1) := by decide +kernel
theorem dX11_within_1 : decode cX11_within 1 = .ok (.iload_n 1, 1) := by decide +kernel
theorem dX11_within_2 : decode cX11_within 2 = .ok (.if_icmp .lt 12, 3) := by decide +kernel
theorem dX11_within_5 : decode cX11_within 5 = .ok (.iload_n 0, 1) := by decide +kernel
theorem dX11_within_6 : decode cX11_within 6 = .ok (.iload_n 2, 1) := by decide +kernel
theorem dX11_within_7 : decode cX11_within 7 = .ok (.if_icmp .gt 7, 3) := by decide +kernel
theorem dX11_within_10 : decode cX11_within 10 = .ok (.iconst 1, 1) := by decide +kernel
theorem dX11_within_11 : decode cX11_within 11 = .ok (.goto 4, 3) := by decide +kernel
theorem dX11_within_14 : decode cX11_within 14 = .ok (.iconst 0, 1) := by decide +kernel
theorem dX11_within_15 : decode cX11_within 15 = .ok (.ireturn, 1) := by decide +kernel
theorem dX6_found_0 : decode cX6_found 0 = .ok (.iload_n 1, 1) := by decide +kernel
theorem dX6_found_1 : decode cX6_found 1 = .ok (.iconst 0, 1) := by decide +kernel
theorem dX6_found_2 : decode cX6_found 2 = .ok (.bipush 99, 2) := by decide +kernel
theorem dX6_found_4 : decode cX6_found 4 = .ok (.invokestatic 95, 3) := by decide +kernel
theorem dX6_found_7 : decode cX6_found 7 = .ok (.ifCond .eq 12, 3) := by decide +kernel
theorem dX6_found_10 : decode cX6_found 10 = .ok (.iload_n 2, 1) := by decide +kernel
theorem dX6_found_11 : decode cX6_found 11 = .ok (.iconst 0, 1) := by decide +kernel
theorem dX6_found_12 : decode cX6_found 12 = .ok (.iconst 3, 1) := by decide +kernel
theorem dX6_found_13 : decode cX6_found 13 = .ok (.invokestatic 95, 3) := by decide +kernel
theorem dX6_found_16 : decode cX6_found 16 = .ok (.ifCond .ne 5, 3) := by decide +kernel
theorem dX6_found_19 : decode cX6_found 19 = .ok (.iconst (-1), 1) := by decide +kernel
theorem dX6_found_20 : decode cX6_found 20 = .ok (.ireturn, 1) := by decide +kernel
theorem dX6_found_21 : decode cX6_found 21 = .ok (.aload_n 0, 1) := by decide +kernel
theorem dX6_found_22 : decode cX6_found 22 = .ok (.getfield 86, 3) := by decide +kernel
theorem dX6_found_25 : decode cX6_found 25 = .ok (.bipush 6, 2) := by decide +kernel
theorem dX6_found_27 : decode cX6_found 27 = .ok (.if_icmp .lt 6, 3) := by decide +kernel
theorem dX6_found_30 : decode cX6_found 30 = .ok (.bipush (-5), 2) := by decide +kernel
theorem dX6_found_32 : decode cX6_found 32 = .ok (.ireturn, 1) := by decide +kernel
theorem dX6_found_33 : decode cX6_found 33 = .ok (.aload_n 0, 1) := by decide +kernel
theorem dX6_found_34 : decode cX6_found 34 = .ok (.getfield 12, 3) := by decide +kernel
theorem dX6_found_37 : decode cX6_found 37 = .ok (.getfield 99, 3) := by decide +kernel
theorem dX6_found_40 : decode cX6_found 40 = .ok (.aload_n 0, 1) := by decide +kernel
theorem dX6_found_41 : decode cX6_found 41 = .ok (.getfield 86, 3) := by decide +kernel
theorem dX6_found_44 : decode cX6_found 44 = .ok (.iload_n 1, 1) := by decide +kernel
theorem dX6_found_45 : decode cX6_found 45 = .ok (.iastore, 1) := by decide +kernel
theorem dX6_found_46 : decode cX6_found 46 = .ok (.aload_n 0, 1) := by decide +kernel
theorem dX6_found_47 : decode cX6_found 47 = .ok (.getfield 12, 3) := by decide +kernel
theorem dX6_found_50 : decode cX6_found 50 = .ok (.getfield 102, 3) := by decide +kernel
theorem dX6_found_53 : decode cX6_found 53 = .ok (.aload_n 0, 1) := by decide +kernel
theorem dX6_found_54 : decode cX6_found 54 = .ok (.getfield 86, 3) := by decide +kernel
theorem dX6_found_57 : decode cX6_found 57 = .ok (.iconst 0, 1) := by decide +kernel
theorem dX6_found_58 : decode cX6_found 58 = .ok (.iastore, 1) := by decide +kernel
theorem dX6_found_59 : decode cX6_found 59 = .ok (.aload_n 0, 1) := by decide +kernel
theorem dX6_found_60 : decode cX6_found 60 = .ok (.getfield 12, 3) := by decide +kernel
theorem dX6_found_63 : decode cX6_found 63 = .ok (.getfield 105, 3) := by decide +kernel
theorem dX6_found_66 : decode cX6_found 66 = .ok (.aload_n 0, 1) := by decide +kernel
theorem dX6_found_67 : decode cX6_found 67 = .ok (.getfield 86, 3) := by decide +kernel
theorem dX6_found_70 : decode cX6_found 70 = .ok (.iconst 0, 1) := by decide +kernel
theorem dX6_found_71 : decode cX6_found 71 = .ok (.iastore, 1) := by decide +kernel
theorem dX6_found_72 : decode cX6_found 72 = .ok (.aload_n 0, 1) := by decide +kernel
theorem dX6_found_73 : decode cX6_found 73 = .ok (.getfield 32, 3) := by decide +kernel
theorem dX6_found_76 : decode cX6_found 76 = .ok (.aload_n 0, 1) := by decide +kernel
theorem dX6_found_77 : decode cX6_found 77 = .ok (.getfield 86, 3) := by decide +kernel
theorem dX6_found_80 : decode cX6_found 80 = .ok (.iload_n 2, 1) := by decide +kernel
theorem dX6_found_81 : decode cX6_found 81 = .ok (.iastore, 1) := by decide +kernel
theorem dX6_found_82 : decode cX6_found 82 = .ok (.aload_n 0, 1) := by decide +kernel
theorem dX6_found_83 : decode cX6_found 83 = .ok (.dup, 1) := by decide +kernel
theorem dX6_found_84 : decode cX6_found 84 = .ok (.getfield 86, 3) := by decide +kernel
theorem dX6_found_87 : decode cX6_found 87 = .ok (.iconst 1, 1) := by decide +kernel
theorem dX6_found_88 : decode cX6_found 88 = .ok (.iadd, 1) := by decide +kernel
theorem dX6_found_89 : decode cX6_found 89 = .ok (.putfield 86, 3) := by decide +kernel
theorem dX6_found_92 : decode cX6_found 92 = .ok (.aload_n 0, 1) := by decide +kernel
theorem dX6_found_93 : decode cX6_found 93 = .ok (.getfield 86, 3) := by decide +kernel
theorem dX6_found_96 : decode cX6_found 96 = .ok (.iconst 1, 1) := by decide +kernel
theorem dX6_found_97 : decode cX6_found 97 = .ok (.isub, 1) := by decide +kernel
theorem dX6_found_98 : decode cX6_found 98 = .ok (.ireturn, 1) := by decide +kernel
theorem dX2_close_0 : decode cX2_close 0 = .ok (.aload_n 0, 1) := by decide +kernel
theorem dX2_close_1 : decode cX2_close 1 = .ok (.iconst 0, 1) := by decide +kernel
theorem dX2_close_2 : decode cX2_close 2 = .ok (.putfield 105, 3) := by decide +kernel
theorem dX2_close_5 : decode cX2_close 5 = .ok (.return_, 1) := by decide +kernel
theorem dX11_refuse_0 : decode cX11_refuse 0 = .ok (.aload_n 0, 1) := by decide +kernel
theorem dX11_refuse_1 : decode cX11_refuse 1 = .ok (.iload_n 1, 1) := by decide +kernel
theorem dX11_refuse_2 : decode cX11_refuse 2 = .ok (.putfield 203, 3) := by decide +kernel
theorem dX11_refuse_5 : decode cX11_refuse 5 = .ok (.iload_n 1, 1) := by decide +kernel
theorem dX11_refuse_6 : decode cX11_refuse 6 = .ok (.bipush (-6), 2) := by decide +kernel
theorem dX11_refuse_8 : decode cX11_refuse 8 = .ok (.iconst (-1), 1) := by decide +kernel
theorem dX11_refuse_9 : decode cX11_refuse 9 = .ok (.invokestatic 122, 3) := by decide +kernel
theorem dX11_refuse_12 : decode cX11_refuse 12 = .ok (.ifCond .eq 14, 3) := by decide +kernel
theorem dX11_refuse_15 : decode cX11_refuse 15 = .ok (.aload_n 0, 1) := by decide +kernel
theorem dX11_refuse_16 : decode cX11_refuse 16 = .ok (.getfield 75, 3) := by decide +kernel
theorem dX11_refuse_19 : decode cX11_refuse 19 = .ok (.iload_n 1, 1) := by decide +kernel
theorem dX11_refuse_20 : decode cX11_refuse 20 = .ok (.ineg, 1) := by decide +kernel
theorem dX11_refuse_21 : decode cX11_refuse 21 = .ok (.dup2, 1) := by decide +kernel
theorem dX11_refuse_22 : decode cX11_refuse 22 = .ok (.iaload, 1) := by decide +kernel
theorem dX11_refuse_23 : decode cX11_refuse 23 = .ok (.iconst 1, 1) := by decide +kernel
theorem dX11_refuse_24 : decode cX11_refuse 24 = .ok (.iadd, 1) := by decide +kernel
theorem dX11_refuse_25 : decode cX11_refuse 25 = .ok (.iastore, 1) := by decide +kernel
theorem dX11_refuse_26 : decode cX11_refuse 26 = .ok (.iload_n 1, 1) := by decide +kernel
theorem dX11_refuse_27 : decode cX11_refuse 27 = .ok (.ireturn, 1) := by decide +kernel
theorem dX11_settle_0 : decode cX11_settle 0 = .ok (.iload_n 1, 1) := by decide +kernel
theorem dX11_settle_1 : decode cX11_settle 1 = .ok (.ifCond .ge 9, 3) := by decide +kernel
theorem dX11_settle_4 : decode cX11_settle 4 = .ok (.aload_n 0, 1) := by decide +kernel
theorem dX11_settle_5 : decode cX11_settle 5 = .ok (.iload_n 1, 1) := by decide +kernel
theorem dX11_settle_6 : decode cX11_settle 6 = .ok (.invokevirtual 126, 3) := by decide +kernel
theorem dX11_settle_9 : decode cX11_settle 9 = .ok (.ireturn, 1) := by decide +kernel
theorem dX11_settle_10 : decode cX11_settle 10 = .ok (.aload_n 0, 1) := by decide +kernel
theorem dX11_settle_11 : decode cX11_settle 11 = .ok (.iconst 0, 1) := by decide +kernel
theorem dX11_settle_12 : decode cX11_settle 12 = .ok (.putfield 203, 3) := by decide +kernel
theorem dX11_settle_15 : decode cX11_settle 15 = .ok (.iload_n 1, 1) := by decide +kernel
theorem dX11_settle_16 : decode cX11_settle 16 = .ok (.ireturn, 1) := by decide +kernel
theorem dX11_fort_0 : decode cX11_fort 0 = .ok (.aload_n 0, 1) := by decide +kernel
theorem dX11_fort_1 : decode cX11_fort 1 = .ok (.getfield 10, 3) := by decide +kernel
theorem dX11_fort_4 : decode cX11_fort 4 = .ok (.iload_n 1, 1) := by decide +kernel
theorem dX11_fort_5 : decode cX11_fort 5 = .ok (.iload_n 2, 1) := by decide +kernel
theorem dX11_fort_6 : decode cX11_fort 6 = .ok (.invokevirtual 86, 3) := by decide +kernel
theorem dX11_fort_9 : decode cX11_fort 9 = .ok (.istore_n 3, 1) := by decide +kernel
theorem dX11_fort_10 : decode cX11_fort 10 = .ok (.iload_n 3, 1) := by decide +kernel
theorem dX11_fort_11 : decode cX11_fort 11 = .ok (.ifCond .lt 10, 3) := by decide +kernel
theorem dX11_fort_14 : decode cX11_fort 14 = .ok (.aload_n 0, 1) := by decide +kernel
theorem dX11_fort_15 : decode cX11_fort 15 = .ok (.getfield 53, 3) := by decide +kernel
theorem dX11_fort_18 : decode cX11_fort 18 = .ok (.invokevirtual 90, 3) := by decide +kernel
theorem dX11_fort_21 : decode cX11_fort 21 = .ok (.aload_n 0, 1) := by decide +kernel
theorem dX11_fort_22 : decode cX11_fort 22 = .ok (.iload_n 3, 1) := by decide +kernel
theorem dX11_fort_23 : decode cX11_fort 23 = .ok (.invokevirtual 93, 3) := by decide +kernel
theorem dX11_fort_26 : decode cX11_fort 26 = .ok (.ireturn, 1) := by decide +kernel
theorem dX6_has_0 : decode cX6_has 0 = .ok (.iload_n 1, 1) := by decide +kernel
theorem dX6_has_1 : decode cX6_has 1 = .ok (.iconst 0, 1) := by decide +kernel
theorem dX6_has_2 : decode cX6_has 2 = .ok (.aload_n 0, 1) := by decide +kernel
theorem dX6_has_3 : decode cX6_has 3 = .ok (.getfield 86, 3) := by decide +kernel
theorem dX6_has_6 : decode cX6_has 6 = .ok (.iconst 1, 1) := by decide +kernel
theorem dX6_has_7 : decode cX6_has 7 = .ok (.isub, 1) := by decide +kernel
theorem dX6_has_8 : decode cX6_has 8 = .ok (.invokestatic 95, 3) := by decide +kernel
theorem dX6_has_11 : decode cX6_has 11 = .ok (.ireturn, 1) := by decide +kernel
theorem dX5_belief_0 : decode cX5_belief 0 = .ok (.aload_n 0, 1) := by decide +kernel
theorem dX5_belief_1 : decode cX5_belief 1 = .ok (.getfield 24, 3) := by decide +kernel
theorem dX5_belief_4 : decode cX5_belief 4 = .ok (.getfield 28, 3) := by decide +kernel
theorem dX5_belief_7 : decode cX5_belief 7 = .ok (.i2l, 1) := by decide +kernel
theorem dX5_belief_8 : decode cX5_belief 8 = .ok (.ldc2_w 34, 3) := by decide +kernel
theorem dX5_belief_11 : decode cX5_belief 11 = .ok (.lmul, 1) := by decide +kernel
theorem dX5_belief_12 : decode cX5_belief 12 = .ok (.lstore_n 3, 1) := by decide +kernel
theorem dX5_belief_13 : decode cX5_belief 13 = .ok (.aload_n 0, 1) := by decide +kernel
theorem dX5_belief_14 : decode cX5_belief 14 = .ok (.getfield 24, 3) := by decide +kernel
theorem dX5_belief_17 : decode cX5_belief 17 = .ok (.getfield 28, 3) := by decide +kernel
theorem dX5_belief_20 : decode cX5_belief 20 = .ok (.i2l, 1) := by decide +kernel
theorem dX5_belief_21 : decode cX5_belief 21 = .ok (.lstore 5, 2) := by decide +kernel
theorem dX5_belief_23 : decode cX5_belief 23 = .ok (.sipush 1000, 3) := by decide +kernel
theorem dX5_belief_26 : decode cX5_belief 26 = .ok (.aload_n 0, 1) := by decide +kernel
theorem dX5_belief_27 : decode cX5_belief 27 = .ok (.getfield 24, 3) := by decide +kernel
theorem dX5_belief_30 : decode cX5_belief 30 = .ok (.getfield 28, 3) := by decide +kernel
theorem dX5_belief_33 : decode cX5_belief 33 = .ok (.isub, 1) := by decide +kernel
theorem dX5_belief_34 : decode cX5_belief 34 = .ok (.i2l, 1) := by decide +kernel
theorem dX5_belief_35 : decode cX5_belief 35 = .ok (.lstore 7, 2) := by decide +kernel
theorem dX5_belief_37 : decode cX5_belief 37 = .ok (.iconst 0, 1) := by decide +kernel
theorem dX5_belief_38 : decode cX5_belief 38 = .ok (.istore 9, 2) := by decide +kernel
theorem dX5_belief_40 : decode cX5_belief 40 = .ok (.iload 9, 2) := by decide +kernel
theorem dX5_belief_42 : decode cX5_belief 42 = .ok (.bipush 6, 2) := by decide +kernel
theorem dX5_belief_44 : decode cX5_belief 44 = .ok (.if_icmp .ge 99, 3) := by decide +kernel
theorem dX5_belief_47 : decode cX5_belief 47 = .ok (.aload_n 0, 1) := by decide +kernel
theorem dX5_belief_48 : decode cX5_belief 48 = .ok (.getfield 24, 3) := by decide +kernel
theorem dX5_belief_51 : decode cX5_belief 51 = .ok (.getfield 36, 3) := by decide +kernel
theorem dX5_belief_54 : decode cX5_belief 54 = .ok (.iconst 0, 1) := by decide +kernel
theorem dX5_belief_55 : decode cX5_belief 55 = .ok (.iload 9, 2) := by decide +kernel
theorem dX5_belief_57 : decode cX5_belief 57 = .ok (.iadd, 1) := by decide +kernel
theorem dX5_belief_58 : decode cX5_belief 58 = .ok (.iaload, 1) := by decide +kernel
theorem dX5_belief_59 : decode cX5_belief 59 = .ok (.istore 10, 2) := by decide +kernel
theorem dX5_belief_61 : decode cX5_belief 61 = .ok (.aload_n 0, 1) := by decide +kernel
theorem dX5_belief_62 : decode cX5_belief 62 = .ok (.getfield 24, 3) := by decide +kernel
theorem dX5_belief_65 : decode cX5_belief 65 = .ok (.getfield 36, 3) := by decide +kernel
theorem dX5_belief_68 : decode cX5_belief 68 = .ok (.bipush 6, 2) := by decide +kernel
theorem dX5_belief_70 : decode cX5_belief 70 = .ok (.iload 9, 2) := by decide +kernel
theorem dX5_belief_72 : decode cX5_belief 72 = .ok (.iadd, 1) := by decide +kernel
theorem dX5_belief_73 : decode cX5_belief 73 = .ok (.iaload, 1) := by decide +kernel
theorem dX5_belief_74 : decode cX5_belief 74 = .ok (.istore 11, 2) := by decide +kernel
theorem dX5_belief_76 : decode cX5_belief 76 = .ok (.iload_n 2, 1) := by decide +kernel
theorem dX5_belief_77 : decode cX5_belief 77 = .ok (.iload 9, 2) := by decide +kernel
theorem dX5_belief_79 : decode cX5_belief 79 = .ok (.ishr, 1) := by decide +kernel
theorem dX5_belief_80 : decode cX5_belief 80 = .ok (.iconst 1, 1) := by decide +kernel
theorem dX5_belief_81 : decode cX5_belief 81 = .ok (.iand, 1) := by decide +kernel
theorem dX5_belief_82 : decode cX5_belief 82 = .ok (.iconst 1, 1) := by decide +kernel
theorem dX5_belief_83 : decode cX5_belief 83 = .ok (.if_icmp .ne 7, 3) := by decide +kernel
theorem dX5_belief_86 : decode cX5_belief 86 = .ok (.iconst 1, 1) := by decide +kernel
theorem dX5_belief_87 : decode cX5_belief 87 = .ok (.goto 4, 3) := by decide +kernel
theorem dX5_belief_90 : decode cX5_belief 90 = .ok (.iconst 0, 1) := by decide +kernel
theorem dX5_belief_91 : decode cX5_belief 91 = .ok (.istore 12, 2) := by decide +kernel
theorem dX5_belief_93 : decode cX5_belief 93 = .ok (.lload 5, 2) := by decide +kernel
theorem dX5_belief_95 : decode cX5_belief 95 = .ok (.iload 12, 2) := by decide +kernel
theorem dX5_belief_97 : decode cX5_belief 97 = .ok (.ifCond .eq 9, 3) := by decide +kernel
theorem dX5_belief_100 : decode cX5_belief 100 = .ok (.iload 10, 2) := by decide +kernel
theorem dX5_belief_102 : decode cX5_belief 102 = .ok (.i2l, 1) := by decide +kernel
theorem dX5_belief_103 : decode cX5_belief 103 = .ok (.goto 9, 3) := by decide +kernel
theorem dX5_belief_106 : decode cX5_belief 106 = .ok (.bipush 10, 2) := by decide +kernel
theorem dX5_belief_108 : decode cX5_belief 108 = .ok (.iload 10, 2) := by decide +kernel
theorem dX5_belief_110 : decode cX5_belief 110 = .ok (.isub, 1) := by decide +kernel
theorem dX5_belief_111 : decode cX5_belief 111 = .ok (.i2l, 1) := by decide +kernel
theorem dX5_belief_112 : decode cX5_belief 112 = .ok (.lmul, 1) := by decide +kernel
theorem dX5_belief_113 : decode cX5_belief 113 = .ok (.lstore 5, 2) := by decide +kernel
theorem dX5_belief_115 : decode cX5_belief 115 = .ok (.lload 7, 2) := by decide +kernel
theorem dX5_belief_117 : decode cX5_belief 117 = .ok (.iload 12, 2) := by decide +kernel
theorem dX5_belief_119 : decode cX5_belief 119 = .ok (.ifCond .eq 9, 3) := by decide +kernel
theorem dX5_belief_122 : decode cX5_belief 122 = .ok (.iload 11, 2) := by decide +kernel
theorem dX5_belief_124 : decode cX5_belief 124 = .ok (.i2l, 1) := by decide +kernel
theorem dX5_belief_125 : decode cX5_belief 125 = .ok (.goto 9, 3) := by decide +kernel
theorem dX5_belief_128 : decode cX5_belief 128 = .ok (.bipush 10, 2) := by decide +kernel
theorem dX5_belief_130 : decode cX5_belief 130 = .ok (.iload 11, 2) := by decide +kernel
theorem dX5_belief_132 : decode cX5_belief 132 = .ok (.isub, 1) := by decide +kernel
theorem dX5_belief_133 : decode cX5_belief 133 = .ok (.i2l, 1) := by decide +kernel
theorem dX5_belief_134 : decode cX5_belief 134 = .ok (.lmul, 1) := by decide +kernel
theorem dX5_belief_135 : decode cX5_belief 135 = .ok (.lstore 7, 2) := by decide +kernel
theorem dX5_belief_137 : decode cX5_belief 137 = .ok (.iinc 9 1, 3) := by decide +kernel
theorem dX5_belief_140 : decode cX5_belief 140 = .ok (.goto (-100), 3) := by decide +kernel
theorem dX5_belief_143 : decode cX5_belief 143 = .ok (.lload 5, 2) := by decide +kernel
theorem dX5_belief_145 : decode cX5_belief 145 = .ok (.lload 7, 2) := by decide +kernel
theorem dX5_belief_147 : decode cX5_belief 147 = .ok (.ladd, 1) := by decide +kernel
theorem dX5_belief_148 : decode cX5_belief 148 = .ok (.lstore 9, 2) := by decide +kernel
theorem dX5_belief_150 : decode cX5_belief 150 = .ok (.lload 9, 2) := by decide +kernel
theorem dX5_belief_152 : decode cX5_belief 152 = .ok (.lconst 0, 1) := by decide +kernel
theorem dX5_belief_153 : decode cX5_belief 153 = .ok (.lcmp, 1) := by decide +kernel
theorem dX5_belief_154 : decode cX5_belief 154 = .ok (.ifCond .ne 7, 3) := by decide +kernel
theorem dX5_belief_157 : decode cX5_belief 157 = .ok (.lload_n 3, 1) := by decide +kernel
theorem dX5_belief_158 : decode cX5_belief 158 = .ok (.goto 12, 3) := by decide +kernel
theorem dX5_belief_161 : decode cX5_belief 161 = .ok (.lload 5, 2) := by decide +kernel
theorem dX5_belief_163 : decode cX5_belief 163 = .ok (.ldc2_w 39, 3) := by decide +kernel
theorem dX5_belief_166 : decode cX5_belief 166 = .ok (.lmul, 1) := by decide +kernel
theorem dX5_belief_167 : decode cX5_belief 167 = .ok (.lload 9, 2) := by decide +kernel
theorem dX5_belief_169 : decode cX5_belief 169 = .ok (.ldiv, 1) := by decide +kernel
theorem dX5_belief_170 : decode cX5_belief 170 = .ok (.lstore 11, 2) := by decide +kernel
theorem dX5_belief_172 : decode cX5_belief 172 = .ok (.aload_n 0, 1) := by decide +kernel
theorem dX5_belief_173 : decode cX5_belief 173 = .ok (.getfield 24, 3) := by decide +kernel
theorem dX5_belief_176 : decode cX5_belief 176 = .ok (.getfield 41, 3) := by decide +kernel
theorem dX5_belief_179 : decode cX5_belief 179 = .ok (.getfield 45, 3) := by decide +kernel
theorem dX5_belief_182 : decode cX5_belief 182 = .ok (.aload_n 0, 1) := by decide +kernel
theorem dX5_belief_183 : decode cX5_belief 183 = .ok (.getfield 24, 3) := by decide +kernel
theorem dX5_belief_186 : decode cX5_belief 186 = .ok (.getfield 50, 3) := by decide +kernel
theorem dX5_belief_189 : decode cX5_belief 189 = .ok (.iload_n 1, 1) := by decide +kernel
theorem dX5_belief_190 : decode cX5_belief 190 = .ok (.iaload, 1) := by decide +kernel
theorem dX5_belief_191 : decode cX5_belief 191 = .ok (.iaload, 1) := by decide +kernel
theorem dX5_belief_192 : decode cX5_belief 192 = .ok (.istore 13, 2) := by decide +kernel
theorem dX5_belief_194 : decode cX5_belief 194 = .ok (.iload 13, 2) := by decide +kernel
theorem dX5_belief_196 : decode cX5_belief 196 = .ok (.i2l, 1) := by decide +kernel
theorem dX5_belief_197 : decode cX5_belief 197 = .ok (.lload 11, 2) := by decide +kernel
theorem dX5_belief_199 : decode cX5_belief 199 = .ok (.lmul, 1) := by decide +kernel
theorem dX5_belief_200 : decode cX5_belief 200 = .ok (.bipush 100, 2) := by decide +kernel
theorem dX5_belief_202 : decode cX5_belief 202 = .ok (.iload 13, 2) := by decide +kernel
theorem dX5_belief_204 : decode cX5_belief 204 = .ok (.isub, 1) := by decide +kernel
theorem dX5_belief_205 : decode cX5_belief 205 = .ok (.i2l, 1) := by decide +kernel
theorem dX5_belief_206 : decode cX5_belief 206 = .ok (.lload_n 3, 1) := by decide +kernel
theorem dX5_belief_207 : decode cX5_belief 207 = .ok (.lmul, 1) := by decide +kernel
theorem dX5_belief_208 : decode cX5_belief 208 = .ok (.ladd, 1) := by decide +kernel
theorem dX5_belief_209 : decode cX5_belief 209 = .ok (.ldc2_w 53, 3) := by decide +kernel
theorem dX5_belief_212 : decode cX5_belief 212 = .ok (.ldiv, 1) := by decide +kernel
theorem dX5_belief_213 : decode cX5_belief 213 = .ok (.l2i, 1) := by decide +kernel
theorem dX5_belief_214 : decode cX5_belief 214 = .ok (.ireturn, 1) := by decide +kernel
theorem dX11_of_0 : decode cX11_of 0 = .ok (.aload_n 0, 1) := by decide +kernel
theorem dX11_of_1 : decode cX11_of 1 = .ok (.getfield 10, 3) := by decide +kernel
theorem dX11_of_4 : decode cX11_of 4 = .ok (.iload_n 1, 1) := by decide +kernel
theorem dX11_of_5 : decode cX11_of 5 = .ok (.invokevirtual 97, 3) := by decide +kernel
theorem dX11_of_8 : decode cX11_of 8 = .ok (.ifCond .ne 5, 3) := by decide +kernel
theorem dX11_of_11 : decode cX11_of 11 = .ok (.iconst (-1), 1) := by decide +kernel
theorem dX11_of_12 : decode cX11_of 12 = .ok (.ireturn, 1) := by decide +kernel
theorem dX11_of_13 : decode cX11_of 13 = .ok (.iload_n 2, 1) := by decide +kernel
theorem dX11_of_14 : decode cX11_of 14 = .ok (.tableswitch 104 0 4 #[34, 47, 57, 70, 83], 34) := by decide +kernel
theorem dX11_of_48 : decode cX11_of 48 = .ok (.aload_n 0, 1) := by decide +kernel
theorem dX11_of_49 : decode cX11_of 49 = .ok (.getfield 10, 3) := by decide +kernel
theorem dX11_of_52 : decode cX11_of 52 = .ok (.getfield 101, 3) := by decide +kernel
theorem dX11_of_55 : decode cX11_of 55 = .ok (.getfield 105, 3) := by decide +kernel
theorem dX11_of_58 : decode cX11_of 58 = .ok (.iload_n 1, 1) := by decide +kernel
theorem dX11_of_59 : decode cX11_of 59 = .ok (.iaload, 1) := by decide +kernel
theorem dX11_of_60 : decode cX11_of 60 = .ok (.ireturn, 1) := by decide +kernel
theorem dX11_of_61 : decode cX11_of 61 = .ok (.aload_n 0, 1) := by decide +kernel
theorem dX11_of_62 : decode cX11_of 62 = .ok (.getfield 10, 3) := by decide +kernel
theorem dX11_of_65 : decode cX11_of 65 = .ok (.getfield 110, 3) := by decide +kernel
theorem dX11_of_68 : decode cX11_of 68 = .ok (.iload_n 1, 1) := by decide +kernel
theorem dX11_of_69 : decode cX11_of 69 = .ok (.iaload, 1) := by decide +kernel
theorem dX11_of_70 : decode cX11_of 70 = .ok (.ireturn, 1) := by decide +kernel
theorem dX11_of_71 : decode cX11_of 71 = .ok (.aload_n 0, 1) := by decide +kernel
theorem dX11_of_72 : decode cX11_of 72 = .ok (.getfield 10, 3) := by decide +kernel
theorem dX11_of_75 : decode cX11_of 75 = .ok (.getfield 101, 3) := by decide +kernel
theorem dX11_of_78 : decode cX11_of 78 = .ok (.getfield 113, 3) := by decide +kernel
theorem dX11_of_81 : decode cX11_of 81 = .ok (.iload_n 1, 1) := by decide +kernel
theorem dX11_of_82 : decode cX11_of 82 = .ok (.iaload, 1) := by decide +kernel
theorem dX11_of_83 : decode cX11_of 83 = .ok (.ireturn, 1) := by decide +kernel
theorem dX11_of_84 : decode cX11_of 84 = .ok (.aload_n 0, 1) := by decide +kernel
theorem dX11_of_85 : decode cX11_of 85 = .ok (.getfield 10, 3) := by decide +kernel
theorem dX11_of_88 : decode cX11_of 88 = .ok (.getfield 101, 3) := by decide +kernel
theorem dX11_of_91 : decode cX11_of 91 = .ok (.getfield 116, 3) := by decide +kernel
theorem dX11_of_94 : decode cX11_of 94 = .ok (.iload_n 1, 1) := by decide +kernel
theorem dX11_of_95 : decode cX11_of 95 = .ok (.iaload, 1) := by decide +kernel
theorem dX11_of_96 : decode cX11_of 96 = .ok (.ireturn, 1) := by decide +kernel
theorem dX11_of_97 : decode cX11_of 97 = .ok (.aload_n 0, 1) := by decide +kernel
theorem dX11_of_98 : decode cX11_of 98 = .ok (.getfield 44, 3) := by decide +kernel
theorem dX11_of_101 : decode cX11_of 101 = .ok (.iload_n 1, 1) := by decide +kernel
theorem dX11_of_102 : decode cX11_of 102 = .ok (.aload_n 0, 1) := by decide +kernel
theorem dX11_of_103 : decode cX11_of 103 = .ok (.getfield 10, 3) := by decide +kernel
theorem dX11_of_106 : decode cX11_of 106 = .ok (.getfield 101, 3) := by decide +kernel
theorem dX11_of_109 : decode cX11_of 109 = .ok (.getfield 113, 3) := by decide +kernel
theorem dX11_of_112 : decode cX11_of 112 = .ok (.iload_n 1, 1) := by decide +kernel
theorem dX11_of_113 : decode cX11_of 113 = .ok (.iaload, 1) := by decide +kernel
theorem dX11_of_114 : decode cX11_of 114 = .ok (.invokevirtual 119, 3) := by decide +kernel
theorem dX11_of_117 : decode cX11_of 117 = .ok (.ireturn, 1) := by decide +kernel
theorem dX11_of_118 : decode cX11_of 118 = .ok (.iconst (-1), 1) := by decide +kernel
theorem dX11_of_119 : decode cX11_of 119 = .ok (.ireturn, 1) := by decide +kernel
theorem dX11_sign_0 : decode cX11_sign 0 = .ok (.iload_n 2, 1) := by decide +kernel
theorem dX11_sign_1 : decode cX11_sign 1 = .ok (.iconst 2, 1) := by decide +kernel
theorem dX11_sign_2 : decode cX11_sign 2 = .ok (.if_icmp .ne 8, 3) := by decide +kernel
theorem dX11_sign_5 : decode cX11_sign 5 = .ok (.bipush 99, 2) := by decide +kernel
theorem dX11_sign_7 : decode cX11_sign 7 = .ok (.goto 5, 3) := by decide +kernel
theorem dX11_sign_10 : decode cX11_sign 10 = .ok (.bipush 10, 2) := by decide +kernel
theorem dX11_sign_12 : decode cX11_sign 12 = .ok (.istore 4, 2) := by decide +kernel
theorem dX11_sign_14 : decode cX11_sign 14 = .ok (.iload_n 1, 1) := by decide +kernel
theorem dX11_sign_15 : decode cX11_sign 15 = .ok (.iconst 0, 1) := by decide +kernel
theorem dX11_sign_16 : decode cX11_sign 16 = .ok (.iconst 5, 1) := by decide +kernel
theorem dX11_sign_17 : decode cX11_sign 17 = .ok (.invokestatic 122, 3) := by decide +kernel
theorem dX11_sign_20 : decode cX11_sign 20 = .ok (.ifCond .eq 22, 3) := by decide +kernel
theorem dX11_sign_23 : decode cX11_sign 23 = .ok (.iload_n 2, 1) := by decide +kernel
theorem dX11_sign_24 : decode cX11_sign 24 = .ok (.iconst 0, 1) := by decide +kernel
theorem dX11_sign_25 : decode cX11_sign 25 = .ok (.iconst 2, 1) := by decide +kernel
theorem dX11_sign_26 : decode cX11_sign 26 = .ok (.invokestatic 122, 3) := by decide +kernel
theorem dX11_sign_29 : decode cX11_sign 29 = .ok (.ifCond .eq 13, 3) := by decide +kernel
theorem dX11_sign_32 : decode cX11_sign 32 = .ok (.iload_n 3, 1) := by decide +kernel
theorem dX11_sign_33 : decode cX11_sign 33 = .ok (.iconst 0, 1) := by decide +kernel
theorem dX11_sign_34 : decode cX11_sign 34 = .ok (.iload 4, 2) := by decide +kernel
theorem dX11_sign_36 : decode cX11_sign 36 = .ok (.invokestatic 122, 3) := by decide +kernel
theorem dX11_sign_39 : decode cX11_sign 39 = .ok (.ifCond .ne 9, 3) := by decide +kernel
theorem dX11_sign_42 : decode cX11_sign 42 = .ok (.aload_n 0, 1) := by decide +kernel
theorem dX11_sign_43 : decode cX11_sign 43 = .ok (.iconst (-1), 1) := by decide +kernel
theorem dX11_sign_44 : decode cX11_sign 44 = .ok (.invokevirtual 126, 3) := by decide +kernel
theorem dX11_sign_47 : decode cX11_sign 47 = .ok (.ireturn, 1) := by decide +kernel
theorem dX11_sign_48 : decode cX11_sign 48 = .ok (.iload_n 2, 1) := by decide +kernel
theorem dX11_sign_49 : decode cX11_sign 49 = .ok (.bipush 6, 2) := by decide +kernel
theorem dX11_sign_51 : decode cX11_sign 51 = .ok (.imul, 1) := by decide +kernel
theorem dX11_sign_52 : decode cX11_sign 52 = .ok (.iload_n 1, 1) := by decide +kernel
theorem dX11_sign_53 : decode cX11_sign 53 = .ok (.iadd, 1) := by decide +kernel
theorem dX11_sign_54 : decode cX11_sign 54 = .ok (.istore 5, 2) := by decide +kernel
theorem dX11_sign_56 : decode cX11_sign 56 = .ok (.aload_n 0, 1) := by decide +kernel
theorem dX11_sign_57 : decode cX11_sign 57 = .ok (.getfield 10, 3) := by decide +kernel
theorem dX11_sign_60 : decode cX11_sign 60 = .ok (.getfield 129, 3) := by decide +kernel
theorem dX11_sign_63 : decode cX11_sign 63 = .ok (.iload 5, 2) := by decide +kernel
theorem dX11_sign_65 : decode cX11_sign 65 = .ok (.iaload, 1) := by decide +kernel
theorem dX11_sign_66 : decode cX11_sign 66 = .ok (.istore 6, 2) := by decide +kernel
theorem dX11_sign_68 : decode cX11_sign 68 = .ok (.aload_n 0, 1) := by decide +kernel
theorem dX11_sign_69 : decode cX11_sign 69 = .ok (.getfield 10, 3) := by decide +kernel
theorem dX11_sign_72 : decode cX11_sign 72 = .ok (.getfield 129, 3) := by decide +kernel
theorem dX11_sign_75 : decode cX11_sign 75 = .ok (.iload 5, 2) := by decide +kernel
theorem dX11_sign_77 : decode cX11_sign 77 = .ok (.iload_n 3, 1) := by decide +kernel
theorem dX11_sign_78 : decode cX11_sign 78 = .ok (.iastore, 1) := by decide +kernel
theorem dX11_sign_79 : decode cX11_sign 79 = .ok (.aload_n 0, 1) := by decide +kernel
theorem dX11_sign_80 : decode cX11_sign 80 = .ok (.getfield 53, 3) := by decide +kernel
theorem dX11_sign_83 : decode cX11_sign 83 = .ok (.invokevirtual 90, 3) := by decide +kernel
theorem dX11_sign_86 : decode cX11_sign 86 = .ok (.aload_n 0, 1) := by decide +kernel
theorem dX11_sign_87 : decode cX11_sign 87 = .ok (.iload 6, 2) := by decide +kernel
theorem dX11_sign_89 : decode cX11_sign 89 = .ok (.invokevirtual 93, 3) := by decide +kernel
theorem dX11_sign_92 : decode cX11_sign 92 = .ok (.ireturn, 1) := by decide +kernel
theorem dX11_road_0 : decode cX11_road 0 = .ok (.iload_n 1, 1) := by decide +kernel
theorem dX11_road_1 : decode cX11_road 1 = .ok (.iload_n 2, 1) := by decide +kernel
theorem dX11_road_2 : decode cX11_road 2 = .ok (.if_icmp .eq 13, 3) := by decide +kernel
theorem dX11_road_5 : decode cX11_road 5 = .ok (.iload_n 3, 1) := by decide +kernel
theorem dX11_road_6 : decode cX11_road 6 = .ok (.iconst 0, 1) := by decide +kernel
theorem dX11_road_7 : decode cX11_road 7 = .ok (.bipush 99, 2) := by decide +kernel
theorem dX11_road_9 : decode cX11_road 9 = .ok (.invokestatic 122, 3) := by decide +kernel
theorem dX11_road_12 : decode cX11_road 12 = .ok (.ifCond .ne 9, 3) := by decide +kernel
theorem dX11_road_15 : decode cX11_road 15 = .ok (.aload_n 0, 1) := by decide +kernel
theorem dX11_road_16 : decode cX11_road 16 = .ok (.iconst (-1), 1) := by decide +kernel
theorem dX11_road_17 : decode cX11_road 17 = .ok (.invokevirtual 126, 3) := by decide +kernel
theorem dX11_road_20 : decode cX11_road 20 = .ok (.ireturn, 1) := by decide +kernel
theorem dX11_road_21 : decode cX11_road 21 = .ok (.aload_n 0, 1) := by decide +kernel
theorem dX11_road_22 : decode cX11_road 22 = .ok (.getfield 10, 3) := by decide +kernel
theorem dX11_road_25 : decode cX11_road 25 = .ok (.iload_n 1, 1) := by decide +kernel
theorem dX11_road_26 : decode cX11_road 26 = .ok (.invokevirtual 97, 3) := by decide +kernel
theorem dX11_road_29 : decode cX11_road 29 = .ok (.ifCond .eq 14, 3) := by decide +kernel
theorem dX11_road_32 : decode cX11_road 32 = .ok (.aload_n 0, 1) := by decide +kernel
theorem dX11_road_33 : decode cX11_road 33 = .ok (.getfield 10, 3) := by decide +kernel
theorem dX11_road_36 : decode cX11_road 36 = .ok (.iload_n 2, 1) := by decide +kernel
theorem dX11_road_37 : decode cX11_road 37 = .ok (.invokevirtual 97, 3) := by decide +kernel
theorem dX11_road_40 : decode cX11_road 40 = .ok (.ifCond .ne 10, 3) := by decide +kernel
theorem dX11_road_43 : decode cX11_road 43 = .ok (.aload_n 0, 1) := by decide +kernel
theorem dX11_road_44 : decode cX11_road 44 = .ok (.bipush (-2), 2) := by decide +kernel
theorem dX11_road_46 : decode cX11_road 46 = .ok (.invokevirtual 126, 3) := by decide +kernel
theorem dX11_road_49 : decode cX11_road 49 = .ok (.ireturn, 1) := by decide +kernel
theorem dX11_road_50 : decode cX11_road 50 = .ok (.aload_n 0, 1) := by decide +kernel
theorem dX11_road_51 : decode cX11_road 51 = .ok (.getfield 10, 3) := by decide +kernel
theorem dX11_road_54 : decode cX11_road 54 = .ok (.getfield 132, 3) := by decide +kernel
theorem dX11_road_57 : decode cX11_road 57 = .ok (.iload_n 1, 1) := by decide +kernel
theorem dX11_road_58 : decode cX11_road 58 = .ok (.bipush 6, 2) := by decide +kernel
theorem dX11_road_60 : decode cX11_road 60 = .ok (.imul, 1) := by decide +kernel
theorem dX11_road_61 : decode cX11_road 61 = .ok (.iload_n 2, 1) := by decide +kernel
theorem dX11_road_62 : decode cX11_road 62 = .ok (.iadd, 1) := by decide +kernel
theorem dX11_road_63 : decode cX11_road 63 = .ok (.iaload, 1) := by decide +kernel
theorem dX11_road_64 : decode cX11_road 64 = .ok (.istore 4, 2) := by decide +kernel
theorem dX11_road_66 : decode cX11_road 66 = .ok (.aload_n 0, 1) := by decide +kernel
theorem dX11_road_67 : decode cX11_road 67 = .ok (.getfield 10, 3) := by decide +kernel
theorem dX11_road_70 : decode cX11_road 70 = .ok (.getfield 132, 3) := by decide +kernel
theorem dX11_road_73 : decode cX11_road 73 = .ok (.iload_n 1, 1) := by decide +kernel
theorem dX11_road_74 : decode cX11_road 74 = .ok (.bipush 6, 2) := by decide +kernel
theorem dX11_road_76 : decode cX11_road 76 = .ok (.imul, 1) := by decide +kernel
theorem dX11_road_77 : decode cX11_road 77 = .ok (.iload_n 2, 1) := by decide +kernel
theorem dX11_road_78 : decode cX11_road 78 = .ok (.iadd, 1) := by decide +kernel
theorem dX11_road_79 : decode cX11_road 79 = .ok (.iload_n 3, 1) := by decide +kernel
theorem dX11_road_80 : decode cX11_road 80 = .ok (.iastore, 1) := by decide +kernel
theorem dX11_road_81 : decode cX11_road 81 = .ok (.aload_n 0, 1) := by decide +kernel
theorem dX11_road_82 : decode cX11_road 82 = .ok (.getfield 10, 3) := by decide +kernel
theorem dX11_road_85 : decode cX11_road 85 = .ok (.getfield 132, 3) := by decide +kernel
theorem dX11_road_88 : decode cX11_road 88 = .ok (.iload_n 2, 1) := by decide +kernel
theorem dX11_road_89 : decode cX11_road 89 = .ok (.bipush 6, 2) := by decide +kernel
theorem dX11_road_91 : decode cX11_road 91 = .ok (.imul, 1) := by decide +kernel
theorem dX11_road_92 : decode cX11_road 92 = .ok (.iload_n 1, 1) := by decide +kernel
theorem dX11_road_93 : decode cX11_road 93 = .ok (.iadd, 1) := by decide +kernel
theorem dX11_road_94 : decode cX11_road 94 = .ok (.iload_n 3, 1) := by decide +kernel
theorem dX11_road_95 : decode cX11_road 95 = .ok (.iastore, 1) := by decide +kernel
theorem dX11_road_96 : decode cX11_road 96 = .ok (.aload_n 0, 1) := by decide +kernel
theorem dX11_road_97 : decode cX11_road 97 = .ok (.iload 4, 2) := by decide +kernel
theorem dX11_road_99 : decode cX11_road 99 = .ok (.invokevirtual 93, 3) := by decide +kernel
theorem dX11_road_102 : decode cX11_road 102 = .ok (.ireturn, 1) := by decide +kernel
theorem dX11_fame_0 : decode cX11_fame 0 = .ok (.iload_n 1, 1) := by decide +kernel
theorem dX11_fame_1 : decode cX11_fame 1 = .ok (.iconst 0, 1) := by decide +kernel
theorem dX11_fame_2 : decode cX11_fame 2 = .ok (.iconst 3, 1) := by decide +kernel
theorem dX11_fame_3 : decode cX11_fame 3 = .ok (.invokestatic 122, 3) := by decide +kernel
theorem dX11_fame_6 : decode cX11_fame 6 = .ok (.ifCond .eq 13, 3) := by decide +kernel
theorem dX11_fame_9 : decode cX11_fame 9 = .ok (.iload_n 2, 1) := by decide +kernel
theorem dX11_fame_10 : decode cX11_fame 10 = .ok (.iconst 0, 1) := by decide +kernel
theorem dX11_fame_11 : decode cX11_fame 11 = .ok (.bipush 100, 2) := by decide +kernel
theorem dX11_fame_13 : decode cX11_fame 13 = .ok (.invokestatic 122, 3) := by decide +kernel
theorem dX11_fame_16 : decode cX11_fame 16 = .ok (.ifCond .ne 9, 3) := by decide +kernel
theorem dX11_fame_19 : decode cX11_fame 19 = .ok (.aload_n 0, 1) := by decide +kernel
theorem dX11_fame_20 : decode cX11_fame 20 = .ok (.iconst (-1), 1) := by decide +kernel
theorem dX11_fame_21 : decode cX11_fame 21 = .ok (.invokevirtual 126, 3) := by decide +kernel
theorem dX11_fame_24 : decode cX11_fame 24 = .ok (.ireturn, 1) := by decide +kernel
theorem dX11_fame_25 : decode cX11_fame 25 = .ok (.aload_n 0, 1) := by decide +kernel
theorem dX11_fame_26 : decode cX11_fame 26 = .ok (.getfield 10, 3) := by decide +kernel
theorem dX11_fame_29 : decode cX11_fame 29 = .ok (.getfield 101, 3) := by decide +kernel
theorem dX11_fame_32 : decode cX11_fame 32 = .ok (.getfield 135, 3) := by decide +kernel
theorem dX11_fame_35 : decode cX11_fame 35 = .ok (.iload_n 1, 1) := by decide +kernel
theorem dX11_fame_36 : decode cX11_fame 36 = .ok (.iaload, 1) := by decide +kernel
theorem dX11_fame_37 : decode cX11_fame 37 = .ok (.istore_n 3, 1) := by decide +kernel
theorem dX11_fame_38 : decode cX11_fame 38 = .ok (.aload_n 0, 1) := by decide +kernel
theorem dX11_fame_39 : decode cX11_fame 39 = .ok (.getfield 10, 3) := by decide +kernel
theorem dX11_fame_42 : decode cX11_fame 42 = .ok (.getfield 101, 3) := by decide +kernel
theorem dX11_fame_45 : decode cX11_fame 45 = .ok (.getfield 135, 3) := by decide +kernel
theorem dX11_fame_48 : decode cX11_fame 48 = .ok (.iload_n 1, 1) := by decide +kernel
theorem dX11_fame_49 : decode cX11_fame 49 = .ok (.iload_n 2, 1) := by decide +kernel
theorem dX11_fame_50 : decode cX11_fame 50 = .ok (.iastore, 1) := by decide +kernel
theorem dX11_fame_51 : decode cX11_fame 51 = .ok (.aload_n 0, 1) := by decide +kernel
theorem dX11_fame_52 : decode cX11_fame 52 = .ok (.getfield 53, 3) := by decide +kernel
theorem dX11_fame_55 : decode cX11_fame 55 = .ok (.invokevirtual 90, 3) := by decide +kernel
theorem dX11_fame_58 : decode cX11_fame 58 = .ok (.aload_n 0, 1) := by decide +kernel
theorem dX11_fame_59 : decode cX11_fame 59 = .ok (.iload_n 3, 1) := by decide +kernel
theorem dX11_fame_60 : decode cX11_fame 60 = .ok (.invokevirtual 93, 3) := by decide +kernel
theorem dX11_fame_63 : decode cX11_fame 63 = .ok (.ireturn, 1) := by decide +kernel
theorem dX5_ask_0 : decode cX5_ask 0 = .ok (.aload_n 0, 1) := by decide +kernel
theorem dX5_ask_1 : decode cX5_ask 1 = .ok (.getfield 9, 3) := by decide +kernel
theorem dX5_ask_4 : decode cX5_ask 4 = .ok (.iconst 0, 1) := by decide +kernel
theorem dX5_ask_5 : decode cX5_ask 5 = .ok (.iload_n 1, 1) := by decide +kernel
theorem dX5_ask_6 : decode cX5_ask 6 = .ok (.iastore, 1) := by decide +kernel
theorem dX5_ask_7 : decode cX5_ask 7 = .ok (.aload_n 0, 1) := by decide +kernel
theorem dX5_ask_8 : decode cX5_ask 8 = .ok (.getfield 9, 3) := by decide +kernel
theorem dX5_ask_11 : decode cX5_ask 11 = .ok (.iconst 1, 1) := by decide +kernel
theorem dX5_ask_12 : decode cX5_ask 12 = .ok (.aload_n 0, 1) := by decide +kernel
theorem dX5_ask_13 : decode cX5_ask 13 = .ok (.getfield 24, 3) := by decide +kernel
theorem dX5_ask_16 : decode cX5_ask 16 = .ok (.getfield 41, 3) := by decide +kernel
theorem dX5_ask_19 : decode cX5_ask 19 = .ok (.getfield 72, 3) := by decide +kernel
theorem dX5_ask_22 : decode cX5_ask 22 = .ok (.iload_n 1, 1) := by decide +kernel
theorem dX5_ask_23 : decode cX5_ask 23 = .ok (.iaload, 1) := by decide +kernel
theorem dX5_ask_24 : decode cX5_ask 24 = .ok (.iastore, 1) := by decide +kernel
theorem dX5_ask_25 : decode cX5_ask 25 = .ok (.aload_n 0, 1) := by decide +kernel
theorem dX5_ask_26 : decode cX5_ask 26 = .ok (.getfield 9, 3) := by decide +kernel
theorem dX5_ask_29 : decode cX5_ask 29 = .ok (.iconst 2, 1) := by decide +kernel
theorem dX5_ask_30 : decode cX5_ask 30 = .ok (.aload_n 0, 1) := by decide +kernel
theorem dX5_ask_31 : decode cX5_ask 31 = .ok (.getfield 24, 3) := by decide +kernel
theorem dX5_ask_34 : decode cX5_ask 34 = .ok (.getfield 50, 3) := by decide +kernel
theorem dX5_ask_37 : decode cX5_ask 37 = .ok (.iload_n 1, 1) := by decide +kernel
theorem dX5_ask_38 : decode cX5_ask 38 = .ok (.iaload, 1) := by decide +kernel
theorem dX5_ask_39 : decode cX5_ask 39 = .ok (.iastore, 1) := by decide +kernel
theorem dX5_ask_40 : decode cX5_ask 40 = .ok (.aload_n 0, 1) := by decide +kernel
theorem dX5_ask_41 : decode cX5_ask 41 = .ok (.getfield 9, 3) := by decide +kernel
theorem dX5_ask_44 : decode cX5_ask 44 = .ok (.iconst 3, 1) := by decide +kernel
theorem dX5_ask_45 : decode cX5_ask 45 = .ok (.aload_n 0, 1) := by decide +kernel
theorem dX5_ask_46 : decode cX5_ask 46 = .ok (.getfield 24, 3) := by decide +kernel
theorem dX5_ask_49 : decode cX5_ask 49 = .ok (.getfield 41, 3) := by decide +kernel
theorem dX5_ask_52 : decode cX5_ask 52 = .ok (.getfield 45, 3) := by decide +kernel
theorem dX5_ask_55 : decode cX5_ask 55 = .ok (.aload_n 0, 1) := by decide +kernel
theorem dX5_ask_56 : decode cX5_ask 56 = .ok (.getfield 24, 3) := by decide +kernel
theorem dX5_ask_59 : decode cX5_ask 59 = .ok (.getfield 50, 3) := by decide +kernel
theorem dX5_ask_62 : decode cX5_ask 62 = .ok (.iload_n 1, 1) := by decide +kernel
theorem dX5_ask_63 : decode cX5_ask 63 = .ok (.iaload, 1) := by decide +kernel
theorem dX5_ask_64 : decode cX5_ask 64 = .ok (.iaload, 1) := by decide +kernel
theorem dX5_ask_65 : decode cX5_ask 65 = .ok (.iastore, 1) := by decide +kernel
theorem dX5_ask_66 : decode cX5_ask 66 = .ok (.aload_n 0, 1) := by decide +kernel
theorem dX5_ask_67 : decode cX5_ask 67 = .ok (.getfield 9, 3) := by decide +kernel
theorem dX5_ask_70 : decode cX5_ask 70 = .ok (.iconst 4, 1) := by decide +kernel
theorem dX5_ask_71 : decode cX5_ask 71 = .ok (.iload_n 2, 1) := by decide +kernel
theorem dX5_ask_72 : decode cX5_ask 72 = .ok (.iastore, 1) := by decide +kernel
theorem dX5_ask_73 : decode cX5_ask 73 = .ok (.aload_n 0, 1) := by decide +kernel
theorem dX5_ask_74 : decode cX5_ask 74 = .ok (.getfield 9, 3) := by decide +kernel
theorem dX5_ask_77 : decode cX5_ask 77 = .ok (.iconst 5, 1) := by decide +kernel
theorem dX5_ask_78 : decode cX5_ask 78 = .ok (.iload_n 3, 1) := by decide +kernel
theorem dX5_ask_79 : decode cX5_ask 79 = .ok (.iastore, 1) := by decide +kernel
theorem dX5_ask_80 : decode cX5_ask 80 = .ok (.aload_n 0, 1) := by decide +kernel
theorem dX5_ask_81 : decode cX5_ask 81 = .ok (.getfield 9, 3) := by decide +kernel
theorem dX5_ask_84 : decode cX5_ask 84 = .ok (.bipush 6, 2) := by decide +kernel
theorem dX5_ask_86 : decode cX5_ask 86 = .ok (.iload 4, 2) := by decide +kernel
theorem dX5_ask_88 : decode cX5_ask 88 = .ok (.iastore, 1) := by decide +kernel
theorem dX5_ask_89 : decode cX5_ask 89 = .ok (.aload_n 0, 1) := by decide +kernel
theorem dX5_ask_90 : decode cX5_ask 90 = .ok (.getfield 9, 3) := by decide +kernel
theorem dX5_ask_93 : decode cX5_ask 93 = .ok (.bipush 7, 2) := by decide +kernel
theorem dX5_ask_95 : decode cX5_ask 95 = .ok (.iload 5, 2) := by decide +kernel
theorem dX5_ask_97 : decode cX5_ask 97 = .ok (.iastore, 1) := by decide +kernel
theorem dX5_ask_98 : decode cX5_ask 98 = .ok (.aload_n 0, 1) := by decide +kernel
theorem dX5_ask_99 : decode cX5_ask 99 = .ok (.getfield 9, 3) := by decide +kernel
theorem dX5_ask_102 : decode cX5_ask 102 = .ok (.bipush 8, 2) := by decide +kernel
theorem dX5_ask_104 : decode cX5_ask 104 = .ok (.aload_n 0, 1) := by decide +kernel
theorem dX5_ask_105 : decode cX5_ask 105 = .ok (.getfield 24, 3) := by decide +kernel
theorem dX5_ask_108 : decode cX5_ask 108 = .ok (.getfield 41, 3) := by decide +kernel
theorem dX5_ask_111 : decode cX5_ask 111 = .ok (.getfield 75, 3) := by decide +kernel
theorem dX5_ask_114 : decode cX5_ask 114 = .ok (.iastore, 1) := by decide +kernel
theorem dX5_ask_115 : decode cX5_ask 115 = .ok (.aload_n 0, 1) := by decide +kernel
theorem dX5_ask_116 : decode cX5_ask 116 = .ok (.getfield 9, 3) := by decide +kernel
theorem dX5_ask_119 : decode cX5_ask 119 = .ok (.bipush 9, 2) := by decide +kernel
theorem dX5_ask_121 : decode cX5_ask 121 = .ok (.aload_n 0, 1) := by decide +kernel
theorem dX5_ask_122 : decode cX5_ask 122 = .ok (.getfield 24, 3) := by decide +kernel
theorem dX5_ask_125 : decode cX5_ask 125 = .ok (.getfield 78, 3) := by decide +kernel
theorem dX5_ask_128 : decode cX5_ask 128 = .ok (.iastore, 1) := by decide +kernel
theorem dX5_ask_129 : decode cX5_ask 129 = .ok (.return_, 1) := by decide +kernel
theorem dX6_lawInForce_0 : decode cX6_lawInForce 0 = .ok (.aload_n 0, 1) := by decide +kernel
theorem dX6_lawInForce_1 : decode cX6_lawInForce 1 = .ok (.getfield 55, 3) := by decide +kernel
theorem dX6_lawInForce_4 : decode cX6_lawInForce 4 = .ok (.iconst 0, 1) := by decide +kernel
theorem dX6_lawInForce_5 : decode cX6_lawInForce 5 = .ok (.aload_n 0, 1) := by decide +kernel
theorem dX6_lawInForce_6 : decode cX6_lawInForce 6 = .ok (.getfield 92, 3) := by decide +kernel
theorem dX6_lawInForce_9 : decode cX6_lawInForce 9 = .ok (.iconst 1, 1) := by decide +kernel
theorem dX6_lawInForce_10 : decode cX6_lawInForce 10 = .ok (.isub, 1) := by decide +kernel
theorem dX6_lawInForce_11 : decode cX6_lawInForce 11 = .ok (.invokestatic 95, 3) := by decide +kernel
theorem dX6_lawInForce_14 : decode cX6_lawInForce 14 = .ok (.ifCond .eq 15, 3) := by decide +kernel
theorem dX6_lawInForce_17 : decode cX6_lawInForce 17 = .ok (.aload_n 0, 1) := by decide +kernel
theorem dX6_lawInForce_18 : decode cX6_lawInForce 18 = .ok (.getfield 47, 3) := by decide +kernel
theorem dX6_lawInForce_21 : decode cX6_lawInForce 21 = .ok (.aload_n 0, 1) := by decide +kernel
theorem dX6_lawInForce_22 : decode cX6_lawInForce 22 = .ok (.getfield 55, 3) := by decide +kernel
theorem dX6_lawInForce_25 : decode cX6_lawInForce 25 = .ok (.aaload, 1) := by decide +kernel
theorem dX6_lawInForce_26 : decode cX6_lawInForce 26 = .ok (.goto 4, 3) := by decide +kernel
theorem dX6_lawInForce_29 : decode cX6_lawInForce 29 = .ok (.aconst_null, 1) := by decide +kernel
theorem dX6_lawInForce_30 : decode cX6_lawInForce 30 = .ok (.areturn, 1) := by decide +kernel
theorem dX8_joined_0 : decode cX8_joined 0 = .ok (.iload_n 0, 1) := by decide +kernel
theorem dX8_joined_1 : decode cX8_joined 1 = .ok (.tableswitch 111 2 8 #[43, 47, 51, 55, 71, 87, 99], 43) := by decide +kernel
theorem dX8_joined_44 : decode cX8_joined 44 = .ok (.lload_n 1, 1) := by decide +kernel
theorem dX8_joined_45 : decode cX8_joined 45 = .ok (.lload_n 3, 1) := by decide +kernel
theorem dX8_joined_46 : decode cX8_joined 46 = .ok (.ladd, 1) := by decide +kernel
theorem dX8_joined_47 : decode cX8_joined 47 = .ok (.lreturn, 1) := by decide +kernel
theorem dX8_joined_48 : decode cX8_joined 48 = .ok (.lload_n 1, 1) := by decide +kernel
theorem dX8_joined_49 : decode cX8_joined 49 = .ok (.lload_n 3, 1) := by decide +kernel
theorem dX8_joined_50 : decode cX8_joined 50 = .ok (.lsub, 1) := by decide +kernel
theorem dX8_joined_51 : decode cX8_joined 51 = .ok (.lreturn, 1) := by decide +kernel
theorem dX8_joined_52 : decode cX8_joined 52 = .ok (.lload_n 1, 1) := by decide +kernel
theorem dX8_joined_53 : decode cX8_joined 53 = .ok (.lload_n 3, 1) := by decide +kernel
theorem dX8_joined_54 : decode cX8_joined 54 = .ok (.lmul, 1) := by decide +kernel
theorem dX8_joined_55 : decode cX8_joined 55 = .ok (.lreturn, 1) := by decide +kernel
theorem dX8_joined_56 : decode cX8_joined 56 = .ok (.lload_n 3, 1) := by decide +kernel
theorem dX8_joined_57 : decode cX8_joined 57 = .ok (.lconst 0, 1) := by decide +kernel
theorem dX8_joined_58 : decode cX8_joined 58 = .ok (.lcmp, 1) := by decide +kernel
theorem dX8_joined_59 : decode cX8_joined 59 = .ok (.ifCond .ne 9, 3) := by decide +kernel
theorem dX8_joined_62 : decode cX8_joined 62 = .ok (.ldc2_w 59, 3) := by decide +kernel
theorem dX8_joined_65 : decode cX8_joined 65 = .ok (.goto 6, 3) := by decide +kernel
theorem dX8_joined_68 : decode cX8_joined 68 = .ok (.lload_n 1, 1) := by decide +kernel
theorem dX8_joined_69 : decode cX8_joined 69 = .ok (.lload_n 3, 1) := by decide +kernel
theorem dX8_joined_70 : decode cX8_joined 70 = .ok (.ldiv, 1) := by decide +kernel
theorem dX8_joined_71 : decode cX8_joined 71 = .ok (.lreturn, 1) := by decide +kernel
theorem dX8_joined_72 : decode cX8_joined 72 = .ok (.lload_n 3, 1) := by decide +kernel
theorem dX8_joined_73 : decode cX8_joined 73 = .ok (.lconst 0, 1) := by decide +kernel
theorem dX8_joined_74 : decode cX8_joined 74 = .ok (.lcmp, 1) := by decide +kernel
theorem dX8_joined_75 : decode cX8_joined 75 = .ok (.ifCond .ne 9, 3) := by decide +kernel
theorem dX8_joined_78 : decode cX8_joined 78 = .ok (.ldc2_w 59, 3) := by decide +kernel
theorem dX8_joined_81 : decode cX8_joined 81 = .ok (.goto 6, 3) := by decide +kernel
theorem dX8_joined_84 : decode cX8_joined 84 = .ok (.lload_n 1, 1) := by decide +kernel
theorem dX8_joined_85 : decode cX8_joined 85 = .ok (.lload_n 3, 1) := by decide +kernel
theorem dX8_joined_86 : decode cX8_joined 86 = .ok (.lrem, 1) := by decide +kernel
theorem dX8_joined_87 : decode cX8_joined 87 = .ok (.lreturn, 1) := by decide +kernel
theorem dX8_joined_88 : decode cX8_joined 88 = .ok (.lload_n 1, 1) := by decide +kernel
theorem dX8_joined_89 : decode cX8_joined 89 = .ok (.lload_n 3, 1) := by decide +kernel
theorem dX8_joined_90 : decode cX8_joined 90 = .ok (.lcmp, 1) := by decide +kernel
theorem dX8_joined_91 : decode cX8_joined 91 = .ok (.ifCond .ge 7, 3) := by decide +kernel
theorem dX8_joined_94 : decode cX8_joined 94 = .ok (.lconst 1, 1) := by decide +kernel
theorem dX8_joined_95 : decode cX8_joined 95 = .ok (.goto 4, 3) := by decide +kernel
theorem dX8_joined_98 : decode cX8_joined 98 = .ok (.lconst 0, 1) := by decide +kernel
theorem dX8_joined_99 : decode cX8_joined 99 = .ok (.lreturn, 1) := by decide +kernel
theorem dX8_joined_100 : decode cX8_joined 100 = .ok (.lload_n 1, 1) := by decide +kernel
theorem dX8_joined_101 : decode cX8_joined 101 = .ok (.lload_n 3, 1) := by decide +kernel
theorem dX8_joined_102 : decode cX8_joined 102 = .ok (.lcmp, 1) := by decide +kernel
theorem dX8_joined_103 : decode cX8_joined 103 = .ok (.ifCond .le 7, 3) := by decide +kernel
theorem dX8_joined_106 : decode cX8_joined 106 = .ok (.lconst 1, 1) := by decide +kernel
theorem dX8_joined_107 : decode cX8_joined 107 = .ok (.goto 4, 3) := by decide +kernel
theorem dX8_joined_110 : decode cX8_joined 110 = .ok (.lconst 0, 1) := by decide +kernel
theorem dX8_joined_111 : decode cX8_joined 111 = .ok (.lreturn, 1) := by decide +kernel
theorem dX8_joined_112 : decode cX8_joined 112 = .ok (.lload_n 1, 1) := by decide +kernel
theorem dX8_joined_113 : decode cX8_joined 113 = .ok (.lload_n 3, 1) := by decide +kernel
theorem dX8_joined_114 : decode cX8_joined 114 = .ok (.lcmp, 1) := by decide +kernel
theorem dX8_joined_115 : decode cX8_joined 115 = .ok (.ifCond .ne 7, 3) := by decide +kernel
theorem dX8_joined_118 : decode cX8_joined 118 = .ok (.lconst 1, 1) := by decide +kernel
theorem dX8_joined_119 : decode cX8_joined 119 = .ok (.goto 4, 3) := by decide +kernel
theorem dX8_joined_122 : decode cX8_joined 122 = .ok (.lconst 0, 1) := by decide +kernel
theorem dX8_joined_123 : decode cX8_joined 123 = .ok (.lreturn, 1) := by decide +kernel
theorem dX8_worth_0 : decode cX8_worth 0 = .ok (.iload_n 1, 1) := by decide +kernel
theorem dX8_worth_1 : decode cX8_worth 1 = .ok (.iconst 4, 1) := by decide +kernel
theorem dX8_worth_2 : decode cX8_worth 2 = .ok (.imul, 1) := by decide +kernel
theorem dX8_worth_3 : decode cX8_worth 3 = .ok (.iload_n 2, 1) := by decide +kernel
theorem dX8_worth_4 : decode cX8_worth 4 = .ok (.iadd, 1) := by decide +kernel
theorem dX8_worth_5 : decode cX8_worth 5 = .ok (.istore 5, 2) := by decide +kernel
theorem dX8_worth_7 : decode cX8_worth 7 = .ok (.iload_n 1, 1) := by decide +kernel
theorem dX8_worth_8 : decode cX8_worth 8 = .ok (.ifCond .lt 30, 3) := by decide +kernel
theorem dX8_worth_11 : decode cX8_worth 11 = .ok (.iload_n 1, 1) := by decide +kernel
theorem dX8_worth_12 : decode cX8_worth 12 = .ok (.aload_n 0, 1) := by decide +kernel
theorem dX8_worth_13 : decode cX8_worth 13 = .ok (.getfield 24, 3) := by decide +kernel
theorem dX8_worth_16 : decode cX8_worth 16 = .ok (.if_icmp .ge 22, 3) := by decide +kernel
theorem dX8_worth_19 : decode cX8_worth 19 = .ok (.iload_n 2, 1) := by decide +kernel
theorem dX8_worth_20 : decode cX8_worth 20 = .ok (.ifCond .lt 18, 3) := by decide +kernel
theorem dX8_worth_23 : decode cX8_worth 23 = .ok (.iload_n 2, 1) := by decide +kernel
theorem dX8_worth_24 : decode cX8_worth 24 = .ok (.iconst 2, 1) := by decide +kernel
theorem dX8_worth_25 : decode cX8_worth 25 = .ok (.if_icmp .gt 13, 3) := by decide +kernel
theorem dX8_worth_28 : decode cX8_worth 28 = .ok (.aload_n 0, 1) := by decide +kernel
theorem dX8_worth_29 : decode cX8_worth 29 = .ok (.getfield 16, 3) := by decide +kernel
theorem dX8_worth_32 : decode cX8_worth 32 = .ok (.iload 5, 2) := by decide +kernel
theorem dX8_worth_34 : decode cX8_worth 34 = .ok (.iaload, 1) := by decide +kernel
theorem dX8_worth_35 : decode cX8_worth 35 = .ok (.ifCond .ge 6, 3) := by decide +kernel
theorem dX8_worth_38 : decode cX8_worth 38 = .ok (.ldc 44, 2) := by decide +kernel
theorem dX8_worth_40 : decode cX8_worth 40 = .ok (.ireturn, 1) := by decide +kernel
theorem dX8_worth_41 : decode cX8_worth 41 = .ok (.aload_n 0, 1) := by decide +kernel
theorem dX8_worth_42 : decode cX8_worth 42 = .ok (.getfield 16, 3) := by decide +kernel
theorem dX8_worth_45 : decode cX8_worth 45 = .ok (.iload 5, 2) := by decide +kernel
theorem dX8_worth_47 : decode cX8_worth 47 = .ok (.iconst 1, 1) := by decide +kernel
theorem dX8_worth_48 : decode cX8_worth 48 = .ok (.iadd, 1) := by decide +kernel
theorem dX8_worth_49 : decode cX8_worth 49 = .ok (.iaload, 1) := by decide +kernel
theorem dX8_worth_50 : decode cX8_worth 50 = .ok (.aload_n 0, 1) := by decide +kernel
theorem dX8_worth_51 : decode cX8_worth 51 = .ok (.getfield 34, 3) := by decide +kernel
theorem dX8_worth_54 : decode cX8_worth 54 = .ok (.invokestatic 45, 3) := by decide +kernel
theorem dX8_worth_57 : decode cX8_worth 57 = .ok (.istore 6, 2) := by decide +kernel
theorem dX8_worth_59 : decode cX8_worth 59 = .ok (.iconst 0, 1) := by decide +kernel
theorem dX8_worth_60 : decode cX8_worth 60 = .ok (.istore 7, 2) := by decide +kernel
theorem dX8_worth_62 : decode cX8_worth 62 = .ok (.iconst 0, 1) := by decide +kernel
theorem dX8_worth_63 : decode cX8_worth 63 = .ok (.istore 8, 2) := by decide +kernel
theorem dX8_worth_65 : decode cX8_worth 65 = .ok (.aload_n 0, 1) := by decide +kernel
theorem dX8_worth_66 : decode cX8_worth 66 = .ok (.getfield 16, 3) := by decide +kernel
theorem dX8_worth_69 : decode cX8_worth 69 = .ok (.iload 5, 2) := by decide +kernel
theorem dX8_worth_71 : decode cX8_worth 71 = .ok (.iaload, 1) := by decide +kernel
theorem dX8_worth_72 : decode cX8_worth 72 = .ok (.istore 9, 2) := by decide +kernel
theorem dX8_worth_74 : decode cX8_worth 74 = .ok (.iload 9, 2) := by decide +kernel
theorem dX8_worth_76 : decode cX8_worth 76 = .ok (.iload 6, 2) := by decide +kernel
theorem dX8_worth_78 : decode cX8_worth 78 = .ok (.if_icmp .ge 258, 3) := by decide +kernel
theorem dX8_worth_81 : decode cX8_worth 81 = .ok (.aload_n 0, 1) := by decide +kernel
theorem dX8_worth_82 : decode cX8_worth 82 = .ok (.getfield 21, 3) := by decide +kernel
theorem dX8_worth_85 : decode cX8_worth 85 = .ok (.iload 9, 2) := by decide +kernel
theorem dX8_worth_87 : decode cX8_worth 87 = .ok (.iaload, 1) := by decide +kernel
theorem dX8_worth_88 : decode cX8_worth 88 = .ok (.bipush 15, 2) := by decide +kernel
theorem dX8_worth_90 : decode cX8_worth 90 = .ok (.iand, 1) := by decide +kernel
theorem dX8_worth_91 : decode cX8_worth 91 = .ok (.istore 10, 2) := by decide +kernel
theorem dX8_worth_93 : decode cX8_worth 93 = .ok (.aload_n 0, 1) := by decide +kernel
theorem dX8_worth_94 : decode cX8_worth 94 = .ok (.getfield 21, 3) := by decide +kernel
theorem dX8_worth_97 : decode cX8_worth 97 = .ok (.iload 9, 2) := by decide +kernel
theorem dX8_worth_99 : decode cX8_worth 99 = .ok (.iaload, 1) := by decide +kernel
theorem dX8_worth_100 : decode cX8_worth 100 = .ok (.iconst 4, 1) := by decide +kernel
theorem dX8_worth_101 : decode cX8_worth 101 = .ok (.ishr, 1) := by decide +kernel
theorem dX8_worth_102 : decode cX8_worth 102 = .ok (.istore 11, 2) := by decide +kernel
theorem dX8_worth_104 : decode cX8_worth 104 = .ok (.iload 9, 2) := by decide +kernel
theorem dX8_worth_106 : decode cX8_worth 106 = .ok (.iload 8, 2) := by decide +kernel
theorem dX8_worth_108 : decode cX8_worth 108 = .ok (.if_icmp .ge 6, 3) := by decide +kernel
theorem dX8_worth_111 : decode cX8_worth 111 = .ok (.goto 219, 3) := by decide +kernel
theorem dX8_worth_114 : decode cX8_worth 114 = .ok (.iload 10, 2) := by decide +kernel
theorem dX8_worth_116 : decode cX8_worth 116 = .ok (.iconst 1, 1) := by decide +kernel
theorem dX8_worth_117 : decode cX8_worth 117 = .ok (.if_icmp .gt 60, 3) := by decide +kernel
theorem dX8_worth_120 : decode cX8_worth 120 = .ok (.iload 7, 2) := by decide +kernel
theorem dX8_worth_122 : decode cX8_worth 122 = .ok (.aload 4, 2) := by decide +kernel
theorem dX8_worth_124 : decode cX8_worth 124 = .ok (.arraylength, 1) := by decide +kernel
theorem dX8_worth_125 : decode cX8_worth 125 = .ok (.if_icmp .ge 21, 3) := by decide +kernel
theorem dX8_worth_128 : decode cX8_worth 128 = .ok (.iload 11, 2) := by decide +kernel
theorem dX8_worth_130 : decode cX8_worth 130 = .ok (.ifCond .lt 16, 3) := by decide +kernel
theorem dX8_worth_133 : decode cX8_worth 133 = .ok (.iload 10, 2) := by decide +kernel
theorem dX8_worth_135 : decode cX8_worth 135 = .ok (.iconst 1, 1) := by decide +kernel
theorem dX8_worth_136 : decode cX8_worth 136 = .ok (.if_icmp .ne 13, 3) := by decide +kernel
theorem dX8_worth_139 : decode cX8_worth 139 = .ok (.iload 11, 2) := by decide +kernel
theorem dX8_worth_141 : decode cX8_worth 141 = .ok (.aload_n 3, 1) := by decide +kernel
theorem dX8_worth_142 : decode cX8_worth 142 = .ok (.arraylength, 1) := by decide +kernel
theorem dX8_worth_143 : decode cX8_worth 143 = .ok (.if_icmp .lt 6, 3) := by decide +kernel
theorem dX8_worth_146 : decode cX8_worth 146 = .ok (.ldc 44, 2) := by decide +kernel
theorem dX8_worth_148 : decode cX8_worth 148 = .ok (.ireturn, 1) := by decide +kernel
theorem dX8_worth_149 : decode cX8_worth 149 = .ok (.aload 4, 2) := by decide +kernel
theorem dX8_worth_151 : decode cX8_worth 151 = .ok (.iload 7, 2) := by decide +kernel
theorem dX8_worth_153 : decode cX8_worth 153 = .ok (.iload 10, 2) := by decide +kernel
theorem dX8_worth_155 : decode cX8_worth 155 = .ok (.iconst 1, 1) := by decide +kernel
theorem dX8_worth_156 : decode cX8_worth 156 = .ok (.if_icmp .ne 11, 3) := by decide +kernel
theorem dX8_worth_159 : decode cX8_worth 159 = .ok (.aload_n 3, 1) := by decide +kernel
theorem dX8_worth_160 : decode cX8_worth 160 = .ok (.iload 11, 2) := by decide +kernel
theorem dX8_worth_162 : decode cX8_worth 162 = .ok (.iaload, 1) := by decide +kernel
theorem dX8_worth_163 : decode cX8_worth 163 = .ok (.i2l, 1) := by decide +kernel
theorem dX8_worth_164 : decode cX8_worth 164 = .ok (.goto 6, 3) := by decide +kernel
theorem dX8_worth_167 : decode cX8_worth 167 = .ok (.iload 11, 2) := by decide +kernel
theorem dX8_worth_169 : decode cX8_worth 169 = .ok (.i2l, 1) := by decide +kernel
theorem dX8_worth_170 : decode cX8_worth 170 = .ok (.lastore, 1) := by decide +kernel
theorem dX8_worth_171 : decode cX8_worth 171 = .ok (.iinc 7 1, 3) := by decide +kernel
theorem dX8_worth_174 : decode cX8_worth 174 = .ok (.goto 156, 3) := by decide +kernel
theorem dX8_worth_177 : decode cX8_worth 177 = .ok (.iload 7, 2) := by decide +kernel
theorem dX8_worth_179 : decode cX8_worth 179 = .ok (.iload 10, 2) := by decide +kernel
theorem dX8_worth_181 : decode cX8_worth 181 = .ok (.bipush 10, 2) := by decide +kernel
theorem dX8_worth_183 : decode cX8_worth 183 = .ok (.if_icmp .ge 7, 3) := by decide +kernel
theorem dX8_worth_186 : decode cX8_worth 186 = .ok (.iconst 2, 1) := by decide +kernel
theorem dX8_worth_187 : decode cX8_worth 187 = .ok (.goto 4, 3) := by decide +kernel
theorem dX8_worth_190 : decode cX8_worth 190 = .ok (.iconst 1, 1) := by decide +kernel
theorem dX8_worth_191 : decode cX8_worth 191 = .ok (.if_icmp .ge 6, 3) := by decide +kernel
theorem dX8_worth_194 : decode cX8_worth 194 = .ok (.ldc 44, 2) := by decide +kernel
theorem dX8_worth_196 : decode cX8_worth 196 = .ok (.ireturn, 1) := by decide +kernel
theorem dX8_worth_197 : decode cX8_worth 197 = .ok (.iload 10, 2) := by decide +kernel
theorem dX8_worth_199 : decode cX8_worth 199 = .ok (.bipush 10, 2) := by decide +kernel
theorem dX8_worth_201 : decode cX8_worth 201 = .ok (.if_icmp .ge 61, 3) := by decide +kernel
theorem dX8_worth_204 : decode cX8_worth 204 = .ok (.iinc 7 (-1), 3) := by decide +kernel
theorem dX8_worth_207 : decode cX8_worth 207 = .ok (.aload 4, 2) := by decide +kernel
theorem dX8_worth_209 : decode cX8_worth 209 = .ok (.iload 7, 2) := by decide +kernel
theorem dX8_worth_211 : decode cX8_worth 211 = .ok (.iconst 1, 1) := by decide +kernel
theorem dX8_worth_212 : decode cX8_worth 212 = .ok (.isub, 1) := by decide +kernel
theorem dX8_worth_213 : decode cX8_worth 213 = .ok (.iload 10, 2) := by decide +kernel
theorem dX8_worth_215 : decode cX8_worth 215 = .ok (.aload 4, 2) := by decide +kernel
theorem dX8_worth_217 : decode cX8_worth 217 = .ok (.iload 7, 2) := by decide +kernel
theorem dX8_worth_219 : decode cX8_worth 219 = .ok (.iconst 1, 1) := by decide +kernel
theorem dX8_worth_220 : decode cX8_worth 220 = .ok (.isub, 1) := by decide +kernel
theorem dX8_worth_221 : decode cX8_worth 221 = .ok (.laload, 1) := by decide +kernel
theorem dX8_worth_222 : decode cX8_worth 222 = .ok (.aload 4, 2) := by decide +kernel
theorem dX8_worth_224 : decode cX8_worth 224 = .ok (.iload 7, 2) := by decide +kernel
theorem dX8_worth_226 : decode cX8_worth 226 = .ok (.laload, 1) := by decide +kernel
theorem dX8_worth_227 : decode cX8_worth 227 = .ok (.invokestatic 51, 3) := by decide +kernel
theorem dX8_worth_230 : decode cX8_worth 230 = .ok (.lastore, 1) := by decide +kernel
theorem dX8_worth_231 : decode cX8_worth 231 = .ok (.aload 4, 2) := by decide +kernel
theorem dX8_worth_233 : decode cX8_worth 233 = .ok (.iload 7, 2) := by decide +kernel
theorem dX8_worth_235 : decode cX8_worth 235 = .ok (.iconst 1, 1) := by decide +kernel
theorem dX8_worth_236 : decode cX8_worth 236 = .ok (.isub, 1) := by decide +kernel
theorem dX8_worth_237 : decode cX8_worth 237 = .ok (.laload, 1) := by decide +kernel
theorem dX8_worth_238 : decode cX8_worth 238 = .ok (.ldc2_w 55, 3) := by decide +kernel
theorem dX8_worth_241 : decode cX8_worth 241 = .ok (.lcmp, 1) := by decide +kernel
theorem dX8_worth_242 : decode cX8_worth 242 = .ok (.ifCond .gt 17, 3) := by decide +kernel
theorem dX8_worth_245 : decode cX8_worth 245 = .ok (.aload 4, 2) := by decide +kernel
theorem dX8_worth_247 : decode cX8_worth 247 = .ok (.iload 7, 2) := by decide +kernel
theorem dX8_worth_249 : decode cX8_worth 249 = .ok (.iconst 1, 1) := by decide +kernel
theorem dX8_worth_250 : decode cX8_worth 250 = .ok (.isub, 1) := by decide +kernel
theorem dX8_worth_251 : decode cX8_worth 251 = .ok (.laload, 1) := by decide +kernel
theorem dX8_worth_252 : decode cX8_worth 252 = .ok (.ldc2_w 57, 3) := by decide +kernel
theorem dX8_worth_255 : decode cX8_worth 255 = .ok (.lcmp, 1) := by decide +kernel
theorem dX8_worth_256 : decode cX8_worth 256 = .ok (.ifCond .ge 74, 3) := by decide +kernel
theorem dX8_worth_259 : decode cX8_worth 259 = .ok (.ldc 44, 2) := by decide +kernel
theorem dX8_worth_261 : decode cX8_worth 261 = .ok (.ireturn, 1) := by decide +kernel
theorem dX8_worth_262 : decode cX8_worth 262 = .ok (.iload 10, 2) := by decide +kernel
theorem dX8_worth_264 : decode cX8_worth 264 = .ok (.bipush 10, 2) := by decide +kernel
theorem dX8_worth_266 : decode cX8_worth 266 = .ok (.if_icmp .ne 22, 3) := by decide +kernel
theorem dX8_worth_269 : decode cX8_worth 269 = .ok (.aload 4, 2) := by decide +kernel
theorem dX8_worth_271 : decode cX8_worth 271 = .ok (.iload 7, 2) := by decide +kernel
theorem dX8_worth_273 : decode cX8_worth 273 = .ok (.iconst 1, 1) := by decide +kernel
theorem dX8_worth_274 : decode cX8_worth 274 = .ok (.isub, 1) := by decide +kernel
theorem dX8_worth_275 : decode cX8_worth 275 = .ok (.lconst 1, 1) := by decide +kernel
theorem dX8_worth_276 : decode cX8_worth 276 = .ok (.aload 4, 2) := by decide +kernel
theorem dX8_worth_278 : decode cX8_worth 278 = .ok (.iload 7, 2) := by decide +kernel
theorem dX8_worth_280 : decode cX8_worth 280 = .ok (.iconst 1, 1) := by decide +kernel
theorem dX8_worth_281 : decode cX8_worth 281 = .ok (.isub, 1) := by decide +kernel
theorem dX8_worth_282 : decode cX8_worth 282 = .ok (.laload, 1) := by decide +kernel
theorem dX8_worth_283 : decode cX8_worth 283 = .ok (.lsub, 1) := by decide +kernel
theorem dX8_worth_284 : decode cX8_worth 284 = .ok (.lastore, 1) := by decide +kernel
theorem dX8_worth_285 : decode cX8_worth 285 = .ok (.goto 45, 3) := by decide +kernel
theorem dX8_worth_288 : decode cX8_worth 288 = .ok (.aload 4, 2) := by decide +kernel
theorem dX8_worth_290 : decode cX8_worth 290 = .ok (.iload 7, 2) := by decide +kernel
theorem dX8_worth_292 : decode cX8_worth 292 = .ok (.iconst 1, 1) := by decide +kernel
theorem dX8_worth_293 : decode cX8_worth 293 = .ok (.isub, 1) := by decide +kernel
theorem dX8_worth_294 : decode cX8_worth 294 = .ok (.laload, 1) := by decide +kernel
theorem dX8_worth_295 : decode cX8_worth 295 = .ok (.lconst 0, 1) := by decide +kernel
theorem dX8_worth_296 : decode cX8_worth 296 = .ok (.lcmp, 1) := by decide +kernel
theorem dX8_worth_297 : decode cX8_worth 297 = .ok (.ifCond .eq 7, 3) := by decide +kernel
theorem dX8_worth_300 : decode cX8_worth 300 = .ok (.iconst 1, 1) := by decide +kernel
theorem dX8_worth_301 : decode cX8_worth 301 = .ok (.goto 4, 3) := by decide +kernel
theorem dX8_worth_304 : decode cX8_worth 304 = .ok (.iconst 0, 1) := by decide +kernel
theorem dX8_worth_305 : decode cX8_worth 305 = .ok (.iload 10, 2) := by decide +kernel
theorem dX8_worth_307 : decode cX8_worth 307 = .ok (.bipush 11, 2) := by decide +kernel
theorem dX8_worth_309 : decode cX8_worth 309 = .ok (.if_icmp .ne 7, 3) := by decide +kernel
theorem dX8_worth_312 : decode cX8_worth 312 = .ok (.iconst 1, 1) := by decide +kernel
theorem dX8_worth_313 : decode cX8_worth 313 = .ok (.goto 4, 3) := by decide +kernel
theorem dX8_worth_316 : decode cX8_worth 316 = .ok (.iconst 0, 1) := by decide +kernel
theorem dX8_worth_317 : decode cX8_worth 317 = .ok (.if_icmp .ne 10, 3) := by decide +kernel
theorem dX8_worth_320 : decode cX8_worth 320 = .ok (.iload 11, 2) := by decide +kernel
theorem dX8_worth_322 : decode cX8_worth 322 = .ok (.istore 8, 2) := by decide +kernel
theorem dX8_worth_324 : decode cX8_worth 324 = .ok (.goto 6, 3) := by decide +kernel
theorem dX8_worth_327 : decode cX8_worth 327 = .ok (.iinc 7 (-1), 3) := by decide +kernel
theorem dX8_worth_330 : decode cX8_worth 330 = .ok (.iinc 9 1, 3) := by decide +kernel
theorem dX8_worth_333 : decode cX8_worth 333 = .ok (.goto (-259), 3) := by decide +kernel
theorem dX8_worth_336 : decode cX8_worth 336 = .ok (.iload 7, 2) := by decide +kernel
theorem dX8_worth_338 : decode cX8_worth 338 = .ok (.ifCond .ne 7, 3) := by decide +kernel
theorem dX8_worth_341 : decode cX8_worth 341 = .ok (.iconst 1, 1) := by decide +kernel
theorem dX8_worth_342 : decode cX8_worth 342 = .ok (.goto 11, 3) := by decide +kernel
theorem dX8_worth_345 : decode cX8_worth 345 = .ok (.aload 4, 2) := by decide +kernel
theorem dX8_worth_347 : decode cX8_worth 347 = .ok (.iload 7, 2) := by decide +kernel
theorem dX8_worth_349 : decode cX8_worth 349 = .ok (.iconst 1, 1) := by decide +kernel
theorem dX8_worth_350 : decode cX8_worth 350 = .ok (.isub, 1) := by decide +kernel
theorem dX8_worth_351 : decode cX8_worth 351 = .ok (.laload, 1) := by decide +kernel
theorem dX8_worth_352 : decode cX8_worth 352 = .ok (.l2i, 1) := by decide +kernel
theorem dX8_worth_353 : decode cX8_worth 353 = .ok (.ireturn, 1) := by decide +kernel
theorem dX5_told_0 : decode cX5_told 0 = .ok (.aload_n 0, 1) := by decide +kernel
theorem dX5_told_1 : decode cX5_told 1 = .ok (.getfield 24, 3) := by decide +kernel
theorem dX5_told_4 : decode cX5_told 4 = .ok (.invokevirtual 81, 3) := by decide +kernel
theorem dX5_told_7 : decode cX5_told 7 = .ok (.astore 5, 2) := by decide +kernel
theorem dX5_told_9 : decode cX5_told 9 = .ok (.aload 5, 2) := by decide +kernel
theorem dX5_told_11 : decode cX5_told 11 = .ok (.ifnonnull 5, 3) := by decide +kernel
theorem dX5_told_14 : decode cX5_told 14 = .ok (.iload_n 2, 1) := by decide +kernel
theorem dX5_told_15 : decode cX5_told 15 = .ok (.ireturn, 1) := by decide +kernel
theorem dX5_told_16 : decode cX5_told 16 = .ok (.aload 5, 2) := by decide +kernel
theorem dX5_told_18 : decode cX5_told 18 = .ok (.getfield 85, 3) := by decide +kernel
theorem dX5_told_21 : decode cX5_told 21 = .ok (.iconst 1, 1) := by decide +kernel
theorem dX5_told_22 : decode cX5_told 22 = .ok (.isub, 1) := by decide +kernel
theorem dX5_told_23 : decode cX5_told 23 = .ok (.istore 6, 2) := by decide +kernel
theorem dX5_told_25 : decode cX5_told 25 = .ok (.iload 6, 2) := by decide +kernel
theorem dX5_told_27 : decode cX5_told 27 = .ok (.ifCond .lt 78, 3) := by decide +kernel
theorem dX5_told_30 : decode cX5_told 30 = .ok (.aload 5, 2) := by decide +kernel
theorem dX5_told_32 : decode cX5_told 32 = .ok (.getfield 88, 3) := by decide +kernel
theorem dX5_told_35 : decode cX5_told 35 = .ok (.iload 6, 2) := by decide +kernel
theorem dX5_told_37 : decode cX5_told 37 = .ok (.iaload, 1) := by decide +kernel
theorem dX5_told_38 : decode cX5_told 38 = .ok (.iload_n 1, 1) := by decide +kernel
theorem dX5_told_39 : decode cX5_told 39 = .ok (.if_icmp .ne 60, 3) := by decide +kernel
theorem dX5_told_42 : decode cX5_told 42 = .ok (.aload 5, 2) := by decide +kernel
theorem dX5_told_44 : decode cX5_told 44 = .ok (.iload 6, 2) := by decide +kernel
theorem dX5_told_46 : decode cX5_told 46 = .ok (.iconst 2, 1) := by decide +kernel
theorem dX5_told_47 : decode cX5_told 47 = .ok (.aload_n 0, 1) := by decide +kernel
theorem dX5_told_48 : decode cX5_told 48 = .ok (.getfield 9, 3) := by decide +kernel
theorem dX5_told_51 : decode cX5_told 51 = .ok (.aload_n 0, 1) := by decide +kernel
theorem dX5_told_52 : decode cX5_told 52 = .ok (.getfield 20, 3) := by decide +kernel
theorem dX5_told_55 : decode cX5_told 55 = .ok (.invokevirtual 91, 3) := by decide +kernel
theorem dX5_told_58 : decode cX5_told 58 = .ok (.iconst 1, 1) := by decide +kernel
theorem dX5_told_59 : decode cX5_told 59 = .ok (.if_icmp .ne 40, 3) := by decide +kernel
theorem dX5_told_62 : decode cX5_told 62 = .ok (.aload 5, 2) := by decide +kernel
theorem dX5_told_64 : decode cX5_told 64 = .ok (.iload 6, 2) := by decide +kernel
theorem dX5_told_66 : decode cX5_told 66 = .ok (.iconst 0, 1) := by decide +kernel
theorem dX5_told_67 : decode cX5_told 67 = .ok (.aload_n 0, 1) := by decide +kernel
theorem dX5_told_68 : decode cX5_told 68 = .ok (.getfield 9, 3) := by decide +kernel
theorem dX5_told_71 : decode cX5_told 71 = .ok (.aload_n 0, 1) := by decide +kernel
theorem dX5_told_72 : decode cX5_told 72 = .ok (.getfield 20, 3) := by decide +kernel
theorem dX5_told_75 : decode cX5_told 75 = .ok (.invokevirtual 91, 3) := by decide +kernel
theorem dX5_told_78 : decode cX5_told 78 = .ok (.istore 7, 2) := by decide +kernel
theorem dX5_told_80 : decode cX5_told 80 = .ok (.iload 7, 2) := by decide +kernel
theorem dX5_told_82 : decode cX5_told 82 = .ok (.ldc 95, 2) := by decide +kernel
theorem dX5_told_84 : decode cX5_told 84 = .ok (.if_icmp .eq 15, 3) := by decide +kernel
theorem dX5_told_87 : decode cX5_told 87 = .ok (.iload_n 3, 1) := by decide +kernel
theorem dX5_told_88 : decode cX5_told 88 = .ok (.iload 4, 2) := by decide +kernel
theorem dX5_told_90 : decode cX5_told 90 = .ok (.iload 7, 2) := by decide +kernel
theorem dX5_told_92 : decode cX5_told 92 = .ok (.invokestatic 96, 3) := by decide +kernel
theorem dX5_told_95 : decode cX5_told 95 = .ok (.invokestatic 101, 3) := by decide +kernel
theorem dX5_told_98 : decode cX5_told 98 = .ok (.ireturn, 1) := by decide +kernel
theorem dX5_told_99 : decode cX5_told 99 = .ok (.iinc 6 (-1), 3) := by decide +kernel
theorem dX5_told_102 : decode cX5_told 102 = .ok (.goto (-77), 3) := by decide +kernel
theorem dX5_told_105 : decode cX5_told 105 = .ok (.iload_n 2, 1) := by decide +kernel
theorem dX5_told_106 : decode cX5_told 106 = .ok (.ireturn, 1) := by decide +kernel
theorem dX5_turns_0 : decode cX5_turns 0 = .ok (.aload_n 0, 1) := by decide +kernel
theorem dX5_turns_1 : decode cX5_turns 1 = .ok (.iload_n 1, 1) := by decide +kernel
theorem dX5_turns_2 : decode cX5_turns 2 = .ok (.iload_n 3, 1) := by decide +kernel
theorem dX5_turns_3 : decode cX5_turns 3 = .ok (.invokevirtual 68, 3) := by decide +kernel
theorem dX5_turns_6 : decode cX5_turns 6 = .ok (.istore 4, 2) := by decide +kernel
theorem dX5_turns_8 : decode cX5_turns 8 = .ok (.aload_n 0, 1) := by decide +kernel
theorem dX5_turns_9 : decode cX5_turns 9 = .ok (.iload_n 1, 1) := by decide +kernel
theorem dX5_turns_10 : decode cX5_turns 10 = .ok (.iconst (-1), 1) := by decide +kernel
theorem dX5_turns_11 : decode cX5_turns 11 = .ok (.iload_n 2, 1) := by decide +kernel
theorem dX5_turns_12 : decode cX5_turns 12 = .ok (.iload 4, 2) := by decide +kernel
theorem dX5_turns_14 : decode cX5_turns 14 = .ok (.sipush 10000, 3) := by decide +kernel
theorem dX5_turns_17 : decode cX5_turns 17 = .ok (.idiv, 1) := by decide +kernel
theorem dX5_turns_18 : decode cX5_turns 18 = .ok (.iconst (-1), 1) := by decide +kernel
theorem dX5_turns_19 : decode cX5_turns 19 = .ok (.invokevirtual 55, 3) := by decide +kernel
theorem dX5_turns_22 : decode cX5_turns 22 = .ok (.iload 4, 2) := by decide +kernel
theorem dX5_turns_24 : decode cX5_turns 24 = .ok (.sipush 10000, 3) := by decide +kernel
theorem dX5_turns_27 : decode cX5_turns 27 = .ok (.aload_n 0, 1) := by decide +kernel
theorem dX5_turns_28 : decode cX5_turns 28 = .ok (.sipush 300, 3) := by decide +kernel
theorem dX5_turns_31 : decode cX5_turns 31 = .ok (.bipush 50, 2) := by decide +kernel
theorem dX5_turns_33 : decode cX5_turns 33 = .ok (.iconst 0, 1) := by decide +kernel
theorem dX5_turns_34 : decode cX5_turns 34 = .ok (.bipush 100, 2) := by decide +kernel
theorem dX5_turns_36 : decode cX5_turns 36 = .ok (.invokevirtual 61, 3) := by decide +kernel
theorem dX5_turns_39 : decode cX5_turns 39 = .ok (.imul, 1) := by decide +kernel
theorem dX5_turns_40 : decode cX5_turns 40 = .ok (.if_icmp .lt 7, 3) := by decide +kernel
theorem dX5_turns_43 : decode cX5_turns 43 = .ok (.iconst 1, 1) := by decide +kernel
theorem dX5_turns_44 : decode cX5_turns 44 = .ok (.goto 4, 3) := by decide +kernel
theorem dX5_turns_47 : decode cX5_turns 47 = .ok (.iconst 0, 1) := by decide +kernel
theorem dX5_turns_48 : decode cX5_turns 48 = .ok (.ireturn, 1) := by decide +kernel
theorem dX11_bit_0 : decode cX11_bit 0 = .ok (.iload_n 0, 1) := by decide +kernel
theorem dX11_bit_1 : decode cX11_bit 1 = .ok (.ifCond .eq 7, 3) := by decide +kernel
theorem dX11_bit_4 : decode cX11_bit 4 = .ok (.iconst 1, 1) := by decide +kernel
theorem dX11_bit_5 : decode cX11_bit 5 = .ok (.goto 4, 3) := by decide +kernel
theorem dX11_bit_8 : decode cX11_bit 8 = .ok (.iconst 0, 1) := by decide +kernel
theorem dX11_bit_9 : decode cX11_bit 9 = .ok (.ireturn, 1) := by decide +kernel
theorem dX5_turnsAt_0 : decode cX5_turnsAt 0 = .ok (.aload_n 0, 1) := by decide +kernel
theorem dX5_turnsAt_1 : decode cX5_turnsAt 1 = .ok (.iload_n 1, 1) := by decide +kernel
theorem dX5_turnsAt_2 : decode cX5_turnsAt 2 = .ok (.iconst (-1), 1) := by decide +kernel
theorem dX5_turnsAt_3 : decode cX5_turnsAt 3 = .ok (.iload_n 2, 1) := by decide +kernel
theorem dX5_turnsAt_4 : decode cX5_turnsAt 4 = .ok (.aload_n 0, 1) := by decide +kernel
theorem dX5_turnsAt_5 : decode cX5_turnsAt 5 = .ok (.iload_n 1, 1) := by decide +kernel
theorem dX5_turnsAt_6 : decode cX5_turnsAt 6 = .ok (.aload_n 0, 1) := by decide +kernel
theorem dX5_turnsAt_7 : decode cX5_turnsAt 7 = .ok (.getfield 24, 3) := by decide +kernel
theorem dX5_turnsAt_10 : decode cX5_turnsAt 10 = .ok (.getfield 41, 3) := by decide +kernel
theorem dX5_turnsAt_13 : decode cX5_turnsAt 13 = .ok (.getfield 65, 3) := by decide +kernel
theorem dX5_turnsAt_16 : decode cX5_turnsAt 16 = .ok (.iload_n 1, 1) := by decide +kernel
theorem dX5_turnsAt_17 : decode cX5_turnsAt 17 = .ok (.iaload, 1) := by decide +kernel
theorem dX5_turnsAt_18 : decode cX5_turnsAt 18 = .ok (.invokevirtual 68, 3) := by decide +kernel
theorem dX5_turnsAt_21 : decode cX5_turnsAt 21 = .ok (.sipush 10000, 3) := by decide +kernel
theorem dX5_turnsAt_24 : decode cX5_turnsAt 24 = .ok (.idiv, 1) := by decide +kernel
theorem dX5_turnsAt_25 : decode cX5_turnsAt 25 = .ok (.iconst (-1), 1) := by decide +kernel
theorem dX5_turnsAt_26 : decode cX5_turnsAt 26 = .ok (.invokevirtual 55, 3) := by decide +kernel
theorem dX5_turnsAt_29 : decode cX5_turnsAt 29 = .ok (.aload_n 0, 1) := by decide +kernel
theorem dX5_turnsAt_30 : decode cX5_turnsAt 30 = .ok (.sipush 300, 3) := by decide +kernel
theorem dX5_turnsAt_33 : decode cX5_turnsAt 33 = .ok (.bipush 50, 2) := by decide +kernel
theorem dX5_turnsAt_35 : decode cX5_turnsAt 35 = .ok (.iconst 0, 1) := by decide +kernel
theorem dX5_turnsAt_36 : decode cX5_turnsAt 36 = .ok (.bipush 100, 2) := by decide +kernel
theorem dX5_turnsAt_38 : decode cX5_turnsAt 38 = .ok (.invokevirtual 61, 3) := by decide +kernel
theorem dX5_turnsAt_41 : decode cX5_turnsAt 41 = .ok (.ireturn, 1) := by decide +kernel
theorem dX5_bars_0 : decode cX5_bars 0 = .ok (.aload_n 0, 1) := by decide +kernel
theorem dX5_bars_1 : decode cX5_bars 1 = .ok (.iload_n 1, 1) := by decide +kernel
theorem dX5_bars_2 : decode cX5_bars 2 = .ok (.iload_n 2, 1) := by decide +kernel
theorem dX5_bars_3 : decode cX5_bars 3 = .ok (.iconst (-1), 1) := by decide +kernel
theorem dX5_bars_4 : decode cX5_bars 4 = .ok (.iconst (-1), 1) := by decide +kernel
theorem dX5_bars_5 : decode cX5_bars 5 = .ok (.iconst (-1), 1) := by decide +kernel
theorem dX5_bars_6 : decode cX5_bars 6 = .ok (.invokevirtual 55, 3) := by decide +kernel
theorem dX5_bars_9 : decode cX5_bars 9 = .ok (.aload_n 0, 1) := by decide +kernel
theorem dX5_bars_10 : decode cX5_bars 10 = .ok (.sipush 303, 3) := by decide +kernel
theorem dX5_bars_13 : decode cX5_bars 13 = .ok (.iconst 0, 1) := by decide +kernel
theorem dX5_bars_14 : decode cX5_bars 14 = .ok (.iconst 0, 1) := by decide +kernel
theorem dX5_bars_15 : decode cX5_bars 15 = .ok (.iconst 1, 1) := by decide +kernel
theorem dX5_bars_16 : decode cX5_bars 16 = .ok (.invokevirtual 61, 3) := by decide +kernel
theorem dX5_bars_19 : decode cX5_bars 19 = .ok (.iconst 1, 1) := by decide +kernel
theorem dX5_bars_20 : decode cX5_bars 20 = .ok (.if_icmp .ne 7, 3) := by decide +kernel
theorem dX5_bars_23 : decode cX5_bars 23 = .ok (.iconst 1, 1) := by decide +kernel
theorem dX5_bars_24 : decode cX5_bars 24 = .ok (.goto 4, 3) := by decide +kernel
theorem dX5_bars_27 : decode cX5_bars 27 = .ok (.iconst 0, 1) := by decide +kernel
theorem dX5_bars_28 : decode cX5_bars 28 = .ok (.ireturn, 1) := by decide +kernel
theorem dX5_pays_0 : decode cX5_pays 0 = .ok (.aload_n 0, 1) := by decide +kernel
theorem dX5_pays_1 : decode cX5_pays 1 = .ok (.iload_n 1, 1) := by decide +kernel
theorem dX5_pays_2 : decode cX5_pays 2 = .ok (.iload_n 2, 1) := by decide +kernel
theorem dX5_pays_3 : decode cX5_pays 3 = .ok (.iconst (-1), 1) := by decide +kernel
theorem dX5_pays_4 : decode cX5_pays 4 = .ok (.iconst (-1), 1) := by decide +kernel
theorem dX5_pays_5 : decode cX5_pays 5 = .ok (.iconst (-1), 1) := by decide +kernel
theorem dX5_pays_6 : decode cX5_pays 6 = .ok (.invokevirtual 55, 3) := by decide +kernel
theorem dX5_pays_9 : decode cX5_pays 9 = .ok (.aload_n 0, 1) := by decide +kernel
theorem dX5_pays_10 : decode cX5_pays 10 = .ok (.sipush 301, 3) := by decide +kernel
theorem dX5_pays_13 : decode cX5_pays 13 = .ok (.aload_n 0, 1) := by decide +kernel
theorem dX5_pays_14 : decode cX5_pays 14 = .ok (.getfield 24, 3) := by decide +kernel
theorem dX5_pays_17 : decode cX5_pays 17 = .ok (.getfield 36, 3) := by decide +kernel
theorem dX5_pays_20 : decode cX5_pays 20 = .ok (.bipush 12, 2) := by decide +kernel
theorem dX5_pays_22 : decode cX5_pays 22 = .ok (.iload_n 2, 1) := by decide +kernel
theorem dX5_pays_23 : decode cX5_pays 23 = .ok (.iadd, 1) := by decide +kernel
theorem dX5_pays_24 : decode cX5_pays 24 = .ok (.iaload, 1) := by decide +kernel
theorem dX5_pays_25 : decode cX5_pays 25 = .ok (.iconst 0, 1) := by decide +kernel
theorem dX5_pays_26 : decode cX5_pays 26 = .ok (.bipush 99, 2) := by decide +kernel
theorem dX5_pays_28 : decode cX5_pays 28 = .ok (.invokevirtual 61, 3) := by decide +kernel
theorem dX5_pays_31 : decode cX5_pays 31 = .ok (.ireturn, 1) := by decide +kernel
theorem dX11_asks_0 : decode cX11_asks 0 = .ok (.aload_n 0, 1) := by decide +kernel
theorem dX11_asks_1 : decode cX11_asks 1 = .ok (.getfield 10, 3) := by decide +kernel
theorem dX11_asks_4 : decode cX11_asks 4 = .ok (.iload_n 1, 1) := by decide +kernel
theorem dX11_asks_5 : decode cX11_asks 5 = .ok (.invokevirtual 97, 3) := by decide +kernel
theorem dX11_asks_8 : decode cX11_asks 8 = .ok (.ifCond .eq 12, 3) := by decide +kernel
theorem dX11_asks_11 : decode cX11_asks 11 = .ok (.iload_n 3, 1) := by decide +kernel
theorem dX11_asks_12 : decode cX11_asks 12 = .ok (.iconst 0, 1) := by decide +kernel
theorem dX11_asks_13 : decode cX11_asks 13 = .ok (.iconst 3, 1) := by decide +kernel
theorem dX11_asks_14 : decode cX11_asks 14 = .ok (.invokestatic 122, 3) := by decide +kernel
theorem dX11_asks_17 : decode cX11_asks 17 = .ok (.ifCond .ne 5, 3) := by decide +kernel
theorem dX11_asks_20 : decode cX11_asks 20 = .ok (.iconst (-1), 1) := by decide +kernel
theorem dX11_asks_21 : decode cX11_asks 21 = .ok (.ireturn, 1) := by decide +kernel
theorem dX11_asks_22 : decode cX11_asks 22 = .ok (.iload_n 3, 1) := by decide +kernel
theorem dX11_asks_23 : decode cX11_asks 23 = .ok (.iconst 1, 1) := by decide +kernel
theorem dX11_asks_24 : decode cX11_asks 24 = .ok (.if_icmp .gt 43, 3) := by decide +kernel
theorem dX11_asks_27 : decode cX11_asks 27 = .ok (.iload_n 2, 1) := by decide +kernel
theorem dX11_asks_28 : decode cX11_asks 28 = .ok (.iconst 0, 1) := by decide +kernel
theorem dX11_asks_29 : decode cX11_asks 29 = .ok (.iconst 5, 1) := by decide +kernel
theorem dX11_asks_30 : decode cX11_asks 30 = .ok (.invokestatic 122, 3) := by decide +kernel
theorem dX11_asks_33 : decode cX11_asks 33 = .ok (.ifCond .ne 5, 3) := by decide +kernel
theorem dX11_asks_36 : decode cX11_asks 36 = .ok (.iconst (-1), 1) := by decide +kernel
theorem dX11_asks_37 : decode cX11_asks 37 = .ok (.ireturn, 1) := by decide +kernel
theorem dX11_asks_38 : decode cX11_asks 38 = .ok (.iload_n 3, 1) := by decide +kernel
theorem dX11_asks_39 : decode cX11_asks 39 = .ok (.ifCond .ne 15, 3) := by decide +kernel
theorem dX11_asks_42 : decode cX11_asks 42 = .ok (.aload_n 0, 1) := by decide +kernel
theorem dX11_asks_43 : decode cX11_asks 43 = .ok (.getfield 44, 3) := by decide +kernel
theorem dX11_asks_46 : decode cX11_asks 46 = .ok (.iload_n 1, 1) := by decide +kernel
theorem dX11_asks_47 : decode cX11_asks 47 = .ok (.iload_n 2, 1) := by decide +kernel
theorem dX11_asks_48 : decode cX11_asks 48 = .ok (.invokevirtual 138, 3) := by decide +kernel
theorem dX11_asks_51 : decode cX11_asks 51 = .ok (.goto 15, 3) := by decide +kernel
theorem dX11_asks_54 : decode cX11_asks 54 = .ok (.aload_n 0, 1) := by decide +kernel
theorem dX11_asks_55 : decode cX11_asks 55 = .ok (.getfield 44, 3) := by decide +kernel
theorem dX11_asks_58 : decode cX11_asks 58 = .ok (.iload_n 1, 1) := by decide +kernel
theorem dX11_asks_59 : decode cX11_asks 59 = .ok (.iload_n 2, 1) := by decide +kernel
theorem dX11_asks_60 : decode cX11_asks 60 = .ok (.invokevirtual 141, 3) := by decide +kernel
theorem dX11_asks_63 : decode cX11_asks 63 = .ok (.invokestatic 145, 3) := by decide +kernel
theorem dX11_asks_66 : decode cX11_asks 66 = .ok (.ireturn, 1) := by decide +kernel
theorem dX11_asks_67 : decode cX11_asks 67 = .ok (.iload_n 2, 1) := by decide +kernel
theorem dX11_asks_68 : decode cX11_asks 68 = .ok (.iconst 1, 1) := by decide +kernel
theorem dX11_asks_69 : decode cX11_asks 69 = .ok (.bipush 99, 2) := by decide +kernel
theorem dX11_asks_71 : decode cX11_asks 71 = .ok (.invokestatic 122, 3) := by decide +kernel
theorem dX11_asks_74 : decode cX11_asks 74 = .ok (.ifCond .ne 5, 3) := by decide +kernel
theorem dX11_asks_77 : decode cX11_asks 77 = .ok (.iconst (-1), 1) := by decide +kernel
theorem dX11_asks_78 : decode cX11_asks 78 = .ok (.ireturn, 1) := by decide +kernel
theorem dX11_asks_79 : decode cX11_asks 79 = .ok (.iload_n 3, 1) := by decide +kernel
theorem dX11_asks_80 : decode cX11_asks 80 = .ok (.iconst 2, 1) := by decide +kernel
theorem dX11_asks_81 : decode cX11_asks 81 = .ok (.if_icmp .ne 15, 3) := by decide +kernel
theorem dX11_asks_84 : decode cX11_asks 84 = .ok (.aload_n 0, 1) := by decide +kernel
theorem dX11_asks_85 : decode cX11_asks 85 = .ok (.getfield 44, 3) := by decide +kernel
theorem dX11_asks_88 : decode cX11_asks 88 = .ok (.iload_n 1, 1) := by decide +kernel
theorem dX11_asks_89 : decode cX11_asks 89 = .ok (.iload_n 2, 1) := by decide +kernel
theorem dX11_asks_90 : decode cX11_asks 90 = .ok (.invokevirtual 149, 3) := by decide +kernel
theorem dX11_asks_93 : decode cX11_asks 93 = .ok (.goto 27, 3) := by decide +kernel
theorem dX11_asks_96 : decode cX11_asks 96 = .ok (.aload_n 0, 1) := by decide +kernel
theorem dX11_asks_97 : decode cX11_asks 97 = .ok (.getfield 44, 3) := by decide +kernel
theorem dX11_asks_100 : decode cX11_asks 100 = .ok (.iload_n 1, 1) := by decide +kernel
theorem dX11_asks_101 : decode cX11_asks 101 = .ok (.iload_n 2, 1) := by decide +kernel
theorem dX11_asks_102 : decode cX11_asks 102 = .ok (.aload_n 0, 1) := by decide +kernel
theorem dX11_asks_103 : decode cX11_asks 103 = .ok (.getfield 10, 3) := by decide +kernel
theorem dX11_asks_106 : decode cX11_asks 106 = .ok (.getfield 101, 3) := by decide +kernel
theorem dX11_asks_109 : decode cX11_asks 109 = .ok (.getfield 113, 3) := by decide +kernel
theorem dX11_asks_112 : decode cX11_asks 112 = .ok (.iload_n 1, 1) := by decide +kernel
theorem dX11_asks_113 : decode cX11_asks 113 = .ok (.iaload, 1) := by decide +kernel
theorem dX11_asks_114 : decode cX11_asks 114 = .ok (.invokevirtual 152, 3) := by decide +kernel
theorem dX11_asks_117 : decode cX11_asks 117 = .ok (.invokestatic 145, 3) := by decide +kernel
theorem dX11_asks_120 : decode cX11_asks 120 = .ok (.ireturn, 1) := by decide +kernel
theorem dX6_term_0 : decode cX6_term 0 = .ok (.iload_n 1, 1) := by decide +kernel
theorem dX6_term_1 : decode cX6_term 1 = .ok (.ifCond .ne 13, 3) := by decide +kernel
theorem dX6_term_4 : decode cX6_term 4 = .ok (.aload_n 0, 1) := by decide +kernel
theorem dX6_term_5 : decode cX6_term 5 = .ok (.getfield 12, 3) := by decide +kernel
theorem dX6_term_8 : decode cX6_term 8 = .ok (.getfield 108, 3) := by decide +kernel
theorem dX6_term_11 : decode cX6_term 11 = .ok (.goto 19, 3) := by decide +kernel
theorem dX6_term_14 : decode cX6_term 14 = .ok (.iload_n 1, 1) := by decide +kernel
theorem dX6_term_15 : decode cX6_term 15 = .ok (.iconst 1, 1) := by decide +kernel
theorem dX6_term_16 : decode cX6_term 16 = .ok (.if_icmp .ne 10, 3) := by decide +kernel
theorem dX6_term_19 : decode cX6_term 19 = .ok (.aload_n 0, 1) := by decide +kernel
theorem dX6_term_20 : decode cX6_term 20 = .ok (.getfield 51, 3) := by decide +kernel
theorem dX6_term_23 : decode cX6_term 23 = .ok (.goto 7, 3) := by decide +kernel
theorem dX6_term_26 : decode cX6_term 26 = .ok (.aload_n 0, 1) := by decide +kernel
theorem dX6_term_27 : decode cX6_term 27 = .ok (.getfield 89, 3) := by decide +kernel
theorem dX6_term_30 : decode cX6_term 30 = .ok (.ireturn, 1) := by decide +kernel
theorem dX6_setTerm_0 : decode cX6_setTerm 0 = .ok (.iload_n 1, 1) := by decide +kernel
theorem dX6_setTerm_1 : decode cX6_setTerm 1 = .ok (.ifCond .ne 14, 3) := by decide +kernel
theorem dX6_setTerm_4 : decode cX6_setTerm 4 = .ok (.aload_n 0, 1) := by decide +kernel
theorem dX6_setTerm_5 : decode cX6_setTerm 5 = .ok (.getfield 12, 3) := by decide +kernel
theorem dX6_setTerm_8 : decode cX6_setTerm 8 = .ok (.iload_n 2, 1) := by decide +kernel
theorem dX6_setTerm_9 : decode cX6_setTerm 9 = .ok (.putfield 108, 3) := by decide +kernel
theorem dX6_setTerm_12 : decode cX6_setTerm 12 = .ok (.goto 21, 3) := by decide +kernel
theorem dX6_setTerm_15 : decode cX6_setTerm 15 = .ok (.iload_n 1, 1) := by decide +kernel
theorem dX6_setTerm_16 : decode cX6_setTerm 16 = .ok (.iconst 1, 1) := by decide +kernel
theorem dX6_setTerm_17 : decode cX6_setTerm 17 = .ok (.if_icmp .ne 11, 3) := by decide +kernel
theorem dX6_setTerm_20 : decode cX6_setTerm 20 = .ok (.aload_n 0, 1) := by decide +kernel
theorem dX6_setTerm_21 : decode cX6_setTerm 21 = .ok (.iload_n 2, 1) := by decide +kernel
theorem dX6_setTerm_22 : decode cX6_setTerm 22 = .ok (.putfield 51, 3) := by decide +kernel
theorem dX6_setTerm_25 : decode cX6_setTerm 25 = .ok (.goto 8, 3) := by decide +kernel
theorem dX6_setTerm_28 : decode cX6_setTerm 28 = .ok (.aload_n 0, 1) := by decide +kernel
theorem dX6_setTerm_29 : decode cX6_setTerm 29 = .ok (.iload_n 2, 1) := by decide +kernel
theorem dX6_setTerm_30 : decode cX6_setTerm 30 = .ok (.putfield 89, 3) := by decide +kernel
theorem dX6_setTerm_33 : decode cX6_setTerm 33 = .ok (.return_, 1) := by decide +kernel
theorem dX11_terms_0 : decode cX11_terms 0 = .ok (.iload_n 1, 1) := by decide +kernel
theorem dX11_terms_1 : decode cX11_terms 1 = .ok (.ifCond .ne 9, 3) := by decide +kernel
theorem dX11_terms_4 : decode cX11_terms 4 = .ok (.sipush 999, 3) := by decide +kernel
theorem dX11_terms_7 : decode cX11_terms 7 = .ok (.goto 16, 3) := by decide +kernel
theorem dX11_terms_10 : decode cX11_terms 10 = .ok (.iload_n 1, 1) := by decide +kernel
theorem dX11_terms_11 : decode cX11_terms 11 = .ok (.iconst 1, 1) := by decide +kernel
theorem dX11_terms_12 : decode cX11_terms 12 = .ok (.if_icmp .ne 9, 3) := by decide +kernel
theorem dX11_terms_15 : decode cX11_terms 15 = .ok (.sipush 1000, 3) := by decide +kernel
theorem dX11_terms_18 : decode cX11_terms 18 = .ok (.goto 5, 3) := by decide +kernel
theorem dX11_terms_21 : decode cX11_terms 21 = .ok (.bipush 9, 2) := by decide +kernel
theorem dX11_terms_23 : decode cX11_terms 23 = .ok (.istore_n 3, 1) := by decide +kernel
theorem dX11_terms_24 : decode cX11_terms 24 = .ok (.iload_n 1, 1) := by decide +kernel
theorem dX11_terms_25 : decode cX11_terms 25 = .ok (.iconst 0, 1) := by decide +kernel
theorem dX11_terms_26 : decode cX11_terms 26 = .ok (.iconst 2, 1) := by decide +kernel
theorem dX11_terms_27 : decode cX11_terms 27 = .ok (.invokestatic 122, 3) := by decide +kernel
theorem dX11_terms_30 : decode cX11_terms 30 = .ok (.ifCond .eq 12, 3) := by decide +kernel
theorem dX11_terms_33 : decode cX11_terms 33 = .ok (.iload_n 2, 1) := by decide +kernel
theorem dX11_terms_34 : decode cX11_terms 34 = .ok (.iconst 0, 1) := by decide +kernel
theorem dX11_terms_35 : decode cX11_terms 35 = .ok (.iload_n 3, 1) := by decide +kernel
theorem dX11_terms_36 : decode cX11_terms 36 = .ok (.invokestatic 122, 3) := by decide +kernel
theorem dX11_terms_39 : decode cX11_terms 39 = .ok (.ifCond .ne 9, 3) := by decide +kernel
theorem dX11_terms_42 : decode cX11_terms 42 = .ok (.aload_n 0, 1) := by decide +kernel
theorem dX11_terms_43 : decode cX11_terms 43 = .ok (.iconst (-1), 1) := by decide +kernel
theorem dX11_terms_44 : decode cX11_terms 44 = .ok (.invokevirtual 126, 3) := by decide +kernel
theorem dX11_terms_47 : decode cX11_terms 47 = .ok (.ireturn, 1) := by decide +kernel
theorem dX11_terms_48 : decode cX11_terms 48 = .ok (.aload_n 0, 1) := by decide +kernel
theorem dX11_terms_49 : decode cX11_terms 49 = .ok (.getfield 10, 3) := by decide +kernel
theorem dX11_terms_52 : decode cX11_terms 52 = .ok (.iload_n 1, 1) := by decide +kernel
theorem dX11_terms_53 : decode cX11_terms 53 = .ok (.invokevirtual 155, 3) := by decide +kernel
theorem dX11_terms_56 : decode cX11_terms 56 = .ok (.istore 4, 2) := by decide +kernel
theorem dX11_terms_58 : decode cX11_terms 58 = .ok (.aload_n 0, 1) := by decide +kernel
theorem dX11_terms_59 : decode cX11_terms 59 = .ok (.getfield 10, 3) := by decide +kernel
theorem dX11_terms_62 : decode cX11_terms 62 = .ok (.iload_n 1, 1) := by decide +kernel
theorem dX11_terms_63 : decode cX11_terms 63 = .ok (.iload_n 2, 1) := by decide +kernel
theorem dX11_terms_64 : decode cX11_terms 64 = .ok (.invokevirtual 158, 3) := by decide +kernel
theorem dX11_terms_67 : decode cX11_terms 67 = .ok (.aload_n 0, 1) := by decide +kernel
theorem dX11_terms_68 : decode cX11_terms 68 = .ok (.getfield 53, 3) := by decide +kernel
theorem dX11_terms_71 : decode cX11_terms 71 = .ok (.invokevirtual 90, 3) := by decide +kernel
theorem dX11_terms_74 : decode cX11_terms 74 = .ok (.aload_n 0, 1) := by decide +kernel
theorem dX11_terms_75 : decode cX11_terms 75 = .ok (.iload 4, 2) := by decide +kernel
theorem dX11_terms_77 : decode cX11_terms 77 = .ok (.invokevirtual 93, 3) := by decide +kernel
theorem dX11_terms_80 : decode cX11_terms 80 = .ok (.ireturn, 1) := by decide +kernel
theorem dX10_append_0 : decode cX10_append 0 = .ok (.bipush 24, 2) := by decide +kernel
theorem dX10_append_2 : decode cX10_append 2 = .ok (.istore_n 2, 1) := by decide +kernel
theorem dX10_append_3 : decode cX10_append 3 = .ok (.iload_n 2, 1) := by decide +kernel
theorem dX10_append_4 : decode cX10_append 4 = .ok (.ifCond .lt 45, 3) := by decide +kernel
theorem dX10_append_7 : decode cX10_append 7 = .ok (.aload_n 0, 1) := by decide +kernel
theorem dX10_append_8 : decode cX10_append 8 = .ok (.getfield 22, 3) := by decide +kernel
theorem dX10_append_11 : decode cX10_append 11 = .ok (.sipush 400, 3) := by decide +kernel
theorem dX10_append_14 : decode cX10_append 14 = .ok (.if_icmp .ge 35, 3) := by decide +kernel
theorem dX10_append_17 : decode cX10_append 17 = .ok (.aload_n 0, 1) := by decide +kernel
theorem dX10_append_18 : decode cX10_append 18 = .ok (.getfield 9, 3) := by decide +kernel
theorem dX10_append_21 : decode cX10_append 21 = .ok (.aload_n 0, 1) := by decide +kernel
theorem dX10_append_22 : decode cX10_append 22 = .ok (.getfield 22, 3) := by decide +kernel
theorem dX10_append_25 : decode cX10_append 25 = .ok (.iload_n 1, 1) := by decide +kernel
theorem dX10_append_26 : decode cX10_append 26 = .ok (.iload_n 2, 1) := by decide +kernel
theorem dX10_append_27 : decode cX10_append 27 = .ok (.ishr, 1) := by decide +kernel
theorem dX10_append_28 : decode cX10_append 28 = .ok (.sipush 255, 3) := by decide +kernel
theorem dX10_append_31 : decode cX10_append 31 = .ok (.iand, 1) := by decide +kernel
theorem dX10_append_32 : decode cX10_append 32 = .ok (.iastore, 1) := by decide +kernel
theorem dX10_append_33 : decode cX10_append 33 = .ok (.aload_n 0, 1) := by decide +kernel
theorem dX10_append_34 : decode cX10_append 34 = .ok (.dup, 1) := by decide +kernel
theorem dX10_append_35 : decode cX10_append 35 = .ok (.getfield 22, 3) := by decide +kernel
theorem dX10_append_38 : decode cX10_append 38 = .ok (.iconst 1, 1) := by decide +kernel
theorem dX10_append_39 : decode cX10_append 39 = .ok (.iadd, 1) := by decide +kernel
theorem dX10_append_40 : decode cX10_append 40 = .ok (.putfield 22, 3) := by decide +kernel
theorem dX10_append_43 : decode cX10_append 43 = .ok (.iinc 2 (-8), 3) := by decide +kernel
theorem dX10_append_46 : decode cX10_append 46 = .ok (.goto (-43), 3) := by decide +kernel
theorem dX10_append_49 : decode cX10_append 49 = .ok (.return_, 1) := by decide +kernel
theorem dX11_feed_0 : decode cX11_feed 0 = .ok (.aload_n 0, 1) := by decide +kernel
theorem dX11_feed_1 : decode cX11_feed 1 = .ok (.getfield 23, 3) := by decide +kernel
theorem dX11_feed_4 : decode cX11_feed 4 = .ok (.getfield 162, 3) := by decide +kernel
theorem dX11_feed_7 : decode cX11_feed 7 = .ok (.bipush 20, 2) := by decide +kernel
theorem dX11_feed_9 : decode cX11_feed 9 = .ok (.iadd, 1) := by decide +kernel
theorem dX11_feed_10 : decode cX11_feed 10 = .ok (.sipush 400, 3) := by decide +kernel
theorem dX11_feed_13 : decode cX11_feed 13 = .ok (.if_icmp .le 5, 3) := by decide +kernel
theorem dX11_feed_16 : decode cX11_feed 16 = .ok (.iconst (-1), 1) := by decide +kernel
theorem dX11_feed_17 : decode cX11_feed 17 = .ok (.ireturn, 1) := by decide +kernel
theorem dX11_feed_18 : decode cX11_feed 18 = .ok (.aload_n 0, 1) := by decide +kernel
theorem dX11_feed_19 : decode cX11_feed 19 = .ok (.getfield 23, 3) := by decide +kernel
theorem dX11_feed_22 : decode cX11_feed 22 = .ok (.iload_n 1, 1) := by decide +kernel
theorem dX11_feed_23 : decode cX11_feed 23 = .ok (.invokevirtual 165, 3) := by decide +kernel
theorem dX11_feed_26 : decode cX11_feed 26 = .ok (.aload_n 0, 1) := by decide +kernel
theorem dX11_feed_27 : decode cX11_feed 27 = .ok (.getfield 23, 3) := by decide +kernel
theorem dX11_feed_30 : decode cX11_feed 30 = .ok (.iload_n 2, 1) := by decide +kernel
theorem dX11_feed_31 : decode cX11_feed 31 = .ok (.invokevirtual 165, 3) := by decide +kernel
theorem dX11_feed_34 : decode cX11_feed 34 = .ok (.aload_n 0, 1) := by decide +kernel
theorem dX11_feed_35 : decode cX11_feed 35 = .ok (.getfield 23, 3) := by decide +kernel
theorem dX11_feed_38 : decode cX11_feed 38 = .ok (.iload_n 3, 1) := by decide +kernel
theorem dX11_feed_39 : decode cX11_feed 39 = .ok (.invokevirtual 165, 3) := by decide +kernel
theorem dX11_feed_42 : decode cX11_feed 42 = .ok (.aload_n 0, 1) := by decide +kernel
theorem dX11_feed_43 : decode cX11_feed 43 = .ok (.getfield 23, 3) := by decide +kernel
theorem dX11_feed_46 : decode cX11_feed 46 = .ok (.iload 4, 2) := by decide +kernel
theorem dX11_feed_48 : decode cX11_feed 48 = .ok (.invokevirtual 165, 3) := by decide +kernel
theorem dX11_feed_51 : decode cX11_feed 51 = .ok (.aload_n 0, 1) := by decide +kernel
theorem dX11_feed_52 : decode cX11_feed 52 = .ok (.getfield 23, 3) := by decide +kernel
theorem dX11_feed_55 : decode cX11_feed 55 = .ok (.iload 5, 2) := by decide +kernel
theorem dX11_feed_57 : decode cX11_feed 57 = .ok (.invokevirtual 165, 3) := by decide +kernel
theorem dX11_feed_60 : decode cX11_feed 60 = .ok (.aload_n 0, 1) := by decide +kernel
theorem dX11_feed_61 : decode cX11_feed 61 = .ok (.getfield 23, 3) := by decide +kernel
theorem dX11_feed_64 : decode cX11_feed 64 = .ok (.getfield 162, 3) := by decide +kernel
theorem dX11_feed_67 : decode cX11_feed 67 = .ok (.ireturn, 1) := by decide +kernel
theorem dX11_end_0 : decode cX11_end 0 = .ok (.iload_n 1, 1) := by decide +kernel
theorem dX11_end_1 : decode cX11_end 1 = .ok (.iconst 0, 1) := by decide +kernel
theorem dX11_end_2 : decode cX11_end 2 = .ok (.aload_n 0, 1) := by decide +kernel
theorem dX11_end_3 : decode cX11_end 3 = .ok (.getfield 23, 3) := by decide +kernel
theorem dX11_end_6 : decode cX11_end 6 = .ok (.getfield 162, 3) := by decide +kernel
theorem dX11_end_9 : decode cX11_end 9 = .ok (.invokestatic 122, 3) := by decide +kernel
theorem dX11_end_12 : decode cX11_end 12 = .ok (.ifCond .ne 5, 3) := by decide +kernel
theorem dX11_end_15 : decode cX11_end 15 = .ok (.iconst (-1), 1) := by decide +kernel
theorem dX11_end_16 : decode cX11_end 16 = .ok (.ireturn, 1) := by decide +kernel
theorem dX11_end_17 : decode cX11_end 17 = .ok (.aload_n 0, 1) := by decide +kernel
theorem dX11_end_18 : decode cX11_end 18 = .ok (.getfield 23, 3) := by decide +kernel
theorem dX11_end_21 : decode cX11_end 21 = .ok (.iload_n 1, 1) := by decide +kernel
theorem dX11_end_22 : decode cX11_end 22 = .ok (.putfield 162, 3) := by decide +kernel
theorem dX11_end_25 : decode cX11_end 25 = .ok (.iload_n 1, 1) := by decide +kernel
theorem dX11_end_26 : decode cX11_end 26 = .ok (.ireturn, 1) := by decide +kernel
theorem dX11_row_0 : decode cX11_row 0 = .ok (.aload_n 0, 1) := by decide +kernel
theorem dX11_row_1 : decode cX11_row 1 = .ok (.getfield 23, 3) := by decide +kernel
theorem dX11_row_4 : decode cX11_row 4 = .ok (.getfield 162, 3) := by decide +kernel
theorem dX11_row_7 : decode cX11_row 7 = .ok (.ifCond .ne 10, 3) := by decide +kernel
theorem dX11_row_10 : decode cX11_row 10 = .ok (.aload_n 0, 1) := by decide +kernel
theorem dX11_row_11 : decode cX11_row 11 = .ok (.bipush (-6), 2) := by decide +kernel
theorem dX11_row_13 : decode cX11_row 13 = .ok (.invokevirtual 126, 3) := by decide +kernel
theorem dX11_row_16 : decode cX11_row 16 = .ok (.ireturn, 1) := by decide +kernel
theorem dX11_row_17 : decode cX11_row 17 = .ok (.iconst 0, 1) := by decide +kernel
theorem dX11_row_18 : decode cX11_row 18 = .ok (.istore_n 1, 1) := by decide +kernel
theorem dX11_row_19 : decode cX11_row 19 = .ok (.aload_n 0, 1) := by decide +kernel
theorem dX11_row_20 : decode cX11_row 20 = .ok (.iconst 0, 1) := by decide +kernel
theorem dX11_row_21 : decode cX11_row 21 = .ok (.putfield 169, 3) := by decide +kernel
theorem dX11_row_24 : decode cX11_row 24 = .ok (.iconst 0, 1) := by decide +kernel
theorem dX11_row_25 : decode cX11_row 25 = .ok (.istore_n 2, 1) := by decide +kernel
theorem dX11_row_26 : decode cX11_row 26 = .ok (.iload_n 2, 1) := by decide +kernel
theorem dX11_row_27 : decode cX11_row 27 = .ok (.aload_n 0, 1) := by decide +kernel
theorem dX11_row_28 : decode cX11_row 28 = .ok (.getfield 23, 3) := by decide +kernel
theorem dX11_row_31 : decode cX11_row 31 = .ok (.getfield 162, 3) := by decide +kernel
theorem dX11_row_34 : decode cX11_row 34 = .ok (.if_icmp .ge 78, 3) := by decide +kernel
theorem dX11_row_37 : decode cX11_row 37 = .ok (.iload_n 2, 1) := by decide +kernel
theorem dX11_row_38 : decode cX11_row 38 = .ok (.iconst 1, 1) := by decide +kernel
theorem dX11_row_39 : decode cX11_row 39 = .ok (.iadd, 1) := by decide +kernel
theorem dX11_row_40 : decode cX11_row 40 = .ok (.aload_n 0, 1) := by decide +kernel
theorem dX11_row_41 : decode cX11_row 41 = .ok (.getfield 23, 3) := by decide +kernel
theorem dX11_row_44 : decode cX11_row 44 = .ok (.getfield 162, 3) := by decide +kernel
theorem dX11_row_47 : decode cX11_row 47 = .ok (.if_icmp .ge 7, 3) := by decide +kernel
theorem dX11_row_50 : decode cX11_row 50 = .ok (.iconst 1, 1) := by decide +kernel
theorem dX11_row_51 : decode cX11_row 51 = .ok (.goto 4, 3) := by decide +kernel
theorem dX11_row_54 : decode cX11_row 54 = .ok (.iconst 0, 1) := by decide +kernel
theorem dX11_row_55 : decode cX11_row 55 = .ok (.istore_n 3, 1) := by decide +kernel
theorem dX11_row_56 : decode cX11_row 56 = .ok (.iload_n 3, 1) := by decide +kernel
theorem dX11_row_57 : decode cX11_row 57 = .ok (.ifCond .eq 39, 3) := by decide +kernel
theorem dX11_row_60 : decode cX11_row 60 = .ok (.aload_n 0, 1) := by decide +kernel
theorem dX11_row_61 : decode cX11_row 61 = .ok (.getfield 10, 3) := by decide +kernel
theorem dX11_row_64 : decode cX11_row 64 = .ok (.aload_n 0, 1) := by decide +kernel
theorem dX11_row_65 : decode cX11_row 65 = .ok (.getfield 23, 3) := by decide +kernel
theorem dX11_row_68 : decode cX11_row 68 = .ok (.getfield 172, 3) := by decide +kernel
theorem dX11_row_71 : decode cX11_row 71 = .ok (.iload_n 2, 1) := by decide +kernel
theorem dX11_row_72 : decode cX11_row 72 = .ok (.iaload, 1) := by decide +kernel
theorem dX11_row_73 : decode cX11_row 73 = .ok (.aload_n 0, 1) := by decide +kernel
theorem dX11_row_74 : decode cX11_row 74 = .ok (.getfield 23, 3) := by decide +kernel
theorem dX11_row_77 : decode cX11_row 77 = .ok (.getfield 172, 3) := by decide +kernel
theorem dX11_row_80 : decode cX11_row 80 = .ok (.iload_n 2, 1) := by decide +kernel
theorem dX11_row_81 : decode cX11_row 81 = .ok (.iconst 1, 1) := by decide +kernel
theorem dX11_row_82 : decode cX11_row 82 = .ok (.iadd, 1) := by decide +kernel
theorem dX11_row_83 : decode cX11_row 83 = .ok (.iaload, 1) := by decide +kernel
theorem dX11_row_84 : decode cX11_row 84 = .ok (.invokevirtual 86, 3) := by decide +kernel
theorem dX11_row_87 : decode cX11_row 87 = .ok (.ifCond .lt 9, 3) := by decide +kernel
theorem dX11_row_90 : decode cX11_row 90 = .ok (.iinc 1 1, 3) := by decide +kernel
theorem dX11_row_93 : decode cX11_row 93 = .ok (.goto 13, 3) := by decide +kernel
theorem dX11_row_96 : decode cX11_row 96 = .ok (.aload_n 0, 1) := by decide +kernel
theorem dX11_row_97 : decode cX11_row 97 = .ok (.dup, 1) := by decide +kernel
theorem dX11_row_98 : decode cX11_row 98 = .ok (.getfield 169, 3) := by decide +kernel
theorem dX11_row_101 : decode cX11_row 101 = .ok (.iconst 1, 1) := by decide +kernel
theorem dX11_row_102 : decode cX11_row 102 = .ok (.iadd, 1) := by decide +kernel
theorem dX11_row_103 : decode cX11_row 103 = .ok (.putfield 169, 3) := by decide +kernel
theorem dX11_row_106 : decode cX11_row 106 = .ok (.iinc 2 2, 3) := by decide +kernel
theorem dX11_row_109 : decode cX11_row 109 = .ok (.goto (-83), 3) := by decide +kernel
theorem dX11_row_112 : decode cX11_row 112 = .ok (.aload_n 0, 1) := by decide +kernel
theorem dX11_row_113 : decode cX11_row 113 = .ok (.getfield 23, 3) := by decide +kernel
theorem dX11_row_116 : decode cX11_row 116 = .ok (.iconst 0, 1) := by decide +kernel
theorem dX11_row_117 : decode cX11_row 117 = .ok (.putfield 162, 3) := by decide +kernel
theorem dX11_row_120 : decode cX11_row 120 = .ok (.aload_n 0, 1) := by decide +kernel
theorem dX11_row_121 : decode cX11_row 121 = .ok (.getfield 53, 3) := by decide +kernel
theorem dX11_row_124 : decode cX11_row 124 = .ok (.invokevirtual 90, 3) := by decide +kernel
theorem dX11_row_127 : decode cX11_row 127 = .ok (.aload_n 0, 1) := by decide +kernel
theorem dX11_row_128 : decode cX11_row 128 = .ok (.iload_n 1, 1) := by decide +kernel
theorem dX11_row_129 : decode cX11_row 129 = .ok (.invokevirtual 93, 3) := by decide +kernel
theorem dX11_row_132 : decode cX11_row 132 = .ok (.ireturn, 1) := by decide +kernel
theorem dX11_brooms_0 : decode cX11_brooms 0 = .ok (.aload_n 0, 1) := by decide +kernel
theorem dX11_brooms_1 : decode cX11_brooms 1 = .ok (.getfield 169, 3) := by decide +kernel
theorem dX11_brooms_4 : decode cX11_brooms 4 = .ok (.ireturn, 1) := by decide +kernel
theorem dX10_isLetter_0 : decode cX10_isLetter 0 = .ok (.iload_n 0, 1) := by decide +kernel
theorem dX10_isLetter_1 : decode cX10_isLetter 1 = .ok (.bipush 97, 2) := by decide +kernel
theorem dX10_isLetter_3 : decode cX10_isLetter 3 = .ok (.if_icmp .lt 13, 3) := by decide +kernel
theorem dX10_isLetter_6 : decode cX10_isLetter 6 = .ok (.iload_n 0, 1) := by decide +kernel
theorem dX10_isLetter_7 : decode cX10_isLetter 7 = .ok (.bipush 122, 2) := by decide +kernel
theorem dX10_isLetter_9 : decode cX10_isLetter 9 = .ok (.if_icmp .gt 7, 3) := by decide +kernel
theorem dX10_isLetter_12 : decode cX10_isLetter 12 = .ok (.iconst 1, 1) := by decide +kernel
theorem dX10_isLetter_13 : decode cX10_isLetter 13 = .ok (.goto 4, 3) := by decide +kernel
theorem dX10_isLetter_16 : decode cX10_isLetter 16 = .ok (.iconst 0, 1) := by decide +kernel
theorem dX10_isLetter_17 : decode cX10_isLetter 17 = .ok (.ireturn, 1) := by decide +kernel
theorem dX10_isDigit_0 : decode cX10_isDigit 0 = .ok (.iload_n 0, 1) := by decide +kernel
theorem dX10_isDigit_1 : decode cX10_isDigit 1 = .ok (.bipush 48, 2) := by decide +kernel
theorem dX10_isDigit_3 : decode cX10_isDigit 3 = .ok (.if_icmp .lt 13, 3) := by decide +kernel
theorem dX10_isDigit_6 : decode cX10_isDigit 6 = .ok (.iload_n 0, 1) := by decide +kernel
theorem dX10_isDigit_7 : decode cX10_isDigit 7 = .ok (.bipush 57, 2) := by decide +kernel
theorem dX10_isDigit_9 : decode cX10_isDigit 9 = .ok (.if_icmp .gt 7, 3) := by decide +kernel
theorem dX10_isDigit_12 : decode cX10_isDigit 12 = .ok (.iconst 1, 1) := by decide +kernel
theorem dX10_isDigit_13 : decode cX10_isDigit 13 = .ok (.goto 4, 3) := by decide +kernel
theorem dX10_isDigit_16 : decode cX10_isDigit 16 = .ok (.iconst 0, 1) := by decide +kernel
theorem dX10_isDigit_17 : decode cX10_isDigit 17 = .ok (.ireturn, 1) := by decide +kernel
theorem dX10_endOfToken_0 : decode cX10_endOfToken 0 = .ok (.aload_n 0, 1) := by decide +kernel
theorem dX10_endOfToken_1 : decode cX10_endOfToken 1 = .ok (.getfield 9, 3) := by decide +kernel
theorem dX10_endOfToken_4 : decode cX10_endOfToken 4 = .ok (.iload_n 1, 1) := by decide +kernel
theorem dX10_endOfToken_5 : decode cX10_endOfToken 5 = .ok (.iaload, 1) := by decide +kernel
theorem dX10_endOfToken_6 : decode cX10_endOfToken 6 = .ok (.invokestatic 37, 3) := by decide +kernel
theorem dX10_endOfToken_9 : decode cX10_endOfToken 9 = .ok (.istore_n 2, 1) := by decide +kernel
theorem dX10_endOfToken_10 : decode cX10_endOfToken 10 = .ok (.iload_n 2, 1) := by decide +kernel
theorem dX10_endOfToken_11 : decode cX10_endOfToken 11 = .ok (.ifCond .ne 19, 3) := by decide +kernel
theorem dX10_endOfToken_14 : decode cX10_endOfToken 14 = .ok (.aload_n 0, 1) := by decide +kernel
theorem dX10_endOfToken_15 : decode cX10_endOfToken 15 = .ok (.getfield 9, 3) := by decide +kernel
theorem dX10_endOfToken_18 : decode cX10_endOfToken 18 = .ok (.iload_n 1, 1) := by decide +kernel
theorem dX10_endOfToken_19 : decode cX10_endOfToken 19 = .ok (.iaload, 1) := by decide +kernel
theorem dX10_endOfToken_20 : decode cX10_endOfToken 20 = .ok (.invokestatic 41, 3) := by decide +kernel
theorem dX10_endOfToken_23 : decode cX10_endOfToken 23 = .ok (.ifCond .ne 7, 3) := by decide +kernel
theorem dX10_endOfToken_26 : decode cX10_endOfToken 26 = .ok (.iload_n 1, 1) := by decide +kernel
theorem dX10_endOfToken_27 : decode cX10_endOfToken 27 = .ok (.iconst 1, 1) := by decide +kernel
theorem dX10_endOfToken_28 : decode cX10_endOfToken 28 = .ok (.iadd, 1) := by decide +kernel
theorem dX10_endOfToken_29 : decode cX10_endOfToken 29 = .ok (.ireturn, 1) := by decide +kernel
theorem dX10_endOfToken_30 : decode cX10_endOfToken 30 = .ok (.iload_n 1, 1) := by decide +kernel
theorem dX10_endOfToken_31 : decode cX10_endOfToken 31 = .ok (.iconst 1, 1) := by decide +kernel
theorem dX10_endOfToken_32 : decode cX10_endOfToken 32 = .ok (.iadd, 1) := by decide +kernel
theorem dX10_endOfToken_33 : decode cX10_endOfToken 33 = .ok (.istore_n 3, 1) := by decide +kernel
theorem dX10_endOfToken_34 : decode cX10_endOfToken 34 = .ok (.iload_n 3, 1) := by decide +kernel
theorem dX10_endOfToken_35 : decode cX10_endOfToken 35 = .ok (.aload_n 0, 1) := by decide +kernel
theorem dX10_endOfToken_36 : decode cX10_endOfToken 36 = .ok (.getfield 22, 3) := by decide +kernel
theorem dX10_endOfToken_39 : decode cX10_endOfToken 39 = .ok (.if_icmp .ge 40, 3) := by decide +kernel
theorem dX10_endOfToken_42 : decode cX10_endOfToken 42 = .ok (.iload_n 2, 1) := by decide +kernel
theorem dX10_endOfToken_43 : decode cX10_endOfToken 43 = .ok (.ifCond .eq 18, 3) := by decide +kernel
theorem dX10_endOfToken_46 : decode cX10_endOfToken 46 = .ok (.aload_n 0, 1) := by decide +kernel
theorem dX10_endOfToken_47 : decode cX10_endOfToken 47 = .ok (.getfield 9, 3) := by decide +kernel
theorem dX10_endOfToken_50 : decode cX10_endOfToken 50 = .ok (.iload_n 3, 1) := by decide +kernel
theorem dX10_endOfToken_51 : decode cX10_endOfToken 51 = .ok (.iaload, 1) := by decide +kernel
theorem dX10_endOfToken_52 : decode cX10_endOfToken 52 = .ok (.invokestatic 37, 3) := by decide +kernel
theorem dX10_endOfToken_55 : decode cX10_endOfToken 55 = .ok (.ifCond .eq 24, 3) := by decide +kernel
theorem dX10_endOfToken_58 : decode cX10_endOfToken 58 = .ok (.goto 15, 3) := by decide +kernel
theorem dX10_endOfToken_61 : decode cX10_endOfToken 61 = .ok (.aload_n 0, 1) := by decide +kernel
theorem dX10_endOfToken_62 : decode cX10_endOfToken 62 = .ok (.getfield 9, 3) := by decide +kernel
theorem dX10_endOfToken_65 : decode cX10_endOfToken 65 = .ok (.iload_n 3, 1) := by decide +kernel
theorem dX10_endOfToken_66 : decode cX10_endOfToken 66 = .ok (.iaload, 1) := by decide +kernel
theorem dX10_endOfToken_67 : decode cX10_endOfToken 67 = .ok (.invokestatic 41, 3) := by decide +kernel
theorem dX10_endOfToken_70 : decode cX10_endOfToken 70 = .ok (.ifCond .eq 9, 3) := by decide +kernel
theorem dX10_endOfToken_73 : decode cX10_endOfToken 73 = .ok (.iinc 3 1, 3) := by decide +kernel
theorem dX10_endOfToken_76 : decode cX10_endOfToken 76 = .ok (.goto (-42), 3) := by decide +kernel
theorem dX10_endOfToken_79 : decode cX10_endOfToken 79 = .ok (.iload_n 3, 1) := by decide +kernel
theorem dX10_endOfToken_80 : decode cX10_endOfToken 80 = .ok (.ireturn, 1) := by decide +kernel
theorem dX10_valueOf_0 : decode cX10_valueOf 0 = .ok (.iconst 0, 1) := by decide +kernel
theorem dX10_valueOf_1 : decode cX10_valueOf 1 = .ok (.istore_n 3, 1) := by decide +kernel
theorem dX10_valueOf_2 : decode cX10_valueOf 2 = .ok (.iload_n 1, 1) := by decide +kernel
theorem dX10_valueOf_3 : decode cX10_valueOf 3 = .ok (.istore 4, 2) := by decide +kernel
theorem dX10_valueOf_5 : decode cX10_valueOf 5 = .ok (.iload 4, 2) := by decide +kernel
theorem dX10_valueOf_7 : decode cX10_valueOf 7 = .ok (.iload_n 2, 1) := by decide +kernel
theorem dX10_valueOf_8 : decode cX10_valueOf 8 = .ok (.if_icmp .ge 31, 3) := by decide +kernel
theorem dX10_valueOf_11 : decode cX10_valueOf 11 = .ok (.sipush 9999, 3) := by decide +kernel
theorem dX10_valueOf_14 : decode cX10_valueOf 14 = .ok (.iload_n 3, 1) := by decide +kernel
theorem dX10_valueOf_15 : decode cX10_valueOf 15 = .ok (.bipush 10, 2) := by decide +kernel
theorem dX10_valueOf_17 : decode cX10_valueOf 17 = .ok (.imul, 1) := by decide +kernel
theorem dX10_valueOf_18 : decode cX10_valueOf 18 = .ok (.aload_n 0, 1) := by decide +kernel
theorem dX10_valueOf_19 : decode cX10_valueOf 19 = .ok (.getfield 9, 3) := by decide +kernel
theorem dX10_valueOf_22 : decode cX10_valueOf 22 = .ok (.iload 4, 2) := by decide +kernel
theorem dX10_valueOf_24 : decode cX10_valueOf 24 = .ok (.iaload, 1) := by decide +kernel
theorem dX10_valueOf_25 : decode cX10_valueOf 25 = .ok (.iadd, 1) := by decide +kernel
theorem dX10_valueOf_26 : decode cX10_valueOf 26 = .ok (.bipush 48, 2) := by decide +kernel
theorem dX10_valueOf_28 : decode cX10_valueOf 28 = .ok (.isub, 1) := by decide +kernel
theorem dX10_valueOf_29 : decode cX10_valueOf 29 = .ok (.invokestatic 51, 3) := by decide +kernel
theorem dX10_valueOf_32 : decode cX10_valueOf 32 = .ok (.istore_n 3, 1) := by decide +kernel
theorem dX10_valueOf_33 : decode cX10_valueOf 33 = .ok (.iinc 4 1, 3) := by decide +kernel
theorem dX10_valueOf_36 : decode cX10_valueOf 36 = .ok (.goto (-31), 3) := by decide +kernel
theorem dX10_valueOf_39 : decode cX10_valueOf 39 = .ok (.iload_n 3, 1) := by decide +kernel
theorem dX10_valueOf_40 : decode cX10_valueOf 40 = .ok (.ireturn, 1) := by decide +kernel
theorem dX10_kindOfWord_0 : decode cX10_kindOfWord 0 = .ok (.sipush 300, 3) := by decide +kernel
theorem dX10_kindOfWord_3 : decode cX10_kindOfWord 3 = .ok (.istore_n 3, 1) := by decide +kernel
theorem dX10_kindOfWord_4 : decode cX10_kindOfWord 4 = .ok (.iload_n 1, 1) := by decide +kernel
theorem dX10_kindOfWord_5 : decode cX10_kindOfWord 5 = .ok (.istore 4, 2) := by decide +kernel
theorem dX10_kindOfWord_7 : decode cX10_kindOfWord 7 = .ok (.iconst 1, 1) := by decide +kernel
theorem dX10_kindOfWord_8 : decode cX10_kindOfWord 8 = .ok (.istore 5, 2) := by decide +kernel
theorem dX10_kindOfWord_10 : decode cX10_kindOfWord 10 = .ok (.iconst 0, 1) := by decide +kernel
theorem dX10_kindOfWord_11 : decode cX10_kindOfWord 11 = .ok (.istore 6, 2) := by decide +kernel
theorem dX10_kindOfWord_13 : decode cX10_kindOfWord 13 = .ok (.iload 6, 2) := by decide +kernel
theorem dX10_kindOfWord_15 : decode cX10_kindOfWord 15 = .ok (.ldc 56, 2) := by decide +kernel
theorem dX10_kindOfWord_17 : decode cX10_kindOfWord 17 = .ok (.invokevirtual 58, 3) := by decide +kernel
theorem dX10_kindOfWord_20 : decode cX10_kindOfWord 20 = .ok (.if_icmp .ge 83, 3) := by decide +kernel
theorem dX10_kindOfWord_23 : decode cX10_kindOfWord 23 = .ok (.ldc 56, 2) := by decide +kernel
theorem dX10_kindOfWord_25 : decode cX10_kindOfWord 25 = .ok (.iload 6, 2) := by decide +kernel
theorem dX10_kindOfWord_27 : decode cX10_kindOfWord 27 = .ok (.invokevirtual 63, 3) := by decide +kernel
theorem dX10_kindOfWord_30 : decode cX10_kindOfWord 30 = .ok (.istore 7, 2) := by decide +kernel
theorem dX10_kindOfWord_32 : decode cX10_kindOfWord 32 = .ok (.iload 7, 2) := by decide +kernel
theorem dX10_kindOfWord_34 : decode cX10_kindOfWord 34 = .ok (.bipush 32, 2) := by decide +kernel
theorem dX10_kindOfWord_36 : decode cX10_kindOfWord 36 = .ok (.if_icmp .eq 39, 3) := by decide +kernel
theorem dX10_kindOfWord_39 : decode cX10_kindOfWord 39 = .ok (.iload 5, 2) := by decide +kernel
theorem dX10_kindOfWord_41 : decode cX10_kindOfWord 41 = .ok (.ifCond .eq 25, 3) := by decide +kernel
theorem dX10_kindOfWord_44 : decode cX10_kindOfWord 44 = .ok (.iload 4, 2) := by decide +kernel
theorem dX10_kindOfWord_46 : decode cX10_kindOfWord 46 = .ok (.iload_n 2, 1) := by decide +kernel
theorem dX10_kindOfWord_47 : decode cX10_kindOfWord 47 = .ok (.if_icmp .ge 19, 3) := by decide +kernel
theorem dX10_kindOfWord_50 : decode cX10_kindOfWord 50 = .ok (.aload_n 0, 1) := by decide +kernel
theorem dX10_kindOfWord_51 : decode cX10_kindOfWord 51 = .ok (.getfield 9, 3) := by decide +kernel
theorem dX10_kindOfWord_54 : decode cX10_kindOfWord 54 = .ok (.iload 4, 2) := by decide +kernel
theorem dX10_kindOfWord_56 : decode cX10_kindOfWord 56 = .ok (.iaload, 1) := by decide +kernel
theorem dX10_kindOfWord_57 : decode cX10_kindOfWord 57 = .ok (.iload 7, 2) := by decide +kernel
theorem dX10_kindOfWord_59 : decode cX10_kindOfWord 59 = .ok (.if_icmp .ne 7, 3) := by decide +kernel
theorem dX10_kindOfWord_62 : decode cX10_kindOfWord 62 = .ok (.iconst 1, 1) := by decide +kernel
theorem dX10_kindOfWord_63 : decode cX10_kindOfWord 63 = .ok (.goto 4, 3) := by decide +kernel
theorem dX10_kindOfWord_66 : decode cX10_kindOfWord 66 = .ok (.iconst 0, 1) := by decide +kernel
theorem dX10_kindOfWord_67 : decode cX10_kindOfWord 67 = .ok (.istore 5, 2) := by decide +kernel
theorem dX10_kindOfWord_69 : decode cX10_kindOfWord 69 = .ok (.iinc 4 1, 3) := by decide +kernel
theorem dX10_kindOfWord_72 : decode cX10_kindOfWord 72 = .ok (.goto 25, 3) := by decide +kernel
theorem dX10_kindOfWord_75 : decode cX10_kindOfWord 75 = .ok (.iload 5, 2) := by decide +kernel
theorem dX10_kindOfWord_77 : decode cX10_kindOfWord 77 = .ok (.ifCond .eq 11, 3) := by decide +kernel
theorem dX10_kindOfWord_80 : decode cX10_kindOfWord 80 = .ok (.iload 4, 2) := by decide +kernel
theorem dX10_kindOfWord_82 : decode cX10_kindOfWord 82 = .ok (.iload_n 2, 1) := by decide +kernel
theorem dX10_kindOfWord_83 : decode cX10_kindOfWord 83 = .ok (.if_icmp .ne 5, 3) := by decide +kernel
theorem dX10_kindOfWord_86 : decode cX10_kindOfWord 86 = .ok (.iload_n 3, 1) := by decide +kernel
theorem dX10_kindOfWord_87 : decode cX10_kindOfWord 87 = .ok (.ireturn, 1) := by decide +kernel
theorem dX10_kindOfWord_88 : decode cX10_kindOfWord 88 = .ok (.iinc 3 1, 3) := by decide +kernel
theorem dX10_kindOfWord_91 : decode cX10_kindOfWord 91 = .ok (.iload_n 1, 1) := by decide +kernel
theorem dX10_kindOfWord_92 : decode cX10_kindOfWord 92 = .ok (.istore 4, 2) := by decide +kernel
theorem dX10_kindOfWord_94 : decode cX10_kindOfWord 94 = .ok (.iconst 1, 1) := by decide +kernel
theorem dX10_kindOfWord_95 : decode cX10_kindOfWord 95 = .ok (.istore 5, 2) := by decide +kernel
theorem dX10_kindOfWord_97 : decode cX10_kindOfWord 97 = .ok (.iinc 6 1, 3) := by decide +kernel
theorem dX10_kindOfWord_100 : decode cX10_kindOfWord 100 = .ok (.goto (-87), 3) := by decide +kernel
theorem dX10_kindOfWord_103 : decode cX10_kindOfWord 103 = .ok (.sipush 258, 3) := by decide +kernel
theorem dX10_kindOfWord_106 : decode cX10_kindOfWord 106 = .ok (.ireturn, 1) := by decide +kernel
theorem dX10_keep_0 : decode cX10_keep 0 = .ok (.aload_n 0, 1) := by decide +kernel
theorem dX10_keep_1 : decode cX10_keep 1 = .ok (.getfield 16, 3) := by decide +kernel
theorem dX10_keep_4 : decode cX10_keep 4 = .ok (.aload_n 0, 1) := by decide +kernel
theorem dX10_keep_5 : decode cX10_keep 5 = .ok (.getfield 26, 3) := by decide +kernel
theorem dX10_keep_8 : decode cX10_keep 8 = .ok (.iload_n 1, 1) := by decide +kernel
theorem dX10_keep_9 : decode cX10_keep 9 = .ok (.iastore, 1) := by decide +kernel
theorem dX10_keep_10 : decode cX10_keep 10 = .ok (.aload_n 0, 1) := by decide +kernel
theorem dX10_keep_11 : decode cX10_keep 11 = .ok (.getfield 19, 3) := by decide +kernel
theorem dX10_keep_14 : decode cX10_keep 14 = .ok (.aload_n 0, 1) := by decide +kernel
theorem dX10_keep_15 : decode cX10_keep 15 = .ok (.getfield 26, 3) := by decide +kernel
theorem dX10_keep_18 : decode cX10_keep 18 = .ok (.iconst 0, 1) := by decide +kernel
theorem dX10_keep_19 : decode cX10_keep 19 = .ok (.iastore, 1) := by decide +kernel
theorem dX10_keep_20 : decode cX10_keep 20 = .ok (.aload_n 0, 1) := by decide +kernel
theorem dX10_keep_21 : decode cX10_keep 21 = .ok (.getfield 9, 3) := by decide +kernel
theorem dX10_keep_24 : decode cX10_keep 24 = .ok (.iload_n 1, 1) := by decide +kernel
theorem dX10_keep_25 : decode cX10_keep 25 = .ok (.iaload, 1) := by decide +kernel
theorem dX10_keep_26 : decode cX10_keep 26 = .ok (.invokestatic 37, 3) := by decide +kernel
theorem dX10_keep_29 : decode cX10_keep 29 = .ok (.ifCond .eq 21, 3) := by decide +kernel
theorem dX10_keep_32 : decode cX10_keep 32 = .ok (.aload_n 0, 1) := by decide +kernel
theorem dX10_keep_33 : decode cX10_keep 33 = .ok (.getfield 13, 3) := by decide +kernel
theorem dX10_keep_36 : decode cX10_keep 36 = .ok (.aload_n 0, 1) := by decide +kernel
theorem dX10_keep_37 : decode cX10_keep 37 = .ok (.getfield 26, 3) := by decide +kernel
theorem dX10_keep_40 : decode cX10_keep 40 = .ok (.aload_n 0, 1) := by decide +kernel
theorem dX10_keep_41 : decode cX10_keep 41 = .ok (.iload_n 1, 1) := by decide +kernel
theorem dX10_keep_42 : decode cX10_keep 42 = .ok (.iload_n 2, 1) := by decide +kernel
theorem dX10_keep_43 : decode cX10_keep 43 = .ok (.invokevirtual 44, 3) := by decide +kernel
theorem dX10_keep_46 : decode cX10_keep 46 = .ok (.iastore, 1) := by decide +kernel
theorem dX10_keep_47 : decode cX10_keep 47 = .ok (.goto 60, 3) := by decide +kernel
theorem dX10_keep_50 : decode cX10_keep 50 = .ok (.aload_n 0, 1) := by decide +kernel
theorem dX10_keep_51 : decode cX10_keep 51 = .ok (.getfield 9, 3) := by decide +kernel
theorem dX10_keep_54 : decode cX10_keep 54 = .ok (.iload_n 1, 1) := by decide +kernel
theorem dX10_keep_55 : decode cX10_keep 55 = .ok (.iaload, 1) := by decide +kernel
theorem dX10_keep_56 : decode cX10_keep 56 = .ok (.invokestatic 41, 3) := by decide +kernel
theorem dX10_keep_59 : decode cX10_keep 59 = .ok (.ifCond .eq 33, 3) := by decide +kernel
theorem dX10_keep_62 : decode cX10_keep 62 = .ok (.aload_n 0, 1) := by decide +kernel
theorem dX10_keep_63 : decode cX10_keep 63 = .ok (.getfield 13, 3) := by decide +kernel
theorem dX10_keep_66 : decode cX10_keep 66 = .ok (.aload_n 0, 1) := by decide +kernel
theorem dX10_keep_67 : decode cX10_keep 67 = .ok (.getfield 26, 3) := by decide +kernel
theorem dX10_keep_70 : decode cX10_keep 70 = .ok (.sipush 256, 3) := by decide +kernel
theorem dX10_keep_73 : decode cX10_keep 73 = .ok (.iastore, 1) := by decide +kernel
theorem dX10_keep_74 : decode cX10_keep 74 = .ok (.aload_n 0, 1) := by decide +kernel
theorem dX10_keep_75 : decode cX10_keep 75 = .ok (.getfield 19, 3) := by decide +kernel
theorem dX10_keep_78 : decode cX10_keep 78 = .ok (.aload_n 0, 1) := by decide +kernel
theorem dX10_keep_79 : decode cX10_keep 79 = .ok (.getfield 26, 3) := by decide +kernel
theorem dX10_keep_82 : decode cX10_keep 82 = .ok (.aload_n 0, 1) := by decide +kernel
theorem dX10_keep_83 : decode cX10_keep 83 = .ok (.iload_n 1, 1) := by decide +kernel
theorem dX10_keep_84 : decode cX10_keep 84 = .ok (.iload_n 2, 1) := by decide +kernel
theorem dX10_keep_85 : decode cX10_keep 85 = .ok (.invokevirtual 48, 3) := by decide +kernel
theorem dX10_keep_88 : decode cX10_keep 88 = .ok (.iastore, 1) := by decide +kernel
theorem dX10_keep_89 : decode cX10_keep 89 = .ok (.goto 18, 3) := by decide +kernel
theorem dX10_keep_92 : decode cX10_keep 92 = .ok (.aload_n 0, 1) := by decide +kernel
theorem dX10_keep_93 : decode cX10_keep 93 = .ok (.getfield 13, 3) := by decide +kernel
theorem dX10_keep_96 : decode cX10_keep 96 = .ok (.aload_n 0, 1) := by decide +kernel
theorem dX10_keep_97 : decode cX10_keep 97 = .ok (.getfield 26, 3) := by decide +kernel
theorem dX10_keep_100 : decode cX10_keep 100 = .ok (.aload_n 0, 1) := by decide +kernel
theorem dX10_keep_101 : decode cX10_keep 101 = .ok (.getfield 9, 3) := by decide +kernel
theorem dX10_keep_104 : decode cX10_keep 104 = .ok (.iload_n 1, 1) := by decide +kernel
theorem dX10_keep_105 : decode cX10_keep 105 = .ok (.iaload, 1) := by decide +kernel
theorem dX10_keep_106 : decode cX10_keep 106 = .ok (.iastore, 1) := by decide +kernel
theorem dX10_keep_107 : decode cX10_keep 107 = .ok (.aload_n 0, 1) := by decide +kernel
theorem dX10_keep_108 : decode cX10_keep 108 = .ok (.dup, 1) := by decide +kernel
theorem dX10_keep_109 : decode cX10_keep 109 = .ok (.getfield 26, 3) := by decide +kernel
theorem dX10_keep_112 : decode cX10_keep 112 = .ok (.iconst 1, 1) := by decide +kernel
theorem dX10_keep_113 : decode cX10_keep 113 = .ok (.iadd, 1) := by decide +kernel
theorem dX10_keep_114 : decode cX10_keep 114 = .ok (.putfield 26, 3) := by decide +kernel
theorem dX10_keep_117 : decode cX10_keep 117 = .ok (.return_, 1) := by decide +kernel
theorem dX10_split_0 : decode cX10_split 0 = .ok (.aload_n 0, 1) := by decide +kernel
theorem dX10_split_1 : decode cX10_split 1 = .ok (.iconst 0, 1) := by decide +kernel
theorem dX10_split_2 : decode cX10_split 2 = .ok (.putfield 26, 3) := by decide +kernel
theorem dX10_split_5 : decode cX10_split 5 = .ok (.iconst 0, 1) := by decide +kernel
theorem dX10_split_6 : decode cX10_split 6 = .ok (.istore_n 1, 1) := by decide +kernel
theorem dX10_split_7 : decode cX10_split 7 = .ok (.iconst 0, 1) := by decide +kernel
theorem dX10_split_8 : decode cX10_split 8 = .ok (.istore_n 2, 1) := by decide +kernel
theorem dX10_split_9 : decode cX10_split 9 = .ok (.iload_n 2, 1) := by decide +kernel
theorem dX10_split_10 : decode cX10_split 10 = .ok (.sipush 400, 3) := by decide +kernel
theorem dX10_split_13 : decode cX10_split 13 = .ok (.if_icmp .ge 42, 3) := by decide +kernel
theorem dX10_split_16 : decode cX10_split 16 = .ok (.iload_n 1, 1) := by decide +kernel
theorem dX10_split_17 : decode cX10_split 17 = .ok (.aload_n 0, 1) := by decide +kernel
theorem dX10_split_18 : decode cX10_split 18 = .ok (.getfield 22, 3) := by decide +kernel
theorem dX10_split_21 : decode cX10_split 21 = .ok (.if_icmp .ge 34, 3) := by decide +kernel
theorem dX10_split_24 : decode cX10_split 24 = .ok (.aload_n 0, 1) := by decide +kernel
theorem dX10_split_25 : decode cX10_split 25 = .ok (.iload_n 1, 1) := by decide +kernel
theorem dX10_split_26 : decode cX10_split 26 = .ok (.invokevirtual 29, 3) := by decide +kernel
theorem dX10_split_29 : decode cX10_split 29 = .ok (.istore_n 3, 1) := by decide +kernel
theorem dX10_split_30 : decode cX10_split 30 = .ok (.aload_n 0, 1) := by decide +kernel
theorem dX10_split_31 : decode cX10_split 31 = .ok (.getfield 9, 3) := by decide +kernel
theorem dX10_split_34 : decode cX10_split 34 = .ok (.iload_n 1, 1) := by decide +kernel
theorem dX10_split_35 : decode cX10_split 35 = .ok (.iaload, 1) := by decide +kernel
theorem dX10_split_36 : decode cX10_split 36 = .ok (.bipush 32, 2) := by decide +kernel
theorem dX10_split_38 : decode cX10_split 38 = .ok (.if_icmp .eq 9, 3) := by decide +kernel
theorem dX10_split_41 : decode cX10_split 41 = .ok (.aload_n 0, 1) := by decide +kernel
theorem dX10_split_42 : decode cX10_split 42 = .ok (.iload_n 1, 1) := by decide +kernel
theorem dX10_split_43 : decode cX10_split 43 = .ok (.iload_n 3, 1) := by decide +kernel
theorem dX10_split_44 : decode cX10_split 44 = .ok (.invokevirtual 33, 3) := by decide +kernel
theorem dX10_split_47 : decode cX10_split 47 = .ok (.iload_n 3, 1) := by decide +kernel
theorem dX10_split_48 : decode cX10_split 48 = .ok (.istore_n 1, 1) := by decide +kernel
theorem dX10_split_49 : decode cX10_split 49 = .ok (.iinc 2 1, 3) := by decide +kernel
theorem dX10_split_52 : decode cX10_split 52 = .ok (.goto (-43), 3) := by decide +kernel
theorem dX10_split_55 : decode cX10_split 55 = .ok (.aload_n 0, 1) := by decide +kernel
theorem dX10_split_56 : decode cX10_split 56 = .ok (.getfield 13, 3) := by decide +kernel
theorem dX10_split_59 : decode cX10_split 59 = .ok (.aload_n 0, 1) := by decide +kernel
theorem dX10_split_60 : decode cX10_split 60 = .ok (.getfield 26, 3) := by decide +kernel
theorem dX10_split_63 : decode cX10_split 63 = .ok (.sipush 257, 3) := by decide +kernel
theorem dX10_split_66 : decode cX10_split 66 = .ok (.iastore, 1) := by decide +kernel
theorem dX10_split_67 : decode cX10_split 67 = .ok (.aload_n 0, 1) := by decide +kernel
theorem dX10_split_68 : decode cX10_split 68 = .ok (.getfield 16, 3) := by decide +kernel
theorem dX10_split_71 : decode cX10_split 71 = .ok (.aload_n 0, 1) := by decide +kernel
theorem dX10_split_72 : decode cX10_split 72 = .ok (.getfield 26, 3) := by decide +kernel
theorem dX10_split_75 : decode cX10_split 75 = .ok (.aload_n 0, 1) := by decide +kernel
theorem dX10_split_76 : decode cX10_split 76 = .ok (.getfield 22, 3) := by decide +kernel
theorem dX10_split_79 : decode cX10_split 79 = .ok (.iastore, 1) := by decide +kernel
theorem dX10_split_80 : decode cX10_split 80 = .ok (.aload_n 0, 1) := by decide +kernel
theorem dX10_split_81 : decode cX10_split 81 = .ok (.dup, 1) := by decide +kernel
theorem dX10_split_82 : decode cX10_split 82 = .ok (.getfield 26, 3) := by decide +kernel
theorem dX10_split_85 : decode cX10_split 85 = .ok (.iconst 1, 1) := by decide +kernel
theorem dX10_split_86 : decode cX10_split 86 = .ok (.iadd, 1) := by decide +kernel
theorem dX10_split_87 : decode cX10_split 87 = .ok (.putfield 26, 3) := by decide +kernel
theorem dX10_split_90 : decode cX10_split 90 = .ok (.return_, 1) := by decide +kernel
theorem dX8_clear_0 : decode cX8_clear 0 = .ok (.aload_n 0, 1) := by decide +kernel
theorem dX8_clear_1 : decode cX8_clear 1 = .ok (.iconst 0, 1) := by decide +kernel
theorem dX8_clear_2 : decode cX8_clear 2 = .ok (.putfield 34, 3) := by decide +kernel
theorem dX8_clear_5 : decode cX8_clear 5 = .ok (.aload_n 0, 1) := by decide +kernel
theorem dX8_clear_6 : decode cX8_clear 6 = .ok (.iconst 0, 1) := by decide +kernel
theorem dX8_clear_7 : decode cX8_clear 7 = .ok (.putfield 24, 3) := by decide +kernel
theorem dX8_clear_10 : decode cX8_clear 10 = .ok (.return_, 1) := by decide +kernel
theorem dX9_lookAt_0 : decode cX9_lookAt 0 = .ok (.iload_n 1, 1) := by decide +kernel
theorem dX9_lookAt_1 : decode cX9_lookAt 1 = .ok (.aload_n 0, 1) := by decide +kernel
theorem dX9_lookAt_2 : decode cX9_lookAt 2 = .ok (.getfield 9, 3) := by decide +kernel
theorem dX9_lookAt_5 : decode cX9_lookAt 5 = .ok (.getfield 65, 3) := by decide +kernel
theorem dX9_lookAt_8 : decode cX9_lookAt 8 = .ok (.if_icmp .ge 34, 3) := by decide +kernel
theorem dX9_lookAt_11 : decode cX9_lookAt 11 = .ok (.aload_n 0, 1) := by decide +kernel
theorem dX9_lookAt_12 : decode cX9_lookAt 12 = .ok (.iload_n 1, 1) := by decide +kernel
theorem dX9_lookAt_13 : decode cX9_lookAt 13 = .ok (.putfield 55, 3) := by decide +kernel
theorem dX9_lookAt_16 : decode cX9_lookAt 16 = .ok (.aload_n 0, 1) := by decide +kernel
theorem dX9_lookAt_17 : decode cX9_lookAt 17 = .ok (.aload_n 0, 1) := by decide +kernel
theorem dX9_lookAt_18 : decode cX9_lookAt 18 = .ok (.getfield 9, 3) := by decide +kernel
theorem dX9_lookAt_21 : decode cX9_lookAt 21 = .ok (.getfield 68, 3) := by decide +kernel
theorem dX9_lookAt_24 : decode cX9_lookAt 24 = .ok (.iload_n 1, 1) := by decide +kernel
theorem dX9_lookAt_25 : decode cX9_lookAt 25 = .ok (.iaload, 1) := by decide +kernel
theorem dX9_lookAt_26 : decode cX9_lookAt 26 = .ok (.putfield 62, 3) := by decide +kernel
theorem dX9_lookAt_29 : decode cX9_lookAt 29 = .ok (.aload_n 0, 1) := by decide +kernel
theorem dX9_lookAt_30 : decode cX9_lookAt 30 = .ok (.aload_n 0, 1) := by decide +kernel
theorem dX9_lookAt_31 : decode cX9_lookAt 31 = .ok (.getfield 9, 3) := by decide +kernel
theorem dX9_lookAt_34 : decode cX9_lookAt 34 = .ok (.getfield 71, 3) := by decide +kernel
theorem dX9_lookAt_37 : decode cX9_lookAt 37 = .ok (.iload_n 1, 1) := by decide +kernel
theorem dX9_lookAt_38 : decode cX9_lookAt 38 = .ok (.iaload, 1) := by decide +kernel
theorem dX9_lookAt_39 : decode cX9_lookAt 39 = .ok (.putfield 74, 3) := by decide +kernel
theorem dX9_lookAt_42 : decode cX9_lookAt 42 = .ok (.return_, 1) := by decide +kernel
theorem dX8_begin_0 : decode cX8_begin 0 = .ok (.iload_n 1, 1) := by decide +kernel
theorem dX8_begin_1 : decode cX8_begin 1 = .ok (.istore_n 2, 1) := by decide +kernel
theorem dX8_begin_2 : decode cX8_begin 2 = .ok (.iload_n 2, 1) := by decide +kernel
theorem dX8_begin_3 : decode cX8_begin 3 = .ok (.iconst 4, 1) := by decide +kernel
theorem dX8_begin_4 : decode cX8_begin 4 = .ok (.if_icmp .ge 35, 3) := by decide +kernel
theorem dX8_begin_7 : decode cX8_begin 7 = .ok (.aload_n 0, 1) := by decide +kernel
theorem dX8_begin_8 : decode cX8_begin 8 = .ok (.getfield 24, 3) := by decide +kernel
theorem dX8_begin_11 : decode cX8_begin 11 = .ok (.ifCond .le 28, 3) := by decide +kernel
theorem dX8_begin_14 : decode cX8_begin 14 = .ok (.aload_n 0, 1) := by decide +kernel
theorem dX8_begin_15 : decode cX8_begin 15 = .ok (.getfield 16, 3) := by decide +kernel
theorem dX8_begin_18 : decode cX8_begin 18 = .ok (.aload_n 0, 1) := by decide +kernel
theorem dX8_begin_19 : decode cX8_begin 19 = .ok (.getfield 24, 3) := by decide +kernel
theorem dX8_begin_22 : decode cX8_begin 22 = .ok (.iconst 1, 1) := by decide +kernel
theorem dX8_begin_23 : decode cX8_begin 23 = .ok (.isub, 1) := by decide +kernel
theorem dX8_begin_24 : decode cX8_begin 24 = .ok (.iconst 4, 1) := by decide +kernel
theorem dX8_begin_25 : decode cX8_begin 25 = .ok (.imul, 1) := by decide +kernel
theorem dX8_begin_26 : decode cX8_begin 26 = .ok (.iload_n 2, 1) := by decide +kernel
theorem dX8_begin_27 : decode cX8_begin 27 = .ok (.iadd, 1) := by decide +kernel
theorem dX8_begin_28 : decode cX8_begin 28 = .ok (.aload_n 0, 1) := by decide +kernel
theorem dX8_begin_29 : decode cX8_begin 29 = .ok (.getfield 34, 3) := by decide +kernel
theorem dX8_begin_32 : decode cX8_begin 32 = .ok (.iastore, 1) := by decide +kernel
theorem dX8_begin_33 : decode cX8_begin 33 = .ok (.iinc 2 1, 3) := by decide +kernel
theorem dX8_begin_36 : decode cX8_begin 36 = .ok (.goto (-34), 3) := by decide +kernel
theorem dX8_begin_39 : decode cX8_begin 39 = .ok (.return_, 1) := by decide +kernel
theorem dX8_open_0 : decode cX8_open 0 = .ok (.aload_n 0, 1) := by decide +kernel
theorem dX8_open_1 : decode cX8_open 1 = .ok (.getfield 24, 3) := by decide +kernel
theorem dX8_open_4 : decode cX8_open 4 = .ok (.bipush 12, 2) := by decide +kernel
theorem dX8_open_6 : decode cX8_open 6 = .ok (.if_icmp .ge 38, 3) := by decide +kernel
theorem dX8_open_9 : decode cX8_open 9 = .ok (.aload_n 0, 1) := by decide +kernel
theorem dX8_open_10 : decode cX8_open 10 = .ok (.getfield 9, 3) := by decide +kernel
theorem dX8_open_13 : decode cX8_open 13 = .ok (.aload_n 0, 1) := by decide +kernel
theorem dX8_open_14 : decode cX8_open 14 = .ok (.getfield 24, 3) := by decide +kernel
theorem dX8_open_17 : decode cX8_open 17 = .ok (.iload_n 1, 1) := by decide +kernel
theorem dX8_open_18 : decode cX8_open 18 = .ok (.iastore, 1) := by decide +kernel
theorem dX8_open_19 : decode cX8_open 19 = .ok (.aload_n 0, 1) := by decide +kernel
theorem dX8_open_20 : decode cX8_open 20 = .ok (.getfield 13, 3) := by decide +kernel
theorem dX8_open_23 : decode cX8_open 23 = .ok (.aload_n 0, 1) := by decide +kernel
theorem dX8_open_24 : decode cX8_open 24 = .ok (.getfield 24, 3) := by decide +kernel
theorem dX8_open_27 : decode cX8_open 27 = .ok (.iconst 1, 1) := by decide +kernel
theorem dX8_open_28 : decode cX8_open 28 = .ok (.iastore, 1) := by decide +kernel
theorem dX8_open_29 : decode cX8_open 29 = .ok (.aload_n 0, 1) := by decide +kernel
theorem dX8_open_30 : decode cX8_open 30 = .ok (.dup, 1) := by decide +kernel
theorem dX8_open_31 : decode cX8_open 31 = .ok (.getfield 24, 3) := by decide +kernel
theorem dX8_open_34 : decode cX8_open 34 = .ok (.iconst 1, 1) := by decide +kernel
theorem dX8_open_35 : decode cX8_open 35 = .ok (.iadd, 1) := by decide +kernel
theorem dX8_open_36 : decode cX8_open 36 = .ok (.putfield 24, 3) := by decide +kernel
theorem dX8_open_39 : decode cX8_open 39 = .ok (.aload_n 0, 1) := by decide +kernel
theorem dX8_open_40 : decode cX8_open 40 = .ok (.iconst 0, 1) := by decide +kernel
theorem dX8_open_41 : decode cX8_open 41 = .ok (.invokevirtual 40, 3) := by decide +kernel
theorem dX8_open_44 : decode cX8_open 44 = .ok (.return_, 1) := by decide +kernel
theorem dX9_passes_0 : decode cX9_passes 0 = .ok (.aload_n 0, 1) := by decide +kernel
theorem dX9_passes_1 : decode cX9_passes 1 = .ok (.getfield 62, 3) := by decide +kernel
theorem dX9_passes_4 : decode cX9_passes 4 = .ok (.iload_n 1, 1) := by decide +kernel
theorem dX9_passes_5 : decode cX9_passes 5 = .ok (.if_icmp .eq 5, 3) := by decide +kernel
theorem dX9_passes_8 : decode cX9_passes 8 = .ok (.iconst 0, 1) := by decide +kernel
theorem dX9_passes_9 : decode cX9_passes 9 = .ok (.ireturn, 1) := by decide +kernel
theorem dX9_passes_10 : decode cX9_passes 10 = .ok (.aload_n 0, 1) := by decide +kernel
theorem dX9_passes_11 : decode cX9_passes 11 = .ok (.aload_n 0, 1) := by decide +kernel
theorem dX9_passes_12 : decode cX9_passes 12 = .ok (.getfield 55, 3) := by decide +kernel
theorem dX9_passes_15 : decode cX9_passes 15 = .ok (.iconst 1, 1) := by decide +kernel
theorem dX9_passes_16 : decode cX9_passes 16 = .ok (.iadd, 1) := by decide +kernel
theorem dX9_passes_17 : decode cX9_passes 17 = .ok (.invokevirtual 37, 3) := by decide +kernel
theorem dX9_passes_20 : decode cX9_passes 20 = .ok (.iconst 1, 1) := by decide +kernel
theorem dX9_passes_21 : decode cX9_passes 21 = .ok (.ireturn, 1) := by decide +kernel
theorem dX9_readInBrackets_0 : decode cX9_readInBrackets 0 = .ok (.iload_n 2, 1) := by decide +kernel
theorem dX9_readInBrackets_1 : decode cX9_readInBrackets 1 = .ok (.bipush 8, 2) := by decide +kernel
theorem dX9_readInBrackets_3 : decode cX9_readInBrackets 3 = .ok (.if_icmp .lt 5, 3) := by decide +kernel
theorem dX9_readInBrackets_6 : decode cX9_readInBrackets 6 = .ok (.iconst 0, 1) := by decide +kernel
theorem dX9_readInBrackets_7 : decode cX9_readInBrackets 7 = .ok (.ireturn, 1) := by decide +kernel
theorem dX9_readInBrackets_8 : decode cX9_readInBrackets 8 = .ok (.aload_n 0, 1) := by decide +kernel
theorem dX9_readInBrackets_9 : decode cX9_readInBrackets 9 = .ok (.aload_n 0, 1) := by decide +kernel
theorem dX9_readInBrackets_10 : decode cX9_readInBrackets 10 = .ok (.getfield 55, 3) := by decide +kernel
theorem dX9_readInBrackets_13 : decode cX9_readInBrackets 13 = .ok (.iconst 1, 1) := by decide +kernel
theorem dX9_readInBrackets_14 : decode cX9_readInBrackets 14 = .ok (.iadd, 1) := by decide +kernel
theorem dX9_readInBrackets_15 : decode cX9_readInBrackets 15 = .ok (.invokevirtual 37, 3) := by decide +kernel
theorem dX9_readInBrackets_18 : decode cX9_readInBrackets 18 = .ok (.iload_n 1, 1) := by decide +kernel
theorem dX9_readInBrackets_19 : decode cX9_readInBrackets 19 = .ok (.bipush 40, 2) := by decide +kernel
theorem dX9_readInBrackets_21 : decode cX9_readInBrackets 21 = .ok (.if_icmp .ne 30, 3) := by decide +kernel
theorem dX9_readInBrackets_24 : decode cX9_readInBrackets 24 = .ok (.aload_n 0, 1) := by decide +kernel
theorem dX9_readInBrackets_25 : decode cX9_readInBrackets 25 = .ok (.iload_n 2, 1) := by decide +kernel
theorem dX9_readInBrackets_26 : decode cX9_readInBrackets 26 = .ok (.iconst 1, 1) := by decide +kernel
theorem dX9_readInBrackets_27 : decode cX9_readInBrackets 27 = .ok (.iadd, 1) := by decide +kernel
theorem dX9_readInBrackets_28 : decode cX9_readInBrackets 28 = .ok (.invokevirtual 97, 3) := by decide +kernel
theorem dX9_readInBrackets_31 : decode cX9_readInBrackets 31 = .ok (.ifCond .eq 16, 3) := by decide +kernel
theorem dX9_readInBrackets_34 : decode cX9_readInBrackets 34 = .ok (.aload_n 0, 1) := by decide +kernel
theorem dX9_readInBrackets_35 : decode cX9_readInBrackets 35 = .ok (.bipush 41, 2) := by decide +kernel
theorem dX9_readInBrackets_37 : decode cX9_readInBrackets 37 = .ok (.invokevirtual 58, 3) := by decide +kernel
theorem dX9_readInBrackets_40 : decode cX9_readInBrackets 40 = .ok (.ifCond .eq 7, 3) := by decide +kernel
theorem dX9_readInBrackets_43 : decode cX9_readInBrackets 43 = .ok (.iconst 1, 1) := by decide +kernel
theorem dX9_readInBrackets_44 : decode cX9_readInBrackets 44 = .ok (.goto 31, 3) := by decide +kernel
theorem dX9_readInBrackets_47 : decode cX9_readInBrackets 47 = .ok (.iconst 0, 1) := by decide +kernel
theorem dX9_readInBrackets_48 : decode cX9_readInBrackets 48 = .ok (.goto 27, 3) := by decide +kernel
theorem dX9_readInBrackets_51 : decode cX9_readInBrackets 51 = .ok (.aload_n 0, 1) := by decide +kernel
theorem dX9_readInBrackets_52 : decode cX9_readInBrackets 52 = .ok (.iload_n 2, 1) := by decide +kernel
theorem dX9_readInBrackets_53 : decode cX9_readInBrackets 53 = .ok (.iconst 1, 1) := by decide +kernel
theorem dX9_readInBrackets_54 : decode cX9_readInBrackets 54 = .ok (.iadd, 1) := by decide +kernel
theorem dX9_readInBrackets_55 : decode cX9_readInBrackets 55 = .ok (.invokevirtual 84, 3) := by decide +kernel
theorem dX9_readInBrackets_58 : decode cX9_readInBrackets 58 = .ok (.ifCond .eq 16, 3) := by decide +kernel
theorem dX9_readInBrackets_61 : decode cX9_readInBrackets 61 = .ok (.aload_n 0, 1) := by decide +kernel
theorem dX9_readInBrackets_62 : decode cX9_readInBrackets 62 = .ok (.bipush 93, 2) := by decide +kernel
theorem dX9_readInBrackets_64 : decode cX9_readInBrackets 64 = .ok (.invokevirtual 58, 3) := by decide +kernel
theorem dX9_readInBrackets_67 : decode cX9_readInBrackets 67 = .ok (.ifCond .eq 7, 3) := by decide +kernel
theorem dX9_readInBrackets_70 : decode cX9_readInBrackets 70 = .ok (.iconst 1, 1) := by decide +kernel
theorem dX9_readInBrackets_71 : decode cX9_readInBrackets 71 = .ok (.goto 4, 3) := by decide +kernel
theorem dX9_readInBrackets_74 : decode cX9_readInBrackets 74 = .ok (.iconst 0, 1) := by decide +kernel
theorem dX9_readInBrackets_75 : decode cX9_readInBrackets 75 = .ok (.ireturn, 1) := by decide +kernel
theorem dX9_isNumber_0 : decode cX9_isNumber 0 = .ok (.aload_n 0, 1) := by decide +kernel
theorem dX9_isNumber_1 : decode cX9_isNumber 1 = .ok (.getfield 62, 3) := by decide +kernel
theorem dX9_isNumber_4 : decode cX9_isNumber 4 = .ok (.sipush 256, 3) := by decide +kernel
theorem dX9_isNumber_7 : decode cX9_isNumber 7 = .ok (.if_icmp .ne 23, 3) := by decide +kernel
theorem dX9_isNumber_10 : decode cX9_isNumber 10 = .ok (.aload_n 0, 1) := by decide +kernel
theorem dX9_isNumber_11 : decode cX9_isNumber 11 = .ok (.getfield 74, 3) := by decide +kernel
theorem dX9_isNumber_14 : decode cX9_isNumber 14 = .ok (.iload_n 1, 1) := by decide +kernel
theorem dX9_isNumber_15 : decode cX9_isNumber 15 = .ok (.if_icmp .lt 15, 3) := by decide +kernel
theorem dX9_isNumber_18 : decode cX9_isNumber 18 = .ok (.aload_n 0, 1) := by decide +kernel
theorem dX9_isNumber_19 : decode cX9_isNumber 19 = .ok (.getfield 74, 3) := by decide +kernel
theorem dX9_isNumber_22 : decode cX9_isNumber 22 = .ok (.iload_n 2, 1) := by decide +kernel
theorem dX9_isNumber_23 : decode cX9_isNumber 23 = .ok (.if_icmp .gt 7, 3) := by decide +kernel
theorem dX9_isNumber_26 : decode cX9_isNumber 26 = .ok (.iconst 1, 1) := by decide +kernel
theorem dX9_isNumber_27 : decode cX9_isNumber 27 = .ok (.goto 4, 3) := by decide +kernel
theorem dX9_isNumber_30 : decode cX9_isNumber 30 = .ok (.iconst 0, 1) := by decide +kernel
theorem dX9_isNumber_31 : decode cX9_isNumber 31 = .ok (.ireturn, 1) := by decide +kernel
theorem dX8_add_0 : decode cX8_add 0 = .ok (.aload_n 0, 1) := by decide +kernel
theorem dX8_add_1 : decode cX8_add 1 = .ok (.getfield 34, 3) := by decide +kernel
theorem dX8_add_4 : decode cX8_add 4 = .ok (.aload_n 0, 1) := by decide +kernel
theorem dX8_add_5 : decode cX8_add 5 = .ok (.getfield 21, 3) := by decide +kernel
theorem dX8_add_8 : decode cX8_add 8 = .ok (.arraylength, 1) := by decide +kernel
theorem dX8_add_9 : decode cX8_add 9 = .ok (.if_icmp .ge 27, 3) := by decide +kernel
theorem dX8_add_12 : decode cX8_add 12 = .ok (.aload_n 0, 1) := by decide +kernel
theorem dX8_add_13 : decode cX8_add 13 = .ok (.getfield 21, 3) := by decide +kernel
theorem dX8_add_16 : decode cX8_add 16 = .ok (.aload_n 0, 1) := by decide +kernel
theorem dX8_add_17 : decode cX8_add 17 = .ok (.getfield 34, 3) := by decide +kernel
theorem dX8_add_20 : decode cX8_add 20 = .ok (.iload_n 2, 1) := by decide +kernel
theorem dX8_add_21 : decode cX8_add 21 = .ok (.iconst 4, 1) := by decide +kernel
theorem dX8_add_22 : decode cX8_add 22 = .ok (.ishl, 1) := by decide +kernel
theorem dX8_add_23 : decode cX8_add 23 = .ok (.iload_n 1, 1) := by decide +kernel
theorem dX8_add_24 : decode cX8_add 24 = .ok (.ior, 1) := by decide +kernel
theorem dX8_add_25 : decode cX8_add 25 = .ok (.iastore, 1) := by decide +kernel
theorem dX8_add_26 : decode cX8_add 26 = .ok (.aload_n 0, 1) := by decide +kernel
theorem dX8_add_27 : decode cX8_add 27 = .ok (.dup, 1) := by decide +kernel
theorem dX8_add_28 : decode cX8_add 28 = .ok (.getfield 34, 3) := by decide +kernel
theorem dX8_add_31 : decode cX8_add 31 = .ok (.iconst 1, 1) := by decide +kernel
theorem dX8_add_32 : decode cX8_add 32 = .ok (.iadd, 1) := by decide +kernel
theorem dX8_add_33 : decode cX8_add 33 = .ok (.putfield 34, 3) := by decide +kernel
theorem dX8_add_36 : decode cX8_add 36 = .ok (.aload_n 0, 1) := by decide +kernel
theorem dX8_add_37 : decode cX8_add 37 = .ok (.getfield 34, 3) := by decide +kernel
theorem dX8_add_40 : decode cX8_add 40 = .ok (.iconst 1, 1) := by decide +kernel
theorem dX8_add_41 : decode cX8_add 41 = .ok (.isub, 1) := by decide +kernel
theorem dX8_add_42 : decode cX8_add 42 = .ok (.ireturn, 1) := by decide +kernel
theorem dX9_readWordOf_0 : decode cX9_readWordOf 0 = .ok (.aload_n 0, 1) := by decide +kernel
theorem dX9_readWordOf_1 : decode cX9_readWordOf 1 = .ok (.aload_n 0, 1) := by decide +kernel
theorem dX9_readWordOf_2 : decode cX9_readWordOf 2 = .ok (.getfield 55, 3) := by decide +kernel
theorem dX9_readWordOf_5 : decode cX9_readWordOf 5 = .ok (.iconst 1, 1) := by decide +kernel
theorem dX9_readWordOf_6 : decode cX9_readWordOf 6 = .ok (.iadd, 1) := by decide +kernel
theorem dX9_readWordOf_7 : decode cX9_readWordOf 7 = .ok (.invokevirtual 37, 3) := by decide +kernel
theorem dX9_readWordOf_10 : decode cX9_readWordOf 10 = .ok (.iload_n 2, 1) := by decide +kernel
theorem dX9_readWordOf_11 : decode cX9_readWordOf 11 = .ok (.ifCond .ne 15, 3) := by decide +kernel
theorem dX9_readWordOf_14 : decode cX9_readWordOf 14 = .ok (.aload_n 0, 1) := by decide +kernel
theorem dX9_readWordOf_15 : decode cX9_readWordOf 15 = .ok (.getfield 15, 3) := by decide +kernel
theorem dX9_readWordOf_18 : decode cX9_readWordOf 18 = .ok (.iconst 1, 1) := by decide +kernel
theorem dX9_readWordOf_19 : decode cX9_readWordOf 19 = .ok (.iload_n 1, 1) := by decide +kernel
theorem dX9_readWordOf_20 : decode cX9_readWordOf 20 = .ok (.invokevirtual 103, 3) := by decide +kernel
theorem dX9_readWordOf_23 : decode cX9_readWordOf 23 = .ok (.pop, 1) := by decide +kernel
theorem dX9_readWordOf_24 : decode cX9_readWordOf 24 = .ok (.iconst 1, 1) := by decide +kernel
theorem dX9_readWordOf_25 : decode cX9_readWordOf 25 = .ok (.ireturn, 1) := by decide +kernel
theorem dX9_readWordOf_26 : decode cX9_readWordOf 26 = .ok (.aload_n 0, 1) := by decide +kernel
theorem dX9_readWordOf_27 : decode cX9_readWordOf 27 = .ok (.iconst 0, 1) := by decide +kernel
theorem dX9_readWordOf_28 : decode cX9_readWordOf 28 = .ok (.iload_n 2, 1) := by decide +kernel
theorem dX9_readWordOf_29 : decode cX9_readWordOf 29 = .ok (.iconst 1, 1) := by decide +kernel
theorem dX9_readWordOf_30 : decode cX9_readWordOf 30 = .ok (.isub, 1) := by decide +kernel
theorem dX9_readWordOf_31 : decode cX9_readWordOf 31 = .ok (.invokevirtual 90, 3) := by decide +kernel
theorem dX9_readWordOf_34 : decode cX9_readWordOf 34 = .ok (.ifCond .ne 5, 3) := by decide +kernel
theorem dX9_readWordOf_37 : decode cX9_readWordOf 37 = .ok (.iconst 0, 1) := by decide +kernel
theorem dX9_readWordOf_38 : decode cX9_readWordOf 38 = .ok (.ireturn, 1) := by decide +kernel
theorem dX9_readWordOf_39 : decode cX9_readWordOf 39 = .ok (.aload_n 0, 1) := by decide +kernel
theorem dX9_readWordOf_40 : decode cX9_readWordOf 40 = .ok (.getfield 15, 3) := by decide +kernel
theorem dX9_readWordOf_43 : decode cX9_readWordOf 43 = .ok (.iconst 1, 1) := by decide +kernel
theorem dX9_readWordOf_44 : decode cX9_readWordOf 44 = .ok (.iload_n 1, 1) := by decide +kernel
theorem dX9_readWordOf_45 : decode cX9_readWordOf 45 = .ok (.aload_n 0, 1) := by decide +kernel
theorem dX9_readWordOf_46 : decode cX9_readWordOf 46 = .ok (.getfield 74, 3) := by decide +kernel
theorem dX9_readWordOf_49 : decode cX9_readWordOf 49 = .ok (.iadd, 1) := by decide +kernel
theorem dX9_readWordOf_50 : decode cX9_readWordOf 50 = .ok (.invokevirtual 103, 3) := by decide +kernel
theorem dX9_readWordOf_53 : decode cX9_readWordOf 53 = .ok (.pop, 1) := by decide +kernel
theorem dX9_readWordOf_54 : decode cX9_readWordOf 54 = .ok (.aload_n 0, 1) := by decide +kernel
theorem dX9_readWordOf_55 : decode cX9_readWordOf 55 = .ok (.aload_n 0, 1) := by decide +kernel
theorem dX9_readWordOf_56 : decode cX9_readWordOf 56 = .ok (.getfield 55, 3) := by decide +kernel
theorem dX9_readWordOf_59 : decode cX9_readWordOf 59 = .ok (.iconst 1, 1) := by decide +kernel
theorem dX9_readWordOf_60 : decode cX9_readWordOf 60 = .ok (.iadd, 1) := by decide +kernel
theorem dX9_readWordOf_61 : decode cX9_readWordOf 61 = .ok (.invokevirtual 37, 3) := by decide +kernel
theorem dX9_readWordOf_64 : decode cX9_readWordOf 64 = .ok (.iconst 1, 1) := by decide +kernel
theorem dX9_readWordOf_65 : decode cX9_readWordOf 65 = .ok (.ireturn, 1) := by decide +kernel
theorem dX9_readOrderWord_0 : decode cX9_readOrderWord 0 = .ok (.aload_n 0, 1) := by decide +kernel
theorem dX9_readOrderWord_1 : decode cX9_readOrderWord 1 = .ok (.getfield 62, 3) := by decide +kernel
theorem dX9_readOrderWord_4 : decode cX9_readOrderWord 4 = .ok (.lookupswitch 106 #[(302, 98), (317, 81), (324, 60), (326, 67), (327, 74), (328, 89)], 60) := by decide +kernel
theorem dX9_readOrderWord_64 : decode cX9_readOrderWord 64 = .ok (.aload_n 0, 1) := by decide +kernel
theorem dX9_readOrderWord_65 : decode cX9_readOrderWord 65 = .ok (.iconst 0, 1) := by decide +kernel
theorem dX9_readOrderWord_66 : decode cX9_readOrderWord 66 = .ok (.iconst 0, 1) := by decide +kernel
theorem dX9_readOrderWord_67 : decode cX9_readOrderWord 67 = .ok (.invokevirtual 131, 3) := by decide +kernel
theorem dX9_readOrderWord_70 : decode cX9_readOrderWord 70 = .ok (.ireturn, 1) := by decide +kernel
theorem dX9_readOrderWord_71 : decode cX9_readOrderWord 71 = .ok (.aload_n 0, 1) := by decide +kernel
theorem dX9_readOrderWord_72 : decode cX9_readOrderWord 72 = .ok (.iconst 1, 1) := by decide +kernel
theorem dX9_readOrderWord_73 : decode cX9_readOrderWord 73 = .ok (.iconst 0, 1) := by decide +kernel
theorem dX9_readOrderWord_74 : decode cX9_readOrderWord 74 = .ok (.invokevirtual 131, 3) := by decide +kernel
theorem dX9_readOrderWord_77 : decode cX9_readOrderWord 77 = .ok (.ireturn, 1) := by decide +kernel
theorem dX9_readOrderWord_78 : decode cX9_readOrderWord 78 = .ok (.aload_n 0, 1) := by decide +kernel
theorem dX9_readOrderWord_79 : decode cX9_readOrderWord 79 = .ok (.iconst 2, 1) := by decide +kernel
theorem dX9_readOrderWord_80 : decode cX9_readOrderWord 80 = .ok (.iconst 0, 1) := by decide +kernel
theorem dX9_readOrderWord_81 : decode cX9_readOrderWord 81 = .ok (.invokevirtual 131, 3) := by decide +kernel
theorem dX9_readOrderWord_84 : decode cX9_readOrderWord 84 = .ok (.ireturn, 1) := by decide +kernel
theorem dX9_readOrderWord_85 : decode cX9_readOrderWord 85 = .ok (.aload_n 0, 1) := by decide +kernel
theorem dX9_readOrderWord_86 : decode cX9_readOrderWord 86 = .ok (.iconst 3, 1) := by decide +kernel
theorem dX9_readOrderWord_87 : decode cX9_readOrderWord 87 = .ok (.bipush 6, 2) := by decide +kernel
theorem dX9_readOrderWord_89 : decode cX9_readOrderWord 89 = .ok (.invokevirtual 131, 3) := by decide +kernel
theorem dX9_readOrderWord_92 : decode cX9_readOrderWord 92 = .ok (.ireturn, 1) := by decide +kernel
theorem dX9_readOrderWord_93 : decode cX9_readOrderWord 93 = .ok (.aload_n 0, 1) := by decide +kernel
theorem dX9_readOrderWord_94 : decode cX9_readOrderWord 94 = .ok (.bipush 9, 2) := by decide +kernel
theorem dX9_readOrderWord_96 : decode cX9_readOrderWord 96 = .ok (.bipush 6, 2) := by decide +kernel
theorem dX9_readOrderWord_98 : decode cX9_readOrderWord 98 = .ok (.invokevirtual 131, 3) := by decide +kernel
theorem dX9_readOrderWord_101 : decode cX9_readOrderWord 101 = .ok (.ireturn, 1) := by decide +kernel
theorem dX9_readOrderWord_102 : decode cX9_readOrderWord 102 = .ok (.aload_n 0, 1) := by decide +kernel
theorem dX9_readOrderWord_103 : decode cX9_readOrderWord 103 = .ok (.bipush 15, 2) := by decide +kernel
theorem dX9_readOrderWord_105 : decode cX9_readOrderWord 105 = .ok (.iconst 4, 1) := by decide +kernel
theorem dX9_readOrderWord_106 : decode cX9_readOrderWord 106 = .ok (.invokevirtual 131, 3) := by decide +kernel
theorem dX9_readOrderWord_109 : decode cX9_readOrderWord 109 = .ok (.ireturn, 1) := by decide +kernel
theorem dX9_readOrderWord_110 : decode cX9_readOrderWord 110 = .ok (.iconst 0, 1) := by decide +kernel
theorem dX9_readOrderWord_111 : decode cX9_readOrderWord 111 = .ok (.ireturn, 1) := by decide +kernel
theorem dX9_readLawWord_0 : decode cX9_readLawWord 0 = .ok (.aload_n 0, 1) := by decide +kernel
theorem dX9_readLawWord_1 : decode cX9_readLawWord 1 = .ok (.getfield 62, 3) := by decide +kernel
theorem dX9_readLawWord_4 : decode cX9_readLawWord 4 = .ok (.sipush 316, 3) := by decide +kernel
theorem dX9_readLawWord_7 : decode cX9_readLawWord 7 = .ok (.sipush 325, 3) := by decide +kernel
theorem dX9_readLawWord_10 : decode cX9_readLawWord 10 = .ok (.invokestatic 77, 3) := by decide +kernel
theorem dX9_readLawWord_13 : decode cX9_readLawWord 13 = .ok (.ifCond .ne 5, 3) := by decide +kernel
theorem dX9_readLawWord_16 : decode cX9_readLawWord 16 = .ok (.iconst 0, 1) := by decide +kernel
theorem dX9_readLawWord_17 : decode cX9_readLawWord 17 = .ok (.ireturn, 1) := by decide +kernel
theorem dX9_readLawWord_18 : decode cX9_readLawWord 18 = .ok (.aload_n 0, 1) := by decide +kernel
theorem dX9_readLawWord_19 : decode cX9_readLawWord 19 = .ok (.getfield 15, 3) := by decide +kernel
theorem dX9_readLawWord_22 : decode cX9_readLawWord 22 = .ok (.iconst 1, 1) := by decide +kernel
theorem dX9_readLawWord_23 : decode cX9_readLawWord 23 = .ok (.aload_n 0, 1) := by decide +kernel
theorem dX9_readLawWord_24 : decode cX9_readLawWord 24 = .ok (.getfield 62, 3) := by decide +kernel
theorem dX9_readLawWord_27 : decode cX9_readLawWord 27 = .ok (.sipush 316, 3) := by decide +kernel
theorem dX9_readLawWord_30 : decode cX9_readLawWord 30 = .ok (.isub, 1) := by decide +kernel
theorem dX9_readLawWord_31 : decode cX9_readLawWord 31 = .ok (.invokevirtual 103, 3) := by decide +kernel
theorem dX9_readLawWord_34 : decode cX9_readLawWord 34 = .ok (.pop, 1) := by decide +kernel
theorem dX9_readLawWord_35 : decode cX9_readLawWord 35 = .ok (.aload_n 0, 1) := by decide +kernel
theorem dX9_readLawWord_36 : decode cX9_readLawWord 36 = .ok (.aload_n 0, 1) := by decide +kernel
theorem dX9_readLawWord_37 : decode cX9_readLawWord 37 = .ok (.getfield 55, 3) := by decide +kernel
theorem dX9_readLawWord_40 : decode cX9_readLawWord 40 = .ok (.iconst 1, 1) := by decide +kernel
theorem dX9_readLawWord_41 : decode cX9_readLawWord 41 = .ok (.iadd, 1) := by decide +kernel
theorem dX9_readLawWord_42 : decode cX9_readLawWord 42 = .ok (.invokevirtual 37, 3) := by decide +kernel
theorem dX9_readLawWord_45 : decode cX9_readLawWord 45 = .ok (.iconst 1, 1) := by decide +kernel
theorem dX9_readLawWord_46 : decode cX9_readLawWord 46 = .ok (.ireturn, 1) := by decide +kernel
theorem dX9_readPart_0 : decode cX9_readPart 0 = .ok (.aload_n 0, 1) := by decide +kernel
theorem dX9_readPart_1 : decode cX9_readPart 1 = .ok (.getfield 62, 3) := by decide +kernel
theorem dX9_readPart_4 : decode cX9_readPart 4 = .ok (.bipush 91, 2) := by decide +kernel
theorem dX9_readPart_6 : decode cX9_readPart 6 = .ok (.if_icmp .ne 11, 3) := by decide +kernel
theorem dX9_readPart_9 : decode cX9_readPart 9 = .ok (.aload_n 0, 1) := by decide +kernel
theorem dX9_readPart_10 : decode cX9_readPart 10 = .ok (.bipush 91, 2) := by decide +kernel
theorem dX9_readPart_12 : decode cX9_readPart 12 = .ok (.iload_n 1, 1) := by decide +kernel
theorem dX9_readPart_13 : decode cX9_readPart 13 = .ok (.invokevirtual 113, 3) := by decide +kernel
theorem dX9_readPart_16 : decode cX9_readPart 16 = .ok (.ireturn, 1) := by decide +kernel
theorem dX9_readPart_17 : decode cX9_readPart 17 = .ok (.aload_n 0, 1) := by decide +kernel
theorem dX9_readPart_18 : decode cX9_readPart 18 = .ok (.getfield 33, 3) := by decide +kernel
theorem dX9_readPart_21 : decode cX9_readPart 21 = .ok (.bipush 50, 2) := by decide +kernel
theorem dX9_readPart_23 : decode cX9_readPart 23 = .ok (.if_icmp .lt 5, 3) := by decide +kernel
theorem dX9_readPart_26 : decode cX9_readPart 26 = .ok (.iconst 0, 1) := by decide +kernel
theorem dX9_readPart_27 : decode cX9_readPart 27 = .ok (.ireturn, 1) := by decide +kernel
theorem dX9_readPart_28 : decode cX9_readPart 28 = .ok (.aload_n 0, 1) := by decide +kernel
theorem dX9_readPart_29 : decode cX9_readPart 29 = .ok (.dup, 1) := by decide +kernel
theorem dX9_readPart_30 : decode cX9_readPart 30 = .ok (.getfield 33, 3) := by decide +kernel
theorem dX9_readPart_33 : decode cX9_readPart 33 = .ok (.iconst 1, 1) := by decide +kernel
theorem dX9_readPart_34 : decode cX9_readPart 34 = .ok (.iadd, 1) := by decide +kernel
theorem dX9_readPart_35 : decode cX9_readPart 35 = .ok (.putfield 33, 3) := by decide +kernel
theorem dX9_readPart_38 : decode cX9_readPart 38 = .ok (.aload_n 0, 1) := by decide +kernel
theorem dX9_readPart_39 : decode cX9_readPart 39 = .ok (.iconst 0, 1) := by decide +kernel
theorem dX9_readPart_40 : decode cX9_readPart 40 = .ok (.sipush 1000, 3) := by decide +kernel
theorem dX9_readPart_43 : decode cX9_readPart 43 = .ok (.invokevirtual 90, 3) := by decide +kernel
theorem dX9_readPart_46 : decode cX9_readPart 46 = .ok (.ifCond .eq 28, 3) := by decide +kernel
theorem dX9_readPart_49 : decode cX9_readPart 49 = .ok (.aload_n 0, 1) := by decide +kernel
theorem dX9_readPart_50 : decode cX9_readPart 50 = .ok (.getfield 15, 3) := by decide +kernel
theorem dX9_readPart_53 : decode cX9_readPart 53 = .ok (.iconst 0, 1) := by decide +kernel
theorem dX9_readPart_54 : decode cX9_readPart 54 = .ok (.aload_n 0, 1) := by decide +kernel
theorem dX9_readPart_55 : decode cX9_readPart 55 = .ok (.getfield 74, 3) := by decide +kernel
theorem dX9_readPart_58 : decode cX9_readPart 58 = .ok (.invokevirtual 103, 3) := by decide +kernel
theorem dX9_readPart_61 : decode cX9_readPart 61 = .ok (.pop, 1) := by decide +kernel
theorem dX9_readPart_62 : decode cX9_readPart 62 = .ok (.aload_n 0, 1) := by decide +kernel
theorem dX9_readPart_63 : decode cX9_readPart 63 = .ok (.aload_n 0, 1) := by decide +kernel
theorem dX9_readPart_64 : decode cX9_readPart 64 = .ok (.getfield 55, 3) := by decide +kernel
theorem dX9_readPart_67 : decode cX9_readPart 67 = .ok (.iconst 1, 1) := by decide +kernel
theorem dX9_readPart_68 : decode cX9_readPart 68 = .ok (.iadd, 1) := by decide +kernel
theorem dX9_readPart_69 : decode cX9_readPart 69 = .ok (.invokevirtual 37, 3) := by decide +kernel
theorem dX9_readPart_72 : decode cX9_readPart 72 = .ok (.iconst 1, 1) := by decide +kernel
theorem dX9_readPart_73 : decode cX9_readPart 73 = .ok (.ireturn, 1) := by decide +kernel
theorem dX9_readPart_74 : decode cX9_readPart 74 = .ok (.aload_n 0, 1) := by decide +kernel
theorem dX9_readPart_75 : decode cX9_readPart 75 = .ok (.getfield 29, 3) := by decide +kernel
theorem dX9_readPart_78 : decode cX9_readPart 78 = .ok (.ifCond .eq 10, 3) := by decide +kernel
theorem dX9_readPart_81 : decode cX9_readPart 81 = .ok (.aload_n 0, 1) := by decide +kernel
theorem dX9_readPart_82 : decode cX9_readPart 82 = .ok (.invokevirtual 125, 3) := by decide +kernel
theorem dX9_readPart_85 : decode cX9_readPart 85 = .ok (.goto 7, 3) := by decide +kernel
theorem dX9_readPart_88 : decode cX9_readPart 88 = .ok (.aload_n 0, 1) := by decide +kernel
theorem dX9_readPart_89 : decode cX9_readPart 89 = .ok (.invokevirtual 128, 3) := by decide +kernel
theorem dX9_readPart_92 : decode cX9_readPart 92 = .ok (.ireturn, 1) := by decide +kernel
theorem dX9_readTerm_0 : decode cX9_readTerm 0 = .ok (.aload_n 0, 1) := by decide +kernel
theorem dX9_readTerm_1 : decode cX9_readTerm 1 = .ok (.iload_n 1, 1) := by decide +kernel
theorem dX9_readTerm_2 : decode cX9_readTerm 2 = .ok (.invokevirtual 122, 3) := by decide +kernel
theorem dX9_readTerm_5 : decode cX9_readTerm 5 = .ok (.istore_n 2, 1) := by decide +kernel
theorem dX9_readTerm_6 : decode cX9_readTerm 6 = .ok (.iconst 0, 1) := by decide +kernel
theorem dX9_readTerm_7 : decode cX9_readTerm 7 = .ok (.istore_n 3, 1) := by decide +kernel
theorem dX9_readTerm_8 : decode cX9_readTerm 8 = .ok (.iload_n 2, 1) := by decide +kernel
theorem dX9_readTerm_9 : decode cX9_readTerm 9 = .ok (.ifCond .eq 100, 3) := by decide +kernel
theorem dX9_readTerm_12 : decode cX9_readTerm 12 = .ok (.iload_n 3, 1) := by decide +kernel
theorem dX9_readTerm_13 : decode cX9_readTerm 13 = .ok (.sipush 400, 3) := by decide +kernel
theorem dX9_readTerm_16 : decode cX9_readTerm 16 = .ok (.if_icmp .ge 93, 3) := by decide +kernel
theorem dX9_readTerm_19 : decode cX9_readTerm 19 = .ok (.aload_n 0, 1) := by decide +kernel
theorem dX9_readTerm_20 : decode cX9_readTerm 20 = .ok (.getfield 62, 3) := by decide +kernel
theorem dX9_readTerm_23 : decode cX9_readTerm 23 = .ok (.bipush 42, 2) := by decide +kernel
theorem dX9_readTerm_25 : decode cX9_readTerm 25 = .ok (.if_icmp .eq 21, 3) := by decide +kernel
theorem dX9_readTerm_28 : decode cX9_readTerm 28 = .ok (.aload_n 0, 1) := by decide +kernel
theorem dX9_readTerm_29 : decode cX9_readTerm 29 = .ok (.getfield 62, 3) := by decide +kernel
theorem dX9_readTerm_32 : decode cX9_readTerm 32 = .ok (.bipush 47, 2) := by decide +kernel
theorem dX9_readTerm_34 : decode cX9_readTerm 34 = .ok (.if_icmp .eq 12, 3) := by decide +kernel
theorem dX9_readTerm_37 : decode cX9_readTerm 37 = .ok (.aload_n 0, 1) := by decide +kernel
theorem dX9_readTerm_38 : decode cX9_readTerm 38 = .ok (.getfield 62, 3) := by decide +kernel
theorem dX9_readTerm_41 : decode cX9_readTerm 41 = .ok (.bipush 37, 2) := by decide +kernel
theorem dX9_readTerm_43 : decode cX9_readTerm 43 = .ok (.if_icmp .ne 66, 3) := by decide +kernel
theorem dX9_readTerm_46 : decode cX9_readTerm 46 = .ok (.aload_n 0, 1) := by decide +kernel
theorem dX9_readTerm_47 : decode cX9_readTerm 47 = .ok (.getfield 62, 3) := by decide +kernel
theorem dX9_readTerm_50 : decode cX9_readTerm 50 = .ok (.bipush 42, 2) := by decide +kernel
theorem dX9_readTerm_52 : decode cX9_readTerm 52 = .ok (.if_icmp .ne 7, 3) := by decide +kernel
theorem dX9_readTerm_55 : decode cX9_readTerm 55 = .ok (.iconst 4, 1) := by decide +kernel
theorem dX9_readTerm_56 : decode cX9_readTerm 56 = .ok (.goto 18, 3) := by decide +kernel
theorem dX9_readTerm_59 : decode cX9_readTerm 59 = .ok (.aload_n 0, 1) := by decide +kernel
theorem dX9_readTerm_60 : decode cX9_readTerm 60 = .ok (.getfield 62, 3) := by decide +kernel
theorem dX9_readTerm_63 : decode cX9_readTerm 63 = .ok (.bipush 47, 2) := by decide +kernel
theorem dX9_readTerm_65 : decode cX9_readTerm 65 = .ok (.if_icmp .ne 7, 3) := by decide +kernel
theorem dX9_readTerm_68 : decode cX9_readTerm 68 = .ok (.iconst 5, 1) := by decide +kernel
theorem dX9_readTerm_69 : decode cX9_readTerm 69 = .ok (.goto 5, 3) := by decide +kernel
theorem dX9_readTerm_72 : decode cX9_readTerm 72 = .ok (.bipush 6, 2) := by decide +kernel
theorem dX9_readTerm_74 : decode cX9_readTerm 74 = .ok (.istore 4, 2) := by decide +kernel
theorem dX9_readTerm_76 : decode cX9_readTerm 76 = .ok (.aload_n 0, 1) := by decide +kernel
theorem dX9_readTerm_77 : decode cX9_readTerm 77 = .ok (.aload_n 0, 1) := by decide +kernel
theorem dX9_readTerm_78 : decode cX9_readTerm 78 = .ok (.getfield 55, 3) := by decide +kernel
theorem dX9_readTerm_81 : decode cX9_readTerm 81 = .ok (.iconst 1, 1) := by decide +kernel
theorem dX9_readTerm_82 : decode cX9_readTerm 82 = .ok (.iadd, 1) := by decide +kernel
theorem dX9_readTerm_83 : decode cX9_readTerm 83 = .ok (.invokevirtual 37, 3) := by decide +kernel
theorem dX9_readTerm_86 : decode cX9_readTerm 86 = .ok (.aload_n 0, 1) := by decide +kernel
theorem dX9_readTerm_87 : decode cX9_readTerm 87 = .ok (.iload_n 1, 1) := by decide +kernel
theorem dX9_readTerm_88 : decode cX9_readTerm 88 = .ok (.invokevirtual 122, 3) := by decide +kernel
theorem dX9_readTerm_91 : decode cX9_readTerm 91 = .ok (.istore_n 2, 1) := by decide +kernel
theorem dX9_readTerm_92 : decode cX9_readTerm 92 = .ok (.aload_n 0, 1) := by decide +kernel
theorem dX9_readTerm_93 : decode cX9_readTerm 93 = .ok (.getfield 15, 3) := by decide +kernel
theorem dX9_readTerm_96 : decode cX9_readTerm 96 = .ok (.iload 4, 2) := by decide +kernel
theorem dX9_readTerm_98 : decode cX9_readTerm 98 = .ok (.iconst 0, 1) := by decide +kernel
theorem dX9_readTerm_99 : decode cX9_readTerm 99 = .ok (.invokevirtual 103, 3) := by decide +kernel
theorem dX9_readTerm_102 : decode cX9_readTerm 102 = .ok (.pop, 1) := by decide +kernel
theorem dX9_readTerm_103 : decode cX9_readTerm 103 = .ok (.iinc 3 1, 3) := by decide +kernel
theorem dX9_readTerm_106 : decode cX9_readTerm 106 = .ok (.goto (-98), 3) := by decide +kernel
theorem dX9_readTerm_109 : decode cX9_readTerm 109 = .ok (.iload_n 2, 1) := by decide +kernel
theorem dX9_readTerm_110 : decode cX9_readTerm 110 = .ok (.ireturn, 1) := by decide +kernel
theorem dX9_readSum_0 : decode cX9_readSum 0 = .ok (.aload_n 0, 1) := by decide +kernel
theorem dX9_readSum_1 : decode cX9_readSum 1 = .ok (.iload_n 1, 1) := by decide +kernel
theorem dX9_readSum_2 : decode cX9_readSum 2 = .ok (.invokevirtual 119, 3) := by decide +kernel
theorem dX9_readSum_5 : decode cX9_readSum 5 = .ok (.istore_n 2, 1) := by decide +kernel
theorem dX9_readSum_6 : decode cX9_readSum 6 = .ok (.iconst 0, 1) := by decide +kernel
theorem dX9_readSum_7 : decode cX9_readSum 7 = .ok (.istore_n 3, 1) := by decide +kernel
theorem dX9_readSum_8 : decode cX9_readSum 8 = .ok (.iload_n 2, 1) := by decide +kernel
theorem dX9_readSum_9 : decode cX9_readSum 9 = .ok (.ifCond .eq 77, 3) := by decide +kernel
theorem dX9_readSum_12 : decode cX9_readSum 12 = .ok (.iload_n 3, 1) := by decide +kernel
theorem dX9_readSum_13 : decode cX9_readSum 13 = .ok (.sipush 400, 3) := by decide +kernel
theorem dX9_readSum_16 : decode cX9_readSum 16 = .ok (.if_icmp .ge 70, 3) := by decide +kernel
theorem dX9_readSum_19 : decode cX9_readSum 19 = .ok (.aload_n 0, 1) := by decide +kernel
theorem dX9_readSum_20 : decode cX9_readSum 20 = .ok (.getfield 62, 3) := by decide +kernel
theorem dX9_readSum_23 : decode cX9_readSum 23 = .ok (.bipush 43, 2) := by decide +kernel
theorem dX9_readSum_25 : decode cX9_readSum 25 = .ok (.if_icmp .eq 12, 3) := by decide +kernel
theorem dX9_readSum_28 : decode cX9_readSum 28 = .ok (.aload_n 0, 1) := by decide +kernel
theorem dX9_readSum_29 : decode cX9_readSum 29 = .ok (.getfield 62, 3) := by decide +kernel
theorem dX9_readSum_32 : decode cX9_readSum 32 = .ok (.bipush 45, 2) := by decide +kernel
theorem dX9_readSum_34 : decode cX9_readSum 34 = .ok (.if_icmp .ne 52, 3) := by decide +kernel
theorem dX9_readSum_37 : decode cX9_readSum 37 = .ok (.aload_n 0, 1) := by decide +kernel
theorem dX9_readSum_38 : decode cX9_readSum 38 = .ok (.getfield 62, 3) := by decide +kernel
theorem dX9_readSum_41 : decode cX9_readSum 41 = .ok (.bipush 43, 2) := by decide +kernel
theorem dX9_readSum_43 : decode cX9_readSum 43 = .ok (.if_icmp .ne 7, 3) := by decide +kernel
theorem dX9_readSum_46 : decode cX9_readSum 46 = .ok (.iconst 2, 1) := by decide +kernel
theorem dX9_readSum_47 : decode cX9_readSum 47 = .ok (.goto 4, 3) := by decide +kernel
theorem dX9_readSum_50 : decode cX9_readSum 50 = .ok (.iconst 3, 1) := by decide +kernel
theorem dX9_readSum_51 : decode cX9_readSum 51 = .ok (.istore 4, 2) := by decide +kernel
theorem dX9_readSum_53 : decode cX9_readSum 53 = .ok (.aload_n 0, 1) := by decide +kernel
theorem dX9_readSum_54 : decode cX9_readSum 54 = .ok (.aload_n 0, 1) := by decide +kernel
theorem dX9_readSum_55 : decode cX9_readSum 55 = .ok (.getfield 55, 3) := by decide +kernel
theorem dX9_readSum_58 : decode cX9_readSum 58 = .ok (.iconst 1, 1) := by decide +kernel
theorem dX9_readSum_59 : decode cX9_readSum 59 = .ok (.iadd, 1) := by decide +kernel
theorem dX9_readSum_60 : decode cX9_readSum 60 = .ok (.invokevirtual 37, 3) := by decide +kernel
theorem dX9_readSum_63 : decode cX9_readSum 63 = .ok (.aload_n 0, 1) := by decide +kernel
theorem dX9_readSum_64 : decode cX9_readSum 64 = .ok (.iload_n 1, 1) := by decide +kernel
theorem dX9_readSum_65 : decode cX9_readSum 65 = .ok (.invokevirtual 119, 3) := by decide +kernel
theorem dX9_readSum_68 : decode cX9_readSum 68 = .ok (.istore_n 2, 1) := by decide +kernel
theorem dX9_readSum_69 : decode cX9_readSum 69 = .ok (.aload_n 0, 1) := by decide +kernel
theorem dX9_readSum_70 : decode cX9_readSum 70 = .ok (.getfield 15, 3) := by decide +kernel
theorem dX9_readSum_73 : decode cX9_readSum 73 = .ok (.iload 4, 2) := by decide +kernel
theorem dX9_readSum_75 : decode cX9_readSum 75 = .ok (.iconst 0, 1) := by decide +kernel
theorem dX9_readSum_76 : decode cX9_readSum 76 = .ok (.invokevirtual 103, 3) := by decide +kernel
theorem dX9_readSum_79 : decode cX9_readSum 79 = .ok (.pop, 1) := by decide +kernel
theorem dX9_readSum_80 : decode cX9_readSum 80 = .ok (.iinc 3 1, 3) := by decide +kernel
theorem dX9_readSum_83 : decode cX9_readSum 83 = .ok (.goto (-75), 3) := by decide +kernel
theorem dX9_readSum_86 : decode cX9_readSum 86 = .ok (.iload_n 2, 1) := by decide +kernel
theorem dX9_readSum_87 : decode cX9_readSum 87 = .ok (.ireturn, 1) := by decide +kernel
theorem dX9_readComparison_0 : decode cX9_readComparison 0 = .ok (.aload_n 0, 1) := by decide +kernel
theorem dX9_readComparison_1 : decode cX9_readComparison 1 = .ok (.iload_n 1, 1) := by decide +kernel
theorem dX9_readComparison_2 : decode cX9_readComparison 2 = .ok (.invokevirtual 84, 3) := by decide +kernel
theorem dX9_readComparison_5 : decode cX9_readComparison 5 = .ok (.ifCond .ne 5, 3) := by decide +kernel
theorem dX9_readComparison_8 : decode cX9_readComparison 8 = .ok (.iconst 0, 1) := by decide +kernel
theorem dX9_readComparison_9 : decode cX9_readComparison 9 = .ok (.ireturn, 1) := by decide +kernel
theorem dX9_readComparison_10 : decode cX9_readComparison 10 = .ok (.aload_n 0, 1) := by decide +kernel
theorem dX9_readComparison_11 : decode cX9_readComparison 11 = .ok (.getfield 62, 3) := by decide +kernel
theorem dX9_readComparison_14 : decode cX9_readComparison 14 = .ok (.istore_n 2, 1) := by decide +kernel
theorem dX9_readComparison_15 : decode cX9_readComparison 15 = .ok (.iload_n 2, 1) := by decide +kernel
theorem dX9_readComparison_16 : decode cX9_readComparison 16 = .ok (.bipush 60, 2) := by decide +kernel
theorem dX9_readComparison_18 : decode cX9_readComparison 18 = .ok (.if_icmp .eq 17, 3) := by decide +kernel
theorem dX9_readComparison_21 : decode cX9_readComparison 21 = .ok (.iload_n 2, 1) := by decide +kernel
theorem dX9_readComparison_22 : decode cX9_readComparison 22 = .ok (.bipush 62, 2) := by decide +kernel
theorem dX9_readComparison_24 : decode cX9_readComparison 24 = .ok (.if_icmp .eq 11, 3) := by decide +kernel
theorem dX9_readComparison_27 : decode cX9_readComparison 27 = .ok (.iload_n 2, 1) := by decide +kernel
theorem dX9_readComparison_28 : decode cX9_readComparison 28 = .ok (.bipush 61, 2) := by decide +kernel
theorem dX9_readComparison_30 : decode cX9_readComparison 30 = .ok (.if_icmp .eq 5, 3) := by decide +kernel
theorem dX9_readComparison_33 : decode cX9_readComparison 33 = .ok (.iconst 0, 1) := by decide +kernel
theorem dX9_readComparison_34 : decode cX9_readComparison 34 = .ok (.ireturn, 1) := by decide +kernel
theorem dX9_readComparison_35 : decode cX9_readComparison 35 = .ok (.aload_n 0, 1) := by decide +kernel
theorem dX9_readComparison_36 : decode cX9_readComparison 36 = .ok (.aload_n 0, 1) := by decide +kernel
theorem dX9_readComparison_37 : decode cX9_readComparison 37 = .ok (.getfield 55, 3) := by decide +kernel
theorem dX9_readComparison_40 : decode cX9_readComparison 40 = .ok (.iconst 1, 1) := by decide +kernel
theorem dX9_readComparison_41 : decode cX9_readComparison 41 = .ok (.iadd, 1) := by decide +kernel
theorem dX9_readComparison_42 : decode cX9_readComparison 42 = .ok (.invokevirtual 37, 3) := by decide +kernel
theorem dX9_readComparison_45 : decode cX9_readComparison 45 = .ok (.aload_n 0, 1) := by decide +kernel
theorem dX9_readComparison_46 : decode cX9_readComparison 46 = .ok (.iload_n 1, 1) := by decide +kernel
theorem dX9_readComparison_47 : decode cX9_readComparison 47 = .ok (.invokevirtual 84, 3) := by decide +kernel
theorem dX9_readComparison_50 : decode cX9_readComparison 50 = .ok (.istore_n 3, 1) := by decide +kernel
theorem dX9_readComparison_51 : decode cX9_readComparison 51 = .ok (.aload_n 0, 1) := by decide +kernel
theorem dX9_readComparison_52 : decode cX9_readComparison 52 = .ok (.getfield 15, 3) := by decide +kernel
theorem dX9_readComparison_55 : decode cX9_readComparison 55 = .ok (.iload_n 2, 1) := by decide +kernel
theorem dX9_readComparison_56 : decode cX9_readComparison 56 = .ok (.bipush 60, 2) := by decide +kernel
theorem dX9_readComparison_58 : decode cX9_readComparison 58 = .ok (.if_icmp .ne 8, 3) := by decide +kernel
theorem dX9_readComparison_61 : decode cX9_readComparison 61 = .ok (.bipush 7, 2) := by decide +kernel
theorem dX9_readComparison_63 : decode cX9_readComparison 63 = .ok (.goto 16, 3) := by decide +kernel
theorem dX9_readComparison_66 : decode cX9_readComparison 66 = .ok (.iload_n 2, 1) := by decide +kernel
theorem dX9_readComparison_67 : decode cX9_readComparison 67 = .ok (.bipush 62, 2) := by decide +kernel
theorem dX9_readComparison_69 : decode cX9_readComparison 69 = .ok (.if_icmp .ne 8, 3) := by decide +kernel
theorem dX9_readComparison_72 : decode cX9_readComparison 72 = .ok (.bipush 8, 2) := by decide +kernel
theorem dX9_readComparison_74 : decode cX9_readComparison 74 = .ok (.goto 5, 3) := by decide +kernel
theorem dX9_readComparison_77 : decode cX9_readComparison 77 = .ok (.bipush 9, 2) := by decide +kernel
theorem dX9_readComparison_79 : decode cX9_readComparison 79 = .ok (.iconst 0, 1) := by decide +kernel
theorem dX9_readComparison_80 : decode cX9_readComparison 80 = .ok (.invokevirtual 103, 3) := by decide +kernel
theorem dX9_readComparison_83 : decode cX9_readComparison 83 = .ok (.pop, 1) := by decide +kernel
theorem dX9_readComparison_84 : decode cX9_readComparison 84 = .ok (.iload_n 3, 1) := by decide +kernel
theorem dX9_readComparison_85 : decode cX9_readComparison 85 = .ok (.ireturn, 1) := by decide +kernel
theorem dX9_readPlain_0 : decode cX9_readPlain 0 = .ok (.iconst 0, 1) := by decide +kernel
theorem dX9_readPlain_1 : decode cX9_readPlain 1 = .ok (.istore_n 2, 1) := by decide +kernel
theorem dX9_readPlain_2 : decode cX9_readPlain 2 = .ok (.iconst 0, 1) := by decide +kernel
theorem dX9_readPlain_3 : decode cX9_readPlain 3 = .ok (.istore_n 3, 1) := by decide +kernel
theorem dX9_readPlain_4 : decode cX9_readPlain 4 = .ok (.iload_n 3, 1) := by decide +kernel
theorem dX9_readPlain_5 : decode cX9_readPlain 5 = .ok (.sipush 400, 3) := by decide +kernel
theorem dX9_readPlain_8 : decode cX9_readPlain 8 = .ok (.if_icmp .ge 29, 3) := by decide +kernel
theorem dX9_readPlain_11 : decode cX9_readPlain 11 = .ok (.aload_n 0, 1) := by decide +kernel
theorem dX9_readPlain_12 : decode cX9_readPlain 12 = .ok (.sipush 315, 3) := by decide +kernel
theorem dX9_readPlain_15 : decode cX9_readPlain 15 = .ok (.invokevirtual 58, 3) := by decide +kernel
theorem dX9_readPlain_18 : decode cX9_readPlain 18 = .ok (.ifCond .eq 19, 3) := by decide +kernel
theorem dX9_readPlain_21 : decode cX9_readPlain 21 = .ok (.iload_n 2, 1) := by decide +kernel
theorem dX9_readPlain_22 : decode cX9_readPlain 22 = .ok (.ifCond .ne 7, 3) := by decide +kernel
theorem dX9_readPlain_25 : decode cX9_readPlain 25 = .ok (.iconst 1, 1) := by decide +kernel
theorem dX9_readPlain_26 : decode cX9_readPlain 26 = .ok (.goto 4, 3) := by decide +kernel
theorem dX9_readPlain_29 : decode cX9_readPlain 29 = .ok (.iconst 0, 1) := by decide +kernel
theorem dX9_readPlain_30 : decode cX9_readPlain 30 = .ok (.istore_n 2, 1) := by decide +kernel
theorem dX9_readPlain_31 : decode cX9_readPlain 31 = .ok (.iinc 3 1, 3) := by decide +kernel
theorem dX9_readPlain_34 : decode cX9_readPlain 34 = .ok (.goto (-30), 3) := by decide +kernel
theorem dX9_readPlain_37 : decode cX9_readPlain 37 = .ok (.aload_n 0, 1) := by decide +kernel
theorem dX9_readPlain_38 : decode cX9_readPlain 38 = .ok (.getfield 62, 3) := by decide +kernel
theorem dX9_readPlain_41 : decode cX9_readPlain 41 = .ok (.bipush 40, 2) := by decide +kernel
theorem dX9_readPlain_43 : decode cX9_readPlain 43 = .ok (.if_icmp .ne 13, 3) := by decide +kernel
theorem dX9_readPlain_46 : decode cX9_readPlain 46 = .ok (.aload_n 0, 1) := by decide +kernel
theorem dX9_readPlain_47 : decode cX9_readPlain 47 = .ok (.bipush 40, 2) := by decide +kernel
theorem dX9_readPlain_49 : decode cX9_readPlain 49 = .ok (.iload_n 1, 1) := by decide +kernel
theorem dX9_readPlain_50 : decode cX9_readPlain 50 = .ok (.invokevirtual 113, 3) := by decide +kernel
theorem dX9_readPlain_53 : decode cX9_readPlain 53 = .ok (.goto 8, 3) := by decide +kernel
theorem dX9_readPlain_56 : decode cX9_readPlain 56 = .ok (.aload_n 0, 1) := by decide +kernel
theorem dX9_readPlain_57 : decode cX9_readPlain 57 = .ok (.iload_n 1, 1) := by decide +kernel
theorem dX9_readPlain_58 : decode cX9_readPlain 58 = .ok (.invokevirtual 116, 3) := by decide +kernel
theorem dX9_readPlain_61 : decode cX9_readPlain 61 = .ok (.istore_n 3, 1) := by decide +kernel
theorem dX9_readPlain_62 : decode cX9_readPlain 62 = .ok (.iload_n 2, 1) := by decide +kernel
theorem dX9_readPlain_63 : decode cX9_readPlain 63 = .ok (.ifCond .eq 14, 3) := by decide +kernel
theorem dX9_readPlain_66 : decode cX9_readPlain 66 = .ok (.aload_n 0, 1) := by decide +kernel
theorem dX9_readPlain_67 : decode cX9_readPlain 67 = .ok (.getfield 15, 3) := by decide +kernel
theorem dX9_readPlain_70 : decode cX9_readPlain 70 = .ok (.bipush 10, 2) := by decide +kernel
theorem dX9_readPlain_72 : decode cX9_readPlain 72 = .ok (.iconst 0, 1) := by decide +kernel
theorem dX9_readPlain_73 : decode cX9_readPlain 73 = .ok (.invokevirtual 103, 3) := by decide +kernel
theorem dX9_readPlain_76 : decode cX9_readPlain 76 = .ok (.pop, 1) := by decide +kernel
theorem dX9_readPlain_77 : decode cX9_readPlain 77 = .ok (.iload_n 3, 1) := by decide +kernel
theorem dX9_readPlain_78 : decode cX9_readPlain 78 = .ok (.ireturn, 1) := by decide +kernel
theorem dX8_aim_0 : decode cX8_aim 0 = .ok (.iload_n 1, 1) := by decide +kernel
theorem dX8_aim_1 : decode cX8_aim 1 = .ok (.ifCond .lt 33, 3) := by decide +kernel
theorem dX8_aim_4 : decode cX8_aim 4 = .ok (.iload_n 1, 1) := by decide +kernel
theorem dX8_aim_5 : decode cX8_aim 5 = .ok (.aload_n 0, 1) := by decide +kernel
theorem dX8_aim_6 : decode cX8_aim 6 = .ok (.getfield 34, 3) := by decide +kernel
theorem dX8_aim_9 : decode cX8_aim 9 = .ok (.if_icmp .ge 25, 3) := by decide +kernel
theorem dX8_aim_12 : decode cX8_aim 12 = .ok (.aload_n 0, 1) := by decide +kernel
theorem dX8_aim_13 : decode cX8_aim 13 = .ok (.getfield 21, 3) := by decide +kernel
theorem dX8_aim_16 : decode cX8_aim 16 = .ok (.iload_n 1, 1) := by decide +kernel
theorem dX8_aim_17 : decode cX8_aim 17 = .ok (.aload_n 0, 1) := by decide +kernel
theorem dX8_aim_18 : decode cX8_aim 18 = .ok (.getfield 34, 3) := by decide +kernel
theorem dX8_aim_21 : decode cX8_aim 21 = .ok (.iconst 4, 1) := by decide +kernel
theorem dX8_aim_22 : decode cX8_aim 22 = .ok (.ishl, 1) := by decide +kernel
theorem dX8_aim_23 : decode cX8_aim 23 = .ok (.aload_n 0, 1) := by decide +kernel
theorem dX8_aim_24 : decode cX8_aim 24 = .ok (.getfield 21, 3) := by decide +kernel
theorem dX8_aim_27 : decode cX8_aim 27 = .ok (.iload_n 1, 1) := by decide +kernel
theorem dX8_aim_28 : decode cX8_aim 28 = .ok (.iaload, 1) := by decide +kernel
theorem dX8_aim_29 : decode cX8_aim 29 = .ok (.bipush 15, 2) := by decide +kernel
theorem dX8_aim_31 : decode cX8_aim 31 = .ok (.iand, 1) := by decide +kernel
theorem dX8_aim_32 : decode cX8_aim 32 = .ok (.ior, 1) := by decide +kernel
theorem dX8_aim_33 : decode cX8_aim 33 = .ok (.iastore, 1) := by decide +kernel
theorem dX8_aim_34 : decode cX8_aim 34 = .ok (.return_, 1) := by decide +kernel
theorem dX9_readBoth_0 : decode cX9_readBoth 0 = .ok (.aload_n 0, 1) := by decide +kernel
theorem dX9_readBoth_1 : decode cX9_readBoth 1 = .ok (.iload_n 1, 1) := by decide +kernel
theorem dX9_readBoth_2 : decode cX9_readBoth 2 = .ok (.invokevirtual 110, 3) := by decide +kernel
theorem dX9_readBoth_5 : decode cX9_readBoth 5 = .ok (.istore_n 2, 1) := by decide +kernel
theorem dX9_readBoth_6 : decode cX9_readBoth 6 = .ok (.iconst 0, 1) := by decide +kernel
theorem dX9_readBoth_7 : decode cX9_readBoth 7 = .ok (.istore_n 3, 1) := by decide +kernel
theorem dX9_readBoth_8 : decode cX9_readBoth 8 = .ok (.iload_n 2, 1) := by decide +kernel
theorem dX9_readBoth_9 : decode cX9_readBoth 9 = .ok (.ifCond .eq 53, 3) := by decide +kernel
theorem dX9_readBoth_12 : decode cX9_readBoth 12 = .ok (.iload_n 3, 1) := by decide +kernel
theorem dX9_readBoth_13 : decode cX9_readBoth 13 = .ok (.sipush 400, 3) := by decide +kernel
theorem dX9_readBoth_16 : decode cX9_readBoth 16 = .ok (.if_icmp .ge 46, 3) := by decide +kernel
theorem dX9_readBoth_19 : decode cX9_readBoth 19 = .ok (.aload_n 0, 1) := by decide +kernel
theorem dX9_readBoth_20 : decode cX9_readBoth 20 = .ok (.sipush 314, 3) := by decide +kernel
theorem dX9_readBoth_23 : decode cX9_readBoth 23 = .ok (.invokevirtual 58, 3) := by decide +kernel
theorem dX9_readBoth_26 : decode cX9_readBoth 26 = .ok (.ifCond .eq 36, 3) := by decide +kernel
theorem dX9_readBoth_29 : decode cX9_readBoth 29 = .ok (.aload_n 0, 1) := by decide +kernel
theorem dX9_readBoth_30 : decode cX9_readBoth 30 = .ok (.getfield 15, 3) := by decide +kernel
theorem dX9_readBoth_33 : decode cX9_readBoth 33 = .ok (.bipush 12, 2) := by decide +kernel
theorem dX9_readBoth_35 : decode cX9_readBoth 35 = .ok (.iconst 0, 1) := by decide +kernel
theorem dX9_readBoth_36 : decode cX9_readBoth 36 = .ok (.invokevirtual 103, 3) := by decide +kernel
theorem dX9_readBoth_39 : decode cX9_readBoth 39 = .ok (.istore 4, 2) := by decide +kernel
theorem dX9_readBoth_41 : decode cX9_readBoth 41 = .ok (.aload_n 0, 1) := by decide +kernel
theorem dX9_readBoth_42 : decode cX9_readBoth 42 = .ok (.iload_n 1, 1) := by decide +kernel
theorem dX9_readBoth_43 : decode cX9_readBoth 43 = .ok (.invokevirtual 110, 3) := by decide +kernel
theorem dX9_readBoth_46 : decode cX9_readBoth 46 = .ok (.istore_n 2, 1) := by decide +kernel
theorem dX9_readBoth_47 : decode cX9_readBoth 47 = .ok (.aload_n 0, 1) := by decide +kernel
theorem dX9_readBoth_48 : decode cX9_readBoth 48 = .ok (.getfield 15, 3) := by decide +kernel
theorem dX9_readBoth_51 : decode cX9_readBoth 51 = .ok (.iload 4, 2) := by decide +kernel
theorem dX9_readBoth_53 : decode cX9_readBoth 53 = .ok (.invokevirtual 107, 3) := by decide +kernel
theorem dX9_readBoth_56 : decode cX9_readBoth 56 = .ok (.iinc 3 1, 3) := by decide +kernel
theorem dX9_readBoth_59 : decode cX9_readBoth 59 = .ok (.goto (-51), 3) := by decide +kernel
theorem dX9_readBoth_62 : decode cX9_readBoth 62 = .ok (.iload_n 2, 1) := by decide +kernel
theorem dX9_readBoth_63 : decode cX9_readBoth 63 = .ok (.ireturn, 1) := by decide +kernel
theorem dX9_readTest_0 : decode cX9_readTest 0 = .ok (.aload_n 0, 1) := by decide +kernel
theorem dX9_readTest_1 : decode cX9_readTest 1 = .ok (.iload_n 1, 1) := by decide +kernel
theorem dX9_readTest_2 : decode cX9_readTest 2 = .ok (.invokevirtual 100, 3) := by decide +kernel
theorem dX9_readTest_5 : decode cX9_readTest 5 = .ok (.istore_n 2, 1) := by decide +kernel
theorem dX9_readTest_6 : decode cX9_readTest 6 = .ok (.iconst 0, 1) := by decide +kernel
theorem dX9_readTest_7 : decode cX9_readTest 7 = .ok (.istore_n 3, 1) := by decide +kernel
theorem dX9_readTest_8 : decode cX9_readTest 8 = .ok (.iload_n 2, 1) := by decide +kernel
theorem dX9_readTest_9 : decode cX9_readTest 9 = .ok (.ifCond .eq 53, 3) := by decide +kernel
theorem dX9_readTest_12 : decode cX9_readTest 12 = .ok (.iload_n 3, 1) := by decide +kernel
theorem dX9_readTest_13 : decode cX9_readTest 13 = .ok (.sipush 400, 3) := by decide +kernel
theorem dX9_readTest_16 : decode cX9_readTest 16 = .ok (.if_icmp .ge 46, 3) := by decide +kernel
theorem dX9_readTest_19 : decode cX9_readTest 19 = .ok (.aload_n 0, 1) := by decide +kernel
theorem dX9_readTest_20 : decode cX9_readTest 20 = .ok (.sipush 313, 3) := by decide +kernel
theorem dX9_readTest_23 : decode cX9_readTest 23 = .ok (.invokevirtual 58, 3) := by decide +kernel
theorem dX9_readTest_26 : decode cX9_readTest 26 = .ok (.ifCond .eq 36, 3) := by decide +kernel
theorem dX9_readTest_29 : decode cX9_readTest 29 = .ok (.aload_n 0, 1) := by decide +kernel
theorem dX9_readTest_30 : decode cX9_readTest 30 = .ok (.getfield 15, 3) := by decide +kernel
theorem dX9_readTest_33 : decode cX9_readTest 33 = .ok (.bipush 11, 2) := by decide +kernel
theorem dX9_readTest_35 : decode cX9_readTest 35 = .ok (.iconst 0, 1) := by decide +kernel
theorem dX9_readTest_36 : decode cX9_readTest 36 = .ok (.invokevirtual 103, 3) := by decide +kernel
theorem dX9_readTest_39 : decode cX9_readTest 39 = .ok (.istore 4, 2) := by decide +kernel
theorem dX9_readTest_41 : decode cX9_readTest 41 = .ok (.aload_n 0, 1) := by decide +kernel
theorem dX9_readTest_42 : decode cX9_readTest 42 = .ok (.iload_n 1, 1) := by decide +kernel
theorem dX9_readTest_43 : decode cX9_readTest 43 = .ok (.invokevirtual 100, 3) := by decide +kernel
theorem dX9_readTest_46 : decode cX9_readTest 46 = .ok (.istore_n 2, 1) := by decide +kernel
theorem dX9_readTest_47 : decode cX9_readTest 47 = .ok (.aload_n 0, 1) := by decide +kernel
theorem dX9_readTest_48 : decode cX9_readTest 48 = .ok (.getfield 15, 3) := by decide +kernel
theorem dX9_readTest_51 : decode cX9_readTest 51 = .ok (.iload 4, 2) := by decide +kernel
theorem dX9_readTest_53 : decode cX9_readTest 53 = .ok (.invokevirtual 107, 3) := by decide +kernel
theorem dX9_readTest_56 : decode cX9_readTest 56 = .ok (.iinc 3 1, 3) := by decide +kernel
theorem dX9_readTest_59 : decode cX9_readTest 59 = .ok (.goto (-51), 3) := by decide +kernel
theorem dX9_readTest_62 : decode cX9_readTest 62 = .ok (.iload_n 2, 1) := by decide +kernel
theorem dX9_readTest_63 : decode cX9_readTest 63 = .ok (.ireturn, 1) := by decide +kernel
theorem dX8_repeat_0 : decode cX8_repeat 0 = .ok (.aload_n 0, 1) := by decide +kernel
theorem dX8_repeat_1 : decode cX8_repeat 1 = .ok (.getfield 24, 3) := by decide +kernel
theorem dX8_repeat_4 : decode cX8_repeat 4 = .ok (.ifCond .le 15, 3) := by decide +kernel
theorem dX8_repeat_7 : decode cX8_repeat 7 = .ok (.aload_n 0, 1) := by decide +kernel
theorem dX8_repeat_8 : decode cX8_repeat 8 = .ok (.getfield 13, 3) := by decide +kernel
theorem dX8_repeat_11 : decode cX8_repeat 11 = .ok (.aload_n 0, 1) := by decide +kernel
theorem dX8_repeat_12 : decode cX8_repeat 12 = .ok (.getfield 24, 3) := by decide +kernel
theorem dX8_repeat_15 : decode cX8_repeat 15 = .ok (.iconst 1, 1) := by decide +kernel
theorem dX8_repeat_16 : decode cX8_repeat 16 = .ok (.isub, 1) := by decide +kernel
theorem dX8_repeat_17 : decode cX8_repeat 17 = .ok (.iload_n 1, 1) := by decide +kernel
theorem dX8_repeat_18 : decode cX8_repeat 18 = .ok (.iastore, 1) := by decide +kernel
theorem dX8_repeat_19 : decode cX8_repeat 19 = .ok (.return_, 1) := by decide +kernel
theorem dX9_readOrderHead_0 : decode cX9_readOrderHead 0 = .ok (.aload_n 0, 1) := by decide +kernel
theorem dX9_readOrderHead_1 : decode cX9_readOrderHead 1 = .ok (.getfield 62, 3) := by decide +kernel
theorem dX9_readOrderHead_4 : decode cX9_readOrderHead 4 = .ok (.istore_n 1, 1) := by decide +kernel
theorem dX9_readOrderHead_5 : decode cX9_readOrderHead 5 = .ok (.iload_n 1, 1) := by decide +kernel
theorem dX9_readOrderHead_6 : decode cX9_readOrderHead 6 = .ok (.sipush 304, 3) := by decide +kernel
theorem dX9_readOrderHead_9 : decode cX9_readOrderHead 9 = .ok (.sipush 307, 3) := by decide +kernel
theorem dX9_readOrderHead_12 : decode cX9_readOrderHead 12 = .ok (.invokestatic 77, 3) := by decide +kernel
theorem dX9_readOrderHead_15 : decode cX9_readOrderHead 15 = .ok (.ifCond .ne 5, 3) := by decide +kernel
theorem dX9_readOrderHead_18 : decode cX9_readOrderHead 18 = .ok (.iconst 0, 1) := by decide +kernel
theorem dX9_readOrderHead_19 : decode cX9_readOrderHead 19 = .ok (.ireturn, 1) := by decide +kernel
theorem dX9_readOrderHead_20 : decode cX9_readOrderHead 20 = .ok (.iload_n 1, 1) := by decide +kernel
theorem dX9_readOrderHead_21 : decode cX9_readOrderHead 21 = .ok (.sipush 307, 3) := by decide +kernel
theorem dX9_readOrderHead_24 : decode cX9_readOrderHead 24 = .ok (.if_icmp .ne 9, 3) := by decide +kernel
theorem dX9_readOrderHead_27 : decode cX9_readOrderHead 27 = .ok (.sipush 309, 3) := by decide +kernel
theorem dX9_readOrderHead_30 : decode cX9_readOrderHead 30 = .ok (.goto 19, 3) := by decide +kernel
theorem dX9_readOrderHead_33 : decode cX9_readOrderHead 33 = .ok (.iload_n 1, 1) := by decide +kernel
theorem dX9_readOrderHead_34 : decode cX9_readOrderHead 34 = .ok (.sipush 306, 3) := by decide +kernel
theorem dX9_readOrderHead_37 : decode cX9_readOrderHead 37 = .ok (.if_icmp .ne 9, 3) := by decide +kernel
theorem dX9_readOrderHead_40 : decode cX9_readOrderHead 40 = .ok (.sipush 310, 3) := by decide +kernel
theorem dX9_readOrderHead_43 : decode cX9_readOrderHead 43 = .ok (.goto 6, 3) := by decide +kernel
theorem dX9_readOrderHead_46 : decode cX9_readOrderHead 46 = .ok (.sipush 308, 3) := by decide +kernel
theorem dX9_readOrderHead_49 : decode cX9_readOrderHead 49 = .ok (.istore_n 2, 1) := by decide +kernel
theorem dX9_readOrderHead_50 : decode cX9_readOrderHead 50 = .ok (.aload_n 0, 1) := by decide +kernel
theorem dX9_readOrderHead_51 : decode cX9_readOrderHead 51 = .ok (.getfield 15, 3) := by decide +kernel
theorem dX9_readOrderHead_54 : decode cX9_readOrderHead 54 = .ok (.iload_n 1, 1) := by decide +kernel
theorem dX9_readOrderHead_55 : decode cX9_readOrderHead 55 = .ok (.invokevirtual 81, 3) := by decide +kernel
theorem dX9_readOrderHead_58 : decode cX9_readOrderHead 58 = .ok (.aload_n 0, 1) := by decide +kernel
theorem dX9_readOrderHead_59 : decode cX9_readOrderHead 59 = .ok (.aload_n 0, 1) := by decide +kernel
theorem dX9_readOrderHead_60 : decode cX9_readOrderHead 60 = .ok (.getfield 55, 3) := by decide +kernel
theorem dX9_readOrderHead_63 : decode cX9_readOrderHead 63 = .ok (.iconst 1, 1) := by decide +kernel
theorem dX9_readOrderHead_64 : decode cX9_readOrderHead 64 = .ok (.iadd, 1) := by decide +kernel
theorem dX9_readOrderHead_65 : decode cX9_readOrderHead 65 = .ok (.invokevirtual 37, 3) := by decide +kernel
theorem dX9_readOrderHead_68 : decode cX9_readOrderHead 68 = .ok (.aload_n 0, 1) := by decide +kernel
theorem dX9_readOrderHead_69 : decode cX9_readOrderHead 69 = .ok (.iconst 0, 1) := by decide +kernel
theorem dX9_readOrderHead_70 : decode cX9_readOrderHead 70 = .ok (.invokevirtual 84, 3) := by decide +kernel
theorem dX9_readOrderHead_73 : decode cX9_readOrderHead 73 = .ok (.ifCond .eq 11, 3) := by decide +kernel
theorem dX9_readOrderHead_76 : decode cX9_readOrderHead 76 = .ok (.aload_n 0, 1) := by decide +kernel
theorem dX9_readOrderHead_77 : decode cX9_readOrderHead 77 = .ok (.iload_n 2, 1) := by decide +kernel
theorem dX9_readOrderHead_78 : decode cX9_readOrderHead 78 = .ok (.invokevirtual 58, 3) := by decide +kernel
theorem dX9_readOrderHead_81 : decode cX9_readOrderHead 81 = .ok (.ifCond .ne 5, 3) := by decide +kernel
theorem dX9_readOrderHead_84 : decode cX9_readOrderHead 84 = .ok (.iconst 0, 1) := by decide +kernel
theorem dX9_readOrderHead_85 : decode cX9_readOrderHead 85 = .ok (.ireturn, 1) := by decide +kernel
theorem dX9_readOrderHead_86 : decode cX9_readOrderHead 86 = .ok (.aload_n 0, 1) := by decide +kernel
theorem dX9_readOrderHead_87 : decode cX9_readOrderHead 87 = .ok (.getfield 15, 3) := by decide +kernel
theorem dX9_readOrderHead_90 : decode cX9_readOrderHead 90 = .ok (.iconst 1, 1) := by decide +kernel
theorem dX9_readOrderHead_91 : decode cX9_readOrderHead 91 = .ok (.invokevirtual 87, 3) := by decide +kernel
theorem dX9_readOrderHead_94 : decode cX9_readOrderHead 94 = .ok (.aload_n 0, 1) := by decide +kernel
theorem dX9_readOrderHead_95 : decode cX9_readOrderHead 95 = .ok (.iconst 0, 1) := by decide +kernel
theorem dX9_readOrderHead_96 : decode cX9_readOrderHead 96 = .ok (.invokevirtual 84, 3) := by decide +kernel
theorem dX9_readOrderHead_99 : decode cX9_readOrderHead 99 = .ok (.ifCond .ne 5, 3) := by decide +kernel
theorem dX9_readOrderHead_102 : decode cX9_readOrderHead 102 = .ok (.iconst 0, 1) := by decide +kernel
theorem dX9_readOrderHead_103 : decode cX9_readOrderHead 103 = .ok (.ireturn, 1) := by decide +kernel
theorem dX9_readOrderHead_104 : decode cX9_readOrderHead 104 = .ok (.aload_n 0, 1) := by decide +kernel
theorem dX9_readOrderHead_105 : decode cX9_readOrderHead 105 = .ok (.sipush 311, 3) := by decide +kernel
theorem dX9_readOrderHead_108 : decode cX9_readOrderHead 108 = .ok (.invokevirtual 58, 3) := by decide +kernel
theorem dX9_readOrderHead_111 : decode cX9_readOrderHead 111 = .ok (.ifCond .ne 5, 3) := by decide +kernel
theorem dX9_readOrderHead_114 : decode cX9_readOrderHead 114 = .ok (.iconst 1, 1) := by decide +kernel
theorem dX9_readOrderHead_115 : decode cX9_readOrderHead 115 = .ok (.ireturn, 1) := by decide +kernel
theorem dX9_readOrderHead_116 : decode cX9_readOrderHead 116 = .ok (.aload_n 0, 1) := by decide +kernel
theorem dX9_readOrderHead_117 : decode cX9_readOrderHead 117 = .ok (.iconst 1, 1) := by decide +kernel
theorem dX9_readOrderHead_118 : decode cX9_readOrderHead 118 = .ok (.bipush 20, 2) := by decide +kernel
theorem dX9_readOrderHead_120 : decode cX9_readOrderHead 120 = .ok (.invokevirtual 90, 3) := by decide +kernel
theorem dX9_readOrderHead_123 : decode cX9_readOrderHead 123 = .ok (.ifCond .ne 5, 3) := by decide +kernel
theorem dX9_readOrderHead_126 : decode cX9_readOrderHead 126 = .ok (.iconst 0, 1) := by decide +kernel
theorem dX9_readOrderHead_127 : decode cX9_readOrderHead 127 = .ok (.ireturn, 1) := by decide +kernel
theorem dX9_readOrderHead_128 : decode cX9_readOrderHead 128 = .ok (.aload_n 0, 1) := by decide +kernel
theorem dX9_readOrderHead_129 : decode cX9_readOrderHead 129 = .ok (.getfield 15, 3) := by decide +kernel
theorem dX9_readOrderHead_132 : decode cX9_readOrderHead 132 = .ok (.aload_n 0, 1) := by decide +kernel
theorem dX9_readOrderHead_133 : decode cX9_readOrderHead 133 = .ok (.getfield 74, 3) := by decide +kernel
theorem dX9_readOrderHead_136 : decode cX9_readOrderHead 136 = .ok (.invokevirtual 94, 3) := by decide +kernel
theorem dX9_readOrderHead_139 : decode cX9_readOrderHead 139 = .ok (.aload_n 0, 1) := by decide +kernel
theorem dX9_readOrderHead_140 : decode cX9_readOrderHead 140 = .ok (.aload_n 0, 1) := by decide +kernel
theorem dX9_readOrderHead_141 : decode cX9_readOrderHead 141 = .ok (.getfield 55, 3) := by decide +kernel
theorem dX9_readOrderHead_144 : decode cX9_readOrderHead 144 = .ok (.iconst 1, 1) := by decide +kernel
theorem dX9_readOrderHead_145 : decode cX9_readOrderHead 145 = .ok (.iadd, 1) := by decide +kernel
theorem dX9_readOrderHead_146 : decode cX9_readOrderHead 146 = .ok (.invokevirtual 37, 3) := by decide +kernel
theorem dX9_readOrderHead_149 : decode cX9_readOrderHead 149 = .ok (.iconst 1, 1) := by decide +kernel
theorem dX9_readOrderHead_150 : decode cX9_readOrderHead 150 = .ok (.ireturn, 1) := by decide +kernel
theorem dX9_readLawHead_0 : decode cX9_readLawHead 0 = .ok (.aload_n 0, 1) := by decide +kernel
theorem dX9_readLawHead_1 : decode cX9_readLawHead 1 = .ok (.getfield 62, 3) := by decide +kernel
theorem dX9_readLawHead_4 : decode cX9_readLawHead 4 = .ok (.istore_n 1, 1) := by decide +kernel
theorem dX9_readLawHead_5 : decode cX9_readLawHead 5 = .ok (.iload_n 1, 1) := by decide +kernel
theorem dX9_readLawHead_6 : decode cX9_readLawHead 6 = .ok (.sipush 300, 3) := by decide +kernel
theorem dX9_readLawHead_9 : decode cX9_readLawHead 9 = .ok (.sipush 303, 3) := by decide +kernel
theorem dX9_readLawHead_12 : decode cX9_readLawHead 12 = .ok (.invokestatic 77, 3) := by decide +kernel
theorem dX9_readLawHead_15 : decode cX9_readLawHead 15 = .ok (.ifCond .ne 5, 3) := by decide +kernel
theorem dX9_readLawHead_18 : decode cX9_readLawHead 18 = .ok (.iconst 0, 1) := by decide +kernel
theorem dX9_readLawHead_19 : decode cX9_readLawHead 19 = .ok (.ireturn, 1) := by decide +kernel
theorem dX9_readLawHead_20 : decode cX9_readLawHead 20 = .ok (.aload_n 0, 1) := by decide +kernel
theorem dX9_readLawHead_21 : decode cX9_readLawHead 21 = .ok (.getfield 15, 3) := by decide +kernel
theorem dX9_readLawHead_24 : decode cX9_readLawHead 24 = .ok (.iload_n 1, 1) := by decide +kernel
theorem dX9_readLawHead_25 : decode cX9_readLawHead 25 = .ok (.invokevirtual 81, 3) := by decide +kernel
theorem dX9_readLawHead_28 : decode cX9_readLawHead 28 = .ok (.aload_n 0, 1) := by decide +kernel
theorem dX9_readLawHead_29 : decode cX9_readLawHead 29 = .ok (.aload_n 0, 1) := by decide +kernel
theorem dX9_readLawHead_30 : decode cX9_readLawHead 30 = .ok (.getfield 55, 3) := by decide +kernel
theorem dX9_readLawHead_33 : decode cX9_readLawHead 33 = .ok (.iconst 1, 1) := by decide +kernel
theorem dX9_readLawHead_34 : decode cX9_readLawHead 34 = .ok (.iadd, 1) := by decide +kernel
theorem dX9_readLawHead_35 : decode cX9_readLawHead 35 = .ok (.invokevirtual 37, 3) := by decide +kernel
theorem dX9_readLawHead_38 : decode cX9_readLawHead 38 = .ok (.iload_n 1, 1) := by decide +kernel
theorem dX9_readLawHead_39 : decode cX9_readLawHead 39 = .ok (.sipush 303, 3) := by decide +kernel
theorem dX9_readLawHead_42 : decode cX9_readLawHead 42 = .ok (.if_icmp .eq 11, 3) := by decide +kernel
theorem dX9_readLawHead_45 : decode cX9_readLawHead 45 = .ok (.aload_n 0, 1) := by decide +kernel
theorem dX9_readLawHead_46 : decode cX9_readLawHead 46 = .ok (.iconst 0, 1) := by decide +kernel
theorem dX9_readLawHead_47 : decode cX9_readLawHead 47 = .ok (.invokevirtual 84, 3) := by decide +kernel
theorem dX9_readLawHead_50 : decode cX9_readLawHead 50 = .ok (.ifCond .eq 7, 3) := by decide +kernel
theorem dX9_readLawHead_53 : decode cX9_readLawHead 53 = .ok (.iconst 1, 1) := by decide +kernel
theorem dX9_readLawHead_54 : decode cX9_readLawHead 54 = .ok (.goto 4, 3) := by decide +kernel
theorem dX9_readLawHead_57 : decode cX9_readLawHead 57 = .ok (.iconst 0, 1) := by decide +kernel
theorem dX9_readLawHead_58 : decode cX9_readLawHead 58 = .ok (.istore_n 2, 1) := by decide +kernel
theorem dX9_readLawHead_59 : decode cX9_readLawHead 59 = .ok (.aload_n 0, 1) := by decide +kernel
theorem dX9_readLawHead_60 : decode cX9_readLawHead 60 = .ok (.getfield 15, 3) := by decide +kernel
theorem dX9_readLawHead_63 : decode cX9_readLawHead 63 = .ok (.iconst 1, 1) := by decide +kernel
theorem dX9_readLawHead_64 : decode cX9_readLawHead 64 = .ok (.invokevirtual 87, 3) := by decide +kernel
theorem dX9_readLawHead_67 : decode cX9_readLawHead 67 = .ok (.iload_n 2, 1) := by decide +kernel
theorem dX9_readLawHead_68 : decode cX9_readLawHead 68 = .ok (.ireturn, 1) := by decide +kernel
theorem dX9_readIf_0 : decode cX9_readIf 0 = .ok (.aload_n 0, 1) := by decide +kernel
theorem dX9_readIf_1 : decode cX9_readIf 1 = .ok (.getfield 15, 3) := by decide +kernel
theorem dX9_readIf_4 : decode cX9_readIf 4 = .ok (.iconst 2, 1) := by decide +kernel
theorem dX9_readIf_5 : decode cX9_readIf 5 = .ok (.invokevirtual 87, 3) := by decide +kernel
theorem dX9_readIf_8 : decode cX9_readIf 8 = .ok (.aload_n 0, 1) := by decide +kernel
theorem dX9_readIf_9 : decode cX9_readIf 9 = .ok (.sipush 312, 3) := by decide +kernel
theorem dX9_readIf_12 : decode cX9_readIf 12 = .ok (.invokevirtual 58, 3) := by decide +kernel
theorem dX9_readIf_15 : decode cX9_readIf 15 = .ok (.ifCond .eq 13, 3) := by decide +kernel
theorem dX9_readIf_18 : decode cX9_readIf 18 = .ok (.aload_n 0, 1) := by decide +kernel
theorem dX9_readIf_19 : decode cX9_readIf 19 = .ok (.iconst 0, 1) := by decide +kernel
theorem dX9_readIf_20 : decode cX9_readIf 20 = .ok (.invokevirtual 97, 3) := by decide +kernel
theorem dX9_readIf_23 : decode cX9_readIf 23 = .ok (.ifCond .ne 5, 3) := by decide +kernel
theorem dX9_readIf_26 : decode cX9_readIf 26 = .ok (.iconst 0, 1) := by decide +kernel
theorem dX9_readIf_27 : decode cX9_readIf 27 = .ok (.ireturn, 1) := by decide +kernel
theorem dX9_readIf_28 : decode cX9_readIf 28 = .ok (.aload_n 0, 1) := by decide +kernel
theorem dX9_readIf_29 : decode cX9_readIf 29 = .ok (.getfield 15, 3) := by decide +kernel
theorem dX9_readIf_32 : decode cX9_readIf 32 = .ok (.iconst 3, 1) := by decide +kernel
theorem dX9_readIf_33 : decode cX9_readIf 33 = .ok (.invokevirtual 87, 3) := by decide +kernel
theorem dX9_readIf_36 : decode cX9_readIf 36 = .ok (.iconst 1, 1) := by decide +kernel
theorem dX9_readIf_37 : decode cX9_readIf 37 = .ok (.ireturn, 1) := by decide +kernel
theorem dX9_read_0 : decode cX9_read 0 = .ok (.aload_n 0, 1) := by decide +kernel
theorem dX9_read_1 : decode cX9_read 1 = .ok (.getfield 9, 3) := by decide +kernel
theorem dX9_read_4 : decode cX9_read 4 = .ok (.invokevirtual 19, 3) := by decide +kernel
theorem dX9_read_7 : decode cX9_read 7 = .ok (.aload_n 0, 1) := by decide +kernel
theorem dX9_read_8 : decode cX9_read 8 = .ok (.getfield 15, 3) := by decide +kernel
theorem dX9_read_11 : decode cX9_read 11 = .ok (.invokevirtual 24, 3) := by decide +kernel
theorem dX9_read_14 : decode cX9_read 14 = .ok (.aload_n 0, 1) := by decide +kernel
theorem dX9_read_15 : decode cX9_read 15 = .ok (.iload_n 1, 1) := by decide +kernel
theorem dX9_read_16 : decode cX9_read 16 = .ok (.putfield 29, 3) := by decide +kernel
theorem dX9_read_19 : decode cX9_read 19 = .ok (.aload_n 0, 1) := by decide +kernel
theorem dX9_read_20 : decode cX9_read 20 = .ok (.iconst 0, 1) := by decide +kernel
theorem dX9_read_21 : decode cX9_read 21 = .ok (.putfield 33, 3) := by decide +kernel
theorem dX9_read_24 : decode cX9_read 24 = .ok (.aload_n 0, 1) := by decide +kernel
theorem dX9_read_25 : decode cX9_read 25 = .ok (.iconst 0, 1) := by decide +kernel
theorem dX9_read_26 : decode cX9_read 26 = .ok (.invokevirtual 37, 3) := by decide +kernel
theorem dX9_read_29 : decode cX9_read 29 = .ok (.iconst 1, 1) := by decide +kernel
theorem dX9_read_30 : decode cX9_read 30 = .ok (.istore_n 2, 1) := by decide +kernel
theorem dX9_read_31 : decode cX9_read 31 = .ok (.iconst 0, 1) := by decide +kernel
theorem dX9_read_32 : decode cX9_read 32 = .ok (.istore_n 3, 1) := by decide +kernel
theorem dX9_read_33 : decode cX9_read 33 = .ok (.iload_n 2, 1) := by decide +kernel
theorem dX9_read_34 : decode cX9_read 34 = .ok (.ifCond .eq 64, 3) := by decide +kernel
theorem dX9_read_37 : decode cX9_read 37 = .ok (.iload_n 3, 1) := by decide +kernel
theorem dX9_read_38 : decode cX9_read 38 = .ok (.bipush 12, 2) := by decide +kernel
theorem dX9_read_40 : decode cX9_read 40 = .ok (.if_icmp .ge 58, 3) := by decide +kernel
theorem dX9_read_43 : decode cX9_read 43 = .ok (.iload_n 1, 1) := by decide +kernel
theorem dX9_read_44 : decode cX9_read 44 = .ok (.ifCond .eq 10, 3) := by decide +kernel
theorem dX9_read_47 : decode cX9_read 47 = .ok (.aload_n 0, 1) := by decide +kernel
theorem dX9_read_48 : decode cX9_read 48 = .ok (.invokevirtual 41, 3) := by decide +kernel
theorem dX9_read_51 : decode cX9_read 51 = .ok (.goto 7, 3) := by decide +kernel
theorem dX9_read_54 : decode cX9_read 54 = .ok (.aload_n 0, 1) := by decide +kernel
theorem dX9_read_55 : decode cX9_read 55 = .ok (.invokevirtual 45, 3) := by decide +kernel
theorem dX9_read_58 : decode cX9_read 58 = .ok (.istore 4, 2) := by decide +kernel
theorem dX9_read_60 : decode cX9_read 60 = .ok (.iload 4, 2) := by decide +kernel
theorem dX9_read_62 : decode cX9_read 62 = .ok (.ifCond .eq 10, 3) := by decide +kernel
theorem dX9_read_65 : decode cX9_read 65 = .ok (.aload_n 0, 1) := by decide +kernel
theorem dX9_read_66 : decode cX9_read 66 = .ok (.invokevirtual 48, 3) := by decide +kernel
theorem dX9_read_69 : decode cX9_read 69 = .ok (.ifCond .ne 16, 3) := by decide +kernel
theorem dX9_read_72 : decode cX9_read 72 = .ok (.aload_n 0, 1) := by decide +kernel
theorem dX9_read_73 : decode cX9_read 73 = .ok (.getfield 9, 3) := by decide +kernel
theorem dX9_read_76 : decode cX9_read 76 = .ok (.getfield 51, 3) := by decide +kernel
theorem dX9_read_79 : decode cX9_read 79 = .ok (.aload_n 0, 1) := by decide +kernel
theorem dX9_read_80 : decode cX9_read 80 = .ok (.getfield 55, 3) := by decide +kernel
theorem dX9_read_83 : decode cX9_read 83 = .ok (.iaload, 1) := by decide +kernel
theorem dX9_read_84 : decode cX9_read 84 = .ok (.ireturn, 1) := by decide +kernel
theorem dX9_read_85 : decode cX9_read 85 = .ok (.aload_n 0, 1) := by decide +kernel
theorem dX9_read_86 : decode cX9_read 86 = .ok (.bipush 59, 2) := by decide +kernel
theorem dX9_read_88 : decode cX9_read 88 = .ok (.invokevirtual 58, 3) := by decide +kernel
theorem dX9_read_91 : decode cX9_read 91 = .ok (.istore_n 2, 1) := by decide +kernel
theorem dX9_read_92 : decode cX9_read 92 = .ok (.iinc 3 1, 3) := by decide +kernel
theorem dX9_read_95 : decode cX9_read 95 = .ok (.goto (-62), 3) := by decide +kernel
theorem dX9_read_98 : decode cX9_read 98 = .ok (.iload_n 2, 1) := by decide +kernel
theorem dX9_read_99 : decode cX9_read 99 = .ok (.ifCond .ne 13, 3) := by decide +kernel
theorem dX9_read_102 : decode cX9_read 102 = .ok (.aload_n 0, 1) := by decide +kernel
theorem dX9_read_103 : decode cX9_read 103 = .ok (.getfield 62, 3) := by decide +kernel
theorem dX9_read_106 : decode cX9_read 106 = .ok (.sipush 257, 3) := by decide +kernel
theorem dX9_read_109 : decode cX9_read 109 = .ok (.if_icmp .eq 18, 3) := by decide +kernel
theorem dX9_read_112 : decode cX9_read 112 = .ok (.aload_n 0, 1) := by decide +kernel
theorem dX9_read_113 : decode cX9_read 113 = .ok (.getfield 9, 3) := by decide +kernel
theorem dX9_read_116 : decode cX9_read 116 = .ok (.getfield 51, 3) := by decide +kernel
theorem dX9_read_119 : decode cX9_read 119 = .ok (.aload_n 0, 1) := by decide +kernel
theorem dX9_read_120 : decode cX9_read 120 = .ok (.getfield 55, 3) := by decide +kernel
theorem dX9_read_123 : decode cX9_read 123 = .ok (.iaload, 1) := by decide +kernel
theorem dX9_read_124 : decode cX9_read 124 = .ok (.goto 4, 3) := by decide +kernel
theorem dX9_read_127 : decode cX9_read 127 = .ok (.iconst (-1), 1) := by decide +kernel
theorem dX9_read_128 : decode cX9_read 128 = .ok (.ireturn, 1) := by decide +kernel
theorem dX0_take_0 : decode cX0_take 0 = .ok (.aload_n 1, 1) := by decide +kernel
theorem dX0_take_1 : decode cX0_take 1 = .ok (.getfield 9, 3) := by decide +kernel
theorem dX0_take_4 : decode cX0_take 4 = .ok (.iconst 0, 1) := by decide +kernel
theorem dX0_take_5 : decode cX0_take 5 = .ok (.aload_n 0, 1) := by decide +kernel
theorem dX0_take_6 : decode cX0_take 6 = .ok (.getfield 9, 3) := by decide +kernel
theorem dX0_take_9 : decode cX0_take 9 = .ok (.iconst 0, 1) := by decide +kernel
theorem dX0_take_10 : decode cX0_take 10 = .ok (.bipush 6, 2) := by decide +kernel
theorem dX0_take_12 : decode cX0_take 12 = .ok (.invokestatic 24, 3) := by decide +kernel
theorem dX0_take_15 : decode cX0_take 15 = .ok (.aload_n 1, 1) := by decide +kernel
theorem dX0_take_16 : decode cX0_take 16 = .ok (.getfield 15, 3) := by decide +kernel
theorem dX0_take_19 : decode cX0_take 19 = .ok (.iconst 0, 1) := by decide +kernel
theorem dX0_take_20 : decode cX0_take 20 = .ok (.aload_n 0, 1) := by decide +kernel
theorem dX0_take_21 : decode cX0_take 21 = .ok (.getfield 15, 3) := by decide +kernel
theorem dX0_take_24 : decode cX0_take 24 = .ok (.iconst 0, 1) := by decide +kernel
theorem dX0_take_25 : decode cX0_take 25 = .ok (.bipush 6, 2) := by decide +kernel
theorem dX0_take_27 : decode cX0_take 27 = .ok (.invokestatic 24, 3) := by decide +kernel
theorem dX0_take_30 : decode cX0_take 30 = .ok (.aload_n 1, 1) := by decide +kernel
theorem dX0_take_31 : decode cX0_take 31 = .ok (.getfield 18, 3) := by decide +kernel
theorem dX0_take_34 : decode cX0_take 34 = .ok (.iconst 0, 1) := by decide +kernel
theorem dX0_take_35 : decode cX0_take 35 = .ok (.aload_n 0, 1) := by decide +kernel
theorem dX0_take_36 : decode cX0_take 36 = .ok (.getfield 18, 3) := by decide +kernel
theorem dX0_take_39 : decode cX0_take 39 = .ok (.iconst 0, 1) := by decide +kernel
theorem dX0_take_40 : decode cX0_take 40 = .ok (.bipush 6, 2) := by decide +kernel
theorem dX0_take_42 : decode cX0_take 42 = .ok (.invokestatic 24, 3) := by decide +kernel
theorem dX0_take_45 : decode cX0_take 45 = .ok (.aload_n 1, 1) := by decide +kernel
theorem dX0_take_46 : decode cX0_take 46 = .ok (.getfield 21, 3) := by decide +kernel
theorem dX0_take_49 : decode cX0_take 49 = .ok (.iconst 0, 1) := by decide +kernel
theorem dX0_take_50 : decode cX0_take 50 = .ok (.aload_n 0, 1) := by decide +kernel
theorem dX0_take_51 : decode cX0_take 51 = .ok (.getfield 21, 3) := by decide +kernel
theorem dX0_take_54 : decode cX0_take 54 = .ok (.iconst 0, 1) := by decide +kernel
theorem dX0_take_55 : decode cX0_take 55 = .ok (.iconst 4, 1) := by decide +kernel
theorem dX0_take_56 : decode cX0_take 56 = .ok (.invokestatic 24, 3) := by decide +kernel
theorem dX0_take_59 : decode cX0_take 59 = .ok (.aload_n 0, 1) := by decide +kernel
theorem dX0_take_60 : decode cX0_take 60 = .ok (.aload_n 1, 1) := by decide +kernel
theorem dX0_take_61 : decode cX0_take 61 = .ok (.getfield 30, 3) := by decide +kernel
theorem dX0_take_64 : decode cX0_take 64 = .ok (.putfield 30, 3) := by decide +kernel
theorem dX0_take_67 : decode cX0_take 67 = .ok (.return_, 1) := by decide +kernel
theorem dX2_markLog_0 : decode cX2_markLog 0 = .ok (.aload_n 0, 1) := by decide +kernel
theorem dX2_markLog_1 : decode cX2_markLog 1 = .ok (.getfield 11, 3) := by decide +kernel
theorem dX2_markLog_4 : decode cX2_markLog 4 = .ok (.iconst 0, 1) := by decide +kernel
theorem dX2_markLog_5 : decode cX2_markLog 5 = .ok (.aload_n 0, 1) := by decide +kernel
theorem dX2_markLog_6 : decode cX2_markLog 6 = .ok (.getfield 15, 3) := by decide +kernel
theorem dX2_markLog_9 : decode cX2_markLog 9 = .ok (.iconst 0, 1) := by decide +kernel
theorem dX2_markLog_10 : decode cX2_markLog 10 = .ok (.aload_n 0, 1) := by decide +kernel
theorem dX2_markLog_11 : decode cX2_markLog 11 = .ok (.getfield 105, 3) := by decide +kernel
theorem dX2_markLog_14 : decode cX2_markLog 14 = .ok (.bipush 7, 2) := by decide +kernel
theorem dX2_markLog_16 : decode cX2_markLog 16 = .ok (.imul, 1) := by decide +kernel
theorem dX2_markLog_17 : decode cX2_markLog 17 = .ok (.invokestatic 108, 3) := by decide +kernel
theorem dX2_markLog_20 : decode cX2_markLog 20 = .ok (.aload_n 0, 1) := by decide +kernel
theorem dX2_markLog_21 : decode cX2_markLog 21 = .ok (.aload_n 0, 1) := by decide +kernel
theorem dX2_markLog_22 : decode cX2_markLog 22 = .ok (.getfield 105, 3) := by decide +kernel
theorem dX2_markLog_25 : decode cX2_markLog 25 = .ok (.putfield 114, 3) := by decide +kernel
theorem dX2_markLog_28 : decode cX2_markLog 28 = .ok (.return_, 1) := by decide +kernel
theorem dX7_lookAround_0 : decode cX7_lookAround 0 = .ok (.aload_n 0, 1) := by decide +kernel
theorem dX7_lookAround_1 : decode cX7_lookAround 1 = .ok (.getfield 20, 3) := by decide +kernel
theorem dX7_lookAround_4 : decode cX7_lookAround 4 = .ok (.iconst 0, 1) := by decide +kernel
theorem dX7_lookAround_5 : decode cX7_lookAround 5 = .ok (.aload_n 0, 1) := by decide +kernel
theorem dX7_lookAround_6 : decode cX7_lookAround 6 = .ok (.getfield 30, 3) := by decide +kernel
theorem dX7_lookAround_9 : decode cX7_lookAround 9 = .ok (.getfield 42, 3) := by decide +kernel
theorem dX7_lookAround_12 : decode cX7_lookAround 12 = .ok (.getfield 89, 3) := by decide +kernel
theorem dX7_lookAround_15 : decode cX7_lookAround 15 = .ok (.iastore, 1) := by decide +kernel
theorem dX7_lookAround_16 : decode cX7_lookAround 16 = .ok (.aload_n 0, 1) := by decide +kernel
theorem dX7_lookAround_17 : decode cX7_lookAround 17 = .ok (.getfield 20, 3) := by decide +kernel
theorem dX7_lookAround_20 : decode cX7_lookAround 20 = .ok (.iconst 1, 1) := by decide +kernel
theorem dX7_lookAround_21 : decode cX7_lookAround 21 = .ok (.aload_n 0, 1) := by decide +kernel
theorem dX7_lookAround_22 : decode cX7_lookAround 22 = .ok (.getfield 56, 3) := by decide +kernel
theorem dX7_lookAround_25 : decode cX7_lookAround 25 = .ok (.iastore, 1) := by decide +kernel
theorem dX7_lookAround_26 : decode cX7_lookAround 26 = .ok (.aload_n 0, 1) := by decide +kernel
theorem dX7_lookAround_27 : decode cX7_lookAround 27 = .ok (.getfield 20, 3) := by decide +kernel
theorem dX7_lookAround_30 : decode cX7_lookAround 30 = .ok (.iconst 2, 1) := by decide +kernel
theorem dX7_lookAround_31 : decode cX7_lookAround 31 = .ok (.aload_n 0, 1) := by decide +kernel
theorem dX7_lookAround_32 : decode cX7_lookAround 32 = .ok (.getfield 60, 3) := by decide +kernel
theorem dX7_lookAround_35 : decode cX7_lookAround 35 = .ok (.iastore, 1) := by decide +kernel
theorem dX7_lookAround_36 : decode cX7_lookAround 36 = .ok (.iconst 0, 1) := by decide +kernel
theorem dX7_lookAround_37 : decode cX7_lookAround 37 = .ok (.istore_n 1, 1) := by decide +kernel
theorem dX7_lookAround_38 : decode cX7_lookAround 38 = .ok (.iload_n 1, 1) := by decide +kernel
theorem dX7_lookAround_39 : decode cX7_lookAround 39 = .ok (.bipush 6, 2) := by decide +kernel
theorem dX7_lookAround_41 : decode cX7_lookAround 41 = .ok (.if_icmp .ge 80, 3) := by decide +kernel
theorem dX7_lookAround_44 : decode cX7_lookAround 44 = .ok (.aload_n 0, 1) := by decide +kernel
theorem dX7_lookAround_45 : decode cX7_lookAround 45 = .ok (.getfield 20, 3) := by decide +kernel
theorem dX7_lookAround_48 : decode cX7_lookAround 48 = .ok (.iconst 3, 1) := by decide +kernel
theorem dX7_lookAround_49 : decode cX7_lookAround 49 = .ok (.iload_n 1, 1) := by decide +kernel
theorem dX7_lookAround_50 : decode cX7_lookAround 50 = .ok (.iadd, 1) := by decide +kernel
theorem dX7_lookAround_51 : decode cX7_lookAround 51 = .ok (.aload_n 0, 1) := by decide +kernel
theorem dX7_lookAround_52 : decode cX7_lookAround 52 = .ok (.getfield 30, 3) := by decide +kernel
theorem dX7_lookAround_55 : decode cX7_lookAround 55 = .ok (.iload_n 1, 1) := by decide +kernel
theorem dX7_lookAround_56 : decode cX7_lookAround 56 = .ok (.invokevirtual 92, 3) := by decide +kernel
theorem dX7_lookAround_59 : decode cX7_lookAround 59 = .ok (.ifCond .eq 18, 3) := by decide +kernel
theorem dX7_lookAround_62 : decode cX7_lookAround 62 = .ok (.aload_n 0, 1) := by decide +kernel
theorem dX7_lookAround_63 : decode cX7_lookAround 63 = .ok (.getfield 30, 3) := by decide +kernel
theorem dX7_lookAround_66 : decode cX7_lookAround 66 = .ok (.getfield 42, 3) := by decide +kernel
theorem dX7_lookAround_69 : decode cX7_lookAround 69 = .ok (.getfield 96, 3) := by decide +kernel
theorem dX7_lookAround_72 : decode cX7_lookAround 72 = .ok (.iload_n 1, 1) := by decide +kernel
theorem dX7_lookAround_73 : decode cX7_lookAround 73 = .ok (.iaload, 1) := by decide +kernel
theorem dX7_lookAround_74 : decode cX7_lookAround 74 = .ok (.goto 4, 3) := by decide +kernel
theorem dX7_lookAround_77 : decode cX7_lookAround 77 = .ok (.iconst (-1), 1) := by decide +kernel
theorem dX7_lookAround_78 : decode cX7_lookAround 78 = .ok (.iastore, 1) := by decide +kernel
theorem dX7_lookAround_79 : decode cX7_lookAround 79 = .ok (.aload_n 0, 1) := by decide +kernel
theorem dX7_lookAround_80 : decode cX7_lookAround 80 = .ok (.getfield 20, 3) := by decide +kernel
theorem dX7_lookAround_83 : decode cX7_lookAround 83 = .ok (.bipush 9, 2) := by decide +kernel
theorem dX7_lookAround_85 : decode cX7_lookAround 85 = .ok (.iload_n 1, 1) := by decide +kernel
theorem dX7_lookAround_86 : decode cX7_lookAround 86 = .ok (.iadd, 1) := by decide +kernel
theorem dX7_lookAround_87 : decode cX7_lookAround 87 = .ok (.aload_n 0, 1) := by decide +kernel
theorem dX7_lookAround_88 : decode cX7_lookAround 88 = .ok (.getfield 30, 3) := by decide +kernel
theorem dX7_lookAround_91 : decode cX7_lookAround 91 = .ok (.iload_n 1, 1) := by decide +kernel
theorem dX7_lookAround_92 : decode cX7_lookAround 92 = .ok (.invokevirtual 92, 3) := by decide +kernel
theorem dX7_lookAround_95 : decode cX7_lookAround 95 = .ok (.ifCond .eq 18, 3) := by decide +kernel
theorem dX7_lookAround_98 : decode cX7_lookAround 98 = .ok (.aload_n 0, 1) := by decide +kernel
theorem dX7_lookAround_99 : decode cX7_lookAround 99 = .ok (.getfield 30, 3) := by decide +kernel
theorem dX7_lookAround_102 : decode cX7_lookAround 102 = .ok (.getfield 42, 3) := by decide +kernel
theorem dX7_lookAround_105 : decode cX7_lookAround 105 = .ok (.getfield 99, 3) := by decide +kernel
theorem dX7_lookAround_108 : decode cX7_lookAround 108 = .ok (.iload_n 1, 1) := by decide +kernel
theorem dX7_lookAround_109 : decode cX7_lookAround 109 = .ok (.iaload, 1) := by decide +kernel
theorem dX7_lookAround_110 : decode cX7_lookAround 110 = .ok (.goto 4, 3) := by decide +kernel
theorem dX7_lookAround_113 : decode cX7_lookAround 113 = .ok (.iconst (-1), 1) := by decide +kernel
theorem dX7_lookAround_114 : decode cX7_lookAround 114 = .ok (.iastore, 1) := by decide +kernel
theorem dX7_lookAround_115 : decode cX7_lookAround 115 = .ok (.iinc 1 1, 3) := by decide +kernel
theorem dX7_lookAround_118 : decode cX7_lookAround 118 = .ok (.goto (-80), 3) := by decide +kernel
theorem dX7_lookAround_121 : decode cX7_lookAround 121 = .ok (.iconst 0, 1) := by decide +kernel
theorem dX7_lookAround_122 : decode cX7_lookAround 122 = .ok (.istore_n 1, 1) := by decide +kernel
theorem dX7_lookAround_123 : decode cX7_lookAround 123 = .ok (.iload_n 1, 1) := by decide +kernel
theorem dX7_lookAround_124 : decode cX7_lookAround 124 = .ok (.iconst 4, 1) := by decide +kernel
theorem dX7_lookAround_125 : decode cX7_lookAround 125 = .ok (.if_icmp .ge 30, 3) := by decide +kernel
theorem dX7_lookAround_128 : decode cX7_lookAround 128 = .ok (.aload_n 0, 1) := by decide +kernel
theorem dX7_lookAround_129 : decode cX7_lookAround 129 = .ok (.getfield 20, 3) := by decide +kernel
theorem dX7_lookAround_132 : decode cX7_lookAround 132 = .ok (.bipush 15, 2) := by decide +kernel
theorem dX7_lookAround_134 : decode cX7_lookAround 134 = .ok (.iload_n 1, 1) := by decide +kernel
theorem dX7_lookAround_135 : decode cX7_lookAround 135 = .ok (.iadd, 1) := by decide +kernel
theorem dX7_lookAround_136 : decode cX7_lookAround 136 = .ok (.aload_n 0, 1) := by decide +kernel
theorem dX7_lookAround_137 : decode cX7_lookAround 137 = .ok (.getfield 30, 3) := by decide +kernel
theorem dX7_lookAround_140 : decode cX7_lookAround 140 = .ok (.getfield 42, 3) := by decide +kernel
theorem dX7_lookAround_143 : decode cX7_lookAround 143 = .ok (.getfield 102, 3) := by decide +kernel
theorem dX7_lookAround_146 : decode cX7_lookAround 146 = .ok (.iload_n 1, 1) := by decide +kernel
theorem dX7_lookAround_147 : decode cX7_lookAround 147 = .ok (.iaload, 1) := by decide +kernel
theorem dX7_lookAround_148 : decode cX7_lookAround 148 = .ok (.iastore, 1) := by decide +kernel
theorem dX7_lookAround_149 : decode cX7_lookAround 149 = .ok (.iinc 1 1, 3) := by decide +kernel
theorem dX7_lookAround_152 : decode cX7_lookAround 152 = .ok (.goto (-29), 3) := by decide +kernel
theorem dX7_lookAround_155 : decode cX7_lookAround 155 = .ok (.return_, 1) := by decide +kernel
theorem dX2_refusalOf_0 : decode cX2_refusalOf 0 = .ok (.iload_n 1, 1) := by decide +kernel
theorem dX2_refusalOf_1 : decode cX2_refusalOf 1 = .ok (.iconst 0, 1) := by decide +kernel
theorem dX2_refusalOf_2 : decode cX2_refusalOf 2 = .ok (.iconst 3, 1) := by decide +kernel
theorem dX2_refusalOf_3 : decode cX2_refusalOf 3 = .ok (.invokestatic 41, 3) := by decide +kernel
theorem dX2_refusalOf_6 : decode cX2_refusalOf 6 = .ok (.ifCond .eq 20, 3) := by decide +kernel
theorem dX2_refusalOf_9 : decode cX2_refusalOf 9 = .ok (.iload_n 3, 1) := by decide +kernel
theorem dX2_refusalOf_10 : decode cX2_refusalOf 10 = .ok (.getstatic 45, 3) := by decide +kernel
theorem dX2_refusalOf_13 : decode cX2_refusalOf 13 = .ok (.iload_n 1, 1) := by decide +kernel
theorem dX2_refusalOf_14 : decode cX2_refusalOf 14 = .ok (.iaload, 1) := by decide +kernel
theorem dX2_refusalOf_15 : decode cX2_refusalOf 15 = .ok (.getstatic 48, 3) := by decide +kernel
theorem dX2_refusalOf_18 : decode cX2_refusalOf 18 = .ok (.iload_n 1, 1) := by decide +kernel
theorem dX2_refusalOf_19 : decode cX2_refusalOf 19 = .ok (.iaload, 1) := by decide +kernel
theorem dX2_refusalOf_20 : decode cX2_refusalOf 20 = .ok (.invokestatic 41, 3) := by decide +kernel
theorem dX2_refusalOf_23 : decode cX2_refusalOf 23 = .ok (.ifCond .ne 5, 3) := by decide +kernel
theorem dX2_refusalOf_26 : decode cX2_refusalOf 26 = .ok (.iconst (-1), 1) := by decide +kernel
theorem dX2_refusalOf_27 : decode cX2_refusalOf 27 = .ok (.ireturn, 1) := by decide +kernel
theorem dX2_refusalOf_28 : decode cX2_refusalOf 28 = .ok (.aload_n 0, 1) := by decide +kernel
theorem dX2_refusalOf_29 : decode cX2_refusalOf 29 = .ok (.getfield 18, 3) := by decide +kernel
theorem dX2_refusalOf_32 : decode cX2_refusalOf 32 = .ok (.iload_n 2, 1) := by decide +kernel
theorem dX2_refusalOf_33 : decode cX2_refusalOf 33 = .ok (.invokevirtual 51, 3) := by decide +kernel
theorem dX2_refusalOf_36 : decode cX2_refusalOf 36 = .ok (.ifCond .ne 6, 3) := by decide +kernel
theorem dX2_refusalOf_39 : decode cX2_refusalOf 39 = .ok (.bipush (-2), 2) := by decide +kernel
theorem dX2_refusalOf_41 : decode cX2_refusalOf 41 = .ok (.ireturn, 1) := by decide +kernel
theorem dX2_refusalOf_42 : decode cX2_refusalOf 42 = .ok (.aload_n 0, 1) := by decide +kernel
theorem dX2_refusalOf_43 : decode cX2_refusalOf 43 = .ok (.getfield 18, 3) := by decide +kernel
theorem dX2_refusalOf_46 : decode cX2_refusalOf 46 = .ok (.getfield 57, 3) := by decide +kernel
theorem dX2_refusalOf_49 : decode cX2_refusalOf 49 = .ok (.getfield 61, 3) := by decide +kernel
theorem dX2_refusalOf_52 : decode cX2_refusalOf 52 = .ok (.iload_n 2, 1) := by decide +kernel
theorem dX2_refusalOf_53 : decode cX2_refusalOf 53 = .ok (.iaload, 1) := by decide +kernel
theorem dX2_refusalOf_54 : decode cX2_refusalOf 54 = .ok (.ifCond .eq 6, 3) := by decide +kernel
theorem dX2_refusalOf_57 : decode cX2_refusalOf 57 = .ok (.bipush (-3), 2) := by decide +kernel
theorem dX2_refusalOf_59 : decode cX2_refusalOf 59 = .ok (.ireturn, 1) := by decide +kernel
theorem dX2_refusalOf_60 : decode cX2_refusalOf 60 = .ok (.iload_n 1, 1) := by decide +kernel
theorem dX2_refusalOf_61 : decode cX2_refusalOf 61 = .ok (.iconst 3, 1) := by decide +kernel
theorem dX2_refusalOf_62 : decode cX2_refusalOf 62 = .ok (.if_icmp .ne 29, 3) := by decide +kernel
theorem dX2_refusalOf_65 : decode cX2_refusalOf 65 = .ok (.aload_n 0, 1) := by decide +kernel
theorem dX2_refusalOf_66 : decode cX2_refusalOf 66 = .ok (.getfield 18, 3) := by decide +kernel
theorem dX2_refusalOf_69 : decode cX2_refusalOf 69 = .ok (.getfield 57, 3) := by decide +kernel
theorem dX2_refusalOf_72 : decode cX2_refusalOf 72 = .ok (.getfield 66, 3) := by decide +kernel
theorem dX2_refusalOf_75 : decode cX2_refusalOf 75 = .ok (.sipush 999, 3) := by decide +kernel
theorem dX2_refusalOf_78 : decode cX2_refusalOf 78 = .ok (.if_icmp .ge 7, 3) := by decide +kernel
theorem dX2_refusalOf_81 : decode cX2_refusalOf 81 = .ok (.iconst 1, 1) := by decide +kernel
theorem dX2_refusalOf_82 : decode cX2_refusalOf 82 = .ok (.goto 4, 3) := by decide +kernel
theorem dX2_refusalOf_85 : decode cX2_refusalOf 85 = .ok (.iconst 0, 1) := by decide +kernel
theorem dX2_refusalOf_86 : decode cX2_refusalOf 86 = .ok (.istore 4, 2) := by decide +kernel
theorem dX2_refusalOf_88 : decode cX2_refusalOf 88 = .ok (.goto 94, 3) := by decide +kernel
theorem dX2_refusalOf_91 : decode cX2_refusalOf 91 = .ok (.iload_n 1, 1) := by decide +kernel
theorem dX2_refusalOf_92 : decode cX2_refusalOf 92 = .ok (.iconst 2, 1) := by decide +kernel
theorem dX2_refusalOf_93 : decode cX2_refusalOf 93 = .ok (.if_icmp .ne 28, 3) := by decide +kernel
theorem dX2_refusalOf_96 : decode cX2_refusalOf 96 = .ok (.aload_n 0, 1) := by decide +kernel
theorem dX2_refusalOf_97 : decode cX2_refusalOf 97 = .ok (.getfield 18, 3) := by decide +kernel
theorem dX2_refusalOf_100 : decode cX2_refusalOf 100 = .ok (.getfield 57, 3) := by decide +kernel
theorem dX2_refusalOf_103 : decode cX2_refusalOf 103 = .ok (.getfield 70, 3) := by decide +kernel
theorem dX2_refusalOf_106 : decode cX2_refusalOf 106 = .ok (.iload_n 2, 1) := by decide +kernel
theorem dX2_refusalOf_107 : decode cX2_refusalOf 107 = .ok (.iaload, 1) := by decide +kernel
theorem dX2_refusalOf_108 : decode cX2_refusalOf 108 = .ok (.iload_n 3, 1) := by decide +kernel
theorem dX2_refusalOf_109 : decode cX2_refusalOf 109 = .ok (.iadd, 1) := by decide +kernel
theorem dX2_refusalOf_110 : decode cX2_refusalOf 110 = .ok (.iconst 0, 1) := by decide +kernel
theorem dX2_refusalOf_111 : decode cX2_refusalOf 111 = .ok (.bipush 99, 2) := by decide +kernel
theorem dX2_refusalOf_113 : decode cX2_refusalOf 113 = .ok (.invokestatic 41, 3) := by decide +kernel
theorem dX2_refusalOf_116 : decode cX2_refusalOf 116 = .ok (.istore 4, 2) := by decide +kernel
theorem dX2_refusalOf_118 : decode cX2_refusalOf 118 = .ok (.goto 64, 3) := by decide +kernel
theorem dX2_refusalOf_121 : decode cX2_refusalOf 121 = .ok (.aload_n 0, 1) := by decide +kernel
theorem dX2_refusalOf_122 : decode cX2_refusalOf 122 = .ok (.getfield 18, 3) := by decide +kernel
theorem dX2_refusalOf_125 : decode cX2_refusalOf 125 = .ok (.getfield 57, 3) := by decide +kernel
theorem dX2_refusalOf_128 : decode cX2_refusalOf 128 = .ok (.getfield 73, 3) := by decide +kernel
theorem dX2_refusalOf_131 : decode cX2_refusalOf 131 = .ok (.iload_n 2, 1) := by decide +kernel
theorem dX2_refusalOf_132 : decode cX2_refusalOf 132 = .ok (.iaload, 1) := by decide +kernel
theorem dX2_refusalOf_133 : decode cX2_refusalOf 133 = .ok (.iload_n 3, 1) := by decide +kernel
theorem dX2_refusalOf_134 : decode cX2_refusalOf 134 = .ok (.ishr, 1) := by decide +kernel
theorem dX2_refusalOf_135 : decode cX2_refusalOf 135 = .ok (.iconst 1, 1) := by decide +kernel
theorem dX2_refusalOf_136 : decode cX2_refusalOf 136 = .ok (.iand, 1) := by decide +kernel
theorem dX2_refusalOf_137 : decode cX2_refusalOf 137 = .ok (.iconst 1, 1) := by decide +kernel
theorem dX2_refusalOf_138 : decode cX2_refusalOf 138 = .ok (.if_icmp .ne 7, 3) := by decide +kernel
theorem dX2_refusalOf_141 : decode cX2_refusalOf 141 = .ok (.iconst 1, 1) := by decide +kernel
theorem dX2_refusalOf_142 : decode cX2_refusalOf 142 = .ok (.goto 4, 3) := by decide +kernel
theorem dX2_refusalOf_145 : decode cX2_refusalOf 145 = .ok (.iconst 0, 1) := by decide +kernel
theorem dX2_refusalOf_146 : decode cX2_refusalOf 146 = .ok (.istore 5, 2) := by decide +kernel
theorem dX2_refusalOf_148 : decode cX2_refusalOf 148 = .ok (.iload_n 1, 1) := by decide +kernel
theorem dX2_refusalOf_149 : decode cX2_refusalOf 149 = .ok (.iconst 1, 1) := by decide +kernel
theorem dX2_refusalOf_150 : decode cX2_refusalOf 150 = .ok (.if_icmp .ne 8, 3) := by decide +kernel
theorem dX2_refusalOf_153 : decode cX2_refusalOf 153 = .ok (.iload 5, 2) := by decide +kernel
theorem dX2_refusalOf_155 : decode cX2_refusalOf 155 = .ok (.goto 25, 3) := by decide +kernel
theorem dX2_refusalOf_158 : decode cX2_refusalOf 158 = .ok (.iload 5, 2) := by decide +kernel
theorem dX2_refusalOf_160 : decode cX2_refusalOf 160 = .ok (.ifCond .ne 19, 3) := by decide +kernel
theorem dX2_refusalOf_163 : decode cX2_refusalOf 163 = .ok (.aload_n 0, 1) := by decide +kernel
theorem dX2_refusalOf_164 : decode cX2_refusalOf 164 = .ok (.getfield 22, 3) := by decide +kernel
theorem dX2_refusalOf_167 : decode cX2_refusalOf 167 = .ok (.iload_n 2, 1) := by decide +kernel
theorem dX2_refusalOf_168 : decode cX2_refusalOf 168 = .ok (.iload_n 3, 1) := by decide +kernel
theorem dX2_refusalOf_169 : decode cX2_refusalOf 169 = .ok (.invokevirtual 76, 3) := by decide +kernel
theorem dX2_refusalOf_172 : decode cX2_refusalOf 172 = .ok (.ifCond .ne 7, 3) := by decide +kernel
theorem dX2_refusalOf_175 : decode cX2_refusalOf 175 = .ok (.iconst 1, 1) := by decide +kernel
theorem dX2_refusalOf_176 : decode cX2_refusalOf 176 = .ok (.goto 4, 3) := by decide +kernel
theorem dX2_refusalOf_179 : decode cX2_refusalOf 179 = .ok (.iconst 0, 1) := by decide +kernel
theorem dX2_refusalOf_180 : decode cX2_refusalOf 180 = .ok (.istore 4, 2) := by decide +kernel
theorem dX2_refusalOf_182 : decode cX2_refusalOf 182 = .ok (.iload 4, 2) := by decide +kernel
theorem dX2_refusalOf_184 : decode cX2_refusalOf 184 = .ok (.ifCond .eq 7, 3) := by decide +kernel
theorem dX2_refusalOf_187 : decode cX2_refusalOf 187 = .ok (.iconst 0, 1) := by decide +kernel
theorem dX2_refusalOf_188 : decode cX2_refusalOf 188 = .ok (.goto 5, 3) := by decide +kernel
theorem dX2_refusalOf_191 : decode cX2_refusalOf 191 = .ok (.bipush (-3), 2) := by decide +kernel
theorem dX2_refusalOf_193 : decode cX2_refusalOf 193 = .ok (.ireturn, 1) := by decide +kernel
theorem dX2_remember_0 : decode cX2_remember 0 = .ok (.aload_n 0, 1) := by decide +kernel
theorem dX2_remember_1 : decode cX2_remember 1 = .ok (.getfield 105, 3) := by decide +kernel
theorem dX2_remember_4 : decode cX2_remember 4 = .ok (.bipush 16, 2) := by decide +kernel
theorem dX2_remember_6 : decode cX2_remember 6 = .ok (.if_icmp .lt 30, 3) := by decide +kernel
theorem dX2_remember_9 : decode cX2_remember 9 = .ok (.aload_n 0, 1) := by decide +kernel
theorem dX2_remember_10 : decode cX2_remember 10 = .ok (.bipush 15, 2) := by decide +kernel
theorem dX2_remember_12 : decode cX2_remember 12 = .ok (.putfield 105, 3) := by decide +kernel
theorem dX2_remember_15 : decode cX2_remember 15 = .ok (.aload_n 0, 1) := by decide +kernel
theorem dX2_remember_16 : decode cX2_remember 16 = .ok (.getfield 11, 3) := by decide +kernel
theorem dX2_remember_19 : decode cX2_remember 19 = .ok (.bipush 7, 2) := by decide +kernel
theorem dX2_remember_21 : decode cX2_remember 21 = .ok (.aload_n 0, 1) := by decide +kernel
theorem dX2_remember_22 : decode cX2_remember 22 = .ok (.getfield 11, 3) := by decide +kernel
theorem dX2_remember_25 : decode cX2_remember 25 = .ok (.iconst 0, 1) := by decide +kernel
theorem dX2_remember_26 : decode cX2_remember 26 = .ok (.aload_n 0, 1) := by decide +kernel
theorem dX2_remember_27 : decode cX2_remember 27 = .ok (.getfield 105, 3) := by decide +kernel
theorem dX2_remember_30 : decode cX2_remember 30 = .ok (.bipush 7, 2) := by decide +kernel
theorem dX2_remember_32 : decode cX2_remember 32 = .ok (.imul, 1) := by decide +kernel
theorem dX2_remember_33 : decode cX2_remember 33 = .ok (.invokestatic 108, 3) := by decide +kernel
theorem dX2_remember_36 : decode cX2_remember 36 = .ok (.aload_n 0, 1) := by decide +kernel
theorem dX2_remember_37 : decode cX2_remember 37 = .ok (.getfield 105, 3) := by decide +kernel
theorem dX2_remember_40 : decode cX2_remember 40 = .ok (.bipush 7, 2) := by decide +kernel
theorem dX2_remember_42 : decode cX2_remember 42 = .ok (.imul, 1) := by decide +kernel
theorem dX2_remember_43 : decode cX2_remember 43 = .ok (.istore_n 3, 1) := by decide +kernel
theorem dX2_remember_44 : decode cX2_remember 44 = .ok (.aload_n 0, 1) := by decide +kernel
theorem dX2_remember_45 : decode cX2_remember 45 = .ok (.getfield 11, 3) := by decide +kernel
theorem dX2_remember_48 : decode cX2_remember 48 = .ok (.iload_n 3, 1) := by decide +kernel
theorem dX2_remember_49 : decode cX2_remember 49 = .ok (.iload_n 1, 1) := by decide +kernel
theorem dX2_remember_50 : decode cX2_remember 50 = .ok (.iastore, 1) := by decide +kernel
theorem dX2_remember_51 : decode cX2_remember 51 = .ok (.aload_n 0, 1) := by decide +kernel
theorem dX2_remember_52 : decode cX2_remember 52 = .ok (.getfield 11, 3) := by decide +kernel
theorem dX2_remember_55 : decode cX2_remember 55 = .ok (.iload_n 3, 1) := by decide +kernel
theorem dX2_remember_56 : decode cX2_remember 56 = .ok (.iconst 1, 1) := by decide +kernel
theorem dX2_remember_57 : decode cX2_remember 57 = .ok (.iadd, 1) := by decide +kernel
theorem dX2_remember_58 : decode cX2_remember 58 = .ok (.iload_n 2, 1) := by decide +kernel
theorem dX2_remember_59 : decode cX2_remember 59 = .ok (.iastore, 1) := by decide +kernel
theorem dX2_remember_60 : decode cX2_remember 60 = .ok (.aload_n 0, 1) := by decide +kernel
theorem dX2_remember_61 : decode cX2_remember 61 = .ok (.getfield 11, 3) := by decide +kernel
theorem dX2_remember_64 : decode cX2_remember 64 = .ok (.iload_n 3, 1) := by decide +kernel
theorem dX2_remember_65 : decode cX2_remember 65 = .ok (.iconst 2, 1) := by decide +kernel
theorem dX2_remember_66 : decode cX2_remember 66 = .ok (.iadd, 1) := by decide +kernel
theorem dX2_remember_67 : decode cX2_remember 67 = .ok (.aload_n 0, 1) := by decide +kernel
theorem dX2_remember_68 : decode cX2_remember 68 = .ok (.getfield 18, 3) := by decide +kernel
theorem dX2_remember_71 : decode cX2_remember 71 = .ok (.getfield 57, 3) := by decide +kernel
theorem dX2_remember_74 : decode cX2_remember 74 = .ok (.getfield 70, 3) := by decide +kernel
theorem dX2_remember_77 : decode cX2_remember 77 = .ok (.iload_n 2, 1) := by decide +kernel
theorem dX2_remember_78 : decode cX2_remember 78 = .ok (.iaload, 1) := by decide +kernel
theorem dX2_remember_79 : decode cX2_remember 79 = .ok (.iastore, 1) := by decide +kernel
theorem dX2_remember_80 : decode cX2_remember 80 = .ok (.aload_n 0, 1) := by decide +kernel
theorem dX2_remember_81 : decode cX2_remember 81 = .ok (.getfield 11, 3) := by decide +kernel
theorem dX2_remember_84 : decode cX2_remember 84 = .ok (.iload_n 3, 1) := by decide +kernel
theorem dX2_remember_85 : decode cX2_remember 85 = .ok (.iconst 3, 1) := by decide +kernel
theorem dX2_remember_86 : decode cX2_remember 86 = .ok (.iadd, 1) := by decide +kernel
theorem dX2_remember_87 : decode cX2_remember 87 = .ok (.aload_n 0, 1) := by decide +kernel
theorem dX2_remember_88 : decode cX2_remember 88 = .ok (.getfield 18, 3) := by decide +kernel
theorem dX2_remember_91 : decode cX2_remember 91 = .ok (.getfield 57, 3) := by decide +kernel
theorem dX2_remember_94 : decode cX2_remember 94 = .ok (.getfield 73, 3) := by decide +kernel
theorem dX2_remember_97 : decode cX2_remember 97 = .ok (.iload_n 2, 1) := by decide +kernel
theorem dX2_remember_98 : decode cX2_remember 98 = .ok (.iaload, 1) := by decide +kernel
theorem dX2_remember_99 : decode cX2_remember 99 = .ok (.iastore, 1) := by decide +kernel
theorem dX2_remember_100 : decode cX2_remember 100 = .ok (.aload_n 0, 1) := by decide +kernel
theorem dX2_remember_101 : decode cX2_remember 101 = .ok (.getfield 11, 3) := by decide +kernel
theorem dX2_remember_104 : decode cX2_remember 104 = .ok (.iload_n 3, 1) := by decide +kernel
theorem dX2_remember_105 : decode cX2_remember 105 = .ok (.iconst 4, 1) := by decide +kernel
theorem dX2_remember_106 : decode cX2_remember 106 = .ok (.iadd, 1) := by decide +kernel
theorem dX2_remember_107 : decode cX2_remember 107 = .ok (.aload_n 0, 1) := by decide +kernel
theorem dX2_remember_108 : decode cX2_remember 108 = .ok (.getfield 18, 3) := by decide +kernel
theorem dX2_remember_111 : decode cX2_remember 111 = .ok (.getfield 57, 3) := by decide +kernel
theorem dX2_remember_114 : decode cX2_remember 114 = .ok (.getfield 61, 3) := by decide +kernel
theorem dX2_remember_117 : decode cX2_remember 117 = .ok (.iload_n 2, 1) := by decide +kernel
theorem dX2_remember_118 : decode cX2_remember 118 = .ok (.iaload, 1) := by decide +kernel
theorem dX2_remember_119 : decode cX2_remember 119 = .ok (.iastore, 1) := by decide +kernel
theorem dX2_remember_120 : decode cX2_remember 120 = .ok (.aload_n 0, 1) := by decide +kernel
theorem dX2_remember_121 : decode cX2_remember 121 = .ok (.getfield 11, 3) := by decide +kernel
theorem dX2_remember_124 : decode cX2_remember 124 = .ok (.iload_n 3, 1) := by decide +kernel
theorem dX2_remember_125 : decode cX2_remember 125 = .ok (.iconst 5, 1) := by decide +kernel
theorem dX2_remember_126 : decode cX2_remember 126 = .ok (.iadd, 1) := by decide +kernel
theorem dX2_remember_127 : decode cX2_remember 127 = .ok (.aload_n 0, 1) := by decide +kernel
theorem dX2_remember_128 : decode cX2_remember 128 = .ok (.getfield 18, 3) := by decide +kernel
theorem dX2_remember_131 : decode cX2_remember 131 = .ok (.getfield 57, 3) := by decide +kernel
theorem dX2_remember_134 : decode cX2_remember 134 = .ok (.getfield 91, 3) := by decide +kernel
theorem dX2_remember_137 : decode cX2_remember 137 = .ok (.aload_n 0, 1) := by decide +kernel
theorem dX2_remember_138 : decode cX2_remember 138 = .ok (.getfield 18, 3) := by decide +kernel
theorem dX2_remember_141 : decode cX2_remember 141 = .ok (.getfield 88, 3) := by decide +kernel
theorem dX2_remember_144 : decode cX2_remember 144 = .ok (.iload_n 2, 1) := by decide +kernel
theorem dX2_remember_145 : decode cX2_remember 145 = .ok (.iaload, 1) := by decide +kernel
theorem dX2_remember_146 : decode cX2_remember 146 = .ok (.iaload, 1) := by decide +kernel
theorem dX2_remember_147 : decode cX2_remember 147 = .ok (.iastore, 1) := by decide +kernel
theorem dX2_remember_148 : decode cX2_remember 148 = .ok (.aload_n 0, 1) := by decide +kernel
theorem dX2_remember_149 : decode cX2_remember 149 = .ok (.getfield 11, 3) := by decide +kernel
theorem dX2_remember_152 : decode cX2_remember 152 = .ok (.iload_n 3, 1) := by decide +kernel
theorem dX2_remember_153 : decode cX2_remember 153 = .ok (.bipush 6, 2) := by decide +kernel
theorem dX2_remember_155 : decode cX2_remember 155 = .ok (.iadd, 1) := by decide +kernel
theorem dX2_remember_156 : decode cX2_remember 156 = .ok (.aload_n 0, 1) := by decide +kernel
theorem dX2_remember_157 : decode cX2_remember 157 = .ok (.getfield 18, 3) := by decide +kernel
theorem dX2_remember_160 : decode cX2_remember 160 = .ok (.getfield 57, 3) := by decide +kernel
theorem dX2_remember_163 : decode cX2_remember 163 = .ok (.getfield 66, 3) := by decide +kernel
theorem dX2_remember_166 : decode cX2_remember 166 = .ok (.iastore, 1) := by decide +kernel
theorem dX2_remember_167 : decode cX2_remember 167 = .ok (.aload_n 0, 1) := by decide +kernel
theorem dX2_remember_168 : decode cX2_remember 168 = .ok (.dup, 1) := by decide +kernel
theorem dX2_remember_169 : decode cX2_remember 169 = .ok (.getfield 105, 3) := by decide +kernel
theorem dX2_remember_172 : decode cX2_remember 172 = .ok (.iconst 1, 1) := by decide +kernel
theorem dX2_remember_173 : decode cX2_remember 173 = .ok (.iadd, 1) := by decide +kernel
theorem dX2_remember_174 : decode cX2_remember 174 = .ok (.putfield 105, 3) := by decide +kernel
theorem dX2_remember_177 : decode cX2_remember 177 = .ok (.return_, 1) := by decide +kernel
theorem dX2_changeFort_0 : decode cX2_changeFort 0 = .ok (.aload_n 0, 1) := by decide +kernel
theorem dX2_changeFort_1 : decode cX2_changeFort 1 = .ok (.getfield 18, 3) := by decide +kernel
theorem dX2_changeFort_4 : decode cX2_changeFort 4 = .ok (.getfield 57, 3) := by decide +kernel
theorem dX2_changeFort_7 : decode cX2_changeFort 7 = .ok (.astore 4, 2) := by decide +kernel
theorem dX2_changeFort_9 : decode cX2_changeFort 9 = .ok (.iload_n 1, 1) := by decide +kernel
theorem dX2_changeFort_10 : decode cX2_changeFort 10 = .ok (.iconst 2, 1) := by decide +kernel
theorem dX2_changeFort_11 : decode cX2_changeFort 11 = .ok (.if_icmp .ne 22, 3) := by decide +kernel
theorem dX2_changeFort_14 : decode cX2_changeFort 14 = .ok (.aload 4, 2) := by decide +kernel
theorem dX2_changeFort_16 : decode cX2_changeFort 16 = .ok (.getfield 70, 3) := by decide +kernel
theorem dX2_changeFort_19 : decode cX2_changeFort 19 = .ok (.iload_n 2, 1) := by decide +kernel
theorem dX2_changeFort_20 : decode cX2_changeFort 20 = .ok (.dup2, 1) := by decide +kernel
theorem dX2_changeFort_21 : decode cX2_changeFort 21 = .ok (.iaload, 1) := by decide +kernel
theorem dX2_changeFort_22 : decode cX2_changeFort 22 = .ok (.iload_n 3, 1) := by decide +kernel
theorem dX2_changeFort_23 : decode cX2_changeFort 23 = .ok (.iadd, 1) := by decide +kernel
theorem dX2_changeFort_24 : decode cX2_changeFort 24 = .ok (.iastore, 1) := by decide +kernel
theorem dX2_changeFort_25 : decode cX2_changeFort 25 = .ok (.aload 4, 2) := by decide +kernel
theorem dX2_changeFort_27 : decode cX2_changeFort 27 = .ok (.getfield 70, 3) := by decide +kernel
theorem dX2_changeFort_30 : decode cX2_changeFort 30 = .ok (.iload_n 2, 1) := by decide +kernel
theorem dX2_changeFort_31 : decode cX2_changeFort 31 = .ok (.iaload, 1) := by decide +kernel
theorem dX2_changeFort_32 : decode cX2_changeFort 32 = .ok (.ireturn, 1) := by decide +kernel
theorem dX2_changeFort_33 : decode cX2_changeFort 33 = .ok (.aload 4, 2) := by decide +kernel
theorem dX2_changeFort_35 : decode cX2_changeFort 35 = .ok (.getfield 73, 3) := by decide +kernel
theorem dX2_changeFort_38 : decode cX2_changeFort 38 = .ok (.iload_n 2, 1) := by decide +kernel
theorem dX2_changeFort_39 : decode cX2_changeFort 39 = .ok (.dup2, 1) := by decide +kernel
theorem dX2_changeFort_40 : decode cX2_changeFort 40 = .ok (.iaload, 1) := by decide +kernel
theorem dX2_changeFort_41 : decode cX2_changeFort 41 = .ok (.iconst 1, 1) := by decide +kernel
theorem dX2_changeFort_42 : decode cX2_changeFort 42 = .ok (.iload_n 3, 1) := by decide +kernel
theorem dX2_changeFort_43 : decode cX2_changeFort 43 = .ok (.ishl, 1) := by decide +kernel
theorem dX2_changeFort_44 : decode cX2_changeFort 44 = .ok (.ixor, 1) := by decide +kernel
theorem dX2_changeFort_45 : decode cX2_changeFort 45 = .ok (.iastore, 1) := by decide +kernel
theorem dX2_changeFort_46 : decode cX2_changeFort 46 = .ok (.iload_n 1, 1) := by decide +kernel
theorem dX2_changeFort_47 : decode cX2_changeFort 47 = .ok (.iconst 1, 1) := by decide +kernel
theorem dX2_changeFort_48 : decode cX2_changeFort 48 = .ok (.if_icmp .ne 13, 3) := by decide +kernel
theorem dX2_changeFort_51 : decode cX2_changeFort 51 = .ok (.aload 4, 2) := by decide +kernel
theorem dX2_changeFort_53 : decode cX2_changeFort 53 = .ok (.getfield 73, 3) := by decide +kernel
theorem dX2_changeFort_56 : decode cX2_changeFort 56 = .ok (.iload_n 2, 1) := by decide +kernel
theorem dX2_changeFort_57 : decode cX2_changeFort 57 = .ok (.iaload, 1) := by decide +kernel
theorem dX2_changeFort_58 : decode cX2_changeFort 58 = .ok (.goto 12, 3) := by decide +kernel
theorem dX2_changeFort_61 : decode cX2_changeFort 61 = .ok (.aload_n 0, 1) := by decide +kernel
theorem dX2_changeFort_62 : decode cX2_changeFort 62 = .ok (.getfield 22, 3) := by decide +kernel
theorem dX2_changeFort_65 : decode cX2_changeFort 65 = .ok (.iload_n 2, 1) := by decide +kernel
theorem dX2_changeFort_66 : decode cX2_changeFort 66 = .ok (.iload_n 3, 1) := by decide +kernel
theorem dX2_changeFort_67 : decode cX2_changeFort 67 = .ok (.invokevirtual 82, 3) := by decide +kernel
theorem dX2_changeFort_70 : decode cX2_changeFort 70 = .ok (.ireturn, 1) := by decide +kernel
theorem dX5_fameBy_0 : decode cX5_fameBy 0 = .ok (.aload_n 0, 1) := by decide +kernel
theorem dX5_fameBy_1 : decode cX5_fameBy 1 = .ok (.iload_n 1, 1) := by decide +kernel
theorem dX5_fameBy_2 : decode cX5_fameBy 2 = .ok (.iconst (-1), 1) := by decide +kernel
theorem dX5_fameBy_3 : decode cX5_fameBy 3 = .ok (.iload_n 2, 1) := by decide +kernel
theorem dX5_fameBy_4 : decode cX5_fameBy 4 = .ok (.aload_n 0, 1) := by decide +kernel
theorem dX5_fameBy_5 : decode cX5_fameBy 5 = .ok (.iload_n 1, 1) := by decide +kernel
theorem dX5_fameBy_6 : decode cX5_fameBy 6 = .ok (.aload_n 0, 1) := by decide +kernel
theorem dX5_fameBy_7 : decode cX5_fameBy 7 = .ok (.getfield 24, 3) := by decide +kernel
theorem dX5_fameBy_10 : decode cX5_fameBy 10 = .ok (.getfield 41, 3) := by decide +kernel
theorem dX5_fameBy_13 : decode cX5_fameBy 13 = .ok (.getfield 65, 3) := by decide +kernel
theorem dX5_fameBy_16 : decode cX5_fameBy 16 = .ok (.iload_n 1, 1) := by decide +kernel
theorem dX5_fameBy_17 : decode cX5_fameBy 17 = .ok (.iaload, 1) := by decide +kernel
theorem dX5_fameBy_18 : decode cX5_fameBy 18 = .ok (.invokevirtual 68, 3) := by decide +kernel
theorem dX5_fameBy_21 : decode cX5_fameBy 21 = .ok (.sipush 10000, 3) := by decide +kernel
theorem dX5_fameBy_24 : decode cX5_fameBy 24 = .ok (.idiv, 1) := by decide +kernel
theorem dX5_fameBy_25 : decode cX5_fameBy 25 = .ok (.iload_n 3, 1) := by decide +kernel
theorem dX5_fameBy_26 : decode cX5_fameBy 26 = .ok (.invokevirtual 55, 3) := by decide +kernel
theorem dX5_fameBy_29 : decode cX5_fameBy 29 = .ok (.aload_n 0, 1) := by decide +kernel
theorem dX5_fameBy_30 : decode cX5_fameBy 30 = .ok (.sipush 302, 3) := by decide +kernel
theorem dX5_fameBy_33 : decode cX5_fameBy 33 = .ok (.iconst 0, 1) := by decide +kernel
theorem dX5_fameBy_34 : decode cX5_fameBy 34 = .ok (.bipush (-20), 2) := by decide +kernel
theorem dX5_fameBy_36 : decode cX5_fameBy 36 = .ok (.bipush 20, 2) := by decide +kernel
theorem dX5_fameBy_38 : decode cX5_fameBy 38 = .ok (.invokevirtual 61, 3) := by decide +kernel
theorem dX5_fameBy_41 : decode cX5_fameBy 41 = .ok (.ireturn, 1) := by decide +kernel
theorem dX2_marchOn_0 : decode cX2_marchOn 0 = .ok (.aload_n 0, 1) := by decide +kernel
theorem dX2_marchOn_1 : decode cX2_marchOn 1 = .ok (.getfield 18, 3) := by decide +kernel
theorem dX2_marchOn_4 : decode cX2_marchOn 4 = .ok (.getfield 57, 3) := by decide +kernel
theorem dX2_marchOn_7 : decode cX2_marchOn 7 = .ok (.astore_n 3, 1) := by decide +kernel
theorem dX2_marchOn_8 : decode cX2_marchOn 8 = .ok (.iconst 0, 1) := by decide +kernel
theorem dX2_marchOn_9 : decode cX2_marchOn 9 = .ok (.istore 4, 2) := by decide +kernel
theorem dX2_marchOn_11 : decode cX2_marchOn 11 = .ok (.aload_n 0, 1) := by decide +kernel
theorem dX2_marchOn_12 : decode cX2_marchOn 12 = .ok (.getfield 22, 3) := by decide +kernel
theorem dX2_marchOn_15 : decode cX2_marchOn 15 = .ok (.iload_n 1, 1) := by decide +kernel
theorem dX2_marchOn_16 : decode cX2_marchOn 16 = .ok (.iload_n 2, 1) := by decide +kernel
theorem dX2_marchOn_17 : decode cX2_marchOn 17 = .ok (.aload_n 3, 1) := by decide +kernel
theorem dX2_marchOn_18 : decode cX2_marchOn 18 = .ok (.getfield 73, 3) := by decide +kernel
theorem dX2_marchOn_21 : decode cX2_marchOn 21 = .ok (.iload_n 1, 1) := by decide +kernel
theorem dX2_marchOn_22 : decode cX2_marchOn 22 = .ok (.iaload, 1) := by decide +kernel
theorem dX2_marchOn_23 : decode cX2_marchOn 23 = .ok (.invokevirtual 85, 3) := by decide +kernel
theorem dX2_marchOn_26 : decode cX2_marchOn 26 = .ok (.ifCond .eq 9, 3) := by decide +kernel
theorem dX2_marchOn_29 : decode cX2_marchOn 29 = .ok (.iconst 1, 1) := by decide +kernel
theorem dX2_marchOn_30 : decode cX2_marchOn 30 = .ok (.istore 4, 2) := by decide +kernel
theorem dX2_marchOn_32 : decode cX2_marchOn 32 = .ok (.goto 38, 3) := by decide +kernel
theorem dX2_marchOn_35 : decode cX2_marchOn 35 = .ok (.iload_n 2, 1) := by decide +kernel
theorem dX2_marchOn_36 : decode cX2_marchOn 36 = .ok (.aload_n 3, 1) := by decide +kernel
theorem dX2_marchOn_37 : decode cX2_marchOn 37 = .ok (.getfield 70, 3) := by decide +kernel
theorem dX2_marchOn_40 : decode cX2_marchOn 40 = .ok (.iload_n 1, 1) := by decide +kernel
theorem dX2_marchOn_41 : decode cX2_marchOn 41 = .ok (.iaload, 1) := by decide +kernel
theorem dX2_marchOn_42 : decode cX2_marchOn 42 = .ok (.if_icmp .le 16, 3) := by decide +kernel
theorem dX2_marchOn_45 : decode cX2_marchOn 45 = .ok (.iconst 2, 1) := by decide +kernel
theorem dX2_marchOn_46 : decode cX2_marchOn 46 = .ok (.istore 4, 2) := by decide +kernel
theorem dX2_marchOn_48 : decode cX2_marchOn 48 = .ok (.aload_n 3, 1) := by decide +kernel
theorem dX2_marchOn_49 : decode cX2_marchOn 49 = .ok (.getfield 61, 3) := by decide +kernel
theorem dX2_marchOn_52 : decode cX2_marchOn 52 = .ok (.iload_n 1, 1) := by decide +kernel
theorem dX2_marchOn_53 : decode cX2_marchOn 53 = .ok (.iconst 1, 1) := by decide +kernel
theorem dX2_marchOn_54 : decode cX2_marchOn 54 = .ok (.iastore, 1) := by decide +kernel
theorem dX2_marchOn_55 : decode cX2_marchOn 55 = .ok (.goto 15, 3) := by decide +kernel
theorem dX2_marchOn_58 : decode cX2_marchOn 58 = .ok (.aload_n 3, 1) := by decide +kernel
theorem dX2_marchOn_59 : decode cX2_marchOn 59 = .ok (.getfield 70, 3) := by decide +kernel
theorem dX2_marchOn_62 : decode cX2_marchOn 62 = .ok (.iload_n 1, 1) := by decide +kernel
theorem dX2_marchOn_63 : decode cX2_marchOn 63 = .ok (.dup2, 1) := by decide +kernel
theorem dX2_marchOn_64 : decode cX2_marchOn 64 = .ok (.iaload, 1) := by decide +kernel
theorem dX2_marchOn_65 : decode cX2_marchOn 65 = .ok (.iload_n 2, 1) := by decide +kernel
theorem dX2_marchOn_66 : decode cX2_marchOn 66 = .ok (.iconst 3, 1) := by decide +kernel
theorem dX2_marchOn_67 : decode cX2_marchOn 67 = .ok (.idiv, 1) := by decide +kernel
theorem dX2_marchOn_68 : decode cX2_marchOn 68 = .ok (.isub, 1) := by decide +kernel
theorem dX2_marchOn_69 : decode cX2_marchOn 69 = .ok (.iastore, 1) := by decide +kernel
theorem dX2_marchOn_70 : decode cX2_marchOn 70 = .ok (.aload_n 0, 1) := by decide +kernel
theorem dX2_marchOn_71 : decode cX2_marchOn 71 = .ok (.getfield 18, 3) := by decide +kernel
theorem dX2_marchOn_74 : decode cX2_marchOn 74 = .ok (.getfield 88, 3) := by decide +kernel
theorem dX2_marchOn_77 : decode cX2_marchOn 77 = .ok (.iload_n 1, 1) := by decide +kernel
theorem dX2_marchOn_78 : decode cX2_marchOn 78 = .ok (.iaload, 1) := by decide +kernel
theorem dX2_marchOn_79 : decode cX2_marchOn 79 = .ok (.istore 5, 2) := by decide +kernel
theorem dX2_marchOn_81 : decode cX2_marchOn 81 = .ok (.aload_n 3, 1) := by decide +kernel
theorem dX2_marchOn_82 : decode cX2_marchOn 82 = .ok (.getfield 91, 3) := by decide +kernel
theorem dX2_marchOn_85 : decode cX2_marchOn 85 = .ok (.iload 5, 2) := by decide +kernel
theorem dX2_marchOn_87 : decode cX2_marchOn 87 = .ok (.iaload, 1) := by decide +kernel
theorem dX2_marchOn_88 : decode cX2_marchOn 88 = .ok (.aload_n 0, 1) := by decide +kernel
theorem dX2_marchOn_89 : decode cX2_marchOn 89 = .ok (.getfield 22, 3) := by decide +kernel
theorem dX2_marchOn_92 : decode cX2_marchOn 92 = .ok (.iload_n 1, 1) := by decide +kernel
theorem dX2_marchOn_93 : decode cX2_marchOn 93 = .ok (.iload_n 2, 1) := by decide +kernel
theorem dX2_marchOn_94 : decode cX2_marchOn 94 = .ok (.iload 4, 2) := by decide +kernel
theorem dX2_marchOn_96 : decode cX2_marchOn 96 = .ok (.invokevirtual 94, 3) := by decide +kernel
theorem dX2_marchOn_99 : decode cX2_marchOn 99 = .ok (.iadd, 1) := by decide +kernel
theorem dX2_marchOn_100 : decode cX2_marchOn 100 = .ok (.istore 6, 2) := by decide +kernel
theorem dX2_marchOn_102 : decode cX2_marchOn 102 = .ok (.aload_n 3, 1) := by decide +kernel
theorem dX2_marchOn_103 : decode cX2_marchOn 103 = .ok (.getfield 91, 3) := by decide +kernel
theorem dX2_marchOn_106 : decode cX2_marchOn 106 = .ok (.iload 5, 2) := by decide +kernel
theorem dX2_marchOn_108 : decode cX2_marchOn 108 = .ok (.iconst 0, 1) := by decide +kernel
theorem dX2_marchOn_109 : decode cX2_marchOn 109 = .ok (.bipush 100, 2) := by decide +kernel
theorem dX2_marchOn_111 : decode cX2_marchOn 111 = .ok (.iload 6, 2) := by decide +kernel
theorem dX2_marchOn_113 : decode cX2_marchOn 113 = .ok (.invokestatic 97, 3) := by decide +kernel
theorem dX2_marchOn_116 : decode cX2_marchOn 116 = .ok (.invokestatic 102, 3) := by decide +kernel
theorem dX2_marchOn_119 : decode cX2_marchOn 119 = .ok (.iastore, 1) := by decide +kernel
theorem dX2_marchOn_120 : decode cX2_marchOn 120 = .ok (.aload_n 3, 1) := by decide +kernel
theorem dX2_marchOn_121 : decode cX2_marchOn 121 = .ok (.dup, 1) := by decide +kernel
theorem dX2_marchOn_122 : decode cX2_marchOn 122 = .ok (.getfield 66, 3) := by decide +kernel
theorem dX2_marchOn_125 : decode cX2_marchOn 125 = .ok (.iconst 1, 1) := by decide +kernel
theorem dX2_marchOn_126 : decode cX2_marchOn 126 = .ok (.iadd, 1) := by decide +kernel
theorem dX2_marchOn_127 : decode cX2_marchOn 127 = .ok (.putfield 66, 3) := by decide +kernel
theorem dX2_marchOn_130 : decode cX2_marchOn 130 = .ok (.iload 4, 2) := by decide +kernel
theorem dX2_marchOn_132 : decode cX2_marchOn 132 = .ok (.ireturn, 1) := by decide +kernel
theorem dX2_attempt_0 : decode cX2_attempt 0 = .ok (.aload_n 0, 1) := by decide +kernel
theorem dX2_attempt_1 : decode cX2_attempt 1 = .ok (.iload_n 1, 1) := by decide +kernel
theorem dX2_attempt_2 : decode cX2_attempt 2 = .ok (.iload_n 2, 1) := by decide +kernel
theorem dX2_attempt_3 : decode cX2_attempt 3 = .ok (.iload_n 3, 1) := by decide +kernel
theorem dX2_attempt_4 : decode cX2_attempt 4 = .ok (.invokevirtual 26, 3) := by decide +kernel
theorem dX2_attempt_7 : decode cX2_attempt 7 = .ok (.istore 4, 2) := by decide +kernel
theorem dX2_attempt_9 : decode cX2_attempt 9 = .ok (.iload 4, 2) := by decide +kernel
theorem dX2_attempt_11 : decode cX2_attempt 11 = .ok (.ifCond .eq 6, 3) := by decide +kernel
theorem dX2_attempt_14 : decode cX2_attempt 14 = .ok (.iload 4, 2) := by decide +kernel
theorem dX2_attempt_16 : decode cX2_attempt 16 = .ok (.ireturn, 1) := by decide +kernel
theorem dX2_attempt_17 : decode cX2_attempt 17 = .ok (.aload_n 0, 1) := by decide +kernel
theorem dX2_attempt_18 : decode cX2_attempt 18 = .ok (.iload_n 1, 1) := by decide +kernel
theorem dX2_attempt_19 : decode cX2_attempt 19 = .ok (.iload_n 2, 1) := by decide +kernel
theorem dX2_attempt_20 : decode cX2_attempt 20 = .ok (.invokevirtual 30, 3) := by decide +kernel
theorem dX2_attempt_23 : decode cX2_attempt 23 = .ok (.iload_n 1, 1) := by decide +kernel
theorem dX2_attempt_24 : decode cX2_attempt 24 = .ok (.iconst 3, 1) := by decide +kernel
theorem dX2_attempt_25 : decode cX2_attempt 25 = .ok (.if_icmp .ne 12, 3) := by decide +kernel
theorem dX2_attempt_28 : decode cX2_attempt 28 = .ok (.aload_n 0, 1) := by decide +kernel
theorem dX2_attempt_29 : decode cX2_attempt 29 = .ok (.iload_n 2, 1) := by decide +kernel
theorem dX2_attempt_30 : decode cX2_attempt 30 = .ok (.iload_n 3, 1) := by decide +kernel
theorem dX2_attempt_31 : decode cX2_attempt 31 = .ok (.invokevirtual 34, 3) := by decide +kernel
theorem dX2_attempt_34 : decode cX2_attempt 34 = .ok (.goto 10, 3) := by decide +kernel
theorem dX2_attempt_37 : decode cX2_attempt 37 = .ok (.aload_n 0, 1) := by decide +kernel
theorem dX2_attempt_38 : decode cX2_attempt 38 = .ok (.iload_n 1, 1) := by decide +kernel
theorem dX2_attempt_39 : decode cX2_attempt 39 = .ok (.iload_n 2, 1) := by decide +kernel
theorem dX2_attempt_40 : decode cX2_attempt 40 = .ok (.iload_n 3, 1) := by decide +kernel
theorem dX2_attempt_41 : decode cX2_attempt 41 = .ok (.invokevirtual 38, 3) := by decide +kernel
theorem dX2_attempt_44 : decode cX2_attempt 44 = .ok (.ireturn, 1) := by decide +kernel
theorem dX2_returnToMark_0 : decode cX2_returnToMark 0 = .ok (.aload_n 0, 1) := by decide +kernel
theorem dX2_returnToMark_1 : decode cX2_returnToMark 1 = .ok (.aload_n 0, 1) := by decide +kernel
theorem dX2_returnToMark_2 : decode cX2_returnToMark 2 = .ok (.getfield 114, 3) := by decide +kernel
theorem dX2_returnToMark_5 : decode cX2_returnToMark 5 = .ok (.putfield 105, 3) := by decide +kernel
theorem dX2_returnToMark_8 : decode cX2_returnToMark 8 = .ok (.aload_n 0, 1) := by decide +kernel
theorem dX2_returnToMark_9 : decode cX2_returnToMark 9 = .ok (.getfield 15, 3) := by decide +kernel
theorem dX2_returnToMark_12 : decode cX2_returnToMark 12 = .ok (.iconst 0, 1) := by decide +kernel
theorem dX2_returnToMark_13 : decode cX2_returnToMark 13 = .ok (.aload_n 0, 1) := by decide +kernel
theorem dX2_returnToMark_14 : decode cX2_returnToMark 14 = .ok (.getfield 11, 3) := by decide +kernel
theorem dX2_returnToMark_17 : decode cX2_returnToMark 17 = .ok (.iconst 0, 1) := by decide +kernel
theorem dX2_returnToMark_18 : decode cX2_returnToMark 18 = .ok (.aload_n 0, 1) := by decide +kernel
theorem dX2_returnToMark_19 : decode cX2_returnToMark 19 = .ok (.getfield 105, 3) := by decide +kernel
theorem dX2_returnToMark_22 : decode cX2_returnToMark 22 = .ok (.bipush 7, 2) := by decide +kernel
theorem dX2_returnToMark_24 : decode cX2_returnToMark 24 = .ok (.imul, 1) := by decide +kernel
theorem dX2_returnToMark_25 : decode cX2_returnToMark 25 = .ok (.invokestatic 108, 3) := by decide +kernel
theorem dX2_returnToMark_28 : decode cX2_returnToMark 28 = .ok (.return_, 1) := by decide +kernel
theorem dX7_run_0 : decode cX7_run 0 = .ok (.aload_n 0, 1) := by decide +kernel
theorem dX7_run_1 : decode cX7_run 1 = .ok (.getfield 12, 3) := by decide +kernel
theorem dX7_run_4 : decode cX7_run 4 = .ok (.aload_n 0, 1) := by decide +kernel
theorem dX7_run_5 : decode cX7_run 5 = .ok (.getfield 30, 3) := by decide +kernel
theorem dX7_run_8 : decode cX7_run 8 = .ok (.getfield 42, 3) := by decide +kernel
theorem dX7_run_11 : decode cX7_run 11 = .ok (.invokevirtual 47, 3) := by decide +kernel
theorem dX7_run_14 : decode cX7_run 14 = .ok (.aload_n 0, 1) := by decide +kernel
theorem dX7_run_15 : decode cX7_run 15 = .ok (.getfield 34, 3) := by decide +kernel
theorem dX7_run_18 : decode cX7_run 18 = .ok (.invokevirtual 51, 3) := by decide +kernel
theorem dX7_run_21 : decode cX7_run 21 = .ok (.aload_n 0, 1) := by decide +kernel
theorem dX7_run_22 : decode cX7_run 22 = .ok (.iconst 0, 1) := by decide +kernel
theorem dX7_run_23 : decode cX7_run 23 = .ok (.putfield 56, 3) := by decide +kernel
theorem dX7_run_26 : decode cX7_run 26 = .ok (.aload_n 0, 1) := by decide +kernel
theorem dX7_run_27 : decode cX7_run 27 = .ok (.iconst (-1), 1) := by decide +kernel
theorem dX7_run_28 : decode cX7_run 28 = .ok (.putfield 60, 3) := by decide +kernel
theorem dX7_run_31 : decode cX7_run 31 = .ok (.iconst 0, 1) := by decide +kernel
theorem dX7_run_32 : decode cX7_run 32 = .ok (.istore_n 1, 1) := by decide +kernel
theorem dX7_run_33 : decode cX7_run 33 = .ok (.iload_n 1, 1) := by decide +kernel
theorem dX7_run_34 : decode cX7_run 34 = .ok (.aload_n 0, 1) := by decide +kernel
theorem dX7_run_35 : decode cX7_run 35 = .ok (.getfield 38, 3) := by decide +kernel
theorem dX7_run_38 : decode cX7_run 38 = .ok (.getfield 63, 3) := by decide +kernel
theorem dX7_run_41 : decode cX7_run 41 = .ok (.if_icmp .ge 239, 3) := by decide +kernel
theorem dX7_run_44 : decode cX7_run 44 = .ok (.aload_n 0, 1) := by decide +kernel
theorem dX7_run_45 : decode cX7_run 45 = .ok (.getfield 38, 3) := by decide +kernel
theorem dX7_run_48 : decode cX7_run 48 = .ok (.getfield 66, 3) := by decide +kernel
theorem dX7_run_51 : decode cX7_run 51 = .ok (.iload_n 1, 1) := by decide +kernel
theorem dX7_run_52 : decode cX7_run 52 = .ok (.iaload, 1) := by decide +kernel
theorem dX7_run_53 : decode cX7_run 53 = .ok (.sipush 304, 3) := by decide +kernel
theorem dX7_run_56 : decode cX7_run 56 = .ok (.isub, 1) := by decide +kernel
theorem dX7_run_57 : decode cX7_run 57 = .ok (.istore_n 2, 1) := by decide +kernel
theorem dX7_run_58 : decode cX7_run 58 = .ok (.iconst 0, 1) := by decide +kernel
theorem dX7_run_59 : decode cX7_run 59 = .ok (.istore_n 3, 1) := by decide +kernel
theorem dX7_run_60 : decode cX7_run 60 = .ok (.iload_n 3, 1) := by decide +kernel
theorem dX7_run_61 : decode cX7_run 61 = .ok (.aload_n 0, 1) := by decide +kernel
theorem dX7_run_62 : decode cX7_run 62 = .ok (.getfield 38, 3) := by decide +kernel
theorem dX7_run_65 : decode cX7_run 65 = .ok (.getfield 71, 3) := by decide +kernel
theorem dX7_run_68 : decode cX7_run 68 = .ok (.iload_n 1, 1) := by decide +kernel
theorem dX7_run_69 : decode cX7_run 69 = .ok (.iaload, 1) := by decide +kernel
theorem dX7_run_70 : decode cX7_run 70 = .ok (.if_icmp .ge 204, 3) := by decide +kernel
theorem dX7_run_73 : decode cX7_run 73 = .ok (.aload_n 0, 1) := by decide +kernel
theorem dX7_run_74 : decode cX7_run 74 = .ok (.invokevirtual 74, 3) := by decide +kernel
theorem dX7_run_77 : decode cX7_run 77 = .ok (.aload_n 0, 1) := by decide +kernel
theorem dX7_run_78 : decode cX7_run 78 = .ok (.getfield 38, 3) := by decide +kernel
theorem dX7_run_81 : decode cX7_run 81 = .ok (.iload_n 1, 1) := by decide +kernel
theorem dX7_run_82 : decode cX7_run 82 = .ok (.iconst 2, 1) := by decide +kernel
theorem dX7_run_83 : decode cX7_run 83 = .ok (.aload_n 0, 1) := by decide +kernel
theorem dX7_run_84 : decode cX7_run 84 = .ok (.getfield 20, 3) := by decide +kernel
theorem dX7_run_87 : decode cX7_run 87 = .ok (.aload_n 0, 1) := by decide +kernel
theorem dX7_run_88 : decode cX7_run 88 = .ok (.getfield 26, 3) := by decide +kernel
theorem dX7_run_91 : decode cX7_run 91 = .ok (.invokevirtual 77, 3) := by decide +kernel
theorem dX7_run_94 : decode cX7_run 94 = .ok (.iconst 1, 1) := by decide +kernel
theorem dX7_run_95 : decode cX7_run 95 = .ok (.if_icmp .eq 6, 3) := by decide +kernel
theorem dX7_run_98 : decode cX7_run 98 = .ok (.goto 170, 3) := by decide +kernel
theorem dX7_run_101 : decode cX7_run 101 = .ok (.aload_n 0, 1) := by decide +kernel
theorem dX7_run_102 : decode cX7_run 102 = .ok (.getfield 38, 3) := by decide +kernel
theorem dX7_run_105 : decode cX7_run 105 = .ok (.iload_n 1, 1) := by decide +kernel
theorem dX7_run_106 : decode cX7_run 106 = .ok (.iconst 0, 1) := by decide +kernel
theorem dX7_run_107 : decode cX7_run 107 = .ok (.aload_n 0, 1) := by decide +kernel
theorem dX7_run_108 : decode cX7_run 108 = .ok (.getfield 20, 3) := by decide +kernel
theorem dX7_run_111 : decode cX7_run 111 = .ok (.aload_n 0, 1) := by decide +kernel
theorem dX7_run_112 : decode cX7_run 112 = .ok (.getfield 26, 3) := by decide +kernel
theorem dX7_run_115 : decode cX7_run 115 = .ok (.invokevirtual 77, 3) := by decide +kernel
theorem dX7_run_118 : decode cX7_run 118 = .ok (.istore 4, 2) := by decide +kernel
theorem dX7_run_120 : decode cX7_run 120 = .ok (.aload_n 0, 1) := by decide +kernel
theorem dX7_run_121 : decode cX7_run 121 = .ok (.getfield 38, 3) := by decide +kernel
theorem dX7_run_124 : decode cX7_run 124 = .ok (.iload_n 1, 1) := by decide +kernel
theorem dX7_run_125 : decode cX7_run 125 = .ok (.iconst 1, 1) := by decide +kernel
theorem dX7_run_126 : decode cX7_run 126 = .ok (.aload_n 0, 1) := by decide +kernel
theorem dX7_run_127 : decode cX7_run 127 = .ok (.getfield 20, 3) := by decide +kernel
theorem dX7_run_130 : decode cX7_run 130 = .ok (.aload_n 0, 1) := by decide +kernel
theorem dX7_run_131 : decode cX7_run 131 = .ok (.getfield 26, 3) := by decide +kernel
theorem dX7_run_134 : decode cX7_run 134 = .ok (.invokevirtual 77, 3) := by decide +kernel
theorem dX7_run_137 : decode cX7_run 137 = .ok (.istore 5, 2) := by decide +kernel
theorem dX7_run_139 : decode cX7_run 139 = .ok (.iload 4, 2) := by decide +kernel
theorem dX7_run_141 : decode cX7_run 141 = .ok (.ldc 81, 2) := by decide +kernel
theorem dX7_run_143 : decode cX7_run 143 = .ok (.if_icmp .eq 10, 3) := by decide +kernel
theorem dX7_run_146 : decode cX7_run 146 = .ok (.iload 5, 2) := by decide +kernel
theorem dX7_run_148 : decode cX7_run 148 = .ok (.ldc 81, 2) := by decide +kernel
theorem dX7_run_150 : decode cX7_run 150 = .ok (.if_icmp .ne 7, 3) := by decide +kernel
theorem dX7_run_153 : decode cX7_run 153 = .ok (.iconst 1, 1) := by decide +kernel
theorem dX7_run_154 : decode cX7_run 154 = .ok (.goto 4, 3) := by decide +kernel
theorem dX7_run_157 : decode cX7_run 157 = .ok (.iconst 0, 1) := by decide +kernel
theorem dX7_run_158 : decode cX7_run 158 = .ok (.istore 6, 2) := by decide +kernel
theorem dX7_run_160 : decode cX7_run 160 = .ok (.iload_n 2, 1) := by decide +kernel
theorem dX7_run_161 : decode cX7_run 161 = .ok (.iconst 2, 1) := by decide +kernel
theorem dX7_run_162 : decode cX7_run 162 = .ok (.if_icmp .ne 8, 3) := by decide +kernel
theorem dX7_run_165 : decode cX7_run 165 = .ok (.iload 4, 2) := by decide +kernel
theorem dX7_run_167 : decode cX7_run 167 = .ok (.goto 5, 3) := by decide +kernel
theorem dX7_run_170 : decode cX7_run 170 = .ok (.iload 5, 2) := by decide +kernel
theorem dX7_run_172 : decode cX7_run 172 = .ok (.istore 7, 2) := by decide +kernel
theorem dX7_run_174 : decode cX7_run 174 = .ok (.iload_n 2, 1) := by decide +kernel
theorem dX7_run_175 : decode cX7_run 175 = .ok (.iconst 2, 1) := by decide +kernel
theorem dX7_run_176 : decode cX7_run 176 = .ok (.if_icmp .ne 8, 3) := by decide +kernel
theorem dX7_run_179 : decode cX7_run 179 = .ok (.iload 5, 2) := by decide +kernel
theorem dX7_run_181 : decode cX7_run 181 = .ok (.goto 5, 3) := by decide +kernel
theorem dX7_run_184 : decode cX7_run 184 = .ok (.iload 4, 2) := by decide +kernel
theorem dX7_run_186 : decode cX7_run 186 = .ok (.istore 8, 2) := by decide +kernel
theorem dX7_run_188 : decode cX7_run 188 = .ok (.iload 6, 2) := by decide +kernel
theorem dX7_run_190 : decode cX7_run 190 = .ok (.ifCond .eq 8, 3) := by decide +kernel
theorem dX7_run_193 : decode cX7_run 193 = .ok (.bipush (-3), 2) := by decide +kernel
theorem dX7_run_195 : decode cX7_run 195 = .ok (.goto 15, 3) := by decide +kernel
theorem dX7_run_198 : decode cX7_run 198 = .ok (.aload_n 0, 1) := by decide +kernel
theorem dX7_run_199 : decode cX7_run 199 = .ok (.getfield 34, 3) := by decide +kernel
theorem dX7_run_202 : decode cX7_run 202 = .ok (.iload_n 2, 1) := by decide +kernel
theorem dX7_run_203 : decode cX7_run 203 = .ok (.iload 7, 2) := by decide +kernel
theorem dX7_run_205 : decode cX7_run 205 = .ok (.iload 8, 2) := by decide +kernel
theorem dX7_run_207 : decode cX7_run 207 = .ok (.invokevirtual 82, 3) := by decide +kernel
theorem dX7_run_210 : decode cX7_run 210 = .ok (.istore 9, 2) := by decide +kernel
theorem dX7_run_212 : decode cX7_run 212 = .ok (.iload 9, 2) := by decide +kernel
theorem dX7_run_214 : decode cX7_run 214 = .ok (.ifCond .ge 26, 3) := by decide +kernel
theorem dX7_run_217 : decode cX7_run 217 = .ok (.aload_n 0, 1) := by decide +kernel
theorem dX7_run_218 : decode cX7_run 218 = .ok (.getfield 30, 3) := by decide +kernel
theorem dX7_run_221 : decode cX7_run 221 = .ok (.getfield 42, 3) := by decide +kernel
theorem dX7_run_224 : decode cX7_run 224 = .ok (.aload_n 0, 1) := by decide +kernel
theorem dX7_run_225 : decode cX7_run 225 = .ok (.getfield 12, 3) := by decide +kernel
theorem dX7_run_228 : decode cX7_run 228 = .ok (.invokevirtual 47, 3) := by decide +kernel
theorem dX7_run_231 : decode cX7_run 231 = .ok (.aload_n 0, 1) := by decide +kernel
theorem dX7_run_232 : decode cX7_run 232 = .ok (.getfield 34, 3) := by decide +kernel
theorem dX7_run_235 : decode cX7_run 235 = .ok (.invokevirtual 86, 3) := by decide +kernel
theorem dX7_run_238 : decode cX7_run 238 = .ok (.iload_n 1, 1) := by decide +kernel
theorem dX7_run_239 : decode cX7_run 239 = .ok (.ireturn, 1) := by decide +kernel
theorem dX7_run_240 : decode cX7_run 240 = .ok (.aload_n 0, 1) := by decide +kernel
theorem dX7_run_241 : decode cX7_run 241 = .ok (.dup, 1) := by decide +kernel
theorem dX7_run_242 : decode cX7_run 242 = .ok (.getfield 56, 3) := by decide +kernel
theorem dX7_run_245 : decode cX7_run 245 = .ok (.iconst 1, 1) := by decide +kernel
theorem dX7_run_246 : decode cX7_run 246 = .ok (.iadd, 1) := by decide +kernel
theorem dX7_run_247 : decode cX7_run 247 = .ok (.putfield 56, 3) := by decide +kernel
theorem dX7_run_250 : decode cX7_run 250 = .ok (.aload_n 0, 1) := by decide +kernel
theorem dX7_run_251 : decode cX7_run 251 = .ok (.iload_n 2, 1) := by decide +kernel
theorem dX7_run_252 : decode cX7_run 252 = .ok (.iconst 3, 1) := by decide +kernel
theorem dX7_run_253 : decode cX7_run 253 = .ok (.if_icmp .ne 8, 3) := by decide +kernel
theorem dX7_run_256 : decode cX7_run 256 = .ok (.iload 9, 2) := by decide +kernel
theorem dX7_run_258 : decode cX7_run 258 = .ok (.goto 7, 3) := by decide +kernel
theorem dX7_run_261 : decode cX7_run 261 = .ok (.aload_n 0, 1) := by decide +kernel
theorem dX7_run_262 : decode cX7_run 262 = .ok (.getfield 60, 3) := by decide +kernel
theorem dX7_run_265 : decode cX7_run 265 = .ok (.putfield 60, 3) := by decide +kernel
theorem dX7_run_268 : decode cX7_run 268 = .ok (.iinc 3 1, 3) := by decide +kernel
theorem dX7_run_271 : decode cX7_run 271 = .ok (.goto (-211), 3) := by decide +kernel
theorem dX7_run_274 : decode cX7_run 274 = .ok (.iinc 1 1, 3) := by decide +kernel
theorem dX7_run_277 : decode cX7_run 277 = .ok (.goto (-244), 3) := by decide +kernel
theorem dX7_run_280 : decode cX7_run 280 = .ok (.iconst (-1), 1) := by decide +kernel
theorem dX7_run_281 : decode cX7_run 281 = .ok (.ireturn, 1) := by decide +kernel
theorem dX11_orders_0 : decode cX11_orders 0 = .ok (.aload_n 0, 1) := by decide +kernel
theorem dX11_orders_1 : decode cX11_orders 1 = .ok (.aload_n 0, 1) := by decide +kernel
theorem dX11_orders_2 : decode cX11_orders 2 = .ok (.getfield 35, 3) := by decide +kernel
theorem dX11_orders_5 : decode cX11_orders 5 = .ok (.iconst 0, 1) := by decide +kernel
theorem dX11_orders_6 : decode cX11_orders 6 = .ok (.invokevirtual 178, 3) := by decide +kernel
theorem dX11_orders_9 : decode cX11_orders 9 = .ok (.putfield 79, 3) := by decide +kernel
theorem dX11_orders_12 : decode cX11_orders 12 = .ok (.aload_n 0, 1) := by decide +kernel
theorem dX11_orders_13 : decode cX11_orders 13 = .ok (.iconst (-1), 1) := by decide +kernel
theorem dX11_orders_14 : decode cX11_orders 14 = .ok (.putfield 83, 3) := by decide +kernel
theorem dX11_orders_17 : decode cX11_orders 17 = .ok (.aload_n 0, 1) := by decide +kernel
theorem dX11_orders_18 : decode cX11_orders 18 = .ok (.getfield 23, 3) := by decide +kernel
theorem dX11_orders_21 : decode cX11_orders 21 = .ok (.iconst 0, 1) := by decide +kernel
theorem dX11_orders_22 : decode cX11_orders 22 = .ok (.putfield 162, 3) := by decide +kernel
theorem dX11_orders_25 : decode cX11_orders 25 = .ok (.aload_n 0, 1) := by decide +kernel
theorem dX11_orders_26 : decode cX11_orders 26 = .ok (.getfield 79, 3) := by decide +kernel
theorem dX11_orders_29 : decode cX11_orders 29 = .ok (.iconst (-1), 1) := by decide +kernel
theorem dX11_orders_30 : decode cX11_orders 30 = .ok (.if_icmp .eq 10, 3) := by decide +kernel
theorem dX11_orders_33 : decode cX11_orders 33 = .ok (.aload_n 0, 1) := by decide +kernel
theorem dX11_orders_34 : decode cX11_orders 34 = .ok (.bipush (-6), 2) := by decide +kernel
theorem dX11_orders_36 : decode cX11_orders 36 = .ok (.invokevirtual 126, 3) := by decide +kernel
theorem dX11_orders_39 : decode cX11_orders 39 = .ok (.ireturn, 1) := by decide +kernel
