theorem dX12_marchIt_75 : decode cX12_marchIt 75 = .ok (.iadd, 1) := by decide +kernel
theorem dX12_marchIt_76 : decode cX12_marchIt 76 = .ok (.iaload, 1) := by decide +kernel
theorem dX12_marchIt_77 : decode cX12_marchIt 77 = .ok (.iload_n 1, 1) := by decide +kernel
theorem dX12_marchIt_78 : decode cX12_marchIt 78 = .ok (.iconst 3, 1) := by decide +kernel
theorem dX12_marchIt_79 : decode cX12_marchIt 79 = .ok (.idiv, 1) := by decide +kernel
theorem dX12_marchIt_80 : decode cX12_marchIt 80 = .ok (.isub, 1) := by decide +kernel
theorem dX12_marchIt_81 : decode cX12_marchIt 81 = .ok (.i2l, 1) := by decide +kernel
theorem dX12_marchIt_82 : decode cX12_marchIt 82 = .ok (.iconst 0, 1) := by decide +kernel
theorem dX12_marchIt_83 : decode cX12_marchIt 83 = .ok (.bipush 99, 2) := by decide +kernel
theorem dX12_marchIt_85 : decode cX12_marchIt 85 = .ok (.invokestatic 397, 3) := by decide +kernel
theorem dX12_marchIt_88 : decode cX12_marchIt 88 = .ok (.iastore, 1) := by decide +kernel
theorem dX12_marchIt_89 : decode cX12_marchIt 89 = .ok (.aload_n 0, 1) := by decide +kernel
theorem dX12_marchIt_90 : decode cX12_marchIt 90 = .ok (.iconst 2, 1) := by decide +kernel
theorem dX12_marchIt_91 : decode cX12_marchIt 91 = .ok (.iload_n 2, 1) := by decide +kernel
theorem dX12_marchIt_92 : decode cX12_marchIt 92 = .ok (.iconst (-1), 1) := by decide +kernel
theorem dX12_marchIt_93 : decode cX12_marchIt 93 = .ok (.iload_n 1, 1) := by decide +kernel
theorem dX12_marchIt_94 : decode cX12_marchIt 94 = .ok (.aload_n 0, 1) := by decide +kernel
theorem dX12_marchIt_95 : decode cX12_marchIt 95 = .ok (.iload_n 2, 1) := by decide +kernel
theorem dX12_marchIt_96 : decode cX12_marchIt 96 = .ok (.aload_n 0, 1) := by decide +kernel
theorem dX12_marchIt_97 : decode cX12_marchIt 97 = .ok (.getfield 13, 3) := by decide +kernel
theorem dX12_marchIt_100 : decode cX12_marchIt 100 = .ok (.bipush 19, 2) := by decide +kernel
theorem dX12_marchIt_102 : decode cX12_marchIt 102 = .ok (.iload_n 2, 1) := by decide +kernel
theorem dX12_marchIt_103 : decode cX12_marchIt 103 = .ok (.iadd, 1) := by decide +kernel
theorem dX12_marchIt_104 : decode cX12_marchIt 104 = .ok (.iaload, 1) := by decide +kernel
theorem dX12_marchIt_105 : decode cX12_marchIt 105 = .ok (.invokevirtual 401, 3) := by decide +kernel
theorem dX12_marchIt_108 : decode cX12_marchIt 108 = .ok (.iload_n 3, 1) := by decide +kernel
theorem dX12_marchIt_109 : decode cX12_marchIt 109 = .ok (.lconst 0, 1) := by decide +kernel
theorem dX12_marchIt_110 : decode cX12_marchIt 110 = .ok (.invokevirtual 393, 3) := by decide +kernel
theorem dX12_marchIt_113 : decode cX12_marchIt 113 = .ok (.bipush (-20), 2) := by decide +kernel
theorem dX12_marchIt_115 : decode cX12_marchIt 115 = .ok (.bipush 20, 2) := by decide +kernel
theorem dX12_marchIt_117 : decode cX12_marchIt 117 = .ok (.invokestatic 397, 3) := by decide +kernel
theorem dX12_marchIt_120 : decode cX12_marchIt 120 = .ok (.istore 4, 2) := by decide +kernel
theorem dX12_marchIt_122 : decode cX12_marchIt 122 = .ok (.bipush 9, 2) := by decide +kernel
theorem dX12_marchIt_124 : decode cX12_marchIt 124 = .ok (.aload_n 0, 1) := by decide +kernel
theorem dX12_marchIt_125 : decode cX12_marchIt 125 = .ok (.getfield 13, 3) := by decide +kernel
theorem dX12_marchIt_128 : decode cX12_marchIt 128 = .ok (.bipush 31, 2) := by decide +kernel
theorem dX12_marchIt_130 : decode cX12_marchIt 130 = .ok (.iload_n 2, 1) := by decide +kernel
theorem dX12_marchIt_131 : decode cX12_marchIt 131 = .ok (.iadd, 1) := by decide +kernel
theorem dX12_marchIt_132 : decode cX12_marchIt 132 = .ok (.iaload, 1) := by decide +kernel
theorem dX12_marchIt_133 : decode cX12_marchIt 133 = .ok (.iadd, 1) := by decide +kernel
theorem dX12_marchIt_134 : decode cX12_marchIt 134 = .ok (.istore 5, 2) := by decide +kernel
theorem dX12_marchIt_136 : decode cX12_marchIt 136 = .ok (.aload_n 0, 1) := by decide +kernel
theorem dX12_marchIt_137 : decode cX12_marchIt 137 = .ok (.getfield 13, 3) := by decide +kernel
theorem dX12_marchIt_140 : decode cX12_marchIt 140 = .ok (.iload 5, 2) := by decide +kernel
theorem dX12_marchIt_142 : decode cX12_marchIt 142 = .ok (.aload_n 0, 1) := by decide +kernel
theorem dX12_marchIt_143 : decode cX12_marchIt 143 = .ok (.getfield 13, 3) := by decide +kernel
theorem dX12_marchIt_146 : decode cX12_marchIt 146 = .ok (.iload 5, 2) := by decide +kernel
theorem dX12_marchIt_148 : decode cX12_marchIt 148 = .ok (.iaload, 1) := by decide +kernel
theorem dX12_marchIt_149 : decode cX12_marchIt 149 = .ok (.iload 4, 2) := by decide +kernel
theorem dX12_marchIt_151 : decode cX12_marchIt 151 = .ok (.iadd, 1) := by decide +kernel
theorem dX12_marchIt_152 : decode cX12_marchIt 152 = .ok (.i2l, 1) := by decide +kernel
theorem dX12_marchIt_153 : decode cX12_marchIt 153 = .ok (.iconst 0, 1) := by decide +kernel
theorem dX12_marchIt_154 : decode cX12_marchIt 154 = .ok (.bipush 100, 2) := by decide +kernel
theorem dX12_marchIt_156 : decode cX12_marchIt 156 = .ok (.invokestatic 397, 3) := by decide +kernel
theorem dX12_marchIt_159 : decode cX12_marchIt 159 = .ok (.iastore, 1) := by decide +kernel
theorem dX12_marchIt_160 : decode cX12_marchIt 160 = .ok (.aload_n 0, 1) := by decide +kernel
theorem dX12_marchIt_161 : decode cX12_marchIt 161 = .ok (.getfield 13, 3) := by decide +kernel
theorem dX12_marchIt_164 : decode cX12_marchIt 164 = .ok (.bipush 6, 2) := by decide +kernel
theorem dX12_marchIt_166 : decode cX12_marchIt 166 = .ok (.dup2, 1) := by decide +kernel
theorem dX12_marchIt_167 : decode cX12_marchIt 167 = .ok (.iaload, 1) := by decide +kernel
theorem dX12_marchIt_168 : decode cX12_marchIt 168 = .ok (.iconst 1, 1) := by decide +kernel
theorem dX12_marchIt_169 : decode cX12_marchIt 169 = .ok (.iadd, 1) := by decide +kernel
theorem dX12_marchIt_170 : decode cX12_marchIt 170 = .ok (.iastore, 1) := by decide +kernel
theorem dX12_marchIt_171 : decode cX12_marchIt 171 = .ok (.iload_n 3, 1) := by decide +kernel
theorem dX12_marchIt_172 : decode cX12_marchIt 172 = .ok (.ireturn, 1) := by decide +kernel
theorem dX12_marchNow_0 : decode cX12_marchNow 0 = .ok (.iload_n 1, 1) := by decide +kernel
theorem dX12_marchNow_1 : decode cX12_marchNow 1 = .ok (.i2l, 1) := by decide +kernel
theorem dX12_marchNow_2 : decode cX12_marchNow 2 = .ok (.lconst 1, 1) := by decide +kernel
theorem dX12_marchNow_3 : decode cX12_marchNow 3 = .ok (.ldc2_w 187, 3) := by decide +kernel
theorem dX12_marchNow_6 : decode cX12_marchNow 6 = .ok (.invokestatic 162, 3) := by decide +kernel
theorem dX12_marchNow_9 : decode cX12_marchNow 9 = .ok (.ifCond .ne 5, 3) := by decide +kernel
theorem dX12_marchNow_12 : decode cX12_marchNow 12 = .ok (.iconst (-1), 1) := by decide +kernel
theorem dX12_marchNow_13 : decode cX12_marchNow 13 = .ok (.ireturn, 1) := by decide +kernel
theorem dX12_marchNow_14 : decode cX12_marchNow 14 = .ok (.aload_n 0, 1) := by decide +kernel
theorem dX12_marchNow_15 : decode cX12_marchNow 15 = .ok (.iload_n 2, 1) := by decide +kernel
theorem dX12_marchNow_16 : decode cX12_marchNow 16 = .ok (.invokevirtual 195, 3) := by decide +kernel
theorem dX12_marchNow_19 : decode cX12_marchNow 19 = .ok (.ifCond .ne 6, 3) := by decide +kernel
theorem dX12_marchNow_22 : decode cX12_marchNow 22 = .ok (.bipush (-2), 2) := by decide +kernel
theorem dX12_marchNow_24 : decode cX12_marchNow 24 = .ok (.ireturn, 1) := by decide +kernel
theorem dX12_marchNow_25 : decode cX12_marchNow 25 = .ok (.aload_n 0, 1) := by decide +kernel
theorem dX12_marchNow_26 : decode cX12_marchNow 26 = .ok (.iload_n 2, 1) := by decide +kernel
theorem dX12_marchNow_27 : decode cX12_marchNow 27 = .ok (.invokevirtual 437, 3) := by decide +kernel
theorem dX12_marchNow_30 : decode cX12_marchNow 30 = .ok (.ifCond .ne 6, 3) := by decide +kernel
theorem dX12_marchNow_33 : decode cX12_marchNow 33 = .ok (.bipush (-3), 2) := by decide +kernel
theorem dX12_marchNow_35 : decode cX12_marchNow 35 = .ok (.ireturn, 1) := by decide +kernel
theorem dX12_marchNow_36 : decode cX12_marchNow 36 = .ok (.aload_n 0, 1) := by decide +kernel
theorem dX12_marchNow_37 : decode cX12_marchNow 37 = .ok (.iconst 3, 1) := by decide +kernel
theorem dX12_marchNow_38 : decode cX12_marchNow 38 = .ok (.invokevirtual 423, 3) := by decide +kernel
theorem dX12_marchNow_41 : decode cX12_marchNow 41 = .ok (.aload_n 0, 1) := by decide +kernel
theorem dX12_marchNow_42 : decode cX12_marchNow 42 = .ok (.iload_n 1, 1) := by decide +kernel
theorem dX12_marchNow_43 : decode cX12_marchNow 43 = .ok (.iload_n 2, 1) := by decide +kernel
theorem dX12_marchNow_44 : decode cX12_marchNow 44 = .ok (.invokevirtual 440, 3) := by decide +kernel
theorem dX12_marchNow_47 : decode cX12_marchNow 47 = .ok (.ireturn, 1) := by decide +kernel
theorem dX12_march_0 : decode cX12_march 0 = .ok (.aload_n 0, 1) := by decide +kernel
theorem dX12_march_1 : decode cX12_march 1 = .ok (.iconst 0, 1) := by decide +kernel
theorem dX12_march_2 : decode cX12_march 2 = .ok (.putfield 142, 3) := by decide +kernel
theorem dX12_march_5 : decode cX12_march 5 = .ok (.aload_n 0, 1) := by decide +kernel
theorem dX12_march_6 : decode cX12_march 6 = .ok (.aload_n 0, 1) := by decide +kernel
theorem dX12_march_7 : decode cX12_march 7 = .ok (.iload_n 1, 1) := by decide +kernel
theorem dX12_march_8 : decode cX12_march 8 = .ok (.iload_n 2, 1) := by decide +kernel
theorem dX12_march_9 : decode cX12_march 9 = .ok (.invokevirtual 443, 3) := by decide +kernel
theorem dX12_march_12 : decode cX12_march 12 = .ok (.invokevirtual 155, 3) := by decide +kernel
theorem dX12_march_15 : decode cX12_march 15 = .ok (.ireturn, 1) := by decide +kernel
theorem dX12_bluff_0 : decode cX12_bluff 0 = .ok (.aload_n 0, 1) := by decide +kernel
theorem dX12_bluff_1 : decode cX12_bluff 1 = .ok (.iconst 0, 1) := by decide +kernel
theorem dX12_bluff_2 : decode cX12_bluff 2 = .ok (.putfield 142, 3) := by decide +kernel
theorem dX12_bluff_5 : decode cX12_bluff 5 = .ok (.aload_n 0, 1) := by decide +kernel
theorem dX12_bluff_6 : decode cX12_bluff 6 = .ok (.iload_n 1, 1) := by decide +kernel
theorem dX12_bluff_7 : decode cX12_bluff 7 = .ok (.invokevirtual 195, 3) := by decide +kernel
theorem dX12_bluff_10 : decode cX12_bluff 10 = .ok (.ifCond .eq 38, 3) := by decide +kernel
theorem dX12_bluff_13 : decode cX12_bluff 13 = .ok (.aload_n 0, 1) := by decide +kernel
theorem dX12_bluff_14 : decode cX12_bluff 14 = .ok (.getfield 13, 3) := by decide +kernel
theorem dX12_bluff_17 : decode cX12_bluff 17 = .ok (.bipush 25, 2) := by decide +kernel
theorem dX12_bluff_19 : decode cX12_bluff 19 = .ok (.iload_n 1, 1) := by decide +kernel
theorem dX12_bluff_20 : decode cX12_bluff 20 = .ok (.iadd, 1) := by decide +kernel
theorem dX12_bluff_21 : decode cX12_bluff 21 = .ok (.iaload, 1) := by decide +kernel
theorem dX12_bluff_22 : decode cX12_bluff 22 = .ok (.iconst 1, 1) := by decide +kernel
theorem dX12_bluff_23 : decode cX12_bluff 23 = .ok (.if_icmp .eq 25, 3) := by decide +kernel
theorem dX12_bluff_26 : decode cX12_bluff 26 = .ok (.iload_n 2, 1) := by decide +kernel
theorem dX12_bluff_27 : decode cX12_bluff 27 = .ok (.i2l, 1) := by decide +kernel
theorem dX12_bluff_28 : decode cX12_bluff 28 = .ok (.lconst 1, 1) := by decide +kernel
theorem dX12_bluff_29 : decode cX12_bluff 29 = .ok (.ldc2_w 187, 3) := by decide +kernel
theorem dX12_bluff_32 : decode cX12_bluff 32 = .ok (.invokestatic 162, 3) := by decide +kernel
theorem dX12_bluff_35 : decode cX12_bluff 35 = .ok (.ifCond .eq 13, 3) := by decide +kernel
theorem dX12_bluff_38 : decode cX12_bluff 38 = .ok (.iload_n 3, 1) := by decide +kernel
theorem dX12_bluff_39 : decode cX12_bluff 39 = .ok (.i2l, 1) := by decide +kernel
theorem dX12_bluff_40 : decode cX12_bluff 40 = .ok (.lconst 0, 1) := by decide +kernel
theorem dX12_bluff_41 : decode cX12_bluff 41 = .ok (.lconst 1, 1) := by decide +kernel
theorem dX12_bluff_42 : decode cX12_bluff 42 = .ok (.invokestatic 162, 3) := by decide +kernel
theorem dX12_bluff_45 : decode cX12_bluff 45 = .ok (.ifCond .ne 5, 3) := by decide +kernel
theorem dX12_bluff_48 : decode cX12_bluff 48 = .ok (.iconst (-1), 1) := by decide +kernel
theorem dX12_bluff_49 : decode cX12_bluff 49 = .ok (.ireturn, 1) := by decide +kernel
theorem dX12_bluff_50 : decode cX12_bluff 50 = .ok (.ldc_w 446, 3) := by decide +kernel
theorem dX12_bluff_53 : decode cX12_bluff 53 = .ok (.istore 4, 2) := by decide +kernel
theorem dX12_bluff_55 : decode cX12_bluff 55 = .ok (.iconst (-1), 1) := by decide +kernel
theorem dX12_bluff_56 : decode cX12_bluff 56 = .ok (.istore 5, 2) := by decide +kernel
theorem dX12_bluff_58 : decode cX12_bluff 58 = .ok (.iconst 0, 1) := by decide +kernel
theorem dX12_bluff_59 : decode cX12_bluff 59 = .ok (.istore 6, 2) := by decide +kernel
theorem dX12_bluff_61 : decode cX12_bluff 61 = .ok (.iload 6, 2) := by decide +kernel
theorem dX12_bluff_63 : decode cX12_bluff 63 = .ok (.bipush 64, 2) := by decide +kernel
theorem dX12_bluff_65 : decode cX12_bluff 65 = .ok (.if_icmp .ge 123, 3) := by decide +kernel
theorem dX12_bluff_68 : decode cX12_bluff 68 = .ok (.iconst 0, 1) := by decide +kernel
theorem dX12_bluff_69 : decode cX12_bluff 69 = .ok (.istore 7, 2) := by decide +kernel
theorem dX12_bluff_71 : decode cX12_bluff 71 = .ok (.iconst 1, 1) := by decide +kernel
theorem dX12_bluff_72 : decode cX12_bluff 72 = .ok (.istore 8, 2) := by decide +kernel
theorem dX12_bluff_74 : decode cX12_bluff 74 = .ok (.iconst 0, 1) := by decide +kernel
theorem dX12_bluff_75 : decode cX12_bluff 75 = .ok (.istore 9, 2) := by decide +kernel
theorem dX12_bluff_77 : decode cX12_bluff 77 = .ok (.iload 9, 2) := by decide +kernel
theorem dX12_bluff_79 : decode cX12_bluff 79 = .ok (.bipush 6, 2) := by decide +kernel
theorem dX12_bluff_81 : decode cX12_bluff 81 = .ok (.if_icmp .ge 70, 3) := by decide +kernel
theorem dX12_bluff_84 : decode cX12_bluff 84 = .ok (.iload 8, 2) := by decide +kernel
theorem dX12_bluff_86 : decode cX12_bluff 86 = .ok (.ifCond .eq 65, 3) := by decide +kernel
theorem dX12_bluff_89 : decode cX12_bluff 89 = .ok (.iload 6, 2) := by decide +kernel
theorem dX12_bluff_91 : decode cX12_bluff 91 = .ok (.iload 9, 2) := by decide +kernel
theorem dX12_bluff_93 : decode cX12_bluff 93 = .ok (.invokestatic 170, 3) := by decide +kernel
theorem dX12_bluff_96 : decode cX12_bluff 96 = .ok (.ifCond .eq 49, 3) := by decide +kernel
theorem dX12_bluff_99 : decode cX12_bluff 99 = .ok (.aload_n 0, 1) := by decide +kernel
theorem dX12_bluff_100 : decode cX12_bluff 100 = .ok (.getfield 13, 3) := by decide +kernel
theorem dX12_bluff_103 : decode cX12_bluff 103 = .ok (.bipush 19, 2) := by decide +kernel
theorem dX12_bluff_105 : decode cX12_bluff 105 = .ok (.iload_n 1, 1) := by decide +kernel
theorem dX12_bluff_106 : decode cX12_bluff 106 = .ok (.iadd, 1) := by decide +kernel
theorem dX12_bluff_107 : decode cX12_bluff 107 = .ok (.iaload, 1) := by decide +kernel
theorem dX12_bluff_108 : decode cX12_bluff 108 = .ok (.iload 9, 2) := by decide +kernel
theorem dX12_bluff_110 : decode cX12_bluff 110 = .ok (.invokestatic 170, 3) := by decide +kernel
theorem dX12_bluff_113 : decode cX12_bluff 113 = .ok (.ifCond .ne 13, 3) := by decide +kernel
theorem dX12_bluff_116 : decode cX12_bluff 116 = .ok (.aload_n 0, 1) := by decide +kernel
theorem dX12_bluff_117 : decode cX12_bluff 117 = .ok (.iload_n 1, 1) := by decide +kernel
theorem dX12_bluff_118 : decode cX12_bluff 118 = .ok (.iload 9, 2) := by decide +kernel
theorem dX12_bluff_120 : decode cX12_bluff 120 = .ok (.invokevirtual 413, 3) := by decide +kernel
theorem dX12_bluff_123 : decode cX12_bluff 123 = .ok (.ifCond .ne 7, 3) := by decide +kernel
theorem dX12_bluff_126 : decode cX12_bluff 126 = .ok (.iconst 1, 1) := by decide +kernel
theorem dX12_bluff_127 : decode cX12_bluff 127 = .ok (.goto 4, 3) := by decide +kernel
theorem dX12_bluff_130 : decode cX12_bluff 130 = .ok (.iconst 0, 1) := by decide +kernel
theorem dX12_bluff_131 : decode cX12_bluff 131 = .ok (.istore 8, 2) := by decide +kernel
theorem dX12_bluff_133 : decode cX12_bluff 133 = .ok (.iload 7, 2) := by decide +kernel
theorem dX12_bluff_135 : decode cX12_bluff 135 = .ok (.aload_n 0, 1) := by decide +kernel
theorem dX12_bluff_136 : decode cX12_bluff 136 = .ok (.iload_n 1, 1) := by decide +kernel
theorem dX12_bluff_137 : decode cX12_bluff 137 = .ok (.iload 9, 2) := by decide +kernel
theorem dX12_bluff_139 : decode cX12_bluff 139 = .ok (.invokevirtual 410, 3) := by decide +kernel
theorem dX12_bluff_142 : decode cX12_bluff 142 = .ok (.iadd, 1) := by decide +kernel
theorem dX12_bluff_143 : decode cX12_bluff 143 = .ok (.istore 7, 2) := by decide +kernel
theorem dX12_bluff_145 : decode cX12_bluff 145 = .ok (.iinc 9 1, 3) := by decide +kernel
theorem dX12_bluff_148 : decode cX12_bluff 148 = .ok (.goto (-71), 3) := by decide +kernel
theorem dX12_bluff_151 : decode cX12_bluff 151 = .ok (.iload 8, 2) := by decide +kernel
theorem dX12_bluff_153 : decode cX12_bluff 153 = .ok (.ifCond .eq 29, 3) := by decide +kernel
theorem dX12_bluff_156 : decode cX12_bluff 156 = .ok (.iload 7, 2) := by decide +kernel
theorem dX12_bluff_158 : decode cX12_bluff 158 = .ok (.iload 4, 2) := by decide +kernel
theorem dX12_bluff_160 : decode cX12_bluff 160 = .ok (.if_icmp .ge 22, 3) := by decide +kernel
theorem dX12_bluff_163 : decode cX12_bluff 163 = .ok (.aload_n 0, 1) := by decide +kernel
theorem dX12_bluff_164 : decode cX12_bluff 164 = .ok (.iload_n 1, 1) := by decide +kernel
theorem dX12_bluff_165 : decode cX12_bluff 165 = .ok (.iload_n 2, 1) := by decide +kernel
theorem dX12_bluff_166 : decode cX12_bluff 166 = .ok (.iload 6, 2) := by decide +kernel
theorem dX12_bluff_168 : decode cX12_bluff 168 = .ok (.invokevirtual 416, 3) := by decide +kernel
theorem dX12_bluff_171 : decode cX12_bluff 171 = .ok (.ifCond .eq 11, 3) := by decide +kernel
theorem dX12_bluff_174 : decode cX12_bluff 174 = .ok (.iload 7, 2) := by decide +kernel
theorem dX12_bluff_176 : decode cX12_bluff 176 = .ok (.istore 4, 2) := by decide +kernel
theorem dX12_bluff_178 : decode cX12_bluff 178 = .ok (.iload 6, 2) := by decide +kernel
theorem dX12_bluff_180 : decode cX12_bluff 180 = .ok (.istore 5, 2) := by decide +kernel
theorem dX12_bluff_182 : decode cX12_bluff 182 = .ok (.iinc 6 1, 3) := by decide +kernel
theorem dX12_bluff_185 : decode cX12_bluff 185 = .ok (.goto (-124), 3) := by decide +kernel
theorem dX12_bluff_188 : decode cX12_bluff 188 = .ok (.iload 5, 2) := by decide +kernel
theorem dX12_bluff_190 : decode cX12_bluff 190 = .ok (.iconst (-1), 1) := by decide +kernel
theorem dX12_bluff_191 : decode cX12_bluff 191 = .ok (.if_icmp .eq 8, 3) := by decide +kernel
theorem dX12_bluff_194 : decode cX12_bluff 194 = .ok (.iload_n 3, 1) := by decide +kernel
theorem dX12_bluff_195 : decode cX12_bluff 195 = .ok (.iconst 1, 1) := by decide +kernel
theorem dX12_bluff_196 : decode cX12_bluff 196 = .ok (.if_icmp .ne 8, 3) := by decide +kernel
theorem dX12_bluff_199 : decode cX12_bluff 199 = .ok (.iload 5, 2) := by decide +kernel
theorem dX12_bluff_201 : decode cX12_bluff 201 = .ok (.goto 5, 3) := by decide +kernel
theorem dX12_bluff_204 : decode cX12_bluff 204 = .ok (.iload 4, 2) := by decide +kernel
theorem dX12_bluff_206 : decode cX12_bluff 206 = .ok (.ireturn, 1) := by decide +kernel
theorem dX12_scout_0 : decode cX12_scout 0 = .ok (.aload_n 0, 1) := by decide +kernel
theorem dX12_scout_1 : decode cX12_scout 1 = .ok (.iconst 0, 1) := by decide +kernel
theorem dX12_scout_2 : decode cX12_scout 2 = .ok (.putfield 142, 3) := by decide +kernel
theorem dX12_scout_5 : decode cX12_scout 5 = .ok (.aload_n 0, 1) := by decide +kernel
theorem dX12_scout_6 : decode cX12_scout 6 = .ok (.iload_n 1, 1) := by decide +kernel
theorem dX12_scout_7 : decode cX12_scout 7 = .ok (.invokevirtual 195, 3) := by decide +kernel
theorem dX12_scout_10 : decode cX12_scout 10 = .ok (.ifCond .eq 13, 3) := by decide +kernel
theorem dX12_scout_13 : decode cX12_scout 13 = .ok (.iload_n 2, 1) := by decide +kernel
theorem dX12_scout_14 : decode cX12_scout 14 = .ok (.i2l, 1) := by decide +kernel
theorem dX12_scout_15 : decode cX12_scout 15 = .ok (.lconst 0, 1) := by decide +kernel
theorem dX12_scout_16 : decode cX12_scout 16 = .ok (.lconst 1, 1) := by decide +kernel
theorem dX12_scout_17 : decode cX12_scout 17 = .ok (.invokestatic 162, 3) := by decide +kernel
theorem dX12_scout_20 : decode cX12_scout 20 = .ok (.ifCond .ne 5, 3) := by decide +kernel
theorem dX12_scout_23 : decode cX12_scout 23 = .ok (.iconst (-1), 1) := by decide +kernel
theorem dX12_scout_24 : decode cX12_scout 24 = .ok (.ireturn, 1) := by decide +kernel
theorem dX12_scout_25 : decode cX12_scout 25 = .ok (.iconst (-1), 1) := by decide +kernel
theorem dX12_scout_26 : decode cX12_scout 26 = .ok (.istore_n 3, 1) := by decide +kernel
theorem dX12_scout_27 : decode cX12_scout 27 = .ok (.iconst (-1), 1) := by decide +kernel
theorem dX12_scout_28 : decode cX12_scout 28 = .ok (.istore 4, 2) := by decide +kernel
theorem dX12_scout_30 : decode cX12_scout 30 = .ok (.iconst 0, 1) := by decide +kernel
theorem dX12_scout_31 : decode cX12_scout 31 = .ok (.istore 5, 2) := by decide +kernel
theorem dX12_scout_33 : decode cX12_scout 33 = .ok (.iload 5, 2) := by decide +kernel
theorem dX12_scout_35 : decode cX12_scout 35 = .ok (.bipush 6, 2) := by decide +kernel
theorem dX12_scout_37 : decode cX12_scout 37 = .ok (.if_icmp .ge 91, 3) := by decide +kernel
theorem dX12_scout_40 : decode cX12_scout 40 = .ok (.aload_n 0, 1) := by decide +kernel
theorem dX12_scout_41 : decode cX12_scout 41 = .ok (.getfield 13, 3) := by decide +kernel
theorem dX12_scout_44 : decode cX12_scout 44 = .ok (.bipush 19, 2) := by decide +kernel
theorem dX12_scout_46 : decode cX12_scout 46 = .ok (.iload_n 1, 1) := by decide +kernel
theorem dX12_scout_47 : decode cX12_scout 47 = .ok (.iadd, 1) := by decide +kernel
theorem dX12_scout_48 : decode cX12_scout 48 = .ok (.iaload, 1) := by decide +kernel
theorem dX12_scout_49 : decode cX12_scout 49 = .ok (.iconst 1, 1) := by decide +kernel
theorem dX12_scout_50 : decode cX12_scout 50 = .ok (.iload 5, 2) := by decide +kernel
theorem dX12_scout_52 : decode cX12_scout 52 = .ok (.ishl, 1) := by decide +kernel
theorem dX12_scout_53 : decode cX12_scout 53 = .ok (.ior, 1) := by decide +kernel
theorem dX12_scout_54 : decode cX12_scout 54 = .ok (.istore 6, 2) := by decide +kernel
theorem dX12_scout_56 : decode cX12_scout 56 = .ok (.aload_n 0, 1) := by decide +kernel
theorem dX12_scout_57 : decode cX12_scout 57 = .ok (.iload_n 1, 1) := by decide +kernel
theorem dX12_scout_58 : decode cX12_scout 58 = .ok (.iload 6, 2) := by decide +kernel
theorem dX12_scout_60 : decode cX12_scout 60 = .ok (.invokevirtual 181, 3) := by decide +kernel
theorem dX12_scout_63 : decode cX12_scout 63 = .ok (.aload_n 0, 1) := by decide +kernel
theorem dX12_scout_64 : decode cX12_scout 64 = .ok (.iload_n 1, 1) := by decide +kernel
theorem dX12_scout_65 : decode cX12_scout 65 = .ok (.iload 6, 2) := by decide +kernel
theorem dX12_scout_67 : decode cX12_scout 67 = .ok (.iconst 1, 1) := by decide +kernel
theorem dX12_scout_68 : decode cX12_scout 68 = .ok (.iload 5, 2) := by decide +kernel
theorem dX12_scout_70 : decode cX12_scout 70 = .ok (.ishl, 1) := by decide +kernel
theorem dX12_scout_71 : decode cX12_scout 71 = .ok (.isub, 1) := by decide +kernel
theorem dX12_scout_72 : decode cX12_scout 72 = .ok (.invokevirtual 181, 3) := by decide +kernel
theorem dX12_scout_75 : decode cX12_scout 75 = .ok (.lsub, 1) := by decide +kernel
theorem dX12_scout_76 : decode cX12_scout 76 = .ok (.l2i, 1) := by decide +kernel
theorem dX12_scout_77 : decode cX12_scout 77 = .ok (.istore 7, 2) := by decide +kernel
theorem dX12_scout_79 : decode cX12_scout 79 = .ok (.iload 7, 2) := by decide +kernel
theorem dX12_scout_81 : decode cX12_scout 81 = .ok (.ifCond .ge 9, 3) := by decide +kernel
theorem dX12_scout_84 : decode cX12_scout 84 = .ok (.iload 7, 2) := by decide +kernel
theorem dX12_scout_86 : decode cX12_scout 86 = .ok (.ineg, 1) := by decide +kernel
theorem dX12_scout_87 : decode cX12_scout 87 = .ok (.goto 5, 3) := by decide +kernel
theorem dX12_scout_90 : decode cX12_scout 90 = .ok (.iload 7, 2) := by decide +kernel
theorem dX12_scout_92 : decode cX12_scout 92 = .ok (.istore 7, 2) := by decide +kernel
theorem dX12_scout_94 : decode cX12_scout 94 = .ok (.iload 7, 2) := by decide +kernel
theorem dX12_scout_96 : decode cX12_scout 96 = .ok (.iload_n 3, 1) := by decide +kernel
theorem dX12_scout_97 : decode cX12_scout 97 = .ok (.if_icmp .le 8, 3) := by decide +kernel
theorem dX12_scout_100 : decode cX12_scout 100 = .ok (.iload 5, 2) := by decide +kernel
theorem dX12_scout_102 : decode cX12_scout 102 = .ok (.goto 5, 3) := by decide +kernel
theorem dX12_scout_105 : decode cX12_scout 105 = .ok (.iload 4, 2) := by decide +kernel
theorem dX12_scout_107 : decode cX12_scout 107 = .ok (.istore 4, 2) := by decide +kernel
theorem dX12_scout_109 : decode cX12_scout 109 = .ok (.iload 7, 2) := by decide +kernel
theorem dX12_scout_111 : decode cX12_scout 111 = .ok (.iload_n 3, 1) := by decide +kernel
theorem dX12_scout_112 : decode cX12_scout 112 = .ok (.if_icmp .le 8, 3) := by decide +kernel
theorem dX12_scout_115 : decode cX12_scout 115 = .ok (.iload 7, 2) := by decide +kernel
theorem dX12_scout_117 : decode cX12_scout 117 = .ok (.goto 4, 3) := by decide +kernel
theorem dX12_scout_120 : decode cX12_scout 120 = .ok (.iload_n 3, 1) := by decide +kernel
theorem dX12_scout_121 : decode cX12_scout 121 = .ok (.istore_n 3, 1) := by decide +kernel
theorem dX12_scout_122 : decode cX12_scout 122 = .ok (.iinc 5 1, 3) := by decide +kernel
theorem dX12_scout_125 : decode cX12_scout 125 = .ok (.goto (-92), 3) := by decide +kernel
theorem dX12_scout_128 : decode cX12_scout 128 = .ok (.iload_n 2, 1) := by decide +kernel
theorem dX12_scout_129 : decode cX12_scout 129 = .ok (.ifCond .ne 8, 3) := by decide +kernel
theorem dX12_scout_132 : decode cX12_scout 132 = .ok (.iload 4, 2) := by decide +kernel
theorem dX12_scout_134 : decode cX12_scout 134 = .ok (.goto 4, 3) := by decide +kernel
theorem dX12_scout_137 : decode cX12_scout 137 = .ok (.iload_n 3, 1) := by decide +kernel
theorem dX12_scout_138 : decode cX12_scout 138 = .ok (.ireturn, 1) := by decide +kernel
theorem dX12_holds_0 : decode cX12_holds 0 = .ok (.aload_n 0, 1) := by decide +kernel
theorem dX12_holds_1 : decode cX12_holds 1 = .ok (.iconst 0, 1) := by decide +kernel
theorem dX12_holds_2 : decode cX12_holds 2 = .ok (.putfield 142, 3) := by decide +kernel
theorem dX12_holds_5 : decode cX12_holds 5 = .ok (.aload_n 0, 1) := by decide +kernel
theorem dX12_holds_6 : decode cX12_holds 6 = .ok (.iload_n 1, 1) := by decide +kernel
theorem dX12_holds_7 : decode cX12_holds 7 = .ok (.invokevirtual 195, 3) := by decide +kernel
theorem dX12_holds_10 : decode cX12_holds 10 = .ok (.ifCond .eq 28, 3) := by decide +kernel
theorem dX12_holds_13 : decode cX12_holds 13 = .ok (.aload_n 0, 1) := by decide +kernel
theorem dX12_holds_14 : decode cX12_holds 14 = .ok (.getfield 13, 3) := by decide +kernel
theorem dX12_holds_17 : decode cX12_holds 17 = .ok (.bipush 25, 2) := by decide +kernel
theorem dX12_holds_19 : decode cX12_holds 19 = .ok (.iload_n 1, 1) := by decide +kernel
theorem dX12_holds_20 : decode cX12_holds 20 = .ok (.iadd, 1) := by decide +kernel
theorem dX12_holds_21 : decode cX12_holds 21 = .ok (.iaload, 1) := by decide +kernel
theorem dX12_holds_22 : decode cX12_holds 22 = .ok (.iconst 1, 1) := by decide +kernel
theorem dX12_holds_23 : decode cX12_holds 23 = .ok (.if_icmp .eq 15, 3) := by decide +kernel
theorem dX12_holds_26 : decode cX12_holds 26 = .ok (.iload_n 2, 1) := by decide +kernel
theorem dX12_holds_27 : decode cX12_holds 27 = .ok (.i2l, 1) := by decide +kernel
theorem dX12_holds_28 : decode cX12_holds 28 = .ok (.lconst 0, 1) := by decide +kernel
theorem dX12_holds_29 : decode cX12_holds 29 = .ok (.ldc2_w 447, 3) := by decide +kernel
theorem dX12_holds_32 : decode cX12_holds 32 = .ok (.invokestatic 162, 3) := by decide +kernel
theorem dX12_holds_35 : decode cX12_holds 35 = .ok (.ifCond .ne 7, 3) := by decide +kernel
theorem dX12_holds_38 : decode cX12_holds 38 = .ok (.ldc2_w 252, 3) := by decide +kernel
theorem dX12_holds_41 : decode cX12_holds 41 = .ok (.lreturn, 1) := by decide +kernel
theorem dX12_holds_42 : decode cX12_holds 42 = .ok (.iconst 0, 1) := by decide +kernel
theorem dX12_holds_43 : decode cX12_holds 43 = .ok (.istore_n 3, 1) := by decide +kernel
theorem dX12_holds_44 : decode cX12_holds 44 = .ok (.bipush 9, 2) := by decide +kernel
theorem dX12_holds_46 : decode cX12_holds 46 = .ok (.istore 4, 2) := by decide +kernel
theorem dX12_holds_48 : decode cX12_holds 48 = .ok (.iload 4, 2) := by decide +kernel
theorem dX12_holds_50 : decode cX12_holds 50 = .ok (.bipush 100, 2) := by decide +kernel
theorem dX12_holds_52 : decode cX12_holds 52 = .ok (.if_icmp .ge 50, 3) := by decide +kernel
theorem dX12_holds_55 : decode cX12_holds 55 = .ok (.iload_n 3, 1) := by decide +kernel
theorem dX12_holds_56 : decode cX12_holds 56 = .ok (.iload 4, 2) := by decide +kernel
theorem dX12_holds_58 : decode cX12_holds 58 = .ok (.aload_n 0, 1) := by decide +kernel
theorem dX12_holds_59 : decode cX12_holds 59 = .ok (.getfield 13, 3) := by decide +kernel
theorem dX12_holds_62 : decode cX12_holds 62 = .ok (.bipush 13, 2) := by decide +kernel
theorem dX12_holds_64 : decode cX12_holds 64 = .ok (.iload_n 1, 1) := by decide +kernel
theorem dX12_holds_65 : decode cX12_holds 65 = .ok (.iadd, 1) := by decide +kernel
theorem dX12_holds_66 : decode cX12_holds 66 = .ok (.iaload, 1) := by decide +kernel
theorem dX12_holds_67 : decode cX12_holds 67 = .ok (.if_icmp .le 26, 3) := by decide +kernel
theorem dX12_holds_70 : decode cX12_holds 70 = .ok (.aload_n 0, 1) := by decide +kernel
theorem dX12_holds_71 : decode cX12_holds 71 = .ok (.iload_n 1, 1) := by decide +kernel
theorem dX12_holds_72 : decode cX12_holds 72 = .ok (.iload 4, 2) := by decide +kernel
theorem dX12_holds_74 : decode cX12_holds 74 = .ok (.aload_n 0, 1) := by decide +kernel
theorem dX12_holds_75 : decode cX12_holds 75 = .ok (.getfield 13, 3) := by decide +kernel
theorem dX12_holds_78 : decode cX12_holds 78 = .ok (.bipush 19, 2) := by decide +kernel
theorem dX12_holds_80 : decode cX12_holds 80 = .ok (.iload_n 1, 1) := by decide +kernel
theorem dX12_holds_81 : decode cX12_holds 81 = .ok (.iadd, 1) := by decide +kernel
theorem dX12_holds_82 : decode cX12_holds 82 = .ok (.iaload, 1) := by decide +kernel
theorem dX12_holds_83 : decode cX12_holds 83 = .ok (.invokevirtual 416, 3) := by decide +kernel
theorem dX12_holds_86 : decode cX12_holds 86 = .ok (.ifCond .ne 7, 3) := by decide +kernel
theorem dX12_holds_89 : decode cX12_holds 89 = .ok (.iconst 0, 1) := by decide +kernel
theorem dX12_holds_90 : decode cX12_holds 90 = .ok (.goto 4, 3) := by decide +kernel
theorem dX12_holds_93 : decode cX12_holds 93 = .ok (.iconst 1, 1) := by decide +kernel
theorem dX12_holds_94 : decode cX12_holds 94 = .ok (.iadd, 1) := by decide +kernel
theorem dX12_holds_95 : decode cX12_holds 95 = .ok (.istore_n 3, 1) := by decide +kernel
theorem dX12_holds_96 : decode cX12_holds 96 = .ok (.iinc 4 10, 3) := by decide +kernel
theorem dX12_holds_99 : decode cX12_holds 99 = .ok (.goto (-51), 3) := by decide +kernel
theorem dX12_holds_102 : decode cX12_holds 102 = .ok (.ldc2_w 449, 3) := by decide +kernel
theorem dX12_holds_105 : decode cX12_holds 105 = .ok (.lstore 4, 2) := by decide +kernel
theorem dX12_holds_107 : decode cX12_holds 107 = .ok (.iconst 0, 1) := by decide +kernel
theorem dX12_holds_108 : decode cX12_holds 108 = .ok (.istore 6, 2) := by decide +kernel
theorem dX12_holds_110 : decode cX12_holds 110 = .ok (.iload 6, 2) := by decide +kernel
theorem dX12_holds_112 : decode cX12_holds 112 = .ok (.iload_n 2, 1) := by decide +kernel
theorem dX12_holds_113 : decode cX12_holds 113 = .ok (.if_icmp .ge 20, 3) := by decide +kernel
theorem dX12_holds_116 : decode cX12_holds 116 = .ok (.lload 4, 2) := by decide +kernel
theorem dX12_holds_118 : decode cX12_holds 118 = .ok (.iload_n 3, 1) := by decide +kernel
theorem dX12_holds_119 : decode cX12_holds 119 = .ok (.i2l, 1) := by decide +kernel
theorem dX12_holds_120 : decode cX12_holds 120 = .ok (.lmul, 1) := by decide +kernel
theorem dX12_holds_121 : decode cX12_holds 121 = .ok (.ldc2_w 204, 3) := by decide +kernel
theorem dX12_holds_124 : decode cX12_holds 124 = .ok (.ldiv, 1) := by decide +kernel
theorem dX12_holds_125 : decode cX12_holds 125 = .ok (.lstore 4, 2) := by decide +kernel
theorem dX12_holds_127 : decode cX12_holds 127 = .ok (.iinc 6 1, 3) := by decide +kernel
theorem dX12_holds_130 : decode cX12_holds 130 = .ok (.goto (-20), 3) := by decide +kernel
theorem dX12_holds_133 : decode cX12_holds 133 = .ok (.lload 4, 2) := by decide +kernel
theorem dX12_holds_135 : decode cX12_holds 135 = .ok (.lreturn, 1) := by decide +kernel
theorem dX12_hoursBy_0 : decode cX12_hoursBy 0 = .ok (.aload_n 0, 1) := by decide +kernel
theorem dX12_hoursBy_1 : decode cX12_hoursBy 1 = .ok (.getfield 13, 3) := by decide +kernel
theorem dX12_hoursBy_4 : decode cX12_hoursBy 4 = .ok (.bipush 55, 2) := by decide +kernel
theorem dX12_hoursBy_6 : decode cX12_hoursBy 6 = .ok (.bipush 6, 2) := by decide +kernel
theorem dX12_hoursBy_8 : decode cX12_hoursBy 8 = .ok (.iload_n 1, 1) := by decide +kernel
theorem dX12_hoursBy_9 : decode cX12_hoursBy 9 = .ok (.imul, 1) := by decide +kernel
theorem dX12_hoursBy_10 : decode cX12_hoursBy 10 = .ok (.iadd, 1) := by decide +kernel
theorem dX12_hoursBy_11 : decode cX12_hoursBy 11 = .ok (.iload_n 2, 1) := by decide +kernel
theorem dX12_hoursBy_12 : decode cX12_hoursBy 12 = .ok (.iadd, 1) := by decide +kernel
theorem dX12_hoursBy_13 : decode cX12_hoursBy 13 = .ok (.iaload, 1) := by decide +kernel
theorem dX12_hoursBy_14 : decode cX12_hoursBy 14 = .ok (.istore 4, 2) := by decide +kernel
theorem dX12_hoursBy_16 : decode cX12_hoursBy 16 = .ok (.iload_n 2, 1) := by decide +kernel
theorem dX12_hoursBy_17 : decode cX12_hoursBy 17 = .ok (.iload_n 3, 1) := by decide +kernel
theorem dX12_hoursBy_18 : decode cX12_hoursBy 18 = .ok (.if_icmp .eq 15, 3) := by decide +kernel
theorem dX12_hoursBy_21 : decode cX12_hoursBy 21 = .ok (.aload_n 0, 1) := by decide +kernel
theorem dX12_hoursBy_22 : decode cX12_hoursBy 22 = .ok (.getfield 13, 3) := by decide +kernel
theorem dX12_hoursBy_25 : decode cX12_hoursBy 25 = .ok (.bipush 25, 2) := by decide +kernel
theorem dX12_hoursBy_27 : decode cX12_hoursBy 27 = .ok (.iload_n 2, 1) := by decide +kernel
theorem dX12_hoursBy_28 : decode cX12_hoursBy 28 = .ok (.iadd, 1) := by decide +kernel
theorem dX12_hoursBy_29 : decode cX12_hoursBy 29 = .ok (.iaload, 1) := by decide +kernel
theorem dX12_hoursBy_30 : decode cX12_hoursBy 30 = .ok (.ifCond .ne 7, 3) := by decide +kernel
theorem dX12_hoursBy_33 : decode cX12_hoursBy 33 = .ok (.iconst 1, 1) := by decide +kernel
theorem dX12_hoursBy_34 : decode cX12_hoursBy 34 = .ok (.goto 4, 3) := by decide +kernel
theorem dX12_hoursBy_37 : decode cX12_hoursBy 37 = .ok (.iconst 0, 1) := by decide +kernel
theorem dX12_hoursBy_38 : decode cX12_hoursBy 38 = .ok (.istore 5, 2) := by decide +kernel
theorem dX12_hoursBy_40 : decode cX12_hoursBy 40 = .ok (.iload 4, 2) := by decide +kernel
theorem dX12_hoursBy_42 : decode cX12_hoursBy 42 = .ok (.ifCond .eq 20, 3) := by decide +kernel
theorem dX12_hoursBy_45 : decode cX12_hoursBy 45 = .ok (.iload 5, 2) := by decide +kernel
theorem dX12_hoursBy_47 : decode cX12_hoursBy 47 = .ok (.ifCond .eq 15, 3) := by decide +kernel
theorem dX12_hoursBy_50 : decode cX12_hoursBy 50 = .ok (.aload_n 0, 1) := by decide +kernel
theorem dX12_hoursBy_51 : decode cX12_hoursBy 51 = .ok (.getfield 110, 3) := by decide +kernel
theorem dX12_hoursBy_54 : decode cX12_hoursBy 54 = .ok (.iload_n 2, 1) := by decide +kernel
theorem dX12_hoursBy_55 : decode cX12_hoursBy 55 = .ok (.iaload, 1) := by decide +kernel
theorem dX12_hoursBy_56 : decode cX12_hoursBy 56 = .ok (.ldc_w 446, 3) := by decide +kernel
theorem dX12_hoursBy_59 : decode cX12_hoursBy 59 = .ok (.if_icmp .ne 9, 3) := by decide +kernel
theorem dX12_hoursBy_62 : decode cX12_hoursBy 62 = .ok (.ldc_w 446, 3) := by decide +kernel
theorem dX12_hoursBy_65 : decode cX12_hoursBy 65 = .ok (.goto 12, 3) := by decide +kernel
theorem dX12_hoursBy_68 : decode cX12_hoursBy 68 = .ok (.iload 4, 2) := by decide +kernel
theorem dX12_hoursBy_70 : decode cX12_hoursBy 70 = .ok (.aload_n 0, 1) := by decide +kernel
theorem dX12_hoursBy_71 : decode cX12_hoursBy 71 = .ok (.getfield 110, 3) := by decide +kernel
theorem dX12_hoursBy_74 : decode cX12_hoursBy 74 = .ok (.iload_n 2, 1) := by decide +kernel
theorem dX12_hoursBy_75 : decode cX12_hoursBy 75 = .ok (.iaload, 1) := by decide +kernel
theorem dX12_hoursBy_76 : decode cX12_hoursBy 76 = .ok (.iadd, 1) := by decide +kernel
theorem dX12_hoursBy_77 : decode cX12_hoursBy 77 = .ok (.ireturn, 1) := by decide +kernel
theorem dX12_layHours_0 : decode cX12_layHours 0 = .ok (.aload_n 0, 1) := by decide +kernel
theorem dX12_layHours_1 : decode cX12_layHours 1 = .ok (.getfield 13, 3) := by decide +kernel
theorem dX12_layHours_4 : decode cX12_layHours 4 = .ok (.iconst 0, 1) := by decide +kernel
theorem dX12_layHours_5 : decode cX12_layHours 5 = .ok (.iaload, 1) := by decide +kernel
theorem dX12_layHours_6 : decode cX12_layHours 6 = .ok (.istore_n 3, 1) := by decide +kernel
theorem dX12_layHours_7 : decode cX12_layHours 7 = .ok (.iconst 0, 1) := by decide +kernel
theorem dX12_layHours_8 : decode cX12_layHours 8 = .ok (.istore 4, 2) := by decide +kernel
theorem dX12_layHours_10 : decode cX12_layHours 10 = .ok (.iload 4, 2) := by decide +kernel
theorem dX12_layHours_12 : decode cX12_layHours 12 = .ok (.iload_n 3, 1) := by decide +kernel
theorem dX12_layHours_13 : decode cX12_layHours 13 = .ok (.if_icmp .ge 29, 3) := by decide +kernel
theorem dX12_layHours_16 : decode cX12_layHours 16 = .ok (.aload_n 0, 1) := by decide +kernel
theorem dX12_layHours_17 : decode cX12_layHours 17 = .ok (.getfield 110, 3) := by decide +kernel
theorem dX12_layHours_20 : decode cX12_layHours 20 = .ok (.iload 4, 2) := by decide +kernel
theorem dX12_layHours_22 : decode cX12_layHours 22 = .ok (.iload 4, 2) := by decide +kernel
theorem dX12_layHours_24 : decode cX12_layHours 24 = .ok (.iload_n 2, 1) := by decide +kernel
theorem dX12_layHours_25 : decode cX12_layHours 25 = .ok (.if_icmp .ne 7, 3) := by decide +kernel
theorem dX12_layHours_28 : decode cX12_layHours 28 = .ok (.iconst 0, 1) := by decide +kernel
theorem dX12_layHours_29 : decode cX12_layHours 29 = .ok (.goto 6, 3) := by decide +kernel
theorem dX12_layHours_32 : decode cX12_layHours 32 = .ok (.ldc_w 446, 3) := by decide +kernel
theorem dX12_layHours_35 : decode cX12_layHours 35 = .ok (.iastore, 1) := by decide +kernel
theorem dX12_layHours_36 : decode cX12_layHours 36 = .ok (.iinc 4 1, 3) := by decide +kernel
theorem dX12_layHours_39 : decode cX12_layHours 39 = .ok (.goto (-29), 3) := by decide +kernel
theorem dX12_layHours_42 : decode cX12_layHours 42 = .ok (.iconst 0, 1) := by decide +kernel
theorem dX12_layHours_43 : decode cX12_layHours 43 = .ok (.istore 4, 2) := by decide +kernel
theorem dX12_layHours_45 : decode cX12_layHours 45 = .ok (.iload 4, 2) := by decide +kernel
theorem dX12_layHours_47 : decode cX12_layHours 47 = .ok (.iload_n 3, 1) := by decide +kernel
theorem dX12_layHours_48 : decode cX12_layHours 48 = .ok (.if_icmp .ge 87, 3) := by decide +kernel
theorem dX12_layHours_51 : decode cX12_layHours 51 = .ok (.iconst 0, 1) := by decide +kernel
theorem dX12_layHours_52 : decode cX12_layHours 52 = .ok (.istore 5, 2) := by decide +kernel
theorem dX12_layHours_54 : decode cX12_layHours 54 = .ok (.iload 5, 2) := by decide +kernel
theorem dX12_layHours_56 : decode cX12_layHours 56 = .ok (.iload_n 3, 1) := by decide +kernel
theorem dX12_layHours_57 : decode cX12_layHours 57 = .ok (.if_icmp .ge 72, 3) := by decide +kernel
theorem dX12_layHours_60 : decode cX12_layHours 60 = .ok (.iconst 0, 1) := by decide +kernel
theorem dX12_layHours_61 : decode cX12_layHours 61 = .ok (.istore 6, 2) := by decide +kernel
theorem dX12_layHours_63 : decode cX12_layHours 63 = .ok (.iload 6, 2) := by decide +kernel
theorem dX12_layHours_65 : decode cX12_layHours 65 = .ok (.iload_n 3, 1) := by decide +kernel
theorem dX12_layHours_66 : decode cX12_layHours 66 = .ok (.if_icmp .ge 57, 3) := by decide +kernel
theorem dX12_layHours_69 : decode cX12_layHours 69 = .ok (.iload 5, 2) := by decide +kernel
theorem dX12_layHours_71 : decode cX12_layHours 71 = .ok (.iload_n 2, 1) := by decide +kernel
theorem dX12_layHours_72 : decode cX12_layHours 72 = .ok (.if_icmp .eq 51, 3) := by decide +kernel
theorem dX12_layHours_75 : decode cX12_layHours 75 = .ok (.aload_n 0, 1) := by decide +kernel
theorem dX12_layHours_76 : decode cX12_layHours 76 = .ok (.iload 5, 2) := by decide +kernel
theorem dX12_layHours_78 : decode cX12_layHours 78 = .ok (.iload 6, 2) := by decide +kernel
theorem dX12_layHours_80 : decode cX12_layHours 80 = .ok (.iload_n 2, 1) := by decide +kernel
theorem dX12_layHours_81 : decode cX12_layHours 81 = .ok (.invokevirtual 451, 3) := by decide +kernel
theorem dX12_layHours_84 : decode cX12_layHours 84 = .ok (.istore 7, 2) := by decide +kernel
theorem dX12_layHours_86 : decode cX12_layHours 86 = .ok (.aload_n 0, 1) := by decide +kernel
theorem dX12_layHours_87 : decode cX12_layHours 87 = .ok (.getfield 110, 3) := by decide +kernel
theorem dX12_layHours_90 : decode cX12_layHours 90 = .ok (.iload 5, 2) := by decide +kernel
theorem dX12_layHours_92 : decode cX12_layHours 92 = .ok (.iload 7, 2) := by decide +kernel
theorem dX12_layHours_94 : decode cX12_layHours 94 = .ok (.aload_n 0, 1) := by decide +kernel
theorem dX12_layHours_95 : decode cX12_layHours 95 = .ok (.getfield 110, 3) := by decide +kernel
theorem dX12_layHours_98 : decode cX12_layHours 98 = .ok (.iload 5, 2) := by decide +kernel
theorem dX12_layHours_100 : decode cX12_layHours 100 = .ok (.iaload, 1) := by decide +kernel
theorem dX12_layHours_101 : decode cX12_layHours 101 = .ok (.if_icmp .ge 8, 3) := by decide +kernel
theorem dX12_layHours_104 : decode cX12_layHours 104 = .ok (.iload 7, 2) := by decide +kernel
theorem dX12_layHours_106 : decode cX12_layHours 106 = .ok (.goto 10, 3) := by decide +kernel
theorem dX12_layHours_109 : decode cX12_layHours 109 = .ok (.aload_n 0, 1) := by decide +kernel
theorem dX12_layHours_110 : decode cX12_layHours 110 = .ok (.getfield 110, 3) := by decide +kernel
theorem dX12_layHours_113 : decode cX12_layHours 113 = .ok (.iload 5, 2) := by decide +kernel
theorem dX12_layHours_115 : decode cX12_layHours 115 = .ok (.iaload, 1) := by decide +kernel
theorem dX12_layHours_116 : decode cX12_layHours 116 = .ok (.iastore, 1) := by decide +kernel
theorem dX12_layHours_117 : decode cX12_layHours 117 = .ok (.iinc 6 1, 3) := by decide +kernel
theorem dX12_layHours_120 : decode cX12_layHours 120 = .ok (.goto (-57), 3) := by decide +kernel
theorem dX12_layHours_123 : decode cX12_layHours 123 = .ok (.iinc 5 1, 3) := by decide +kernel
theorem dX12_layHours_126 : decode cX12_layHours 126 = .ok (.goto (-72), 3) := by decide +kernel
theorem dX12_layHours_129 : decode cX12_layHours 129 = .ok (.iinc 4 1, 3) := by decide +kernel
theorem dX12_layHours_132 : decode cX12_layHours 132 = .ok (.goto (-87), 3) := by decide +kernel
theorem dX12_layHours_135 : decode cX12_layHours 135 = .ok (.return_, 1) := by decide +kernel
theorem dX12_retreat_0 : decode cX12_retreat 0 = .ok (.aload_n 0, 1) := by decide +kernel
theorem dX12_retreat_1 : decode cX12_retreat 1 = .ok (.iconst 0, 1) := by decide +kernel
theorem dX12_retreat_2 : decode cX12_retreat 2 = .ok (.putfield 142, 3) := by decide +kernel
theorem dX12_retreat_5 : decode cX12_retreat 5 = .ok (.aload_n 0, 1) := by decide +kernel
theorem dX12_retreat_6 : decode cX12_retreat 6 = .ok (.iload_n 1, 1) := by decide +kernel
theorem dX12_retreat_7 : decode cX12_retreat 7 = .ok (.invokevirtual 195, 3) := by decide +kernel
theorem dX12_retreat_10 : decode cX12_retreat 10 = .ok (.ifCond .eq 21, 3) := by decide +kernel
theorem dX12_retreat_13 : decode cX12_retreat 13 = .ok (.aload_n 0, 1) := by decide +kernel
theorem dX12_retreat_14 : decode cX12_retreat 14 = .ok (.iload_n 2, 1) := by decide +kernel
theorem dX12_retreat_15 : decode cX12_retreat 15 = .ok (.invokevirtual 195, 3) := by decide +kernel
theorem dX12_retreat_18 : decode cX12_retreat 18 = .ok (.ifCond .eq 13, 3) := by decide +kernel
theorem dX12_retreat_21 : decode cX12_retreat 21 = .ok (.iload_n 1, 1) := by decide +kernel
theorem dX12_retreat_22 : decode cX12_retreat 22 = .ok (.iload_n 2, 1) := by decide +kernel
theorem dX12_retreat_23 : decode cX12_retreat 23 = .ok (.if_icmp .eq 8, 3) := by decide +kernel
theorem dX12_retreat_26 : decode cX12_retreat 26 = .ok (.iload_n 3, 1) := by decide +kernel
theorem dX12_retreat_27 : decode cX12_retreat 27 = .ok (.iconst (-1), 1) := by decide +kernel
theorem dX12_retreat_28 : decode cX12_retreat 28 = .ok (.if_icmp .ge 5, 3) := by decide +kernel
theorem dX12_retreat_31 : decode cX12_retreat 31 = .ok (.iconst (-1), 1) := by decide +kernel
theorem dX12_retreat_32 : decode cX12_retreat 32 = .ok (.ireturn, 1) := by decide +kernel
theorem dX12_retreat_33 : decode cX12_retreat 33 = .ok (.aload_n 0, 1) := by decide +kernel
theorem dX12_retreat_34 : decode cX12_retreat 34 = .ok (.iload_n 1, 1) := by decide +kernel
theorem dX12_retreat_35 : decode cX12_retreat 35 = .ok (.iload_n 2, 1) := by decide +kernel
theorem dX12_retreat_36 : decode cX12_retreat 36 = .ok (.invokevirtual 454, 3) := by decide +kernel
theorem dX12_retreat_39 : decode cX12_retreat 39 = .ok (.aload_n 0, 1) := by decide +kernel
theorem dX12_retreat_40 : decode cX12_retreat 40 = .ok (.getfield 110, 3) := by decide +kernel
theorem dX12_retreat_43 : decode cX12_retreat 43 = .ok (.iload_n 1, 1) := by decide +kernel
theorem dX12_retreat_44 : decode cX12_retreat 44 = .ok (.iaload, 1) := by decide +kernel
theorem dX12_retreat_45 : decode cX12_retreat 45 = .ok (.ldc_w 446, 3) := by decide +kernel
theorem dX12_retreat_48 : decode cX12_retreat 48 = .ok (.if_icmp .eq 8, 3) := by decide +kernel
theorem dX12_retreat_51 : decode cX12_retreat 51 = .ok (.iload_n 3, 1) := by decide +kernel
theorem dX12_retreat_52 : decode cX12_retreat 52 = .ok (.iconst (-1), 1) := by decide +kernel
theorem dX12_retreat_53 : decode cX12_retreat 53 = .ok (.if_icmp .ne 26, 3) := by decide +kernel
theorem dX12_retreat_56 : decode cX12_retreat 56 = .ok (.aload_n 0, 1) := by decide +kernel
theorem dX12_retreat_57 : decode cX12_retreat 57 = .ok (.getfield 110, 3) := by decide +kernel
theorem dX12_retreat_60 : decode cX12_retreat 60 = .ok (.iload_n 1, 1) := by decide +kernel
theorem dX12_retreat_61 : decode cX12_retreat 61 = .ok (.iaload, 1) := by decide +kernel
theorem dX12_retreat_62 : decode cX12_retreat 62 = .ok (.ldc_w 446, 3) := by decide +kernel
theorem dX12_retreat_65 : decode cX12_retreat 65 = .ok (.if_icmp .ne 7, 3) := by decide +kernel
theorem dX12_retreat_68 : decode cX12_retreat 68 = .ok (.iconst (-1), 1) := by decide +kernel
theorem dX12_retreat_69 : decode cX12_retreat 69 = .ok (.goto 9, 3) := by decide +kernel
theorem dX12_retreat_72 : decode cX12_retreat 72 = .ok (.aload_n 0, 1) := by decide +kernel
theorem dX12_retreat_73 : decode cX12_retreat 73 = .ok (.getfield 110, 3) := by decide +kernel
theorem dX12_retreat_76 : decode cX12_retreat 76 = .ok (.iload_n 1, 1) := by decide +kernel
theorem dX12_retreat_77 : decode cX12_retreat 77 = .ok (.iaload, 1) := by decide +kernel
theorem dX12_retreat_78 : decode cX12_retreat 78 = .ok (.ireturn, 1) := by decide +kernel
theorem dX12_retreat_79 : decode cX12_retreat 79 = .ok (.iload_n 1, 1) := by decide +kernel
theorem dX12_retreat_80 : decode cX12_retreat 80 = .ok (.istore 4, 2) := by decide +kernel
theorem dX12_retreat_82 : decode cX12_retreat 82 = .ok (.iconst 0, 1) := by decide +kernel
theorem dX12_retreat_83 : decode cX12_retreat 83 = .ok (.istore 5, 2) := by decide +kernel
theorem dX12_retreat_85 : decode cX12_retreat 85 = .ok (.iload 5, 2) := by decide +kernel
theorem dX12_retreat_87 : decode cX12_retreat 87 = .ok (.iload_n 3, 1) := by decide +kernel
theorem dX12_retreat_88 : decode cX12_retreat 88 = .ok (.if_icmp .gt 49, 3) := by decide +kernel
theorem dX12_retreat_91 : decode cX12_retreat 91 = .ok (.iload 4, 2) := by decide +kernel
theorem dX12_retreat_93 : decode cX12_retreat 93 = .ok (.iload_n 2, 1) := by decide +kernel
theorem dX12_retreat_94 : decode cX12_retreat 94 = .ok (.if_icmp .ne 5, 3) := by decide +kernel
theorem dX12_retreat_97 : decode cX12_retreat 97 = .ok (.iconst (-1), 1) := by decide +kernel
theorem dX12_retreat_98 : decode cX12_retreat 98 = .ok (.ireturn, 1) := by decide +kernel
theorem dX12_retreat_99 : decode cX12_retreat 99 = .ok (.iconst 0, 1) := by decide +kernel
theorem dX12_retreat_100 : decode cX12_retreat 100 = .ok (.istore 6, 2) := by decide +kernel
theorem dX12_retreat_102 : decode cX12_retreat 102 = .ok (.aload_n 0, 1) := by decide +kernel
theorem dX12_retreat_103 : decode cX12_retreat 103 = .ok (.iload 4, 2) := by decide +kernel
theorem dX12_retreat_105 : decode cX12_retreat 105 = .ok (.iload 6, 2) := by decide +kernel
theorem dX12_retreat_107 : decode cX12_retreat 107 = .ok (.iload_n 2, 1) := by decide +kernel
theorem dX12_retreat_108 : decode cX12_retreat 108 = .ok (.invokevirtual 451, 3) := by decide +kernel
theorem dX12_retreat_111 : decode cX12_retreat 111 = .ok (.aload_n 0, 1) := by decide +kernel
theorem dX12_retreat_112 : decode cX12_retreat 112 = .ok (.getfield 110, 3) := by decide +kernel
theorem dX12_retreat_115 : decode cX12_retreat 115 = .ok (.iload 4, 2) := by decide +kernel
theorem dX12_retreat_117 : decode cX12_retreat 117 = .ok (.iaload, 1) := by decide +kernel
theorem dX12_retreat_118 : decode cX12_retreat 118 = .ok (.if_icmp .eq 9, 3) := by decide +kernel
theorem dX12_retreat_121 : decode cX12_retreat 121 = .ok (.iinc 6 1, 3) := by decide +kernel
theorem dX12_retreat_124 : decode cX12_retreat 124 = .ok (.goto (-22), 3) := by decide +kernel
theorem dX12_retreat_127 : decode cX12_retreat 127 = .ok (.iload 6, 2) := by decide +kernel
theorem dX12_retreat_129 : decode cX12_retreat 129 = .ok (.istore 4, 2) := by decide +kernel
theorem dX12_retreat_131 : decode cX12_retreat 131 = .ok (.iinc 5 1, 3) := by decide +kernel
theorem dX12_retreat_134 : decode cX12_retreat 134 = .ok (.goto (-49), 3) := by decide +kernel
theorem dX12_retreat_137 : decode cX12_retreat 137 = .ok (.iload 4, 2) := by decide +kernel
theorem dX12_retreat_139 : decode cX12_retreat 139 = .ok (.ireturn, 1) := by decide +kernel
theorem dX12_common_0 : decode cX12_common 0 = .ok (.iload_n 0, 1) := by decide +kernel
theorem dX12_common_1 : decode cX12_common 1 = .ok (.ifCond .ge 8, 3) := by decide +kernel
theorem dX12_common_4 : decode cX12_common 4 = .ok (.iload_n 0, 1) := by decide +kernel
theorem dX12_common_5 : decode cX12_common 5 = .ok (.ineg, 1) := by decide +kernel
theorem dX12_common_6 : decode cX12_common 6 = .ok (.goto 4, 3) := by decide +kernel
theorem dX12_common_9 : decode cX12_common 9 = .ok (.iload_n 0, 1) := by decide +kernel
theorem dX12_common_10 : decode cX12_common 10 = .ok (.istore_n 2, 1) := by decide +kernel
theorem dX12_common_11 : decode cX12_common 11 = .ok (.iload_n 1, 1) := by decide +kernel
theorem dX12_common_12 : decode cX12_common 12 = .ok (.ifCond .ge 8, 3) := by decide +kernel
theorem dX12_common_15 : decode cX12_common 15 = .ok (.iload_n 1, 1) := by decide +kernel
theorem dX12_common_16 : decode cX12_common 16 = .ok (.ineg, 1) := by decide +kernel
theorem dX12_common_17 : decode cX12_common 17 = .ok (.goto 4, 3) := by decide +kernel
theorem dX12_common_20 : decode cX12_common 20 = .ok (.iload_n 1, 1) := by decide +kernel
theorem dX12_common_21 : decode cX12_common 21 = .ok (.istore_n 3, 1) := by decide +kernel
theorem dX12_common_22 : decode cX12_common 22 = .ok (.iload_n 3, 1) := by decide +kernel
theorem dX12_common_23 : decode cX12_common 23 = .ok (.ifCond .eq 16, 3) := by decide +kernel
theorem dX12_common_26 : decode cX12_common 26 = .ok (.iload_n 2, 1) := by decide +kernel
theorem dX12_common_27 : decode cX12_common 27 = .ok (.iload_n 3, 1) := by decide +kernel
theorem dX12_common_28 : decode cX12_common 28 = .ok (.irem, 1) := by decide +kernel
theorem dX12_common_29 : decode cX12_common 29 = .ok (.istore 4, 2) := by decide +kernel
theorem dX12_common_31 : decode cX12_common 31 = .ok (.iload_n 3, 1) := by decide +kernel
theorem dX12_common_32 : decode cX12_common 32 = .ok (.istore_n 2, 1) := by decide +kernel
theorem dX12_common_33 : decode cX12_common 33 = .ok (.iload 4, 2) := by decide +kernel
theorem dX12_common_35 : decode cX12_common 35 = .ok (.istore_n 3, 1) := by decide +kernel
theorem dX12_common_36 : decode cX12_common 36 = .ok (.goto (-14), 3) := by decide +kernel
theorem dX12_common_39 : decode cX12_common 39 = .ok (.iload_n 2, 1) := by decide +kernel
theorem dX12_common_40 : decode cX12_common 40 = .ok (.ireturn, 1) := by decide +kernel
theorem dX12_lowest_0 : decode cX12_lowest 0 = .ok (.iload_n 0, 1) := by decide +kernel
theorem dX12_lowest_1 : decode cX12_lowest 1 = .ok (.iload_n 1, 1) := by decide +kernel
theorem dX12_lowest_2 : decode cX12_lowest 2 = .ok (.invokestatic 457, 3) := by decide +kernel
theorem dX12_lowest_5 : decode cX12_lowest 5 = .ok (.istore_n 3, 1) := by decide +kernel
theorem dX12_lowest_6 : decode cX12_lowest 6 = .ok (.iload_n 1, 1) := by decide +kernel
theorem dX12_lowest_7 : decode cX12_lowest 7 = .ok (.ifCond .ge 7, 3) := by decide +kernel
theorem dX12_lowest_10 : decode cX12_lowest 10 = .ok (.iconst (-1), 1) := by decide +kernel
theorem dX12_lowest_11 : decode cX12_lowest 11 = .ok (.goto 4, 3) := by decide +kernel
theorem dX12_lowest_14 : decode cX12_lowest 14 = .ok (.iconst 1, 1) := by decide +kernel
theorem dX12_lowest_15 : decode cX12_lowest 15 = .ok (.istore 4, 2) := by decide +kernel
theorem dX12_lowest_17 : decode cX12_lowest 17 = .ok (.iload_n 2, 1) := by decide +kernel
theorem dX12_lowest_18 : decode cX12_lowest 18 = .ok (.ifCond .eq 7, 3) := by decide +kernel
theorem dX12_lowest_21 : decode cX12_lowest 21 = .ok (.iload_n 0, 1) := by decide +kernel
theorem dX12_lowest_22 : decode cX12_lowest 22 = .ok (.goto 4, 3) := by decide +kernel
theorem dX12_lowest_25 : decode cX12_lowest 25 = .ok (.iload_n 1, 1) := by decide +kernel
theorem dX12_lowest_26 : decode cX12_lowest 26 = .ok (.iload_n 3, 1) := by decide +kernel
theorem dX12_lowest_27 : decode cX12_lowest 27 = .ok (.idiv, 1) := by decide +kernel
theorem dX12_lowest_28 : decode cX12_lowest 28 = .ok (.iload 4, 2) := by decide +kernel
theorem dX12_lowest_30 : decode cX12_lowest 30 = .ok (.imul, 1) := by decide +kernel
theorem dX12_lowest_31 : decode cX12_lowest 31 = .ok (.ireturn, 1) := by decide +kernel
theorem dX12_game_0 : decode cX12_game 0 = .ok (.aload_n 0, 1) := by decide +kernel
theorem dX12_game_1 : decode cX12_game 1 = .ok (.iconst 0, 1) := by decide +kernel
theorem dX12_game_2 : decode cX12_game 2 = .ok (.putfield 142, 3) := by decide +kernel
theorem dX12_game_5 : decode cX12_game 5 = .ok (.iload_n 1, 1) := by decide +kernel
theorem dX12_game_6 : decode cX12_game 6 = .ok (.i2l, 1) := by decide +kernel
theorem dX12_game_7 : decode cX12_game 7 = .ok (.ldc2_w 432, 3) := by decide +kernel
theorem dX12_game_10 : decode cX12_game 10 = .ok (.ldc2_w 187, 3) := by decide +kernel
theorem dX12_game_13 : decode cX12_game 13 = .ok (.invokestatic 162, 3) := by decide +kernel
theorem dX12_game_16 : decode cX12_game 16 = .ok (.ifCond .eq 59, 3) := by decide +kernel
theorem dX12_game_19 : decode cX12_game 19 = .ok (.iload_n 2, 1) := by decide +kernel
theorem dX12_game_20 : decode cX12_game 20 = .ok (.i2l, 1) := by decide +kernel
theorem dX12_game_21 : decode cX12_game 21 = .ok (.ldc2_w 432, 3) := by decide +kernel
theorem dX12_game_24 : decode cX12_game 24 = .ok (.ldc2_w 187, 3) := by decide +kernel
theorem dX12_game_27 : decode cX12_game 27 = .ok (.invokestatic 162, 3) := by decide +kernel
theorem dX12_game_30 : decode cX12_game 30 = .ok (.ifCond .eq 45, 3) := by decide +kernel
theorem dX12_game_33 : decode cX12_game 33 = .ok (.iload_n 3, 1) := by decide +kernel
theorem dX12_game_34 : decode cX12_game 34 = .ok (.i2l, 1) := by decide +kernel
theorem dX12_game_35 : decode cX12_game 35 = .ok (.ldc2_w 432, 3) := by decide +kernel
theorem dX12_game_38 : decode cX12_game 38 = .ok (.ldc2_w 187, 3) := by decide +kernel
theorem dX12_game_41 : decode cX12_game 41 = .ok (.invokestatic 162, 3) := by decide +kernel
theorem dX12_game_44 : decode cX12_game 44 = .ok (.ifCond .eq 31, 3) := by decide +kernel
theorem dX12_game_47 : decode cX12_game 47 = .ok (.iload 4, 2) := by decide +kernel
theorem dX12_game_49 : decode cX12_game 49 = .ok (.i2l, 1) := by decide +kernel
theorem dX12_game_50 : decode cX12_game 50 = .ok (.ldc2_w 432, 3) := by decide +kernel
theorem dX12_game_53 : decode cX12_game 53 = .ok (.ldc2_w 187, 3) := by decide +kernel
theorem dX12_game_56 : decode cX12_game 56 = .ok (.invokestatic 162, 3) := by decide +kernel
theorem dX12_game_59 : decode cX12_game 59 = .ok (.ifCond .eq 16, 3) := by decide +kernel
theorem dX12_game_62 : decode cX12_game 62 = .ok (.iload 5, 2) := by decide +kernel
theorem dX12_game_64 : decode cX12_game 64 = .ok (.i2l, 1) := by decide +kernel
theorem dX12_game_65 : decode cX12_game 65 = .ok (.lconst 0, 1) := by decide +kernel
theorem dX12_game_66 : decode cX12_game 66 = .ok (.ldc2_w 189, 3) := by decide +kernel
theorem dX12_game_69 : decode cX12_game 69 = .ok (.invokestatic 162, 3) := by decide +kernel
theorem dX12_game_72 : decode cX12_game 72 = .ok (.ifCond .ne 7, 3) := by decide +kernel
theorem dX12_game_75 : decode cX12_game 75 = .ok (.ldc_w 460, 3) := by decide +kernel
theorem dX12_game_78 : decode cX12_game 78 = .ok (.ireturn, 1) := by decide +kernel
theorem dX12_game_79 : decode cX12_game 79 = .ok (.iload_n 1, 1) := by decide +kernel
theorem dX12_game_80 : decode cX12_game 80 = .ok (.iload_n 2, 1) := by decide +kernel
theorem dX12_game_81 : decode cX12_game 81 = .ok (.if_icmp .gt 12, 3) := by decide +kernel
theorem dX12_game_84 : decode cX12_game 84 = .ok (.iload_n 1, 1) := by decide +kernel
theorem dX12_game_85 : decode cX12_game 85 = .ok (.iload_n 3, 1) := by decide +kernel
theorem dX12_game_86 : decode cX12_game 86 = .ok (.if_icmp .lt 7, 3) := by decide +kernel
theorem dX12_game_89 : decode cX12_game 89 = .ok (.iconst 1, 1) := by decide +kernel
theorem dX12_game_90 : decode cX12_game 90 = .ok (.goto 4, 3) := by decide +kernel
theorem dX12_game_93 : decode cX12_game 93 = .ok (.iconst 0, 1) := by decide +kernel
theorem dX12_game_94 : decode cX12_game 94 = .ok (.istore 6, 2) := by decide +kernel
theorem dX12_game_96 : decode cX12_game 96 = .ok (.iload_n 2, 1) := by decide +kernel
theorem dX12_game_97 : decode cX12_game 97 = .ok (.iload_n 1, 1) := by decide +kernel
theorem dX12_game_98 : decode cX12_game 98 = .ok (.if_icmp .gt 13, 3) := by decide +kernel
theorem dX12_game_101 : decode cX12_game 101 = .ok (.iload_n 2, 1) := by decide +kernel
theorem dX12_game_102 : decode cX12_game 102 = .ok (.iload 4, 2) := by decide +kernel
theorem dX12_game_104 : decode cX12_game 104 = .ok (.if_icmp .lt 7, 3) := by decide +kernel
theorem dX12_game_107 : decode cX12_game 107 = .ok (.iconst 1, 1) := by decide +kernel
theorem dX12_game_108 : decode cX12_game 108 = .ok (.goto 4, 3) := by decide +kernel
theorem dX12_game_111 : decode cX12_game 111 = .ok (.iconst 0, 1) := by decide +kernel
theorem dX12_game_112 : decode cX12_game 112 = .ok (.istore 7, 2) := by decide +kernel
theorem dX12_game_114 : decode cX12_game 114 = .ok (.iload_n 3, 1) := by decide +kernel
theorem dX12_game_115 : decode cX12_game 115 = .ok (.iload 4, 2) := by decide +kernel
theorem dX12_game_117 : decode cX12_game 117 = .ok (.if_icmp .gt 12, 3) := by decide +kernel
theorem dX12_game_120 : decode cX12_game 120 = .ok (.iload_n 3, 1) := by decide +kernel
theorem dX12_game_121 : decode cX12_game 121 = .ok (.iload_n 1, 1) := by decide +kernel
theorem dX12_game_122 : decode cX12_game 122 = .ok (.if_icmp .lt 7, 3) := by decide +kernel
theorem dX12_game_125 : decode cX12_game 125 = .ok (.iconst 1, 1) := by decide +kernel
theorem dX12_game_126 : decode cX12_game 126 = .ok (.goto 4, 3) := by decide +kernel
theorem dX12_game_129 : decode cX12_game 129 = .ok (.iconst 0, 1) := by decide +kernel
theorem dX12_game_130 : decode cX12_game 130 = .ok (.istore 8, 2) := by decide +kernel
theorem dX12_game_132 : decode cX12_game 132 = .ok (.iload 4, 2) := by decide +kernel
theorem dX12_game_134 : decode cX12_game 134 = .ok (.iload_n 3, 1) := by decide +kernel
theorem dX12_game_135 : decode cX12_game 135 = .ok (.if_icmp .gt 13, 3) := by decide +kernel
theorem dX12_game_138 : decode cX12_game 138 = .ok (.iload 4, 2) := by decide +kernel
theorem dX12_game_140 : decode cX12_game 140 = .ok (.iload_n 2, 1) := by decide +kernel
theorem dX12_game_141 : decode cX12_game 141 = .ok (.if_icmp .lt 7, 3) := by decide +kernel
theorem dX12_game_144 : decode cX12_game 144 = .ok (.iconst 1, 1) := by decide +kernel
theorem dX12_game_145 : decode cX12_game 145 = .ok (.goto 4, 3) := by decide +kernel
theorem dX12_game_148 : decode cX12_game 148 = .ok (.iconst 0, 1) := by decide +kernel
theorem dX12_game_149 : decode cX12_game 149 = .ok (.istore 9, 2) := by decide +kernel
theorem dX12_game_151 : decode cX12_game 151 = .ok (.iload 6, 2) := by decide +kernel
theorem dX12_game_153 : decode cX12_game 153 = .ok (.ifCond .ne 18, 3) := by decide +kernel
theorem dX12_game_156 : decode cX12_game 156 = .ok (.iload 7, 2) := by decide +kernel
theorem dX12_game_158 : decode cX12_game 158 = .ok (.ifCond .ne 13, 3) := by decide +kernel
theorem dX12_game_161 : decode cX12_game 161 = .ok (.iload 8, 2) := by decide +kernel
theorem dX12_game_163 : decode cX12_game 163 = .ok (.ifCond .ne 8, 3) := by decide +kernel
theorem dX12_game_166 : decode cX12_game 166 = .ok (.iload 9, 2) := by decide +kernel
theorem dX12_game_168 : decode cX12_game 168 = .ok (.ifCond .eq 70, 3) := by decide +kernel
theorem dX12_game_171 : decode cX12_game 171 = .ok (.iload 6, 2) := by decide +kernel
theorem dX12_game_173 : decode cX12_game 173 = .ok (.ifCond .eq 7, 3) := by decide +kernel
theorem dX12_game_176 : decode cX12_game 176 = .ok (.iload_n 1, 1) := by decide +kernel
theorem dX12_game_177 : decode cX12_game 177 = .ok (.goto 23, 3) := by decide +kernel
theorem dX12_game_180 : decode cX12_game 180 = .ok (.iload 7, 2) := by decide +kernel
theorem dX12_game_182 : decode cX12_game 182 = .ok (.ifCond .eq 7, 3) := by decide +kernel
theorem dX12_game_185 : decode cX12_game 185 = .ok (.iload_n 2, 1) := by decide +kernel
theorem dX12_game_186 : decode cX12_game 186 = .ok (.goto 14, 3) := by decide +kernel
theorem dX12_game_189 : decode cX12_game 189 = .ok (.iload 8, 2) := by decide +kernel
theorem dX12_game_191 : decode cX12_game 191 = .ok (.ifCond .eq 7, 3) := by decide +kernel
theorem dX12_game_194 : decode cX12_game 194 = .ok (.iload_n 3, 1) := by decide +kernel
theorem dX12_game_195 : decode cX12_game 195 = .ok (.goto 5, 3) := by decide +kernel
theorem dX12_game_198 : decode cX12_game 198 = .ok (.iload 4, 2) := by decide +kernel
theorem dX12_game_200 : decode cX12_game 200 = .ok (.istore 10, 2) := by decide +kernel
theorem dX12_game_202 : decode cX12_game 202 = .ok (.iload 5, 2) := by decide +kernel
theorem dX12_game_204 : decode cX12_game 204 = .ok (.ifCond .ne 21, 3) := by decide +kernel
theorem dX12_game_207 : decode cX12_game 207 = .ok (.iload 6, 2) := by decide +kernel
theorem dX12_game_209 : decode cX12_game 209 = .ok (.ifCond .ne 8, 3) := by decide +kernel
theorem dX12_game_212 : decode cX12_game 212 = .ok (.iload 7, 2) := by decide +kernel
theorem dX12_game_214 : decode cX12_game 214 = .ok (.ifCond .eq 7, 3) := by decide +kernel
theorem dX12_game_217 : decode cX12_game 217 = .ok (.iconst 1, 1) := by decide +kernel
theorem dX12_game_218 : decode cX12_game 218 = .ok (.goto 19, 3) := by decide +kernel
theorem dX12_game_221 : decode cX12_game 221 = .ok (.iconst 0, 1) := by decide +kernel
theorem dX12_game_222 : decode cX12_game 222 = .ok (.goto 15, 3) := by decide +kernel
theorem dX12_game_225 : decode cX12_game 225 = .ok (.iload 5, 2) := by decide +kernel
theorem dX12_game_227 : decode cX12_game 227 = .ok (.iconst 2, 1) := by decide +kernel
theorem dX12_game_228 : decode cX12_game 228 = .ok (.if_icmp .ne 8, 3) := by decide +kernel
theorem dX12_game_231 : decode cX12_game 231 = .ok (.iload 10, 2) := by decide +kernel
theorem dX12_game_233 : decode cX12_game 233 = .ok (.goto 4, 3) := by decide +kernel
theorem dX12_game_236 : decode cX12_game 236 = .ok (.iconst 1, 1) := by decide +kernel
theorem dX12_game_237 : decode cX12_game 237 = .ok (.ireturn, 1) := by decide +kernel
theorem dX12_game_238 : decode cX12_game 238 = .ok (.iload_n 1, 1) := by decide +kernel
theorem dX12_game_239 : decode cX12_game 239 = .ok (.iload_n 2, 1) := by decide +kernel
theorem dX12_game_240 : decode cX12_game 240 = .ok (.isub, 1) := by decide +kernel
theorem dX12_game_241 : decode cX12_game 241 = .ok (.iload 4, 2) := by decide +kernel
theorem dX12_game_243 : decode cX12_game 243 = .ok (.iadd, 1) := by decide +kernel
theorem dX12_game_244 : decode cX12_game 244 = .ok (.iload_n 3, 1) := by decide +kernel
theorem dX12_game_245 : decode cX12_game 245 = .ok (.isub, 1) := by decide +kernel
theorem dX12_game_246 : decode cX12_game 246 = .ok (.istore 10, 2) := by decide +kernel
theorem dX12_game_248 : decode cX12_game 248 = .ok (.iload 5, 2) := by decide +kernel
theorem dX12_game_250 : decode cX12_game 250 = .ok (.iconst 2, 1) := by decide +kernel
theorem dX12_game_251 : decode cX12_game 251 = .ok (.if_icmp .ge 25, 3) := by decide +kernel
theorem dX12_game_254 : decode cX12_game 254 = .ok (.iload 4, 2) := by decide +kernel
theorem dX12_game_256 : decode cX12_game 256 = .ok (.iload_n 3, 1) := by decide +kernel
theorem dX12_game_257 : decode cX12_game 257 = .ok (.isub, 1) := by decide +kernel
theorem dX12_game_258 : decode cX12_game 258 = .ok (.iload 10, 2) := by decide +kernel
theorem dX12_game_260 : decode cX12_game 260 = .ok (.iload 5, 2) := by decide +kernel
theorem dX12_game_262 : decode cX12_game 262 = .ok (.ifCond .ne 7, 3) := by decide +kernel
theorem dX12_game_265 : decode cX12_game 265 = .ok (.iconst 1, 1) := by decide +kernel
theorem dX12_game_266 : decode cX12_game 266 = .ok (.goto 4, 3) := by decide +kernel
theorem dX12_game_269 : decode cX12_game 269 = .ok (.iconst 0, 1) := by decide +kernel
theorem dX12_game_270 : decode cX12_game 270 = .ok (.invokestatic 461, 3) := by decide +kernel
theorem dX12_game_273 : decode cX12_game 273 = .ok (.goto 27, 3) := by decide +kernel
theorem dX12_game_276 : decode cX12_game 276 = .ok (.iload_n 1, 1) := by decide +kernel
theorem dX12_game_277 : decode cX12_game 277 = .ok (.iload 4, 2) := by decide +kernel
theorem dX12_game_279 : decode cX12_game 279 = .ok (.imul, 1) := by decide +kernel
theorem dX12_game_280 : decode cX12_game 280 = .ok (.iload_n 2, 1) := by decide +kernel
theorem dX12_game_281 : decode cX12_game 281 = .ok (.iload_n 3, 1) := by decide +kernel
theorem dX12_game_282 : decode cX12_game 282 = .ok (.imul, 1) := by decide +kernel
theorem dX12_game_283 : decode cX12_game 283 = .ok (.isub, 1) := by decide +kernel
theorem dX12_game_284 : decode cX12_game 284 = .ok (.iload 10, 2) := by decide +kernel
theorem dX12_game_286 : decode cX12_game 286 = .ok (.iload 5, 2) := by decide +kernel
theorem dX12_game_288 : decode cX12_game 288 = .ok (.iconst 2, 1) := by decide +kernel
theorem dX12_game_289 : decode cX12_game 289 = .ok (.if_icmp .ne 7, 3) := by decide +kernel
theorem dX12_game_292 : decode cX12_game 292 = .ok (.iconst 1, 1) := by decide +kernel
theorem dX12_game_293 : decode cX12_game 293 = .ok (.goto 4, 3) := by decide +kernel
theorem dX12_game_296 : decode cX12_game 296 = .ok (.iconst 0, 1) := by decide +kernel
theorem dX12_game_297 : decode cX12_game 297 = .ok (.invokestatic 461, 3) := by decide +kernel
theorem dX12_game_300 : decode cX12_game 300 = .ok (.ireturn, 1) := by decide +kernel
theorem dX12_siege_0 : decode cX12_siege 0 = .ok (.aload_n 0, 1) := by decide +kernel
theorem dX12_siege_1 : decode cX12_siege 1 = .ok (.iconst 0, 1) := by decide +kernel
theorem dX12_siege_2 : decode cX12_siege 2 = .ok (.putfield 142, 3) := by decide +kernel
theorem dX12_siege_5 : decode cX12_siege 5 = .ok (.iload_n 1, 1) := by decide +kernel
theorem dX12_siege_6 : decode cX12_siege 6 = .ok (.i2l, 1) := by decide +kernel
theorem dX12_siege_7 : decode cX12_siege 7 = .ok (.lconst 0, 1) := by decide +kernel
theorem dX12_siege_8 : decode cX12_siege 8 = .ok (.ldc2_w 187, 3) := by decide +kernel
theorem dX12_siege_11 : decode cX12_siege 11 = .ok (.invokestatic 162, 3) := by decide +kernel
theorem dX12_siege_14 : decode cX12_siege 14 = .ok (.ifCond .eq 27, 3) := by decide +kernel
theorem dX12_siege_17 : decode cX12_siege 17 = .ok (.iload_n 2, 1) := by decide +kernel
theorem dX12_siege_18 : decode cX12_siege 18 = .ok (.i2l, 1) := by decide +kernel
theorem dX12_siege_19 : decode cX12_siege 19 = .ok (.lconst 0, 1) := by decide +kernel
theorem dX12_siege_20 : decode cX12_siege 20 = .ok (.ldc2_w 204, 3) := by decide +kernel
theorem dX12_siege_23 : decode cX12_siege 23 = .ok (.invokestatic 162, 3) := by decide +kernel
theorem dX12_siege_26 : decode cX12_siege 26 = .ok (.ifCond .eq 15, 3) := by decide +kernel
theorem dX12_siege_29 : decode cX12_siege 29 = .ok (.iload_n 3, 1) := by decide +kernel
theorem dX12_siege_30 : decode cX12_siege 30 = .ok (.i2l, 1) := by decide +kernel
theorem dX12_siege_31 : decode cX12_siege 31 = .ok (.lconst 0, 1) := by decide +kernel
theorem dX12_siege_32 : decode cX12_siege 32 = .ok (.ldc2_w 209, 3) := by decide +kernel
theorem dX12_siege_35 : decode cX12_siege 35 = .ok (.invokestatic 162, 3) := by decide +kernel
theorem dX12_siege_38 : decode cX12_siege 38 = .ok (.ifCond .ne 9, 3) := by decide +kernel
theorem dX12_siege_41 : decode cX12_siege 41 = .ok (.aload_n 0, 1) := by decide +kernel
theorem dX12_siege_42 : decode cX12_siege 42 = .ok (.iconst (-1), 1) := by decide +kernel
theorem dX12_siege_43 : decode cX12_siege 43 = .ok (.invokevirtual 155, 3) := by decide +kernel
theorem dX12_siege_46 : decode cX12_siege 46 = .ok (.ireturn, 1) := by decide +kernel
theorem dX12_siege_47 : decode cX12_siege 47 = .ok (.aload_n 0, 1) := by decide +kernel
theorem dX12_siege_48 : decode cX12_siege 48 = .ok (.getfield 13, 3) := by decide +kernel
theorem dX12_siege_51 : decode cX12_siege 51 = .ok (.iconst 1, 1) := by decide +kernel
theorem dX12_siege_52 : decode cX12_siege 52 = .ok (.iaload, 1) := by decide +kernel
theorem dX12_siege_53 : decode cX12_siege 53 = .ok (.istore 4, 2) := by decide +kernel
theorem dX12_siege_55 : decode cX12_siege 55 = .ok (.iload 4, 2) := by decide +kernel
theorem dX12_siege_57 : decode cX12_siege 57 = .ok (.bipush 8, 2) := by decide +kernel
theorem dX12_siege_59 : decode cX12_siege 59 = .ok (.if_icmp .ne 10, 3) := by decide +kernel
theorem dX12_siege_62 : decode cX12_siege 62 = .ok (.aload_n 0, 1) := by decide +kernel
theorem dX12_siege_63 : decode cX12_siege 63 = .ok (.bipush (-5), 2) := by decide +kernel
theorem dX12_siege_65 : decode cX12_siege 65 = .ok (.invokevirtual 155, 3) := by decide +kernel
theorem dX12_siege_68 : decode cX12_siege 68 = .ok (.ireturn, 1) := by decide +kernel
theorem dX12_siege_69 : decode cX12_siege 69 = .ok (.aload_n 0, 1) := by decide +kernel
theorem dX12_siege_70 : decode cX12_siege 70 = .ok (.getfield 13, 3) := by decide +kernel
theorem dX12_siege_73 : decode cX12_siege 73 = .ok (.bipush 123, 2) := by decide +kernel
theorem dX12_siege_75 : decode cX12_siege 75 = .ok (.iconst 3, 1) := by decide +kernel
theorem dX12_siege_76 : decode cX12_siege 76 = .ok (.iload 4, 2) := by decide +kernel
theorem dX12_siege_78 : decode cX12_siege 78 = .ok (.imul, 1) := by decide +kernel
theorem dX12_siege_79 : decode cX12_siege 79 = .ok (.iadd, 1) := by decide +kernel
theorem dX12_siege_80 : decode cX12_siege 80 = .ok (.iload_n 1, 1) := by decide +kernel
theorem dX12_siege_81 : decode cX12_siege 81 = .ok (.iastore, 1) := by decide +kernel
theorem dX12_siege_82 : decode cX12_siege 82 = .ok (.aload_n 0, 1) := by decide +kernel
theorem dX12_siege_83 : decode cX12_siege 83 = .ok (.getfield 13, 3) := by decide +kernel
theorem dX12_siege_86 : decode cX12_siege 86 = .ok (.bipush 123, 2) := by decide +kernel
theorem dX12_siege_88 : decode cX12_siege 88 = .ok (.iconst 3, 1) := by decide +kernel
theorem dX12_siege_89 : decode cX12_siege 89 = .ok (.iload 4, 2) := by decide +kernel
theorem dX12_siege_91 : decode cX12_siege 91 = .ok (.imul, 1) := by decide +kernel
theorem dX12_siege_92 : decode cX12_siege 92 = .ok (.iadd, 1) := by decide +kernel
theorem dX12_siege_93 : decode cX12_siege 93 = .ok (.iconst 1, 1) := by decide +kernel
theorem dX12_siege_94 : decode cX12_siege 94 = .ok (.iadd, 1) := by decide +kernel
theorem dX12_siege_95 : decode cX12_siege 95 = .ok (.iload_n 2, 1) := by decide +kernel
theorem dX12_siege_96 : decode cX12_siege 96 = .ok (.iastore, 1) := by decide +kernel
theorem dX12_siege_97 : decode cX12_siege 97 = .ok (.aload_n 0, 1) := by decide +kernel
theorem dX12_siege_98 : decode cX12_siege 98 = .ok (.getfield 13, 3) := by decide +kernel
theorem dX12_siege_101 : decode cX12_siege 101 = .ok (.bipush 123, 2) := by decide +kernel
theorem dX12_siege_103 : decode cX12_siege 103 = .ok (.iconst 3, 1) := by decide +kernel
theorem dX12_siege_104 : decode cX12_siege 104 = .ok (.iload 4, 2) := by decide +kernel
theorem dX12_siege_106 : decode cX12_siege 106 = .ok (.imul, 1) := by decide +kernel
theorem dX12_siege_107 : decode cX12_siege 107 = .ok (.iadd, 1) := by decide +kernel
theorem dX12_siege_108 : decode cX12_siege 108 = .ok (.iconst 2, 1) := by decide +kernel
theorem dX12_siege_109 : decode cX12_siege 109 = .ok (.iadd, 1) := by decide +kernel
theorem dX12_siege_110 : decode cX12_siege 110 = .ok (.iload_n 3, 1) := by decide +kernel
theorem dX12_siege_111 : decode cX12_siege 111 = .ok (.iastore, 1) := by decide +kernel
theorem dX12_siege_112 : decode cX12_siege 112 = .ok (.aload_n 0, 1) := by decide +kernel
theorem dX12_siege_113 : decode cX12_siege 113 = .ok (.getfield 13, 3) := by decide +kernel
theorem dX12_siege_116 : decode cX12_siege 116 = .ok (.iconst 1, 1) := by decide +kernel
theorem dX12_siege_117 : decode cX12_siege 117 = .ok (.dup2, 1) := by decide +kernel
theorem dX12_siege_118 : decode cX12_siege 118 = .ok (.iaload, 1) := by decide +kernel
theorem dX12_siege_119 : decode cX12_siege 119 = .ok (.iconst 1, 1) := by decide +kernel
theorem dX12_siege_120 : decode cX12_siege 120 = .ok (.iadd, 1) := by decide +kernel
theorem dX12_siege_121 : decode cX12_siege 121 = .ok (.iastore, 1) := by decide +kernel
theorem dX12_siege_122 : decode cX12_siege 122 = .ok (.aload_n 0, 1) := by decide +kernel
theorem dX12_siege_123 : decode cX12_siege 123 = .ok (.iload 4, 2) := by decide +kernel
theorem dX12_siege_125 : decode cX12_siege 125 = .ok (.invokevirtual 155, 3) := by decide +kernel
theorem dX12_siege_128 : decode cX12_siege 128 = .ok (.ireturn, 1) := by decide +kernel
theorem dX12_careful_0 : decode cX12_careful 0 = .ok (.aload_n 0, 1) := by decide +kernel
theorem dX12_careful_1 : decode cX12_careful 1 = .ok (.getfield 113, 3) := by decide +kernel
theorem dX12_careful_4 : decode cX12_careful 4 = .ok (.bipush 11, 2) := by decide +kernel
theorem dX12_careful_6 : decode cX12_careful 6 = .ok (.iload_n 1, 1) := by decide +kernel
theorem dX12_careful_7 : decode cX12_careful 7 = .ok (.imul, 1) := by decide +kernel
theorem dX12_careful_8 : decode cX12_careful 8 = .ok (.bipush 11, 2) := by decide +kernel
theorem dX12_careful_10 : decode cX12_careful 10 = .ok (.iadd, 1) := by decide +kernel
theorem dX12_careful_11 : decode cX12_careful 11 = .ok (.iload_n 2, 1) := by decide +kernel
theorem dX12_careful_12 : decode cX12_careful 12 = .ok (.i2l, 1) := by decide +kernel
theorem dX12_careful_13 : decode cX12_careful 13 = .ok (.lconst 1, 1) := by decide +kernel
theorem dX12_careful_14 : decode cX12_careful 14 = .ok (.ladd, 1) := by decide +kernel
theorem dX12_careful_15 : decode cX12_careful 15 = .ok (.iconst 0, 1) := by decide +kernel
theorem dX12_careful_16 : decode cX12_careful 16 = .ok (.bipush 10, 2) := by decide +kernel
theorem dX12_careful_18 : decode cX12_careful 18 = .ok (.invokestatic 397, 3) := by decide +kernel
theorem dX12_careful_21 : decode cX12_careful 21 = .ok (.iadd, 1) := by decide +kernel
theorem dX12_careful_22 : decode cX12_careful 22 = .ok (.iaload, 1) := by decide +kernel
theorem dX12_careful_23 : decode cX12_careful 23 = .ok (.aload_n 0, 1) := by decide +kernel
theorem dX12_careful_24 : decode cX12_careful 24 = .ok (.getfield 13, 3) := by decide +kernel
theorem dX12_careful_27 : decode cX12_careful 27 = .ok (.bipush 123, 2) := by decide +kernel
theorem dX12_careful_29 : decode cX12_careful 29 = .ok (.iconst 3, 1) := by decide +kernel
theorem dX12_careful_30 : decode cX12_careful 30 = .ok (.iload_n 1, 1) := by decide +kernel
theorem dX12_careful_31 : decode cX12_careful 31 = .ok (.imul, 1) := by decide +kernel
theorem dX12_careful_32 : decode cX12_careful 32 = .ok (.iadd, 1) := by decide +kernel
theorem dX12_careful_33 : decode cX12_careful 33 = .ok (.iaload, 1) := by decide +kernel
theorem dX12_careful_34 : decode cX12_careful 34 = .ok (.isub, 1) := by decide +kernel
theorem dX12_careful_35 : decode cX12_careful 35 = .ok (.ireturn, 1) := by decide +kernel
theorem dX12_bold_0 : decode cX12_bold 0 = .ok (.aload_n 0, 1) := by decide +kernel
theorem dX12_bold_1 : decode cX12_bold 1 = .ok (.getfield 13, 3) := by decide +kernel
theorem dX12_bold_4 : decode cX12_bold 4 = .ok (.bipush 123, 2) := by decide +kernel
theorem dX12_bold_6 : decode cX12_bold 6 = .ok (.iconst 3, 1) := by decide +kernel
theorem dX12_bold_7 : decode cX12_bold 7 = .ok (.iload_n 1, 1) := by decide +kernel
theorem dX12_bold_8 : decode cX12_bold 8 = .ok (.imul, 1) := by decide +kernel
theorem dX12_bold_9 : decode cX12_bold 9 = .ok (.iadd, 1) := by decide +kernel
theorem dX12_bold_10 : decode cX12_bold 10 = .ok (.iconst 2, 1) := by decide +kernel
theorem dX12_bold_11 : decode cX12_bold 11 = .ok (.iadd, 1) := by decide +kernel
theorem dX12_bold_12 : decode cX12_bold 12 = .ok (.iaload, 1) := by decide +kernel
theorem dX12_bold_13 : decode cX12_bold 13 = .ok (.istore_n 3, 1) := by decide +kernel
theorem dX12_bold_14 : decode cX12_bold 14 = .ok (.aload_n 0, 1) := by decide +kernel
theorem dX12_bold_15 : decode cX12_bold 15 = .ok (.getfield 113, 3) := by decide +kernel
theorem dX12_bold_18 : decode cX12_bold 18 = .ok (.bipush 11, 2) := by decide +kernel
theorem dX12_bold_20 : decode cX12_bold 20 = .ok (.iload_n 1, 1) := by decide +kernel
theorem dX12_bold_21 : decode cX12_bold 21 = .ok (.imul, 1) := by decide +kernel
theorem dX12_bold_22 : decode cX12_bold 22 = .ok (.bipush 11, 2) := by decide +kernel
theorem dX12_bold_24 : decode cX12_bold 24 = .ok (.iadd, 1) := by decide +kernel
theorem dX12_bold_25 : decode cX12_bold 25 = .ok (.iaload, 1) := by decide +kernel
theorem dX12_bold_26 : decode cX12_bold 26 = .ok (.iload_n 2, 1) := by decide +kernel
theorem dX12_bold_27 : decode cX12_bold 27 = .ok (.aload_n 0, 1) := by decide +kernel
theorem dX12_bold_28 : decode cX12_bold 28 = .ok (.getfield 13, 3) := by decide +kernel
theorem dX12_bold_31 : decode cX12_bold 31 = .ok (.bipush 123, 2) := by decide +kernel
theorem dX12_bold_33 : decode cX12_bold 33 = .ok (.iconst 3, 1) := by decide +kernel
theorem dX12_bold_34 : decode cX12_bold 34 = .ok (.iload_n 1, 1) := by decide +kernel
theorem dX12_bold_35 : decode cX12_bold 35 = .ok (.imul, 1) := by decide +kernel
theorem dX12_bold_36 : decode cX12_bold 36 = .ok (.iadd, 1) := by decide +kernel
theorem dX12_bold_37 : decode cX12_bold 37 = .ok (.iconst 1, 1) := by decide +kernel
theorem dX12_bold_38 : decode cX12_bold 38 = .ok (.iadd, 1) := by decide +kernel
theorem dX12_bold_39 : decode cX12_bold 39 = .ok (.iaload, 1) := by decide +kernel
theorem dX12_bold_40 : decode cX12_bold 40 = .ok (.if_icmp .lt 7, 3) := by decide +kernel
theorem dX12_bold_43 : decode cX12_bold 43 = .ok (.iload_n 3, 1) := by decide +kernel
theorem dX12_bold_44 : decode cX12_bold 44 = .ok (.goto 5, 3) := by decide +kernel
theorem dX12_bold_47 : decode cX12_bold 47 = .ok (.iload_n 3, 1) := by decide +kernel
theorem dX12_bold_48 : decode cX12_bold 48 = .ok (.ineg, 1) := by decide +kernel
theorem dX12_bold_49 : decode cX12_bold 49 = .ok (.iadd, 1) := by decide +kernel
theorem dX12_bold_50 : decode cX12_bold 50 = .ok (.ireturn, 1) := by decide +kernel
theorem dX12_career_0 : decode cX12_career 0 = .ok (.aload_n 0, 1) := by decide +kernel
theorem dX12_career_1 : decode cX12_career 1 = .ok (.iconst 0, 1) := by decide +kernel
theorem dX12_career_2 : decode cX12_career 2 = .ok (.putfield 142, 3) := by decide +kernel
theorem dX12_career_5 : decode cX12_career 5 = .ok (.aload_n 0, 1) := by decide +kernel
theorem dX12_career_6 : decode cX12_career 6 = .ok (.getfield 13, 3) := by decide +kernel
theorem dX12_career_9 : decode cX12_career 9 = .ok (.iconst 1, 1) := by decide +kernel
theorem dX12_career_10 : decode cX12_career 10 = .ok (.iaload, 1) := by decide +kernel
theorem dX12_career_11 : decode cX12_career 11 = .ok (.istore_n 3, 1) := by decide +kernel
theorem dX12_career_12 : decode cX12_career 12 = .ok (.iload_n 1, 1) := by decide +kernel
theorem dX12_career_13 : decode cX12_career 13 = .ok (.i2l, 1) := by decide +kernel
theorem dX12_career_14 : decode cX12_career 14 = .ok (.lconst 0, 1) := by decide +kernel
theorem dX12_career_15 : decode cX12_career 15 = .ok (.ldc2_w 204, 3) := by decide +kernel
theorem dX12_career_18 : decode cX12_career 18 = .ok (.invokestatic 162, 3) := by decide +kernel
theorem dX12_career_21 : decode cX12_career 21 = .ok (.ifCond .eq 14, 3) := by decide +kernel
theorem dX12_career_24 : decode cX12_career 24 = .ok (.iload_n 2, 1) := by decide +kernel
theorem dX12_career_25 : decode cX12_career 25 = .ok (.i2l, 1) := by decide +kernel
theorem dX12_career_26 : decode cX12_career 26 = .ok (.lconst 0, 1) := by decide +kernel
theorem dX12_career_27 : decode cX12_career 27 = .ok (.iload_n 3, 1) := by decide +kernel
theorem dX12_career_28 : decode cX12_career 28 = .ok (.i2l, 1) := by decide +kernel
theorem dX12_career_29 : decode cX12_career 29 = .ok (.invokestatic 162, 3) := by decide +kernel
theorem dX12_career_32 : decode cX12_career 32 = .ok (.ifCond .ne 7, 3) := by decide +kernel
theorem dX12_career_35 : decode cX12_career 35 = .ok (.ldc_w 460, 3) := by decide +kernel
theorem dX12_career_38 : decode cX12_career 38 = .ok (.ireturn, 1) := by decide +kernel
theorem dX12_career_39 : decode cX12_career 39 = .ok (.iconst 0, 1) := by decide +kernel
theorem dX12_career_40 : decode cX12_career 40 = .ok (.istore 4, 2) := by decide +kernel
theorem dX12_career_42 : decode cX12_career 42 = .ok (.iload 4, 2) := by decide +kernel
theorem dX12_career_44 : decode cX12_career 44 = .ok (.bipush 11, 2) := by decide +kernel
theorem dX12_career_46 : decode cX12_career 46 = .ok (.if_icmp .ge 22, 3) := by decide +kernel
theorem dX12_career_49 : decode cX12_career 49 = .ok (.aload_n 0, 1) := by decide +kernel
theorem dX12_career_50 : decode cX12_career 50 = .ok (.getfield 113, 3) := by decide +kernel
theorem dX12_career_53 : decode cX12_career 53 = .ok (.bipush 11, 2) := by decide +kernel
theorem dX12_career_55 : decode cX12_career 55 = .ok (.iload_n 3, 1) := by decide +kernel
theorem dX12_career_56 : decode cX12_career 56 = .ok (.imul, 1) := by decide +kernel
theorem dX12_career_57 : decode cX12_career 57 = .ok (.iload 4, 2) := by decide +kernel
theorem dX12_career_59 : decode cX12_career 59 = .ok (.iadd, 1) := by decide +kernel
theorem dX12_career_60 : decode cX12_career 60 = .ok (.iconst 0, 1) := by decide +kernel
theorem dX12_career_61 : decode cX12_career 61 = .ok (.iastore, 1) := by decide +kernel
theorem dX12_career_62 : decode cX12_career 62 = .ok (.iinc 4 1, 3) := by decide +kernel
theorem dX12_career_65 : decode cX12_career 65 = .ok (.goto (-23), 3) := by decide +kernel
theorem dX12_career_68 : decode cX12_career 68 = .ok (.iload_n 3, 1) := by decide +kernel
theorem dX12_career_69 : decode cX12_career 69 = .ok (.iconst 1, 1) := by decide +kernel
theorem dX12_career_70 : decode cX12_career 70 = .ok (.isub, 1) := by decide +kernel
theorem dX12_career_71 : decode cX12_career 71 = .ok (.istore 4, 2) := by decide +kernel
theorem dX12_career_73 : decode cX12_career 73 = .ok (.iload 4, 2) := by decide +kernel
theorem dX12_career_75 : decode cX12_career 75 = .ok (.ifCond .lt 76, 3) := by decide +kernel
theorem dX12_career_78 : decode cX12_career 78 = .ok (.iconst 0, 1) := by decide +kernel
theorem dX12_career_79 : decode cX12_career 79 = .ok (.istore 5, 2) := by decide +kernel
theorem dX12_career_81 : decode cX12_career 81 = .ok (.iload 5, 2) := by decide +kernel
theorem dX12_career_83 : decode cX12_career 83 = .ok (.bipush 11, 2) := by decide +kernel
theorem dX12_career_85 : decode cX12_career 85 = .ok (.if_icmp .ge 60, 3) := by decide +kernel
theorem dX12_career_88 : decode cX12_career 88 = .ok (.aload_n 0, 1) := by decide +kernel
theorem dX12_career_89 : decode cX12_career 89 = .ok (.getfield 113, 3) := by decide +kernel
theorem dX12_career_92 : decode cX12_career 92 = .ok (.bipush 11, 2) := by decide +kernel
theorem dX12_career_94 : decode cX12_career 94 = .ok (.iload 4, 2) := by decide +kernel
theorem dX12_career_96 : decode cX12_career 96 = .ok (.imul, 1) := by decide +kernel
theorem dX12_career_97 : decode cX12_career 97 = .ok (.iload 5, 2) := by decide +kernel
theorem dX12_career_99 : decode cX12_career 99 = .ok (.iadd, 1) := by decide +kernel
theorem dX12_career_100 : decode cX12_career 100 = .ok (.aload_n 0, 1) := by decide +kernel
theorem dX12_career_101 : decode cX12_career 101 = .ok (.iload 4, 2) := by decide +kernel
theorem dX12_career_103 : decode cX12_career 103 = .ok (.iload 5, 2) := by decide +kernel
theorem dX12_career_105 : decode cX12_career 105 = .ok (.invokevirtual 465, 3) := by decide +kernel
theorem dX12_career_108 : decode cX12_career 108 = .ok (.aload_n 0, 1) := by decide +kernel
theorem dX12_career_109 : decode cX12_career 109 = .ok (.iload 4, 2) := by decide +kernel
theorem dX12_career_111 : decode cX12_career 111 = .ok (.iload 5, 2) := by decide +kernel
theorem dX12_career_113 : decode cX12_career 113 = .ok (.invokevirtual 468, 3) := by decide +kernel
theorem dX12_career_116 : decode cX12_career 116 = .ok (.if_icmp .lt 14, 3) := by decide +kernel
theorem dX12_career_119 : decode cX12_career 119 = .ok (.aload_n 0, 1) := by decide +kernel
theorem dX12_career_120 : decode cX12_career 120 = .ok (.iload 4, 2) := by decide +kernel
theorem dX12_career_122 : decode cX12_career 122 = .ok (.iload 5, 2) := by decide +kernel
theorem dX12_career_124 : decode cX12_career 124 = .ok (.invokevirtual 465, 3) := by decide +kernel
theorem dX12_career_127 : decode cX12_career 127 = .ok (.goto 11, 3) := by decide +kernel
theorem dX12_career_130 : decode cX12_career 130 = .ok (.aload_n 0, 1) := by decide +kernel
theorem dX12_career_131 : decode cX12_career 131 = .ok (.iload 4, 2) := by decide +kernel
theorem dX12_career_133 : decode cX12_career 133 = .ok (.iload 5, 2) := by decide +kernel
theorem dX12_career_135 : decode cX12_career 135 = .ok (.invokevirtual 468, 3) := by decide +kernel
theorem dX12_career_138 : decode cX12_career 138 = .ok (.iastore, 1) := by decide +kernel
theorem dX12_career_139 : decode cX12_career 139 = .ok (.iinc 5 1, 3) := by decide +kernel
theorem dX12_career_142 : decode cX12_career 142 = .ok (.goto (-61), 3) := by decide +kernel
theorem dX12_career_145 : decode cX12_career 145 = .ok (.iinc 4 (-1), 3) := by decide +kernel
theorem dX12_career_148 : decode cX12_career 148 = .ok (.goto (-75), 3) := by decide +kernel
theorem dX12_career_151 : decode cX12_career 151 = .ok (.iload_n 1, 1) := by decide +kernel
theorem dX12_career_152 : decode cX12_career 152 = .ok (.istore 4, 2) := by decide +kernel
theorem dX12_career_154 : decode cX12_career 154 = .ok (.iconst 0, 1) := by decide +kernel
theorem dX12_career_155 : decode cX12_career 155 = .ok (.istore 5, 2) := by decide +kernel
theorem dX12_career_157 : decode cX12_career 157 = .ok (.iconst 0, 1) := by decide +kernel
theorem dX12_career_158 : decode cX12_career 158 = .ok (.istore 6, 2) := by decide +kernel
theorem dX12_career_160 : decode cX12_career 160 = .ok (.iload 6, 2) := by decide +kernel
theorem dX12_career_162 : decode cX12_career 162 = .ok (.iload_n 2, 1) := by decide +kernel
theorem dX12_career_163 : decode cX12_career 163 = .ok (.if_icmp .ge 62, 3) := by decide +kernel
theorem dX12_career_166 : decode cX12_career 166 = .ok (.aload_n 0, 1) := by decide +kernel
theorem dX12_career_167 : decode cX12_career 167 = .ok (.iload 6, 2) := by decide +kernel
theorem dX12_career_169 : decode cX12_career 169 = .ok (.iload 4, 2) := by decide +kernel
theorem dX12_career_171 : decode cX12_career 171 = .ok (.invokevirtual 465, 3) := by decide +kernel
theorem dX12_career_174 : decode cX12_career 174 = .ok (.aload_n 0, 1) := by decide +kernel
theorem dX12_career_175 : decode cX12_career 175 = .ok (.getfield 113, 3) := by decide +kernel
theorem dX12_career_178 : decode cX12_career 178 = .ok (.bipush 11, 2) := by decide +kernel
theorem dX12_career_180 : decode cX12_career 180 = .ok (.iload 6, 2) := by decide +kernel
theorem dX12_career_182 : decode cX12_career 182 = .ok (.imul, 1) := by decide +kernel
theorem dX12_career_183 : decode cX12_career 183 = .ok (.iload 4, 2) := by decide +kernel
theorem dX12_career_185 : decode cX12_career 185 = .ok (.iadd, 1) := by decide +kernel
theorem dX12_career_186 : decode cX12_career 186 = .ok (.iaload, 1) := by decide +kernel
theorem dX12_career_187 : decode cX12_career 187 = .ok (.if_icmp .ne 7, 3) := by decide +kernel
theorem dX12_career_190 : decode cX12_career 190 = .ok (.iconst 0, 1) := by decide +kernel
theorem dX12_career_191 : decode cX12_career 191 = .ok (.goto 4, 3) := by decide +kernel
theorem dX12_career_194 : decode cX12_career 194 = .ok (.iconst 1, 1) := by decide +kernel
theorem dX12_career_195 : decode cX12_career 195 = .ok (.istore 5, 2) := by decide +kernel
theorem dX12_career_197 : decode cX12_career 197 = .ok (.iload 5, 2) := by decide +kernel
theorem dX12_career_199 : decode cX12_career 199 = .ok (.ifCond .ne 17, 3) := by decide +kernel
theorem dX12_career_202 : decode cX12_career 202 = .ok (.iload 4, 2) := by decide +kernel
theorem dX12_career_204 : decode cX12_career 204 = .ok (.i2l, 1) := by decide +kernel
theorem dX12_career_205 : decode cX12_career 205 = .ok (.lconst 1, 1) := by decide +kernel
theorem dX12_career_206 : decode cX12_career 206 = .ok (.ladd, 1) := by decide +kernel
theorem dX12_career_207 : decode cX12_career 207 = .ok (.iconst 0, 1) := by decide +kernel
theorem dX12_career_208 : decode cX12_career 208 = .ok (.bipush 10, 2) := by decide +kernel
theorem dX12_career_210 : decode cX12_career 210 = .ok (.invokestatic 397, 3) := by decide +kernel
theorem dX12_career_213 : decode cX12_career 213 = .ok (.goto 4, 3) := by decide +kernel
theorem dX12_career_216 : decode cX12_career 216 = .ok (.iconst 0, 1) := by decide +kernel
theorem dX12_career_217 : decode cX12_career 217 = .ok (.istore 4, 2) := by decide +kernel
theorem dX12_career_219 : decode cX12_career 219 = .ok (.iinc 6 1, 3) := by decide +kernel
theorem dX12_career_222 : decode cX12_career 222 = .ok (.goto (-62), 3) := by decide +kernel
theorem dX12_career_225 : decode cX12_career 225 = .ok (.iload_n 2, 1) := by decide +kernel
theorem dX12_career_226 : decode cX12_career 226 = .ok (.ifCond .ne 12, 3) := by decide +kernel
theorem dX12_career_229 : decode cX12_career 229 = .ok (.aload_n 0, 1) := by decide +kernel
theorem dX12_career_230 : decode cX12_career 230 = .ok (.getfield 113, 3) := by decide +kernel
theorem dX12_career_233 : decode cX12_career 233 = .ok (.iload_n 1, 1) := by decide +kernel
theorem dX12_career_234 : decode cX12_career 234 = .ok (.iaload, 1) := by decide +kernel
theorem dX12_career_235 : decode cX12_career 235 = .ok (.goto 5, 3) := by decide +kernel
theorem dX12_career_238 : decode cX12_career 238 = .ok (.iload 5, 2) := by decide +kernel
theorem dX12_career_240 : decode cX12_career 240 = .ok (.ireturn, 1) := by decide +kernel
theorem dX12_fire_0 : decode cX12_fire 0 = .ok (.aload_n 0, 1) := by decide +kernel
theorem dX12_fire_1 : decode cX12_fire 1 = .ok (.iconst 0, 1) := by decide +kernel
theorem dX12_fire_2 : decode cX12_fire 2 = .ok (.putfield 142, 3) := by decide +kernel
theorem dX12_fire_5 : decode cX12_fire 5 = .ok (.iload_n 1, 1) := by decide +kernel
theorem dX12_fire_6 : decode cX12_fire 6 = .ok (.i2l, 1) := by decide +kernel
theorem dX12_fire_7 : decode cX12_fire 7 = .ok (.lconst 0, 1) := by decide +kernel
theorem dX12_fire_8 : decode cX12_fire 8 = .ok (.ldc2_w 471, 3) := by decide +kernel
theorem dX12_fire_11 : decode cX12_fire 11 = .ok (.invokestatic 162, 3) := by decide +kernel
theorem dX12_fire_14 : decode cX12_fire 14 = .ok (.ifCond .ne 9, 3) := by decide +kernel
theorem dX12_fire_17 : decode cX12_fire 17 = .ok (.aload_n 0, 1) := by decide +kernel
theorem dX12_fire_18 : decode cX12_fire 18 = .ok (.iconst (-1), 1) := by decide +kernel
theorem dX12_fire_19 : decode cX12_fire 19 = .ok (.invokevirtual 155, 3) := by decide +kernel
theorem dX12_fire_22 : decode cX12_fire 22 = .ok (.ireturn, 1) := by decide +kernel
theorem dX12_fire_23 : decode cX12_fire 23 = .ok (.aload_n 0, 1) := by decide +kernel
theorem dX12_fire_24 : decode cX12_fire 24 = .ok (.getfield 13, 3) := by decide +kernel
theorem dX12_fire_27 : decode cX12_fire 27 = .ok (.iconst 2, 1) := by decide +kernel
theorem dX12_fire_28 : decode cX12_fire 28 = .ok (.iaload, 1) := by decide +kernel
theorem dX12_fire_29 : decode cX12_fire 29 = .ok (.istore_n 2, 1) := by decide +kernel
theorem dX12_fire_30 : decode cX12_fire 30 = .ok (.iload_n 2, 1) := by decide +kernel
theorem dX12_fire_31 : decode cX12_fire 31 = .ok (.bipush 10, 2) := by decide +kernel
theorem dX12_fire_33 : decode cX12_fire 33 = .ok (.if_icmp .ne 10, 3) := by decide +kernel
theorem dX12_fire_36 : decode cX12_fire 36 = .ok (.aload_n 0, 1) := by decide +kernel
theorem dX12_fire_37 : decode cX12_fire 37 = .ok (.bipush (-5), 2) := by decide +kernel
theorem dX12_fire_39 : decode cX12_fire 39 = .ok (.invokevirtual 155, 3) := by decide +kernel
theorem dX12_fire_42 : decode cX12_fire 42 = .ok (.ireturn, 1) := by decide +kernel
theorem dX12_fire_43 : decode cX12_fire 43 = .ok (.aload_n 0, 1) := by decide +kernel
theorem dX12_fire_44 : decode cX12_fire 44 = .ok (.getfield 13, 3) := by decide +kernel
theorem dX12_fire_47 : decode cX12_fire 47 = .ok (.bipush 91, 2) := by decide +kernel
theorem dX12_fire_49 : decode cX12_fire 49 = .ok (.iload_n 2, 1) := by decide +kernel
theorem dX12_fire_50 : decode cX12_fire 50 = .ok (.iadd, 1) := by decide +kernel
theorem dX12_fire_51 : decode cX12_fire 51 = .ok (.iload_n 1, 1) := by decide +kernel
theorem dX12_fire_52 : decode cX12_fire 52 = .ok (.iastore, 1) := by decide +kernel
theorem dX12_fire_53 : decode cX12_fire 53 = .ok (.aload_n 0, 1) := by decide +kernel
theorem dX12_fire_54 : decode cX12_fire 54 = .ok (.getfield 13, 3) := by decide +kernel
theorem dX12_fire_57 : decode cX12_fire 57 = .ok (.iconst 2, 1) := by decide +kernel
theorem dX12_fire_58 : decode cX12_fire 58 = .ok (.dup2, 1) := by decide +kernel
theorem dX12_fire_59 : decode cX12_fire 59 = .ok (.iaload, 1) := by decide +kernel
theorem dX12_fire_60 : decode cX12_fire 60 = .ok (.iconst 1, 1) := by decide +kernel
theorem dX12_fire_61 : decode cX12_fire 61 = .ok (.iadd, 1) := by decide +kernel
theorem dX12_fire_62 : decode cX12_fire 62 = .ok (.iastore, 1) := by decide +kernel
theorem dX12_fire_63 : decode cX12_fire 63 = .ok (.aload_n 0, 1) := by decide +kernel
theorem dX12_fire_64 : decode cX12_fire 64 = .ok (.iload_n 2, 1) := by decide +kernel
theorem dX12_fire_65 : decode cX12_fire 65 = .ok (.invokevirtual 155, 3) := by decide +kernel
theorem dX12_fire_68 : decode cX12_fire 68 = .ok (.ireturn, 1) := by decide +kernel
theorem dX12_needs_0 : decode cX12_needs 0 = .ok (.aload_n 0, 1) := by decide +kernel
theorem dX12_needs_1 : decode cX12_needs 1 = .ok (.iconst 0, 1) := by decide +kernel
theorem dX12_needs_2 : decode cX12_needs 2 = .ok (.putfield 142, 3) := by decide +kernel
theorem dX12_needs_5 : decode cX12_needs 5 = .ok (.iload_n 1, 1) := by decide +kernel
theorem dX12_needs_6 : decode cX12_needs 6 = .ok (.i2l, 1) := by decide +kernel
theorem dX12_needs_7 : decode cX12_needs 7 = .ok (.lconst 0, 1) := by decide +kernel
theorem dX12_needs_8 : decode cX12_needs 8 = .ok (.ldc2_w 166, 3) := by decide +kernel
theorem dX12_needs_11 : decode cX12_needs 11 = .ok (.invokestatic 162, 3) := by decide +kernel
theorem dX12_needs_14 : decode cX12_needs 14 = .ok (.ifCond .eq 27, 3) := by decide +kernel
theorem dX12_needs_17 : decode cX12_needs 17 = .ok (.iload_n 2, 1) := by decide +kernel
theorem dX12_needs_18 : decode cX12_needs 18 = .ok (.i2l, 1) := by decide +kernel
theorem dX12_needs_19 : decode cX12_needs 19 = .ok (.lconst 0, 1) := by decide +kernel
theorem dX12_needs_20 : decode cX12_needs 20 = .ok (.ldc2_w 211, 3) := by decide +kernel
theorem dX12_needs_23 : decode cX12_needs 23 = .ok (.invokestatic 162, 3) := by decide +kernel
theorem dX12_needs_26 : decode cX12_needs 26 = .ok (.ifCond .eq 15, 3) := by decide +kernel
theorem dX12_needs_29 : decode cX12_needs 29 = .ok (.aload_n 0, 1) := by decide +kernel
theorem dX12_needs_30 : decode cX12_needs 30 = .ok (.bipush 101, 2) := by decide +kernel
theorem dX12_needs_32 : decode cX12_needs 32 = .ok (.iload_n 1, 1) := by decide +kernel
theorem dX12_needs_33 : decode cX12_needs 33 = .ok (.iadd, 1) := by decide +kernel
theorem dX12_needs_34 : decode cX12_needs 34 = .ok (.iload_n 2, 1) := by decide +kernel
theorem dX12_needs_35 : decode cX12_needs 35 = .ok (.invokevirtual 206, 3) := by decide +kernel
theorem dX12_needs_38 : decode cX12_needs 38 = .ok (.goto 8, 3) := by decide +kernel
theorem dX12_needs_41 : decode cX12_needs 41 = .ok (.aload_n 0, 1) := by decide +kernel
theorem dX12_needs_42 : decode cX12_needs 42 = .ok (.iconst (-1), 1) := by decide +kernel
theorem dX12_needs_43 : decode cX12_needs 43 = .ok (.invokevirtual 155, 3) := by decide +kernel
theorem dX12_needs_46 : decode cX12_needs 46 = .ok (.ireturn, 1) := by decide +kernel
theorem dX12_seenFrom_0 : decode cX12_seenFrom 0 = .ok (.iconst 0, 1) := by decide +kernel
theorem dX12_seenFrom_1 : decode cX12_seenFrom 1 = .ok (.istore_n 3, 1) := by decide +kernel
theorem dX12_seenFrom_2 : decode cX12_seenFrom 2 = .ok (.iconst 0, 1) := by decide +kernel
theorem dX12_seenFrom_3 : decode cX12_seenFrom 3 = .ok (.istore 4, 2) := by decide +kernel
theorem dX12_seenFrom_5 : decode cX12_seenFrom 5 = .ok (.iload 4, 2) := by decide +kernel
theorem dX12_seenFrom_7 : decode cX12_seenFrom 7 = .ok (.aload_n 0, 1) := by decide +kernel
theorem dX12_seenFrom_8 : decode cX12_seenFrom 8 = .ok (.getfield 13, 3) := by decide +kernel
theorem dX12_seenFrom_11 : decode cX12_seenFrom 11 = .ok (.iconst 2, 1) := by decide +kernel
theorem dX12_seenFrom_12 : decode cX12_seenFrom 12 = .ok (.iaload, 1) := by decide +kernel
theorem dX12_seenFrom_13 : decode cX12_seenFrom 13 = .ok (.if_icmp .ge 43, 3) := by decide +kernel
theorem dX12_seenFrom_16 : decode cX12_seenFrom 16 = .ok (.iload_n 3, 1) := by decide +kernel
theorem dX12_seenFrom_17 : decode cX12_seenFrom 17 = .ok (.iload_n 2, 1) := by decide +kernel
theorem dX12_seenFrom_18 : decode cX12_seenFrom 18 = .ok (.iload 4, 2) := by decide +kernel
theorem dX12_seenFrom_20 : decode cX12_seenFrom 20 = .ok (.invokestatic 170, 3) := by decide +kernel
theorem dX12_seenFrom_23 : decode cX12_seenFrom 23 = .ok (.ifCond .eq 24, 3) := by decide +kernel
theorem dX12_seenFrom_26 : decode cX12_seenFrom 26 = .ok (.aload_n 0, 1) := by decide +kernel
theorem dX12_seenFrom_27 : decode cX12_seenFrom 27 = .ok (.getfield 13, 3) := by decide +kernel
theorem dX12_seenFrom_30 : decode cX12_seenFrom 30 = .ok (.bipush 91, 2) := by decide +kernel
theorem dX12_seenFrom_32 : decode cX12_seenFrom 32 = .ok (.iload 4, 2) := by decide +kernel
theorem dX12_seenFrom_34 : decode cX12_seenFrom 34 = .ok (.iadd, 1) := by decide +kernel
theorem dX12_seenFrom_35 : decode cX12_seenFrom 35 = .ok (.iaload, 1) := by decide +kernel
theorem dX12_seenFrom_36 : decode cX12_seenFrom 36 = .ok (.iload_n 1, 1) := by decide +kernel
theorem dX12_seenFrom_37 : decode cX12_seenFrom 37 = .ok (.invokestatic 170, 3) := by decide +kernel
theorem dX12_seenFrom_40 : decode cX12_seenFrom 40 = .ok (.ifCond .eq 7, 3) := by decide +kernel
theorem dX12_seenFrom_43 : decode cX12_seenFrom 43 = .ok (.iconst 1, 1) := by decide +kernel
theorem dX12_seenFrom_44 : decode cX12_seenFrom 44 = .ok (.goto 4, 3) := by decide +kernel
theorem dX12_seenFrom_47 : decode cX12_seenFrom 47 = .ok (.iconst 0, 1) := by decide +kernel
theorem dX12_seenFrom_48 : decode cX12_seenFrom 48 = .ok (.iadd, 1) := by decide +kernel
theorem dX12_seenFrom_49 : decode cX12_seenFrom 49 = .ok (.istore_n 3, 1) := by decide +kernel
theorem dX12_seenFrom_50 : decode cX12_seenFrom 50 = .ok (.iinc 4 1, 3) := by decide +kernel
theorem dX12_seenFrom_53 : decode cX12_seenFrom 53 = .ok (.goto (-48), 3) := by decide +kernel
theorem dX12_seenFrom_56 : decode cX12_seenFrom 56 = .ok (.iload_n 3, 1) := by decide +kernel
theorem dX12_seenFrom_57 : decode cX12_seenFrom 57 = .ok (.ireturn, 1) := by decide +kernel
theorem dX12_enough_0 : decode cX12_enough 0 = .ok (.aload_n 0, 1) := by decide +kernel
theorem dX12_enough_1 : decode cX12_enough 1 = .ok (.iconst 0, 1) := by decide +kernel
theorem dX12_enough_2 : decode cX12_enough 2 = .ok (.putfield 142, 3) := by decide +kernel
theorem dX12_enough_5 : decode cX12_enough 5 = .ok (.iload_n 1, 1) := by decide +kernel
theorem dX12_enough_6 : decode cX12_enough 6 = .ok (.i2l, 1) := by decide +kernel
theorem dX12_enough_7 : decode cX12_enough 7 = .ok (.lconst 0, 1) := by decide +kernel
theorem dX12_enough_8 : decode cX12_enough 8 = .ok (.lconst 1, 1) := by decide +kernel
theorem dX12_enough_9 : decode cX12_enough 9 = .ok (.invokestatic 162, 3) := by decide +kernel
theorem dX12_enough_12 : decode cX12_enough 12 = .ok (.ifCond .ne 5, 3) := by decide +kernel
theorem dX12_enough_15 : decode cX12_enough 15 = .ok (.iconst (-1), 1) := by decide +kernel
theorem dX12_enough_16 : decode cX12_enough 16 = .ok (.ireturn, 1) := by decide +kernel
theorem dX12_enough_17 : decode cX12_enough 17 = .ok (.ldc_w 446, 3) := by decide +kernel
theorem dX12_enough_20 : decode cX12_enough 20 = .ok (.istore_n 2, 1) := by decide +kernel
theorem dX12_enough_21 : decode cX12_enough 21 = .ok (.iconst (-1), 1) := by decide +kernel
theorem dX12_enough_22 : decode cX12_enough 22 = .ok (.istore_n 3, 1) := by decide +kernel
theorem dX12_enough_23 : decode cX12_enough 23 = .ok (.iconst 0, 1) := by decide +kernel
theorem dX12_enough_24 : decode cX12_enough 24 = .ok (.istore 4, 2) := by decide +kernel
theorem dX12_enough_26 : decode cX12_enough 26 = .ok (.iload 4, 2) := by decide +kernel
theorem dX12_enough_28 : decode cX12_enough 28 = .ok (.iconst 1, 1) := by decide +kernel
theorem dX12_enough_29 : decode cX12_enough 29 = .ok (.aload_n 0, 1) := by decide +kernel
theorem dX12_enough_30 : decode cX12_enough 30 = .ok (.getfield 13, 3) := by decide +kernel
theorem dX12_enough_33 : decode cX12_enough 33 = .ok (.iconst 2, 1) := by decide +kernel
theorem dX12_enough_34 : decode cX12_enough 34 = .ok (.iaload, 1) := by decide +kernel
theorem dX12_enough_35 : decode cX12_enough 35 = .ok (.ishl, 1) := by decide +kernel
theorem dX12_enough_36 : decode cX12_enough 36 = .ok (.if_icmp .ge 101, 3) := by decide +kernel
theorem dX12_enough_39 : decode cX12_enough 39 = .ok (.iload 4, 2) := by decide +kernel
theorem dX12_enough_41 : decode cX12_enough 41 = .ok (.invokestatic 473, 3) := by decide +kernel
theorem dX12_enough_44 : decode cX12_enough 44 = .ok (.iload_n 2, 1) := by decide +kernel
theorem dX12_enough_45 : decode cX12_enough 45 = .ok (.if_icmp .ge 7, 3) := by decide +kernel
theorem dX12_enough_48 : decode cX12_enough 48 = .ok (.iconst 1, 1) := by decide +kernel
theorem dX12_enough_49 : decode cX12_enough 49 = .ok (.goto 4, 3) := by decide +kernel
theorem dX12_enough_52 : decode cX12_enough 52 = .ok (.iconst 0, 1) := by decide +kernel
theorem dX12_enough_53 : decode cX12_enough 53 = .ok (.istore 5, 2) := by decide +kernel
theorem dX12_enough_55 : decode cX12_enough 55 = .ok (.iconst 0, 1) := by decide +kernel
theorem dX12_enough_56 : decode cX12_enough 56 = .ok (.istore 6, 2) := by decide +kernel
theorem dX12_enough_58 : decode cX12_enough 58 = .ok (.iload 6, 2) := by decide +kernel
theorem dX12_enough_60 : decode cX12_enough 60 = .ok (.bipush 6, 2) := by decide +kernel
theorem dX12_enough_62 : decode cX12_enough 62 = .ok (.if_icmp .ge 42, 3) := by decide +kernel
theorem dX12_enough_65 : decode cX12_enough 65 = .ok (.iload 5, 2) := by decide +kernel
theorem dX12_enough_67 : decode cX12_enough 67 = .ok (.ifCond .eq 37, 3) := by decide +kernel
theorem dX12_enough_70 : decode cX12_enough 70 = .ok (.aload_n 0, 1) := by decide +kernel
theorem dX12_enough_71 : decode cX12_enough 71 = .ok (.iload 6, 2) := by decide +kernel
theorem dX12_enough_73 : decode cX12_enough 73 = .ok (.iload 4, 2) := by decide +kernel
theorem dX12_enough_75 : decode cX12_enough 75 = .ok (.invokevirtual 476, 3) := by decide +kernel
theorem dX12_enough_78 : decode cX12_enough 78 = .ok (.aload_n 0, 1) := by decide +kernel
theorem dX12_enough_79 : decode cX12_enough 79 = .ok (.getfield 13, 3) := by decide +kernel
theorem dX12_enough_82 : decode cX12_enough 82 = .ok (.bipush 101, 2) := by decide +kernel
theorem dX12_enough_84 : decode cX12_enough 84 = .ok (.iload 6, 2) := by decide +kernel
theorem dX12_enough_86 : decode cX12_enough 86 = .ok (.iadd, 1) := by decide +kernel
theorem dX12_enough_87 : decode cX12_enough 87 = .ok (.iaload, 1) := by decide +kernel
theorem dX12_enough_88 : decode cX12_enough 88 = .ok (.if_icmp .lt 7, 3) := by decide +kernel
theorem dX12_enough_91 : decode cX12_enough 91 = .ok (.iconst 1, 1) := by decide +kernel
theorem dX12_enough_92 : decode cX12_enough 92 = .ok (.goto 4, 3) := by decide +kernel
theorem dX12_enough_95 : decode cX12_enough 95 = .ok (.iconst 0, 1) := by decide +kernel
theorem dX12_enough_96 : decode cX12_enough 96 = .ok (.istore 5, 2) := by decide +kernel
theorem dX12_enough_98 : decode cX12_enough 98 = .ok (.iinc 6 1, 3) := by decide +kernel
theorem dX12_enough_101 : decode cX12_enough 101 = .ok (.goto (-43), 3) := by decide +kernel
theorem dX12_enough_104 : decode cX12_enough 104 = .ok (.iload 5, 2) := by decide +kernel
theorem dX12_enough_106 : decode cX12_enough 106 = .ok (.ifCond .eq 8, 3) := by decide +kernel
theorem dX12_enough_109 : decode cX12_enough 109 = .ok (.iload 4, 2) := by decide +kernel
theorem dX12_enough_111 : decode cX12_enough 111 = .ok (.goto 4, 3) := by decide +kernel
theorem dX12_enough_114 : decode cX12_enough 114 = .ok (.iload_n 3, 1) := by decide +kernel
theorem dX12_enough_115 : decode cX12_enough 115 = .ok (.istore_n 3, 1) := by decide +kernel
theorem dX12_enough_116 : decode cX12_enough 116 = .ok (.iload 5, 2) := by decide +kernel
theorem dX12_enough_118 : decode cX12_enough 118 = .ok (.ifCond .eq 11, 3) := by decide +kernel
theorem dX12_enough_121 : decode cX12_enough 121 = .ok (.iload 4, 2) := by decide +kernel
theorem dX12_enough_123 : decode cX12_enough 123 = .ok (.invokestatic 473, 3) := by decide +kernel
theorem dX12_enough_126 : decode cX12_enough 126 = .ok (.goto 4, 3) := by decide +kernel
theorem dX12_enough_129 : decode cX12_enough 129 = .ok (.iload_n 2, 1) := by decide +kernel
theorem dX12_enough_130 : decode cX12_enough 130 = .ok (.istore_n 2, 1) := by decide +kernel
theorem dX12_enough_131 : decode cX12_enough 131 = .ok (.iinc 4 1, 3) := by decide +kernel
theorem dX12_enough_134 : decode cX12_enough 134 = .ok (.goto (-108), 3) := by decide +kernel
theorem dX12_enough_137 : decode cX12_enough 137 = .ok (.iload_n 3, 1) := by decide +kernel
theorem dX12_enough_138 : decode cX12_enough 138 = .ok (.iconst (-1), 1) := by decide +kernel
theorem dX12_enough_139 : decode cX12_enough 139 = .ok (.if_icmp .eq 8, 3) := by decide +kernel
theorem dX12_enough_142 : decode cX12_enough 142 = .ok (.iload_n 1, 1) := by decide +kernel
theorem dX12_enough_143 : decode cX12_enough 143 = .ok (.iconst 1, 1) := by decide +kernel
theorem dX12_enough_144 : decode cX12_enough 144 = .ok (.if_icmp .ne 7, 3) := by decide +kernel
theorem dX12_enough_147 : decode cX12_enough 147 = .ok (.iload_n 3, 1) := by decide +kernel
theorem dX12_enough_148 : decode cX12_enough 148 = .ok (.goto 4, 3) := by decide +kernel
theorem dX12_enough_151 : decode cX12_enough 151 = .ok (.iload_n 2, 1) := by decide +kernel
theorem dX12_enough_152 : decode cX12_enough 152 = .ok (.ireturn, 1) := by decide +kernel
theorem dX12_counted_0 : decode cX12_counted 0 = .ok (.aload_n 0, 1) := by decide +kernel
theorem dX12_counted_1 : decode cX12_counted 1 = .ok (.iconst 0, 1) := by decide +kernel
theorem dX12_counted_2 : decode cX12_counted 2 = .ok (.putfield 142, 3) := by decide +kernel
theorem dX12_counted_5 : decode cX12_counted 5 = .ok (.iload_n 1, 1) := by decide +kernel
theorem dX12_counted_6 : decode cX12_counted 6 = .ok (.i2l, 1) := by decide +kernel
theorem dX12_counted_7 : decode cX12_counted 7 = .ok (.lconst 0, 1) := by decide +kernel
theorem dX12_counted_8 : decode cX12_counted 8 = .ok (.ldc2_w 166, 3) := by decide +kernel
theorem dX12_counted_11 : decode cX12_counted 11 = .ok (.invokestatic 162, 3) := by decide +kernel
theorem dX12_counted_14 : decode cX12_counted 14 = .ok (.ifCond .eq 15, 3) := by decide +kernel
theorem dX12_counted_17 : decode cX12_counted 17 = .ok (.iload_n 2, 1) := by decide +kernel
theorem dX12_counted_18 : decode cX12_counted 18 = .ok (.i2l, 1) := by decide +kernel
theorem dX12_counted_19 : decode cX12_counted 19 = .ok (.lconst 0, 1) := by decide +kernel
theorem dX12_counted_20 : decode cX12_counted 20 = .ok (.ldc2_w 211, 3) := by decide +kernel
theorem dX12_counted_23 : decode cX12_counted 23 = .ok (.invokestatic 162, 3) := by decide +kernel
theorem dX12_counted_26 : decode cX12_counted 26 = .ok (.ifCond .ne 9, 3) := by decide +kernel
theorem dX12_counted_29 : decode cX12_counted 29 = .ok (.aload_n 0, 1) := by decide +kernel
theorem dX12_counted_30 : decode cX12_counted 30 = .ok (.iconst (-1), 1) := by decide +kernel
theorem dX12_counted_31 : decode cX12_counted 31 = .ok (.invokevirtual 155, 3) := by decide +kernel
theorem dX12_counted_34 : decode cX12_counted 34 = .ok (.ireturn, 1) := by decide +kernel
theorem dX12_counted_35 : decode cX12_counted 35 = .ok (.aload_n 0, 1) := by decide +kernel
theorem dX12_counted_36 : decode cX12_counted 36 = .ok (.getfield 13, 3) := by decide +kernel
theorem dX12_counted_39 : decode cX12_counted 39 = .ok (.iconst 3, 1) := by decide +kernel
theorem dX12_counted_40 : decode cX12_counted 40 = .ok (.iaload, 1) := by decide +kernel
theorem dX12_counted_41 : decode cX12_counted 41 = .ok (.istore_n 3, 1) := by decide +kernel
theorem dX12_counted_42 : decode cX12_counted 42 = .ok (.iload_n 3, 1) := by decide +kernel
theorem dX12_counted_43 : decode cX12_counted 43 = .ok (.bipush 8, 2) := by decide +kernel
theorem dX12_counted_45 : decode cX12_counted 45 = .ok (.if_icmp .ne 10, 3) := by decide +kernel
theorem dX12_counted_48 : decode cX12_counted 48 = .ok (.aload_n 0, 1) := by decide +kernel
theorem dX12_counted_49 : decode cX12_counted 49 = .ok (.bipush (-5), 2) := by decide +kernel
theorem dX12_counted_51 : decode cX12_counted 51 = .ok (.invokevirtual 155, 3) := by decide +kernel
theorem dX12_counted_54 : decode cX12_counted 54 = .ok (.ireturn, 1) := by decide +kernel
theorem dX12_counted_55 : decode cX12_counted 55 = .ok (.aload_n 0, 1) := by decide +kernel
theorem dX12_counted_56 : decode cX12_counted 56 = .ok (.getfield 13, 3) := by decide +kernel
theorem dX12_counted_59 : decode cX12_counted 59 = .ok (.bipush 107, 2) := by decide +kernel
theorem dX12_counted_61 : decode cX12_counted 61 = .ok (.iconst 2, 1) := by decide +kernel
theorem dX12_counted_62 : decode cX12_counted 62 = .ok (.iload_n 3, 1) := by decide +kernel
theorem dX12_counted_63 : decode cX12_counted 63 = .ok (.imul, 1) := by decide +kernel
theorem dX12_counted_64 : decode cX12_counted 64 = .ok (.iadd, 1) := by decide +kernel
theorem dX12_counted_65 : decode cX12_counted 65 = .ok (.iload_n 1, 1) := by decide +kernel
theorem dX12_counted_66 : decode cX12_counted 66 = .ok (.iastore, 1) := by decide +kernel
theorem dX12_counted_67 : decode cX12_counted 67 = .ok (.aload_n 0, 1) := by decide +kernel
theorem dX12_counted_68 : decode cX12_counted 68 = .ok (.getfield 13, 3) := by decide +kernel
theorem dX12_counted_71 : decode cX12_counted 71 = .ok (.bipush 107, 2) := by decide +kernel
theorem dX12_counted_73 : decode cX12_counted 73 = .ok (.iconst 2, 1) := by decide +kernel
theorem dX12_counted_74 : decode cX12_counted 74 = .ok (.iload_n 3, 1) := by decide +kernel
theorem dX12_counted_75 : decode cX12_counted 75 = .ok (.imul, 1) := by decide +kernel
theorem dX12_counted_76 : decode cX12_counted 76 = .ok (.iadd, 1) := by decide +kernel
theorem dX12_counted_77 : decode cX12_counted 77 = .ok (.iconst 1, 1) := by decide +kernel
theorem dX12_counted_78 : decode cX12_counted 78 = .ok (.iadd, 1) := by decide +kernel
theorem dX12_counted_79 : decode cX12_counted 79 = .ok (.iload_n 2, 1) := by decide +kernel
theorem dX12_counted_80 : decode cX12_counted 80 = .ok (.iastore, 1) := by decide +kernel
theorem dX12_counted_81 : decode cX12_counted 81 = .ok (.aload_n 0, 1) := by decide +kernel
theorem dX12_counted_82 : decode cX12_counted 82 = .ok (.getfield 13, 3) := by decide +kernel
theorem dX12_counted_85 : decode cX12_counted 85 = .ok (.iconst 3, 1) := by decide +kernel
theorem dX12_counted_86 : decode cX12_counted 86 = .ok (.dup2, 1) := by decide +kernel
theorem dX12_counted_87 : decode cX12_counted 87 = .ok (.iaload, 1) := by decide +kernel
theorem dX12_counted_88 : decode cX12_counted 88 = .ok (.iconst 1, 1) := by decide +kernel
theorem dX12_counted_89 : decode cX12_counted 89 = .ok (.iadd, 1) := by decide +kernel
theorem dX12_counted_90 : decode cX12_counted 90 = .ok (.iastore, 1) := by decide +kernel
theorem dX12_counted_91 : decode cX12_counted 91 = .ok (.aload_n 0, 1) := by decide +kernel
theorem dX12_counted_92 : decode cX12_counted 92 = .ok (.iload_n 3, 1) := by decide +kernel
theorem dX12_counted_93 : decode cX12_counted 93 = .ok (.iconst 1, 1) := by decide +kernel
theorem dX12_counted_94 : decode cX12_counted 94 = .ok (.iadd, 1) := by decide +kernel
theorem dX12_counted_95 : decode cX12_counted 95 = .ok (.invokevirtual 155, 3) := by decide +kernel
theorem dX12_counted_98 : decode cX12_counted 98 = .ok (.ireturn, 1) := by decide +kernel
theorem dX12_forget_0 : decode cX12_forget 0 = .ok (.aload_n 0, 1) := by decide +kernel
theorem dX12_forget_1 : decode cX12_forget 1 = .ok (.iconst 0, 1) := by decide +kernel
theorem dX12_forget_2 : decode cX12_forget 2 = .ok (.putfield 142, 3) := by decide +kernel
theorem dX12_forget_5 : decode cX12_forget 5 = .ok (.aload_n 0, 1) := by decide +kernel
theorem dX12_forget_6 : decode cX12_forget 6 = .ok (.getfield 13, 3) := by decide +kernel
theorem dX12_forget_9 : decode cX12_forget 9 = .ok (.iconst 1, 1) := by decide +kernel
theorem dX12_forget_10 : decode cX12_forget 10 = .ok (.iaload, 1) := by decide +kernel
theorem dX12_forget_11 : decode cX12_forget 11 = .ok (.aload_n 0, 1) := by decide +kernel
theorem dX12_forget_12 : decode cX12_forget 12 = .ok (.getfield 13, 3) := by decide +kernel
theorem dX12_forget_15 : decode cX12_forget 15 = .ok (.iconst 2, 1) := by decide +kernel
theorem dX12_forget_16 : decode cX12_forget 16 = .ok (.iaload, 1) := by decide +kernel
theorem dX12_forget_17 : decode cX12_forget 17 = .ok (.iadd, 1) := by decide +kernel
theorem dX12_forget_18 : decode cX12_forget 18 = .ok (.aload_n 0, 1) := by decide +kernel
theorem dX12_forget_19 : decode cX12_forget 19 = .ok (.getfield 13, 3) := by decide +kernel
theorem dX12_forget_22 : decode cX12_forget 22 = .ok (.iconst 3, 1) := by decide +kernel
theorem dX12_forget_23 : decode cX12_forget 23 = .ok (.iaload, 1) := by decide +kernel
theorem dX12_forget_24 : decode cX12_forget 24 = .ok (.iadd, 1) := by decide +kernel
theorem dX12_forget_25 : decode cX12_forget 25 = .ok (.istore_n 1, 1) := by decide +kernel
theorem dX12_forget_26 : decode cX12_forget 26 = .ok (.aload_n 0, 1) := by decide +kernel
theorem dX12_forget_27 : decode cX12_forget 27 = .ok (.getfield 13, 3) := by decide +kernel
theorem dX12_forget_30 : decode cX12_forget 30 = .ok (.iconst 1, 1) := by decide +kernel
theorem dX12_forget_31 : decode cX12_forget 31 = .ok (.iconst 0, 1) := by decide +kernel
theorem dX12_forget_32 : decode cX12_forget 32 = .ok (.iastore, 1) := by decide +kernel
theorem dX12_forget_33 : decode cX12_forget 33 = .ok (.aload_n 0, 1) := by decide +kernel
theorem dX12_forget_34 : decode cX12_forget 34 = .ok (.getfield 13, 3) := by decide +kernel
theorem dX12_forget_37 : decode cX12_forget 37 = .ok (.iconst 2, 1) := by decide +kernel
theorem dX12_forget_38 : decode cX12_forget 38 = .ok (.iconst 0, 1) := by decide +kernel
theorem dX12_forget_39 : decode cX12_forget 39 = .ok (.iastore, 1) := by decide +kernel
theorem dX12_forget_40 : decode cX12_forget 40 = .ok (.aload_n 0, 1) := by decide +kernel
theorem dX12_forget_41 : decode cX12_forget 41 = .ok (.getfield 13, 3) := by decide +kernel
theorem dX12_forget_44 : decode cX12_forget 44 = .ok (.iconst 3, 1) := by decide +kernel
theorem dX12_forget_45 : decode cX12_forget 45 = .ok (.iconst 0, 1) := by decide +kernel
theorem dX12_forget_46 : decode cX12_forget 46 = .ok (.iastore, 1) := by decide +kernel
theorem dX12_forget_47 : decode cX12_forget 47 = .ok (.iload_n 1, 1) := by decide +kernel
theorem dX12_forget_48 : decode cX12_forget 48 = .ok (.ireturn, 1) := by decide +kernel
theorem dX12_isFitting_0 : decode cX12_isFitting 0 = .ok (.iconst 1, 1) := by decide +kernel
theorem dX12_isFitting_1 : decode cX12_isFitting 1 = .ok (.istore_n 2, 1) := by decide +kernel
theorem dX12_isFitting_2 : decode cX12_isFitting 2 = .ok (.iconst 0, 1) := by decide +kernel
theorem dX12_isFitting_3 : decode cX12_isFitting 3 = .ok (.istore_n 3, 1) := by decide +kernel
theorem dX12_isFitting_4 : decode cX12_isFitting 4 = .ok (.iload_n 3, 1) := by decide +kernel
theorem dX12_isFitting_5 : decode cX12_isFitting 5 = .ok (.aload_n 0, 1) := by decide +kernel
theorem dX12_isFitting_6 : decode cX12_isFitting 6 = .ok (.getfield 13, 3) := by decide +kernel
theorem dX12_isFitting_9 : decode cX12_isFitting 9 = .ok (.iconst 3, 1) := by decide +kernel
theorem dX12_isFitting_10 : decode cX12_isFitting 10 = .ok (.iaload, 1) := by decide +kernel
theorem dX12_isFitting_11 : decode cX12_isFitting 11 = .ok (.if_icmp .ge 51, 3) := by decide +kernel
theorem dX12_isFitting_14 : decode cX12_isFitting 14 = .ok (.iload_n 2, 1) := by decide +kernel
theorem dX12_isFitting_15 : decode cX12_isFitting 15 = .ok (.ifCond .eq 47, 3) := by decide +kernel
theorem dX12_isFitting_18 : decode cX12_isFitting 18 = .ok (.aload_n 0, 1) := by decide +kernel
theorem dX12_isFitting_19 : decode cX12_isFitting 19 = .ok (.aload_n 0, 1) := by decide +kernel
theorem dX12_isFitting_20 : decode cX12_isFitting 20 = .ok (.getfield 13, 3) := by decide +kernel
theorem dX12_isFitting_23 : decode cX12_isFitting 23 = .ok (.bipush 107, 2) := by decide +kernel
theorem dX12_isFitting_25 : decode cX12_isFitting 25 = .ok (.iconst 2, 1) := by decide +kernel
theorem dX12_isFitting_26 : decode cX12_isFitting 26 = .ok (.iload_n 3, 1) := by decide +kernel
theorem dX12_isFitting_27 : decode cX12_isFitting 27 = .ok (.imul, 1) := by decide +kernel
theorem dX12_isFitting_28 : decode cX12_isFitting 28 = .ok (.iadd, 1) := by decide +kernel
theorem dX12_isFitting_29 : decode cX12_isFitting 29 = .ok (.iaload, 1) := by decide +kernel
theorem dX12_isFitting_30 : decode cX12_isFitting 30 = .ok (.iload_n 1, 1) := by decide +kernel
theorem dX12_isFitting_31 : decode cX12_isFitting 31 = .ok (.invokevirtual 476, 3) := by decide +kernel
theorem dX12_isFitting_34 : decode cX12_isFitting 34 = .ok (.aload_n 0, 1) := by decide +kernel
theorem dX12_isFitting_35 : decode cX12_isFitting 35 = .ok (.getfield 13, 3) := by decide +kernel
theorem dX12_isFitting_38 : decode cX12_isFitting 38 = .ok (.bipush 107, 2) := by decide +kernel
theorem dX12_isFitting_40 : decode cX12_isFitting 40 = .ok (.iconst 2, 1) := by decide +kernel
theorem dX12_isFitting_41 : decode cX12_isFitting 41 = .ok (.iload_n 3, 1) := by decide +kernel
theorem dX12_isFitting_42 : decode cX12_isFitting 42 = .ok (.imul, 1) := by decide +kernel
theorem dX12_isFitting_43 : decode cX12_isFitting 43 = .ok (.iadd, 1) := by decide +kernel
theorem dX12_isFitting_44 : decode cX12_isFitting 44 = .ok (.iconst 1, 1) := by decide +kernel
theorem dX12_isFitting_45 : decode cX12_isFitting 45 = .ok (.iadd, 1) := by decide +kernel
theorem dX12_isFitting_46 : decode cX12_isFitting 46 = .ok (.iaload, 1) := by decide +kernel
theorem dX12_isFitting_47 : decode cX12_isFitting 47 = .ok (.if_icmp .ne 7, 3) := by decide +kernel
theorem dX12_isFitting_50 : decode cX12_isFitting 50 = .ok (.iconst 1, 1) := by decide +kernel
theorem dX12_isFitting_51 : decode cX12_isFitting 51 = .ok (.goto 4, 3) := by decide +kernel
theorem dX12_isFitting_54 : decode cX12_isFitting 54 = .ok (.iconst 0, 1) := by decide +kernel
theorem dX12_isFitting_55 : decode cX12_isFitting 55 = .ok (.istore_n 2, 1) := by decide +kernel
theorem dX12_isFitting_56 : decode cX12_isFitting 56 = .ok (.iinc 3 1, 3) := by decide +kernel
theorem dX12_isFitting_59 : decode cX12_isFitting 59 = .ok (.goto (-55), 3) := by decide +kernel
theorem dX12_isFitting_62 : decode cX12_isFitting 62 = .ok (.iload_n 2, 1) := by decide +kernel
theorem dX12_isFitting_63 : decode cX12_isFitting 63 = .ok (.ireturn, 1) := by decide +kernel
theorem dX12_fits_0 : decode cX12_fits 0 = .ok (.aload_n 0, 1) := by decide +kernel
theorem dX12_fits_1 : decode cX12_fits 1 = .ok (.iconst 0, 1) := by decide +kernel
theorem dX12_fits_2 : decode cX12_fits 2 = .ok (.putfield 142, 3) := by decide +kernel
theorem dX12_fits_5 : decode cX12_fits 5 = .ok (.iconst 0, 1) := by decide +kernel
theorem dX12_fits_6 : decode cX12_fits 6 = .ok (.istore_n 2, 1) := by decide +kernel
theorem dX12_fits_7 : decode cX12_fits 7 = .ok (.iconst (-1), 1) := by decide +kernel
theorem dX12_fits_8 : decode cX12_fits 8 = .ok (.istore_n 3, 1) := by decide +kernel
theorem dX12_fits_9 : decode cX12_fits 9 = .ok (.iconst 0, 1) := by decide +kernel
theorem dX12_fits_10 : decode cX12_fits 10 = .ok (.istore 4, 2) := by decide +kernel
theorem dX12_fits_12 : decode cX12_fits 12 = .ok (.iload 4, 2) := by decide +kernel
theorem dX12_fits_14 : decode cX12_fits 14 = .ok (.iconst 1, 1) := by decide +kernel
theorem dX12_fits_15 : decode cX12_fits 15 = .ok (.aload_n 0, 1) := by decide +kernel
theorem dX12_fits_16 : decode cX12_fits 16 = .ok (.getfield 13, 3) := by decide +kernel
theorem dX12_fits_19 : decode cX12_fits 19 = .ok (.iconst 2, 1) := by decide +kernel
theorem dX12_fits_20 : decode cX12_fits 20 = .ok (.iaload, 1) := by decide +kernel
theorem dX12_fits_21 : decode cX12_fits 21 = .ok (.ishl, 1) := by decide +kernel
theorem dX12_fits_22 : decode cX12_fits 22 = .ok (.if_icmp .ge 33, 3) := by decide +kernel
theorem dX12_fits_25 : decode cX12_fits 25 = .ok (.aload_n 0, 1) := by decide +kernel
theorem dX12_fits_26 : decode cX12_fits 26 = .ok (.iload 4, 2) := by decide +kernel
theorem dX12_fits_28 : decode cX12_fits 28 = .ok (.invokevirtual 479, 3) := by decide +kernel
theorem dX12_fits_31 : decode cX12_fits 31 = .ok (.ifCond .eq 18, 3) := by decide +kernel
theorem dX12_fits_34 : decode cX12_fits 34 = .ok (.iload_n 2, 1) := by decide +kernel
theorem dX12_fits_35 : decode cX12_fits 35 = .ok (.iload_n 1, 1) := by decide +kernel
theorem dX12_fits_36 : decode cX12_fits 36 = .ok (.if_icmp .ne 8, 3) := by decide +kernel
theorem dX12_fits_39 : decode cX12_fits 39 = .ok (.iload 4, 2) := by decide +kernel
theorem dX12_fits_41 : decode cX12_fits 41 = .ok (.goto 4, 3) := by decide +kernel
theorem dX12_fits_44 : decode cX12_fits 44 = .ok (.iload_n 3, 1) := by decide +kernel
theorem dX12_fits_45 : decode cX12_fits 45 = .ok (.istore_n 3, 1) := by decide +kernel
theorem dX12_fits_46 : decode cX12_fits 46 = .ok (.iinc 2 1, 3) := by decide +kernel
theorem dX12_fits_49 : decode cX12_fits 49 = .ok (.iinc 4 1, 3) := by decide +kernel
theorem dX12_fits_52 : decode cX12_fits 52 = .ok (.goto (-40), 3) := by decide +kernel
theorem dX12_fits_55 : decode cX12_fits 55 = .ok (.iload_n 1, 1) := by decide +kernel
theorem dX12_fits_56 : decode cX12_fits 56 = .ok (.iconst (-1), 1) := by decide +kernel
theorem dX12_fits_57 : decode cX12_fits 57 = .ok (.if_icmp .ne 7, 3) := by decide +kernel
theorem dX12_fits_60 : decode cX12_fits 60 = .ok (.iload_n 2, 1) := by decide +kernel
theorem dX12_fits_61 : decode cX12_fits 61 = .ok (.goto 4, 3) := by decide +kernel
theorem dX12_fits_64 : decode cX12_fits 64 = .ok (.iload_n 3, 1) := by decide +kernel
theorem dX12_fits_65 : decode cX12_fits 65 = .ok (.ireturn, 1) := by decide +kernel
theorem dX12_next_0 : decode cX12_next 0 = .ok (.aload_n 0, 1) := by decide +kernel
theorem dX12_next_1 : decode cX12_next 1 = .ok (.iconst 0, 1) := by decide +kernel
theorem dX12_next_2 : decode cX12_next 2 = .ok (.putfield 142, 3) := by decide +kernel
theorem dX12_next_5 : decode cX12_next 5 = .ok (.iload_n 1, 1) := by decide +kernel
theorem dX12_next_6 : decode cX12_next 6 = .ok (.i2l, 1) := by decide +kernel
theorem dX12_next_7 : decode cX12_next 7 = .ok (.lconst 0, 1) := by decide +kernel
theorem dX12_next_8 : decode cX12_next 8 = .ok (.lconst 1, 1) := by decide +kernel
theorem dX12_next_9 : decode cX12_next 9 = .ok (.invokestatic 162, 3) := by decide +kernel
theorem dX12_next_12 : decode cX12_next 12 = .ok (.ifCond .ne 5, 3) := by decide +kernel
theorem dX12_next_15 : decode cX12_next 15 = .ok (.iconst (-1), 1) := by decide +kernel
theorem dX12_next_16 : decode cX12_next 16 = .ok (.ireturn, 1) := by decide +kernel
theorem dX12_next_17 : decode cX12_next 17 = .ok (.iconst 0, 1) := by decide +kernel
theorem dX12_next_18 : decode cX12_next 18 = .ok (.istore_n 2, 1) := by decide +kernel
theorem dX12_next_19 : decode cX12_next 19 = .ok (.iload_n 2, 1) := by decide +kernel
theorem dX12_next_20 : decode cX12_next 20 = .ok (.bipush 66, 2) := by decide +kernel
theorem dX12_next_22 : decode cX12_next 22 = .ok (.if_icmp .ge 16, 3) := by decide +kernel
theorem dX12_next_25 : decode cX12_next 25 = .ok (.aload_n 0, 1) := by decide +kernel
theorem dX12_next_26 : decode cX12_next 26 = .ok (.getfield 116, 3) := by decide +kernel
theorem dX12_next_29 : decode cX12_next 29 = .ok (.iload_n 2, 1) := by decide +kernel
theorem dX12_next_30 : decode cX12_next 30 = .ok (.iconst 0, 1) := by decide +kernel
theorem dX12_next_31 : decode cX12_next 31 = .ok (.iastore, 1) := by decide +kernel
theorem dX12_next_32 : decode cX12_next 32 = .ok (.iinc 2 1, 3) := by decide +kernel
theorem dX12_next_35 : decode cX12_next 35 = .ok (.goto (-16), 3) := by decide +kernel
theorem dX12_next_38 : decode cX12_next 38 = .ok (.iconst 0, 1) := by decide +kernel
theorem dX12_next_39 : decode cX12_next 39 = .ok (.istore_n 2, 1) := by decide +kernel
theorem dX12_next_40 : decode cX12_next 40 = .ok (.iload_n 2, 1) := by decide +kernel
theorem dX12_next_41 : decode cX12_next 41 = .ok (.iconst 1, 1) := by decide +kernel
theorem dX12_next_42 : decode cX12_next 42 = .ok (.aload_n 0, 1) := by decide +kernel
theorem dX12_next_43 : decode cX12_next 43 = .ok (.getfield 13, 3) := by decide +kernel
theorem dX12_next_46 : decode cX12_next 46 = .ok (.iconst 2, 1) := by decide +kernel
theorem dX12_next_47 : decode cX12_next 47 = .ok (.iaload, 1) := by decide +kernel
theorem dX12_next_48 : decode cX12_next 48 = .ok (.ishl, 1) := by decide +kernel
theorem dX12_next_49 : decode cX12_next 49 = .ok (.if_icmp .ge 51, 3) := by decide +kernel
theorem dX12_next_52 : decode cX12_next 52 = .ok (.iconst 0, 1) := by decide +kernel
theorem dX12_next_53 : decode cX12_next 53 = .ok (.istore_n 3, 1) := by decide +kernel
theorem dX12_next_54 : decode cX12_next 54 = .ok (.iload_n 3, 1) := by decide +kernel
theorem dX12_next_55 : decode cX12_next 55 = .ok (.bipush 6, 2) := by decide +kernel
theorem dX12_next_57 : decode cX12_next 57 = .ok (.if_icmp .ge 37, 3) := by decide +kernel
theorem dX12_next_60 : decode cX12_next 60 = .ok (.aload_n 0, 1) := by decide +kernel
theorem dX12_next_61 : decode cX12_next 61 = .ok (.iload_n 2, 1) := by decide +kernel
theorem dX12_next_62 : decode cX12_next 62 = .ok (.invokevirtual 479, 3) := by decide +kernel
theorem dX12_next_65 : decode cX12_next 65 = .ok (.ifCond .eq 29, 3) := by decide +kernel
theorem dX12_next_68 : decode cX12_next 68 = .ok (.aload_n 0, 1) := by decide +kernel
theorem dX12_next_69 : decode cX12_next 69 = .ok (.getfield 116, 3) := by decide +kernel
theorem dX12_next_72 : decode cX12_next 72 = .ok (.bipush 11, 2) := by decide +kernel
theorem dX12_next_74 : decode cX12_next 74 = .ok (.iload_n 3, 1) := by decide +kernel
theorem dX12_next_75 : decode cX12_next 75 = .ok (.imul, 1) := by decide +kernel
theorem dX12_next_76 : decode cX12_next 76 = .ok (.aload_n 0, 1) := by decide +kernel
theorem dX12_next_77 : decode cX12_next 77 = .ok (.iload_n 3, 1) := by decide +kernel
theorem dX12_next_78 : decode cX12_next 78 = .ok (.iload_n 2, 1) := by decide +kernel
theorem dX12_next_79 : decode cX12_next 79 = .ok (.invokevirtual 476, 3) := by decide +kernel
theorem dX12_next_82 : decode cX12_next 82 = .ok (.iadd, 1) := by decide +kernel
theorem dX12_next_83 : decode cX12_next 83 = .ok (.dup2, 1) := by decide +kernel
theorem dX12_next_84 : decode cX12_next 84 = .ok (.iaload, 1) := by decide +kernel
theorem dX12_next_85 : decode cX12_next 85 = .ok (.iconst 1, 1) := by decide +kernel
theorem dX12_next_86 : decode cX12_next 86 = .ok (.iadd, 1) := by decide +kernel
theorem dX12_next_87 : decode cX12_next 87 = .ok (.iastore, 1) := by decide +kernel
theorem dX12_next_88 : decode cX12_next 88 = .ok (.iinc 3 1, 3) := by decide +kernel
theorem dX12_next_91 : decode cX12_next 91 = .ok (.goto (-37), 3) := by decide +kernel
theorem dX12_next_94 : decode cX12_next 94 = .ok (.iinc 2 1, 3) := by decide +kernel
theorem dX12_next_97 : decode cX12_next 97 = .ok (.goto (-57), 3) := by decide +kernel
theorem dX12_next_100 : decode cX12_next 100 = .ok (.ldc_w 446, 3) := by decide +kernel
theorem dX12_next_103 : decode cX12_next 103 = .ok (.istore_n 2, 1) := by decide +kernel
theorem dX12_next_104 : decode cX12_next 104 = .ok (.iconst (-1), 1) := by decide +kernel
theorem dX12_next_105 : decode cX12_next 105 = .ok (.istore_n 3, 1) := by decide +kernel
theorem dX12_next_106 : decode cX12_next 106 = .ok (.iconst 0, 1) := by decide +kernel
theorem dX12_next_107 : decode cX12_next 107 = .ok (.istore 4, 2) := by decide +kernel
theorem dX12_next_109 : decode cX12_next 109 = .ok (.iload 4, 2) := by decide +kernel
theorem dX12_next_111 : decode cX12_next 111 = .ok (.bipush 6, 2) := by decide +kernel
theorem dX12_next_113 : decode cX12_next 113 = .ok (.if_icmp .ge 102, 3) := by decide +kernel
theorem dX12_next_116 : decode cX12_next 116 = .ok (.iconst 0, 1) := by decide +kernel
theorem dX12_next_117 : decode cX12_next 117 = .ok (.istore 5, 2) := by decide +kernel
theorem dX12_next_119 : decode cX12_next 119 = .ok (.iconst 0, 1) := by decide +kernel
theorem dX12_next_120 : decode cX12_next 120 = .ok (.istore 6, 2) := by decide +kernel
theorem dX12_next_122 : decode cX12_next 122 = .ok (.iload 6, 2) := by decide +kernel
theorem dX12_next_124 : decode cX12_next 124 = .ok (.bipush 11, 2) := by decide +kernel
theorem dX12_next_126 : decode cX12_next 126 = .ok (.if_icmp .ge 47, 3) := by decide +kernel
theorem dX12_next_129 : decode cX12_next 129 = .ok (.aload_n 0, 1) := by decide +kernel
theorem dX12_next_130 : decode cX12_next 130 = .ok (.getfield 116, 3) := by decide +kernel
theorem dX12_next_133 : decode cX12_next 133 = .ok (.bipush 11, 2) := by decide +kernel
theorem dX12_next_135 : decode cX12_next 135 = .ok (.iload 4, 2) := by decide +kernel
theorem dX12_next_137 : decode cX12_next 137 = .ok (.imul, 1) := by decide +kernel
theorem dX12_next_138 : decode cX12_next 138 = .ok (.iload 6, 2) := by decide +kernel
theorem dX12_next_140 : decode cX12_next 140 = .ok (.iadd, 1) := by decide +kernel
theorem dX12_next_141 : decode cX12_next 141 = .ok (.iaload, 1) := by decide +kernel
theorem dX12_next_142 : decode cX12_next 142 = .ok (.iload 5, 2) := by decide +kernel
theorem dX12_next_144 : decode cX12_next 144 = .ok (.if_icmp .le 19, 3) := by decide +kernel
theorem dX12_next_147 : decode cX12_next 147 = .ok (.aload_n 0, 1) := by decide +kernel
theorem dX12_next_148 : decode cX12_next 148 = .ok (.getfield 116, 3) := by decide +kernel
theorem dX12_next_151 : decode cX12_next 151 = .ok (.bipush 11, 2) := by decide +kernel
theorem dX12_next_153 : decode cX12_next 153 = .ok (.iload 4, 2) := by decide +kernel
theorem dX12_next_155 : decode cX12_next 155 = .ok (.imul, 1) := by decide +kernel
theorem dX12_next_156 : decode cX12_next 156 = .ok (.iload 6, 2) := by decide +kernel
theorem dX12_next_158 : decode cX12_next 158 = .ok (.iadd, 1) := by decide +kernel
theorem dX12_next_159 : decode cX12_next 159 = .ok (.iaload, 1) := by decide +kernel
theorem dX12_next_160 : decode cX12_next 160 = .ok (.goto 5, 3) := by decide +kernel
theorem dX12_next_163 : decode cX12_next 163 = .ok (.iload 5, 2) := by decide +kernel
theorem dX12_next_165 : decode cX12_next 165 = .ok (.istore 5, 2) := by decide +kernel
theorem dX12_next_167 : decode cX12_next 167 = .ok (.iinc 6 1, 3) := by decide +kernel
theorem dX12_next_170 : decode cX12_next 170 = .ok (.goto (-48), 3) := by decide +kernel
theorem dX12_next_173 : decode cX12_next 173 = .ok (.iload 5, 2) := by decide +kernel
theorem dX12_next_175 : decode cX12_next 175 = .ok (.ifCond .le 14, 3) := by decide +kernel
theorem dX12_next_178 : decode cX12_next 178 = .ok (.iload 5, 2) := by decide +kernel
theorem dX12_next_180 : decode cX12_next 180 = .ok (.iload_n 2, 1) := by decide +kernel
theorem dX12_next_181 : decode cX12_next 181 = .ok (.if_icmp .ge 8, 3) := by decide +kernel
theorem dX12_next_184 : decode cX12_next 184 = .ok (.iload 4, 2) := by decide +kernel
theorem dX12_next_186 : decode cX12_next 186 = .ok (.goto 4, 3) := by decide +kernel
theorem dX12_next_189 : decode cX12_next 189 = .ok (.iload_n 3, 1) := by decide +kernel
theorem dX12_next_190 : decode cX12_next 190 = .ok (.istore_n 3, 1) := by decide +kernel
theorem dX12_next_191 : decode cX12_next 191 = .ok (.iload 5, 2) := by decide +kernel
theorem dX12_next_193 : decode cX12_next 193 = .ok (.ifCond .le 14, 3) := by decide +kernel
theorem dX12_next_196 : decode cX12_next 196 = .ok (.iload 5, 2) := by decide +kernel
theorem dX12_next_198 : decode cX12_next 198 = .ok (.iload_n 2, 1) := by decide +kernel
theorem dX12_next_199 : decode cX12_next 199 = .ok (.if_icmp .ge 8, 3) := by decide +kernel
theorem dX12_next_202 : decode cX12_next 202 = .ok (.iload 5, 2) := by decide +kernel
theorem dX12_next_204 : decode cX12_next 204 = .ok (.goto 4, 3) := by decide +kernel
theorem dX12_next_207 : decode cX12_next 207 = .ok (.iload_n 2, 1) := by decide +kernel
theorem dX12_next_208 : decode cX12_next 208 = .ok (.istore_n 2, 1) := by decide +kernel
theorem dX12_next_209 : decode cX12_next 209 = .ok (.iinc 4 1, 3) := by decide +kernel
theorem dX12_next_212 : decode cX12_next 212 = .ok (.goto (-103), 3) := by decide +kernel
theorem dX12_next_215 : decode cX12_next 215 = .ok (.iload_n 3, 1) := by decide +kernel
theorem dX12_next_216 : decode cX12_next 216 = .ok (.iconst (-1), 1) := by decide +kernel
theorem dX12_next_217 : decode cX12_next 217 = .ok (.if_icmp .eq 7, 3) := by decide +kernel
theorem dX12_next_220 : decode cX12_next 220 = .ok (.iload_n 1, 1) := by decide +kernel
theorem dX12_next_221 : decode cX12_next 221 = .ok (.ifCond .ne 7, 3) := by decide +kernel
theorem dX12_next_224 : decode cX12_next 224 = .ok (.iload_n 3, 1) := by decide +kernel
theorem dX12_next_225 : decode cX12_next 225 = .ok (.goto 4, 3) := by decide +kernel
theorem dX12_next_228 : decode cX12_next 228 = .ok (.iload_n 2, 1) := by decide +kernel
theorem dX12_next_229 : decode cX12_next 229 = .ok (.ireturn, 1) := by decide +kernel
theorem dX12_readSum_0 : decode cX12_readSum 0 = .ok (.aload_n 0, 1) := by decide +kernel
theorem dX12_readSum_1 : decode cX12_readSum 1 = .ok (.getfield 130, 3) := by decide +kernel
theorem dX12_readSum_4 : decode cX12_readSum 4 = .ok (.iload_n 1, 1) := by decide +kernel
theorem dX12_readSum_5 : decode cX12_readSum 5 = .ok (.aload_n 0, 1) := by decide +kernel
theorem dX12_readSum_6 : decode cX12_readSum 6 = .ok (.getfield 260, 3) := by decide +kernel
theorem dX12_readSum_9 : decode cX12_readSum 9 = .ok (.iastore, 1) := by decide +kernel
theorem dX12_readSum_10 : decode cX12_readSum 10 = .ok (.aload_n 0, 1) := by decide +kernel
theorem dX12_readSum_11 : decode cX12_readSum 11 = .ok (.getfield 225, 3) := by decide +kernel
theorem dX12_readSum_14 : decode cX12_readSum 14 = .ok (.ifCond .ne 8, 3) := by decide +kernel
theorem dX12_readSum_17 : decode cX12_readSum 17 = .ok (.aload_n 0, 1) := by decide +kernel
theorem dX12_readSum_18 : decode cX12_readSum 18 = .ok (.iconst 0, 1) := by decide +kernel
theorem dX12_readSum_19 : decode cX12_readSum 19 = .ok (.invokevirtual 353, 3) := by decide +kernel
theorem dX12_readSum_22 : decode cX12_readSum 22 = .ok (.aload_n 0, 1) := by decide +kernel
theorem dX12_readSum_23 : decode cX12_readSum 23 = .ok (.getfield 130, 3) := by decide +kernel
theorem dX12_readSum_26 : decode cX12_readSum 26 = .ok (.iload_n 1, 1) := by decide +kernel
theorem dX12_readSum_27 : decode cX12_readSum 27 = .ok (.iconst 1, 1) := by decide +kernel
theorem dX12_readSum_28 : decode cX12_readSum 28 = .ok (.iadd, 1) := by decide +kernel
theorem dX12_readSum_29 : decode cX12_readSum 29 = .ok (.aload_n 0, 1) := by decide +kernel
theorem dX12_readSum_30 : decode cX12_readSum 30 = .ok (.getfield 260, 3) := by decide +kernel
theorem dX12_readSum_33 : decode cX12_readSum 33 = .ok (.iastore, 1) := by decide +kernel
theorem dX12_readSum_34 : decode cX12_readSum 34 = .ok (.return_, 1) := by decide +kernel
theorem dX12_readOrder_0 : decode cX12_readOrder 0 = .ok (.iconst (-1), 1) := by decide +kernel
theorem dX12_readOrder_1 : decode cX12_readOrder 1 = .ok (.istore_n 1, 1) := by decide +kernel
theorem dX12_readOrder_2 : decode cX12_readOrder 2 = .ok (.iconst 0, 1) := by decide +kernel
theorem dX12_readOrder_3 : decode cX12_readOrder 3 = .ok (.istore_n 2, 1) := by decide +kernel
theorem dX12_readOrder_4 : decode cX12_readOrder 4 = .ok (.iload_n 2, 1) := by decide +kernel
theorem dX12_readOrder_5 : decode cX12_readOrder 5 = .ok (.iconst 4, 1) := by decide +kernel
theorem dX12_readOrder_6 : decode cX12_readOrder 6 = .ok (.if_icmp .ge 28, 3) := by decide +kernel
theorem dX12_readOrder_9 : decode cX12_readOrder 9 = .ok (.aload_n 0, 1) := by decide +kernel
theorem dX12_readOrder_10 : decode cX12_readOrder 10 = .ok (.aload_n 0, 1) := by decide +kernel
theorem dX12_readOrder_11 : decode cX12_readOrder 11 = .ok (.getfield 127, 3) := by decide +kernel
theorem dX12_readOrder_14 : decode cX12_readOrder 14 = .ok (.iload_n 2, 1) := by decide +kernel
theorem dX12_readOrder_15 : decode cX12_readOrder 15 = .ok (.laload, 1) := by decide +kernel
theorem dX12_readOrder_16 : decode cX12_readOrder 16 = .ok (.invokevirtual 281, 3) := by decide +kernel
theorem dX12_readOrder_19 : decode cX12_readOrder 19 = .ok (.ifCond .eq 7, 3) := by decide +kernel
theorem dX12_readOrder_22 : decode cX12_readOrder 22 = .ok (.iload_n 2, 1) := by decide +kernel
theorem dX12_readOrder_23 : decode cX12_readOrder 23 = .ok (.goto 4, 3) := by decide +kernel
theorem dX12_readOrder_26 : decode cX12_readOrder 26 = .ok (.iload_n 1, 1) := by decide +kernel
theorem dX12_readOrder_27 : decode cX12_readOrder 27 = .ok (.istore_n 1, 1) := by decide +kernel
theorem dX12_readOrder_28 : decode cX12_readOrder 28 = .ok (.iinc 2 1, 3) := by decide +kernel
theorem dX12_readOrder_31 : decode cX12_readOrder 31 = .ok (.goto (-27), 3) := by decide +kernel
theorem dX12_readOrder_34 : decode cX12_readOrder 34 = .ok (.aload_n 0, 1) := by decide +kernel
theorem dX12_readOrder_35 : decode cX12_readOrder 35 = .ok (.iload_n 1, 1) := by decide +kernel
theorem dX12_readOrder_36 : decode cX12_readOrder 36 = .ok (.iconst (-1), 1) := by decide +kernel
theorem dX12_readOrder_37 : decode cX12_readOrder 37 = .ok (.if_icmp .eq 16, 3) := by decide +kernel
theorem dX12_readOrder_40 : decode cX12_readOrder 40 = .ok (.aload_n 0, 1) := by decide +kernel
theorem dX12_readOrder_41 : decode cX12_readOrder 41 = .ok (.getfield 350, 3) := by decide +kernel
theorem dX12_readOrder_44 : decode cX12_readOrder 44 = .ok (.bipush 12, 2) := by decide +kernel
theorem dX12_readOrder_46 : decode cX12_readOrder 46 = .ok (.if_icmp .ge 7, 3) := by decide +kernel
theorem dX12_readOrder_49 : decode cX12_readOrder 49 = .ok (.iconst 1, 1) := by decide +kernel
theorem dX12_readOrder_50 : decode cX12_readOrder 50 = .ok (.goto 4, 3) := by decide +kernel
theorem dX12_readOrder_53 : decode cX12_readOrder 53 = .ok (.iconst 0, 1) := by decide +kernel
theorem dX12_readOrder_54 : decode cX12_readOrder 54 = .ok (.invokevirtual 256, 3) := by decide +kernel
theorem dX12_readOrder_57 : decode cX12_readOrder 57 = .ok (.aload_n 0, 1) := by decide +kernel
theorem dX12_readOrder_58 : decode cX12_readOrder 58 = .ok (.getfield 225, 3) := by decide +kernel
theorem dX12_readOrder_61 : decode cX12_readOrder 61 = .ok (.ifCond .eq 4, 3) := by decide +kernel
theorem dX12_readOrder_64 : decode cX12_readOrder 64 = .ok (.return_, 1) := by decide +kernel
theorem dX12_readOrder_65 : decode cX12_readOrder 65 = .ok (.bipush 8, 2) := by decide +kernel
theorem dX12_readOrder_67 : decode cX12_readOrder 67 = .ok (.aload_n 0, 1) := by decide +kernel
theorem dX12_readOrder_68 : decode cX12_readOrder 68 = .ok (.getfield 350, 3) := by decide +kernel
theorem dX12_readOrder_71 : decode cX12_readOrder 71 = .ok (.imul, 1) := by decide +kernel
theorem dX12_readOrder_72 : decode cX12_readOrder 72 = .ok (.istore_n 2, 1) := by decide +kernel
theorem dX12_readOrder_73 : decode cX12_readOrder 73 = .ok (.aload_n 0, 1) := by decide +kernel
theorem dX12_readOrder_74 : decode cX12_readOrder 74 = .ok (.dup, 1) := by decide +kernel
theorem dX12_readOrder_75 : decode cX12_readOrder 75 = .ok (.getfield 350, 3) := by decide +kernel
theorem dX12_readOrder_78 : decode cX12_readOrder 78 = .ok (.iconst 1, 1) := by decide +kernel
theorem dX12_readOrder_79 : decode cX12_readOrder 79 = .ok (.iadd, 1) := by decide +kernel
theorem dX12_readOrder_80 : decode cX12_readOrder 80 = .ok (.putfield 350, 3) := by decide +kernel
theorem dX12_readOrder_83 : decode cX12_readOrder 83 = .ok (.iconst 0, 1) := by decide +kernel
theorem dX12_readOrder_84 : decode cX12_readOrder 84 = .ok (.istore_n 3, 1) := by decide +kernel
theorem dX12_readOrder_85 : decode cX12_readOrder 85 = .ok (.iload_n 3, 1) := by decide +kernel
theorem dX12_readOrder_86 : decode cX12_readOrder 86 = .ok (.bipush 8, 2) := by decide +kernel
theorem dX12_readOrder_88 : decode cX12_readOrder 88 = .ok (.if_icmp .ge 18, 3) := by decide +kernel
theorem dX12_readOrder_91 : decode cX12_readOrder 91 = .ok (.aload_n 0, 1) := by decide +kernel
theorem dX12_readOrder_92 : decode cX12_readOrder 92 = .ok (.getfield 130, 3) := by decide +kernel
theorem dX12_readOrder_95 : decode cX12_readOrder 95 = .ok (.iload_n 2, 1) := by decide +kernel
theorem dX12_readOrder_96 : decode cX12_readOrder 96 = .ok (.iload_n 3, 1) := by decide +kernel
theorem dX12_readOrder_97 : decode cX12_readOrder 97 = .ok (.iadd, 1) := by decide +kernel
theorem dX12_readOrder_98 : decode cX12_readOrder 98 = .ok (.iconst 0, 1) := by decide +kernel
theorem dX12_readOrder_99 : decode cX12_readOrder 99 = .ok (.iastore, 1) := by decide +kernel
theorem dX12_readOrder_100 : decode cX12_readOrder 100 = .ok (.iinc 3 1, 3) := by decide +kernel
theorem dX12_readOrder_103 : decode cX12_readOrder 103 = .ok (.goto (-18), 3) := by decide +kernel
theorem dX12_readOrder_106 : decode cX12_readOrder 106 = .ok (.aload_n 0, 1) := by decide +kernel
theorem dX12_readOrder_107 : decode cX12_readOrder 107 = .ok (.getfield 130, 3) := by decide +kernel
theorem dX12_readOrder_110 : decode cX12_readOrder 110 = .ok (.iload_n 2, 1) := by decide +kernel
theorem dX12_readOrder_111 : decode cX12_readOrder 111 = .ok (.iload_n 1, 1) := by decide +kernel
theorem dX12_readOrder_112 : decode cX12_readOrder 112 = .ok (.iastore, 1) := by decide +kernel
theorem dX12_readOrder_113 : decode cX12_readOrder 113 = .ok (.aload_n 0, 1) := by decide +kernel
theorem dX12_readOrder_114 : decode cX12_readOrder 114 = .ok (.iload_n 2, 1) := by decide +kernel
theorem dX12_readOrder_115 : decode cX12_readOrder 115 = .ok (.iconst 1, 1) := by decide +kernel
theorem dX12_readOrder_116 : decode cX12_readOrder 116 = .ok (.iadd, 1) := by decide +kernel
theorem dX12_readOrder_117 : decode cX12_readOrder 117 = .ok (.invokevirtual 482, 3) := by decide +kernel
theorem dX12_readOrder_120 : decode cX12_readOrder 120 = .ok (.aload_n 0, 1) := by decide +kernel
theorem dX12_readOrder_121 : decode cX12_readOrder 121 = .ok (.getfield 225, 3) := by decide +kernel
theorem dX12_readOrder_124 : decode cX12_readOrder 124 = .ok (.ifCond .ne 36, 3) := by decide +kernel
theorem dX12_readOrder_127 : decode cX12_readOrder 127 = .ok (.aload_n 0, 1) := by decide +kernel
theorem dX12_readOrder_128 : decode cX12_readOrder 128 = .ok (.aload_n 0, 1) := by decide +kernel
theorem dX12_readOrder_129 : decode cX12_readOrder 129 = .ok (.iload_n 1, 1) := by decide +kernel
theorem dX12_readOrder_130 : decode cX12_readOrder 130 = .ok (.iconst 2, 1) := by decide +kernel
theorem dX12_readOrder_131 : decode cX12_readOrder 131 = .ok (.if_icmp .ge 9, 3) := by decide +kernel
theorem dX12_readOrder_134 : decode cX12_readOrder 134 = .ok (.ldc2_w 485, 3) := by decide +kernel
theorem dX12_readOrder_137 : decode cX12_readOrder 137 = .ok (.goto 17, 3) := by decide +kernel
theorem dX12_readOrder_140 : decode cX12_readOrder 140 = .ok (.iload_n 1, 1) := by decide +kernel
theorem dX12_readOrder_141 : decode cX12_readOrder 141 = .ok (.iconst 2, 1) := by decide +kernel
theorem dX12_readOrder_142 : decode cX12_readOrder 142 = .ok (.if_icmp .ne 9, 3) := by decide +kernel
theorem dX12_readOrder_145 : decode cX12_readOrder 145 = .ok (.ldc2_w 487, 3) := by decide +kernel
theorem dX12_readOrder_148 : decode cX12_readOrder 148 = .ok (.goto 6, 3) := by decide +kernel
theorem dX12_readOrder_151 : decode cX12_readOrder 151 = .ok (.ldc2_w 489, 3) := by decide +kernel
theorem dX12_readOrder_154 : decode cX12_readOrder 154 = .ok (.invokevirtual 281, 3) := by decide +kernel
theorem dX12_readOrder_157 : decode cX12_readOrder 157 = .ok (.invokevirtual 256, 3) := by decide +kernel
theorem dX12_readOrder_160 : decode cX12_readOrder 160 = .ok (.aload_n 0, 1) := by decide +kernel
theorem dX12_readOrder_161 : decode cX12_readOrder 161 = .ok (.iload_n 2, 1) := by decide +kernel
theorem dX12_readOrder_162 : decode cX12_readOrder 162 = .ok (.iconst 3, 1) := by decide +kernel
theorem dX12_readOrder_163 : decode cX12_readOrder 163 = .ok (.iadd, 1) := by decide +kernel
theorem dX12_readOrder_164 : decode cX12_readOrder 164 = .ok (.invokevirtual 482, 3) := by decide +kernel
theorem dX12_readOrder_167 : decode cX12_readOrder 167 = .ok (.aload_n 0, 1) := by decide +kernel
theorem dX12_readOrder_168 : decode cX12_readOrder 168 = .ok (.getfield 130, 3) := by decide +kernel
theorem dX12_readOrder_171 : decode cX12_readOrder 171 = .ok (.iload_n 2, 1) := by decide +kernel
theorem dX12_readOrder_172 : decode cX12_readOrder 172 = .ok (.bipush 7, 2) := by decide +kernel
theorem dX12_readOrder_174 : decode cX12_readOrder 174 = .ok (.iadd, 1) := by decide +kernel
theorem dX12_readOrder_175 : decode cX12_readOrder 175 = .ok (.iconst 1, 1) := by decide +kernel
theorem dX12_readOrder_176 : decode cX12_readOrder 176 = .ok (.iastore, 1) := by decide +kernel
theorem dX12_readOrder_177 : decode cX12_readOrder 177 = .ok (.aload_n 0, 1) := by decide +kernel
theorem dX12_readOrder_178 : decode cX12_readOrder 178 = .ok (.getfield 225, 3) := by decide +kernel
theorem dX12_readOrder_181 : decode cX12_readOrder 181 = .ok (.ifCond .ne 34, 3) := by decide +kernel
theorem dX12_readOrder_184 : decode cX12_readOrder 184 = .ok (.aload_n 0, 1) := by decide +kernel
theorem dX12_readOrder_185 : decode cX12_readOrder 185 = .ok (.ldc2_w 491, 3) := by decide +kernel
theorem dX12_readOrder_188 : decode cX12_readOrder 188 = .ok (.invokevirtual 281, 3) := by decide +kernel
theorem dX12_readOrder_191 : decode cX12_readOrder 191 = .ok (.ifCond .eq 24, 3) := by decide +kernel
theorem dX12_readOrder_194 : decode cX12_readOrder 194 = .ok (.aload_n 0, 1) := by decide +kernel
theorem dX12_readOrder_195 : decode cX12_readOrder 195 = .ok (.invokevirtual 229, 3) := by decide +kernel
theorem dX12_readOrder_198 : decode cX12_readOrder 198 = .ok (.aload_n 0, 1) := by decide +kernel
theorem dX12_readOrder_199 : decode cX12_readOrder 199 = .ok (.getfield 130, 3) := by decide +kernel
theorem dX12_readOrder_202 : decode cX12_readOrder 202 = .ok (.iload_n 2, 1) := by decide +kernel
theorem dX12_readOrder_203 : decode cX12_readOrder 203 = .ok (.bipush 7, 2) := by decide +kernel
theorem dX12_readOrder_205 : decode cX12_readOrder 205 = .ok (.iadd, 1) := by decide +kernel
theorem dX12_readOrder_206 : decode cX12_readOrder 206 = .ok (.aload_n 0, 1) := by decide +kernel
theorem dX12_readOrder_207 : decode cX12_readOrder 207 = .ok (.lconst 1, 1) := by decide +kernel
theorem dX12_readOrder_208 : decode cX12_readOrder 208 = .ok (.ldc2_w 273, 3) := by decide +kernel
theorem dX12_readOrder_211 : decode cX12_readOrder 211 = .ok (.invokevirtual 314, 3) := by decide +kernel
theorem dX12_readOrder_214 : decode cX12_readOrder 214 = .ok (.iastore, 1) := by decide +kernel
theorem dX12_readOrder_215 : decode cX12_readOrder 215 = .ok (.aload_n 0, 1) := by decide +kernel
theorem dX12_readOrder_216 : decode cX12_readOrder 216 = .ok (.getfield 130, 3) := by decide +kernel
theorem dX12_readOrder_219 : decode cX12_readOrder 219 = .ok (.iload_n 2, 1) := by decide +kernel
theorem dX12_readOrder_220 : decode cX12_readOrder 220 = .ok (.iconst 5, 1) := by decide +kernel
theorem dX12_readOrder_221 : decode cX12_readOrder 221 = .ok (.iadd, 1) := by decide +kernel
theorem dX12_readOrder_222 : decode cX12_readOrder 222 = .ok (.aload_n 0, 1) := by decide +kernel
theorem dX12_readOrder_223 : decode cX12_readOrder 223 = .ok (.getfield 260, 3) := by decide +kernel
theorem dX12_readOrder_226 : decode cX12_readOrder 226 = .ok (.iastore, 1) := by decide +kernel
theorem dX12_readOrder_227 : decode cX12_readOrder 227 = .ok (.aload_n 0, 1) := by decide +kernel
theorem dX12_readOrder_228 : decode cX12_readOrder 228 = .ok (.getfield 225, 3) := by decide +kernel
theorem dX12_readOrder_231 : decode cX12_readOrder 231 = .ok (.ifCond .ne 22, 3) := by decide +kernel
theorem dX12_readOrder_234 : decode cX12_readOrder 234 = .ok (.aload_n 0, 1) := by decide +kernel
theorem dX12_readOrder_235 : decode cX12_readOrder 235 = .ok (.ldc2_w 356, 3) := by decide +kernel
theorem dX12_readOrder_238 : decode cX12_readOrder 238 = .ok (.invokevirtual 281, 3) := by decide +kernel
theorem dX12_readOrder_241 : decode cX12_readOrder 241 = .ok (.ifCond .eq 12, 3) := by decide +kernel
theorem dX12_readOrder_244 : decode cX12_readOrder 244 = .ok (.aload_n 0, 1) := by decide +kernel
theorem dX12_readOrder_245 : decode cX12_readOrder 245 = .ok (.invokevirtual 229, 3) := by decide +kernel
theorem dX12_readOrder_248 : decode cX12_readOrder 248 = .ok (.aload_n 0, 1) := by decide +kernel
theorem dX12_readOrder_249 : decode cX12_readOrder 249 = .ok (.iconst 1, 1) := by decide +kernel
theorem dX12_readOrder_250 : decode cX12_readOrder 250 = .ok (.invokevirtual 353, 3) := by decide +kernel
theorem dX12_readOrder_253 : decode cX12_readOrder 253 = .ok (.aload_n 0, 1) := by decide +kernel
theorem dX12_readOrder_254 : decode cX12_readOrder 254 = .ok (.getfield 130, 3) := by decide +kernel
theorem dX12_readOrder_257 : decode cX12_readOrder 257 = .ok (.iload_n 2, 1) := by decide +kernel
theorem dX12_readOrder_258 : decode cX12_readOrder 258 = .ok (.bipush 6, 2) := by decide +kernel
theorem dX12_readOrder_260 : decode cX12_readOrder 260 = .ok (.iadd, 1) := by decide +kernel
theorem dX12_readOrder_261 : decode cX12_readOrder 261 = .ok (.aload_n 0, 1) := by decide +kernel
theorem dX12_readOrder_262 : decode cX12_readOrder 262 = .ok (.getfield 260, 3) := by decide +kernel
theorem dX12_readOrder_265 : decode cX12_readOrder 265 = .ok (.iastore, 1) := by decide +kernel
theorem dX12_readOrder_266 : decode cX12_readOrder 266 = .ok (.return_, 1) := by decide +kernel
theorem dX12_sumOf_0 : decode cX12_sumOf 0 = .ok (.aload_n 0, 1) := by decide +kernel
theorem dX12_sumOf_1 : decode cX12_sumOf 1 = .ok (.getfield 493, 3) := by decide +kernel
theorem dX12_sumOf_4 : decode cX12_sumOf 4 = .ok (.ifCond .ne 20, 3) := by decide +kernel
theorem dX12_sumOf_7 : decode cX12_sumOf 7 = .ok (.aload_n 0, 1) := by decide +kernel
theorem dX12_sumOf_8 : decode cX12_sumOf 8 = .ok (.getfield 130, 3) := by decide +kernel
theorem dX12_sumOf_11 : decode cX12_sumOf 11 = .ok (.iload_n 1, 1) := by decide +kernel
theorem dX12_sumOf_12 : decode cX12_sumOf 12 = .ok (.iaload, 1) := by decide +kernel
theorem dX12_sumOf_13 : decode cX12_sumOf 13 = .ok (.aload_n 0, 1) := by decide +kernel
theorem dX12_sumOf_14 : decode cX12_sumOf 14 = .ok (.getfield 130, 3) := by decide +kernel
theorem dX12_sumOf_17 : decode cX12_sumOf 17 = .ok (.iload_n 1, 1) := by decide +kernel
theorem dX12_sumOf_18 : decode cX12_sumOf 18 = .ok (.iconst 1, 1) := by decide +kernel
theorem dX12_sumOf_19 : decode cX12_sumOf 19 = .ok (.iadd, 1) := by decide +kernel
theorem dX12_sumOf_20 : decode cX12_sumOf 20 = .ok (.iaload, 1) := by decide +kernel
theorem dX12_sumOf_21 : decode cX12_sumOf 21 = .ok (.if_icmp .ne 5, 3) := by decide +kernel
theorem dX12_sumOf_24 : decode cX12_sumOf 24 = .ok (.iconst (-1), 1) := by decide +kernel
theorem dX12_sumOf_25 : decode cX12_sumOf 25 = .ok (.ireturn, 1) := by decide +kernel
theorem dX12_sumOf_26 : decode cX12_sumOf 26 = .ok (.aload_n 0, 1) := by decide +kernel
theorem dX12_sumOf_27 : decode cX12_sumOf 27 = .ok (.iconst 1, 1) := by decide +kernel
theorem dX12_sumOf_28 : decode cX12_sumOf 28 = .ok (.putfield 300, 3) := by decide +kernel
theorem dX12_sumOf_31 : decode cX12_sumOf 31 = .ok (.aload_n 0, 1) := by decide +kernel
theorem dX12_sumOf_32 : decode cX12_sumOf 32 = .ok (.aload_n 0, 1) := by decide +kernel
theorem dX12_sumOf_33 : decode cX12_sumOf 33 = .ok (.getfield 130, 3) := by decide +kernel
theorem dX12_sumOf_36 : decode cX12_sumOf 36 = .ok (.iload_n 1, 1) := by decide +kernel
theorem dX12_sumOf_37 : decode cX12_sumOf 37 = .ok (.iaload, 1) := by decide +kernel
theorem dX12_sumOf_38 : decode cX12_sumOf 38 = .ok (.aload_n 0, 1) := by decide +kernel
theorem dX12_sumOf_39 : decode cX12_sumOf 39 = .ok (.getfield 130, 3) := by decide +kernel
theorem dX12_sumOf_42 : decode cX12_sumOf 42 = .ok (.iload_n 1, 1) := by decide +kernel
theorem dX12_sumOf_43 : decode cX12_sumOf 43 = .ok (.iconst 1, 1) := by decide +kernel
theorem dX12_sumOf_44 : decode cX12_sumOf 44 = .ok (.iadd, 1) := by decide +kernel
theorem dX12_sumOf_45 : decode cX12_sumOf 45 = .ok (.iaload, 1) := by decide +kernel
theorem dX12_sumOf_46 : decode cX12_sumOf 46 = .ok (.invokevirtual 384, 3) := by decide +kernel
theorem dX12_sumOf_49 : decode cX12_sumOf 49 = .ok (.aload_n 0, 1) := by decide +kernel
theorem dX12_sumOf_50 : decode cX12_sumOf 50 = .ok (.iconst 0, 1) := by decide +kernel
theorem dX12_sumOf_51 : decode cX12_sumOf 51 = .ok (.putfield 300, 3) := by decide +kernel
theorem dX12_sumOf_54 : decode cX12_sumOf 54 = .ok (.aload_n 0, 1) := by decide +kernel
theorem dX12_sumOf_55 : decode cX12_sumOf 55 = .ok (.aload_n 0, 1) := by decide +kernel
theorem dX12_sumOf_56 : decode cX12_sumOf 56 = .ok (.getfield 367, 3) := by decide +kernel
theorem dX12_sumOf_59 : decode cX12_sumOf 59 = .ok (.putfield 493, 3) := by decide +kernel
theorem dX12_sumOf_62 : decode cX12_sumOf 62 = .ok (.aload_n 0, 1) := by decide +kernel
theorem dX12_sumOf_63 : decode cX12_sumOf 63 = .ok (.getfield 381, 3) := by decide +kernel
theorem dX12_sumOf_66 : decode cX12_sumOf 66 = .ok (.l2i, 1) := by decide +kernel
theorem dX12_sumOf_67 : decode cX12_sumOf 67 = .ok (.ireturn, 1) := by decide +kernel
theorem dX12_act_0 : decode cX12_act 0 = .ok (.iload_n 1, 1) := by decide +kernel
theorem dX12_act_1 : decode cX12_act 1 = .ok (.tableswitch 48 0 2 #[27, 34, 41], 27) := by decide +kernel
theorem dX12_act_28 : decode cX12_act 28 = .ok (.aload_n 0, 1) := by decide +kernel
theorem dX12_act_29 : decode cX12_act 29 = .ok (.iload_n 3, 1) := by decide +kernel
theorem dX12_act_30 : decode cX12_act 30 = .ok (.iload_n 2, 1) := by decide +kernel
theorem dX12_act_31 : decode cX12_act 31 = .ok (.invokevirtual 426, 3) := by decide +kernel
theorem dX12_act_34 : decode cX12_act 34 = .ok (.ireturn, 1) := by decide +kernel
theorem dX12_act_35 : decode cX12_act 35 = .ok (.aload_n 0, 1) := by decide +kernel
theorem dX12_act_36 : decode cX12_act 36 = .ok (.iload_n 3, 1) := by decide +kernel
theorem dX12_act_37 : decode cX12_act 37 = .ok (.iload_n 2, 1) := by decide +kernel
theorem dX12_act_38 : decode cX12_act 38 = .ok (.invokevirtual 429, 3) := by decide +kernel
theorem dX12_act_41 : decode cX12_act 41 = .ok (.ireturn, 1) := by decide +kernel
theorem dX12_act_42 : decode cX12_act 42 = .ok (.aload_n 0, 1) := by decide +kernel
theorem dX12_act_43 : decode cX12_act 43 = .ok (.iload_n 2, 1) := by decide +kernel
theorem dX12_act_44 : decode cX12_act 44 = .ok (.iload_n 3, 1) := by decide +kernel
theorem dX12_act_45 : decode cX12_act 45 = .ok (.invokevirtual 443, 3) := by decide +kernel
theorem dX12_act_48 : decode cX12_act 48 = .ok (.ireturn, 1) := by decide +kernel
theorem dX12_act_49 : decode cX12_act 49 = .ok (.aload_n 0, 1) := by decide +kernel
theorem dX12_act_50 : decode cX12_act 50 = .ok (.iload_n 2, 1) := by decide +kernel
theorem dX12_act_51 : decode cX12_act 51 = .ok (.iload_n 3, 1) := by decide +kernel
theorem dX12_act_52 : decode cX12_act 52 = .ok (.invokevirtual 434, 3) := by decide +kernel
theorem dX12_act_55 : decode cX12_act 55 = .ok (.ireturn, 1) := by decide +kernel
theorem dX12_run_0 : decode cX12_run 0 = .ok (.aload_n 0, 1) := by decide +kernel
theorem dX12_run_1 : decode cX12_run 1 = .ok (.getfield 104, 3) := by decide +kernel
theorem dX12_run_4 : decode cX12_run 4 = .ok (.iconst 1, 1) := by decide +kernel
theorem dX12_run_5 : decode cX12_run 5 = .ok (.aload_n 0, 1) := by decide +kernel
theorem dX12_run_6 : decode cX12_run 6 = .ok (.getfield 13, 3) := by decide +kernel
theorem dX12_run_9 : decode cX12_run 9 = .ok (.bipush 6, 2) := by decide +kernel
theorem dX12_run_11 : decode cX12_run 11 = .ok (.iaload, 1) := by decide +kernel
theorem dX12_run_12 : decode cX12_run 12 = .ok (.i2l, 1) := by decide +kernel
theorem dX12_run_13 : decode cX12_run 13 = .ok (.lastore, 1) := by decide +kernel
theorem dX12_run_14 : decode cX12_run 14 = .ok (.aload_n 0, 1) := by decide +kernel
theorem dX12_run_15 : decode cX12_run 15 = .ok (.getfield 104, 3) := by decide +kernel
theorem dX12_run_18 : decode cX12_run 18 = .ok (.iconst 2, 1) := by decide +kernel
theorem dX12_run_19 : decode cX12_run 19 = .ok (.aload_n 0, 1) := by decide +kernel
theorem dX12_run_20 : decode cX12_run 20 = .ok (.getfield 496, 3) := by decide +kernel
theorem dX12_run_23 : decode cX12_run 23 = .ok (.i2l, 1) := by decide +kernel
theorem dX12_run_24 : decode cX12_run 24 = .ok (.lastore, 1) := by decide +kernel
theorem dX12_run_25 : decode cX12_run 25 = .ok (.aload_n 0, 1) := by decide +kernel
theorem dX12_run_26 : decode cX12_run 26 = .ok (.getfield 104, 3) := by decide +kernel
theorem dX12_run_29 : decode cX12_run 29 = .ok (.iconst 3, 1) := by decide +kernel
theorem dX12_run_30 : decode cX12_run 30 = .ok (.aload_n 0, 1) := by decide +kernel
theorem dX12_run_31 : decode cX12_run 31 = .ok (.getfield 499, 3) := by decide +kernel
theorem dX12_run_34 : decode cX12_run 34 = .ok (.i2l, 1) := by decide +kernel
theorem dX12_run_35 : decode cX12_run 35 = .ok (.lastore, 1) := by decide +kernel
theorem dX12_run_36 : decode cX12_run 36 = .ok (.aload_n 0, 1) := by decide +kernel
theorem dX12_run_37 : decode cX12_run 37 = .ok (.iconst 0, 1) := by decide +kernel
theorem dX12_run_38 : decode cX12_run 38 = .ok (.putfield 493, 3) := by decide +kernel
theorem dX12_run_41 : decode cX12_run 41 = .ok (.aload_n 0, 1) := by decide +kernel
theorem dX12_run_42 : decode cX12_run 42 = .ok (.getfield 130, 3) := by decide +kernel
theorem dX12_run_45 : decode cX12_run 45 = .ok (.iload_n 1, 1) := by decide +kernel
theorem dX12_run_46 : decode cX12_run 46 = .ok (.iconst 5, 1) := by decide +kernel
theorem dX12_run_47 : decode cX12_run 47 = .ok (.iadd, 1) := by decide +kernel
theorem dX12_run_48 : decode cX12_run 48 = .ok (.iaload, 1) := by decide +kernel
theorem dX12_run_49 : decode cX12_run 49 = .ok (.aload_n 0, 1) := by decide +kernel
theorem dX12_run_50 : decode cX12_run 50 = .ok (.getfield 130, 3) := by decide +kernel
theorem dX12_run_53 : decode cX12_run 53 = .ok (.iload_n 1, 1) := by decide +kernel
theorem dX12_run_54 : decode cX12_run 54 = .ok (.bipush 6, 2) := by decide +kernel
theorem dX12_run_56 : decode cX12_run 56 = .ok (.iadd, 1) := by decide +kernel
theorem dX12_run_57 : decode cX12_run 57 = .ok (.iaload, 1) := by decide +kernel
theorem dX12_run_58 : decode cX12_run 58 = .ok (.if_icmp .ge 24, 3) := by decide +kernel
theorem dX12_run_61 : decode cX12_run 61 = .ok (.aload_n 0, 1) := by decide +kernel
theorem dX12_run_62 : decode cX12_run 62 = .ok (.iload_n 1, 1) := by decide +kernel
theorem dX12_run_63 : decode cX12_run 63 = .ok (.iconst 5, 1) := by decide +kernel
theorem dX12_run_64 : decode cX12_run 64 = .ok (.iadd, 1) := by decide +kernel
theorem dX12_run_65 : decode cX12_run 65 = .ok (.invokevirtual 502, 3) := by decide +kernel
theorem dX12_run_68 : decode cX12_run 68 = .ok (.istore_n 2, 1) := by decide +kernel
theorem dX12_run_69 : decode cX12_run 69 = .ok (.aload_n 0, 1) := by decide +kernel
theorem dX12_run_70 : decode cX12_run 70 = .ok (.getfield 493, 3) := by decide +kernel
theorem dX12_run_73 : decode cX12_run 73 = .ok (.ifCond .ne 7, 3) := by decide +kernel
theorem dX12_run_76 : decode cX12_run 76 = .ok (.iload_n 2, 1) := by decide +kernel
theorem dX12_run_77 : decode cX12_run 77 = .ok (.ifCond .ne 5, 3) := by decide +kernel
theorem dX12_run_80 : decode cX12_run 80 = .ok (.iconst 0, 1) := by decide +kernel
theorem dX12_run_81 : decode cX12_run 81 = .ok (.ireturn, 1) := by decide +kernel
theorem dX12_run_82 : decode cX12_run 82 = .ok (.aload_n 0, 1) := by decide +kernel
theorem dX12_run_83 : decode cX12_run 83 = .ok (.iload_n 1, 1) := by decide +kernel
theorem dX12_run_84 : decode cX12_run 84 = .ok (.iconst 1, 1) := by decide +kernel
theorem dX12_run_85 : decode cX12_run 85 = .ok (.iadd, 1) := by decide +kernel
theorem dX12_run_86 : decode cX12_run 86 = .ok (.invokevirtual 502, 3) := by decide +kernel
theorem dX12_run_89 : decode cX12_run 89 = .ok (.istore_n 2, 1) := by decide +kernel
theorem dX12_run_90 : decode cX12_run 90 = .ok (.aload_n 0, 1) := by decide +kernel
theorem dX12_run_91 : decode cX12_run 91 = .ok (.iload_n 1, 1) := by decide +kernel
theorem dX12_run_92 : decode cX12_run 92 = .ok (.iconst 3, 1) := by decide +kernel
theorem dX12_run_93 : decode cX12_run 93 = .ok (.iadd, 1) := by decide +kernel
theorem dX12_run_94 : decode cX12_run 94 = .ok (.invokevirtual 502, 3) := by decide +kernel
theorem dX12_run_97 : decode cX12_run 97 = .ok (.istore_n 3, 1) := by decide +kernel
theorem dX12_run_98 : decode cX12_run 98 = .ok (.aload_n 0, 1) := by decide +kernel
theorem dX12_run_99 : decode cX12_run 99 = .ok (.getfield 493, 3) := by decide +kernel
theorem dX12_run_102 : decode cX12_run 102 = .ok (.ifCond .eq 6, 3) := by decide +kernel
theorem dX12_run_105 : decode cX12_run 105 = .ok (.bipush (-3), 2) := by decide +kernel
theorem dX12_run_107 : decode cX12_run 107 = .ok (.ireturn, 1) := by decide +kernel
theorem dX12_run_108 : decode cX12_run 108 = .ok (.aload_n 0, 1) := by decide +kernel
theorem dX12_run_109 : decode cX12_run 109 = .ok (.aload_n 0, 1) := by decide +kernel
theorem dX12_run_110 : decode cX12_run 110 = .ok (.getfield 130, 3) := by decide +kernel
theorem dX12_run_113 : decode cX12_run 113 = .ok (.iload_n 1, 1) := by decide +kernel
theorem dX12_run_114 : decode cX12_run 114 = .ok (.iaload, 1) := by decide +kernel
theorem dX12_run_115 : decode cX12_run 115 = .ok (.iload_n 2, 1) := by decide +kernel
theorem dX12_run_116 : decode cX12_run 116 = .ok (.iload_n 3, 1) := by decide +kernel
theorem dX12_run_117 : decode cX12_run 117 = .ok (.invokevirtual 505, 3) := by decide +kernel
theorem dX12_run_120 : decode cX12_run 120 = .ok (.istore 4, 2) := by decide +kernel
theorem dX12_run_122 : decode cX12_run 122 = .ok (.iload 4, 2) := by decide +kernel
theorem dX12_run_124 : decode cX12_run 124 = .ok (.ifCond .ge 6, 3) := by decide +kernel
theorem dX12_run_127 : decode cX12_run 127 = .ok (.bipush (-3), 2) := by decide +kernel
theorem dX12_run_129 : decode cX12_run 129 = .ok (.ireturn, 1) := by decide +kernel
theorem dX12_run_130 : decode cX12_run 130 = .ok (.aload_n 0, 1) := by decide +kernel
theorem dX12_run_131 : decode cX12_run 131 = .ok (.aload_n 0, 1) := by decide +kernel
theorem dX12_run_132 : decode cX12_run 132 = .ok (.getfield 130, 3) := by decide +kernel
theorem dX12_run_135 : decode cX12_run 135 = .ok (.iload_n 1, 1) := by decide +kernel
theorem dX12_run_136 : decode cX12_run 136 = .ok (.iaload, 1) := by decide +kernel
theorem dX12_run_137 : decode cX12_run 137 = .ok (.iconst 2, 1) := by decide +kernel
theorem dX12_run_138 : decode cX12_run 138 = .ok (.if_icmp .ne 8, 3) := by decide +kernel
theorem dX12_run_141 : decode cX12_run 141 = .ok (.iload 4, 2) := by decide +kernel
theorem dX12_run_143 : decode cX12_run 143 = .ok (.goto 7, 3) := by decide +kernel
theorem dX12_run_146 : decode cX12_run 146 = .ok (.aload_n 0, 1) := by decide +kernel
theorem dX12_run_147 : decode cX12_run 147 = .ok (.getfield 499, 3) := by decide +kernel
theorem dX12_run_150 : decode cX12_run 150 = .ok (.putfield 499, 3) := by decide +kernel
theorem dX12_run_153 : decode cX12_run 153 = .ok (.aload_n 0, 1) := by decide +kernel
theorem dX12_run_154 : decode cX12_run 154 = .ok (.dup, 1) := by decide +kernel
theorem dX12_run_155 : decode cX12_run 155 = .ok (.getfield 496, 3) := by decide +kernel
theorem dX12_run_158 : decode cX12_run 158 = .ok (.iconst 1, 1) := by decide +kernel
theorem dX12_run_159 : decode cX12_run 159 = .ok (.iadd, 1) := by decide +kernel
theorem dX12_run_160 : decode cX12_run 160 = .ok (.putfield 496, 3) := by decide +kernel
theorem dX12_run_163 : decode cX12_run 163 = .ok (.iconst 0, 1) := by decide +kernel
theorem dX12_run_164 : decode cX12_run 164 = .ok (.ireturn, 1) := by decide +kernel
theorem dX12_giveBack_0 : decode cX12_giveBack 0 = .ok (.aload_n 0, 1) := by decide +kernel
theorem dX12_giveBack_1 : decode cX12_giveBack 1 = .ok (.bipush 17, 2) := by decide +kernel
theorem dX12_giveBack_3 : decode cX12_giveBack 3 = .ok (.invokevirtual 159, 3) := by decide +kernel
theorem dX12_giveBack_6 : decode cX12_giveBack 6 = .ok (.iconst 0, 1) := by decide +kernel
theorem dX12_giveBack_7 : decode cX12_giveBack 7 = .ok (.istore_n 2, 1) := by decide +kernel
theorem dX12_giveBack_8 : decode cX12_giveBack 8 = .ok (.iload_n 2, 1) := by decide +kernel
theorem dX12_giveBack_9 : decode cX12_giveBack 9 = .ok (.sipush 400, 3) := by decide +kernel
theorem dX12_giveBack_12 : decode cX12_giveBack 12 = .ok (.if_icmp .ge 21, 3) := by decide +kernel
theorem dX12_giveBack_15 : decode cX12_giveBack 15 = .ok (.aload_n 0, 1) := by decide +kernel
theorem dX12_giveBack_16 : decode cX12_giveBack 16 = .ok (.getfield 23, 3) := by decide +kernel
theorem dX12_giveBack_19 : decode cX12_giveBack 19 = .ok (.iload_n 2, 1) := by decide +kernel
theorem dX12_giveBack_20 : decode cX12_giveBack 20 = .ok (.aload_n 0, 1) := by decide +kernel
theorem dX12_giveBack_21 : decode cX12_giveBack 21 = .ok (.getfield 29, 3) := by decide +kernel
theorem dX12_giveBack_24 : decode cX12_giveBack 24 = .ok (.iload_n 2, 1) := by decide +kernel
theorem dX12_giveBack_25 : decode cX12_giveBack 25 = .ok (.iaload, 1) := by decide +kernel
theorem dX12_giveBack_26 : decode cX12_giveBack 26 = .ok (.iastore, 1) := by decide +kernel
theorem dX12_giveBack_27 : decode cX12_giveBack 27 = .ok (.iinc 2 1, 3) := by decide +kernel
theorem dX12_giveBack_30 : decode cX12_giveBack 30 = .ok (.goto (-22), 3) := by decide +kernel
theorem dX12_giveBack_33 : decode cX12_giveBack 33 = .ok (.iconst 0, 1) := by decide +kernel
theorem dX12_giveBack_34 : decode cX12_giveBack 34 = .ok (.istore_n 2, 1) := by decide +kernel
theorem dX12_giveBack_35 : decode cX12_giveBack 35 = .ok (.iload_n 2, 1) := by decide +kernel
theorem dX12_giveBack_36 : decode cX12_giveBack 36 = .ok (.bipush 16, 2) := by decide +kernel
theorem dX12_giveBack_38 : decode cX12_giveBack 38 = .ok (.if_icmp .ge 21, 3) := by decide +kernel
theorem dX12_giveBack_41 : decode cX12_giveBack 41 = .ok (.aload_n 0, 1) := by decide +kernel
theorem dX12_giveBack_42 : decode cX12_giveBack 42 = .ok (.getfield 26, 3) := by decide +kernel
theorem dX12_giveBack_45 : decode cX12_giveBack 45 = .ok (.iload_n 2, 1) := by decide +kernel
theorem dX12_giveBack_46 : decode cX12_giveBack 46 = .ok (.aload_n 0, 1) := by decide +kernel
theorem dX12_giveBack_47 : decode cX12_giveBack 47 = .ok (.getfield 32, 3) := by decide +kernel
theorem dX12_giveBack_50 : decode cX12_giveBack 50 = .ok (.iload_n 2, 1) := by decide +kernel
theorem dX12_giveBack_51 : decode cX12_giveBack 51 = .ok (.iaload, 1) := by decide +kernel
theorem dX12_giveBack_52 : decode cX12_giveBack 52 = .ok (.iastore, 1) := by decide +kernel
theorem dX12_giveBack_53 : decode cX12_giveBack 53 = .ok (.iinc 2 1, 3) := by decide +kernel
theorem dX12_giveBack_56 : decode cX12_giveBack 56 = .ok (.goto (-21), 3) := by decide +kernel
theorem dX12_giveBack_59 : decode cX12_giveBack 59 = .ok (.aload_n 0, 1) := by decide +kernel
theorem dX12_giveBack_60 : decode cX12_giveBack 60 = .ok (.iload_n 1, 1) := by decide +kernel
theorem dX12_giveBack_61 : decode cX12_giveBack 61 = .ok (.putfield 148, 3) := by decide +kernel
theorem dX12_giveBack_64 : decode cX12_giveBack 64 = .ok (.return_, 1) := by decide +kernel
theorem dX12_orders_0 : decode cX12_orders 0 = .ok (.aload_n 0, 1) := by decide +kernel
theorem dX12_orders_1 : decode cX12_orders 1 = .ok (.iconst 0, 1) := by decide +kernel
theorem dX12_orders_2 : decode cX12_orders 2 = .ok (.putfield 142, 3) := by decide +kernel
theorem dX12_orders_5 : decode cX12_orders 5 = .ok (.aload_n 0, 1) := by decide +kernel
theorem dX12_orders_6 : decode cX12_orders 6 = .ok (.iconst (-1), 1) := by decide +kernel
theorem dX12_orders_7 : decode cX12_orders 7 = .ok (.putfield 133, 3) := by decide +kernel
theorem dX12_orders_10 : decode cX12_orders 10 = .ok (.aload_n 0, 1) := by decide +kernel
theorem dX12_orders_11 : decode cX12_orders 11 = .ok (.iconst 1, 1) := by decide +kernel
theorem dX12_orders_12 : decode cX12_orders 12 = .ok (.invokevirtual 358, 3) := by decide +kernel
theorem dX12_orders_15 : decode cX12_orders 15 = .ok (.aload_n 0, 1) := by decide +kernel
theorem dX12_orders_16 : decode cX12_orders 16 = .ok (.invokevirtual 508, 3) := by decide +kernel
theorem dX12_orders_19 : decode cX12_orders 19 = .ok (.aload_n 0, 1) := by decide +kernel
theorem dX12_orders_20 : decode cX12_orders 20 = .ok (.getfield 225, 3) := by decide +kernel
theorem dX12_orders_23 : decode cX12_orders 23 = .ok (.ifCond .ne 23, 3) := by decide +kernel
theorem dX12_orders_26 : decode cX12_orders 26 = .ok (.aload_n 0, 1) := by decide +kernel
theorem dX12_orders_27 : decode cX12_orders 27 = .ok (.bipush 59, 2) := by decide +kernel
theorem dX12_orders_29 : decode cX12_orders 29 = .ok (.invokevirtual 294, 3) := by decide +kernel
theorem dX12_orders_32 : decode cX12_orders 32 = .ok (.ifCond .eq 14, 3) := by decide +kernel
theorem dX12_orders_35 : decode cX12_orders 35 = .ok (.aload_n 0, 1) := by decide +kernel
theorem dX12_orders_36 : decode cX12_orders 36 = .ok (.invokevirtual 229, 3) := by decide +kernel
theorem dX12_orders_39 : decode cX12_orders 39 = .ok (.aload_n 0, 1) := by decide +kernel
theorem dX12_orders_40 : decode cX12_orders 40 = .ok (.invokevirtual 508, 3) := by decide +kernel
theorem dX12_orders_43 : decode cX12_orders 43 = .ok (.goto (-24), 3) := by decide +kernel
theorem dX12_orders_46 : decode cX12_orders 46 = .ok (.aload_n 0, 1) := by decide +kernel
theorem dX12_orders_47 : decode cX12_orders 47 = .ok (.invokevirtual 364, 3) := by decide +kernel
theorem dX12_orders_50 : decode cX12_orders 50 = .ok (.aload_n 0, 1) := by decide +kernel
theorem dX12_orders_51 : decode cX12_orders 51 = .ok (.getfield 225, 3) := by decide +kernel
theorem dX12_orders_54 : decode cX12_orders 54 = .ok (.ifCond .eq 10, 3) := by decide +kernel
theorem dX12_orders_57 : decode cX12_orders 57 = .ok (.aload_n 0, 1) := by decide +kernel
theorem dX12_orders_58 : decode cX12_orders 58 = .ok (.bipush (-6), 2) := by decide +kernel
theorem dX12_orders_60 : decode cX12_orders 60 = .ok (.invokevirtual 155, 3) := by decide +kernel
theorem dX12_orders_63 : decode cX12_orders 63 = .ok (.ireturn, 1) := by decide +kernel
theorem dX12_orders_64 : decode cX12_orders 64 = .ok (.aload_n 0, 1) := by decide +kernel
theorem dX12_orders_65 : decode cX12_orders 65 = .ok (.bipush 17, 2) := by decide +kernel
theorem dX12_orders_67 : decode cX12_orders 67 = .ok (.invokevirtual 151, 3) := by decide +kernel
theorem dX12_orders_70 : decode cX12_orders 70 = .ok (.aload_n 0, 1) := by decide +kernel
theorem dX12_orders_71 : decode cX12_orders 71 = .ok (.getfield 148, 3) := by decide +kernel
theorem dX12_orders_74 : decode cX12_orders 74 = .ok (.istore_n 1, 1) := by decide +kernel
theorem dX12_orders_75 : decode cX12_orders 75 = .ok (.iconst 0, 1) := by decide +kernel
theorem dX12_orders_76 : decode cX12_orders 76 = .ok (.istore_n 2, 1) := by decide +kernel
theorem dX12_orders_77 : decode cX12_orders 77 = .ok (.iload_n 2, 1) := by decide +kernel
theorem dX12_orders_78 : decode cX12_orders 78 = .ok (.sipush 400, 3) := by decide +kernel
theorem dX12_orders_81 : decode cX12_orders 81 = .ok (.if_icmp .ge 21, 3) := by decide +kernel
theorem dX12_orders_84 : decode cX12_orders 84 = .ok (.aload_n 0, 1) := by decide +kernel
theorem dX12_orders_85 : decode cX12_orders 85 = .ok (.getfield 29, 3) := by decide +kernel
theorem dX12_orders_88 : decode cX12_orders 88 = .ok (.iload_n 2, 1) := by decide +kernel
theorem dX12_orders_89 : decode cX12_orders 89 = .ok (.aload_n 0, 1) := by decide +kernel
theorem dX12_orders_90 : decode cX12_orders 90 = .ok (.getfield 23, 3) := by decide +kernel
theorem dX12_orders_93 : decode cX12_orders 93 = .ok (.iload_n 2, 1) := by decide +kernel
theorem dX12_orders_94 : decode cX12_orders 94 = .ok (.iaload, 1) := by decide +kernel
theorem dX12_orders_95 : decode cX12_orders 95 = .ok (.iastore, 1) := by decide +kernel
theorem dX12_orders_96 : decode cX12_orders 96 = .ok (.iinc 2 1, 3) := by decide +kernel
theorem dX12_orders_99 : decode cX12_orders 99 = .ok (.goto (-22), 3) := by decide +kernel
theorem dX12_orders_102 : decode cX12_orders 102 = .ok (.iconst 0, 1) := by decide +kernel
theorem dX12_orders_103 : decode cX12_orders 103 = .ok (.istore_n 2, 1) := by decide +kernel
theorem dX12_orders_104 : decode cX12_orders 104 = .ok (.iload_n 2, 1) := by decide +kernel
theorem dX12_orders_105 : decode cX12_orders 105 = .ok (.bipush 16, 2) := by decide +kernel
theorem dX12_orders_107 : decode cX12_orders 107 = .ok (.if_icmp .ge 21, 3) := by decide +kernel
theorem dX12_orders_110 : decode cX12_orders 110 = .ok (.aload_n 0, 1) := by decide +kernel
theorem dX12_orders_111 : decode cX12_orders 111 = .ok (.getfield 32, 3) := by decide +kernel
theorem dX12_orders_114 : decode cX12_orders 114 = .ok (.iload_n 2, 1) := by decide +kernel
theorem dX12_orders_115 : decode cX12_orders 115 = .ok (.aload_n 0, 1) := by decide +kernel
theorem dX12_orders_116 : decode cX12_orders 116 = .ok (.getfield 26, 3) := by decide +kernel
theorem dX12_orders_119 : decode cX12_orders 119 = .ok (.iload_n 2, 1) := by decide +kernel
theorem dX12_orders_120 : decode cX12_orders 120 = .ok (.iaload, 1) := by decide +kernel
theorem dX12_orders_121 : decode cX12_orders 121 = .ok (.iastore, 1) := by decide +kernel
theorem dX12_orders_122 : decode cX12_orders 122 = .ok (.iinc 2 1, 3) := by decide +kernel
theorem dX12_orders_125 : decode cX12_orders 125 = .ok (.goto (-21), 3) := by decide +kernel
theorem dX12_orders_128 : decode cX12_orders 128 = .ok (.aload_n 0, 1) := by decide +kernel
theorem dX12_orders_129 : decode cX12_orders 129 = .ok (.iconst 0, 1) := by decide +kernel
theorem dX12_orders_130 : decode cX12_orders 130 = .ok (.putfield 496, 3) := by decide +kernel
theorem dX12_orders_133 : decode cX12_orders 133 = .ok (.aload_n 0, 1) := by decide +kernel
theorem dX12_orders_134 : decode cX12_orders 134 = .ok (.iconst (-1), 1) := by decide +kernel
theorem dX12_orders_135 : decode cX12_orders 135 = .ok (.putfield 499, 3) := by decide +kernel
theorem dX12_orders_138 : decode cX12_orders 138 = .ok (.iconst 0, 1) := by decide +kernel
theorem dX12_orders_139 : decode cX12_orders 139 = .ok (.istore_n 2, 1) := by decide +kernel
theorem dX12_orders_140 : decode cX12_orders 140 = .ok (.iload_n 2, 1) := by decide +kernel
theorem dX12_orders_141 : decode cX12_orders 141 = .ok (.aload_n 0, 1) := by decide +kernel
theorem dX12_orders_142 : decode cX12_orders 142 = .ok (.getfield 350, 3) := by decide +kernel
theorem dX12_orders_145 : decode cX12_orders 145 = .ok (.if_icmp .ge 61, 3) := by decide +kernel
theorem dX12_orders_148 : decode cX12_orders 148 = .ok (.iconst 0, 1) := by decide +kernel
theorem dX12_orders_149 : decode cX12_orders 149 = .ok (.istore_n 3, 1) := by decide +kernel
theorem dX12_orders_150 : decode cX12_orders 150 = .ok (.iload_n 3, 1) := by decide +kernel
theorem dX12_orders_151 : decode cX12_orders 151 = .ok (.aload_n 0, 1) := by decide +kernel
theorem dX12_orders_152 : decode cX12_orders 152 = .ok (.getfield 130, 3) := by decide +kernel
theorem dX12_orders_155 : decode cX12_orders 155 = .ok (.bipush 8, 2) := by decide +kernel
theorem dX12_orders_157 : decode cX12_orders 157 = .ok (.iload_n 2, 1) := by decide +kernel
theorem dX12_orders_158 : decode cX12_orders 158 = .ok (.imul, 1) := by decide +kernel
theorem dX12_orders_159 : decode cX12_orders 159 = .ok (.bipush 7, 2) := by decide +kernel
theorem dX12_orders_161 : decode cX12_orders 161 = .ok (.iadd, 1) := by decide +kernel
theorem dX12_orders_162 : decode cX12_orders 162 = .ok (.iaload, 1) := by decide +kernel
theorem dX12_orders_163 : decode cX12_orders 163 = .ok (.if_icmp .ge 37, 3) := by decide +kernel
theorem dX12_orders_166 : decode cX12_orders 166 = .ok (.aload_n 0, 1) := by decide +kernel
theorem dX12_orders_167 : decode cX12_orders 167 = .ok (.bipush 8, 2) := by decide +kernel
theorem dX12_orders_169 : decode cX12_orders 169 = .ok (.iload_n 2, 1) := by decide +kernel
theorem dX12_orders_170 : decode cX12_orders 170 = .ok (.imul, 1) := by decide +kernel
theorem dX12_orders_171 : decode cX12_orders 171 = .ok (.invokevirtual 511, 3) := by decide +kernel
theorem dX12_orders_174 : decode cX12_orders 174 = .ok (.ifCond .ge 20, 3) := by decide +kernel
theorem dX12_orders_177 : decode cX12_orders 177 = .ok (.aload_n 0, 1) := by decide +kernel
theorem dX12_orders_178 : decode cX12_orders 178 = .ok (.iload_n 1, 1) := by decide +kernel
theorem dX12_orders_179 : decode cX12_orders 179 = .ok (.invokevirtual 514, 3) := by decide +kernel
theorem dX12_orders_182 : decode cX12_orders 182 = .ok (.aload_n 0, 1) := by decide +kernel
theorem dX12_orders_183 : decode cX12_orders 183 = .ok (.iload_n 2, 1) := by decide +kernel
theorem dX12_orders_184 : decode cX12_orders 184 = .ok (.putfield 133, 3) := by decide +kernel
theorem dX12_orders_187 : decode cX12_orders 187 = .ok (.aload_n 0, 1) := by decide +kernel
theorem dX12_orders_188 : decode cX12_orders 188 = .ok (.bipush (-3), 2) := by decide +kernel
theorem dX12_orders_190 : decode cX12_orders 190 = .ok (.invokevirtual 155, 3) := by decide +kernel
theorem dX12_orders_193 : decode cX12_orders 193 = .ok (.ireturn, 1) := by decide +kernel
theorem dX12_orders_194 : decode cX12_orders 194 = .ok (.iinc 3 1, 3) := by decide +kernel
theorem dX12_orders_197 : decode cX12_orders 197 = .ok (.goto (-47), 3) := by decide +kernel
theorem dX12_orders_200 : decode cX12_orders 200 = .ok (.iinc 2 1, 3) := by decide +kernel
theorem dX12_orders_203 : decode cX12_orders 203 = .ok (.goto (-63), 3) := by decide +kernel
theorem dX12_orders_206 : decode cX12_orders 206 = .ok (.aload_n 0, 1) := by decide +kernel
theorem dX12_orders_207 : decode cX12_orders 207 = .ok (.aload_n 0, 1) := by decide +kernel
theorem dX12_orders_208 : decode cX12_orders 208 = .ok (.getfield 496, 3) := by decide +kernel
theorem dX12_orders_211 : decode cX12_orders 211 = .ok (.invokevirtual 155, 3) := by decide +kernel
theorem dX12_orders_214 : decode cX12_orders 214 = .ok (.ireturn, 1) := by decide +kernel
theorem dX12_stopped_0 : decode cX12_stopped 0 = .ok (.aload_n 0, 1) := by decide +kernel
theorem dX12_stopped_1 : decode cX12_stopped 1 = .ok (.iconst 0, 1) := by decide +kernel
theorem dX12_stopped_2 : decode cX12_stopped 2 = .ok (.putfield 142, 3) := by decide +kernel
theorem dX12_stopped_5 : decode cX12_stopped 5 = .ok (.aload_n 0, 1) := by decide +kernel
theorem dX12_stopped_6 : decode cX12_stopped 6 = .ok (.getfield 133, 3) := by decide +kernel
theorem dX12_stopped_9 : decode cX12_stopped 9 = .ok (.ireturn, 1) := by decide +kernel
theorem dX12_draw_0 : decode cX12_draw 0 = .ok (.aload_n 0, 1) := by decide +kernel
theorem dX12_draw_1 : decode cX12_draw 1 = .ok (.aload_n 0, 1) := by decide +kernel
theorem dX12_draw_2 : decode cX12_draw 2 = .ok (.getfield 517, 3) := by decide +kernel
theorem dX12_draw_5 : decode cX12_draw 5 = .ok (.ldc2_w 520, 3) := by decide +kernel
theorem dX12_draw_8 : decode cX12_draw 8 = .ok (.lmul, 1) := by decide +kernel
theorem dX12_draw_9 : decode cX12_draw 9 = .ok (.ldc2_w 522, 3) := by decide +kernel
theorem dX12_draw_12 : decode cX12_draw 12 = .ok (.ladd, 1) := by decide +kernel
theorem dX12_draw_13 : decode cX12_draw 13 = .ok (.ldc2_w 524, 3) := by decide +kernel
theorem dX12_draw_16 : decode cX12_draw 16 = .ok (.lrem, 1) := by decide +kernel
theorem dX12_draw_17 : decode cX12_draw 17 = .ok (.putfield 517, 3) := by decide +kernel
theorem dX12_draw_20 : decode cX12_draw 20 = .ok (.aload_n 0, 1) := by decide +kernel
theorem dX12_draw_21 : decode cX12_draw 21 = .ok (.getfield 517, 3) := by decide +kernel
theorem dX12_draw_24 : decode cX12_draw 24 = .ok (.iload_n 1, 1) := by decide +kernel
theorem dX12_draw_25 : decode cX12_draw 25 = .ok (.i2l, 1) := by decide +kernel
theorem dX12_draw_26 : decode cX12_draw 26 = .ok (.lrem, 1) := by decide +kernel
theorem dX12_draw_27 : decode cX12_draw 27 = .ok (.l2i, 1) := by decide +kernel
theorem dX12_draw_28 : decode cX12_draw 28 = .ok (.ireturn, 1) := by decide +kernel
theorem dX12_sieges_0 : decode cX12_sieges 0 = .ok (.aload_n 0, 1) := by decide +kernel
theorem dX12_sieges_1 : decode cX12_sieges 1 = .ok (.iconst 0, 1) := by decide +kernel
theorem dX12_sieges_2 : decode cX12_sieges 2 = .ok (.putfield 142, 3) := by decide +kernel
theorem dX12_sieges_5 : decode cX12_sieges 5 = .ok (.iload_n 1, 1) := by decide +kernel
theorem dX12_sieges_6 : decode cX12_sieges 6 = .ok (.i2l, 1) := by decide +kernel
theorem dX12_sieges_7 : decode cX12_sieges 7 = .ok (.lconst 0, 1) := by decide +kernel
theorem dX12_sieges_8 : decode cX12_sieges 8 = .ok (.ldc2_w 174, 3) := by decide +kernel
theorem dX12_sieges_11 : decode cX12_sieges 11 = .ok (.invokestatic 162, 3) := by decide +kernel
theorem dX12_sieges_14 : decode cX12_sieges 14 = .ok (.ifCond .eq 15, 3) := by decide +kernel
theorem dX12_sieges_17 : decode cX12_sieges 17 = .ok (.iload_n 2, 1) := by decide +kernel
theorem dX12_sieges_18 : decode cX12_sieges 18 = .ok (.i2l, 1) := by decide +kernel
theorem dX12_sieges_19 : decode cX12_sieges 19 = .ok (.lconst 1, 1) := by decide +kernel
theorem dX12_sieges_20 : decode cX12_sieges 20 = .ok (.ldc2_w 526, 3) := by decide +kernel
theorem dX12_sieges_23 : decode cX12_sieges 23 = .ok (.invokestatic 162, 3) := by decide +kernel
theorem dX12_sieges_26 : decode cX12_sieges 26 = .ok (.ifCond .ne 9, 3) := by decide +kernel
theorem dX12_sieges_29 : decode cX12_sieges 29 = .ok (.aload_n 0, 1) := by decide +kernel
theorem dX12_sieges_30 : decode cX12_sieges 30 = .ok (.iconst (-1), 1) := by decide +kernel
theorem dX12_sieges_31 : decode cX12_sieges 31 = .ok (.invokevirtual 155, 3) := by decide +kernel
theorem dX12_sieges_34 : decode cX12_sieges 34 = .ok (.ireturn, 1) := by decide +kernel
theorem dX12_sieges_35 : decode cX12_sieges 35 = .ok (.aload_n 0, 1) := by decide +kernel
theorem dX12_sieges_36 : decode cX12_sieges 36 = .ok (.getfield 13, 3) := by decide +kernel
theorem dX12_sieges_39 : decode cX12_sieges 39 = .ok (.iconst 0, 1) := by decide +kernel
theorem dX12_sieges_40 : decode cX12_sieges 40 = .ok (.iaload, 1) := by decide +kernel
theorem dX12_sieges_41 : decode cX12_sieges 41 = .ok (.ifCond .ne 10, 3) := by decide +kernel
theorem dX12_sieges_44 : decode cX12_sieges 44 = .ok (.aload_n 0, 1) := by decide +kernel
theorem dX12_sieges_45 : decode cX12_sieges 45 = .ok (.bipush (-3), 2) := by decide +kernel
theorem dX12_sieges_47 : decode cX12_sieges 47 = .ok (.invokevirtual 155, 3) := by decide +kernel
theorem dX12_sieges_50 : decode cX12_sieges 50 = .ok (.ireturn, 1) := by decide +kernel
theorem dX12_sieges_51 : decode cX12_sieges 51 = .ok (.aload_n 0, 1) := by decide +kernel
theorem dX12_sieges_52 : decode cX12_sieges 52 = .ok (.bipush 16, 2) := by decide +kernel
theorem dX12_sieges_54 : decode cX12_sieges 54 = .ok (.invokevirtual 151, 3) := by decide +kernel
theorem dX12_sieges_57 : decode cX12_sieges 57 = .ok (.aload_n 0, 1) := by decide +kernel
theorem dX12_sieges_58 : decode cX12_sieges 58 = .ok (.iload_n 1, 1) := by decide +kernel
theorem dX12_sieges_59 : decode cX12_sieges 59 = .ok (.i2l, 1) := by decide +kernel
theorem dX12_sieges_60 : decode cX12_sieges 60 = .ok (.putfield 517, 3) := by decide +kernel
theorem dX12_sieges_63 : decode cX12_sieges 63 = .ok (.iconst 0, 1) := by decide +kernel
theorem dX12_sieges_64 : decode cX12_sieges 64 = .ok (.istore_n 3, 1) := by decide +kernel
theorem dX12_sieges_65 : decode cX12_sieges 65 = .ok (.iconst 0, 1) := by decide +kernel
theorem dX12_sieges_66 : decode cX12_sieges 66 = .ok (.istore 4, 2) := by decide +kernel
theorem dX12_sieges_68 : decode cX12_sieges 68 = .ok (.iload 4, 2) := by decide +kernel
theorem dX12_sieges_70 : decode cX12_sieges 70 = .ok (.iload_n 2, 1) := by decide +kernel
theorem dX12_sieges_71 : decode cX12_sieges 71 = .ok (.if_icmp .ge 146, 3) := by decide +kernel
theorem dX12_sieges_74 : decode cX12_sieges 74 = .ok (.aload_n 0, 1) := by decide +kernel
theorem dX12_sieges_75 : decode cX12_sieges 75 = .ok (.aload_n 0, 1) := by decide +kernel
theorem dX12_sieges_76 : decode cX12_sieges 76 = .ok (.getfield 13, 3) := by decide +kernel
theorem dX12_sieges_79 : decode cX12_sieges 79 = .ok (.iconst 0, 1) := by decide +kernel
theorem dX12_sieges_80 : decode cX12_sieges 80 = .ok (.iaload, 1) := by decide +kernel
theorem dX12_sieges_81 : decode cX12_sieges 81 = .ok (.invokevirtual 528, 3) := by decide +kernel
theorem dX12_sieges_84 : decode cX12_sieges 84 = .ok (.istore 5, 2) := by decide +kernel
theorem dX12_sieges_86 : decode cX12_sieges 86 = .ok (.aload_n 0, 1) := by decide +kernel
theorem dX12_sieges_87 : decode cX12_sieges 87 = .ok (.bipush 99, 2) := by decide +kernel
theorem dX12_sieges_89 : decode cX12_sieges 89 = .ok (.invokevirtual 528, 3) := by decide +kernel
theorem dX12_sieges_92 : decode cX12_sieges 92 = .ok (.iconst 1, 1) := by decide +kernel
theorem dX12_sieges_93 : decode cX12_sieges 93 = .ok (.iadd, 1) := by decide +kernel
theorem dX12_sieges_94 : decode cX12_sieges 94 = .ok (.istore 6, 2) := by decide +kernel
theorem dX12_sieges_96 : decode cX12_sieges 96 = .ok (.aload_n 0, 1) := by decide +kernel
theorem dX12_sieges_97 : decode cX12_sieges 97 = .ok (.bipush 6, 2) := by decide +kernel
theorem dX12_sieges_99 : decode cX12_sieges 99 = .ok (.invokevirtual 528, 3) := by decide +kernel
theorem dX12_sieges_102 : decode cX12_sieges 102 = .ok (.istore 7, 2) := by decide +kernel
theorem dX12_sieges_104 : decode cX12_sieges 104 = .ok (.aload_n 0, 1) := by decide +kernel
theorem dX12_sieges_105 : decode cX12_sieges 105 = .ok (.getfield 13, 3) := by decide +kernel
theorem dX12_sieges_108 : decode cX12_sieges 108 = .ok (.bipush 25, 2) := by decide +kernel
theorem dX12_sieges_110 : decode cX12_sieges 110 = .ok (.iload 5, 2) := by decide +kernel
theorem dX12_sieges_112 : decode cX12_sieges 112 = .ok (.iadd, 1) := by decide +kernel
theorem dX12_sieges_113 : decode cX12_sieges 113 = .ok (.iaload, 1) := by decide +kernel
theorem dX12_sieges_114 : decode cX12_sieges 114 = .ok (.ifCond .ne 97, 3) := by decide +kernel
theorem dX12_sieges_117 : decode cX12_sieges 117 = .ok (.aload_n 0, 1) := by decide +kernel
theorem dX12_sieges_118 : decode cX12_sieges 118 = .ok (.getfield 13, 3) := by decide +kernel
theorem dX12_sieges_121 : decode cX12_sieges 121 = .ok (.bipush 19, 2) := by decide +kernel
theorem dX12_sieges_123 : decode cX12_sieges 123 = .ok (.iload 5, 2) := by decide +kernel
theorem dX12_sieges_125 : decode cX12_sieges 125 = .ok (.iadd, 1) := by decide +kernel
theorem dX12_sieges_126 : decode cX12_sieges 126 = .ok (.iaload, 1) := by decide +kernel
theorem dX12_sieges_127 : decode cX12_sieges 127 = .ok (.istore 8, 2) := by decide +kernel
theorem dX12_sieges_129 : decode cX12_sieges 129 = .ok (.aload_n 0, 1) := by decide +kernel
theorem dX12_sieges_130 : decode cX12_sieges 130 = .ok (.getfield 13, 3) := by decide +kernel
theorem dX12_sieges_133 : decode cX12_sieges 133 = .ok (.bipush 19, 2) := by decide +kernel
theorem dX12_sieges_135 : decode cX12_sieges 135 = .ok (.iload 5, 2) := by decide +kernel
theorem dX12_sieges_137 : decode cX12_sieges 137 = .ok (.iadd, 1) := by decide +kernel
theorem dX12_sieges_138 : decode cX12_sieges 138 = .ok (.iload 8, 2) := by decide +kernel
theorem dX12_sieges_140 : decode cX12_sieges 140 = .ok (.iload 7, 2) := by decide +kernel
theorem dX12_sieges_142 : decode cX12_sieges 142 = .ok (.invokestatic 170, 3) := by decide +kernel
theorem dX12_sieges_145 : decode cX12_sieges 145 = .ok (.ifCond .eq 13, 3) := by decide +kernel
theorem dX12_sieges_148 : decode cX12_sieges 148 = .ok (.iload 8, 2) := by decide +kernel
theorem dX12_sieges_150 : decode cX12_sieges 150 = .ok (.iconst 1, 1) := by decide +kernel
theorem dX12_sieges_151 : decode cX12_sieges 151 = .ok (.iload 7, 2) := by decide +kernel
theorem dX12_sieges_153 : decode cX12_sieges 153 = .ok (.ishl, 1) := by decide +kernel
theorem dX12_sieges_154 : decode cX12_sieges 154 = .ok (.isub, 1) := by decide +kernel
theorem dX12_sieges_155 : decode cX12_sieges 155 = .ok (.goto 26, 3) := by decide +kernel
theorem dX12_sieges_158 : decode cX12_sieges 158 = .ok (.aload_n 0, 1) := by decide +kernel
theorem dX12_sieges_159 : decode cX12_sieges 159 = .ok (.iload 5, 2) := by decide +kernel
theorem dX12_sieges_161 : decode cX12_sieges 161 = .ok (.iload 7, 2) := by decide +kernel
theorem dX12_sieges_163 : decode cX12_sieges 163 = .ok (.invokevirtual 420, 3) := by decide +kernel
theorem dX12_sieges_166 : decode cX12_sieges 166 = .ok (.ifCond .eq 13, 3) := by decide +kernel
theorem dX12_sieges_169 : decode cX12_sieges 169 = .ok (.iload 8, 2) := by decide +kernel
theorem dX12_sieges_171 : decode cX12_sieges 171 = .ok (.iconst 1, 1) := by decide +kernel
theorem dX12_sieges_172 : decode cX12_sieges 172 = .ok (.iload 7, 2) := by decide +kernel
theorem dX12_sieges_174 : decode cX12_sieges 174 = .ok (.ishl, 1) := by decide +kernel
theorem dX12_sieges_175 : decode cX12_sieges 175 = .ok (.ior, 1) := by decide +kernel
theorem dX12_sieges_176 : decode cX12_sieges 176 = .ok (.goto 5, 3) := by decide +kernel
theorem dX12_sieges_179 : decode cX12_sieges 179 = .ok (.iload 8, 2) := by decide +kernel
theorem dX12_sieges_181 : decode cX12_sieges 181 = .ok (.iastore, 1) := by decide +kernel
theorem dX12_sieges_182 : decode cX12_sieges 182 = .ok (.iload_n 3, 1) := by decide +kernel
theorem dX12_sieges_183 : decode cX12_sieges 183 = .ok (.aload_n 0, 1) := by decide +kernel
theorem dX12_sieges_184 : decode cX12_sieges 184 = .ok (.iload 5, 2) := by decide +kernel
theorem dX12_sieges_186 : decode cX12_sieges 186 = .ok (.invokevirtual 437, 3) := by decide +kernel
theorem dX12_sieges_189 : decode cX12_sieges 189 = .ok (.ifCond .eq 19, 3) := by decide +kernel
theorem dX12_sieges_192 : decode cX12_sieges 192 = .ok (.aload_n 0, 1) := by decide +kernel
theorem dX12_sieges_193 : decode cX12_sieges 193 = .ok (.iload 6, 2) := by decide +kernel
theorem dX12_sieges_195 : decode cX12_sieges 195 = .ok (.iload 5, 2) := by decide +kernel
theorem dX12_sieges_197 : decode cX12_sieges 197 = .ok (.invokevirtual 440, 3) := by decide +kernel
theorem dX12_sieges_200 : decode cX12_sieges 200 = .ok (.iconst 1, 1) := by decide +kernel
theorem dX12_sieges_201 : decode cX12_sieges 201 = .ok (.if_icmp .ne 7, 3) := by decide +kernel
theorem dX12_sieges_204 : decode cX12_sieges 204 = .ok (.iconst 1, 1) := by decide +kernel
theorem dX12_sieges_205 : decode cX12_sieges 205 = .ok (.goto 4, 3) := by decide +kernel
theorem dX12_sieges_208 : decode cX12_sieges 208 = .ok (.iconst 0, 1) := by decide +kernel
theorem dX12_sieges_209 : decode cX12_sieges 209 = .ok (.iadd, 1) := by decide +kernel
theorem dX12_sieges_210 : decode cX12_sieges 210 = .ok (.istore_n 3, 1) := by decide +kernel
theorem dX12_sieges_211 : decode cX12_sieges 211 = .ok (.iinc 4 1, 3) := by decide +kernel
theorem dX12_sieges_214 : decode cX12_sieges 214 = .ok (.goto (-146), 3) := by decide +kernel
theorem dX12_sieges_217 : decode cX12_sieges 217 = .ok (.aload_n 0, 1) := by decide +kernel
theorem dX12_sieges_218 : decode cX12_sieges 218 = .ok (.aload_n 0, 1) := by decide +kernel
theorem dX12_sieges_219 : decode cX12_sieges 219 = .ok (.getfield 13, 3) := by decide +kernel
theorem dX12_sieges_222 : decode cX12_sieges 222 = .ok (.iconst 0, 1) := by decide +kernel
theorem dX12_sieges_223 : decode cX12_sieges 223 = .ok (.iaload, 1) := by decide +kernel
theorem dX12_sieges_224 : decode cX12_sieges 224 = .ok (.putfield 139, 3) := by decide +kernel
theorem dX12_sieges_227 : decode cX12_sieges 227 = .ok (.iconst 0, 1) := by decide +kernel
theorem dX12_sieges_228 : decode cX12_sieges 228 = .ok (.istore 4, 2) := by decide +kernel
theorem dX12_sieges_230 : decode cX12_sieges 230 = .ok (.iload 4, 2) := by decide +kernel
theorem dX12_sieges_232 : decode cX12_sieges 232 = .ok (.aload_n 0, 1) := by decide +kernel
theorem dX12_sieges_233 : decode cX12_sieges 233 = .ok (.getfield 139, 3) := by decide +kernel
theorem dX12_sieges_236 : decode cX12_sieges 236 = .ok (.if_icmp .ge 70, 3) := by decide +kernel
theorem dX12_sieges_239 : decode cX12_sieges 239 = .ok (.aload_n 0, 1) := by decide +kernel
theorem dX12_sieges_240 : decode cX12_sieges 240 = .ok (.getfield 136, 3) := by decide +kernel
theorem dX12_sieges_243 : decode cX12_sieges 243 = .ok (.iconst 3, 1) := by decide +kernel
theorem dX12_sieges_244 : decode cX12_sieges 244 = .ok (.iload 4, 2) := by decide +kernel
theorem dX12_sieges_246 : decode cX12_sieges 246 = .ok (.imul, 1) := by decide +kernel
theorem dX12_sieges_247 : decode cX12_sieges 247 = .ok (.aload_n 0, 1) := by decide +kernel
theorem dX12_sieges_248 : decode cX12_sieges 248 = .ok (.getfield 13, 3) := by decide +kernel
theorem dX12_sieges_251 : decode cX12_sieges 251 = .ok (.bipush 13, 2) := by decide +kernel
theorem dX12_sieges_253 : decode cX12_sieges 253 = .ok (.iload 4, 2) := by decide +kernel
theorem dX12_sieges_255 : decode cX12_sieges 255 = .ok (.iadd, 1) := by decide +kernel
theorem dX12_sieges_256 : decode cX12_sieges 256 = .ok (.iaload, 1) := by decide +kernel
theorem dX12_sieges_257 : decode cX12_sieges 257 = .ok (.iastore, 1) := by decide +kernel
theorem dX12_sieges_258 : decode cX12_sieges 258 = .ok (.aload_n 0, 1) := by decide +kernel
theorem dX12_sieges_259 : decode cX12_sieges 259 = .ok (.getfield 136, 3) := by decide +kernel
theorem dX12_sieges_262 : decode cX12_sieges 262 = .ok (.iconst 3, 1) := by decide +kernel
theorem dX12_sieges_263 : decode cX12_sieges 263 = .ok (.iload 4, 2) := by decide +kernel
theorem dX12_sieges_265 : decode cX12_sieges 265 = .ok (.imul, 1) := by decide +kernel
theorem dX12_sieges_266 : decode cX12_sieges 266 = .ok (.iconst 1, 1) := by decide +kernel
theorem dX12_sieges_267 : decode cX12_sieges 267 = .ok (.iadd, 1) := by decide +kernel
theorem dX12_sieges_268 : decode cX12_sieges 268 = .ok (.aload_n 0, 1) := by decide +kernel
theorem dX12_sieges_269 : decode cX12_sieges 269 = .ok (.getfield 13, 3) := by decide +kernel
theorem dX12_sieges_272 : decode cX12_sieges 272 = .ok (.bipush 25, 2) := by decide +kernel
theorem dX12_sieges_274 : decode cX12_sieges 274 = .ok (.iload 4, 2) := by decide +kernel
theorem dX12_sieges_276 : decode cX12_sieges 276 = .ok (.iadd, 1) := by decide +kernel
theorem dX12_sieges_277 : decode cX12_sieges 277 = .ok (.iaload, 1) := by decide +kernel
theorem dX12_sieges_278 : decode cX12_sieges 278 = .ok (.iastore, 1) := by decide +kernel
theorem dX12_sieges_279 : decode cX12_sieges 279 = .ok (.aload_n 0, 1) := by decide +kernel
theorem dX12_sieges_280 : decode cX12_sieges 280 = .ok (.getfield 136, 3) := by decide +kernel
theorem dX12_sieges_283 : decode cX12_sieges 283 = .ok (.iconst 3, 1) := by decide +kernel
theorem dX12_sieges_284 : decode cX12_sieges 284 = .ok (.iload 4, 2) := by decide +kernel
theorem dX12_sieges_286 : decode cX12_sieges 286 = .ok (.imul, 1) := by decide +kernel
theorem dX12_sieges_287 : decode cX12_sieges 287 = .ok (.iconst 2, 1) := by decide +kernel
theorem dX12_sieges_288 : decode cX12_sieges 288 = .ok (.iadd, 1) := by decide +kernel
theorem dX12_sieges_289 : decode cX12_sieges 289 = .ok (.aload_n 0, 1) := by decide +kernel
theorem dX12_sieges_290 : decode cX12_sieges 290 = .ok (.getfield 13, 3) := by decide +kernel
theorem dX12_sieges_293 : decode cX12_sieges 293 = .ok (.bipush 19, 2) := by decide +kernel
theorem dX12_sieges_295 : decode cX12_sieges 295 = .ok (.iload 4, 2) := by decide +kernel
theorem dX12_sieges_297 : decode cX12_sieges 297 = .ok (.iadd, 1) := by decide +kernel
theorem dX12_sieges_298 : decode cX12_sieges 298 = .ok (.iaload, 1) := by decide +kernel
theorem dX12_sieges_299 : decode cX12_sieges 299 = .ok (.iastore, 1) := by decide +kernel
theorem dX12_sieges_300 : decode cX12_sieges 300 = .ok (.iinc 4 1, 3) := by decide +kernel
theorem dX12_sieges_303 : decode cX12_sieges 303 = .ok (.goto (-73), 3) := by decide +kernel
theorem dX12_sieges_306 : decode cX12_sieges 306 = .ok (.iconst 0, 1) := by decide +kernel
theorem dX12_sieges_307 : decode cX12_sieges 307 = .ok (.istore 4, 2) := by decide +kernel
theorem dX12_sieges_309 : decode cX12_sieges 309 = .ok (.iload 4, 2) := by decide +kernel
theorem dX12_sieges_311 : decode cX12_sieges 311 = .ok (.iconst 4, 1) := by decide +kernel
theorem dX12_sieges_312 : decode cX12_sieges 312 = .ok (.if_icmp .ge 29, 3) := by decide +kernel
theorem dX12_sieges_315 : decode cX12_sieges 315 = .ok (.aload_n 0, 1) := by decide +kernel
theorem dX12_sieges_316 : decode cX12_sieges 316 = .ok (.getfield 136, 3) := by decide +kernel
theorem dX12_sieges_319 : decode cX12_sieges 319 = .ok (.bipush 18, 2) := by decide +kernel
theorem dX12_sieges_321 : decode cX12_sieges 321 = .ok (.iload 4, 2) := by decide +kernel
theorem dX12_sieges_323 : decode cX12_sieges 323 = .ok (.iadd, 1) := by decide +kernel
theorem dX12_sieges_324 : decode cX12_sieges 324 = .ok (.aload_n 0, 1) := by decide +kernel
theorem dX12_sieges_325 : decode cX12_sieges 325 = .ok (.getfield 13, 3) := by decide +kernel
theorem dX12_sieges_328 : decode cX12_sieges 328 = .ok (.bipush 9, 2) := by decide +kernel
theorem dX12_sieges_330 : decode cX12_sieges 330 = .ok (.iload 4, 2) := by decide +kernel
theorem dX12_sieges_332 : decode cX12_sieges 332 = .ok (.iadd, 1) := by decide +kernel
theorem dX12_sieges_333 : decode cX12_sieges 333 = .ok (.iaload, 1) := by decide +kernel
theorem dX12_sieges_334 : decode cX12_sieges 334 = .ok (.iastore, 1) := by decide +kernel
theorem dX12_sieges_335 : decode cX12_sieges 335 = .ok (.iinc 4 1, 3) := by decide +kernel
theorem dX12_sieges_338 : decode cX12_sieges 338 = .ok (.goto (-29), 3) := by decide +kernel
theorem dX12_sieges_341 : decode cX12_sieges 341 = .ok (.aload_n 0, 1) := by decide +kernel
theorem dX12_sieges_342 : decode cX12_sieges 342 = .ok (.bipush 16, 2) := by decide +kernel
theorem dX12_sieges_344 : decode cX12_sieges 344 = .ok (.invokevirtual 159, 3) := by decide +kernel
theorem dX12_sieges_347 : decode cX12_sieges 347 = .ok (.aload_n 0, 1) := by decide +kernel
theorem dX12_sieges_348 : decode cX12_sieges 348 = .ok (.iload_n 3, 1) := by decide +kernel
theorem dX12_sieges_349 : decode cX12_sieges 349 = .ok (.invokevirtual 155, 3) := by decide +kernel
theorem dX12_sieges_352 : decode cX12_sieges 352 = .ok (.ireturn, 1) := by decide +kernel
theorem dX12_drawn_0 : decode cX12_drawn 0 = .ok (.aload_n 0, 1) := by decide +kernel
theorem dX12_drawn_1 : decode cX12_drawn 1 = .ok (.iconst 0, 1) := by decide +kernel
theorem dX12_drawn_2 : decode cX12_drawn 2 = .ok (.putfield 142, 3) := by decide +kernel
theorem dX12_drawn_5 : decode cX12_drawn 5 = .ok (.aload_n 0, 1) := by decide +kernel
theorem dX12_drawn_6 : decode cX12_drawn 6 = .ok (.getfield 139, 3) := by decide +kernel
theorem dX12_drawn_9 : decode cX12_drawn 9 = .ok (.iconst (-1), 1) := by decide +kernel
theorem dX12_drawn_10 : decode cX12_drawn 10 = .ok (.if_icmp .eq 42, 3) := by decide +kernel
theorem dX12_drawn_13 : decode cX12_drawn 13 = .ok (.iload_n 2, 1) := by decide +kernel
theorem dX12_drawn_14 : decode cX12_drawn 14 = .ok (.i2l, 1) := by decide +kernel
theorem dX12_drawn_15 : decode cX12_drawn 15 = .ok (.lconst 0, 1) := by decide +kernel
theorem dX12_drawn_16 : decode cX12_drawn 16 = .ok (.ldc2_w 189, 3) := by decide +kernel
theorem dX12_drawn_19 : decode cX12_drawn 19 = .ok (.invokestatic 162, 3) := by decide +kernel
theorem dX12_drawn_22 : decode cX12_drawn 22 = .ok (.ifCond .eq 30, 3) := by decide +kernel
theorem dX12_drawn_25 : decode cX12_drawn 25 = .ok (.iload_n 1, 1) := by decide +kernel
theorem dX12_drawn_26 : decode cX12_drawn 26 = .ok (.i2l, 1) := by decide +kernel
theorem dX12_drawn_27 : decode cX12_drawn 27 = .ok (.lconst 0, 1) := by decide +kernel
theorem dX12_drawn_28 : decode cX12_drawn 28 = .ok (.iload_n 2, 1) := by decide +kernel
theorem dX12_drawn_29 : decode cX12_drawn 29 = .ok (.iconst 3, 1) := by decide +kernel
theorem dX12_drawn_30 : decode cX12_drawn 30 = .ok (.if_icmp .ne 9, 3) := by decide +kernel
theorem dX12_drawn_33 : decode cX12_drawn 33 = .ok (.ldc2_w 189, 3) := by decide +kernel
theorem dX12_drawn_36 : decode cX12_drawn 36 = .ok (.goto 10, 3) := by decide +kernel
theorem dX12_drawn_39 : decode cX12_drawn 39 = .ok (.aload_n 0, 1) := by decide +kernel
theorem dX12_drawn_40 : decode cX12_drawn 40 = .ok (.getfield 139, 3) := by decide +kernel
theorem dX12_drawn_43 : decode cX12_drawn 43 = .ok (.i2l, 1) := by decide +kernel
theorem dX12_drawn_44 : decode cX12_drawn 44 = .ok (.lconst 1, 1) := by decide +kernel
theorem dX12_drawn_45 : decode cX12_drawn 45 = .ok (.lsub, 1) := by decide +kernel
theorem dX12_drawn_46 : decode cX12_drawn 46 = .ok (.invokestatic 162, 3) := by decide +kernel
theorem dX12_drawn_49 : decode cX12_drawn 49 = .ok (.ifCond .ne 5, 3) := by decide +kernel
theorem dX12_drawn_52 : decode cX12_drawn 52 = .ok (.iconst (-1), 1) := by decide +kernel
theorem dX12_drawn_53 : decode cX12_drawn 53 = .ok (.ireturn, 1) := by decide +kernel
theorem dX12_drawn_54 : decode cX12_drawn 54 = .ok (.iload_n 2, 1) := by decide +kernel
theorem dX12_drawn_55 : decode cX12_drawn 55 = .ok (.iconst 3, 1) := by decide +kernel
theorem dX12_drawn_56 : decode cX12_drawn 56 = .ok (.if_icmp .ne 15, 3) := by decide +kernel
theorem dX12_drawn_59 : decode cX12_drawn 59 = .ok (.aload_n 0, 1) := by decide +kernel
theorem dX12_drawn_60 : decode cX12_drawn 60 = .ok (.getfield 136, 3) := by decide +kernel
theorem dX12_drawn_63 : decode cX12_drawn 63 = .ok (.bipush 18, 2) := by decide +kernel
theorem dX12_drawn_65 : decode cX12_drawn 65 = .ok (.iload_n 1, 1) := by decide +kernel
theorem dX12_drawn_66 : decode cX12_drawn 66 = .ok (.iadd, 1) := by decide +kernel
theorem dX12_drawn_67 : decode cX12_drawn 67 = .ok (.iaload, 1) := by decide +kernel
theorem dX12_drawn_68 : decode cX12_drawn 68 = .ok (.goto 13, 3) := by decide +kernel
theorem dX12_drawn_71 : decode cX12_drawn 71 = .ok (.aload_n 0, 1) := by decide +kernel
theorem dX12_drawn_72 : decode cX12_drawn 72 = .ok (.getfield 136, 3) := by decide +kernel
theorem dX12_drawn_75 : decode cX12_drawn 75 = .ok (.iconst 3, 1) := by decide +kernel
theorem dX12_drawn_76 : decode cX12_drawn 76 = .ok (.iload_n 1, 1) := by decide +kernel
theorem dX12_drawn_77 : decode cX12_drawn 77 = .ok (.imul, 1) := by decide +kernel
theorem dX12_drawn_78 : decode cX12_drawn 78 = .ok (.iload_n 2, 1) := by decide +kernel
theorem dX12_drawn_79 : decode cX12_drawn 79 = .ok (.iadd, 1) := by decide +kernel
theorem dX12_drawn_80 : decode cX12_drawn 80 = .ok (.iaload, 1) := by decide +kernel
theorem dX12_drawn_81 : decode cX12_drawn 81 = .ok (.ireturn, 1) := by decide +kernel
theorem dX12_takenForts_0 : decode cX12_takenForts 0 = .ok (.iconst 0, 1) := by decide +kernel
theorem dX12_takenForts_1 : decode cX12_takenForts 1 = .ok (.istore_n 1, 1) := by decide +kernel
theorem dX12_takenForts_2 : decode cX12_takenForts 2 = .ok (.iconst 0, 1) := by decide +kernel
theorem dX12_takenForts_3 : decode cX12_takenForts 3 = .ok (.istore_n 2, 1) := by decide +kernel
theorem dX12_takenForts_4 : decode cX12_takenForts 4 = .ok (.iload_n 2, 1) := by decide +kernel
theorem dX12_takenForts_5 : decode cX12_takenForts 5 = .ok (.aload_n 0, 1) := by decide +kernel
theorem dX12_takenForts_6 : decode cX12_takenForts 6 = .ok (.getfield 13, 3) := by decide +kernel
theorem dX12_takenForts_9 : decode cX12_takenForts 9 = .ok (.iconst 0, 1) := by decide +kernel
theorem dX12_takenForts_10 : decode cX12_takenForts 10 = .ok (.iaload, 1) := by decide +kernel
theorem dX12_takenForts_11 : decode cX12_takenForts 11 = .ok (.if_icmp .ge 21, 3) := by decide +kernel
theorem dX12_takenForts_14 : decode cX12_takenForts 14 = .ok (.iload_n 1, 1) := by decide +kernel
theorem dX12_takenForts_15 : decode cX12_takenForts 15 = .ok (.aload_n 0, 1) := by decide +kernel
theorem dX12_takenForts_16 : decode cX12_takenForts 16 = .ok (.getfield 13, 3) := by decide +kernel
theorem dX12_takenForts_19 : decode cX12_takenForts 19 = .ok (.bipush 25, 2) := by decide +kernel
theorem dX12_takenForts_21 : decode cX12_takenForts 21 = .ok (.iload_n 2, 1) := by decide +kernel
theorem dX12_takenForts_22 : decode cX12_takenForts 22 = .ok (.iadd, 1) := by decide +kernel
theorem dX12_takenForts_23 : decode cX12_takenForts 23 = .ok (.iaload, 1) := by decide +kernel
theorem dX12_takenForts_24 : decode cX12_takenForts 24 = .ok (.iadd, 1) := by decide +kernel
theorem dX12_takenForts_25 : decode cX12_takenForts 25 = .ok (.istore_n 1, 1) := by decide +kernel
theorem dX12_takenForts_26 : decode cX12_takenForts 26 = .ok (.iinc 2 1, 3) := by decide +kernel
theorem dX12_takenForts_29 : decode cX12_takenForts 29 = .ok (.goto (-25), 3) := by decide +kernel
theorem dX12_takenForts_32 : decode cX12_takenForts 32 = .ok (.iload_n 1, 1) := by decide +kernel
theorem dX12_takenForts_33 : decode cX12_takenForts 33 = .ok (.ireturn, 1) := by decide +kernel
theorem dX12_count_0 : decode cX12_count 0 = .ok (.aload_n 0, 1) := by decide +kernel
theorem dX12_count_1 : decode cX12_count 1 = .ok (.iconst 0, 1) := by decide +kernel
theorem dX12_count_2 : decode cX12_count 2 = .ok (.putfield 142, 3) := by decide +kernel
theorem dX12_count_5 : decode cX12_count 5 = .ok (.iload_n 1, 1) := by decide +kernel
theorem dX12_count_6 : decode cX12_count 6 = .ok (.tableswitch 163 0 13 #[70, 77, 82, 89, 96, 103, 110, 115, 120, 127, 134, 141, 148, 156], 70) := by decide +kernel
theorem dX12_count_76 : decode cX12_count 76 = .ok (.aload_n 0, 1) := by decide +kernel
theorem dX12_count_77 : decode cX12_count 77 = .ok (.getfield 13, 3) := by decide +kernel
theorem dX12_count_80 : decode cX12_count 80 = .ok (.iconst 0, 1) := by decide +kernel
theorem dX12_count_81 : decode cX12_count 81 = .ok (.iaload, 1) := by decide +kernel
theorem dX12_count_82 : decode cX12_count 82 = .ok (.ireturn, 1) := by decide +kernel
theorem dX12_count_83 : decode cX12_count 83 = .ok (.aload_n 0, 1) := by decide +kernel
theorem dX12_count_84 : decode cX12_count 84 = .ok (.invokevirtual 531, 3) := by decide +kernel
theorem dX12_count_87 : decode cX12_count 87 = .ok (.ireturn, 1) := by decide +kernel
theorem dX12_count_88 : decode cX12_count 88 = .ok (.aload_n 0, 1) := by decide +kernel
theorem dX12_count_89 : decode cX12_count 89 = .ok (.getfield 13, 3) := by decide +kernel
theorem dX12_count_92 : decode cX12_count 92 = .ok (.iconst 1, 1) := by decide +kernel
theorem dX12_count_93 : decode cX12_count 93 = .ok (.iaload, 1) := by decide +kernel
theorem dX12_count_94 : decode cX12_count 94 = .ok (.ireturn, 1) := by decide +kernel
theorem dX12_count_95 : decode cX12_count 95 = .ok (.aload_n 0, 1) := by decide +kernel
theorem dX12_count_96 : decode cX12_count 96 = .ok (.getfield 13, 3) := by decide +kernel
theorem dX12_count_99 : decode cX12_count 99 = .ok (.iconst 2, 1) := by decide +kernel
theorem dX12_count_100 : decode cX12_count 100 = .ok (.iaload, 1) := by decide +kernel
theorem dX12_count_101 : decode cX12_count 101 = .ok (.ireturn, 1) := by decide +kernel
theorem dX12_count_102 : decode cX12_count 102 = .ok (.aload_n 0, 1) := by decide +kernel
theorem dX12_count_103 : decode cX12_count 103 = .ok (.getfield 13, 3) := by decide +kernel
theorem dX12_count_106 : decode cX12_count 106 = .ok (.iconst 3, 1) := by decide +kernel
theorem dX12_count_107 : decode cX12_count 107 = .ok (.iaload, 1) := by decide +kernel
theorem dX12_count_108 : decode cX12_count 108 = .ok (.ireturn, 1) := by decide +kernel
theorem dX12_count_109 : decode cX12_count 109 = .ok (.aload_n 0, 1) := by decide +kernel
theorem dX12_count_110 : decode cX12_count 110 = .ok (.getfield 13, 3) := by decide +kernel
theorem dX12_count_113 : decode cX12_count 113 = .ok (.iconst 4, 1) := by decide +kernel
theorem dX12_count_114 : decode cX12_count 114 = .ok (.iaload, 1) := by decide +kernel
theorem dX12_count_115 : decode cX12_count 115 = .ok (.ireturn, 1) := by decide +kernel
theorem dX12_count_116 : decode cX12_count 116 = .ok (.aload_n 0, 1) := by decide +kernel
theorem dX12_count_117 : decode cX12_count 117 = .ok (.getfield 148, 3) := by decide +kernel
theorem dX12_count_120 : decode cX12_count 120 = .ok (.ireturn, 1) := by decide +kernel
theorem dX12_count_121 : decode cX12_count 121 = .ok (.aload_n 0, 1) := by decide +kernel
theorem dX12_count_122 : decode cX12_count 122 = .ok (.getfield 213, 3) := by decide +kernel
theorem dX12_count_125 : decode cX12_count 125 = .ok (.ireturn, 1) := by decide +kernel
theorem dX12_count_126 : decode cX12_count 126 = .ok (.aload_n 0, 1) := by decide +kernel
theorem dX12_count_127 : decode cX12_count 127 = .ok (.getfield 7, 3) := by decide +kernel
theorem dX12_count_130 : decode cX12_count 130 = .ok (.iconst 1, 1) := by decide +kernel
theorem dX12_count_131 : decode cX12_count 131 = .ok (.iaload, 1) := by decide +kernel
theorem dX12_count_132 : decode cX12_count 132 = .ok (.ireturn, 1) := by decide +kernel
theorem dX12_count_133 : decode cX12_count 133 = .ok (.aload_n 0, 1) := by decide +kernel
theorem dX12_count_134 : decode cX12_count 134 = .ok (.getfield 7, 3) := by decide +kernel
theorem dX12_count_137 : decode cX12_count 137 = .ok (.iconst 2, 1) := by decide +kernel
theorem dX12_count_138 : decode cX12_count 138 = .ok (.iaload, 1) := by decide +kernel
theorem dX12_count_139 : decode cX12_count 139 = .ok (.ireturn, 1) := by decide +kernel
theorem dX12_count_140 : decode cX12_count 140 = .ok (.aload_n 0, 1) := by decide +kernel
theorem dX12_count_141 : decode cX12_count 141 = .ok (.getfield 7, 3) := by decide +kernel
theorem dX12_count_144 : decode cX12_count 144 = .ok (.iconst 3, 1) := by decide +kernel
theorem dX12_count_145 : decode cX12_count 145 = .ok (.iaload, 1) := by decide +kernel
theorem dX12_count_146 : decode cX12_count 146 = .ok (.ireturn, 1) := by decide +kernel
theorem dX12_count_147 : decode cX12_count 147 = .ok (.aload_n 0, 1) := by decide +kernel
theorem dX12_count_148 : decode cX12_count 148 = .ok (.getfield 7, 3) := by decide +kernel
theorem dX12_count_151 : decode cX12_count 151 = .ok (.iconst 5, 1) := by decide +kernel
theorem dX12_count_152 : decode cX12_count 152 = .ok (.iaload, 1) := by decide +kernel
theorem dX12_count_153 : decode cX12_count 153 = .ok (.ireturn, 1) := by decide +kernel
theorem dX12_count_154 : decode cX12_count 154 = .ok (.aload_n 0, 1) := by decide +kernel
theorem dX12_count_155 : decode cX12_count 155 = .ok (.getfield 7, 3) := by decide +kernel
theorem dX12_count_158 : decode cX12_count 158 = .ok (.bipush 6, 2) := by decide +kernel
theorem dX12_count_160 : decode cX12_count 160 = .ok (.iaload, 1) := by decide +kernel
theorem dX12_count_161 : decode cX12_count 161 = .ok (.ireturn, 1) := by decide +kernel
theorem dX12_count_162 : decode cX12_count 162 = .ok (.aload_n 0, 1) := by decide +kernel
theorem dX12_count_163 : decode cX12_count 163 = .ok (.getfield 13, 3) := by decide +kernel
theorem dX12_count_166 : decode cX12_count 166 = .ok (.iconst 5, 1) := by decide +kernel
theorem dX12_count_167 : decode cX12_count 167 = .ok (.iaload, 1) := by decide +kernel
theorem dX12_count_168 : decode cX12_count 168 = .ok (.ireturn, 1) := by decide +kernel
theorem dX12_count_169 : decode cX12_count 169 = .ok (.iload_n 1, 1) := by decide +kernel
theorem dX12_count_170 : decode cX12_count 170 = .ok (.i2l, 1) := by decide +kernel
theorem dX12_count_171 : decode cX12_count 171 = .ok (.ldc2_w 534, 3) := by decide +kernel
theorem dX12_count_174 : decode cX12_count 174 = .ok (.ldc2_w 536, 3) := by decide +kernel
theorem dX12_count_177 : decode cX12_count 177 = .ok (.invokestatic 162, 3) := by decide +kernel
theorem dX12_count_180 : decode cX12_count 180 = .ok (.ifCond .eq 18, 3) := by decide +kernel
theorem dX12_count_183 : decode cX12_count 183 = .ok (.aload_n 0, 1) := by decide +kernel
theorem dX12_count_184 : decode cX12_count 184 = .ok (.getfield 13, 3) := by decide +kernel
theorem dX12_count_187 : decode cX12_count 187 = .ok (.bipush 6, 2) := by decide +kernel
theorem dX12_count_189 : decode cX12_count 189 = .ok (.iload_n 1, 1) := by decide +kernel
theorem dX12_count_190 : decode cX12_count 190 = .ok (.iadd, 1) := by decide +kernel
theorem dX12_count_191 : decode cX12_count 191 = .ok (.bipush 14, 2) := by decide +kernel
theorem dX12_count_193 : decode cX12_count 193 = .ok (.isub, 1) := by decide +kernel
theorem dX12_count_194 : decode cX12_count 194 = .ok (.iaload, 1) := by decide +kernel
theorem dX12_count_195 : decode cX12_count 195 = .ok (.goto 33, 3) := by decide +kernel
theorem dX12_count_198 : decode cX12_count 198 = .ok (.iload_n 1, 1) := by decide +kernel
theorem dX12_count_199 : decode cX12_count 199 = .ok (.i2l, 1) := by decide +kernel
theorem dX12_count_200 : decode cX12_count 200 = .ok (.ldc2_w 538, 3) := by decide +kernel
theorem dX12_count_203 : decode cX12_count 203 = .ok (.ldc2_w 273, 3) := by decide +kernel
theorem dX12_count_206 : decode cX12_count 206 = .ok (.invokestatic 162, 3) := by decide +kernel
theorem dX12_count_209 : decode cX12_count 209 = .ok (.ifCond .eq 18, 3) := by decide +kernel
theorem dX12_count_212 : decode cX12_count 212 = .ok (.aload_n 0, 1) := by decide +kernel
theorem dX12_count_213 : decode cX12_count 213 = .ok (.getfield 13, 3) := by decide +kernel
theorem dX12_count_216 : decode cX12_count 216 = .ok (.bipush 9, 2) := by decide +kernel
theorem dX12_count_218 : decode cX12_count 218 = .ok (.iload_n 1, 1) := by decide +kernel
theorem dX12_count_219 : decode cX12_count 219 = .ok (.iadd, 1) := by decide +kernel
theorem dX12_count_220 : decode cX12_count 220 = .ok (.bipush 17, 2) := by decide +kernel
theorem dX12_count_222 : decode cX12_count 222 = .ok (.isub, 1) := by decide +kernel
theorem dX12_count_223 : decode cX12_count 223 = .ok (.iaload, 1) := by decide +kernel
theorem dX12_count_224 : decode cX12_count 224 = .ok (.goto 4, 3) := by decide +kernel
theorem dX12_count_227 : decode cX12_count 227 = .ok (.iconst (-1), 1) := by decide +kernel
theorem dX12_count_228 : decode cX12_count 228 = .ok (.ireturn, 1) := by decide +kernel
theorem dX12_status_0 : decode cX12_status 0 = .ok (.aload_n 0, 1) := by decide +kernel
theorem dX12_status_1 : decode cX12_status 1 = .ok (.iconst 0, 1) := by decide +kernel
theorem dX12_status_2 : decode cX12_status 2 = .ok (.putfield 142, 3) := by decide +kernel
theorem dX12_status_5 : decode cX12_status 5 = .ok (.aload_n 0, 1) := by decide +kernel
theorem dX12_status_6 : decode cX12_status 6 = .ok (.getfield 145, 3) := by decide +kernel
theorem dX12_status_9 : decode cX12_status 9 = .ok (.ireturn, 1) := by decide +kernel
