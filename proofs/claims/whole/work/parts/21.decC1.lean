theorem dX11_orders_40 : decode cX11_orders 40 = .ok (.aload_n 0, 1) := by decide +kernel
theorem dX11_orders_41 : decode cX11_orders 41 = .ok (.aload_n 0, 1) := by decide +kernel
theorem dX11_orders_42 : decode cX11_orders 42 = .ok (.getfield 62, 3) := by decide +kernel
theorem dX11_orders_45 : decode cX11_orders 45 = .ok (.invokevirtual 193, 3) := by decide +kernel
theorem dX11_orders_48 : decode cX11_orders 48 = .ok (.putfield 83, 3) := by decide +kernel
theorem dX11_orders_51 : decode cX11_orders 51 = .ok (.aload_n 0, 1) := by decide +kernel
theorem dX11_orders_52 : decode cX11_orders 52 = .ok (.aload_n 0, 1) := by decide +kernel
theorem dX11_orders_53 : decode cX11_orders 53 = .ok (.getfield 83, 3) := by decide +kernel
theorem dX11_orders_56 : decode cX11_orders 56 = .ok (.iconst (-1), 1) := by decide +kernel
theorem dX11_orders_57 : decode cX11_orders 57 = .ok (.if_icmp .ne 13, 3) := by decide +kernel
theorem dX11_orders_60 : decode cX11_orders 60 = .ok (.aload_n 0, 1) := by decide +kernel
theorem dX11_orders_61 : decode cX11_orders 61 = .ok (.getfield 62, 3) := by decide +kernel
theorem dX11_orders_64 : decode cX11_orders 64 = .ok (.getfield 197, 3) := by decide +kernel
theorem dX11_orders_67 : decode cX11_orders 67 = .ok (.goto 5, 3) := by decide +kernel
theorem dX11_orders_70 : decode cX11_orders 70 = .ok (.bipush (-3), 2) := by decide +kernel
theorem dX11_orders_72 : decode cX11_orders 72 = .ok (.invokevirtual 93, 3) := by decide +kernel
theorem dX11_orders_75 : decode cX11_orders 75 = .ok (.ireturn, 1) := by decide +kernel
theorem dX11_fault_0 : decode cX11_fault 0 = .ok (.aload_n 0, 1) := by decide +kernel
theorem dX11_fault_1 : decode cX11_fault 1 = .ok (.getfield 79, 3) := by decide +kernel
theorem dX11_fault_4 : decode cX11_fault 4 = .ok (.ireturn, 1) := by decide +kernel
theorem dX11_stopped_0 : decode cX11_stopped 0 = .ok (.aload_n 0, 1) := by decide +kernel
theorem dX11_stopped_1 : decode cX11_stopped 1 = .ok (.getfield 83, 3) := by decide +kernel
theorem dX11_stopped_4 : decode cX11_stopped 4 = .ok (.ireturn, 1) := by decide +kernel
theorem dX11_force_0 : decode cX11_force 0 = .ok (.iload_n 1, 1) := by decide +kernel
theorem dX11_force_1 : decode cX11_force 1 = .ok (.iconst (-1), 1) := by decide +kernel
theorem dX11_force_2 : decode cX11_force 2 = .ok (.aload_n 0, 1) := by decide +kernel
theorem dX11_force_3 : decode cX11_force 3 = .ok (.getfield 10, 3) := by decide +kernel
theorem dX11_force_6 : decode cX11_force 6 = .ok (.getfield 175, 3) := by decide +kernel
theorem dX11_force_9 : decode cX11_force 9 = .ok (.iconst 1, 1) := by decide +kernel
theorem dX11_force_10 : decode cX11_force 10 = .ok (.isub, 1) := by decide +kernel
theorem dX11_force_11 : decode cX11_force 11 = .ok (.invokestatic 122, 3) := by decide +kernel
theorem dX11_force_14 : decode cX11_force 14 = .ok (.ifCond .ne 10, 3) := by decide +kernel
theorem dX11_force_17 : decode cX11_force 17 = .ok (.aload_n 0, 1) := by decide +kernel
theorem dX11_force_18 : decode cX11_force 18 = .ok (.bipush (-2), 2) := by decide +kernel
theorem dX11_force_20 : decode cX11_force 20 = .ok (.invokevirtual 126, 3) := by decide +kernel
theorem dX11_force_23 : decode cX11_force 23 = .ok (.ireturn, 1) := by decide +kernel
theorem dX11_force_24 : decode cX11_force 24 = .ok (.aload_n 0, 1) := by decide +kernel
theorem dX11_force_25 : decode cX11_force 25 = .ok (.getfield 10, 3) := by decide +kernel
theorem dX11_force_28 : decode cX11_force 28 = .ok (.getfield 200, 3) := by decide +kernel
theorem dX11_force_31 : decode cX11_force 31 = .ok (.istore_n 2, 1) := by decide +kernel
theorem dX11_force_32 : decode cX11_force 32 = .ok (.aload_n 0, 1) := by decide +kernel
theorem dX11_force_33 : decode cX11_force 33 = .ok (.getfield 10, 3) := by decide +kernel
theorem dX11_force_36 : decode cX11_force 36 = .ok (.iload_n 1, 1) := by decide +kernel
theorem dX11_force_37 : decode cX11_force 37 = .ok (.putfield 200, 3) := by decide +kernel
theorem dX11_force_40 : decode cX11_force 40 = .ok (.aload_n 0, 1) := by decide +kernel
theorem dX11_force_41 : decode cX11_force 41 = .ok (.iconst 0, 1) := by decide +kernel
theorem dX11_force_42 : decode cX11_force 42 = .ok (.putfield 203, 3) := by decide +kernel
theorem dX11_force_45 : decode cX11_force 45 = .ok (.iload_n 2, 1) := by decide +kernel
theorem dX11_force_46 : decode cX11_force 46 = .ok (.ireturn, 1) := by decide +kernel
theorem dX11_show_0 : decode cX11_show 0 = .ok (.aload_n 0, 1) := by decide +kernel
theorem dX11_show_1 : decode cX11_show 1 = .ok (.aload_n 0, 1) := by decide +kernel
theorem dX11_show_2 : decode cX11_show 2 = .ok (.getfield 53, 3) := by decide +kernel
theorem dX11_show_5 : decode cX11_show 5 = .ok (.iconst 0, 1) := by decide +kernel
theorem dX11_show_6 : decode cX11_show 6 = .ok (.iload_n 1, 1) := by decide +kernel
theorem dX11_show_7 : decode cX11_show 7 = .ok (.iload_n 2, 1) := by decide +kernel
theorem dX11_show_8 : decode cX11_show 8 = .ok (.invokevirtual 206, 3) := by decide +kernel
theorem dX11_show_11 : decode cX11_show 11 = .ok (.invokevirtual 93, 3) := by decide +kernel
theorem dX11_show_14 : decode cX11_show 14 = .ok (.ireturn, 1) := by decide +kernel
theorem dX11_hide_0 : decode cX11_hide 0 = .ok (.aload_n 0, 1) := by decide +kernel
theorem dX11_hide_1 : decode cX11_hide 1 = .ok (.aload_n 0, 1) := by decide +kernel
theorem dX11_hide_2 : decode cX11_hide 2 = .ok (.getfield 53, 3) := by decide +kernel
theorem dX11_hide_5 : decode cX11_hide 5 = .ok (.iconst 1, 1) := by decide +kernel
theorem dX11_hide_6 : decode cX11_hide 6 = .ok (.iload_n 1, 1) := by decide +kernel
theorem dX11_hide_7 : decode cX11_hide 7 = .ok (.iload_n 2, 1) := by decide +kernel
theorem dX11_hide_8 : decode cX11_hide 8 = .ok (.invokevirtual 206, 3) := by decide +kernel
theorem dX11_hide_11 : decode cX11_hide 11 = .ok (.invokevirtual 93, 3) := by decide +kernel
theorem dX11_hide_14 : decode cX11_hide 14 = .ok (.ireturn, 1) := by decide +kernel
theorem dX11_man_0 : decode cX11_man 0 = .ok (.aload_n 0, 1) := by decide +kernel
theorem dX11_man_1 : decode cX11_man 1 = .ok (.aload_n 0, 1) := by decide +kernel
theorem dX11_man_2 : decode cX11_man 2 = .ok (.getfield 53, 3) := by decide +kernel
theorem dX11_man_5 : decode cX11_man 5 = .ok (.iconst 2, 1) := by decide +kernel
theorem dX11_man_6 : decode cX11_man 6 = .ok (.iload_n 1, 1) := by decide +kernel
theorem dX11_man_7 : decode cX11_man 7 = .ok (.iload_n 2, 1) := by decide +kernel
theorem dX11_man_8 : decode cX11_man 8 = .ok (.invokevirtual 206, 3) := by decide +kernel
theorem dX11_man_11 : decode cX11_man 11 = .ok (.invokevirtual 93, 3) := by decide +kernel
theorem dX11_man_14 : decode cX11_man 14 = .ok (.ireturn, 1) := by decide +kernel
theorem dX11_march_0 : decode cX11_march 0 = .ok (.aload_n 0, 1) := by decide +kernel
theorem dX11_march_1 : decode cX11_march 1 = .ok (.aload_n 0, 1) := by decide +kernel
theorem dX11_march_2 : decode cX11_march 2 = .ok (.getfield 53, 3) := by decide +kernel
theorem dX11_march_5 : decode cX11_march 5 = .ok (.iconst 3, 1) := by decide +kernel
theorem dX11_march_6 : decode cX11_march 6 = .ok (.iload_n 2, 1) := by decide +kernel
theorem dX11_march_7 : decode cX11_march 7 = .ok (.iload_n 1, 1) := by decide +kernel
theorem dX11_march_8 : decode cX11_march 8 = .ok (.invokevirtual 206, 3) := by decide +kernel
theorem dX11_march_11 : decode cX11_march 11 = .ok (.invokevirtual 93, 3) := by decide +kernel
theorem dX11_march_14 : decode cX11_march 14 = .ok (.ireturn, 1) := by decide +kernel
theorem dX2_takeBack_0 : decode cX2_takeBack 0 = .ok (.aload_n 0, 1) := by decide +kernel
theorem dX2_takeBack_1 : decode cX2_takeBack 1 = .ok (.getfield 105, 3) := by decide +kernel
theorem dX2_takeBack_4 : decode cX2_takeBack 4 = .ok (.ifCond .gt 6, 3) := by decide +kernel
theorem dX2_takeBack_7 : decode cX2_takeBack 7 = .ok (.bipush (-3), 2) := by decide +kernel
theorem dX2_takeBack_9 : decode cX2_takeBack 9 = .ok (.ireturn, 1) := by decide +kernel
theorem dX2_takeBack_10 : decode cX2_takeBack 10 = .ok (.aload_n 0, 1) := by decide +kernel
theorem dX2_takeBack_11 : decode cX2_takeBack 11 = .ok (.dup, 1) := by decide +kernel
theorem dX2_takeBack_12 : decode cX2_takeBack 12 = .ok (.getfield 105, 3) := by decide +kernel
theorem dX2_takeBack_15 : decode cX2_takeBack 15 = .ok (.iconst 1, 1) := by decide +kernel
theorem dX2_takeBack_16 : decode cX2_takeBack 16 = .ok (.isub, 1) := by decide +kernel
theorem dX2_takeBack_17 : decode cX2_takeBack 17 = .ok (.putfield 105, 3) := by decide +kernel
theorem dX2_takeBack_20 : decode cX2_takeBack 20 = .ok (.aload_n 0, 1) := by decide +kernel
theorem dX2_takeBack_21 : decode cX2_takeBack 21 = .ok (.getfield 105, 3) := by decide +kernel
theorem dX2_takeBack_24 : decode cX2_takeBack 24 = .ok (.bipush 7, 2) := by decide +kernel
theorem dX2_takeBack_26 : decode cX2_takeBack 26 = .ok (.imul, 1) := by decide +kernel
theorem dX2_takeBack_27 : decode cX2_takeBack 27 = .ok (.istore_n 1, 1) := by decide +kernel
theorem dX2_takeBack_28 : decode cX2_takeBack 28 = .ok (.aload_n 0, 1) := by decide +kernel
theorem dX2_takeBack_29 : decode cX2_takeBack 29 = .ok (.getfield 11, 3) := by decide +kernel
theorem dX2_takeBack_32 : decode cX2_takeBack 32 = .ok (.iload_n 1, 1) := by decide +kernel
theorem dX2_takeBack_33 : decode cX2_takeBack 33 = .ok (.iconst 1, 1) := by decide +kernel
theorem dX2_takeBack_34 : decode cX2_takeBack 34 = .ok (.iadd, 1) := by decide +kernel
theorem dX2_takeBack_35 : decode cX2_takeBack 35 = .ok (.iaload, 1) := by decide +kernel
theorem dX2_takeBack_36 : decode cX2_takeBack 36 = .ok (.istore_n 2, 1) := by decide +kernel
theorem dX2_takeBack_37 : decode cX2_takeBack 37 = .ok (.aload_n 0, 1) := by decide +kernel
theorem dX2_takeBack_38 : decode cX2_takeBack 38 = .ok (.getfield 18, 3) := by decide +kernel
theorem dX2_takeBack_41 : decode cX2_takeBack 41 = .ok (.iload_n 2, 1) := by decide +kernel
theorem dX2_takeBack_42 : decode cX2_takeBack 42 = .ok (.invokevirtual 51, 3) := by decide +kernel
theorem dX2_takeBack_45 : decode cX2_takeBack 45 = .ok (.ifCond .eq 110, 3) := by decide +kernel
theorem dX2_takeBack_48 : decode cX2_takeBack 48 = .ok (.aload_n 0, 1) := by decide +kernel
theorem dX2_takeBack_49 : decode cX2_takeBack 49 = .ok (.getfield 18, 3) := by decide +kernel
theorem dX2_takeBack_52 : decode cX2_takeBack 52 = .ok (.getfield 57, 3) := by decide +kernel
theorem dX2_takeBack_55 : decode cX2_takeBack 55 = .ok (.getfield 70, 3) := by decide +kernel
theorem dX2_takeBack_58 : decode cX2_takeBack 58 = .ok (.iload_n 2, 1) := by decide +kernel
theorem dX2_takeBack_59 : decode cX2_takeBack 59 = .ok (.aload_n 0, 1) := by decide +kernel
theorem dX2_takeBack_60 : decode cX2_takeBack 60 = .ok (.getfield 11, 3) := by decide +kernel
theorem dX2_takeBack_63 : decode cX2_takeBack 63 = .ok (.iload_n 1, 1) := by decide +kernel
theorem dX2_takeBack_64 : decode cX2_takeBack 64 = .ok (.iconst 2, 1) := by decide +kernel
theorem dX2_takeBack_65 : decode cX2_takeBack 65 = .ok (.iadd, 1) := by decide +kernel
theorem dX2_takeBack_66 : decode cX2_takeBack 66 = .ok (.iaload, 1) := by decide +kernel
theorem dX2_takeBack_67 : decode cX2_takeBack 67 = .ok (.iastore, 1) := by decide +kernel
theorem dX2_takeBack_68 : decode cX2_takeBack 68 = .ok (.aload_n 0, 1) := by decide +kernel
theorem dX2_takeBack_69 : decode cX2_takeBack 69 = .ok (.getfield 18, 3) := by decide +kernel
theorem dX2_takeBack_72 : decode cX2_takeBack 72 = .ok (.getfield 57, 3) := by decide +kernel
theorem dX2_takeBack_75 : decode cX2_takeBack 75 = .ok (.getfield 73, 3) := by decide +kernel
theorem dX2_takeBack_78 : decode cX2_takeBack 78 = .ok (.iload_n 2, 1) := by decide +kernel
theorem dX2_takeBack_79 : decode cX2_takeBack 79 = .ok (.aload_n 0, 1) := by decide +kernel
theorem dX2_takeBack_80 : decode cX2_takeBack 80 = .ok (.getfield 11, 3) := by decide +kernel
theorem dX2_takeBack_83 : decode cX2_takeBack 83 = .ok (.iload_n 1, 1) := by decide +kernel
theorem dX2_takeBack_84 : decode cX2_takeBack 84 = .ok (.iconst 3, 1) := by decide +kernel
theorem dX2_takeBack_85 : decode cX2_takeBack 85 = .ok (.iadd, 1) := by decide +kernel
theorem dX2_takeBack_86 : decode cX2_takeBack 86 = .ok (.iaload, 1) := by decide +kernel
theorem dX2_takeBack_87 : decode cX2_takeBack 87 = .ok (.iastore, 1) := by decide +kernel
theorem dX2_takeBack_88 : decode cX2_takeBack 88 = .ok (.aload_n 0, 1) := by decide +kernel
theorem dX2_takeBack_89 : decode cX2_takeBack 89 = .ok (.getfield 18, 3) := by decide +kernel
theorem dX2_takeBack_92 : decode cX2_takeBack 92 = .ok (.getfield 57, 3) := by decide +kernel
theorem dX2_takeBack_95 : decode cX2_takeBack 95 = .ok (.getfield 61, 3) := by decide +kernel
theorem dX2_takeBack_98 : decode cX2_takeBack 98 = .ok (.iload_n 2, 1) := by decide +kernel
theorem dX2_takeBack_99 : decode cX2_takeBack 99 = .ok (.aload_n 0, 1) := by decide +kernel
theorem dX2_takeBack_100 : decode cX2_takeBack 100 = .ok (.getfield 11, 3) := by decide +kernel
theorem dX2_takeBack_103 : decode cX2_takeBack 103 = .ok (.iload_n 1, 1) := by decide +kernel
theorem dX2_takeBack_104 : decode cX2_takeBack 104 = .ok (.iconst 4, 1) := by decide +kernel
theorem dX2_takeBack_105 : decode cX2_takeBack 105 = .ok (.iadd, 1) := by decide +kernel
theorem dX2_takeBack_106 : decode cX2_takeBack 106 = .ok (.iaload, 1) := by decide +kernel
theorem dX2_takeBack_107 : decode cX2_takeBack 107 = .ok (.iastore, 1) := by decide +kernel
theorem dX2_takeBack_108 : decode cX2_takeBack 108 = .ok (.aload_n 0, 1) := by decide +kernel
theorem dX2_takeBack_109 : decode cX2_takeBack 109 = .ok (.getfield 18, 3) := by decide +kernel
theorem dX2_takeBack_112 : decode cX2_takeBack 112 = .ok (.getfield 57, 3) := by decide +kernel
theorem dX2_takeBack_115 : decode cX2_takeBack 115 = .ok (.getfield 91, 3) := by decide +kernel
theorem dX2_takeBack_118 : decode cX2_takeBack 118 = .ok (.aload_n 0, 1) := by decide +kernel
theorem dX2_takeBack_119 : decode cX2_takeBack 119 = .ok (.getfield 18, 3) := by decide +kernel
theorem dX2_takeBack_122 : decode cX2_takeBack 122 = .ok (.getfield 88, 3) := by decide +kernel
theorem dX2_takeBack_125 : decode cX2_takeBack 125 = .ok (.iload_n 2, 1) := by decide +kernel
theorem dX2_takeBack_126 : decode cX2_takeBack 126 = .ok (.iaload, 1) := by decide +kernel
theorem dX2_takeBack_127 : decode cX2_takeBack 127 = .ok (.aload_n 0, 1) := by decide +kernel
theorem dX2_takeBack_128 : decode cX2_takeBack 128 = .ok (.getfield 11, 3) := by decide +kernel
theorem dX2_takeBack_131 : decode cX2_takeBack 131 = .ok (.iload_n 1, 1) := by decide +kernel
theorem dX2_takeBack_132 : decode cX2_takeBack 132 = .ok (.iconst 5, 1) := by decide +kernel
theorem dX2_takeBack_133 : decode cX2_takeBack 133 = .ok (.iadd, 1) := by decide +kernel
theorem dX2_takeBack_134 : decode cX2_takeBack 134 = .ok (.iaload, 1) := by decide +kernel
theorem dX2_takeBack_135 : decode cX2_takeBack 135 = .ok (.iastore, 1) := by decide +kernel
theorem dX2_takeBack_136 : decode cX2_takeBack 136 = .ok (.aload_n 0, 1) := by decide +kernel
theorem dX2_takeBack_137 : decode cX2_takeBack 137 = .ok (.getfield 18, 3) := by decide +kernel
theorem dX2_takeBack_140 : decode cX2_takeBack 140 = .ok (.getfield 57, 3) := by decide +kernel
theorem dX2_takeBack_143 : decode cX2_takeBack 143 = .ok (.aload_n 0, 1) := by decide +kernel
theorem dX2_takeBack_144 : decode cX2_takeBack 144 = .ok (.getfield 11, 3) := by decide +kernel
theorem dX2_takeBack_147 : decode cX2_takeBack 147 = .ok (.iload_n 1, 1) := by decide +kernel
theorem dX2_takeBack_148 : decode cX2_takeBack 148 = .ok (.bipush 6, 2) := by decide +kernel
theorem dX2_takeBack_150 : decode cX2_takeBack 150 = .ok (.iadd, 1) := by decide +kernel
theorem dX2_takeBack_151 : decode cX2_takeBack 151 = .ok (.iaload, 1) := by decide +kernel
theorem dX2_takeBack_152 : decode cX2_takeBack 152 = .ok (.putfield 66, 3) := by decide +kernel
theorem dX2_takeBack_155 : decode cX2_takeBack 155 = .ok (.aload_n 0, 1) := by decide +kernel
theorem dX2_takeBack_156 : decode cX2_takeBack 156 = .ok (.getfield 11, 3) := by decide +kernel
theorem dX2_takeBack_159 : decode cX2_takeBack 159 = .ok (.iload_n 1, 1) := by decide +kernel
theorem dX2_takeBack_160 : decode cX2_takeBack 160 = .ok (.iaload, 1) := by decide +kernel
theorem dX2_takeBack_161 : decode cX2_takeBack 161 = .ok (.ireturn, 1) := by decide +kernel
theorem dX11_undo_0 : decode cX11_undo 0 = .ok (.aload_n 0, 1) := by decide +kernel
theorem dX11_undo_1 : decode cX11_undo 1 = .ok (.aload_n 0, 1) := by decide +kernel
theorem dX11_undo_2 : decode cX11_undo 2 = .ok (.getfield 53, 3) := by decide +kernel
theorem dX11_undo_5 : decode cX11_undo 5 = .ok (.invokevirtual 210, 3) := by decide +kernel
theorem dX11_undo_8 : decode cX11_undo 8 = .ok (.invokevirtual 93, 3) := by decide +kernel
theorem dX11_undo_11 : decode cX11_undo 11 = .ok (.ireturn, 1) := by decide +kernel
theorem dX5_together_0 : decode cX5_together 0 = .ok (.iconst 0, 1) := by decide +kernel
theorem dX5_together_1 : decode cX5_together 1 = .ok (.istore_n 2, 1) := by decide +kernel
theorem dX5_together_2 : decode cX5_together 2 = .ok (.iconst 0, 1) := by decide +kernel
theorem dX5_together_3 : decode cX5_together 3 = .ok (.istore_n 3, 1) := by decide +kernel
theorem dX5_together_4 : decode cX5_together 4 = .ok (.iload_n 3, 1) := by decide +kernel
theorem dX5_together_5 : decode cX5_together 5 = .ok (.bipush 6, 2) := by decide +kernel
theorem dX5_together_7 : decode cX5_together 7 = .ok (.if_icmp .ge 24, 3) := by decide +kernel
theorem dX5_together_10 : decode cX5_together 10 = .ok (.iload_n 2, 1) := by decide +kernel
theorem dX5_together_11 : decode cX5_together 11 = .ok (.iload_n 1, 1) := by decide +kernel
theorem dX5_together_12 : decode cX5_together 12 = .ok (.iload_n 3, 1) := by decide +kernel
theorem dX5_together_13 : decode cX5_together 13 = .ok (.ishr, 1) := by decide +kernel
theorem dX5_together_14 : decode cX5_together 14 = .ok (.iconst 1, 1) := by decide +kernel
theorem dX5_together_15 : decode cX5_together 15 = .ok (.iand, 1) := by decide +kernel
theorem dX5_together_16 : decode cX5_together 16 = .ok (.aload_n 0, 1) := by decide +kernel
theorem dX5_together_17 : decode cX5_together 17 = .ok (.getfield 15, 3) := by decide +kernel
theorem dX5_together_20 : decode cX5_together 20 = .ok (.iload_n 3, 1) := by decide +kernel
theorem dX5_together_21 : decode cX5_together 21 = .ok (.iaload, 1) := by decide +kernel
theorem dX5_together_22 : decode cX5_together 22 = .ok (.imul, 1) := by decide +kernel
theorem dX5_together_23 : decode cX5_together 23 = .ok (.iadd, 1) := by decide +kernel
theorem dX5_together_24 : decode cX5_together 24 = .ok (.istore_n 2, 1) := by decide +kernel
theorem dX5_together_25 : decode cX5_together 25 = .ok (.iinc 3 1, 3) := by decide +kernel
theorem dX5_together_28 : decode cX5_together 28 = .ok (.goto (-24), 3) := by decide +kernel
theorem dX5_together_31 : decode cX5_together 31 = .ok (.iload_n 2, 1) := by decide +kernel
theorem dX5_together_32 : decode cX5_together 32 = .ok (.ireturn, 1) := by decide +kernel
theorem dX5_cheapestSet_0 : decode cX5_cheapestSet 0 = .ok (.iconst 0, 1) := by decide +kernel
theorem dX5_cheapestSet_1 : decode cX5_cheapestSet 1 = .ok (.istore_n 3, 1) := by decide +kernel
theorem dX5_cheapestSet_2 : decode cX5_cheapestSet 2 = .ok (.iconst 0, 1) := by decide +kernel
theorem dX5_cheapestSet_3 : decode cX5_cheapestSet 3 = .ok (.istore 4, 2) := by decide +kernel
theorem dX5_cheapestSet_5 : decode cX5_cheapestSet 5 = .ok (.iload 4, 2) := by decide +kernel
theorem dX5_cheapestSet_7 : decode cX5_cheapestSet 7 = .ok (.bipush 6, 2) := by decide +kernel
theorem dX5_cheapestSet_9 : decode cX5_cheapestSet 9 = .ok (.if_icmp .ge 73, 3) := by decide +kernel
theorem dX5_cheapestSet_12 : decode cX5_cheapestSet 12 = .ok (.aload_n 0, 1) := by decide +kernel
theorem dX5_cheapestSet_13 : decode cX5_cheapestSet 13 = .ok (.getfield 24, 3) := by decide +kernel
theorem dX5_cheapestSet_16 : decode cX5_cheapestSet 16 = .ok (.getfield 41, 3) := by decide +kernel
theorem dX5_cheapestSet_19 : decode cX5_cheapestSet 19 = .ok (.getfield 65, 3) := by decide +kernel
theorem dX5_cheapestSet_22 : decode cX5_cheapestSet 22 = .ok (.iload_n 1, 1) := by decide +kernel
theorem dX5_cheapestSet_23 : decode cX5_cheapestSet 23 = .ok (.iaload, 1) := by decide +kernel
theorem dX5_cheapestSet_24 : decode cX5_cheapestSet 24 = .ok (.iload 4, 2) := by decide +kernel
theorem dX5_cheapestSet_26 : decode cX5_cheapestSet 26 = .ok (.ishr, 1) := by decide +kernel
theorem dX5_cheapestSet_27 : decode cX5_cheapestSet 27 = .ok (.iconst 1, 1) := by decide +kernel
theorem dX5_cheapestSet_28 : decode cX5_cheapestSet 28 = .ok (.iand, 1) := by decide +kernel
theorem dX5_cheapestSet_29 : decode cX5_cheapestSet 29 = .ok (.iconst 1, 1) := by decide +kernel
theorem dX5_cheapestSet_30 : decode cX5_cheapestSet 30 = .ok (.if_icmp .ne 7, 3) := by decide +kernel
theorem dX5_cheapestSet_33 : decode cX5_cheapestSet 33 = .ok (.iconst 1, 1) := by decide +kernel
theorem dX5_cheapestSet_34 : decode cX5_cheapestSet 34 = .ok (.goto 4, 3) := by decide +kernel
theorem dX5_cheapestSet_37 : decode cX5_cheapestSet 37 = .ok (.iconst 0, 1) := by decide +kernel
theorem dX5_cheapestSet_38 : decode cX5_cheapestSet 38 = .ok (.istore 5, 2) := by decide +kernel
theorem dX5_cheapestSet_40 : decode cX5_cheapestSet 40 = .ok (.iload 5, 2) := by decide +kernel
theorem dX5_cheapestSet_42 : decode cX5_cheapestSet 42 = .ok (.ifCond .ne 13, 3) := by decide +kernel
theorem dX5_cheapestSet_45 : decode cX5_cheapestSet 45 = .ok (.aload_n 0, 1) := by decide +kernel
theorem dX5_cheapestSet_46 : decode cX5_cheapestSet 46 = .ok (.iload_n 1, 1) := by decide +kernel
theorem dX5_cheapestSet_47 : decode cX5_cheapestSet 47 = .ok (.iload 4, 2) := by decide +kernel
theorem dX5_cheapestSet_49 : decode cX5_cheapestSet 49 = .ok (.invokevirtual 108, 3) := by decide +kernel
theorem dX5_cheapestSet_52 : decode cX5_cheapestSet 52 = .ok (.ifCond .ne 10, 3) := by decide +kernel
theorem dX5_cheapestSet_55 : decode cX5_cheapestSet 55 = .ok (.iload_n 3, 1) := by decide +kernel
theorem dX5_cheapestSet_56 : decode cX5_cheapestSet 56 = .ok (.iconst 1, 1) := by decide +kernel
theorem dX5_cheapestSet_57 : decode cX5_cheapestSet 57 = .ok (.iload 4, 2) := by decide +kernel
theorem dX5_cheapestSet_59 : decode cX5_cheapestSet 59 = .ok (.ishl, 1) := by decide +kernel
theorem dX5_cheapestSet_60 : decode cX5_cheapestSet 60 = .ok (.ior, 1) := by decide +kernel
theorem dX5_cheapestSet_61 : decode cX5_cheapestSet 61 = .ok (.istore_n 3, 1) := by decide +kernel
theorem dX5_cheapestSet_62 : decode cX5_cheapestSet 62 = .ok (.aload_n 0, 1) := by decide +kernel
theorem dX5_cheapestSet_63 : decode cX5_cheapestSet 63 = .ok (.getfield 15, 3) := by decide +kernel
theorem dX5_cheapestSet_66 : decode cX5_cheapestSet 66 = .ok (.iload 4, 2) := by decide +kernel
theorem dX5_cheapestSet_68 : decode cX5_cheapestSet 68 = .ok (.aload_n 0, 1) := by decide +kernel
theorem dX5_cheapestSet_69 : decode cX5_cheapestSet 69 = .ok (.iload_n 1, 1) := by decide +kernel
theorem dX5_cheapestSet_70 : decode cX5_cheapestSet 70 = .ok (.iload 4, 2) := by decide +kernel
theorem dX5_cheapestSet_72 : decode cX5_cheapestSet 72 = .ok (.invokevirtual 112, 3) := by decide +kernel
theorem dX5_cheapestSet_75 : decode cX5_cheapestSet 75 = .ok (.iastore, 1) := by decide +kernel
theorem dX5_cheapestSet_76 : decode cX5_cheapestSet 76 = .ok (.iinc 4 1, 3) := by decide +kernel
theorem dX5_cheapestSet_79 : decode cX5_cheapestSet 79 = .ok (.goto (-74), 3) := by decide +kernel
theorem dX5_cheapestSet_82 : decode cX5_cheapestSet 82 = .ok (.iconst (-1), 1) := by decide +kernel
theorem dX5_cheapestSet_83 : decode cX5_cheapestSet 83 = .ok (.istore 4, 2) := by decide +kernel
theorem dX5_cheapestSet_85 : decode cX5_cheapestSet 85 = .ok (.iconst 0, 1) := by decide +kernel
theorem dX5_cheapestSet_86 : decode cX5_cheapestSet 86 = .ok (.istore 5, 2) := by decide +kernel
theorem dX5_cheapestSet_88 : decode cX5_cheapestSet 88 = .ok (.iconst 0, 1) := by decide +kernel
theorem dX5_cheapestSet_89 : decode cX5_cheapestSet 89 = .ok (.istore 6, 2) := by decide +kernel
theorem dX5_cheapestSet_91 : decode cX5_cheapestSet 91 = .ok (.iload 6, 2) := by decide +kernel
theorem dX5_cheapestSet_93 : decode cX5_cheapestSet 93 = .ok (.bipush 64, 2) := by decide +kernel
theorem dX5_cheapestSet_95 : decode cX5_cheapestSet 95 = .ok (.if_icmp .ge 70, 3) := by decide +kernel
theorem dX5_cheapestSet_98 : decode cX5_cheapestSet 98 = .ok (.aload_n 0, 1) := by decide +kernel
theorem dX5_cheapestSet_99 : decode cX5_cheapestSet 99 = .ok (.iload 6, 2) := by decide +kernel
theorem dX5_cheapestSet_101 : decode cX5_cheapestSet 101 = .ok (.invokevirtual 115, 3) := by decide +kernel
theorem dX5_cheapestSet_104 : decode cX5_cheapestSet 104 = .ok (.istore 7, 2) := by decide +kernel
theorem dX5_cheapestSet_106 : decode cX5_cheapestSet 106 = .ok (.iload 4, 2) := by decide +kernel
theorem dX5_cheapestSet_108 : decode cX5_cheapestSet 108 = .ok (.iconst (-1), 1) := by decide +kernel
theorem dX5_cheapestSet_109 : decode cX5_cheapestSet 109 = .ok (.if_icmp .eq 10, 3) := by decide +kernel
theorem dX5_cheapestSet_112 : decode cX5_cheapestSet 112 = .ok (.iload 7, 2) := by decide +kernel
theorem dX5_cheapestSet_114 : decode cX5_cheapestSet 114 = .ok (.iload 5, 2) := by decide +kernel
theorem dX5_cheapestSet_116 : decode cX5_cheapestSet 116 = .ok (.if_icmp .ge 7, 3) := by decide +kernel
theorem dX5_cheapestSet_119 : decode cX5_cheapestSet 119 = .ok (.iconst 1, 1) := by decide +kernel
theorem dX5_cheapestSet_120 : decode cX5_cheapestSet 120 = .ok (.goto 4, 3) := by decide +kernel
theorem dX5_cheapestSet_123 : decode cX5_cheapestSet 123 = .ok (.iconst 0, 1) := by decide +kernel
theorem dX5_cheapestSet_124 : decode cX5_cheapestSet 124 = .ok (.istore 8, 2) := by decide +kernel
theorem dX5_cheapestSet_126 : decode cX5_cheapestSet 126 = .ok (.iload 6, 2) := by decide +kernel
theorem dX5_cheapestSet_128 : decode cX5_cheapestSet 128 = .ok (.iload_n 3, 1) := by decide +kernel
theorem dX5_cheapestSet_129 : decode cX5_cheapestSet 129 = .ok (.iconst (-1), 1) := by decide +kernel
theorem dX5_cheapestSet_130 : decode cX5_cheapestSet 130 = .ok (.ixor, 1) := by decide +kernel
theorem dX5_cheapestSet_131 : decode cX5_cheapestSet 131 = .ok (.iand, 1) := by decide +kernel
theorem dX5_cheapestSet_132 : decode cX5_cheapestSet 132 = .ok (.ifCond .ne 27, 3) := by decide +kernel
theorem dX5_cheapestSet_135 : decode cX5_cheapestSet 135 = .ok (.iload 8, 2) := by decide +kernel
theorem dX5_cheapestSet_137 : decode cX5_cheapestSet 137 = .ok (.ifCond .eq 22, 3) := by decide +kernel
theorem dX5_cheapestSet_140 : decode cX5_cheapestSet 140 = .ok (.aload_n 0, 1) := by decide +kernel
theorem dX5_cheapestSet_141 : decode cX5_cheapestSet 141 = .ok (.iload_n 1, 1) := by decide +kernel
theorem dX5_cheapestSet_142 : decode cX5_cheapestSet 142 = .ok (.iload_n 2, 1) := by decide +kernel
theorem dX5_cheapestSet_143 : decode cX5_cheapestSet 143 = .ok (.iload 6, 2) := by decide +kernel
theorem dX5_cheapestSet_145 : decode cX5_cheapestSet 145 = .ok (.invokevirtual 118, 3) := by decide +kernel
theorem dX5_cheapestSet_148 : decode cX5_cheapestSet 148 = .ok (.ifCond .eq 11, 3) := by decide +kernel
theorem dX5_cheapestSet_151 : decode cX5_cheapestSet 151 = .ok (.iload 6, 2) := by decide +kernel
theorem dX5_cheapestSet_153 : decode cX5_cheapestSet 153 = .ok (.istore 4, 2) := by decide +kernel
theorem dX5_cheapestSet_155 : decode cX5_cheapestSet 155 = .ok (.iload 7, 2) := by decide +kernel
theorem dX5_cheapestSet_157 : decode cX5_cheapestSet 157 = .ok (.istore 5, 2) := by decide +kernel
theorem dX5_cheapestSet_159 : decode cX5_cheapestSet 159 = .ok (.iinc 6 1, 3) := by decide +kernel
theorem dX5_cheapestSet_162 : decode cX5_cheapestSet 162 = .ok (.goto (-71), 3) := by decide +kernel
theorem dX5_cheapestSet_165 : decode cX5_cheapestSet 165 = .ok (.iload 4, 2) := by decide +kernel
theorem dX5_cheapestSet_167 : decode cX5_cheapestSet 167 = .ok (.ireturn, 1) := by decide +kernel
theorem dX5_priceOf_0 : decode cX5_priceOf 0 = .ok (.iconst 0, 1) := by decide +kernel
theorem dX5_priceOf_1 : decode cX5_priceOf 1 = .ok (.istore_n 3, 1) := by decide +kernel
theorem dX5_priceOf_2 : decode cX5_priceOf 2 = .ok (.iload_n 3, 1) := by decide +kernel
theorem dX5_priceOf_3 : decode cX5_priceOf 3 = .ok (.bipush 6, 2) := by decide +kernel
theorem dX5_priceOf_5 : decode cX5_priceOf 5 = .ok (.if_icmp .ge 21, 3) := by decide +kernel
theorem dX5_priceOf_8 : decode cX5_priceOf 8 = .ok (.aload_n 0, 1) := by decide +kernel
theorem dX5_priceOf_9 : decode cX5_priceOf 9 = .ok (.getfield 15, 3) := by decide +kernel
theorem dX5_priceOf_12 : decode cX5_priceOf 12 = .ok (.iload_n 3, 1) := by decide +kernel
theorem dX5_priceOf_13 : decode cX5_priceOf 13 = .ok (.aload_n 0, 1) := by decide +kernel
theorem dX5_priceOf_14 : decode cX5_priceOf 14 = .ok (.iload_n 1, 1) := by decide +kernel
theorem dX5_priceOf_15 : decode cX5_priceOf 15 = .ok (.iload_n 3, 1) := by decide +kernel
theorem dX5_priceOf_16 : decode cX5_priceOf 16 = .ok (.invokevirtual 112, 3) := by decide +kernel
theorem dX5_priceOf_19 : decode cX5_priceOf 19 = .ok (.iastore, 1) := by decide +kernel
theorem dX5_priceOf_20 : decode cX5_priceOf 20 = .ok (.iinc 3 1, 3) := by decide +kernel
theorem dX5_priceOf_23 : decode cX5_priceOf 23 = .ok (.goto (-21), 3) := by decide +kernel
theorem dX5_priceOf_26 : decode cX5_priceOf 26 = .ok (.aload_n 0, 1) := by decide +kernel
theorem dX5_priceOf_27 : decode cX5_priceOf 27 = .ok (.iload_n 2, 1) := by decide +kernel
theorem dX5_priceOf_28 : decode cX5_priceOf 28 = .ok (.invokevirtual 115, 3) := by decide +kernel
theorem dX5_priceOf_31 : decode cX5_priceOf 31 = .ok (.ireturn, 1) := by decide +kernel
theorem dX11_bluff_0 : decode cX11_bluff 0 = .ok (.aload_n 0, 1) := by decide +kernel
theorem dX11_bluff_1 : decode cX11_bluff 1 = .ok (.getfield 10, 3) := by decide +kernel
theorem dX11_bluff_4 : decode cX11_bluff 4 = .ok (.iload_n 1, 1) := by decide +kernel
theorem dX11_bluff_5 : decode cX11_bluff 5 = .ok (.invokevirtual 97, 3) := by decide +kernel
theorem dX11_bluff_8 : decode cX11_bluff 8 = .ok (.ifCond .eq 37, 3) := by decide +kernel
theorem dX11_bluff_11 : decode cX11_bluff 11 = .ok (.iload_n 2, 1) := by decide +kernel
theorem dX11_bluff_12 : decode cX11_bluff 12 = .ok (.iconst 1, 1) := by decide +kernel
theorem dX11_bluff_13 : decode cX11_bluff 13 = .ok (.bipush 99, 2) := by decide +kernel
theorem dX11_bluff_15 : decode cX11_bluff 15 = .ok (.invokestatic 122, 3) := by decide +kernel
theorem dX11_bluff_18 : decode cX11_bluff 18 = .ok (.ifCond .eq 27, 3) := by decide +kernel
theorem dX11_bluff_21 : decode cX11_bluff 21 = .ok (.iload_n 3, 1) := by decide +kernel
theorem dX11_bluff_22 : decode cX11_bluff 22 = .ok (.iconst 0, 1) := by decide +kernel
theorem dX11_bluff_23 : decode cX11_bluff 23 = .ok (.iconst 1, 1) := by decide +kernel
theorem dX11_bluff_24 : decode cX11_bluff 24 = .ok (.invokestatic 122, 3) := by decide +kernel
theorem dX11_bluff_27 : decode cX11_bluff 27 = .ok (.ifCond .eq 18, 3) := by decide +kernel
theorem dX11_bluff_30 : decode cX11_bluff 30 = .ok (.aload_n 0, 1) := by decide +kernel
theorem dX11_bluff_31 : decode cX11_bluff 31 = .ok (.getfield 10, 3) := by decide +kernel
theorem dX11_bluff_34 : decode cX11_bluff 34 = .ok (.getfield 101, 3) := by decide +kernel
theorem dX11_bluff_37 : decode cX11_bluff 37 = .ok (.getfield 116, 3) := by decide +kernel
theorem dX11_bluff_40 : decode cX11_bluff 40 = .ok (.iload_n 1, 1) := by decide +kernel
theorem dX11_bluff_41 : decode cX11_bluff 41 = .ok (.iaload, 1) := by decide +kernel
theorem dX11_bluff_42 : decode cX11_bluff 42 = .ok (.ifCond .eq 5, 3) := by decide +kernel
theorem dX11_bluff_45 : decode cX11_bluff 45 = .ok (.iconst (-1), 1) := by decide +kernel
theorem dX11_bluff_46 : decode cX11_bluff 46 = .ok (.ireturn, 1) := by decide +kernel
theorem dX11_bluff_47 : decode cX11_bluff 47 = .ok (.aload_n 0, 1) := by decide +kernel
theorem dX11_bluff_48 : decode cX11_bluff 48 = .ok (.getfield 44, 3) := by decide +kernel
theorem dX11_bluff_51 : decode cX11_bluff 51 = .ok (.iload_n 1, 1) := by decide +kernel
theorem dX11_bluff_52 : decode cX11_bluff 52 = .ok (.iload_n 2, 1) := by decide +kernel
theorem dX11_bluff_53 : decode cX11_bluff 53 = .ok (.invokevirtual 213, 3) := by decide +kernel
theorem dX11_bluff_56 : decode cX11_bluff 56 = .ok (.istore 4, 2) := by decide +kernel
theorem dX11_bluff_58 : decode cX11_bluff 58 = .ok (.iload 4, 2) := by decide +kernel
theorem dX11_bluff_60 : decode cX11_bluff 60 = .ok (.iconst (-1), 1) := by decide +kernel
theorem dX11_bluff_61 : decode cX11_bluff 61 = .ok (.if_icmp .eq 8, 3) := by decide +kernel
theorem dX11_bluff_64 : decode cX11_bluff 64 = .ok (.iload_n 3, 1) := by decide +kernel
theorem dX11_bluff_65 : decode cX11_bluff 65 = .ok (.iconst 1, 1) := by decide +kernel
theorem dX11_bluff_66 : decode cX11_bluff 66 = .ok (.if_icmp .ne 8, 3) := by decide +kernel
theorem dX11_bluff_69 : decode cX11_bluff 69 = .ok (.iload 4, 2) := by decide +kernel
theorem dX11_bluff_71 : decode cX11_bluff 71 = .ok (.goto 13, 3) := by decide +kernel
theorem dX11_bluff_74 : decode cX11_bluff 74 = .ok (.aload_n 0, 1) := by decide +kernel
theorem dX11_bluff_75 : decode cX11_bluff 75 = .ok (.getfield 44, 3) := by decide +kernel
theorem dX11_bluff_78 : decode cX11_bluff 78 = .ok (.iload_n 1, 1) := by decide +kernel
theorem dX11_bluff_79 : decode cX11_bluff 79 = .ok (.iload 4, 2) := by decide +kernel
theorem dX11_bluff_81 : decode cX11_bluff 81 = .ok (.invokevirtual 216, 3) := by decide +kernel
theorem dX11_bluff_84 : decode cX11_bluff 84 = .ok (.ireturn, 1) := by decide +kernel
theorem dX5_swayOf_0 : decode cX5_swayOf 0 = .ok (.aload_n 0, 1) := by decide +kernel
theorem dX5_swayOf_1 : decode cX5_swayOf 1 = .ok (.getfield 24, 3) := by decide +kernel
theorem dX5_swayOf_4 : decode cX5_swayOf 4 = .ok (.getfield 41, 3) := by decide +kernel
theorem dX5_swayOf_7 : decode cX5_swayOf 7 = .ok (.getfield 65, 3) := by decide +kernel
theorem dX5_swayOf_10 : decode cX5_swayOf 10 = .ok (.iload_n 1, 1) := by decide +kernel
theorem dX5_swayOf_11 : decode cX5_swayOf 11 = .ok (.iaload, 1) := by decide +kernel
theorem dX5_swayOf_12 : decode cX5_swayOf 12 = .ok (.istore_n 3, 1) := by decide +kernel
theorem dX5_swayOf_13 : decode cX5_swayOf 13 = .ok (.iconst 1, 1) := by decide +kernel
theorem dX5_swayOf_14 : decode cX5_swayOf 14 = .ok (.iload_n 2, 1) := by decide +kernel
theorem dX5_swayOf_15 : decode cX5_swayOf 15 = .ok (.ishl, 1) := by decide +kernel
theorem dX5_swayOf_16 : decode cX5_swayOf 16 = .ok (.istore 4, 2) := by decide +kernel
theorem dX5_swayOf_18 : decode cX5_swayOf 18 = .ok (.aload_n 0, 1) := by decide +kernel
theorem dX5_swayOf_19 : decode cX5_swayOf 19 = .ok (.iload_n 1, 1) := by decide +kernel
theorem dX5_swayOf_20 : decode cX5_swayOf 20 = .ok (.iload_n 3, 1) := by decide +kernel
theorem dX5_swayOf_21 : decode cX5_swayOf 21 = .ok (.iload 4, 2) := by decide +kernel
theorem dX5_swayOf_23 : decode cX5_swayOf 23 = .ok (.ior, 1) := by decide +kernel
theorem dX5_swayOf_24 : decode cX5_swayOf 24 = .ok (.invokevirtual 68, 3) := by decide +kernel
theorem dX5_swayOf_27 : decode cX5_swayOf 27 = .ok (.aload_n 0, 1) := by decide +kernel
theorem dX5_swayOf_28 : decode cX5_swayOf 28 = .ok (.iload_n 1, 1) := by decide +kernel
theorem dX5_swayOf_29 : decode cX5_swayOf 29 = .ok (.iload_n 3, 1) := by decide +kernel
theorem dX5_swayOf_30 : decode cX5_swayOf 30 = .ok (.iload 4, 2) := by decide +kernel
theorem dX5_swayOf_32 : decode cX5_swayOf 32 = .ok (.iconst (-1), 1) := by decide +kernel
theorem dX5_swayOf_33 : decode cX5_swayOf 33 = .ok (.ixor, 1) := by decide +kernel
theorem dX5_swayOf_34 : decode cX5_swayOf 34 = .ok (.iand, 1) := by decide +kernel
theorem dX5_swayOf_35 : decode cX5_swayOf 35 = .ok (.invokevirtual 68, 3) := by decide +kernel
theorem dX5_swayOf_38 : decode cX5_swayOf 38 = .ok (.isub, 1) := by decide +kernel
theorem dX5_swayOf_39 : decode cX5_swayOf 39 = .ok (.invokestatic 104, 3) := by decide +kernel
theorem dX5_swayOf_42 : decode cX5_swayOf 42 = .ok (.ireturn, 1) := by decide +kernel
theorem dX11_scout_0 : decode cX11_scout 0 = .ok (.aload_n 0, 1) := by decide +kernel
theorem dX11_scout_1 : decode cX11_scout 1 = .ok (.getfield 10, 3) := by decide +kernel
theorem dX11_scout_4 : decode cX11_scout 4 = .ok (.iload_n 1, 1) := by decide +kernel
theorem dX11_scout_5 : decode cX11_scout 5 = .ok (.invokevirtual 97, 3) := by decide +kernel
theorem dX11_scout_8 : decode cX11_scout 8 = .ok (.ifCond .eq 12, 3) := by decide +kernel
theorem dX11_scout_11 : decode cX11_scout 11 = .ok (.iload_n 2, 1) := by decide +kernel
theorem dX11_scout_12 : decode cX11_scout 12 = .ok (.iconst 0, 1) := by decide +kernel
theorem dX11_scout_13 : decode cX11_scout 13 = .ok (.iconst 1, 1) := by decide +kernel
theorem dX11_scout_14 : decode cX11_scout 14 = .ok (.invokestatic 122, 3) := by decide +kernel
theorem dX11_scout_17 : decode cX11_scout 17 = .ok (.ifCond .ne 5, 3) := by decide +kernel
theorem dX11_scout_20 : decode cX11_scout 20 = .ok (.iconst (-1), 1) := by decide +kernel
theorem dX11_scout_21 : decode cX11_scout 21 = .ok (.ireturn, 1) := by decide +kernel
theorem dX11_scout_22 : decode cX11_scout 22 = .ok (.iconst 0, 1) := by decide +kernel
theorem dX11_scout_23 : decode cX11_scout 23 = .ok (.istore_n 3, 1) := by decide +kernel
theorem dX11_scout_24 : decode cX11_scout 24 = .ok (.iconst 1, 1) := by decide +kernel
theorem dX11_scout_25 : decode cX11_scout 25 = .ok (.istore 4, 2) := by decide +kernel
theorem dX11_scout_27 : decode cX11_scout 27 = .ok (.iload 4, 2) := by decide +kernel
theorem dX11_scout_29 : decode cX11_scout 29 = .ok (.bipush 6, 2) := by decide +kernel
theorem dX11_scout_31 : decode cX11_scout 31 = .ok (.if_icmp .ge 34, 3) := by decide +kernel
theorem dX11_scout_34 : decode cX11_scout 34 = .ok (.aload_n 0, 1) := by decide +kernel
theorem dX11_scout_35 : decode cX11_scout 35 = .ok (.getfield 44, 3) := by decide +kernel
theorem dX11_scout_38 : decode cX11_scout 38 = .ok (.iload_n 1, 1) := by decide +kernel
theorem dX11_scout_39 : decode cX11_scout 39 = .ok (.iload 4, 2) := by decide +kernel
theorem dX11_scout_41 : decode cX11_scout 41 = .ok (.invokevirtual 219, 3) := by decide +kernel
theorem dX11_scout_44 : decode cX11_scout 44 = .ok (.aload_n 0, 1) := by decide +kernel
theorem dX11_scout_45 : decode cX11_scout 45 = .ok (.getfield 44, 3) := by decide +kernel
theorem dX11_scout_48 : decode cX11_scout 48 = .ok (.iload_n 1, 1) := by decide +kernel
theorem dX11_scout_49 : decode cX11_scout 49 = .ok (.iload_n 3, 1) := by decide +kernel
theorem dX11_scout_50 : decode cX11_scout 50 = .ok (.invokevirtual 219, 3) := by decide +kernel
theorem dX11_scout_53 : decode cX11_scout 53 = .ok (.if_icmp .le 6, 3) := by decide +kernel
theorem dX11_scout_56 : decode cX11_scout 56 = .ok (.iload 4, 2) := by decide +kernel
theorem dX11_scout_58 : decode cX11_scout 58 = .ok (.istore_n 3, 1) := by decide +kernel
theorem dX11_scout_59 : decode cX11_scout 59 = .ok (.iinc 4 1, 3) := by decide +kernel
theorem dX11_scout_62 : decode cX11_scout 62 = .ok (.goto (-35), 3) := by decide +kernel
theorem dX11_scout_65 : decode cX11_scout 65 = .ok (.iload_n 2, 1) := by decide +kernel
theorem dX11_scout_66 : decode cX11_scout 66 = .ok (.ifCond .ne 7, 3) := by decide +kernel
theorem dX11_scout_69 : decode cX11_scout 69 = .ok (.iload_n 3, 1) := by decide +kernel
theorem dX11_scout_70 : decode cX11_scout 70 = .ok (.goto 12, 3) := by decide +kernel
theorem dX11_scout_73 : decode cX11_scout 73 = .ok (.aload_n 0, 1) := by decide +kernel
theorem dX11_scout_74 : decode cX11_scout 74 = .ok (.getfield 44, 3) := by decide +kernel
theorem dX11_scout_77 : decode cX11_scout 77 = .ok (.iload_n 1, 1) := by decide +kernel
theorem dX11_scout_78 : decode cX11_scout 78 = .ok (.iload_n 3, 1) := by decide +kernel
theorem dX11_scout_79 : decode cX11_scout 79 = .ok (.invokevirtual 219, 3) := by decide +kernel
theorem dX11_scout_82 : decode cX11_scout 82 = .ok (.ireturn, 1) := by decide +kernel
theorem dX11_holds_0 : decode cX11_holds 0 = .ok (.aload_n 0, 1) := by decide +kernel
theorem dX11_holds_1 : decode cX11_holds 1 = .ok (.getfield 10, 3) := by decide +kernel
theorem dX11_holds_4 : decode cX11_holds 4 = .ok (.iload_n 1, 1) := by decide +kernel
theorem dX11_holds_5 : decode cX11_holds 5 = .ok (.invokevirtual 97, 3) := by decide +kernel
theorem dX11_holds_8 : decode cX11_holds 8 = .ok (.ifCond .eq 28, 3) := by decide +kernel
theorem dX11_holds_11 : decode cX11_holds 11 = .ok (.iload_n 2, 1) := by decide +kernel
theorem dX11_holds_12 : decode cX11_holds 12 = .ok (.iconst 0, 1) := by decide +kernel
theorem dX11_holds_13 : decode cX11_holds 13 = .ok (.bipush 30, 2) := by decide +kernel
theorem dX11_holds_15 : decode cX11_holds 15 = .ok (.invokestatic 122, 3) := by decide +kernel
theorem dX11_holds_18 : decode cX11_holds 18 = .ok (.ifCond .eq 18, 3) := by decide +kernel
theorem dX11_holds_21 : decode cX11_holds 21 = .ok (.aload_n 0, 1) := by decide +kernel
theorem dX11_holds_22 : decode cX11_holds 22 = .ok (.getfield 10, 3) := by decide +kernel
theorem dX11_holds_25 : decode cX11_holds 25 = .ok (.getfield 101, 3) := by decide +kernel
theorem dX11_holds_28 : decode cX11_holds 28 = .ok (.getfield 116, 3) := by decide +kernel
theorem dX11_holds_31 : decode cX11_holds 31 = .ok (.iload_n 1, 1) := by decide +kernel
theorem dX11_holds_32 : decode cX11_holds 32 = .ok (.iaload, 1) := by decide +kernel
theorem dX11_holds_33 : decode cX11_holds 33 = .ok (.ifCond .eq 7, 3) := by decide +kernel
theorem dX11_holds_36 : decode cX11_holds 36 = .ok (.ldc2_w 222, 3) := by decide +kernel
theorem dX11_holds_39 : decode cX11_holds 39 = .ok (.lreturn, 1) := by decide +kernel
theorem dX11_holds_40 : decode cX11_holds 40 = .ok (.iconst 0, 1) := by decide +kernel
theorem dX11_holds_41 : decode cX11_holds 41 = .ok (.istore_n 3, 1) := by decide +kernel
theorem dX11_holds_42 : decode cX11_holds 42 = .ok (.bipush 9, 2) := by decide +kernel
theorem dX11_holds_44 : decode cX11_holds 44 = .ok (.istore 4, 2) := by decide +kernel
theorem dX11_holds_46 : decode cX11_holds 46 = .ok (.iload 4, 2) := by decide +kernel
theorem dX11_holds_48 : decode cX11_holds 48 = .ok (.bipush 99, 2) := by decide +kernel
theorem dX11_holds_50 : decode cX11_holds 50 = .ok (.if_icmp .gt 54, 3) := by decide +kernel
theorem dX11_holds_53 : decode cX11_holds 53 = .ok (.iload 4, 2) := by decide +kernel
theorem dX11_holds_55 : decode cX11_holds 55 = .ok (.aload_n 0, 1) := by decide +kernel
theorem dX11_holds_56 : decode cX11_holds 56 = .ok (.getfield 10, 3) := by decide +kernel
theorem dX11_holds_59 : decode cX11_holds 59 = .ok (.getfield 101, 3) := by decide +kernel
theorem dX11_holds_62 : decode cX11_holds 62 = .ok (.getfield 105, 3) := by decide +kernel
theorem dX11_holds_65 : decode cX11_holds 65 = .ok (.iload_n 1, 1) := by decide +kernel
theorem dX11_holds_66 : decode cX11_holds 66 = .ok (.iaload, 1) := by decide +kernel
theorem dX11_holds_67 : decode cX11_holds 67 = .ok (.if_icmp .le 28, 3) := by decide +kernel
theorem dX11_holds_70 : decode cX11_holds 70 = .ok (.aload_n 0, 1) := by decide +kernel
theorem dX11_holds_71 : decode cX11_holds 71 = .ok (.getfield 44, 3) := by decide +kernel
theorem dX11_holds_74 : decode cX11_holds 74 = .ok (.iload_n 1, 1) := by decide +kernel
theorem dX11_holds_75 : decode cX11_holds 75 = .ok (.iload 4, 2) := by decide +kernel
theorem dX11_holds_77 : decode cX11_holds 77 = .ok (.aload_n 0, 1) := by decide +kernel
theorem dX11_holds_78 : decode cX11_holds 78 = .ok (.getfield 10, 3) := by decide +kernel
theorem dX11_holds_81 : decode cX11_holds 81 = .ok (.getfield 101, 3) := by decide +kernel
theorem dX11_holds_84 : decode cX11_holds 84 = .ok (.getfield 113, 3) := by decide +kernel
theorem dX11_holds_87 : decode cX11_holds 87 = .ok (.iload_n 1, 1) := by decide +kernel
theorem dX11_holds_88 : decode cX11_holds 88 = .ok (.iaload, 1) := by decide +kernel
theorem dX11_holds_89 : decode cX11_holds 89 = .ok (.invokevirtual 152, 3) := by decide +kernel
theorem dX11_holds_92 : decode cX11_holds 92 = .ok (.ifCond .eq 6, 3) := by decide +kernel
theorem dX11_holds_95 : decode cX11_holds 95 = .ok (.iinc 3 1, 3) := by decide +kernel
theorem dX11_holds_98 : decode cX11_holds 98 = .ok (.iinc 4 10, 3) := by decide +kernel
theorem dX11_holds_101 : decode cX11_holds 101 = .ok (.goto (-55), 3) := by decide +kernel
theorem dX11_holds_104 : decode cX11_holds 104 = .ok (.ldc2_w 224, 3) := by decide +kernel
theorem dX11_holds_107 : decode cX11_holds 107 = .ok (.lstore 4, 2) := by decide +kernel
theorem dX11_holds_109 : decode cX11_holds 109 = .ok (.iconst 0, 1) := by decide +kernel
theorem dX11_holds_110 : decode cX11_holds 110 = .ok (.istore 6, 2) := by decide +kernel
theorem dX11_holds_112 : decode cX11_holds 112 = .ok (.iload 6, 2) := by decide +kernel
theorem dX11_holds_114 : decode cX11_holds 114 = .ok (.iload_n 2, 1) := by decide +kernel
theorem dX11_holds_115 : decode cX11_holds 115 = .ok (.if_icmp .ge 20, 3) := by decide +kernel
theorem dX11_holds_118 : decode cX11_holds 118 = .ok (.lload 4, 2) := by decide +kernel
theorem dX11_holds_120 : decode cX11_holds 120 = .ok (.iload_n 3, 1) := by decide +kernel
theorem dX11_holds_121 : decode cX11_holds 121 = .ok (.i2l, 1) := by decide +kernel
theorem dX11_holds_122 : decode cX11_holds 122 = .ok (.lmul, 1) := by decide +kernel
theorem dX11_holds_123 : decode cX11_holds 123 = .ok (.ldc2_w 226, 3) := by decide +kernel
theorem dX11_holds_126 : decode cX11_holds 126 = .ok (.ldiv, 1) := by decide +kernel
theorem dX11_holds_127 : decode cX11_holds 127 = .ok (.lstore 4, 2) := by decide +kernel
theorem dX11_holds_129 : decode cX11_holds 129 = .ok (.iinc 6 1, 3) := by decide +kernel
theorem dX11_holds_132 : decode cX11_holds 132 = .ok (.goto (-20), 3) := by decide +kernel
theorem dX11_holds_135 : decode cX11_holds 135 = .ok (.lload 4, 2) := by decide +kernel
theorem dX11_holds_137 : decode cX11_holds 137 = .ok (.lreturn, 1) := by decide +kernel
theorem dJ7_fill_53178_0 : decode cJ7_fill_53178 0 = .ok (.iconst 0, 1) := by decide +kernel
theorem dJ7_fill_53178_1 : decode cJ7_fill_53178 1 = .ok (.istore_n 2, 1) := by decide +kernel
theorem dJ7_fill_53178_2 : decode cJ7_fill_53178 2 = .ok (.aload_n 0, 1) := by decide +kernel
theorem dJ7_fill_53178_3 : decode cJ7_fill_53178 3 = .ok (.arraylength, 1) := by decide +kernel
theorem dJ7_fill_53178_4 : decode cJ7_fill_53178 4 = .ok (.istore_n 3, 1) := by decide +kernel
theorem dJ7_fill_53178_5 : decode cJ7_fill_53178 5 = .ok (.iload_n 2, 1) := by decide +kernel
theorem dJ7_fill_53178_6 : decode cJ7_fill_53178 6 = .ok (.iload_n 3, 1) := by decide +kernel
theorem dJ7_fill_53178_7 : decode cJ7_fill_53178 7 = .ok (.if_icmp .ge 13, 3) := by decide +kernel
theorem dJ7_fill_53178_10 : decode cJ7_fill_53178 10 = .ok (.aload_n 0, 1) := by decide +kernel
theorem dJ7_fill_53178_11 : decode cJ7_fill_53178 11 = .ok (.iload_n 2, 1) := by decide +kernel
theorem dJ7_fill_53178_12 : decode cJ7_fill_53178 12 = .ok (.iload_n 1, 1) := by decide +kernel
theorem dJ7_fill_53178_13 : decode cJ7_fill_53178 13 = .ok (.iastore, 1) := by decide +kernel
theorem dJ7_fill_53178_14 : decode cJ7_fill_53178 14 = .ok (.iinc 2 1, 3) := by decide +kernel
theorem dJ7_fill_53178_17 : decode cJ7_fill_53178 17 = .ok (.goto (-12), 3) := by decide +kernel
theorem dJ7_fill_53178_20 : decode cJ7_fill_53178 20 = .ok (.return_, 1) := by decide +kernel
theorem dX6_leads_0 : decode cX6_leads 0 = .ok (.aload_n 0, 1) := by decide +kernel
theorem dX6_leads_1 : decode cX6_leads 1 = .ok (.getfield 39, 3) := by decide +kernel
theorem dX6_leads_4 : decode cX6_leads 4 = .ok (.iload_n 1, 1) := by decide +kernel
theorem dX6_leads_5 : decode cX6_leads 5 = .ok (.bipush 6, 2) := by decide +kernel
theorem dX6_leads_7 : decode cX6_leads 7 = .ok (.imul, 1) := by decide +kernel
theorem dX6_leads_8 : decode cX6_leads 8 = .ok (.iload_n 2, 1) := by decide +kernel
theorem dX6_leads_9 : decode cX6_leads 9 = .ok (.iadd, 1) := by decide +kernel
theorem dX6_leads_10 : decode cX6_leads 10 = .ok (.iaload, 1) := by decide +kernel
theorem dX6_leads_11 : decode cX6_leads 11 = .ok (.ifCond .le 24, 3) := by decide +kernel
theorem dX6_leads_14 : decode cX6_leads 14 = .ok (.iload_n 2, 1) := by decide +kernel
theorem dX6_leads_15 : decode cX6_leads 15 = .ok (.iload_n 3, 1) := by decide +kernel
theorem dX6_leads_16 : decode cX6_leads 16 = .ok (.if_icmp .eq 15, 3) := by decide +kernel
theorem dX6_leads_19 : decode cX6_leads 19 = .ok (.aload_n 0, 1) := by decide +kernel
theorem dX6_leads_20 : decode cX6_leads 20 = .ok (.getfield 12, 3) := by decide +kernel
theorem dX6_leads_23 : decode cX6_leads 23 = .ok (.getfield 105, 3) := by decide +kernel
theorem dX6_leads_26 : decode cX6_leads 26 = .ok (.iload_n 2, 1) := by decide +kernel
theorem dX6_leads_27 : decode cX6_leads 27 = .ok (.iaload, 1) := by decide +kernel
theorem dX6_leads_28 : decode cX6_leads 28 = .ok (.ifCond .ne 7, 3) := by decide +kernel
theorem dX6_leads_31 : decode cX6_leads 31 = .ok (.iconst 1, 1) := by decide +kernel
theorem dX6_leads_32 : decode cX6_leads 32 = .ok (.goto 4, 3) := by decide +kernel
theorem dX6_leads_35 : decode cX6_leads 35 = .ok (.iconst 0, 1) := by decide +kernel
theorem dX6_leads_36 : decode cX6_leads 36 = .ok (.ireturn, 1) := by decide +kernel
theorem dX6_shortestFrom_0 : decode cX6_shortestFrom 0 = .ok (.ldc 111, 2) := by decide +kernel
theorem dX6_shortestFrom_2 : decode cX6_shortestFrom 2 = .ok (.istore_n 3, 1) := by decide +kernel
theorem dX6_shortestFrom_3 : decode cX6_shortestFrom 3 = .ok (.iconst 0, 1) := by decide +kernel
theorem dX6_shortestFrom_4 : decode cX6_shortestFrom 4 = .ok (.istore 4, 2) := by decide +kernel
theorem dX6_shortestFrom_6 : decode cX6_shortestFrom 6 = .ok (.iload 4, 2) := by decide +kernel
theorem dX6_shortestFrom_8 : decode cX6_shortestFrom 8 = .ok (.aload_n 0, 1) := by decide +kernel
theorem dX6_shortestFrom_9 : decode cX6_shortestFrom 9 = .ok (.getfield 86, 3) := by decide +kernel
theorem dX6_shortestFrom_12 : decode cX6_shortestFrom 12 = .ok (.if_icmp .ge 45, 3) := by decide +kernel
theorem dX6_shortestFrom_15 : decode cX6_shortestFrom 15 = .ok (.aload_n 0, 1) := by decide +kernel
theorem dX6_shortestFrom_16 : decode cX6_shortestFrom 16 = .ok (.iload_n 1, 1) := by decide +kernel
theorem dX6_shortestFrom_17 : decode cX6_shortestFrom 17 = .ok (.iload 4, 2) := by decide +kernel
theorem dX6_shortestFrom_19 : decode cX6_shortestFrom 19 = .ok (.iload_n 2, 1) := by decide +kernel
theorem dX6_shortestFrom_20 : decode cX6_shortestFrom 20 = .ok (.invokevirtual 121, 3) := by decide +kernel
theorem dX6_shortestFrom_23 : decode cX6_shortestFrom 23 = .ok (.ifCond .eq 28, 3) := by decide +kernel
theorem dX6_shortestFrom_26 : decode cX6_shortestFrom 26 = .ok (.iload_n 3, 1) := by decide +kernel
theorem dX6_shortestFrom_27 : decode cX6_shortestFrom 27 = .ok (.aload_n 0, 1) := by decide +kernel
theorem dX6_shortestFrom_28 : decode cX6_shortestFrom 28 = .ok (.getfield 39, 3) := by decide +kernel
theorem dX6_shortestFrom_31 : decode cX6_shortestFrom 31 = .ok (.iload_n 1, 1) := by decide +kernel
theorem dX6_shortestFrom_32 : decode cX6_shortestFrom 32 = .ok (.bipush 6, 2) := by decide +kernel
theorem dX6_shortestFrom_34 : decode cX6_shortestFrom 34 = .ok (.imul, 1) := by decide +kernel
theorem dX6_shortestFrom_35 : decode cX6_shortestFrom 35 = .ok (.iload 4, 2) := by decide +kernel
theorem dX6_shortestFrom_37 : decode cX6_shortestFrom 37 = .ok (.iadd, 1) := by decide +kernel
theorem dX6_shortestFrom_38 : decode cX6_shortestFrom 38 = .ok (.iaload, 1) := by decide +kernel
theorem dX6_shortestFrom_39 : decode cX6_shortestFrom 39 = .ok (.aload_n 0, 1) := by decide +kernel
theorem dX6_shortestFrom_40 : decode cX6_shortestFrom 40 = .ok (.getfield 42, 3) := by decide +kernel
theorem dX6_shortestFrom_43 : decode cX6_shortestFrom 43 = .ok (.iload 4, 2) := by decide +kernel
theorem dX6_shortestFrom_45 : decode cX6_shortestFrom 45 = .ok (.iaload, 1) := by decide +kernel
theorem dX6_shortestFrom_46 : decode cX6_shortestFrom 46 = .ok (.iadd, 1) := by decide +kernel
theorem dX6_shortestFrom_47 : decode cX6_shortestFrom 47 = .ok (.invokestatic 116, 3) := by decide +kernel
theorem dX6_shortestFrom_50 : decode cX6_shortestFrom 50 = .ok (.istore_n 3, 1) := by decide +kernel
theorem dX6_shortestFrom_51 : decode cX6_shortestFrom 51 = .ok (.iinc 4 1, 3) := by decide +kernel
theorem dX6_shortestFrom_54 : decode cX6_shortestFrom 54 = .ok (.goto (-48), 3) := by decide +kernel
theorem dX6_shortestFrom_57 : decode cX6_shortestFrom 57 = .ok (.iload_n 3, 1) := by decide +kernel
theorem dX6_shortestFrom_58 : decode cX6_shortestFrom 58 = .ok (.ireturn, 1) := by decide +kernel
theorem dX6_measureTo_0 : decode cX6_measureTo 0 = .ok (.aload_n 0, 1) := by decide +kernel
theorem dX6_measureTo_1 : decode cX6_measureTo 1 = .ok (.getfield 42, 3) := by decide +kernel
theorem dX6_measureTo_4 : decode cX6_measureTo 4 = .ok (.ldc 111, 2) := by decide +kernel
theorem dX6_measureTo_6 : decode cX6_measureTo 6 = .ok (.invokestatic 61, 3) := by decide +kernel
theorem dX6_measureTo_9 : decode cX6_measureTo 9 = .ok (.aload_n 0, 1) := by decide +kernel
theorem dX6_measureTo_10 : decode cX6_measureTo 10 = .ok (.getfield 42, 3) := by decide +kernel
theorem dX6_measureTo_13 : decode cX6_measureTo 13 = .ok (.iload_n 1, 1) := by decide +kernel
theorem dX6_measureTo_14 : decode cX6_measureTo 14 = .ok (.iconst 0, 1) := by decide +kernel
theorem dX6_measureTo_15 : decode cX6_measureTo 15 = .ok (.iastore, 1) := by decide +kernel
theorem dX6_measureTo_16 : decode cX6_measureTo 16 = .ok (.iconst 1, 1) := by decide +kernel
theorem dX6_measureTo_17 : decode cX6_measureTo 17 = .ok (.istore_n 2, 1) := by decide +kernel
theorem dX6_measureTo_18 : decode cX6_measureTo 18 = .ok (.iload_n 2, 1) := by decide +kernel
theorem dX6_measureTo_19 : decode cX6_measureTo 19 = .ok (.aload_n 0, 1) := by decide +kernel
theorem dX6_measureTo_20 : decode cX6_measureTo 20 = .ok (.getfield 86, 3) := by decide +kernel
theorem dX6_measureTo_23 : decode cX6_measureTo 23 = .ok (.if_icmp .ge 46, 3) := by decide +kernel
theorem dX6_measureTo_26 : decode cX6_measureTo 26 = .ok (.iconst 0, 1) := by decide +kernel
theorem dX6_measureTo_27 : decode cX6_measureTo 27 = .ok (.istore_n 3, 1) := by decide +kernel
theorem dX6_measureTo_28 : decode cX6_measureTo 28 = .ok (.iload_n 3, 1) := by decide +kernel
theorem dX6_measureTo_29 : decode cX6_measureTo 29 = .ok (.aload_n 0, 1) := by decide +kernel
theorem dX6_measureTo_30 : decode cX6_measureTo 30 = .ok (.getfield 86, 3) := by decide +kernel
theorem dX6_measureTo_33 : decode cX6_measureTo 33 = .ok (.if_icmp .ge 30, 3) := by decide +kernel
theorem dX6_measureTo_36 : decode cX6_measureTo 36 = .ok (.aload_n 0, 1) := by decide +kernel
theorem dX6_measureTo_37 : decode cX6_measureTo 37 = .ok (.getfield 42, 3) := by decide +kernel
theorem dX6_measureTo_40 : decode cX6_measureTo 40 = .ok (.iload_n 3, 1) := by decide +kernel
theorem dX6_measureTo_41 : decode cX6_measureTo 41 = .ok (.aload_n 0, 1) := by decide +kernel
theorem dX6_measureTo_42 : decode cX6_measureTo 42 = .ok (.getfield 42, 3) := by decide +kernel
theorem dX6_measureTo_45 : decode cX6_measureTo 45 = .ok (.iload_n 3, 1) := by decide +kernel
theorem dX6_measureTo_46 : decode cX6_measureTo 46 = .ok (.iaload, 1) := by decide +kernel
theorem dX6_measureTo_47 : decode cX6_measureTo 47 = .ok (.aload_n 0, 1) := by decide +kernel
theorem dX6_measureTo_48 : decode cX6_measureTo 48 = .ok (.iload_n 3, 1) := by decide +kernel
theorem dX6_measureTo_49 : decode cX6_measureTo 49 = .ok (.iload_n 1, 1) := by decide +kernel
theorem dX6_measureTo_50 : decode cX6_measureTo 50 = .ok (.invokevirtual 112, 3) := by decide +kernel
theorem dX6_measureTo_53 : decode cX6_measureTo 53 = .ok (.invokestatic 116, 3) := by decide +kernel
theorem dX6_measureTo_56 : decode cX6_measureTo 56 = .ok (.iastore, 1) := by decide +kernel
theorem dX6_measureTo_57 : decode cX6_measureTo 57 = .ok (.iinc 3 1, 3) := by decide +kernel
theorem dX6_measureTo_60 : decode cX6_measureTo 60 = .ok (.goto (-32), 3) := by decide +kernel
theorem dX6_measureTo_63 : decode cX6_measureTo 63 = .ok (.iinc 2 1, 3) := by decide +kernel
theorem dX6_measureTo_66 : decode cX6_measureTo 66 = .ok (.goto (-48), 3) := by decide +kernel
theorem dX6_measureTo_69 : decode cX6_measureTo 69 = .ok (.return_, 1) := by decide +kernel
theorem dX6_quickestStop_0 : decode cX6_quickestStop 0 = .ok (.iconst 0, 1) := by decide +kernel
theorem dX6_quickestStop_1 : decode cX6_quickestStop 1 = .ok (.istore_n 3, 1) := by decide +kernel
theorem dX6_quickestStop_2 : decode cX6_quickestStop 2 = .ok (.iload_n 3, 1) := by decide +kernel
theorem dX6_quickestStop_3 : decode cX6_quickestStop 3 = .ok (.aload_n 0, 1) := by decide +kernel
theorem dX6_quickestStop_4 : decode cX6_quickestStop 4 = .ok (.getfield 86, 3) := by decide +kernel
theorem dX6_quickestStop_7 : decode cX6_quickestStop 7 = .ok (.if_icmp .ge 48, 3) := by decide +kernel
theorem dX6_quickestStop_10 : decode cX6_quickestStop 10 = .ok (.aload_n 0, 1) := by decide +kernel
theorem dX6_quickestStop_11 : decode cX6_quickestStop 11 = .ok (.iload_n 1, 1) := by decide +kernel
theorem dX6_quickestStop_12 : decode cX6_quickestStop 12 = .ok (.iload_n 3, 1) := by decide +kernel
theorem dX6_quickestStop_13 : decode cX6_quickestStop 13 = .ok (.iload_n 2, 1) := by decide +kernel
theorem dX6_quickestStop_14 : decode cX6_quickestStop 14 = .ok (.invokevirtual 121, 3) := by decide +kernel
theorem dX6_quickestStop_17 : decode cX6_quickestStop 17 = .ok (.ifCond .eq 32, 3) := by decide +kernel
theorem dX6_quickestStop_20 : decode cX6_quickestStop 20 = .ok (.aload_n 0, 1) := by decide +kernel
theorem dX6_quickestStop_21 : decode cX6_quickestStop 21 = .ok (.getfield 39, 3) := by decide +kernel
theorem dX6_quickestStop_24 : decode cX6_quickestStop 24 = .ok (.iload_n 1, 1) := by decide +kernel
theorem dX6_quickestStop_25 : decode cX6_quickestStop 25 = .ok (.bipush 6, 2) := by decide +kernel
theorem dX6_quickestStop_27 : decode cX6_quickestStop 27 = .ok (.imul, 1) := by decide +kernel
theorem dX6_quickestStop_28 : decode cX6_quickestStop 28 = .ok (.iload_n 3, 1) := by decide +kernel
theorem dX6_quickestStop_29 : decode cX6_quickestStop 29 = .ok (.iadd, 1) := by decide +kernel
theorem dX6_quickestStop_30 : decode cX6_quickestStop 30 = .ok (.iaload, 1) := by decide +kernel
theorem dX6_quickestStop_31 : decode cX6_quickestStop 31 = .ok (.aload_n 0, 1) := by decide +kernel
theorem dX6_quickestStop_32 : decode cX6_quickestStop 32 = .ok (.getfield 42, 3) := by decide +kernel
theorem dX6_quickestStop_35 : decode cX6_quickestStop 35 = .ok (.iload_n 3, 1) := by decide +kernel
theorem dX6_quickestStop_36 : decode cX6_quickestStop 36 = .ok (.iaload, 1) := by decide +kernel
theorem dX6_quickestStop_37 : decode cX6_quickestStop 37 = .ok (.iadd, 1) := by decide +kernel
theorem dX6_quickestStop_38 : decode cX6_quickestStop 38 = .ok (.aload_n 0, 1) := by decide +kernel
theorem dX6_quickestStop_39 : decode cX6_quickestStop 39 = .ok (.getfield 42, 3) := by decide +kernel
theorem dX6_quickestStop_42 : decode cX6_quickestStop 42 = .ok (.iload_n 1, 1) := by decide +kernel
theorem dX6_quickestStop_43 : decode cX6_quickestStop 43 = .ok (.iaload, 1) := by decide +kernel
theorem dX6_quickestStop_44 : decode cX6_quickestStop 44 = .ok (.if_icmp .ne 5, 3) := by decide +kernel
theorem dX6_quickestStop_47 : decode cX6_quickestStop 47 = .ok (.iload_n 3, 1) := by decide +kernel
theorem dX6_quickestStop_48 : decode cX6_quickestStop 48 = .ok (.ireturn, 1) := by decide +kernel
theorem dX6_quickestStop_49 : decode cX6_quickestStop 49 = .ok (.iinc 3 1, 3) := by decide +kernel
theorem dX6_quickestStop_52 : decode cX6_quickestStop 52 = .ok (.goto (-50), 3) := by decide +kernel
theorem dX6_quickestStop_55 : decode cX6_quickestStop 55 = .ok (.iconst (-1), 1) := by decide +kernel
theorem dX6_quickestStop_56 : decode cX6_quickestStop 56 = .ok (.ireturn, 1) := by decide +kernel
theorem dX6_stopOnWay_0 : decode cX6_stopOnWay 0 = .ok (.iload_n 1, 1) := by decide +kernel
theorem dX6_stopOnWay_1 : decode cX6_stopOnWay 1 = .ok (.istore 4, 2) := by decide +kernel
theorem dX6_stopOnWay_3 : decode cX6_stopOnWay 3 = .ok (.iconst 0, 1) := by decide +kernel
theorem dX6_stopOnWay_4 : decode cX6_stopOnWay 4 = .ok (.istore 5, 2) := by decide +kernel
theorem dX6_stopOnWay_6 : decode cX6_stopOnWay 6 = .ok (.iload 5, 2) := by decide +kernel
theorem dX6_stopOnWay_8 : decode cX6_stopOnWay 8 = .ok (.aload_n 0, 1) := by decide +kernel
theorem dX6_stopOnWay_9 : decode cX6_stopOnWay 9 = .ok (.getfield 86, 3) := by decide +kernel
theorem dX6_stopOnWay_12 : decode cX6_stopOnWay 12 = .ok (.if_icmp .ge 39, 3) := by decide +kernel
theorem dX6_stopOnWay_15 : decode cX6_stopOnWay 15 = .ok (.iload 4, 2) := by decide +kernel
theorem dX6_stopOnWay_17 : decode cX6_stopOnWay 17 = .ok (.iload_n 2, 1) := by decide +kernel
theorem dX6_stopOnWay_18 : decode cX6_stopOnWay 18 = .ok (.if_icmp .eq 33, 3) := by decide +kernel
theorem dX6_stopOnWay_21 : decode cX6_stopOnWay 21 = .ok (.aload_n 0, 1) := by decide +kernel
theorem dX6_stopOnWay_22 : decode cX6_stopOnWay 22 = .ok (.iload 4, 2) := by decide +kernel
theorem dX6_stopOnWay_24 : decode cX6_stopOnWay 24 = .ok (.iload_n 2, 1) := by decide +kernel
theorem dX6_stopOnWay_25 : decode cX6_stopOnWay 25 = .ok (.invokevirtual 124, 3) := by decide +kernel
theorem dX6_stopOnWay_28 : decode cX6_stopOnWay 28 = .ok (.istore 4, 2) := by decide +kernel
theorem dX6_stopOnWay_30 : decode cX6_stopOnWay 30 = .ok (.iload 5, 2) := by decide +kernel
theorem dX6_stopOnWay_32 : decode cX6_stopOnWay 32 = .ok (.iload_n 3, 1) := by decide +kernel
theorem dX6_stopOnWay_33 : decode cX6_stopOnWay 33 = .ok (.if_icmp .eq 9, 3) := by decide +kernel
theorem dX6_stopOnWay_36 : decode cX6_stopOnWay 36 = .ok (.iload 4, 2) := by decide +kernel
theorem dX6_stopOnWay_38 : decode cX6_stopOnWay 38 = .ok (.iconst (-1), 1) := by decide +kernel
theorem dX6_stopOnWay_39 : decode cX6_stopOnWay 39 = .ok (.if_icmp .ne 6, 3) := by decide +kernel
theorem dX6_stopOnWay_42 : decode cX6_stopOnWay 42 = .ok (.iload 4, 2) := by decide +kernel
theorem dX6_stopOnWay_44 : decode cX6_stopOnWay 44 = .ok (.ireturn, 1) := by decide +kernel
theorem dX6_stopOnWay_45 : decode cX6_stopOnWay 45 = .ok (.iinc 5 1, 3) := by decide +kernel
theorem dX6_stopOnWay_48 : decode cX6_stopOnWay 48 = .ok (.goto (-42), 3) := by decide +kernel
theorem dX6_stopOnWay_51 : decode cX6_stopOnWay 51 = .ok (.iconst (-1), 1) := by decide +kernel
theorem dX6_stopOnWay_52 : decode cX6_stopOnWay 52 = .ok (.ireturn, 1) := by decide +kernel
theorem dX11_retreat_0 : decode cX11_retreat 0 = .ok (.aload_n 0, 1) := by decide +kernel
theorem dX11_retreat_1 : decode cX11_retreat 1 = .ok (.getfield 10, 3) := by decide +kernel
theorem dX11_retreat_4 : decode cX11_retreat 4 = .ok (.iload_n 1, 1) := by decide +kernel
theorem dX11_retreat_5 : decode cX11_retreat 5 = .ok (.invokevirtual 97, 3) := by decide +kernel
theorem dX11_retreat_8 : decode cX11_retreat 8 = .ok (.ifCond .eq 24, 3) := by decide +kernel
theorem dX11_retreat_11 : decode cX11_retreat 11 = .ok (.aload_n 0, 1) := by decide +kernel
theorem dX11_retreat_12 : decode cX11_retreat 12 = .ok (.getfield 10, 3) := by decide +kernel
theorem dX11_retreat_15 : decode cX11_retreat 15 = .ok (.iload_n 2, 1) := by decide +kernel
theorem dX11_retreat_16 : decode cX11_retreat 16 = .ok (.invokevirtual 97, 3) := by decide +kernel
theorem dX11_retreat_19 : decode cX11_retreat 19 = .ok (.ifCond .eq 13, 3) := by decide +kernel
theorem dX11_retreat_22 : decode cX11_retreat 22 = .ok (.iload_n 1, 1) := by decide +kernel
theorem dX11_retreat_23 : decode cX11_retreat 23 = .ok (.iload_n 2, 1) := by decide +kernel
theorem dX11_retreat_24 : decode cX11_retreat 24 = .ok (.if_icmp .eq 8, 3) := by decide +kernel
theorem dX11_retreat_27 : decode cX11_retreat 27 = .ok (.iload_n 3, 1) := by decide +kernel
theorem dX11_retreat_28 : decode cX11_retreat 28 = .ok (.iconst (-1), 1) := by decide +kernel
theorem dX11_retreat_29 : decode cX11_retreat 29 = .ok (.if_icmp .ge 5, 3) := by decide +kernel
theorem dX11_retreat_32 : decode cX11_retreat 32 = .ok (.iconst (-1), 1) := by decide +kernel
theorem dX11_retreat_33 : decode cX11_retreat 33 = .ok (.ireturn, 1) := by decide +kernel
theorem dX11_retreat_34 : decode cX11_retreat 34 = .ok (.aload_n 0, 1) := by decide +kernel
theorem dX11_retreat_35 : decode cX11_retreat 35 = .ok (.getfield 10, 3) := by decide +kernel
theorem dX11_retreat_38 : decode cX11_retreat 38 = .ok (.iload_n 2, 1) := by decide +kernel
theorem dX11_retreat_39 : decode cX11_retreat 39 = .ok (.invokevirtual 228, 3) := by decide +kernel
theorem dX11_retreat_42 : decode cX11_retreat 42 = .ok (.aload_n 0, 1) := by decide +kernel
theorem dX11_retreat_43 : decode cX11_retreat 43 = .ok (.getfield 10, 3) := by decide +kernel
theorem dX11_retreat_46 : decode cX11_retreat 46 = .ok (.getfield 231, 3) := by decide +kernel
theorem dX11_retreat_49 : decode cX11_retreat 49 = .ok (.iload_n 1, 1) := by decide +kernel
theorem dX11_retreat_50 : decode cX11_retreat 50 = .ok (.iaload, 1) := by decide +kernel
theorem dX11_retreat_51 : decode cX11_retreat 51 = .ok (.ldc 234, 2) := by decide +kernel
theorem dX11_retreat_53 : decode cX11_retreat 53 = .ok (.if_icmp .ne 5, 3) := by decide +kernel
theorem dX11_retreat_56 : decode cX11_retreat 56 = .ok (.iconst (-1), 1) := by decide +kernel
theorem dX11_retreat_57 : decode cX11_retreat 57 = .ok (.ireturn, 1) := by decide +kernel
theorem dX11_retreat_58 : decode cX11_retreat 58 = .ok (.iload_n 3, 1) := by decide +kernel
theorem dX11_retreat_59 : decode cX11_retreat 59 = .ok (.iconst (-1), 1) := by decide +kernel
theorem dX11_retreat_60 : decode cX11_retreat 60 = .ok (.if_icmp .ne 15, 3) := by decide +kernel
theorem dX11_retreat_63 : decode cX11_retreat 63 = .ok (.aload_n 0, 1) := by decide +kernel
theorem dX11_retreat_64 : decode cX11_retreat 64 = .ok (.getfield 10, 3) := by decide +kernel
theorem dX11_retreat_67 : decode cX11_retreat 67 = .ok (.getfield 231, 3) := by decide +kernel
theorem dX11_retreat_70 : decode cX11_retreat 70 = .ok (.iload_n 1, 1) := by decide +kernel
theorem dX11_retreat_71 : decode cX11_retreat 71 = .ok (.iaload, 1) := by decide +kernel
theorem dX11_retreat_72 : decode cX11_retreat 72 = .ok (.goto 13, 3) := by decide +kernel
theorem dX11_retreat_75 : decode cX11_retreat 75 = .ok (.aload_n 0, 1) := by decide +kernel
theorem dX11_retreat_76 : decode cX11_retreat 76 = .ok (.getfield 10, 3) := by decide +kernel
theorem dX11_retreat_79 : decode cX11_retreat 79 = .ok (.iload_n 1, 1) := by decide +kernel
theorem dX11_retreat_80 : decode cX11_retreat 80 = .ok (.iload_n 2, 1) := by decide +kernel
theorem dX11_retreat_81 : decode cX11_retreat 81 = .ok (.iload_n 3, 1) := by decide +kernel
theorem dX11_retreat_82 : decode cX11_retreat 82 = .ok (.invokevirtual 235, 3) := by decide +kernel
theorem dX11_retreat_85 : decode cX11_retreat 85 = .ok (.ireturn, 1) := by decide +kernel
theorem dX11_isEntry_0 : decode cX11_isEntry 0 = .ok (.iload_n 0, 1) := by decide +kernel
theorem dX11_isEntry_1 : decode cX11_isEntry 1 = .ok (.bipush (-99), 2) := by decide +kernel
theorem dX11_isEntry_3 : decode cX11_isEntry 3 = .ok (.bipush 99, 2) := by decide +kernel
theorem dX11_isEntry_5 : decode cX11_isEntry 5 = .ok (.invokestatic 122, 3) := by decide +kernel
theorem dX11_isEntry_8 : decode cX11_isEntry 8 = .ok (.ireturn, 1) := by decide +kernel
theorem dX11_pureRest_0 : decode cX11_pureRest 0 = .ok (.iload_n 2, 1) := by decide +kernel
theorem dX11_pureRest_1 : decode cX11_pureRest 1 = .ok (.ifCond .ne 7, 3) := by decide +kernel
theorem dX11_pureRest_4 : decode cX11_pureRest 4 = .ok (.iload_n 0, 1) := by decide +kernel
theorem dX11_pureRest_5 : decode cX11_pureRest 5 = .ok (.goto 13, 3) := by decide +kernel
theorem dX11_pureRest_8 : decode cX11_pureRest 8 = .ok (.iload_n 2, 1) := by decide +kernel
theorem dX11_pureRest_9 : decode cX11_pureRest 9 = .ok (.iconst 2, 1) := by decide +kernel
theorem dX11_pureRest_10 : decode cX11_pureRest 10 = .ok (.if_icmp .ne 7, 3) := by decide +kernel
theorem dX11_pureRest_13 : decode cX11_pureRest 13 = .ok (.iload_n 1, 1) := by decide +kernel
theorem dX11_pureRest_14 : decode cX11_pureRest 14 = .ok (.goto 4, 3) := by decide +kernel
theorem dX11_pureRest_17 : decode cX11_pureRest 17 = .ok (.iconst 1, 1) := by decide +kernel
theorem dX11_pureRest_18 : decode cX11_pureRest 18 = .ok (.ireturn, 1) := by decide +kernel
theorem dX11_commonDivisor_0 : decode cX11_commonDivisor 0 = .ok (.iload_n 0, 1) := by decide +kernel
theorem dX11_commonDivisor_1 : decode cX11_commonDivisor 1 = .ok (.istore_n 2, 1) := by decide +kernel
theorem dX11_commonDivisor_2 : decode cX11_commonDivisor 2 = .ok (.iload_n 1, 1) := by decide +kernel
theorem dX11_commonDivisor_3 : decode cX11_commonDivisor 3 = .ok (.istore_n 3, 1) := by decide +kernel
theorem dX11_commonDivisor_4 : decode cX11_commonDivisor 4 = .ok (.iconst 0, 1) := by decide +kernel
theorem dX11_commonDivisor_5 : decode cX11_commonDivisor 5 = .ok (.istore 4, 2) := by decide +kernel
theorem dX11_commonDivisor_7 : decode cX11_commonDivisor 7 = .ok (.iload_n 3, 1) := by decide +kernel
theorem dX11_commonDivisor_8 : decode cX11_commonDivisor 8 = .ok (.ifCond .eq 26, 3) := by decide +kernel
theorem dX11_commonDivisor_11 : decode cX11_commonDivisor 11 = .ok (.iload 4, 2) := by decide +kernel
theorem dX11_commonDivisor_13 : decode cX11_commonDivisor 13 = .ok (.bipush 100, 2) := by decide +kernel
theorem dX11_commonDivisor_15 : decode cX11_commonDivisor 15 = .ok (.if_icmp .ge 19, 3) := by decide +kernel
theorem dX11_commonDivisor_18 : decode cX11_commonDivisor 18 = .ok (.iload_n 2, 1) := by decide +kernel
theorem dX11_commonDivisor_19 : decode cX11_commonDivisor 19 = .ok (.iload_n 3, 1) := by decide +kernel
theorem dX11_commonDivisor_20 : decode cX11_commonDivisor 20 = .ok (.irem, 1) := by decide +kernel
theorem dX11_commonDivisor_21 : decode cX11_commonDivisor 21 = .ok (.istore 5, 2) := by decide +kernel
theorem dX11_commonDivisor_23 : decode cX11_commonDivisor 23 = .ok (.iload_n 3, 1) := by decide +kernel
theorem dX11_commonDivisor_24 : decode cX11_commonDivisor 24 = .ok (.istore_n 2, 1) := by decide +kernel
theorem dX11_commonDivisor_25 : decode cX11_commonDivisor 25 = .ok (.iload 5, 2) := by decide +kernel
theorem dX11_commonDivisor_27 : decode cX11_commonDivisor 27 = .ok (.istore_n 3, 1) := by decide +kernel
theorem dX11_commonDivisor_28 : decode cX11_commonDivisor 28 = .ok (.iinc 4 1, 3) := by decide +kernel
theorem dX11_commonDivisor_31 : decode cX11_commonDivisor 31 = .ok (.goto (-24), 3) := by decide +kernel
theorem dX11_commonDivisor_34 : decode cX11_commonDivisor 34 = .ok (.iload_n 2, 1) := by decide +kernel
theorem dX11_commonDivisor_35 : decode cX11_commonDivisor 35 = .ok (.ireturn, 1) := by decide +kernel
theorem dX11_fraction_0 : decode cX11_fraction 0 = .ok (.iload_n 0, 1) := by decide +kernel
theorem dX11_fraction_1 : decode cX11_fraction 1 = .ok (.invokestatic 332, 3) := by decide +kernel
theorem dX11_fraction_4 : decode cX11_fraction 4 = .ok (.iload_n 1, 1) := by decide +kernel
theorem dX11_fraction_5 : decode cX11_fraction 5 = .ok (.invokestatic 332, 3) := by decide +kernel
theorem dX11_fraction_8 : decode cX11_fraction 8 = .ok (.invokestatic 337, 3) := by decide +kernel
theorem dX11_fraction_11 : decode cX11_fraction 11 = .ok (.istore_n 3, 1) := by decide +kernel
theorem dX11_fraction_12 : decode cX11_fraction 12 = .ok (.iload_n 3, 1) := by decide +kernel
theorem dX11_fraction_13 : decode cX11_fraction 13 = .ok (.ifCond .ne 6, 3) := by decide +kernel
theorem dX11_fraction_16 : decode cX11_fraction 16 = .ok (.ldc 241, 2) := by decide +kernel
theorem dX11_fraction_18 : decode cX11_fraction 18 = .ok (.ireturn, 1) := by decide +kernel
theorem dX11_fraction_19 : decode cX11_fraction 19 = .ok (.iload_n 1, 1) := by decide +kernel
theorem dX11_fraction_20 : decode cX11_fraction 20 = .ok (.ifCond .ge 8, 3) := by decide +kernel
theorem dX11_fraction_23 : decode cX11_fraction 23 = .ok (.iload_n 3, 1) := by decide +kernel
theorem dX11_fraction_24 : decode cX11_fraction 24 = .ok (.ineg, 1) := by decide +kernel
theorem dX11_fraction_25 : decode cX11_fraction 25 = .ok (.goto 4, 3) := by decide +kernel
theorem dX11_fraction_28 : decode cX11_fraction 28 = .ok (.iload_n 3, 1) := by decide +kernel
theorem dX11_fraction_29 : decode cX11_fraction 29 = .ok (.istore 4, 2) := by decide +kernel
theorem dX11_fraction_31 : decode cX11_fraction 31 = .ok (.iload_n 2, 1) := by decide +kernel
theorem dX11_fraction_32 : decode cX11_fraction 32 = .ok (.ifCond .eq 7, 3) := by decide +kernel
theorem dX11_fraction_35 : decode cX11_fraction 35 = .ok (.iload_n 1, 1) := by decide +kernel
theorem dX11_fraction_36 : decode cX11_fraction 36 = .ok (.goto 4, 3) := by decide +kernel
theorem dX11_fraction_39 : decode cX11_fraction 39 = .ok (.iload_n 0, 1) := by decide +kernel
theorem dX11_fraction_40 : decode cX11_fraction 40 = .ok (.iload 4, 2) := by decide +kernel
theorem dX11_fraction_42 : decode cX11_fraction 42 = .ok (.idiv, 1) := by decide +kernel
theorem dX11_fraction_43 : decode cX11_fraction 43 = .ok (.ireturn, 1) := by decide +kernel
theorem dX11_game_0 : decode cX11_game 0 = .ok (.iload_n 1, 1) := by decide +kernel
theorem dX11_game_1 : decode cX11_game 1 = .ok (.invokestatic 238, 3) := by decide +kernel
theorem dX11_game_4 : decode cX11_game 4 = .ok (.ifCond .eq 35, 3) := by decide +kernel
theorem dX11_game_7 : decode cX11_game 7 = .ok (.iload_n 2, 1) := by decide +kernel
theorem dX11_game_8 : decode cX11_game 8 = .ok (.invokestatic 238, 3) := by decide +kernel
theorem dX11_game_11 : decode cX11_game 11 = .ok (.ifCond .eq 28, 3) := by decide +kernel
theorem dX11_game_14 : decode cX11_game 14 = .ok (.iload_n 3, 1) := by decide +kernel
theorem dX11_game_15 : decode cX11_game 15 = .ok (.invokestatic 238, 3) := by decide +kernel
theorem dX11_game_18 : decode cX11_game 18 = .ok (.ifCond .eq 21, 3) := by decide +kernel
theorem dX11_game_21 : decode cX11_game 21 = .ok (.iload 4, 2) := by decide +kernel
theorem dX11_game_23 : decode cX11_game 23 = .ok (.invokestatic 238, 3) := by decide +kernel
theorem dX11_game_26 : decode cX11_game 26 = .ok (.ifCond .eq 13, 3) := by decide +kernel
theorem dX11_game_29 : decode cX11_game 29 = .ok (.iload 5, 2) := by decide +kernel
theorem dX11_game_31 : decode cX11_game 31 = .ok (.iconst 0, 1) := by decide +kernel
theorem dX11_game_32 : decode cX11_game 32 = .ok (.iconst 3, 1) := by decide +kernel
theorem dX11_game_33 : decode cX11_game 33 = .ok (.invokestatic 122, 3) := by decide +kernel
theorem dX11_game_36 : decode cX11_game 36 = .ok (.ifCond .ne 6, 3) := by decide +kernel
theorem dX11_game_39 : decode cX11_game 39 = .ok (.ldc 241, 2) := by decide +kernel
theorem dX11_game_41 : decode cX11_game 41 = .ok (.ireturn, 1) := by decide +kernel
theorem dX11_game_42 : decode cX11_game 42 = .ok (.iload_n 1, 1) := by decide +kernel
theorem dX11_game_43 : decode cX11_game 43 = .ok (.iload_n 2, 1) := by decide +kernel
theorem dX11_game_44 : decode cX11_game 44 = .ok (.if_icmp .gt 16, 3) := by decide +kernel
theorem dX11_game_47 : decode cX11_game 47 = .ok (.iload_n 1, 1) := by decide +kernel
theorem dX11_game_48 : decode cX11_game 48 = .ok (.iload_n 3, 1) := by decide +kernel
theorem dX11_game_49 : decode cX11_game 49 = .ok (.if_icmp .lt 11, 3) := by decide +kernel
theorem dX11_game_52 : decode cX11_game 52 = .ok (.iconst 1, 1) := by decide +kernel
theorem dX11_game_53 : decode cX11_game 53 = .ok (.iload_n 1, 1) := by decide +kernel
theorem dX11_game_54 : decode cX11_game 54 = .ok (.iload 5, 2) := by decide +kernel
theorem dX11_game_56 : decode cX11_game 56 = .ok (.invokestatic 242, 3) := by decide +kernel
theorem dX11_game_59 : decode cX11_game 59 = .ok (.ireturn, 1) := by decide +kernel
theorem dX11_game_60 : decode cX11_game 60 = .ok (.iload_n 2, 1) := by decide +kernel
theorem dX11_game_61 : decode cX11_game 61 = .ok (.iload_n 1, 1) := by decide +kernel
theorem dX11_game_62 : decode cX11_game 62 = .ok (.if_icmp .gt 17, 3) := by decide +kernel
theorem dX11_game_65 : decode cX11_game 65 = .ok (.iload_n 2, 1) := by decide +kernel
theorem dX11_game_66 : decode cX11_game 66 = .ok (.iload 4, 2) := by decide +kernel
theorem dX11_game_68 : decode cX11_game 68 = .ok (.if_icmp .lt 11, 3) := by decide +kernel
theorem dX11_game_71 : decode cX11_game 71 = .ok (.iconst 1, 1) := by decide +kernel
theorem dX11_game_72 : decode cX11_game 72 = .ok (.iload_n 2, 1) := by decide +kernel
theorem dX11_game_73 : decode cX11_game 73 = .ok (.iload 5, 2) := by decide +kernel
theorem dX11_game_75 : decode cX11_game 75 = .ok (.invokestatic 242, 3) := by decide +kernel
theorem dX11_game_78 : decode cX11_game 78 = .ok (.ireturn, 1) := by decide +kernel
theorem dX11_game_79 : decode cX11_game 79 = .ok (.iload_n 3, 1) := by decide +kernel
theorem dX11_game_80 : decode cX11_game 80 = .ok (.iload 4, 2) := by decide +kernel
theorem dX11_game_82 : decode cX11_game 82 = .ok (.if_icmp .gt 16, 3) := by decide +kernel
theorem dX11_game_85 : decode cX11_game 85 = .ok (.iload_n 3, 1) := by decide +kernel
theorem dX11_game_86 : decode cX11_game 86 = .ok (.iload_n 1, 1) := by decide +kernel
theorem dX11_game_87 : decode cX11_game 87 = .ok (.if_icmp .lt 11, 3) := by decide +kernel
theorem dX11_game_90 : decode cX11_game 90 = .ok (.iconst 0, 1) := by decide +kernel
theorem dX11_game_91 : decode cX11_game 91 = .ok (.iload_n 3, 1) := by decide +kernel
theorem dX11_game_92 : decode cX11_game 92 = .ok (.iload 5, 2) := by decide +kernel
theorem dX11_game_94 : decode cX11_game 94 = .ok (.invokestatic 242, 3) := by decide +kernel
theorem dX11_game_97 : decode cX11_game 97 = .ok (.ireturn, 1) := by decide +kernel
theorem dX11_game_98 : decode cX11_game 98 = .ok (.iload 4, 2) := by decide +kernel
theorem dX11_game_100 : decode cX11_game 100 = .ok (.iload_n 3, 1) := by decide +kernel
theorem dX11_game_101 : decode cX11_game 101 = .ok (.if_icmp .gt 18, 3) := by decide +kernel
theorem dX11_game_104 : decode cX11_game 104 = .ok (.iload 4, 2) := by decide +kernel
theorem dX11_game_106 : decode cX11_game 106 = .ok (.iload_n 2, 1) := by decide +kernel
theorem dX11_game_107 : decode cX11_game 107 = .ok (.if_icmp .lt 12, 3) := by decide +kernel
theorem dX11_game_110 : decode cX11_game 110 = .ok (.iconst 0, 1) := by decide +kernel
theorem dX11_game_111 : decode cX11_game 111 = .ok (.iload 4, 2) := by decide +kernel
theorem dX11_game_113 : decode cX11_game 113 = .ok (.iload 5, 2) := by decide +kernel
theorem dX11_game_115 : decode cX11_game 115 = .ok (.invokestatic 242, 3) := by decide +kernel
theorem dX11_game_118 : decode cX11_game 118 = .ok (.ireturn, 1) := by decide +kernel
theorem dX11_game_119 : decode cX11_game 119 = .ok (.iload 5, 2) := by decide +kernel
theorem dX11_game_121 : decode cX11_game 121 = .ok (.iconst 1, 1) := by decide +kernel
theorem dX11_game_122 : decode cX11_game 122 = .ok (.if_icmp .gt 10, 3) := by decide +kernel
theorem dX11_game_125 : decode cX11_game 125 = .ok (.iload 4, 2) := by decide +kernel
theorem dX11_game_127 : decode cX11_game 127 = .ok (.iload_n 3, 1) := by decide +kernel
theorem dX11_game_128 : decode cX11_game 128 = .ok (.isub, 1) := by decide +kernel
theorem dX11_game_129 : decode cX11_game 129 = .ok (.goto 11, 3) := by decide +kernel
theorem dX11_game_132 : decode cX11_game 132 = .ok (.iload_n 1, 1) := by decide +kernel
theorem dX11_game_133 : decode cX11_game 133 = .ok (.iload 4, 2) := by decide +kernel
theorem dX11_game_135 : decode cX11_game 135 = .ok (.imul, 1) := by decide +kernel
theorem dX11_game_136 : decode cX11_game 136 = .ok (.iload_n 2, 1) := by decide +kernel
theorem dX11_game_137 : decode cX11_game 137 = .ok (.iload_n 3, 1) := by decide +kernel
theorem dX11_game_138 : decode cX11_game 138 = .ok (.imul, 1) := by decide +kernel
theorem dX11_game_139 : decode cX11_game 139 = .ok (.isub, 1) := by decide +kernel
theorem dX11_game_140 : decode cX11_game 140 = .ok (.istore 6, 2) := by decide +kernel
theorem dX11_game_142 : decode cX11_game 142 = .ok (.iload 6, 2) := by decide +kernel
theorem dX11_game_144 : decode cX11_game 144 = .ok (.iload_n 1, 1) := by decide +kernel
theorem dX11_game_145 : decode cX11_game 145 = .ok (.iload_n 2, 1) := by decide +kernel
theorem dX11_game_146 : decode cX11_game 146 = .ok (.isub, 1) := by decide +kernel
theorem dX11_game_147 : decode cX11_game 147 = .ok (.iload 4, 2) := by decide +kernel
theorem dX11_game_149 : decode cX11_game 149 = .ok (.iadd, 1) := by decide +kernel
theorem dX11_game_150 : decode cX11_game 150 = .ok (.iload_n 3, 1) := by decide +kernel
theorem dX11_game_151 : decode cX11_game 151 = .ok (.isub, 1) := by decide +kernel
theorem dX11_game_152 : decode cX11_game 152 = .ok (.iload 5, 2) := by decide +kernel
theorem dX11_game_154 : decode cX11_game 154 = .ok (.iconst 1, 1) := by decide +kernel
theorem dX11_game_155 : decode cX11_game 155 = .ok (.iand, 1) := by decide +kernel
theorem dX11_game_156 : decode cX11_game 156 = .ok (.iconst 1, 1) := by decide +kernel
theorem dX11_game_157 : decode cX11_game 157 = .ok (.if_icmp .ne 7, 3) := by decide +kernel
theorem dX11_game_160 : decode cX11_game 160 = .ok (.iconst 1, 1) := by decide +kernel
theorem dX11_game_161 : decode cX11_game 161 = .ok (.goto 4, 3) := by decide +kernel
theorem dX11_game_164 : decode cX11_game 164 = .ok (.iconst 0, 1) := by decide +kernel
theorem dX11_game_165 : decode cX11_game 165 = .ok (.invokestatic 245, 3) := by decide +kernel
theorem dX11_game_168 : decode cX11_game 168 = .ok (.ireturn, 1) := by decide +kernel
theorem dX1_add_0 : decode cX1_add 0 = .ok (.aload_n 0, 1) := by decide +kernel
theorem dX1_add_1 : decode cX1_add 1 = .ok (.getfield 30, 3) := by decide +kernel
theorem dX1_add_4 : decode cX1_add 4 = .ok (.bipush 8, 2) := by decide +kernel
theorem dX1_add_6 : decode cX1_add 6 = .ok (.if_icmp .lt 6, 3) := by decide +kernel
theorem dX1_add_9 : decode cX1_add 9 = .ok (.bipush (-5), 2) := by decide +kernel
theorem dX1_add_11 : decode cX1_add 11 = .ok (.ireturn, 1) := by decide +kernel
theorem dX1_add_12 : decode cX1_add 12 = .ok (.aload_n 0, 1) := by decide +kernel
theorem dX1_add_13 : decode cX1_add 13 = .ok (.getfield 11, 3) := by decide +kernel
theorem dX1_add_16 : decode cX1_add 16 = .ok (.aload_n 0, 1) := by decide +kernel
theorem dX1_add_17 : decode cX1_add 17 = .ok (.getfield 30, 3) := by decide +kernel
theorem dX1_add_20 : decode cX1_add 20 = .ok (.iload_n 1, 1) := by decide +kernel
theorem dX1_add_21 : decode cX1_add 21 = .ok (.iastore, 1) := by decide +kernel
theorem dX1_add_22 : decode cX1_add 22 = .ok (.aload_n 0, 1) := by decide +kernel
theorem dX1_add_23 : decode cX1_add 23 = .ok (.getfield 15, 3) := by decide +kernel
theorem dX1_add_26 : decode cX1_add 26 = .ok (.aload_n 0, 1) := by decide +kernel
theorem dX1_add_27 : decode cX1_add 27 = .ok (.getfield 30, 3) := by decide +kernel
theorem dX1_add_30 : decode cX1_add 30 = .ok (.iload_n 2, 1) := by decide +kernel
theorem dX1_add_31 : decode cX1_add 31 = .ok (.iastore, 1) := by decide +kernel
theorem dX1_add_32 : decode cX1_add 32 = .ok (.aload_n 0, 1) := by decide +kernel
theorem dX1_add_33 : decode cX1_add 33 = .ok (.getfield 18, 3) := by decide +kernel
theorem dX1_add_36 : decode cX1_add 36 = .ok (.aload_n 0, 1) := by decide +kernel
theorem dX1_add_37 : decode cX1_add 37 = .ok (.getfield 30, 3) := by decide +kernel
theorem dX1_add_40 : decode cX1_add 40 = .ok (.iload_n 3, 1) := by decide +kernel
theorem dX1_add_41 : decode cX1_add 41 = .ok (.iastore, 1) := by decide +kernel
theorem dX1_add_42 : decode cX1_add 42 = .ok (.aload_n 0, 1) := by decide +kernel
theorem dX1_add_43 : decode cX1_add 43 = .ok (.dup, 1) := by decide +kernel
theorem dX1_add_44 : decode cX1_add 44 = .ok (.getfield 30, 3) := by decide +kernel
theorem dX1_add_47 : decode cX1_add 47 = .ok (.iconst 1, 1) := by decide +kernel
theorem dX1_add_48 : decode cX1_add 48 = .ok (.iadd, 1) := by decide +kernel
theorem dX1_add_49 : decode cX1_add 49 = .ok (.putfield 30, 3) := by decide +kernel
theorem dX1_add_52 : decode cX1_add 52 = .ok (.aload_n 0, 1) := by decide +kernel
theorem dX1_add_53 : decode cX1_add 53 = .ok (.getfield 30, 3) := by decide +kernel
theorem dX1_add_56 : decode cX1_add 56 = .ok (.iconst 1, 1) := by decide +kernel
theorem dX1_add_57 : decode cX1_add 57 = .ok (.isub, 1) := by decide +kernel
theorem dX1_add_58 : decode cX1_add 58 = .ok (.ireturn, 1) := by decide +kernel
theorem dX11_siege_0 : decode cX11_siege 0 = .ok (.iload_n 1, 1) := by decide +kernel
theorem dX11_siege_1 : decode cX11_siege 1 = .ok (.iconst 0, 1) := by decide +kernel
theorem dX11_siege_2 : decode cX11_siege 2 = .ok (.bipush 99, 2) := by decide +kernel
theorem dX11_siege_4 : decode cX11_siege 4 = .ok (.invokestatic 122, 3) := by decide +kernel
theorem dX11_siege_7 : decode cX11_siege 7 = .ok (.ifCond .eq 24, 3) := by decide +kernel
theorem dX11_siege_10 : decode cX11_siege 10 = .ok (.iload_n 2, 1) := by decide +kernel
theorem dX11_siege_11 : decode cX11_siege 11 = .ok (.iconst 0, 1) := by decide +kernel
theorem dX11_siege_12 : decode cX11_siege 12 = .ok (.bipush 10, 2) := by decide +kernel
theorem dX11_siege_14 : decode cX11_siege 14 = .ok (.invokestatic 122, 3) := by decide +kernel
theorem dX11_siege_17 : decode cX11_siege 17 = .ok (.ifCond .eq 14, 3) := by decide +kernel
theorem dX11_siege_20 : decode cX11_siege 20 = .ok (.iload_n 3, 1) := by decide +kernel
theorem dX11_siege_21 : decode cX11_siege 21 = .ok (.iconst 0, 1) := by decide +kernel
theorem dX11_siege_22 : decode cX11_siege 22 = .ok (.sipush 999, 3) := by decide +kernel
theorem dX11_siege_25 : decode cX11_siege 25 = .ok (.invokestatic 122, 3) := by decide +kernel
theorem dX11_siege_28 : decode cX11_siege 28 = .ok (.ifCond .ne 9, 3) := by decide +kernel
theorem dX11_siege_31 : decode cX11_siege 31 = .ok (.aload_n 0, 1) := by decide +kernel
theorem dX11_siege_32 : decode cX11_siege 32 = .ok (.iconst (-1), 1) := by decide +kernel
theorem dX11_siege_33 : decode cX11_siege 33 = .ok (.invokevirtual 126, 3) := by decide +kernel
theorem dX11_siege_36 : decode cX11_siege 36 = .ok (.ireturn, 1) := by decide +kernel
theorem dX11_siege_37 : decode cX11_siege 37 = .ok (.aload_n 0, 1) := by decide +kernel
theorem dX11_siege_38 : decode cX11_siege 38 = .ok (.aload_n 0, 1) := by decide +kernel
theorem dX11_siege_39 : decode cX11_siege 39 = .ok (.getfield 10, 3) := by decide +kernel
theorem dX11_siege_42 : decode cX11_siege 42 = .ok (.getfield 251, 3) := by decide +kernel
theorem dX11_siege_45 : decode cX11_siege 45 = .ok (.iload_n 1, 1) := by decide +kernel
theorem dX11_siege_46 : decode cX11_siege 46 = .ok (.iload_n 2, 1) := by decide +kernel
theorem dX11_siege_47 : decode cX11_siege 47 = .ok (.iload_n 3, 1) := by decide +kernel
theorem dX11_siege_48 : decode cX11_siege 48 = .ok (.invokevirtual 255, 3) := by decide +kernel
theorem dX11_siege_51 : decode cX11_siege 51 = .ok (.invokevirtual 93, 3) := by decide +kernel
theorem dX11_siege_54 : decode cX11_siege 54 = .ok (.ireturn, 1) := by decide +kernel
theorem dJ7_rangeCheck_23922_0 : decode cJ7_rangeCheck_23922 0 = .ok (.iload_n 1, 1) := by decide +kernel
theorem dJ7_rangeCheck_23922_1 : decode cJ7_rangeCheck_23922 1 = .ok (.iload_n 2, 1) := by decide +kernel
theorem dJ7_rangeCheck_23922_2 : decode cJ7_rangeCheck_23922 2 = .ok (.if_icmp .le 44, 3) := by decide +kernel
theorem dJ7_rangeCheck_23922_5 : decode cJ7_rangeCheck_23922 5 = .ok (.new 43, 3) := by decide +kernel
theorem dJ7_rangeCheck_23922_8 : decode cJ7_rangeCheck_23922 8 = .ok (.dup, 1) := by decide +kernel
theorem dJ7_rangeCheck_23922_9 : decode cJ7_rangeCheck_23922 9 = .ok (.new 45, 3) := by decide +kernel
theorem dJ7_rangeCheck_23922_12 : decode cJ7_rangeCheck_23922 12 = .ok (.dup, 1) := by decide +kernel
theorem dJ7_rangeCheck_23922_13 : decode cJ7_rangeCheck_23922 13 = .ok (.invokespecial 47, 3) := by decide +kernel
theorem dJ7_rangeCheck_23922_16 : decode cJ7_rangeCheck_23922 16 = .ok (.ldc 48, 2) := by decide +kernel
theorem dJ7_rangeCheck_23922_18 : decode cJ7_rangeCheck_23922 18 = .ok (.invokevirtual 50, 3) := by decide +kernel
theorem dJ7_rangeCheck_23922_21 : decode cJ7_rangeCheck_23922 21 = .ok (.iload_n 1, 1) := by decide +kernel
theorem dJ7_rangeCheck_23922_22 : decode cJ7_rangeCheck_23922 22 = .ok (.invokevirtual 54, 3) := by decide +kernel
theorem dJ7_rangeCheck_23922_25 : decode cJ7_rangeCheck_23922 25 = .ok (.ldc 57, 2) := by decide +kernel
theorem dJ7_rangeCheck_23922_27 : decode cJ7_rangeCheck_23922 27 = .ok (.invokevirtual 50, 3) := by decide +kernel
theorem dJ7_rangeCheck_23922_30 : decode cJ7_rangeCheck_23922 30 = .ok (.iload_n 2, 1) := by decide +kernel
theorem dJ7_rangeCheck_23922_31 : decode cJ7_rangeCheck_23922 31 = .ok (.invokevirtual 54, 3) := by decide +kernel
theorem dJ7_rangeCheck_23922_34 : decode cJ7_rangeCheck_23922 34 = .ok (.ldc 59, 2) := by decide +kernel
theorem dJ7_rangeCheck_23922_36 : decode cJ7_rangeCheck_23922 36 = .ok (.invokevirtual 50, 3) := by decide +kernel
theorem dJ7_rangeCheck_23922_39 : decode cJ7_rangeCheck_23922 39 = .ok (.invokevirtual 61, 3) := by decide +kernel
theorem dJ7_rangeCheck_23922_42 : decode cJ7_rangeCheck_23922 42 = .ok (.invokespecial 65, 3) := by decide +kernel
theorem dJ7_rangeCheck_23922_45 : decode cJ7_rangeCheck_23922 45 = .ok (.athrow, 1) := by decide +kernel
theorem dJ7_rangeCheck_23922_46 : decode cJ7_rangeCheck_23922 46 = .ok (.iload_n 1, 1) := by decide +kernel
theorem dJ7_rangeCheck_23922_47 : decode cJ7_rangeCheck_23922 47 = .ok (.ifCond .ge 12, 3) := by decide +kernel
theorem dJ7_rangeCheck_23922_50 : decode cJ7_rangeCheck_23922 50 = .ok (.new 68, 3) := by decide +kernel
theorem dJ7_rangeCheck_23922_53 : decode cJ7_rangeCheck_23922 53 = .ok (.dup, 1) := by decide +kernel
theorem dJ7_rangeCheck_23922_54 : decode cJ7_rangeCheck_23922 54 = .ok (.iload_n 1, 1) := by decide +kernel
theorem dJ7_rangeCheck_23922_55 : decode cJ7_rangeCheck_23922 55 = .ok (.invokespecial 70, 3) := by decide +kernel
theorem dJ7_rangeCheck_23922_58 : decode cJ7_rangeCheck_23922 58 = .ok (.athrow, 1) := by decide +kernel
theorem dJ7_rangeCheck_23922_59 : decode cJ7_rangeCheck_23922 59 = .ok (.iload_n 2, 1) := by decide +kernel
theorem dJ7_rangeCheck_23922_60 : decode cJ7_rangeCheck_23922 60 = .ok (.iload_n 0, 1) := by decide +kernel
theorem dJ7_rangeCheck_23922_61 : decode cJ7_rangeCheck_23922 61 = .ok (.if_icmp .le 12, 3) := by decide +kernel
theorem dJ7_rangeCheck_23922_64 : decode cJ7_rangeCheck_23922 64 = .ok (.new 68, 3) := by decide +kernel
theorem dJ7_rangeCheck_23922_67 : decode cJ7_rangeCheck_23922 67 = .ok (.dup, 1) := by decide +kernel
theorem dJ7_rangeCheck_23922_68 : decode cJ7_rangeCheck_23922 68 = .ok (.iload_n 2, 1) := by decide +kernel
theorem dJ7_rangeCheck_23922_69 : decode cJ7_rangeCheck_23922 69 = .ok (.invokespecial 70, 3) := by decide +kernel
theorem dJ7_rangeCheck_23922_72 : decode cJ7_rangeCheck_23922 72 = .ok (.athrow, 1) := by decide +kernel
theorem dJ7_rangeCheck_23922_73 : decode cJ7_rangeCheck_23922 73 = .ok (.return_, 1) := by decide +kernel
theorem dJ7_fill_fda19_0 : decode cJ7_fill_fda19 0 = .ok (.aload_n 0, 1) := by decide +kernel
theorem dJ7_fill_fda19_1 : decode cJ7_fill_fda19 1 = .ok (.arraylength, 1) := by decide +kernel
theorem dJ7_fill_fda19_2 : decode cJ7_fill_fda19 2 = .ok (.iload_n 1, 1) := by decide +kernel
theorem dJ7_fill_fda19_3 : decode cJ7_fill_fda19 3 = .ok (.iload_n 2, 1) := by decide +kernel
theorem dJ7_fill_fda19_4 : decode cJ7_fill_fda19 4 = .ok (.invokestatic 13, 3) := by decide +kernel
theorem dJ7_fill_fda19_7 : decode cJ7_fill_fda19 7 = .ok (.iload_n 1, 1) := by decide +kernel
theorem dJ7_fill_fda19_8 : decode cJ7_fill_fda19 8 = .ok (.istore 4, 2) := by decide +kernel
theorem dJ7_fill_fda19_10 : decode cJ7_fill_fda19 10 = .ok (.iload 4, 2) := by decide +kernel
theorem dJ7_fill_fda19_12 : decode cJ7_fill_fda19 12 = .ok (.iload_n 2, 1) := by decide +kernel
theorem dJ7_fill_fda19_13 : decode cJ7_fill_fda19 13 = .ok (.if_icmp .ge 14, 3) := by decide +kernel
theorem dJ7_fill_fda19_16 : decode cJ7_fill_fda19 16 = .ok (.aload_n 0, 1) := by decide +kernel
theorem dJ7_fill_fda19_17 : decode cJ7_fill_fda19 17 = .ok (.iload 4, 2) := by decide +kernel
theorem dJ7_fill_fda19_19 : decode cJ7_fill_fda19 19 = .ok (.iload_n 3, 1) := by decide +kernel
theorem dJ7_fill_fda19_20 : decode cJ7_fill_fda19 20 = .ok (.iastore, 1) := by decide +kernel
theorem dJ7_fill_fda19_21 : decode cJ7_fill_fda19 21 = .ok (.iinc 4 1, 3) := by decide +kernel
theorem dJ7_fill_fda19_24 : decode cJ7_fill_fda19 24 = .ok (.goto (-14), 3) := by decide +kernel
theorem dJ7_fill_fda19_27 : decode cJ7_fill_fda19 27 = .ok (.return_, 1) := by decide +kernel
theorem dX1_carefully_0 : decode cX1_carefully 0 = .ok (.aload_n 0, 1) := by decide +kernel
theorem dX1_carefully_1 : decode cX1_carefully 1 = .ok (.getfield 21, 3) := by decide +kernel
theorem dX1_carefully_4 : decode cX1_carefully 4 = .ok (.iload_n 1, 1) := by decide +kernel
theorem dX1_carefully_5 : decode cX1_carefully 5 = .ok (.iconst 1, 1) := by decide +kernel
theorem dX1_carefully_6 : decode cX1_carefully 6 = .ok (.iadd, 1) := by decide +kernel
theorem dX1_carefully_7 : decode cX1_carefully 7 = .ok (.bipush 11, 2) := by decide +kernel
theorem dX1_carefully_9 : decode cX1_carefully 9 = .ok (.imul, 1) := by decide +kernel
theorem dX1_carefully_10 : decode cX1_carefully 10 = .ok (.iload_n 2, 1) := by decide +kernel
theorem dX1_carefully_11 : decode cX1_carefully 11 = .ok (.iconst 1, 1) := by decide +kernel
theorem dX1_carefully_12 : decode cX1_carefully 12 = .ok (.iadd, 1) := by decide +kernel
theorem dX1_carefully_13 : decode cX1_carefully 13 = .ok (.bipush 10, 2) := by decide +kernel
theorem dX1_carefully_15 : decode cX1_carefully 15 = .ok (.invokestatic 52, 3) := by decide +kernel
theorem dX1_carefully_18 : decode cX1_carefully 18 = .ok (.iadd, 1) := by decide +kernel
theorem dX1_carefully_19 : decode cX1_carefully 19 = .ok (.iaload, 1) := by decide +kernel
theorem dX1_carefully_20 : decode cX1_carefully 20 = .ok (.aload_n 0, 1) := by decide +kernel
theorem dX1_carefully_21 : decode cX1_carefully 21 = .ok (.getfield 11, 3) := by decide +kernel
theorem dX1_carefully_24 : decode cX1_carefully 24 = .ok (.iload_n 1, 1) := by decide +kernel
theorem dX1_carefully_25 : decode cX1_carefully 25 = .ok (.iaload, 1) := by decide +kernel
theorem dX1_carefully_26 : decode cX1_carefully 26 = .ok (.isub, 1) := by decide +kernel
theorem dX1_carefully_27 : decode cX1_carefully 27 = .ok (.ireturn, 1) := by decide +kernel
theorem dX1_boldly_0 : decode cX1_boldly 0 = .ok (.aload_n 0, 1) := by decide +kernel
theorem dX1_boldly_1 : decode cX1_boldly 1 = .ok (.getfield 21, 3) := by decide +kernel
theorem dX1_boldly_4 : decode cX1_boldly 4 = .ok (.iload_n 1, 1) := by decide +kernel
theorem dX1_boldly_5 : decode cX1_boldly 5 = .ok (.iconst 1, 1) := by decide +kernel
theorem dX1_boldly_6 : decode cX1_boldly 6 = .ok (.iadd, 1) := by decide +kernel
theorem dX1_boldly_7 : decode cX1_boldly 7 = .ok (.bipush 11, 2) := by decide +kernel
theorem dX1_boldly_9 : decode cX1_boldly 9 = .ok (.imul, 1) := by decide +kernel
theorem dX1_boldly_10 : decode cX1_boldly 10 = .ok (.iaload, 1) := by decide +kernel
theorem dX1_boldly_11 : decode cX1_boldly 11 = .ok (.iload_n 2, 1) := by decide +kernel
theorem dX1_boldly_12 : decode cX1_boldly 12 = .ok (.aload_n 0, 1) := by decide +kernel
theorem dX1_boldly_13 : decode cX1_boldly 13 = .ok (.getfield 15, 3) := by decide +kernel
theorem dX1_boldly_16 : decode cX1_boldly 16 = .ok (.iload_n 1, 1) := by decide +kernel
theorem dX1_boldly_17 : decode cX1_boldly 17 = .ok (.iaload, 1) := by decide +kernel
theorem dX1_boldly_18 : decode cX1_boldly 18 = .ok (.if_icmp .lt 12, 3) := by decide +kernel
theorem dX1_boldly_21 : decode cX1_boldly 21 = .ok (.aload_n 0, 1) := by decide +kernel
theorem dX1_boldly_22 : decode cX1_boldly 22 = .ok (.getfield 18, 3) := by decide +kernel
theorem dX1_boldly_25 : decode cX1_boldly 25 = .ok (.iload_n 1, 1) := by decide +kernel
theorem dX1_boldly_26 : decode cX1_boldly 26 = .ok (.iaload, 1) := by decide +kernel
theorem dX1_boldly_27 : decode cX1_boldly 27 = .ok (.goto 10, 3) := by decide +kernel
theorem dX1_boldly_30 : decode cX1_boldly 30 = .ok (.aload_n 0, 1) := by decide +kernel
theorem dX1_boldly_31 : decode cX1_boldly 31 = .ok (.getfield 18, 3) := by decide +kernel
theorem dX1_boldly_34 : decode cX1_boldly 34 = .ok (.iload_n 1, 1) := by decide +kernel
theorem dX1_boldly_35 : decode cX1_boldly 35 = .ok (.iaload, 1) := by decide +kernel
theorem dX1_boldly_36 : decode cX1_boldly 36 = .ok (.ineg, 1) := by decide +kernel
theorem dX1_boldly_37 : decode cX1_boldly 37 = .ok (.iadd, 1) := by decide +kernel
theorem dX1_boldly_38 : decode cX1_boldly 38 = .ok (.ireturn, 1) := by decide +kernel
theorem dX1_solve_0 : decode cX1_solve 0 = .ok (.aload_n 0, 1) := by decide +kernel
theorem dX1_solve_1 : decode cX1_solve 1 = .ok (.getfield 21, 3) := by decide +kernel
theorem dX1_solve_4 : decode cX1_solve 4 = .ok (.aload_n 0, 1) := by decide +kernel
theorem dX1_solve_5 : decode cX1_solve 5 = .ok (.getfield 30, 3) := by decide +kernel
theorem dX1_solve_8 : decode cX1_solve 8 = .ok (.bipush 11, 2) := by decide +kernel
theorem dX1_solve_10 : decode cX1_solve 10 = .ok (.imul, 1) := by decide +kernel
theorem dX1_solve_11 : decode cX1_solve 11 = .ok (.aload_n 0, 1) := by decide +kernel
theorem dX1_solve_12 : decode cX1_solve 12 = .ok (.getfield 30, 3) := by decide +kernel
theorem dX1_solve_15 : decode cX1_solve 15 = .ok (.iconst 1, 1) := by decide +kernel
theorem dX1_solve_16 : decode cX1_solve 16 = .ok (.iadd, 1) := by decide +kernel
theorem dX1_solve_17 : decode cX1_solve 17 = .ok (.bipush 11, 2) := by decide +kernel
theorem dX1_solve_19 : decode cX1_solve 19 = .ok (.imul, 1) := by decide +kernel
theorem dX1_solve_20 : decode cX1_solve 20 = .ok (.iconst 0, 1) := by decide +kernel
theorem dX1_solve_21 : decode cX1_solve 21 = .ok (.invokestatic 34, 3) := by decide +kernel
theorem dX1_solve_24 : decode cX1_solve 24 = .ok (.aload_n 0, 1) := by decide +kernel
theorem dX1_solve_25 : decode cX1_solve 25 = .ok (.getfield 30, 3) := by decide +kernel
theorem dX1_solve_28 : decode cX1_solve 28 = .ok (.iconst 1, 1) := by decide +kernel
theorem dX1_solve_29 : decode cX1_solve 29 = .ok (.isub, 1) := by decide +kernel
theorem dX1_solve_30 : decode cX1_solve 30 = .ok (.istore_n 1, 1) := by decide +kernel
theorem dX1_solve_31 : decode cX1_solve 31 = .ok (.iload_n 1, 1) := by decide +kernel
theorem dX1_solve_32 : decode cX1_solve 32 = .ok (.ifCond .lt 49, 3) := by decide +kernel
theorem dX1_solve_35 : decode cX1_solve 35 = .ok (.iconst 0, 1) := by decide +kernel
theorem dX1_solve_36 : decode cX1_solve 36 = .ok (.istore_n 2, 1) := by decide +kernel
theorem dX1_solve_37 : decode cX1_solve 37 = .ok (.iload_n 2, 1) := by decide +kernel
theorem dX1_solve_38 : decode cX1_solve 38 = .ok (.bipush 11, 2) := by decide +kernel
theorem dX1_solve_40 : decode cX1_solve 40 = .ok (.if_icmp .ge 35, 3) := by decide +kernel
theorem dX1_solve_43 : decode cX1_solve 43 = .ok (.aload_n 0, 1) := by decide +kernel
theorem dX1_solve_44 : decode cX1_solve 44 = .ok (.getfield 21, 3) := by decide +kernel
theorem dX1_solve_47 : decode cX1_solve 47 = .ok (.iload_n 1, 1) := by decide +kernel
theorem dX1_solve_48 : decode cX1_solve 48 = .ok (.bipush 11, 2) := by decide +kernel
theorem dX1_solve_50 : decode cX1_solve 50 = .ok (.imul, 1) := by decide +kernel
theorem dX1_solve_51 : decode cX1_solve 51 = .ok (.iload_n 2, 1) := by decide +kernel
theorem dX1_solve_52 : decode cX1_solve 52 = .ok (.iadd, 1) := by decide +kernel
theorem dX1_solve_53 : decode cX1_solve 53 = .ok (.aload_n 0, 1) := by decide +kernel
theorem dX1_solve_54 : decode cX1_solve 54 = .ok (.iload_n 1, 1) := by decide +kernel
theorem dX1_solve_55 : decode cX1_solve 55 = .ok (.iload_n 2, 1) := by decide +kernel
theorem dX1_solve_56 : decode cX1_solve 56 = .ok (.invokevirtual 40, 3) := by decide +kernel
theorem dX1_solve_59 : decode cX1_solve 59 = .ok (.aload_n 0, 1) := by decide +kernel
theorem dX1_solve_60 : decode cX1_solve 60 = .ok (.iload_n 1, 1) := by decide +kernel
theorem dX1_solve_61 : decode cX1_solve 61 = .ok (.iload_n 2, 1) := by decide +kernel
theorem dX1_solve_62 : decode cX1_solve 62 = .ok (.invokevirtual 44, 3) := by decide +kernel
theorem dX1_solve_65 : decode cX1_solve 65 = .ok (.invokestatic 47, 3) := by decide +kernel
theorem dX1_solve_68 : decode cX1_solve 68 = .ok (.iastore, 1) := by decide +kernel
theorem dX1_solve_69 : decode cX1_solve 69 = .ok (.iinc 2 1, 3) := by decide +kernel
theorem dX1_solve_72 : decode cX1_solve 72 = .ok (.goto (-35), 3) := by decide +kernel
theorem dX1_solve_75 : decode cX1_solve 75 = .ok (.iinc 1 (-1), 3) := by decide +kernel
theorem dX1_solve_78 : decode cX1_solve 78 = .ok (.goto (-47), 3) := by decide +kernel
theorem dX1_solve_81 : decode cX1_solve 81 = .ok (.return_, 1) := by decide +kernel
theorem dX1_choiceAt_0 : decode cX1_choiceAt 0 = .ok (.iload_n 1, 1) := by decide +kernel
theorem dX1_choiceAt_1 : decode cX1_choiceAt 1 = .ok (.istore_n 3, 1) := by decide +kernel
theorem dX1_choiceAt_2 : decode cX1_choiceAt 2 = .ok (.iconst 0, 1) := by decide +kernel
theorem dX1_choiceAt_3 : decode cX1_choiceAt 3 = .ok (.istore 4, 2) := by decide +kernel
theorem dX1_choiceAt_5 : decode cX1_choiceAt 5 = .ok (.iconst 0, 1) := by decide +kernel
theorem dX1_choiceAt_6 : decode cX1_choiceAt 6 = .ok (.istore 5, 2) := by decide +kernel
theorem dX1_choiceAt_8 : decode cX1_choiceAt 8 = .ok (.iload 5, 2) := by decide +kernel
theorem dX1_choiceAt_10 : decode cX1_choiceAt 10 = .ok (.iload_n 2, 1) := by decide +kernel
theorem dX1_choiceAt_11 : decode cX1_choiceAt 11 = .ok (.if_icmp .gt 64, 3) := by decide +kernel
theorem dX1_choiceAt_14 : decode cX1_choiceAt 14 = .ok (.iload 5, 2) := by decide +kernel
theorem dX1_choiceAt_16 : decode cX1_choiceAt 16 = .ok (.aload_n 0, 1) := by decide +kernel
theorem dX1_choiceAt_17 : decode cX1_choiceAt 17 = .ok (.getfield 30, 3) := by decide +kernel
theorem dX1_choiceAt_20 : decode cX1_choiceAt 20 = .ok (.if_icmp .ge 55, 3) := by decide +kernel
theorem dX1_choiceAt_23 : decode cX1_choiceAt 23 = .ok (.aload_n 0, 1) := by decide +kernel
theorem dX1_choiceAt_24 : decode cX1_choiceAt 24 = .ok (.iload 5, 2) := by decide +kernel
theorem dX1_choiceAt_26 : decode cX1_choiceAt 26 = .ok (.iload_n 3, 1) := by decide +kernel
theorem dX1_choiceAt_27 : decode cX1_choiceAt 27 = .ok (.invokevirtual 44, 3) := by decide +kernel
theorem dX1_choiceAt_30 : decode cX1_choiceAt 30 = .ok (.aload_n 0, 1) := by decide +kernel
theorem dX1_choiceAt_31 : decode cX1_choiceAt 31 = .ok (.iload 5, 2) := by decide +kernel
theorem dX1_choiceAt_33 : decode cX1_choiceAt 33 = .ok (.iload_n 3, 1) := by decide +kernel
theorem dX1_choiceAt_34 : decode cX1_choiceAt 34 = .ok (.invokevirtual 40, 3) := by decide +kernel
theorem dX1_choiceAt_37 : decode cX1_choiceAt 37 = .ok (.if_icmp .le 7, 3) := by decide +kernel
theorem dX1_choiceAt_40 : decode cX1_choiceAt 40 = .ok (.iconst 1, 1) := by decide +kernel
theorem dX1_choiceAt_41 : decode cX1_choiceAt 41 = .ok (.goto 4, 3) := by decide +kernel
theorem dX1_choiceAt_44 : decode cX1_choiceAt 44 = .ok (.iconst 0, 1) := by decide +kernel
theorem dX1_choiceAt_45 : decode cX1_choiceAt 45 = .ok (.invokestatic 55, 3) := by decide +kernel
theorem dX1_choiceAt_48 : decode cX1_choiceAt 48 = .ok (.istore 4, 2) := by decide +kernel
theorem dX1_choiceAt_50 : decode cX1_choiceAt 50 = .ok (.iload 4, 2) := by decide +kernel
theorem dX1_choiceAt_52 : decode cX1_choiceAt 52 = .ok (.iconst 1, 1) := by decide +kernel
theorem dX1_choiceAt_53 : decode cX1_choiceAt 53 = .ok (.if_icmp .ne 7, 3) := by decide +kernel
theorem dX1_choiceAt_56 : decode cX1_choiceAt 56 = .ok (.iconst 0, 1) := by decide +kernel
theorem dX1_choiceAt_57 : decode cX1_choiceAt 57 = .ok (.goto 11, 3) := by decide +kernel
theorem dX1_choiceAt_60 : decode cX1_choiceAt 60 = .ok (.iload_n 3, 1) := by decide +kernel
theorem dX1_choiceAt_61 : decode cX1_choiceAt 61 = .ok (.iconst 1, 1) := by decide +kernel
theorem dX1_choiceAt_62 : decode cX1_choiceAt 62 = .ok (.iadd, 1) := by decide +kernel
theorem dX1_choiceAt_63 : decode cX1_choiceAt 63 = .ok (.bipush 10, 2) := by decide +kernel
theorem dX1_choiceAt_65 : decode cX1_choiceAt 65 = .ok (.invokestatic 52, 3) := by decide +kernel
theorem dX1_choiceAt_68 : decode cX1_choiceAt 68 = .ok (.istore_n 3, 1) := by decide +kernel
theorem dX1_choiceAt_69 : decode cX1_choiceAt 69 = .ok (.iinc 5 1, 3) := by decide +kernel
theorem dX1_choiceAt_72 : decode cX1_choiceAt 72 = .ok (.goto (-64), 3) := by decide +kernel
theorem dX1_choiceAt_75 : decode cX1_choiceAt 75 = .ok (.iload 4, 2) := by decide +kernel
theorem dX1_choiceAt_77 : decode cX1_choiceAt 77 = .ok (.ireturn, 1) := by decide +kernel
theorem dX11_career_0 : decode cX11_career 0 = .ok (.aload_n 0, 1) := by decide +kernel
theorem dX11_career_1 : decode cX11_career 1 = .ok (.getfield 10, 3) := by decide +kernel
theorem dX11_career_4 : decode cX11_career 4 = .ok (.getfield 251, 3) := by decide +kernel
theorem dX11_career_7 : decode cX11_career 7 = .ok (.astore_n 3, 1) := by decide +kernel
theorem dX11_career_8 : decode cX11_career 8 = .ok (.iload_n 1, 1) := by decide +kernel
theorem dX11_career_9 : decode cX11_career 9 = .ok (.iconst 0, 1) := by decide +kernel
theorem dX11_career_10 : decode cX11_career 10 = .ok (.bipush 10, 2) := by decide +kernel
theorem dX11_career_12 : decode cX11_career 12 = .ok (.invokestatic 122, 3) := by decide +kernel
theorem dX11_career_15 : decode cX11_career 15 = .ok (.ifCond .eq 15, 3) := by decide +kernel
theorem dX11_career_18 : decode cX11_career 18 = .ok (.iload_n 2, 1) := by decide +kernel
theorem dX11_career_19 : decode cX11_career 19 = .ok (.iconst 0, 1) := by decide +kernel
theorem dX11_career_20 : decode cX11_career 20 = .ok (.aload_n 3, 1) := by decide +kernel
theorem dX11_career_21 : decode cX11_career 21 = .ok (.getfield 258, 3) := by decide +kernel
theorem dX11_career_24 : decode cX11_career 24 = .ok (.invokestatic 122, 3) := by decide +kernel
theorem dX11_career_27 : decode cX11_career 27 = .ok (.ifCond .ne 6, 3) := by decide +kernel
theorem dX11_career_30 : decode cX11_career 30 = .ok (.ldc 241, 2) := by decide +kernel
theorem dX11_career_32 : decode cX11_career 32 = .ok (.ireturn, 1) := by decide +kernel
theorem dX11_career_33 : decode cX11_career 33 = .ok (.aload_n 3, 1) := by decide +kernel
theorem dX11_career_34 : decode cX11_career 34 = .ok (.invokevirtual 261, 3) := by decide +kernel
theorem dX11_career_37 : decode cX11_career 37 = .ok (.iload_n 2, 1) := by decide +kernel
theorem dX11_career_38 : decode cX11_career 38 = .ok (.ifCond .ne 12, 3) := by decide +kernel
theorem dX11_career_41 : decode cX11_career 41 = .ok (.aload_n 3, 1) := by decide +kernel
theorem dX11_career_42 : decode cX11_career 42 = .ok (.getfield 264, 3) := by decide +kernel
theorem dX11_career_45 : decode cX11_career 45 = .ok (.iload_n 1, 1) := by decide +kernel
theorem dX11_career_46 : decode cX11_career 46 = .ok (.iaload, 1) := by decide +kernel
theorem dX11_career_47 : decode cX11_career 47 = .ok (.goto 11, 3) := by decide +kernel
theorem dX11_career_50 : decode cX11_career 50 = .ok (.aload_n 3, 1) := by decide +kernel
theorem dX11_career_51 : decode cX11_career 51 = .ok (.iload_n 1, 1) := by decide +kernel
theorem dX11_career_52 : decode cX11_career 52 = .ok (.iload_n 2, 1) := by decide +kernel
theorem dX11_career_53 : decode cX11_career 53 = .ok (.iconst 1, 1) := by decide +kernel
theorem dX11_career_54 : decode cX11_career 54 = .ok (.isub, 1) := by decide +kernel
theorem dX11_career_55 : decode cX11_career 55 = .ok (.invokevirtual 267, 3) := by decide +kernel
theorem dX11_career_58 : decode cX11_career 58 = .ok (.ireturn, 1) := by decide +kernel
theorem dX4_light_0 : decode cX4_light 0 = .ok (.aload_n 0, 1) := by decide +kernel
theorem dX4_light_1 : decode cX4_light 1 = .ok (.getfield 33, 3) := by decide +kernel
theorem dX4_light_4 : decode cX4_light 4 = .ok (.bipush 10, 2) := by decide +kernel
theorem dX4_light_6 : decode cX4_light 6 = .ok (.if_icmp .lt 6, 3) := by decide +kernel
theorem dX4_light_9 : decode cX4_light 9 = .ok (.bipush (-5), 2) := by decide +kernel
theorem dX4_light_11 : decode cX4_light 11 = .ok (.ireturn, 1) := by decide +kernel
theorem dX4_light_12 : decode cX4_light 12 = .ok (.iconst 0, 1) := by decide +kernel
theorem dX4_light_13 : decode cX4_light 13 = .ok (.istore_n 2, 1) := by decide +kernel
theorem dX4_light_14 : decode cX4_light 14 = .ok (.iload_n 2, 1) := by decide +kernel
theorem dX4_light_15 : decode cX4_light 15 = .ok (.bipush 6, 2) := by decide +kernel
theorem dX4_light_17 : decode cX4_light 17 = .ok (.if_icmp .ge 28, 3) := by decide +kernel
theorem dX4_light_20 : decode cX4_light 20 = .ok (.aload_n 0, 1) := by decide +kernel
theorem dX4_light_21 : decode cX4_light 21 = .ok (.getfield 9, 3) := by decide +kernel
theorem dX4_light_24 : decode cX4_light 24 = .ok (.iload_n 2, 1) := by decide +kernel
theorem dX4_light_25 : decode cX4_light 25 = .ok (.dup2, 1) := by decide +kernel
theorem dX4_light_26 : decode cX4_light 26 = .ok (.iaload, 1) := by decide +kernel
theorem dX4_light_27 : decode cX4_light 27 = .ok (.iload_n 1, 1) := by decide +kernel
theorem dX4_light_28 : decode cX4_light 28 = .ok (.iload_n 2, 1) := by decide +kernel
theorem dX4_light_29 : decode cX4_light 29 = .ok (.ishr, 1) := by decide +kernel
theorem dX4_light_30 : decode cX4_light 30 = .ok (.iconst 1, 1) := by decide +kernel
theorem dX4_light_31 : decode cX4_light 31 = .ok (.iand, 1) := by decide +kernel
theorem dX4_light_32 : decode cX4_light 32 = .ok (.aload_n 0, 1) := by decide +kernel
theorem dX4_light_33 : decode cX4_light 33 = .ok (.getfield 33, 3) := by decide +kernel
theorem dX4_light_36 : decode cX4_light 36 = .ok (.ishl, 1) := by decide +kernel
theorem dX4_light_37 : decode cX4_light 37 = .ok (.ior, 1) := by decide +kernel
theorem dX4_light_38 : decode cX4_light 38 = .ok (.iastore, 1) := by decide +kernel
theorem dX4_light_39 : decode cX4_light 39 = .ok (.iinc 2 1, 3) := by decide +kernel
theorem dX4_light_42 : decode cX4_light 42 = .ok (.goto (-28), 3) := by decide +kernel
theorem dX4_light_45 : decode cX4_light 45 = .ok (.aload_n 0, 1) := by decide +kernel
theorem dX4_light_46 : decode cX4_light 46 = .ok (.dup, 1) := by decide +kernel
theorem dX4_light_47 : decode cX4_light 47 = .ok (.getfield 33, 3) := by decide +kernel
theorem dX4_light_50 : decode cX4_light 50 = .ok (.iconst 1, 1) := by decide +kernel
theorem dX4_light_51 : decode cX4_light 51 = .ok (.iadd, 1) := by decide +kernel
theorem dX4_light_52 : decode cX4_light 52 = .ok (.putfield 33, 3) := by decide +kernel
theorem dX4_light_55 : decode cX4_light 55 = .ok (.aload_n 0, 1) := by decide +kernel
theorem dX4_light_56 : decode cX4_light 56 = .ok (.getfield 33, 3) := by decide +kernel
theorem dX4_light_59 : decode cX4_light 59 = .ok (.iconst 1, 1) := by decide +kernel
theorem dX4_light_60 : decode cX4_light 60 = .ok (.isub, 1) := by decide +kernel
theorem dX4_light_61 : decode cX4_light 61 = .ok (.ireturn, 1) := by decide +kernel
theorem dX11_fire_0 : decode cX11_fire 0 = .ok (.iload_n 1, 1) := by decide +kernel
theorem dX11_fire_1 : decode cX11_fire 1 = .ok (.iconst 0, 1) := by decide +kernel
theorem dX11_fire_2 : decode cX11_fire 2 = .ok (.bipush 63, 2) := by decide +kernel
theorem dX11_fire_4 : decode cX11_fire 4 = .ok (.invokestatic 122, 3) := by decide +kernel
theorem dX11_fire_7 : decode cX11_fire 7 = .ok (.ifCond .ne 9, 3) := by decide +kernel
theorem dX11_fire_10 : decode cX11_fire 10 = .ok (.aload_n 0, 1) := by decide +kernel
theorem dX11_fire_11 : decode cX11_fire 11 = .ok (.iconst (-1), 1) := by decide +kernel
theorem dX11_fire_12 : decode cX11_fire 12 = .ok (.invokevirtual 126, 3) := by decide +kernel
theorem dX11_fire_15 : decode cX11_fire 15 = .ok (.ireturn, 1) := by decide +kernel
theorem dX11_fire_16 : decode cX11_fire 16 = .ok (.aload_n 0, 1) := by decide +kernel
theorem dX11_fire_17 : decode cX11_fire 17 = .ok (.aload_n 0, 1) := by decide +kernel
theorem dX11_fire_18 : decode cX11_fire 18 = .ok (.getfield 10, 3) := by decide +kernel
theorem dX11_fire_21 : decode cX11_fire 21 = .ok (.getfield 270, 3) := by decide +kernel
theorem dX11_fire_24 : decode cX11_fire 24 = .ok (.iload_n 1, 1) := by decide +kernel
theorem dX11_fire_25 : decode cX11_fire 25 = .ok (.invokevirtual 274, 3) := by decide +kernel
theorem dX11_fire_28 : decode cX11_fire 28 = .ok (.invokevirtual 93, 3) := by decide +kernel
theorem dX11_fire_31 : decode cX11_fire 31 = .ok (.ireturn, 1) := by decide +kernel
theorem dX11_needs_0 : decode cX11_needs 0 = .ok (.iload_n 1, 1) := by decide +kernel
theorem dX11_needs_1 : decode cX11_needs 1 = .ok (.iconst 0, 1) := by decide +kernel
theorem dX11_needs_2 : decode cX11_needs 2 = .ok (.iconst 5, 1) := by decide +kernel
theorem dX11_needs_3 : decode cX11_needs 3 = .ok (.invokestatic 122, 3) := by decide +kernel
theorem dX11_needs_6 : decode cX11_needs 6 = .ok (.ifCond .eq 13, 3) := by decide +kernel
theorem dX11_needs_9 : decode cX11_needs 9 = .ok (.iload_n 2, 1) := by decide +kernel
theorem dX11_needs_10 : decode cX11_needs 10 = .ok (.iconst 0, 1) := by decide +kernel
theorem dX11_needs_11 : decode cX11_needs 11 = .ok (.bipush 9, 2) := by decide +kernel
theorem dX11_needs_13 : decode cX11_needs 13 = .ok (.invokestatic 122, 3) := by decide +kernel
theorem dX11_needs_16 : decode cX11_needs 16 = .ok (.ifCond .ne 9, 3) := by decide +kernel
theorem dX11_needs_19 : decode cX11_needs 19 = .ok (.aload_n 0, 1) := by decide +kernel
theorem dX11_needs_20 : decode cX11_needs 20 = .ok (.iconst (-1), 1) := by decide +kernel
theorem dX11_needs_21 : decode cX11_needs 21 = .ok (.invokevirtual 126, 3) := by decide +kernel
theorem dX11_needs_24 : decode cX11_needs 24 = .ok (.ireturn, 1) := by decide +kernel
theorem dX11_needs_25 : decode cX11_needs 25 = .ok (.aload_n 0, 1) := by decide +kernel
theorem dX11_needs_26 : decode cX11_needs 26 = .ok (.getfield 10, 3) := by decide +kernel
theorem dX11_needs_29 : decode cX11_needs 29 = .ok (.getfield 270, 3) := by decide +kernel
theorem dX11_needs_32 : decode cX11_needs 32 = .ok (.getfield 279, 3) := by decide +kernel
theorem dX11_needs_35 : decode cX11_needs 35 = .ok (.iload_n 1, 1) := by decide +kernel
theorem dX11_needs_36 : decode cX11_needs 36 = .ok (.iaload, 1) := by decide +kernel
theorem dX11_needs_37 : decode cX11_needs 37 = .ok (.istore_n 3, 1) := by decide +kernel
theorem dX11_needs_38 : decode cX11_needs 38 = .ok (.aload_n 0, 1) := by decide +kernel
theorem dX11_needs_39 : decode cX11_needs 39 = .ok (.getfield 10, 3) := by decide +kernel
theorem dX11_needs_42 : decode cX11_needs 42 = .ok (.getfield 270, 3) := by decide +kernel
theorem dX11_needs_45 : decode cX11_needs 45 = .ok (.getfield 279, 3) := by decide +kernel
theorem dX11_needs_48 : decode cX11_needs 48 = .ok (.iload_n 1, 1) := by decide +kernel
theorem dX11_needs_49 : decode cX11_needs 49 = .ok (.iload_n 2, 1) := by decide +kernel
theorem dX11_needs_50 : decode cX11_needs 50 = .ok (.iastore, 1) := by decide +kernel
theorem dX11_needs_51 : decode cX11_needs 51 = .ok (.aload_n 0, 1) := by decide +kernel
theorem dX11_needs_52 : decode cX11_needs 52 = .ok (.iload_n 3, 1) := by decide +kernel
theorem dX11_needs_53 : decode cX11_needs 53 = .ok (.invokevirtual 93, 3) := by decide +kernel
theorem dX11_needs_56 : decode cX11_needs 56 = .ok (.ireturn, 1) := by decide +kernel
theorem dJ6_bitCount_0f7a4_0 : decode cJ6_bitCount_0f7a4 0 = .ok (.iload_n 0, 1) := by decide +kernel
theorem dJ6_bitCount_0f7a4_1 : decode cJ6_bitCount_0f7a4 1 = .ok (.iload_n 0, 1) := by decide +kernel
theorem dJ6_bitCount_0f7a4_2 : decode cJ6_bitCount_0f7a4 2 = .ok (.iconst 1, 1) := by decide +kernel
theorem dJ6_bitCount_0f7a4_3 : decode cJ6_bitCount_0f7a4 3 = .ok (.iushr, 1) := by decide +kernel
theorem dJ6_bitCount_0f7a4_4 : decode cJ6_bitCount_0f7a4 4 = .ok (.ldc_w 265, 3) := by decide +kernel
theorem dJ6_bitCount_0f7a4_7 : decode cJ6_bitCount_0f7a4 7 = .ok (.iand, 1) := by decide +kernel
theorem dJ6_bitCount_0f7a4_8 : decode cJ6_bitCount_0f7a4 8 = .ok (.isub, 1) := by decide +kernel
theorem dJ6_bitCount_0f7a4_9 : decode cJ6_bitCount_0f7a4 9 = .ok (.istore_n 0, 1) := by decide +kernel
theorem dJ6_bitCount_0f7a4_10 : decode cJ6_bitCount_0f7a4 10 = .ok (.iload_n 0, 1) := by decide +kernel
theorem dJ6_bitCount_0f7a4_11 : decode cJ6_bitCount_0f7a4 11 = .ok (.ldc_w 266, 3) := by decide +kernel
theorem dJ6_bitCount_0f7a4_14 : decode cJ6_bitCount_0f7a4 14 = .ok (.iand, 1) := by decide +kernel
theorem dJ6_bitCount_0f7a4_15 : decode cJ6_bitCount_0f7a4 15 = .ok (.iload_n 0, 1) := by decide +kernel
theorem dJ6_bitCount_0f7a4_16 : decode cJ6_bitCount_0f7a4 16 = .ok (.iconst 2, 1) := by decide +kernel
theorem dJ6_bitCount_0f7a4_17 : decode cJ6_bitCount_0f7a4 17 = .ok (.iushr, 1) := by decide +kernel
theorem dJ6_bitCount_0f7a4_18 : decode cJ6_bitCount_0f7a4 18 = .ok (.ldc_w 266, 3) := by decide +kernel
theorem dJ6_bitCount_0f7a4_21 : decode cJ6_bitCount_0f7a4 21 = .ok (.iand, 1) := by decide +kernel
theorem dJ6_bitCount_0f7a4_22 : decode cJ6_bitCount_0f7a4 22 = .ok (.iadd, 1) := by decide +kernel
theorem dJ6_bitCount_0f7a4_23 : decode cJ6_bitCount_0f7a4 23 = .ok (.istore_n 0, 1) := by decide +kernel
theorem dJ6_bitCount_0f7a4_24 : decode cJ6_bitCount_0f7a4 24 = .ok (.iload_n 0, 1) := by decide +kernel
theorem dJ6_bitCount_0f7a4_25 : decode cJ6_bitCount_0f7a4 25 = .ok (.iload_n 0, 1) := by decide +kernel
theorem dJ6_bitCount_0f7a4_26 : decode cJ6_bitCount_0f7a4 26 = .ok (.iconst 4, 1) := by decide +kernel
theorem dJ6_bitCount_0f7a4_27 : decode cJ6_bitCount_0f7a4 27 = .ok (.iushr, 1) := by decide +kernel
theorem dJ6_bitCount_0f7a4_28 : decode cJ6_bitCount_0f7a4 28 = .ok (.iadd, 1) := by decide +kernel
theorem dJ6_bitCount_0f7a4_29 : decode cJ6_bitCount_0f7a4 29 = .ok (.ldc_w 267, 3) := by decide +kernel
theorem dJ6_bitCount_0f7a4_32 : decode cJ6_bitCount_0f7a4 32 = .ok (.iand, 1) := by decide +kernel
theorem dJ6_bitCount_0f7a4_33 : decode cJ6_bitCount_0f7a4 33 = .ok (.istore_n 0, 1) := by decide +kernel
theorem dJ6_bitCount_0f7a4_34 : decode cJ6_bitCount_0f7a4 34 = .ok (.iload_n 0, 1) := by decide +kernel
theorem dJ6_bitCount_0f7a4_35 : decode cJ6_bitCount_0f7a4 35 = .ok (.iload_n 0, 1) := by decide +kernel
theorem dJ6_bitCount_0f7a4_36 : decode cJ6_bitCount_0f7a4 36 = .ok (.bipush 8, 2) := by decide +kernel
theorem dJ6_bitCount_0f7a4_38 : decode cJ6_bitCount_0f7a4 38 = .ok (.iushr, 1) := by decide +kernel
theorem dJ6_bitCount_0f7a4_39 : decode cJ6_bitCount_0f7a4 39 = .ok (.iadd, 1) := by decide +kernel
theorem dJ6_bitCount_0f7a4_40 : decode cJ6_bitCount_0f7a4 40 = .ok (.istore_n 0, 1) := by decide +kernel
theorem dJ6_bitCount_0f7a4_41 : decode cJ6_bitCount_0f7a4 41 = .ok (.iload_n 0, 1) := by decide +kernel
theorem dJ6_bitCount_0f7a4_42 : decode cJ6_bitCount_0f7a4 42 = .ok (.iload_n 0, 1) := by decide +kernel
theorem dJ6_bitCount_0f7a4_43 : decode cJ6_bitCount_0f7a4 43 = .ok (.bipush 16, 2) := by decide +kernel
theorem dJ6_bitCount_0f7a4_45 : decode cJ6_bitCount_0f7a4 45 = .ok (.iushr, 1) := by decide +kernel
theorem dJ6_bitCount_0f7a4_46 : decode cJ6_bitCount_0f7a4 46 = .ok (.iadd, 1) := by decide +kernel
theorem dJ6_bitCount_0f7a4_47 : decode cJ6_bitCount_0f7a4 47 = .ok (.istore_n 0, 1) := by decide +kernel
theorem dJ6_bitCount_0f7a4_48 : decode cJ6_bitCount_0f7a4 48 = .ok (.iload_n 0, 1) := by decide +kernel
theorem dJ6_bitCount_0f7a4_49 : decode cJ6_bitCount_0f7a4 49 = .ok (.bipush 63, 2) := by decide +kernel
theorem dJ6_bitCount_0f7a4_51 : decode cJ6_bitCount_0f7a4 51 = .ok (.iand, 1) := by decide +kernel
theorem dJ6_bitCount_0f7a4_52 : decode cJ6_bitCount_0f7a4 52 = .ok (.ireturn, 1) := by decide +kernel
theorem dX4_suffices_0 : decode cX4_suffices 0 = .ok (.iconst 0, 1) := by decide +kernel
theorem dX4_suffices_1 : decode cX4_suffices 1 = .ok (.istore_n 2, 1) := by decide +kernel
theorem dX4_suffices_2 : decode cX4_suffices 2 = .ok (.iload_n 2, 1) := by decide +kernel
theorem dX4_suffices_3 : decode cX4_suffices 3 = .ok (.bipush 6, 2) := by decide +kernel
theorem dX4_suffices_5 : decode cX4_suffices 5 = .ok (.if_icmp .ge 31, 3) := by decide +kernel
theorem dX4_suffices_8 : decode cX4_suffices 8 = .ok (.iload_n 1, 1) := by decide +kernel
theorem dX4_suffices_9 : decode cX4_suffices 9 = .ok (.aload_n 0, 1) := by decide +kernel
theorem dX4_suffices_10 : decode cX4_suffices 10 = .ok (.getfield 9, 3) := by decide +kernel
theorem dX4_suffices_13 : decode cX4_suffices 13 = .ok (.iload_n 2, 1) := by decide +kernel
theorem dX4_suffices_14 : decode cX4_suffices 14 = .ok (.iaload, 1) := by decide +kernel
theorem dX4_suffices_15 : decode cX4_suffices 15 = .ok (.iand, 1) := by decide +kernel
theorem dX4_suffices_16 : decode cX4_suffices 16 = .ok (.invokestatic 46, 3) := by decide +kernel
theorem dX4_suffices_19 : decode cX4_suffices 19 = .ok (.aload_n 0, 1) := by decide +kernel
theorem dX4_suffices_20 : decode cX4_suffices 20 = .ok (.getfield 15, 3) := by decide +kernel
theorem dX4_suffices_23 : decode cX4_suffices 23 = .ok (.iload_n 2, 1) := by decide +kernel
theorem dX4_suffices_24 : decode cX4_suffices 24 = .ok (.iaload, 1) := by decide +kernel
theorem dX4_suffices_25 : decode cX4_suffices 25 = .ok (.if_icmp .ge 5, 3) := by decide +kernel
theorem dX4_suffices_28 : decode cX4_suffices 28 = .ok (.iconst 0, 1) := by decide +kernel
theorem dX4_suffices_29 : decode cX4_suffices 29 = .ok (.ireturn, 1) := by decide +kernel
theorem dX4_suffices_30 : decode cX4_suffices 30 = .ok (.iinc 2 1, 3) := by decide +kernel
theorem dX4_suffices_33 : decode cX4_suffices 33 = .ok (.goto (-31), 3) := by decide +kernel
theorem dX4_suffices_36 : decode cX4_suffices 36 = .ok (.iconst 1, 1) := by decide +kernel
theorem dX4_suffices_37 : decode cX4_suffices 37 = .ok (.ireturn, 1) := by decide +kernel
theorem dX4_fewestFires_0 : decode cX4_fewestFires 0 = .ok (.iconst (-1), 1) := by decide +kernel
theorem dX4_fewestFires_1 : decode cX4_fewestFires 1 = .ok (.istore_n 1, 1) := by decide +kernel
theorem dX4_fewestFires_2 : decode cX4_fewestFires 2 = .ok (.iconst 0, 1) := by decide +kernel
theorem dX4_fewestFires_3 : decode cX4_fewestFires 3 = .ok (.istore_n 2, 1) := by decide +kernel
theorem dX4_fewestFires_4 : decode cX4_fewestFires 4 = .ok (.iload_n 2, 1) := by decide +kernel
theorem dX4_fewestFires_5 : decode cX4_fewestFires 5 = .ok (.iconst 1, 1) := by decide +kernel
theorem dX4_fewestFires_6 : decode cX4_fewestFires 6 = .ok (.aload_n 0, 1) := by decide +kernel
theorem dX4_fewestFires_7 : decode cX4_fewestFires 7 = .ok (.getfield 33, 3) := by decide +kernel
theorem dX4_fewestFires_10 : decode cX4_fewestFires 10 = .ok (.ishl, 1) := by decide +kernel
theorem dX4_fewestFires_11 : decode cX4_fewestFires 11 = .ok (.if_icmp .ge 45, 3) := by decide +kernel
theorem dX4_fewestFires_14 : decode cX4_fewestFires 14 = .ok (.iload_n 1, 1) := by decide +kernel
theorem dX4_fewestFires_15 : decode cX4_fewestFires 15 = .ok (.iconst (-1), 1) := by decide +kernel
theorem dX4_fewestFires_16 : decode cX4_fewestFires 16 = .ok (.if_icmp .eq 14, 3) := by decide +kernel
theorem dX4_fewestFires_19 : decode cX4_fewestFires 19 = .ok (.iload_n 2, 1) := by decide +kernel
theorem dX4_fewestFires_20 : decode cX4_fewestFires 20 = .ok (.invokestatic 46, 3) := by decide +kernel
theorem dX4_fewestFires_23 : decode cX4_fewestFires 23 = .ok (.iload_n 1, 1) := by decide +kernel
theorem dX4_fewestFires_24 : decode cX4_fewestFires 24 = .ok (.invokestatic 46, 3) := by decide +kernel
theorem dX4_fewestFires_27 : decode cX4_fewestFires 27 = .ok (.if_icmp .ge 7, 3) := by decide +kernel
theorem dX4_fewestFires_30 : decode cX4_fewestFires 30 = .ok (.iconst 1, 1) := by decide +kernel
theorem dX4_fewestFires_31 : decode cX4_fewestFires 31 = .ok (.goto 4, 3) := by decide +kernel
theorem dX4_fewestFires_34 : decode cX4_fewestFires 34 = .ok (.iconst 0, 1) := by decide +kernel
theorem dX4_fewestFires_35 : decode cX4_fewestFires 35 = .ok (.istore_n 3, 1) := by decide +kernel
theorem dX4_fewestFires_36 : decode cX4_fewestFires 36 = .ok (.iload_n 3, 1) := by decide +kernel
theorem dX4_fewestFires_37 : decode cX4_fewestFires 37 = .ok (.ifCond .eq 13, 3) := by decide +kernel
theorem dX4_fewestFires_40 : decode cX4_fewestFires 40 = .ok (.aload_n 0, 1) := by decide +kernel
theorem dX4_fewestFires_41 : decode cX4_fewestFires 41 = .ok (.iload_n 2, 1) := by decide +kernel
theorem dX4_fewestFires_42 : decode cX4_fewestFires 42 = .ok (.invokevirtual 52, 3) := by decide +kernel
theorem dX4_fewestFires_45 : decode cX4_fewestFires 45 = .ok (.ifCond .eq 5, 3) := by decide +kernel
theorem dX4_fewestFires_48 : decode cX4_fewestFires 48 = .ok (.iload_n 2, 1) := by decide +kernel
theorem dX4_fewestFires_49 : decode cX4_fewestFires 49 = .ok (.istore_n 1, 1) := by decide +kernel
theorem dX4_fewestFires_50 : decode cX4_fewestFires 50 = .ok (.iinc 2 1, 3) := by decide +kernel
theorem dX4_fewestFires_53 : decode cX4_fewestFires 53 = .ok (.goto (-49), 3) := by decide +kernel
theorem dX4_fewestFires_56 : decode cX4_fewestFires 56 = .ok (.iload_n 1, 1) := by decide +kernel
theorem dX4_fewestFires_57 : decode cX4_fewestFires 57 = .ok (.ireturn, 1) := by decide +kernel
theorem dX11_enough_0 : decode cX11_enough 0 = .ok (.iload_n 1, 1) := by decide +kernel
theorem dX11_enough_1 : decode cX11_enough 1 = .ok (.iconst 0, 1) := by decide +kernel
theorem dX11_enough_2 : decode cX11_enough 2 = .ok (.iconst 1, 1) := by decide +kernel
theorem dX11_enough_3 : decode cX11_enough 3 = .ok (.invokestatic 122, 3) := by decide +kernel
theorem dX11_enough_6 : decode cX11_enough 6 = .ok (.ifCond .ne 5, 3) := by decide +kernel
theorem dX11_enough_9 : decode cX11_enough 9 = .ok (.iconst (-1), 1) := by decide +kernel
theorem dX11_enough_10 : decode cX11_enough 10 = .ok (.ireturn, 1) := by decide +kernel
theorem dX11_enough_11 : decode cX11_enough 11 = .ok (.aload_n 0, 1) := by decide +kernel
theorem dX11_enough_12 : decode cX11_enough 12 = .ok (.getfield 10, 3) := by decide +kernel
theorem dX11_enough_15 : decode cX11_enough 15 = .ok (.getfield 270, 3) := by decide +kernel
theorem dX11_enough_18 : decode cX11_enough 18 = .ok (.invokevirtual 282, 3) := by decide +kernel
theorem dX11_enough_21 : decode cX11_enough 21 = .ok (.istore_n 2, 1) := by decide +kernel
theorem dX11_enough_22 : decode cX11_enough 22 = .ok (.iload_n 2, 1) := by decide +kernel
theorem dX11_enough_23 : decode cX11_enough 23 = .ok (.iconst (-1), 1) := by decide +kernel
theorem dX11_enough_24 : decode cX11_enough 24 = .ok (.if_icmp .eq 8, 3) := by decide +kernel
theorem dX11_enough_27 : decode cX11_enough 27 = .ok (.iload_n 1, 1) := by decide +kernel
theorem dX11_enough_28 : decode cX11_enough 28 = .ok (.iconst 1, 1) := by decide +kernel
theorem dX11_enough_29 : decode cX11_enough 29 = .ok (.if_icmp .ne 7, 3) := by decide +kernel
theorem dX11_enough_32 : decode cX11_enough 32 = .ok (.iload_n 2, 1) := by decide +kernel
theorem dX11_enough_33 : decode cX11_enough 33 = .ok (.goto 7, 3) := by decide +kernel
theorem dX11_enough_36 : decode cX11_enough 36 = .ok (.iload_n 2, 1) := by decide +kernel
theorem dX11_enough_37 : decode cX11_enough 37 = .ok (.invokestatic 285, 3) := by decide +kernel
theorem dX11_enough_40 : decode cX11_enough 40 = .ok (.ireturn, 1) := by decide +kernel
theorem dX4_note_0 : decode cX4_note 0 = .ok (.aload_n 0, 1) := by decide +kernel
theorem dX4_note_1 : decode cX4_note 1 = .ok (.getfield 37, 3) := by decide +kernel
theorem dX4_note_4 : decode cX4_note 4 = .ok (.bipush 8, 2) := by decide +kernel
theorem dX4_note_6 : decode cX4_note 6 = .ok (.if_icmp .lt 6, 3) := by decide +kernel
theorem dX4_note_9 : decode cX4_note 9 = .ok (.bipush (-5), 2) := by decide +kernel
theorem dX4_note_11 : decode cX4_note 11 = .ok (.ireturn, 1) := by decide +kernel
theorem dX4_note_12 : decode cX4_note 12 = .ok (.aload_n 0, 1) := by decide +kernel
theorem dX4_note_13 : decode cX4_note 13 = .ok (.getfield 18, 3) := by decide +kernel
theorem dX4_note_16 : decode cX4_note 16 = .ok (.aload_n 0, 1) := by decide +kernel
theorem dX4_note_17 : decode cX4_note 17 = .ok (.getfield 37, 3) := by decide +kernel
theorem dX4_note_20 : decode cX4_note 20 = .ok (.iload_n 1, 1) := by decide +kernel
theorem dX4_note_21 : decode cX4_note 21 = .ok (.iastore, 1) := by decide +kernel
theorem dX4_note_22 : decode cX4_note 22 = .ok (.aload_n 0, 1) := by decide +kernel
theorem dX4_note_23 : decode cX4_note 23 = .ok (.getfield 21, 3) := by decide +kernel
theorem dX4_note_26 : decode cX4_note 26 = .ok (.aload_n 0, 1) := by decide +kernel
theorem dX4_note_27 : decode cX4_note 27 = .ok (.getfield 37, 3) := by decide +kernel
theorem dX4_note_30 : decode cX4_note 30 = .ok (.iload_n 2, 1) := by decide +kernel
theorem dX4_note_31 : decode cX4_note 31 = .ok (.iastore, 1) := by decide +kernel
theorem dX4_note_32 : decode cX4_note 32 = .ok (.aload_n 0, 1) := by decide +kernel
theorem dX4_note_33 : decode cX4_note 33 = .ok (.dup, 1) := by decide +kernel
theorem dX4_note_34 : decode cX4_note 34 = .ok (.getfield 37, 3) := by decide +kernel
theorem dX4_note_37 : decode cX4_note 37 = .ok (.iconst 1, 1) := by decide +kernel
theorem dX4_note_38 : decode cX4_note 38 = .ok (.iadd, 1) := by decide +kernel
theorem dX4_note_39 : decode cX4_note 39 = .ok (.putfield 37, 3) := by decide +kernel
theorem dX4_note_42 : decode cX4_note 42 = .ok (.aload_n 0, 1) := by decide +kernel
theorem dX4_note_43 : decode cX4_note 43 = .ok (.getfield 37, 3) := by decide +kernel
theorem dX4_note_46 : decode cX4_note 46 = .ok (.ireturn, 1) := by decide +kernel
theorem dX11_counted_0 : decode cX11_counted 0 = .ok (.iload_n 1, 1) := by decide +kernel
theorem dX11_counted_1 : decode cX11_counted 1 = .ok (.iconst 0, 1) := by decide +kernel
theorem dX11_counted_2 : decode cX11_counted 2 = .ok (.iconst 5, 1) := by decide +kernel
theorem dX11_counted_3 : decode cX11_counted 3 = .ok (.invokestatic 122, 3) := by decide +kernel
theorem dX11_counted_6 : decode cX11_counted 6 = .ok (.ifCond .eq 13, 3) := by decide +kernel
theorem dX11_counted_9 : decode cX11_counted 9 = .ok (.iload_n 2, 1) := by decide +kernel
theorem dX11_counted_10 : decode cX11_counted 10 = .ok (.iconst 0, 1) := by decide +kernel
theorem dX11_counted_11 : decode cX11_counted 11 = .ok (.bipush 9, 2) := by decide +kernel
theorem dX11_counted_13 : decode cX11_counted 13 = .ok (.invokestatic 122, 3) := by decide +kernel
theorem dX11_counted_16 : decode cX11_counted 16 = .ok (.ifCond .ne 9, 3) := by decide +kernel
theorem dX11_counted_19 : decode cX11_counted 19 = .ok (.aload_n 0, 1) := by decide +kernel
theorem dX11_counted_20 : decode cX11_counted 20 = .ok (.iconst (-1), 1) := by decide +kernel
theorem dX11_counted_21 : decode cX11_counted 21 = .ok (.invokevirtual 126, 3) := by decide +kernel
theorem dX11_counted_24 : decode cX11_counted 24 = .ok (.ireturn, 1) := by decide +kernel
theorem dX11_counted_25 : decode cX11_counted 25 = .ok (.aload_n 0, 1) := by decide +kernel
theorem dX11_counted_26 : decode cX11_counted 26 = .ok (.aload_n 0, 1) := by decide +kernel
theorem dX11_counted_27 : decode cX11_counted 27 = .ok (.getfield 10, 3) := by decide +kernel
theorem dX11_counted_30 : decode cX11_counted 30 = .ok (.getfield 270, 3) := by decide +kernel
theorem dX11_counted_33 : decode cX11_counted 33 = .ok (.iload_n 1, 1) := by decide +kernel
theorem dX11_counted_34 : decode cX11_counted 34 = .ok (.iload_n 2, 1) := by decide +kernel
theorem dX11_counted_35 : decode cX11_counted 35 = .ok (.invokevirtual 290, 3) := by decide +kernel
theorem dX11_counted_38 : decode cX11_counted 38 = .ok (.invokevirtual 93, 3) := by decide +kernel
theorem dX11_counted_41 : decode cX11_counted 41 = .ok (.ireturn, 1) := by decide +kernel
theorem dX4_clear_0 : decode cX4_clear 0 = .ok (.aload_n 0, 1) := by decide +kernel
theorem dX4_clear_1 : decode cX4_clear 1 = .ok (.getfield 9, 3) := by decide +kernel
theorem dX4_clear_4 : decode cX4_clear 4 = .ok (.iconst 0, 1) := by decide +kernel
theorem dX4_clear_5 : decode cX4_clear 5 = .ok (.invokestatic 40, 3) := by decide +kernel
theorem dX4_clear_8 : decode cX4_clear 8 = .ok (.aload_n 0, 1) := by decide +kernel
theorem dX4_clear_9 : decode cX4_clear 9 = .ok (.iconst 0, 1) := by decide +kernel
theorem dX4_clear_10 : decode cX4_clear 10 = .ok (.putfield 33, 3) := by decide +kernel
theorem dX4_clear_13 : decode cX4_clear 13 = .ok (.aload_n 0, 1) := by decide +kernel
theorem dX4_clear_14 : decode cX4_clear 14 = .ok (.iconst 0, 1) := by decide +kernel
theorem dX4_clear_15 : decode cX4_clear 15 = .ok (.putfield 37, 3) := by decide +kernel
theorem dX4_clear_18 : decode cX4_clear 18 = .ok (.return_, 1) := by decide +kernel
theorem dX11_forget_0 : decode cX11_forget 0 = .ok (.aload_n 0, 1) := by decide +kernel
theorem dX11_forget_1 : decode cX11_forget 1 = .ok (.getfield 10, 3) := by decide +kernel
theorem dX11_forget_4 : decode cX11_forget 4 = .ok (.getfield 251, 3) := by decide +kernel
theorem dX11_forget_7 : decode cX11_forget 7 = .ok (.getfield 258, 3) := by decide +kernel
theorem dX11_forget_10 : decode cX11_forget 10 = .ok (.aload_n 0, 1) := by decide +kernel
theorem dX11_forget_11 : decode cX11_forget 11 = .ok (.getfield 10, 3) := by decide +kernel
theorem dX11_forget_14 : decode cX11_forget 14 = .ok (.getfield 270, 3) := by decide +kernel
theorem dX11_forget_17 : decode cX11_forget 17 = .ok (.getfield 293, 3) := by decide +kernel
theorem dX11_forget_20 : decode cX11_forget 20 = .ok (.iadd, 1) := by decide +kernel
theorem dX11_forget_21 : decode cX11_forget 21 = .ok (.aload_n 0, 1) := by decide +kernel
theorem dX11_forget_22 : decode cX11_forget 22 = .ok (.getfield 10, 3) := by decide +kernel
theorem dX11_forget_25 : decode cX11_forget 25 = .ok (.getfield 270, 3) := by decide +kernel
theorem dX11_forget_28 : decode cX11_forget 28 = .ok (.getfield 296, 3) := by decide +kernel
theorem dX11_forget_31 : decode cX11_forget 31 = .ok (.iadd, 1) := by decide +kernel
theorem dX11_forget_32 : decode cX11_forget 32 = .ok (.istore_n 1, 1) := by decide +kernel
theorem dX11_forget_33 : decode cX11_forget 33 = .ok (.aload_n 0, 1) := by decide +kernel
theorem dX11_forget_34 : decode cX11_forget 34 = .ok (.getfield 10, 3) := by decide +kernel
theorem dX11_forget_37 : decode cX11_forget 37 = .ok (.getfield 251, 3) := by decide +kernel
theorem dX11_forget_40 : decode cX11_forget 40 = .ok (.iconst 0, 1) := by decide +kernel
theorem dX11_forget_41 : decode cX11_forget 41 = .ok (.putfield 258, 3) := by decide +kernel
theorem dX11_forget_44 : decode cX11_forget 44 = .ok (.aload_n 0, 1) := by decide +kernel
theorem dX11_forget_45 : decode cX11_forget 45 = .ok (.getfield 10, 3) := by decide +kernel
theorem dX11_forget_48 : decode cX11_forget 48 = .ok (.getfield 270, 3) := by decide +kernel
theorem dX11_forget_51 : decode cX11_forget 51 = .ok (.invokevirtual 299, 3) := by decide +kernel
theorem dX11_forget_54 : decode cX11_forget 54 = .ok (.iload_n 1, 1) := by decide +kernel
theorem dX11_forget_55 : decode cX11_forget 55 = .ok (.ireturn, 1) := by decide +kernel
theorem dX4_agrees_0 : decode cX4_agrees 0 = .ok (.iconst 0, 1) := by decide +kernel
theorem dX4_agrees_1 : decode cX4_agrees 1 = .ok (.istore_n 2, 1) := by decide +kernel
theorem dX4_agrees_2 : decode cX4_agrees 2 = .ok (.iload_n 2, 1) := by decide +kernel
theorem dX4_agrees_3 : decode cX4_agrees 3 = .ok (.aload_n 0, 1) := by decide +kernel
theorem dX4_agrees_4 : decode cX4_agrees 4 = .ok (.getfield 37, 3) := by decide +kernel
theorem dX4_agrees_7 : decode cX4_agrees 7 = .ok (.if_icmp .ge 36, 3) := by decide +kernel
theorem dX4_agrees_10 : decode cX4_agrees 10 = .ok (.iload_n 1, 1) := by decide +kernel
theorem dX4_agrees_11 : decode cX4_agrees 11 = .ok (.aload_n 0, 1) := by decide +kernel
theorem dX4_agrees_12 : decode cX4_agrees 12 = .ok (.getfield 9, 3) := by decide +kernel
theorem dX4_agrees_15 : decode cX4_agrees 15 = .ok (.aload_n 0, 1) := by decide +kernel
theorem dX4_agrees_16 : decode cX4_agrees 16 = .ok (.getfield 18, 3) := by decide +kernel
theorem dX4_agrees_19 : decode cX4_agrees 19 = .ok (.iload_n 2, 1) := by decide +kernel
theorem dX4_agrees_20 : decode cX4_agrees 20 = .ok (.iaload, 1) := by decide +kernel
theorem dX4_agrees_21 : decode cX4_agrees 21 = .ok (.iaload, 1) := by decide +kernel
theorem dX4_agrees_22 : decode cX4_agrees 22 = .ok (.iand, 1) := by decide +kernel
theorem dX4_agrees_23 : decode cX4_agrees 23 = .ok (.invokestatic 46, 3) := by decide +kernel
theorem dX4_agrees_26 : decode cX4_agrees 26 = .ok (.aload_n 0, 1) := by decide +kernel
theorem dX4_agrees_27 : decode cX4_agrees 27 = .ok (.getfield 21, 3) := by decide +kernel
theorem dX4_agrees_30 : decode cX4_agrees 30 = .ok (.iload_n 2, 1) := by decide +kernel
theorem dX4_agrees_31 : decode cX4_agrees 31 = .ok (.iaload, 1) := by decide +kernel
theorem dX4_agrees_32 : decode cX4_agrees 32 = .ok (.if_icmp .eq 5, 3) := by decide +kernel
theorem dX4_agrees_35 : decode cX4_agrees 35 = .ok (.iconst 0, 1) := by decide +kernel
theorem dX4_agrees_36 : decode cX4_agrees 36 = .ok (.ireturn, 1) := by decide +kernel
theorem dX4_agrees_37 : decode cX4_agrees 37 = .ok (.iinc 2 1, 3) := by decide +kernel
theorem dX4_agrees_40 : decode cX4_agrees 40 = .ok (.goto (-38), 3) := by decide +kernel
theorem dX4_agrees_43 : decode cX4_agrees 43 = .ok (.iconst 1, 1) := by decide +kernel
theorem dX4_agrees_44 : decode cX4_agrees 44 = .ok (.ireturn, 1) := by decide +kernel
theorem dX4_fittingAt_0 : decode cX4_fittingAt 0 = .ok (.iload_n 1, 1) := by decide +kernel
theorem dX4_fittingAt_1 : decode cX4_fittingAt 1 = .ok (.istore_n 2, 1) := by decide +kernel
theorem dX4_fittingAt_2 : decode cX4_fittingAt 2 = .ok (.iconst 0, 1) := by decide +kernel
theorem dX4_fittingAt_3 : decode cX4_fittingAt 3 = .ok (.istore_n 3, 1) := by decide +kernel
theorem dX4_fittingAt_4 : decode cX4_fittingAt 4 = .ok (.iload_n 3, 1) := by decide +kernel
theorem dX4_fittingAt_5 : decode cX4_fittingAt 5 = .ok (.iconst 1, 1) := by decide +kernel
theorem dX4_fittingAt_6 : decode cX4_fittingAt 6 = .ok (.aload_n 0, 1) := by decide +kernel
theorem dX4_fittingAt_7 : decode cX4_fittingAt 7 = .ok (.getfield 33, 3) := by decide +kernel
theorem dX4_fittingAt_10 : decode cX4_fittingAt 10 = .ok (.ishl, 1) := by decide +kernel
theorem dX4_fittingAt_11 : decode cX4_fittingAt 11 = .ok (.if_icmp .ge 26, 3) := by decide +kernel
theorem dX4_fittingAt_14 : decode cX4_fittingAt 14 = .ok (.aload_n 0, 1) := by decide +kernel
theorem dX4_fittingAt_15 : decode cX4_fittingAt 15 = .ok (.iload_n 3, 1) := by decide +kernel
theorem dX4_fittingAt_16 : decode cX4_fittingAt 16 = .ok (.invokevirtual 56, 3) := by decide +kernel
theorem dX4_fittingAt_19 : decode cX4_fittingAt 19 = .ok (.ifCond .eq 12, 3) := by decide +kernel
theorem dX4_fittingAt_22 : decode cX4_fittingAt 22 = .ok (.iload_n 2, 1) := by decide +kernel
theorem dX4_fittingAt_23 : decode cX4_fittingAt 23 = .ok (.ifCond .ne 5, 3) := by decide +kernel
theorem dX4_fittingAt_26 : decode cX4_fittingAt 26 = .ok (.iload_n 3, 1) := by decide +kernel
theorem dX4_fittingAt_27 : decode cX4_fittingAt 27 = .ok (.ireturn, 1) := by decide +kernel
theorem dX4_fittingAt_28 : decode cX4_fittingAt 28 = .ok (.iinc 2 (-1), 3) := by decide +kernel
theorem dX4_fittingAt_31 : decode cX4_fittingAt 31 = .ok (.iinc 3 1, 3) := by decide +kernel
theorem dX4_fittingAt_34 : decode cX4_fittingAt 34 = .ok (.goto (-30), 3) := by decide +kernel
theorem dX4_fittingAt_37 : decode cX4_fittingAt 37 = .ok (.iconst (-1), 1) := by decide +kernel
theorem dX4_fittingAt_38 : decode cX4_fittingAt 38 = .ok (.ireturn, 1) := by decide +kernel
theorem dX4_countFitting_0 : decode cX4_countFitting 0 = .ok (.iconst 0, 1) := by decide +kernel
theorem dX4_countFitting_1 : decode cX4_countFitting 1 = .ok (.istore_n 1, 1) := by decide +kernel
theorem dX4_countFitting_2 : decode cX4_countFitting 2 = .ok (.iconst 0, 1) := by decide +kernel
theorem dX4_countFitting_3 : decode cX4_countFitting 3 = .ok (.istore_n 2, 1) := by decide +kernel
theorem dX4_countFitting_4 : decode cX4_countFitting 4 = .ok (.iload_n 2, 1) := by decide +kernel
theorem dX4_countFitting_5 : decode cX4_countFitting 5 = .ok (.iconst 1, 1) := by decide +kernel
theorem dX4_countFitting_6 : decode cX4_countFitting 6 = .ok (.aload_n 0, 1) := by decide +kernel
theorem dX4_countFitting_7 : decode cX4_countFitting 7 = .ok (.getfield 33, 3) := by decide +kernel
theorem dX4_countFitting_10 : decode cX4_countFitting 10 = .ok (.ishl, 1) := by decide +kernel
theorem dX4_countFitting_11 : decode cX4_countFitting 11 = .ok (.if_icmp .ge 20, 3) := by decide +kernel
theorem dX4_countFitting_14 : decode cX4_countFitting 14 = .ok (.iload_n 1, 1) := by decide +kernel
theorem dX4_countFitting_15 : decode cX4_countFitting 15 = .ok (.aload_n 0, 1) := by decide +kernel
theorem dX4_countFitting_16 : decode cX4_countFitting 16 = .ok (.iload_n 2, 1) := by decide +kernel
theorem dX4_countFitting_17 : decode cX4_countFitting 17 = .ok (.invokevirtual 56, 3) := by decide +kernel
theorem dX4_countFitting_20 : decode cX4_countFitting 20 = .ok (.invokestatic 59, 3) := by decide +kernel
theorem dX4_countFitting_23 : decode cX4_countFitting 23 = .ok (.iadd, 1) := by decide +kernel
theorem dX4_countFitting_24 : decode cX4_countFitting 24 = .ok (.istore_n 1, 1) := by decide +kernel
theorem dX4_countFitting_25 : decode cX4_countFitting 25 = .ok (.iinc 2 1, 3) := by decide +kernel
theorem dX4_countFitting_28 : decode cX4_countFitting 28 = .ok (.goto (-24), 3) := by decide +kernel
theorem dX4_countFitting_31 : decode cX4_countFitting 31 = .ok (.iload_n 1, 1) := by decide +kernel
theorem dX4_countFitting_32 : decode cX4_countFitting 32 = .ok (.ireturn, 1) := by decide +kernel
theorem dX11_fits_0 : decode cX11_fits 0 = .ok (.iload_n 1, 1) := by decide +kernel
theorem dX11_fits_1 : decode cX11_fits 1 = .ok (.iconst (-1), 1) := by decide +kernel
theorem dX11_fits_2 : decode cX11_fits 2 = .ok (.if_icmp .ne 14, 3) := by decide +kernel
theorem dX11_fits_5 : decode cX11_fits 5 = .ok (.aload_n 0, 1) := by decide +kernel
theorem dX11_fits_6 : decode cX11_fits 6 = .ok (.getfield 10, 3) := by decide +kernel
theorem dX11_fits_9 : decode cX11_fits 9 = .ok (.getfield 270, 3) := by decide +kernel
theorem dX11_fits_12 : decode cX11_fits 12 = .ok (.invokevirtual 302, 3) := by decide +kernel
theorem dX11_fits_15 : decode cX11_fits 15 = .ok (.ireturn, 1) := by decide +kernel
theorem dX11_fits_16 : decode cX11_fits 16 = .ok (.iload_n 1, 1) := by decide +kernel
theorem dX11_fits_17 : decode cX11_fits 17 = .ok (.ifCond .ge 7, 3) := by decide +kernel
theorem dX11_fits_20 : decode cX11_fits 20 = .ok (.iconst (-1), 1) := by decide +kernel
theorem dX11_fits_21 : decode cX11_fits 21 = .ok (.goto 14, 3) := by decide +kernel
theorem dX11_fits_24 : decode cX11_fits 24 = .ok (.aload_n 0, 1) := by decide +kernel
theorem dX11_fits_25 : decode cX11_fits 25 = .ok (.getfield 10, 3) := by decide +kernel
theorem dX11_fits_28 : decode cX11_fits 28 = .ok (.getfield 270, 3) := by decide +kernel
theorem dX11_fits_31 : decode cX11_fits 31 = .ok (.iload_n 1, 1) := by decide +kernel
theorem dX11_fits_32 : decode cX11_fits 32 = .ok (.invokevirtual 305, 3) := by decide +kernel
theorem dX11_fits_35 : decode cX11_fits 35 = .ok (.ireturn, 1) := by decide +kernel
theorem dX4_tallyFitting_0 : decode cX4_tallyFitting 0 = .ok (.aload_n 0, 1) := by decide +kernel
theorem dX4_tallyFitting_1 : decode cX4_tallyFitting 1 = .ok (.getfield 24, 3) := by decide +kernel
theorem dX4_tallyFitting_4 : decode cX4_tallyFitting 4 = .ok (.iconst 0, 1) := by decide +kernel
theorem dX4_tallyFitting_5 : decode cX4_tallyFitting 5 = .ok (.invokestatic 40, 3) := by decide +kernel
theorem dX4_tallyFitting_8 : decode cX4_tallyFitting 8 = .ok (.iconst 0, 1) := by decide +kernel
theorem dX4_tallyFitting_9 : decode cX4_tallyFitting 9 = .ok (.istore_n 1, 1) := by decide +kernel
theorem dX4_tallyFitting_10 : decode cX4_tallyFitting 10 = .ok (.iload_n 1, 1) := by decide +kernel
theorem dX4_tallyFitting_11 : decode cX4_tallyFitting 11 = .ok (.iconst 1, 1) := by decide +kernel
theorem dX4_tallyFitting_12 : decode cX4_tallyFitting 12 = .ok (.aload_n 0, 1) := by decide +kernel
theorem dX4_tallyFitting_13 : decode cX4_tallyFitting 13 = .ok (.getfield 33, 3) := by decide +kernel
theorem dX4_tallyFitting_16 : decode cX4_tallyFitting 16 = .ok (.ishl, 1) := by decide +kernel
theorem dX4_tallyFitting_17 : decode cX4_tallyFitting 17 = .ok (.if_icmp .ge 56, 3) := by decide +kernel
theorem dX4_tallyFitting_20 : decode cX4_tallyFitting 20 = .ok (.aload_n 0, 1) := by decide +kernel
theorem dX4_tallyFitting_21 : decode cX4_tallyFitting 21 = .ok (.iload_n 1, 1) := by decide +kernel
theorem dX4_tallyFitting_22 : decode cX4_tallyFitting 22 = .ok (.invokevirtual 56, 3) := by decide +kernel
theorem dX4_tallyFitting_25 : decode cX4_tallyFitting 25 = .ok (.ifCond .eq 42, 3) := by decide +kernel
theorem dX4_tallyFitting_28 : decode cX4_tallyFitting 28 = .ok (.iconst 0, 1) := by decide +kernel
theorem dX4_tallyFitting_29 : decode cX4_tallyFitting 29 = .ok (.istore_n 2, 1) := by decide +kernel
theorem dX4_tallyFitting_30 : decode cX4_tallyFitting 30 = .ok (.iload_n 2, 1) := by decide +kernel
theorem dX4_tallyFitting_31 : decode cX4_tallyFitting 31 = .ok (.bipush 6, 2) := by decide +kernel
theorem dX4_tallyFitting_33 : decode cX4_tallyFitting 33 = .ok (.if_icmp .ge 34, 3) := by decide +kernel
theorem dX4_tallyFitting_36 : decode cX4_tallyFitting 36 = .ok (.aload_n 0, 1) := by decide +kernel
theorem dX4_tallyFitting_37 : decode cX4_tallyFitting 37 = .ok (.getfield 24, 3) := by decide +kernel
theorem dX4_tallyFitting_40 : decode cX4_tallyFitting 40 = .ok (.iload_n 2, 1) := by decide +kernel
theorem dX4_tallyFitting_41 : decode cX4_tallyFitting 41 = .ok (.bipush 11, 2) := by decide +kernel
theorem dX4_tallyFitting_43 : decode cX4_tallyFitting 43 = .ok (.imul, 1) := by decide +kernel
theorem dX4_tallyFitting_44 : decode cX4_tallyFitting 44 = .ok (.iload_n 1, 1) := by decide +kernel
theorem dX4_tallyFitting_45 : decode cX4_tallyFitting 45 = .ok (.aload_n 0, 1) := by decide +kernel
theorem dX4_tallyFitting_46 : decode cX4_tallyFitting 46 = .ok (.getfield 9, 3) := by decide +kernel
theorem dX4_tallyFitting_49 : decode cX4_tallyFitting 49 = .ok (.iload_n 2, 1) := by decide +kernel
theorem dX4_tallyFitting_50 : decode cX4_tallyFitting 50 = .ok (.iaload, 1) := by decide +kernel
theorem dX4_tallyFitting_51 : decode cX4_tallyFitting 51 = .ok (.iand, 1) := by decide +kernel
theorem dX4_tallyFitting_52 : decode cX4_tallyFitting 52 = .ok (.invokestatic 46, 3) := by decide +kernel
theorem dX4_tallyFitting_55 : decode cX4_tallyFitting 55 = .ok (.iadd, 1) := by decide +kernel
theorem dX4_tallyFitting_56 : decode cX4_tallyFitting 56 = .ok (.dup2, 1) := by decide +kernel
theorem dX4_tallyFitting_57 : decode cX4_tallyFitting 57 = .ok (.iaload, 1) := by decide +kernel
theorem dX4_tallyFitting_58 : decode cX4_tallyFitting 58 = .ok (.iconst 1, 1) := by decide +kernel
theorem dX4_tallyFitting_59 : decode cX4_tallyFitting 59 = .ok (.iadd, 1) := by decide +kernel
theorem dX4_tallyFitting_60 : decode cX4_tallyFitting 60 = .ok (.iastore, 1) := by decide +kernel
theorem dX4_tallyFitting_61 : decode cX4_tallyFitting 61 = .ok (.iinc 2 1, 3) := by decide +kernel
theorem dX4_tallyFitting_64 : decode cX4_tallyFitting 64 = .ok (.goto (-34), 3) := by decide +kernel
theorem dX4_tallyFitting_67 : decode cX4_tallyFitting 67 = .ok (.iinc 1 1, 3) := by decide +kernel
theorem dX4_tallyFitting_70 : decode cX4_tallyFitting 70 = .ok (.goto (-60), 3) := by decide +kernel
theorem dX4_tallyFitting_73 : decode cX4_tallyFitting 73 = .ok (.return_, 1) := by decide +kernel
theorem dX4_mostAlike_0 : decode cX4_mostAlike 0 = .ok (.iconst 0, 1) := by decide +kernel
theorem dX4_mostAlike_1 : decode cX4_mostAlike 1 = .ok (.istore_n 2, 1) := by decide +kernel
theorem dX4_mostAlike_2 : decode cX4_mostAlike 2 = .ok (.iconst 0, 1) := by decide +kernel
theorem dX4_mostAlike_3 : decode cX4_mostAlike 3 = .ok (.istore_n 3, 1) := by decide +kernel
theorem dX4_mostAlike_4 : decode cX4_mostAlike 4 = .ok (.iload_n 3, 1) := by decide +kernel
theorem dX4_mostAlike_5 : decode cX4_mostAlike 5 = .ok (.bipush 10, 2) := by decide +kernel
theorem dX4_mostAlike_7 : decode cX4_mostAlike 7 = .ok (.if_icmp .gt 25, 3) := by decide +kernel
theorem dX4_mostAlike_10 : decode cX4_mostAlike 10 = .ok (.iload_n 2, 1) := by decide +kernel
theorem dX4_mostAlike_11 : decode cX4_mostAlike 11 = .ok (.aload_n 0, 1) := by decide +kernel
theorem dX4_mostAlike_12 : decode cX4_mostAlike 12 = .ok (.getfield 24, 3) := by decide +kernel
theorem dX4_mostAlike_15 : decode cX4_mostAlike 15 = .ok (.iload_n 1, 1) := by decide +kernel
theorem dX4_mostAlike_16 : decode cX4_mostAlike 16 = .ok (.bipush 11, 2) := by decide +kernel
theorem dX4_mostAlike_18 : decode cX4_mostAlike 18 = .ok (.imul, 1) := by decide +kernel
theorem dX4_mostAlike_19 : decode cX4_mostAlike 19 = .ok (.iload_n 3, 1) := by decide +kernel
theorem dX4_mostAlike_20 : decode cX4_mostAlike 20 = .ok (.iadd, 1) := by decide +kernel
theorem dX4_mostAlike_21 : decode cX4_mostAlike 21 = .ok (.iaload, 1) := by decide +kernel
theorem dX4_mostAlike_22 : decode cX4_mostAlike 22 = .ok (.invokestatic 63, 3) := by decide +kernel
theorem dX4_mostAlike_25 : decode cX4_mostAlike 25 = .ok (.istore_n 2, 1) := by decide +kernel
theorem dX4_mostAlike_26 : decode cX4_mostAlike 26 = .ok (.iinc 3 1, 3) := by decide +kernel
theorem dX4_mostAlike_29 : decode cX4_mostAlike 29 = .ok (.goto (-25), 3) := by decide +kernel
theorem dX4_mostAlike_32 : decode cX4_mostAlike 32 = .ok (.iload_n 2, 1) := by decide +kernel
theorem dX4_mostAlike_33 : decode cX4_mostAlike 33 = .ok (.ireturn, 1) := by decide +kernel
theorem dX11_next_0 : decode cX11_next 0 = .ok (.iload_n 1, 1) := by decide +kernel
theorem dX11_next_1 : decode cX11_next 1 = .ok (.iconst 0, 1) := by decide +kernel
theorem dX11_next_2 : decode cX11_next 2 = .ok (.iconst 1, 1) := by decide +kernel
theorem dX11_next_3 : decode cX11_next 3 = .ok (.invokestatic 122, 3) := by decide +kernel
theorem dX11_next_6 : decode cX11_next 6 = .ok (.ifCond .ne 5, 3) := by decide +kernel
theorem dX11_next_9 : decode cX11_next 9 = .ok (.iconst (-1), 1) := by decide +kernel
theorem dX11_next_10 : decode cX11_next 10 = .ok (.ireturn, 1) := by decide +kernel
theorem dX11_next_11 : decode cX11_next 11 = .ok (.aload_n 0, 1) := by decide +kernel
theorem dX11_next_12 : decode cX11_next 12 = .ok (.getfield 10, 3) := by decide +kernel
theorem dX11_next_15 : decode cX11_next 15 = .ok (.getfield 270, 3) := by decide +kernel
theorem dX11_next_18 : decode cX11_next 18 = .ok (.invokevirtual 308, 3) := by decide +kernel
theorem dX11_next_21 : decode cX11_next 21 = .ok (.iconst 0, 1) := by decide +kernel
theorem dX11_next_22 : decode cX11_next 22 = .ok (.istore_n 2, 1) := by decide +kernel
theorem dX11_next_23 : decode cX11_next 23 = .ok (.iconst 1, 1) := by decide +kernel
theorem dX11_next_24 : decode cX11_next 24 = .ok (.istore_n 3, 1) := by decide +kernel
theorem dX11_next_25 : decode cX11_next 25 = .ok (.iload_n 3, 1) := by decide +kernel
theorem dX11_next_26 : decode cX11_next 26 = .ok (.bipush 6, 2) := by decide +kernel
theorem dX11_next_28 : decode cX11_next 28 = .ok (.if_icmp .ge 36, 3) := by decide +kernel
theorem dX11_next_31 : decode cX11_next 31 = .ok (.aload_n 0, 1) := by decide +kernel
theorem dX11_next_32 : decode cX11_next 32 = .ok (.getfield 10, 3) := by decide +kernel
theorem dX11_next_35 : decode cX11_next 35 = .ok (.getfield 270, 3) := by decide +kernel
theorem dX11_next_38 : decode cX11_next 38 = .ok (.iload_n 3, 1) := by decide +kernel
theorem dX11_next_39 : decode cX11_next 39 = .ok (.invokevirtual 311, 3) := by decide +kernel
theorem dX11_next_42 : decode cX11_next 42 = .ok (.aload_n 0, 1) := by decide +kernel
theorem dX11_next_43 : decode cX11_next 43 = .ok (.getfield 10, 3) := by decide +kernel
theorem dX11_next_46 : decode cX11_next 46 = .ok (.getfield 270, 3) := by decide +kernel
theorem dX11_next_49 : decode cX11_next 49 = .ok (.iload_n 2, 1) := by decide +kernel
theorem dX11_next_50 : decode cX11_next 50 = .ok (.invokevirtual 311, 3) := by decide +kernel
theorem dX11_next_53 : decode cX11_next 53 = .ok (.if_icmp .ge 5, 3) := by decide +kernel
theorem dX11_next_56 : decode cX11_next 56 = .ok (.iload_n 3, 1) := by decide +kernel
theorem dX11_next_57 : decode cX11_next 57 = .ok (.istore_n 2, 1) := by decide +kernel
theorem dX11_next_58 : decode cX11_next 58 = .ok (.iinc 3 1, 3) := by decide +kernel
theorem dX11_next_61 : decode cX11_next 61 = .ok (.goto (-36), 3) := by decide +kernel
theorem dX11_next_64 : decode cX11_next 64 = .ok (.aload_n 0, 1) := by decide +kernel
theorem dX11_next_65 : decode cX11_next 65 = .ok (.getfield 10, 3) := by decide +kernel
theorem dX11_next_68 : decode cX11_next 68 = .ok (.getfield 270, 3) := by decide +kernel
theorem dX11_next_71 : decode cX11_next 71 = .ok (.iload_n 2, 1) := by decide +kernel
theorem dX11_next_72 : decode cX11_next 72 = .ok (.invokevirtual 311, 3) := by decide +kernel
theorem dX11_next_75 : decode cX11_next 75 = .ok (.istore_n 3, 1) := by decide +kernel
theorem dX11_next_76 : decode cX11_next 76 = .ok (.iload_n 3, 1) := by decide +kernel
theorem dX11_next_77 : decode cX11_next 77 = .ok (.ifCond .ne 7, 3) := by decide +kernel
theorem dX11_next_80 : decode cX11_next 80 = .ok (.iconst (-1), 1) := by decide +kernel
theorem dX11_next_81 : decode cX11_next 81 = .ok (.goto 12, 3) := by decide +kernel
theorem dX11_next_84 : decode cX11_next 84 = .ok (.iload_n 1, 1) := by decide +kernel
theorem dX11_next_85 : decode cX11_next 85 = .ok (.ifCond .ne 7, 3) := by decide +kernel
theorem dX11_next_88 : decode cX11_next 88 = .ok (.iload_n 2, 1) := by decide +kernel
theorem dX11_next_89 : decode cX11_next 89 = .ok (.goto 4, 3) := by decide +kernel
theorem dX11_next_92 : decode cX11_next 92 = .ok (.iload_n 3, 1) := by decide +kernel
theorem dX11_next_93 : decode cX11_next 93 = .ok (.ireturn, 1) := by decide +kernel
theorem dX3_draw_0 : decode cX3_draw 0 = .ok (.aload_n 0, 1) := by decide +kernel
theorem dX3_draw_1 : decode cX3_draw 1 = .ok (.aload_n 0, 1) := by decide +kernel
theorem dX3_draw_2 : decode cX3_draw 2 = .ok (.getfield 38, 3) := by decide +kernel
theorem dX3_draw_5 : decode cX3_draw 5 = .ok (.ldc2_w 55, 3) := by decide +kernel
theorem dX3_draw_8 : decode cX3_draw 8 = .ok (.lmul, 1) := by decide +kernel
theorem dX3_draw_9 : decode cX3_draw 9 = .ok (.ldc2_w 57, 3) := by decide +kernel
theorem dX3_draw_12 : decode cX3_draw 12 = .ok (.ladd, 1) := by decide +kernel
theorem dX3_draw_13 : decode cX3_draw 13 = .ok (.ldc2_w 59, 3) := by decide +kernel
theorem dX3_draw_16 : decode cX3_draw 16 = .ok (.lrem, 1) := by decide +kernel
theorem dX3_draw_17 : decode cX3_draw 17 = .ok (.putfield 38, 3) := by decide +kernel
theorem dX3_draw_20 : decode cX3_draw 20 = .ok (.iload_n 1, 1) := by decide +kernel
theorem dX3_draw_21 : decode cX3_draw 21 = .ok (.ifCond .gt 7, 3) := by decide +kernel
theorem dX3_draw_24 : decode cX3_draw 24 = .ok (.iconst 0, 1) := by decide +kernel
theorem dX3_draw_25 : decode cX3_draw 25 = .ok (.goto 11, 3) := by decide +kernel
theorem dX3_draw_28 : decode cX3_draw 28 = .ok (.aload_n 0, 1) := by decide +kernel
theorem dX3_draw_29 : decode cX3_draw 29 = .ok (.getfield 38, 3) := by decide +kernel
theorem dX3_draw_32 : decode cX3_draw 32 = .ok (.iload_n 1, 1) := by decide +kernel
theorem dX3_draw_33 : decode cX3_draw 33 = .ok (.i2l, 1) := by decide +kernel
theorem dX3_draw_34 : decode cX3_draw 34 = .ok (.lrem, 1) := by decide +kernel
theorem dX3_draw_35 : decode cX3_draw 35 = .ok (.l2i, 1) := by decide +kernel
theorem dX3_draw_36 : decode cX3_draw 36 = .ok (.ireturn, 1) := by decide +kernel
theorem dX3_runOnce_0 : decode cX3_runOnce 0 = .ok (.aload_n 0, 1) := by decide +kernel
theorem dX3_runOnce_1 : decode cX3_runOnce 1 = .ok (.aload_n 0, 1) := by decide +kernel
theorem dX3_runOnce_2 : decode cX3_runOnce 2 = .ok (.getfield 21, 3) := by decide +kernel
theorem dX3_runOnce_5 : decode cX3_runOnce 5 = .ok (.getfield 50, 3) := by decide +kernel
theorem dX3_runOnce_8 : decode cX3_runOnce 8 = .ok (.invokevirtual 61, 3) := by decide +kernel
theorem dX3_runOnce_11 : decode cX3_runOnce 11 = .ok (.istore_n 1, 1) := by decide +kernel
theorem dX3_runOnce_12 : decode cX3_runOnce 12 = .ok (.aload_n 0, 1) := by decide +kernel
theorem dX3_runOnce_13 : decode cX3_runOnce 13 = .ok (.bipush 99, 2) := by decide +kernel
theorem dX3_runOnce_15 : decode cX3_runOnce 15 = .ok (.invokevirtual 61, 3) := by decide +kernel
theorem dX3_runOnce_18 : decode cX3_runOnce 18 = .ok (.iconst 1, 1) := by decide +kernel
theorem dX3_runOnce_19 : decode cX3_runOnce 19 = .ok (.iadd, 1) := by decide +kernel
theorem dX3_runOnce_20 : decode cX3_runOnce 20 = .ok (.istore_n 2, 1) := by decide +kernel
theorem dX3_runOnce_21 : decode cX3_runOnce 21 = .ok (.aload_n 0, 1) := by decide +kernel
theorem dX3_runOnce_22 : decode cX3_runOnce 22 = .ok (.bipush 6, 2) := by decide +kernel
theorem dX3_runOnce_24 : decode cX3_runOnce 24 = .ok (.invokevirtual 61, 3) := by decide +kernel
theorem dX3_runOnce_27 : decode cX3_runOnce 27 = .ok (.istore_n 3, 1) := by decide +kernel
theorem dX3_runOnce_28 : decode cX3_runOnce 28 = .ok (.aload_n 0, 1) := by decide +kernel
theorem dX3_runOnce_29 : decode cX3_runOnce 29 = .ok (.getfield 21, 3) := by decide +kernel
theorem dX3_runOnce_32 : decode cX3_runOnce 32 = .ok (.iload_n 1, 1) := by decide +kernel
theorem dX3_runOnce_33 : decode cX3_runOnce 33 = .ok (.invokevirtual 65, 3) := by decide +kernel
theorem dX3_runOnce_36 : decode cX3_runOnce 36 = .ok (.ifCond .ne 5, 3) := by decide +kernel
theorem dX3_runOnce_39 : decode cX3_runOnce 39 = .ok (.iconst 0, 1) := by decide +kernel
theorem dX3_runOnce_40 : decode cX3_runOnce 40 = .ok (.ireturn, 1) := by decide +kernel
theorem dX3_runOnce_41 : decode cX3_runOnce 41 = .ok (.aload_n 0, 1) := by decide +kernel
theorem dX3_runOnce_42 : decode cX3_runOnce 42 = .ok (.getfield 21, 3) := by decide +kernel
theorem dX3_runOnce_45 : decode cX3_runOnce 45 = .ok (.getfield 29, 3) := by decide +kernel
theorem dX3_runOnce_48 : decode cX3_runOnce 48 = .ok (.getfield 69, 3) := by decide +kernel
theorem dX3_runOnce_51 : decode cX3_runOnce 51 = .ok (.iload_n 1, 1) := by decide +kernel
theorem dX3_runOnce_52 : decode cX3_runOnce 52 = .ok (.iaload, 1) := by decide +kernel
theorem dX3_runOnce_53 : decode cX3_runOnce 53 = .ok (.iload_n 3, 1) := by decide +kernel
theorem dX3_runOnce_54 : decode cX3_runOnce 54 = .ok (.ishr, 1) := by decide +kernel
theorem dX3_runOnce_55 : decode cX3_runOnce 55 = .ok (.iconst 1, 1) := by decide +kernel
theorem dX3_runOnce_56 : decode cX3_runOnce 56 = .ok (.iand, 1) := by decide +kernel
theorem dX3_runOnce_57 : decode cX3_runOnce 57 = .ok (.iconst 1, 1) := by decide +kernel
theorem dX3_runOnce_58 : decode cX3_runOnce 58 = .ok (.if_icmp .ne 7, 3) := by decide +kernel
theorem dX3_runOnce_61 : decode cX3_runOnce 61 = .ok (.iconst 1, 1) := by decide +kernel
theorem dX3_runOnce_62 : decode cX3_runOnce 62 = .ok (.goto 4, 3) := by decide +kernel
theorem dX3_runOnce_65 : decode cX3_runOnce 65 = .ok (.iconst 0, 1) := by decide +kernel
theorem dX3_runOnce_66 : decode cX3_runOnce 66 = .ok (.istore 4, 2) := by decide +kernel
theorem dX3_runOnce_68 : decode cX3_runOnce 68 = .ok (.iload 4, 2) := by decide +kernel
theorem dX3_runOnce_70 : decode cX3_runOnce 70 = .ok (.ifCond .eq 7, 3) := by decide +kernel
theorem dX3_runOnce_73 : decode cX3_runOnce 73 = .ok (.iconst 1, 1) := by decide +kernel
theorem dX3_runOnce_74 : decode cX3_runOnce 74 = .ok (.goto 4, 3) := by decide +kernel
theorem dX3_runOnce_77 : decode cX3_runOnce 77 = .ok (.iconst 0, 1) := by decide +kernel
theorem dX3_runOnce_78 : decode cX3_runOnce 78 = .ok (.istore 5, 2) := by decide +kernel
theorem dX3_runOnce_80 : decode cX3_runOnce 80 = .ok (.aload_n 0, 1) := by decide +kernel
theorem dX3_runOnce_81 : decode cX3_runOnce 81 = .ok (.getfield 25, 3) := by decide +kernel
theorem dX3_runOnce_84 : decode cX3_runOnce 84 = .ok (.iload 5, 2) := by decide +kernel
theorem dX3_runOnce_86 : decode cX3_runOnce 86 = .ok (.iload_n 1, 1) := by decide +kernel
theorem dX3_runOnce_87 : decode cX3_runOnce 87 = .ok (.iload_n 3, 1) := by decide +kernel
theorem dX3_runOnce_88 : decode cX3_runOnce 88 = .ok (.invokevirtual 75, 3) := by decide +kernel
theorem dX3_runOnce_91 : decode cX3_runOnce 91 = .ok (.ifCond .ne 15, 3) := by decide +kernel
theorem dX3_runOnce_94 : decode cX3_runOnce 94 = .ok (.aload_n 0, 1) := by decide +kernel
theorem dX3_runOnce_95 : decode cX3_runOnce 95 = .ok (.getfield 25, 3) := by decide +kernel
theorem dX3_runOnce_98 : decode cX3_runOnce 98 = .ok (.iload 5, 2) := by decide +kernel
theorem dX3_runOnce_100 : decode cX3_runOnce 100 = .ok (.iload_n 1, 1) := by decide +kernel
theorem dX3_runOnce_101 : decode cX3_runOnce 101 = .ok (.iload_n 3, 1) := by decide +kernel
theorem dX3_runOnce_102 : decode cX3_runOnce 102 = .ok (.invokevirtual 79, 3) := by decide +kernel
theorem dX3_runOnce_105 : decode cX3_runOnce 105 = .ok (.pop, 1) := by decide +kernel
theorem dX3_runOnce_106 : decode cX3_runOnce 106 = .ok (.aload_n 0, 1) := by decide +kernel
theorem dX3_runOnce_107 : decode cX3_runOnce 107 = .ok (.getfield 25, 3) := by decide +kernel
theorem dX3_runOnce_110 : decode cX3_runOnce 110 = .ok (.iconst 3, 1) := by decide +kernel
theorem dX3_runOnce_111 : decode cX3_runOnce 111 = .ok (.iload_n 1, 1) := by decide +kernel
theorem dX3_runOnce_112 : decode cX3_runOnce 112 = .ok (.iload_n 2, 1) := by decide +kernel
theorem dX3_runOnce_113 : decode cX3_runOnce 113 = .ok (.invokevirtual 75, 3) := by decide +kernel
theorem dX3_runOnce_116 : decode cX3_runOnce 116 = .ok (.ifCond .ne 20, 3) := by decide +kernel
theorem dX3_runOnce_119 : decode cX3_runOnce 119 = .ok (.aload_n 0, 1) := by decide +kernel
theorem dX3_runOnce_120 : decode cX3_runOnce 120 = .ok (.getfield 25, 3) := by decide +kernel
theorem dX3_runOnce_123 : decode cX3_runOnce 123 = .ok (.iload_n 1, 1) := by decide +kernel
theorem dX3_runOnce_124 : decode cX3_runOnce 124 = .ok (.iload_n 2, 1) := by decide +kernel
theorem dX3_runOnce_125 : decode cX3_runOnce 125 = .ok (.invokevirtual 82, 3) := by decide +kernel
theorem dX3_runOnce_128 : decode cX3_runOnce 128 = .ok (.iconst 1, 1) := by decide +kernel
theorem dX3_runOnce_129 : decode cX3_runOnce 129 = .ok (.if_icmp .ne 7, 3) := by decide +kernel
theorem dX3_runOnce_132 : decode cX3_runOnce 132 = .ok (.iconst 1, 1) := by decide +kernel
theorem dX3_runOnce_133 : decode cX3_runOnce 133 = .ok (.goto 4, 3) := by decide +kernel
theorem dX3_runOnce_136 : decode cX3_runOnce 136 = .ok (.iconst 0, 1) := by decide +kernel
theorem dX3_runOnce_137 : decode cX3_runOnce 137 = .ok (.ireturn, 1) := by decide +kernel
theorem dX3_run_0 : decode cX3_run 0 = .ok (.aload_n 0, 1) := by decide +kernel
theorem dX3_run_1 : decode cX3_run 1 = .ok (.getfield 12, 3) := by decide +kernel
theorem dX3_run_4 : decode cX3_run 4 = .ok (.aload_n 0, 1) := by decide +kernel
theorem dX3_run_5 : decode cX3_run 5 = .ok (.getfield 21, 3) := by decide +kernel
theorem dX3_run_8 : decode cX3_run 8 = .ok (.getfield 29, 3) := by decide +kernel
theorem dX3_run_11 : decode cX3_run 11 = .ok (.invokevirtual 34, 3) := by decide +kernel
theorem dX3_run_14 : decode cX3_run 14 = .ok (.aload_n 0, 1) := by decide +kernel
theorem dX3_run_15 : decode cX3_run 15 = .ok (.iload_n 1, 1) := by decide +kernel
theorem dX3_run_16 : decode cX3_run 16 = .ok (.i2l, 1) := by decide +kernel
theorem dX3_run_17 : decode cX3_run 17 = .ok (.putfield 38, 3) := by decide +kernel
theorem dX3_run_20 : decode cX3_run 20 = .ok (.iconst 0, 1) := by decide +kernel
theorem dX3_run_21 : decode cX3_run 21 = .ok (.istore_n 3, 1) := by decide +kernel
theorem dX3_run_22 : decode cX3_run 22 = .ok (.iconst 0, 1) := by decide +kernel
theorem dX3_run_23 : decode cX3_run 23 = .ok (.istore 4, 2) := by decide +kernel
theorem dX3_run_25 : decode cX3_run 25 = .ok (.iload 4, 2) := by decide +kernel
theorem dX3_run_27 : decode cX3_run 27 = .ok (.iload_n 2, 1) := by decide +kernel
theorem dX3_run_28 : decode cX3_run 28 = .ok (.if_icmp .ge 19, 3) := by decide +kernel
theorem dX3_run_31 : decode cX3_run 31 = .ok (.iload_n 3, 1) := by decide +kernel
theorem dX3_run_32 : decode cX3_run 32 = .ok (.aload_n 0, 1) := by decide +kernel
theorem dX3_run_33 : decode cX3_run 33 = .ok (.invokevirtual 42, 3) := by decide +kernel
theorem dX3_run_36 : decode cX3_run 36 = .ok (.invokestatic 46, 3) := by decide +kernel
theorem dX3_run_39 : decode cX3_run 39 = .ok (.iadd, 1) := by decide +kernel
theorem dX3_run_40 : decode cX3_run 40 = .ok (.istore_n 3, 1) := by decide +kernel
theorem dX3_run_41 : decode cX3_run 41 = .ok (.iinc 4 1, 3) := by decide +kernel
theorem dX3_run_44 : decode cX3_run 44 = .ok (.goto (-19), 3) := by decide +kernel
theorem dX3_run_47 : decode cX3_run 47 = .ok (.aload_n 0, 1) := by decide +kernel
theorem dX3_run_48 : decode cX3_run 48 = .ok (.getfield 18, 3) := by decide +kernel
theorem dX3_run_51 : decode cX3_run 51 = .ok (.aload_n 0, 1) := by decide +kernel
theorem dX3_run_52 : decode cX3_run 52 = .ok (.getfield 21, 3) := by decide +kernel
theorem dX3_run_55 : decode cX3_run 55 = .ok (.getfield 29, 3) := by decide +kernel
theorem dX3_run_58 : decode cX3_run 58 = .ok (.invokevirtual 34, 3) := by decide +kernel
theorem dX3_run_61 : decode cX3_run 61 = .ok (.aload_n 0, 1) := by decide +kernel
theorem dX3_run_62 : decode cX3_run 62 = .ok (.aload_n 0, 1) := by decide +kernel
theorem dX3_run_63 : decode cX3_run 63 = .ok (.getfield 21, 3) := by decide +kernel
theorem dX3_run_66 : decode cX3_run 66 = .ok (.getfield 50, 3) := by decide +kernel
theorem dX3_run_69 : decode cX3_run 69 = .ok (.putfield 54, 3) := by decide +kernel
theorem dX3_run_72 : decode cX3_run 72 = .ok (.aload_n 0, 1) := by decide +kernel
theorem dX3_run_73 : decode cX3_run 73 = .ok (.getfield 21, 3) := by decide +kernel
theorem dX3_run_76 : decode cX3_run 76 = .ok (.getfield 29, 3) := by decide +kernel
theorem dX3_run_79 : decode cX3_run 79 = .ok (.aload_n 0, 1) := by decide +kernel
theorem dX3_run_80 : decode cX3_run 80 = .ok (.getfield 12, 3) := by decide +kernel
theorem dX3_run_83 : decode cX3_run 83 = .ok (.invokevirtual 34, 3) := by decide +kernel
theorem dX3_run_86 : decode cX3_run 86 = .ok (.iload_n 3, 1) := by decide +kernel
theorem dX3_run_87 : decode cX3_run 87 = .ok (.ireturn, 1) := by decide +kernel
theorem dX11_sieges_0 : decode cX11_sieges 0 = .ok (.iload_n 1, 1) := by decide +kernel
theorem dX11_sieges_1 : decode cX11_sieges 1 = .ok (.iconst 0, 1) := by decide +kernel
theorem dX11_sieges_2 : decode cX11_sieges 2 = .ok (.ldc 234, 2) := by decide +kernel
theorem dX11_sieges_4 : decode cX11_sieges 4 = .ok (.invokestatic 122, 3) := by decide +kernel
theorem dX11_sieges_7 : decode cX11_sieges 7 = .ok (.ifCond .eq 13, 3) := by decide +kernel
theorem dX11_sieges_10 : decode cX11_sieges 10 = .ok (.iload_n 2, 1) := by decide +kernel
theorem dX11_sieges_11 : decode cX11_sieges 11 = .ok (.iconst 1, 1) := by decide +kernel
theorem dX11_sieges_12 : decode cX11_sieges 12 = .ok (.bipush 60, 2) := by decide +kernel
theorem dX11_sieges_14 : decode cX11_sieges 14 = .ok (.invokestatic 122, 3) := by decide +kernel
theorem dX11_sieges_17 : decode cX11_sieges 17 = .ok (.ifCond .ne 9, 3) := by decide +kernel
theorem dX11_sieges_20 : decode cX11_sieges 20 = .ok (.aload_n 0, 1) := by decide +kernel
theorem dX11_sieges_21 : decode cX11_sieges 21 = .ok (.iconst (-1), 1) := by decide +kernel
theorem dX11_sieges_22 : decode cX11_sieges 22 = .ok (.invokevirtual 126, 3) := by decide +kernel
theorem dX11_sieges_25 : decode cX11_sieges 25 = .ok (.ireturn, 1) := by decide +kernel
theorem dX11_sieges_26 : decode cX11_sieges 26 = .ok (.aload_n 0, 1) := by decide +kernel
theorem dX11_sieges_27 : decode cX11_sieges 27 = .ok (.getfield 10, 3) := by decide +kernel
theorem dX11_sieges_30 : decode cX11_sieges 30 = .ok (.getfield 314, 3) := by decide +kernel
theorem dX11_sieges_33 : decode cX11_sieges 33 = .ok (.ifCond .ne 12, 3) := by decide +kernel
theorem dX11_sieges_36 : decode cX11_sieges 36 = .ok (.aload_n 0, 1) := by decide +kernel
theorem dX11_sieges_37 : decode cX11_sieges 37 = .ok (.bipush (-3), 2) := by decide +kernel
theorem dX11_sieges_39 : decode cX11_sieges 39 = .ok (.invokevirtual 126, 3) := by decide +kernel
theorem dX11_sieges_42 : decode cX11_sieges 42 = .ok (.goto 16, 3) := by decide +kernel
theorem dX11_sieges_45 : decode cX11_sieges 45 = .ok (.aload_n 0, 1) := by decide +kernel
theorem dX11_sieges_46 : decode cX11_sieges 46 = .ok (.aload_n 0, 1) := by decide +kernel
theorem dX11_sieges_47 : decode cX11_sieges 47 = .ok (.getfield 71, 3) := by decide +kernel
theorem dX11_sieges_50 : decode cX11_sieges 50 = .ok (.iload_n 1, 1) := by decide +kernel
theorem dX11_sieges_51 : decode cX11_sieges 51 = .ok (.iload_n 2, 1) := by decide +kernel
theorem dX11_sieges_52 : decode cX11_sieges 52 = .ok (.invokevirtual 317, 3) := by decide +kernel
theorem dX11_sieges_55 : decode cX11_sieges 55 = .ok (.invokevirtual 93, 3) := by decide +kernel
theorem dX11_sieges_58 : decode cX11_sieges 58 = .ok (.ireturn, 1) := by decide +kernel
theorem dX11_drawn_0 : decode cX11_drawn 0 = .ok (.iload_n 2, 1) := by decide +kernel
theorem dX11_drawn_1 : decode cX11_drawn 1 = .ok (.iconst 3, 1) := by decide +kernel
theorem dX11_drawn_2 : decode cX11_drawn 2 = .ok (.if_icmp .ne 7, 3) := by decide +kernel
theorem dX11_drawn_5 : decode cX11_drawn 5 = .ok (.iconst 1, 1) := by decide +kernel
theorem dX11_drawn_6 : decode cX11_drawn 6 = .ok (.goto 4, 3) := by decide +kernel
theorem dX11_drawn_9 : decode cX11_drawn 9 = .ok (.iconst 0, 1) := by decide +kernel
theorem dX11_drawn_10 : decode cX11_drawn 10 = .ok (.istore_n 3, 1) := by decide +kernel
theorem dX11_drawn_11 : decode cX11_drawn 11 = .ok (.aload_n 0, 1) := by decide +kernel
theorem dX11_drawn_12 : decode cX11_drawn 12 = .ok (.getfield 71, 3) := by decide +kernel
theorem dX11_drawn_15 : decode cX11_drawn 15 = .ok (.getfield 319, 3) := by decide +kernel
theorem dX11_drawn_18 : decode cX11_drawn 18 = .ok (.ifCond .eq 28, 3) := by decide +kernel
theorem dX11_drawn_21 : decode cX11_drawn 21 = .ok (.iload_n 1, 1) := by decide +kernel
theorem dX11_drawn_22 : decode cX11_drawn 22 = .ok (.iconst 0, 1) := by decide +kernel
theorem dX11_drawn_23 : decode cX11_drawn 23 = .ok (.iload_n 3, 1) := by decide +kernel
theorem dX11_drawn_24 : decode cX11_drawn 24 = .ok (.ifCond .eq 7, 3) := by decide +kernel
theorem dX11_drawn_27 : decode cX11_drawn 27 = .ok (.iconst 3, 1) := by decide +kernel
theorem dX11_drawn_28 : decode cX11_drawn 28 = .ok (.goto 12, 3) := by decide +kernel
theorem dX11_drawn_31 : decode cX11_drawn 31 = .ok (.aload_n 0, 1) := by decide +kernel
theorem dX11_drawn_32 : decode cX11_drawn 32 = .ok (.getfield 71, 3) := by decide +kernel
theorem dX11_drawn_35 : decode cX11_drawn 35 = .ok (.getfield 319, 3) := by decide +kernel
theorem dX11_drawn_38 : decode cX11_drawn 38 = .ok (.iconst 1, 1) := by decide +kernel
theorem dX11_drawn_39 : decode cX11_drawn 39 = .ok (.isub, 1) := by decide +kernel
theorem dX11_drawn_40 : decode cX11_drawn 40 = .ok (.invokestatic 122, 3) := by decide +kernel
theorem dX11_drawn_43 : decode cX11_drawn 43 = .ok (.ifCond .ne 5, 3) := by decide +kernel
theorem dX11_drawn_46 : decode cX11_drawn 46 = .ok (.iconst (-1), 1) := by decide +kernel
theorem dX11_drawn_47 : decode cX11_drawn 47 = .ok (.ireturn, 1) := by decide +kernel
theorem dX11_drawn_48 : decode cX11_drawn 48 = .ok (.iload_n 2, 1) := by decide +kernel
theorem dX11_drawn_49 : decode cX11_drawn 49 = .ok (.tableswitch 83 0 3 #[31, 44, 57, 70], 31) := by decide +kernel
theorem dX11_drawn_80 : decode cX11_drawn 80 = .ok (.aload_n 0, 1) := by decide +kernel
theorem dX11_drawn_81 : decode cX11_drawn 81 = .ok (.getfield 71, 3) := by decide +kernel
theorem dX11_drawn_84 : decode cX11_drawn 84 = .ok (.getfield 320, 3) := by decide +kernel
theorem dX11_drawn_87 : decode cX11_drawn 87 = .ok (.getfield 105, 3) := by decide +kernel
theorem dX11_drawn_90 : decode cX11_drawn 90 = .ok (.iload_n 1, 1) := by decide +kernel
theorem dX11_drawn_91 : decode cX11_drawn 91 = .ok (.iaload, 1) := by decide +kernel
theorem dX11_drawn_92 : decode cX11_drawn 92 = .ok (.ireturn, 1) := by decide +kernel
theorem dX11_drawn_93 : decode cX11_drawn 93 = .ok (.aload_n 0, 1) := by decide +kernel
theorem dX11_drawn_94 : decode cX11_drawn 94 = .ok (.getfield 71, 3) := by decide +kernel
theorem dX11_drawn_97 : decode cX11_drawn 97 = .ok (.getfield 320, 3) := by decide +kernel
theorem dX11_drawn_100 : decode cX11_drawn 100 = .ok (.getfield 116, 3) := by decide +kernel
theorem dX11_drawn_103 : decode cX11_drawn 103 = .ok (.iload_n 1, 1) := by decide +kernel
theorem dX11_drawn_104 : decode cX11_drawn 104 = .ok (.iaload, 1) := by decide +kernel
theorem dX11_drawn_105 : decode cX11_drawn 105 = .ok (.ireturn, 1) := by decide +kernel
theorem dX11_drawn_106 : decode cX11_drawn 106 = .ok (.aload_n 0, 1) := by decide +kernel
theorem dX11_drawn_107 : decode cX11_drawn 107 = .ok (.getfield 71, 3) := by decide +kernel
theorem dX11_drawn_110 : decode cX11_drawn 110 = .ok (.getfield 320, 3) := by decide +kernel
theorem dX11_drawn_113 : decode cX11_drawn 113 = .ok (.getfield 113, 3) := by decide +kernel
theorem dX11_drawn_116 : decode cX11_drawn 116 = .ok (.iload_n 1, 1) := by decide +kernel
theorem dX11_drawn_117 : decode cX11_drawn 117 = .ok (.iaload, 1) := by decide +kernel
theorem dX11_drawn_118 : decode cX11_drawn 118 = .ok (.ireturn, 1) := by decide +kernel
theorem dX11_drawn_119 : decode cX11_drawn 119 = .ok (.aload_n 0, 1) := by decide +kernel
theorem dX11_drawn_120 : decode cX11_drawn 120 = .ok (.getfield 71, 3) := by decide +kernel
theorem dX11_drawn_123 : decode cX11_drawn 123 = .ok (.getfield 320, 3) := by decide +kernel
theorem dX11_drawn_126 : decode cX11_drawn 126 = .ok (.getfield 135, 3) := by decide +kernel
theorem dX11_drawn_129 : decode cX11_drawn 129 = .ok (.iload_n 1, 1) := by decide +kernel
theorem dX11_drawn_130 : decode cX11_drawn 130 = .ok (.iaload, 1) := by decide +kernel
theorem dX11_drawn_131 : decode cX11_drawn 131 = .ok (.ireturn, 1) := by decide +kernel
theorem dX11_drawn_132 : decode cX11_drawn 132 = .ok (.iconst (-1), 1) := by decide +kernel
theorem dX11_drawn_133 : decode cX11_drawn 133 = .ok (.ireturn, 1) := by decide +kernel
theorem dX11_image_0 : decode cX11_image 0 = .ok (.iload_n 1, 1) := by decide +kernel
theorem dX11_image_1 : decode cX11_image 1 = .ok (.iconst 0, 1) := by decide +kernel
theorem dX11_image_2 : decode cX11_image 2 = .ok (.iconst 1, 1) := by decide +kernel
theorem dX11_image_3 : decode cX11_image 3 = .ok (.invokestatic 122, 3) := by decide +kernel
theorem dX11_image_6 : decode cX11_image 6 = .ok (.ifCond .ne 9, 3) := by decide +kernel
theorem dX11_image_9 : decode cX11_image 9 = .ok (.aload_n 0, 1) := by decide +kernel
theorem dX11_image_10 : decode cX11_image 10 = .ok (.iconst (-1), 1) := by decide +kernel
theorem dX11_image_11 : decode cX11_image 11 = .ok (.invokevirtual 126, 3) := by decide +kernel
theorem dX11_image_14 : decode cX11_image 14 = .ok (.ireturn, 1) := by decide +kernel
theorem dX11_image_15 : decode cX11_image 15 = .ok (.aload_n 0, 1) := by decide +kernel
theorem dX11_image_16 : decode cX11_image 16 = .ok (.getfield 16, 3) := by decide +kernel
theorem dX11_image_19 : decode cX11_image 19 = .ok (.iload_n 1, 1) := by decide +kernel
theorem dX11_image_20 : decode cX11_image 20 = .ok (.aaload, 1) := by decide +kernel
theorem dX11_image_21 : decode cX11_image 21 = .ok (.ifnonnull 16, 3) := by decide +kernel
theorem dX11_image_24 : decode cX11_image 24 = .ok (.aload_n 0, 1) := by decide +kernel
theorem dX11_image_25 : decode cX11_image 25 = .ok (.getfield 16, 3) := by decide +kernel
theorem dX11_image_28 : decode cX11_image 28 = .ok (.iload_n 1, 1) := by decide +kernel
theorem dX11_image_29 : decode cX11_image 29 = .ok (.new 7, 3) := by decide +kernel
theorem dX11_image_32 : decode cX11_image 32 = .ok (.dup, 1) := by decide +kernel
theorem dX11_image_33 : decode cX11_image 33 = .ok (.invokespecial 9, 3) := by decide +kernel
theorem dX11_image_36 : decode cX11_image 36 = .ok (.aastore, 1) := by decide +kernel
theorem dX11_image_37 : decode cX11_image 37 = .ok (.aload_n 0, 1) := by decide +kernel
theorem dX11_image_38 : decode cX11_image 38 = .ok (.getfield 16, 3) := by decide +kernel
theorem dX11_image_41 : decode cX11_image 41 = .ok (.iload_n 1, 1) := by decide +kernel
theorem dX11_image_42 : decode cX11_image 42 = .ok (.aaload, 1) := by decide +kernel
theorem dX11_image_43 : decode cX11_image 43 = .ok (.aload_n 0, 1) := by decide +kernel
theorem dX11_image_44 : decode cX11_image 44 = .ok (.getfield 10, 3) := by decide +kernel
theorem dX11_image_47 : decode cX11_image 47 = .ok (.invokevirtual 323, 3) := by decide +kernel
theorem dX11_image_50 : decode cX11_image 50 = .ok (.aload_n 0, 1) := by decide +kernel
theorem dX11_image_51 : decode cX11_image 51 = .ok (.iconst 0, 1) := by decide +kernel
theorem dX11_image_52 : decode cX11_image 52 = .ok (.invokevirtual 93, 3) := by decide +kernel
theorem dX11_image_55 : decode cX11_image 55 = .ok (.ireturn, 1) := by decide +kernel
theorem dX11_back_0 : decode cX11_back 0 = .ok (.iload_n 1, 1) := by decide +kernel
theorem dX11_back_1 : decode cX11_back 1 = .ok (.iconst 0, 1) := by decide +kernel
theorem dX11_back_2 : decode cX11_back 2 = .ok (.iconst 1, 1) := by decide +kernel
theorem dX11_back_3 : decode cX11_back 3 = .ok (.invokestatic 122, 3) := by decide +kernel
theorem dX11_back_6 : decode cX11_back 6 = .ok (.ifCond .ne 9, 3) := by decide +kernel
theorem dX11_back_9 : decode cX11_back 9 = .ok (.aload_n 0, 1) := by decide +kernel
theorem dX11_back_10 : decode cX11_back 10 = .ok (.iconst (-1), 1) := by decide +kernel
theorem dX11_back_11 : decode cX11_back 11 = .ok (.invokevirtual 126, 3) := by decide +kernel
theorem dX11_back_14 : decode cX11_back 14 = .ok (.ireturn, 1) := by decide +kernel
theorem dX11_back_15 : decode cX11_back 15 = .ok (.aload_n 0, 1) := by decide +kernel
theorem dX11_back_16 : decode cX11_back 16 = .ok (.getfield 16, 3) := by decide +kernel
theorem dX11_back_19 : decode cX11_back 19 = .ok (.iload_n 1, 1) := by decide +kernel
theorem dX11_back_20 : decode cX11_back 20 = .ok (.aaload, 1) := by decide +kernel
theorem dX11_back_21 : decode cX11_back 21 = .ok (.ifnonnull 10, 3) := by decide +kernel
theorem dX11_back_24 : decode cX11_back 24 = .ok (.aload_n 0, 1) := by decide +kernel
theorem dX11_back_25 : decode cX11_back 25 = .ok (.bipush (-2), 2) := by decide +kernel
theorem dX11_back_27 : decode cX11_back 27 = .ok (.invokevirtual 126, 3) := by decide +kernel
theorem dX11_back_30 : decode cX11_back 30 = .ok (.ireturn, 1) := by decide +kernel
theorem dX11_back_31 : decode cX11_back 31 = .ok (.aload_n 0, 1) := by decide +kernel
theorem dX11_back_32 : decode cX11_back 32 = .ok (.getfield 10, 3) := by decide +kernel
theorem dX11_back_35 : decode cX11_back 35 = .ok (.aload_n 0, 1) := by decide +kernel
theorem dX11_back_36 : decode cX11_back 36 = .ok (.getfield 16, 3) := by decide +kernel
theorem dX11_back_39 : decode cX11_back 39 = .ok (.iload_n 1, 1) := by decide +kernel
theorem dX11_back_40 : decode cX11_back 40 = .ok (.aaload, 1) := by decide +kernel
theorem dX11_back_41 : decode cX11_back 41 = .ok (.invokevirtual 323, 3) := by decide +kernel
theorem dX11_back_44 : decode cX11_back 44 = .ok (.aload_n 0, 1) := by decide +kernel
theorem dX11_back_45 : decode cX11_back 45 = .ok (.getfield 53, 3) := by decide +kernel
theorem dX11_back_48 : decode cX11_back 48 = .ok (.invokevirtual 90, 3) := by decide +kernel
theorem dX11_back_51 : decode cX11_back 51 = .ok (.aload_n 0, 1) := by decide +kernel
theorem dX11_back_52 : decode cX11_back 52 = .ok (.iconst 0, 1) := by decide +kernel
theorem dX11_back_53 : decode cX11_back 53 = .ok (.invokevirtual 93, 3) := by decide +kernel
theorem dX11_back_56 : decode cX11_back 56 = .ok (.ireturn, 1) := by decide +kernel
theorem dX6_takenForts_0 : decode cX6_takenForts 0 = .ok (.iconst 0, 1) := by decide +kernel
theorem dX6_takenForts_1 : decode cX6_takenForts 1 = .ok (.istore_n 1, 1) := by decide +kernel
theorem dX6_takenForts_2 : decode cX6_takenForts 2 = .ok (.iconst 0, 1) := by decide +kernel
theorem dX6_takenForts_3 : decode cX6_takenForts 3 = .ok (.istore_n 2, 1) := by decide +kernel
theorem dX6_takenForts_4 : decode cX6_takenForts 4 = .ok (.iload_n 2, 1) := by decide +kernel
theorem dX6_takenForts_5 : decode cX6_takenForts 5 = .ok (.aload_n 0, 1) := by decide +kernel
theorem dX6_takenForts_6 : decode cX6_takenForts 6 = .ok (.getfield 86, 3) := by decide +kernel
theorem dX6_takenForts_9 : decode cX6_takenForts 9 = .ok (.if_icmp .ge 21, 3) := by decide +kernel
theorem dX6_takenForts_12 : decode cX6_takenForts 12 = .ok (.iload_n 1, 1) := by decide +kernel
theorem dX6_takenForts_13 : decode cX6_takenForts 13 = .ok (.aload_n 0, 1) := by decide +kernel
theorem dX6_takenForts_14 : decode cX6_takenForts 14 = .ok (.getfield 12, 3) := by decide +kernel
theorem dX6_takenForts_17 : decode cX6_takenForts 17 = .ok (.getfield 105, 3) := by decide +kernel
theorem dX6_takenForts_20 : decode cX6_takenForts 20 = .ok (.iload_n 2, 1) := by decide +kernel
theorem dX6_takenForts_21 : decode cX6_takenForts 21 = .ok (.iaload, 1) := by decide +kernel
theorem dX6_takenForts_22 : decode cX6_takenForts 22 = .ok (.iadd, 1) := by decide +kernel
theorem dX6_takenForts_23 : decode cX6_takenForts 23 = .ok (.istore_n 1, 1) := by decide +kernel
theorem dX6_takenForts_24 : decode cX6_takenForts 24 = .ok (.iinc 2 1, 3) := by decide +kernel
theorem dX6_takenForts_27 : decode cX6_takenForts 27 = .ok (.goto (-23), 3) := by decide +kernel
theorem dX6_takenForts_30 : decode cX6_takenForts 30 = .ok (.iload_n 1, 1) := by decide +kernel
theorem dX6_takenForts_31 : decode cX6_takenForts 31 = .ok (.ireturn, 1) := by decide +kernel
theorem dX11_count_0 : decode cX11_count 0 = .ok (.iload_n 1, 1) := by decide +kernel
theorem dX11_count_1 : decode cX11_count 1 = .ok (.bipush 8, 2) := by decide +kernel
theorem dX11_count_3 : decode cX11_count 3 = .ok (.bipush 12, 2) := by decide +kernel
theorem dX11_count_5 : decode cX11_count 5 = .ok (.invokestatic 122, 3) := by decide +kernel
theorem dX11_count_8 : decode cX11_count 8 = .ok (.ifCond .eq 26, 3) := by decide +kernel
theorem dX11_count_11 : decode cX11_count 11 = .ok (.aload_n 0, 1) := by decide +kernel
theorem dX11_count_12 : decode cX11_count 12 = .ok (.getfield 75, 3) := by decide +kernel
theorem dX11_count_15 : decode cX11_count 15 = .ok (.iload_n 1, 1) := by decide +kernel
theorem dX11_count_16 : decode cX11_count 16 = .ok (.bipush 10, 2) := by decide +kernel
theorem dX11_count_18 : decode cX11_count 18 = .ok (.if_icmp .gt 10, 3) := by decide +kernel
theorem dX11_count_21 : decode cX11_count 21 = .ok (.iload_n 1, 1) := by decide +kernel
theorem dX11_count_22 : decode cX11_count 22 = .ok (.bipush 7, 2) := by decide +kernel
theorem dX11_count_24 : decode cX11_count 24 = .ok (.isub, 1) := by decide +kernel
theorem dX11_count_25 : decode cX11_count 25 = .ok (.goto 7, 3) := by decide +kernel
theorem dX11_count_28 : decode cX11_count 28 = .ok (.iload_n 1, 1) := by decide +kernel
theorem dX11_count_29 : decode cX11_count 29 = .ok (.bipush 6, 2) := by decide +kernel
theorem dX11_count_31 : decode cX11_count 31 = .ok (.isub, 1) := by decide +kernel
theorem dX11_count_32 : decode cX11_count 32 = .ok (.iaload, 1) := by decide +kernel
theorem dX11_count_33 : decode cX11_count 33 = .ok (.ireturn, 1) := by decide +kernel
theorem dX11_count_34 : decode cX11_count 34 = .ok (.iload_n 1, 1) := by decide +kernel
theorem dX11_count_35 : decode cX11_count 35 = .ok (.bipush 14, 2) := by decide +kernel
theorem dX11_count_37 : decode cX11_count 37 = .ok (.bipush 16, 2) := by decide +kernel
theorem dX11_count_39 : decode cX11_count 39 = .ok (.invokestatic 122, 3) := by decide +kernel
theorem dX11_count_42 : decode cX11_count 42 = .ok (.ifCond .eq 15, 3) := by decide +kernel
theorem dX11_count_45 : decode cX11_count 45 = .ok (.aload_n 0, 1) := by decide +kernel
theorem dX11_count_46 : decode cX11_count 46 = .ok (.getfield 10, 3) := by decide +kernel
theorem dX11_count_49 : decode cX11_count 49 = .ok (.iload_n 1, 1) := by decide +kernel
theorem dX11_count_50 : decode cX11_count 50 = .ok (.bipush 14, 2) := by decide +kernel
theorem dX11_count_52 : decode cX11_count 52 = .ok (.isub, 1) := by decide +kernel
theorem dX11_count_53 : decode cX11_count 53 = .ok (.invokevirtual 155, 3) := by decide +kernel
theorem dX11_count_56 : decode cX11_count 56 = .ok (.ireturn, 1) := by decide +kernel
theorem dX11_count_57 : decode cX11_count 57 = .ok (.iload_n 1, 1) := by decide +kernel
theorem dX11_count_58 : decode cX11_count 58 = .ok (.bipush 17, 2) := by decide +kernel
theorem dX11_count_60 : decode cX11_count 60 = .ok (.bipush 20, 2) := by decide +kernel
theorem dX11_count_62 : decode cX11_count 62 = .ok (.invokestatic 122, 3) := by decide +kernel
theorem dX11_count_65 : decode cX11_count 65 = .ok (.ifCond .eq 19, 3) := by decide +kernel
theorem dX11_count_68 : decode cX11_count 68 = .ok (.aload_n 0, 1) := by decide +kernel
theorem dX11_count_69 : decode cX11_count 69 = .ok (.getfield 10, 3) := by decide +kernel
theorem dX11_count_72 : decode cX11_count 72 = .ok (.getfield 101, 3) := by decide +kernel
theorem dX11_count_75 : decode cX11_count 75 = .ok (.getfield 135, 3) := by decide +kernel
theorem dX11_count_78 : decode cX11_count 78 = .ok (.iload_n 1, 1) := by decide +kernel
theorem dX11_count_79 : decode cX11_count 79 = .ok (.bipush 17, 2) := by decide +kernel
theorem dX11_count_81 : decode cX11_count 81 = .ok (.isub, 1) := by decide +kernel
theorem dX11_count_82 : decode cX11_count 82 = .ok (.iaload, 1) := by decide +kernel
theorem dX11_count_83 : decode cX11_count 83 = .ok (.ireturn, 1) := by decide +kernel
theorem dX11_count_84 : decode cX11_count 84 = .ok (.iload_n 1, 1) := by decide +kernel
theorem dX11_count_85 : decode cX11_count 85 = .ok (.tableswitch 152 0 13 #[71, 79, 87, 98, 109, 120, 128, 136, 152, 152, 152, 152, 152, 144], 71) := by decide +kernel
theorem dX11_count_156 : decode cX11_count 156 = .ok (.aload_n 0, 1) := by decide +kernel
theorem dX11_count_157 : decode cX11_count 157 = .ok (.getfield 10, 3) := by decide +kernel
theorem dX11_count_160 : decode cX11_count 160 = .ok (.getfield 314, 3) := by decide +kernel
theorem dX11_count_163 : decode cX11_count 163 = .ok (.ireturn, 1) := by decide +kernel
theorem dX11_count_164 : decode cX11_count 164 = .ok (.aload_n 0, 1) := by decide +kernel
theorem dX11_count_165 : decode cX11_count 165 = .ok (.getfield 10, 3) := by decide +kernel
theorem dX11_count_168 : decode cX11_count 168 = .ok (.invokevirtual 326, 3) := by decide +kernel
theorem dX11_count_171 : decode cX11_count 171 = .ok (.ireturn, 1) := by decide +kernel
theorem dX11_count_172 : decode cX11_count 172 = .ok (.aload_n 0, 1) := by decide +kernel
theorem dX11_count_173 : decode cX11_count 173 = .ok (.getfield 10, 3) := by decide +kernel
theorem dX11_count_176 : decode cX11_count 176 = .ok (.getfield 251, 3) := by decide +kernel
theorem dX11_count_179 : decode cX11_count 179 = .ok (.getfield 258, 3) := by decide +kernel
theorem dX11_count_182 : decode cX11_count 182 = .ok (.ireturn, 1) := by decide +kernel
theorem dX11_count_183 : decode cX11_count 183 = .ok (.aload_n 0, 1) := by decide +kernel
theorem dX11_count_184 : decode cX11_count 184 = .ok (.getfield 10, 3) := by decide +kernel
theorem dX11_count_187 : decode cX11_count 187 = .ok (.getfield 270, 3) := by decide +kernel
theorem dX11_count_190 : decode cX11_count 190 = .ok (.getfield 293, 3) := by decide +kernel
theorem dX11_count_193 : decode cX11_count 193 = .ok (.ireturn, 1) := by decide +kernel
theorem dX11_count_194 : decode cX11_count 194 = .ok (.aload_n 0, 1) := by decide +kernel
theorem dX11_count_195 : decode cX11_count 195 = .ok (.getfield 10, 3) := by decide +kernel
theorem dX11_count_198 : decode cX11_count 198 = .ok (.getfield 270, 3) := by decide +kernel
theorem dX11_count_201 : decode cX11_count 201 = .ok (.getfield 296, 3) := by decide +kernel
theorem dX11_count_204 : decode cX11_count 204 = .ok (.ireturn, 1) := by decide +kernel
theorem dX11_count_205 : decode cX11_count 205 = .ok (.aload_n 0, 1) := by decide +kernel
theorem dX11_count_206 : decode cX11_count 206 = .ok (.getfield 10, 3) := by decide +kernel
theorem dX11_count_209 : decode cX11_count 209 = .ok (.getfield 175, 3) := by decide +kernel
theorem dX11_count_212 : decode cX11_count 212 = .ok (.ireturn, 1) := by decide +kernel
theorem dX11_count_213 : decode cX11_count 213 = .ok (.aload_n 0, 1) := by decide +kernel
theorem dX11_count_214 : decode cX11_count 214 = .ok (.getfield 53, 3) := by decide +kernel
theorem dX11_count_217 : decode cX11_count 217 = .ok (.getfield 329, 3) := by decide +kernel
theorem dX11_count_220 : decode cX11_count 220 = .ok (.ireturn, 1) := by decide +kernel
theorem dX11_count_221 : decode cX11_count 221 = .ok (.aload_n 0, 1) := by decide +kernel
theorem dX11_count_222 : decode cX11_count 222 = .ok (.getfield 23, 3) := by decide +kernel
theorem dX11_count_225 : decode cX11_count 225 = .ok (.getfield 162, 3) := by decide +kernel
theorem dX11_count_228 : decode cX11_count 228 = .ok (.ireturn, 1) := by decide +kernel
theorem dX11_count_229 : decode cX11_count 229 = .ok (.aload_n 0, 1) := by decide +kernel
theorem dX11_count_230 : decode cX11_count 230 = .ok (.getfield 10, 3) := by decide +kernel
theorem dX11_count_233 : decode cX11_count 233 = .ok (.getfield 200, 3) := by decide +kernel
theorem dX11_count_236 : decode cX11_count 236 = .ok (.ireturn, 1) := by decide +kernel
theorem dX11_count_237 : decode cX11_count 237 = .ok (.iconst (-1), 1) := by decide +kernel
theorem dX11_count_238 : decode cX11_count 238 = .ok (.ireturn, 1) := by decide +kernel
theorem dX11_status_0 : decode cX11_status 0 = .ok (.aload_n 0, 1) := by decide +kernel
theorem dX11_status_1 : decode cX11_status 1 = .ok (.getfield 203, 3) := by decide +kernel
theorem dX11_status_4 : decode cX11_status 4 = .ok (.ireturn, 1) := by decide +kernel
theorem dX4_take_0 : decode cX4_take 0 = .ok (.aload_n 1, 1) := by decide +kernel
theorem dX4_take_1 : decode cX4_take 1 = .ok (.getfield 9, 3) := by decide +kernel
theorem dX4_take_4 : decode cX4_take 4 = .ok (.iconst 0, 1) := by decide +kernel
theorem dX4_take_5 : decode cX4_take 5 = .ok (.aload_n 0, 1) := by decide +kernel
theorem dX4_take_6 : decode cX4_take 6 = .ok (.getfield 9, 3) := by decide +kernel
theorem dX4_take_9 : decode cX4_take 9 = .ok (.iconst 0, 1) := by decide +kernel
theorem dX4_take_10 : decode cX4_take 10 = .ok (.bipush 6, 2) := by decide +kernel
theorem dX4_take_12 : decode cX4_take 12 = .ok (.invokestatic 27, 3) := by decide +kernel
theorem dX4_take_15 : decode cX4_take 15 = .ok (.aload_n 1, 1) := by decide +kernel
theorem dX4_take_16 : decode cX4_take 16 = .ok (.getfield 15, 3) := by decide +kernel
theorem dX4_take_19 : decode cX4_take 19 = .ok (.iconst 0, 1) := by decide +kernel
theorem dX4_take_20 : decode cX4_take 20 = .ok (.aload_n 0, 1) := by decide +kernel
theorem dX4_take_21 : decode cX4_take 21 = .ok (.getfield 15, 3) := by decide +kernel
theorem dX4_take_24 : decode cX4_take 24 = .ok (.iconst 0, 1) := by decide +kernel
theorem dX4_take_25 : decode cX4_take 25 = .ok (.bipush 6, 2) := by decide +kernel
theorem dX4_take_27 : decode cX4_take 27 = .ok (.invokestatic 27, 3) := by decide +kernel
theorem dX4_take_30 : decode cX4_take 30 = .ok (.aload_n 1, 1) := by decide +kernel
theorem dX4_take_31 : decode cX4_take 31 = .ok (.getfield 18, 3) := by decide +kernel
theorem dX4_take_34 : decode cX4_take 34 = .ok (.iconst 0, 1) := by decide +kernel
theorem dX4_take_35 : decode cX4_take 35 = .ok (.aload_n 0, 1) := by decide +kernel
theorem dX4_take_36 : decode cX4_take 36 = .ok (.getfield 18, 3) := by decide +kernel
theorem dX4_take_39 : decode cX4_take 39 = .ok (.iconst 0, 1) := by decide +kernel
theorem dX4_take_40 : decode cX4_take 40 = .ok (.bipush 8, 2) := by decide +kernel
theorem dX4_take_42 : decode cX4_take 42 = .ok (.invokestatic 27, 3) := by decide +kernel
theorem dX4_take_45 : decode cX4_take 45 = .ok (.aload_n 1, 1) := by decide +kernel
theorem dX4_take_46 : decode cX4_take 46 = .ok (.getfield 21, 3) := by decide +kernel
theorem dX4_take_49 : decode cX4_take 49 = .ok (.iconst 0, 1) := by decide +kernel
theorem dX4_take_50 : decode cX4_take 50 = .ok (.aload_n 0, 1) := by decide +kernel
theorem dX4_take_51 : decode cX4_take 51 = .ok (.getfield 21, 3) := by decide +kernel
theorem dX4_take_54 : decode cX4_take 54 = .ok (.iconst 0, 1) := by decide +kernel
theorem dX4_take_55 : decode cX4_take 55 = .ok (.bipush 8, 2) := by decide +kernel
theorem dX4_take_57 : decode cX4_take 57 = .ok (.invokestatic 27, 3) := by decide +kernel
theorem dX4_take_60 : decode cX4_take 60 = .ok (.aload_n 0, 1) := by decide +kernel
theorem dX4_take_61 : decode cX4_take 61 = .ok (.aload_n 1, 1) := by decide +kernel
theorem dX4_take_62 : decode cX4_take 62 = .ok (.getfield 33, 3) := by decide +kernel
theorem dX4_take_65 : decode cX4_take 65 = .ok (.putfield 33, 3) := by decide +kernel
theorem dX4_take_68 : decode cX4_take 68 = .ok (.aload_n 0, 1) := by decide +kernel
theorem dX4_take_69 : decode cX4_take 69 = .ok (.aload_n 1, 1) := by decide +kernel
theorem dX4_take_70 : decode cX4_take 70 = .ok (.getfield 37, 3) := by decide +kernel
theorem dX4_take_73 : decode cX4_take 73 = .ok (.putfield 37, 3) := by decide +kernel
theorem dX4_take_76 : decode cX4_take 76 = .ok (.return_, 1) := by decide +kernel
theorem dX1_take_0 : decode cX1_take 0 = .ok (.aload_n 1, 1) := by decide +kernel
theorem dX1_take_1 : decode cX1_take 1 = .ok (.getfield 11, 3) := by decide +kernel
theorem dX1_take_4 : decode cX1_take 4 = .ok (.iconst 0, 1) := by decide +kernel
theorem dX1_take_5 : decode cX1_take 5 = .ok (.aload_n 0, 1) := by decide +kernel
theorem dX1_take_6 : decode cX1_take 6 = .ok (.getfield 11, 3) := by decide +kernel
theorem dX1_take_9 : decode cX1_take 9 = .ok (.iconst 0, 1) := by decide +kernel
theorem dX1_take_10 : decode cX1_take 10 = .ok (.bipush 8, 2) := by decide +kernel
theorem dX1_take_12 : decode cX1_take 12 = .ok (.invokestatic 24, 3) := by decide +kernel
theorem dX1_take_15 : decode cX1_take 15 = .ok (.aload_n 1, 1) := by decide +kernel
theorem dX1_take_16 : decode cX1_take 16 = .ok (.getfield 15, 3) := by decide +kernel
theorem dX1_take_19 : decode cX1_take 19 = .ok (.iconst 0, 1) := by decide +kernel
theorem dX1_take_20 : decode cX1_take 20 = .ok (.aload_n 0, 1) := by decide +kernel
theorem dX1_take_21 : decode cX1_take 21 = .ok (.getfield 15, 3) := by decide +kernel
theorem dX1_take_24 : decode cX1_take 24 = .ok (.iconst 0, 1) := by decide +kernel
theorem dX1_take_25 : decode cX1_take 25 = .ok (.bipush 8, 2) := by decide +kernel
theorem dX1_take_27 : decode cX1_take 27 = .ok (.invokestatic 24, 3) := by decide +kernel
theorem dX1_take_30 : decode cX1_take 30 = .ok (.aload_n 1, 1) := by decide +kernel
theorem dX1_take_31 : decode cX1_take 31 = .ok (.getfield 18, 3) := by decide +kernel
theorem dX1_take_34 : decode cX1_take 34 = .ok (.iconst 0, 1) := by decide +kernel
theorem dX1_take_35 : decode cX1_take 35 = .ok (.aload_n 0, 1) := by decide +kernel
theorem dX1_take_36 : decode cX1_take 36 = .ok (.getfield 18, 3) := by decide +kernel
theorem dX1_take_39 : decode cX1_take 39 = .ok (.iconst 0, 1) := by decide +kernel
theorem dX1_take_40 : decode cX1_take 40 = .ok (.bipush 8, 2) := by decide +kernel
theorem dX1_take_42 : decode cX1_take 42 = .ok (.invokestatic 24, 3) := by decide +kernel
theorem dX1_take_45 : decode cX1_take 45 = .ok (.aload_n 0, 1) := by decide +kernel
theorem dX1_take_46 : decode cX1_take 46 = .ok (.aload_n 1, 1) := by decide +kernel
theorem dX1_take_47 : decode cX1_take 47 = .ok (.getfield 30, 3) := by decide +kernel
theorem dX1_take_50 : decode cX1_take 50 = .ok (.putfield 30, 3) := by decide +kernel
theorem dX1_take_53 : decode cX1_take 53 = .ok (.return_, 1) := by decide +kernel
theorem dX6_take_0 : decode cX6_take 0 = .ok (.aload_n 0, 1) := by decide +kernel
theorem dX6_take_1 : decode cX6_take 1 = .ok (.getfield 12, 3) := by decide +kernel
theorem dX6_take_4 : decode cX6_take 4 = .ok (.aload_n 1, 1) := by decide +kernel
theorem dX6_take_5 : decode cX6_take 5 = .ok (.getfield 12, 3) := by decide +kernel
theorem dX6_take_8 : decode cX6_take 8 = .ok (.invokevirtual 70, 3) := by decide +kernel
theorem dX6_take_11 : decode cX6_take 11 = .ok (.aload_n 0, 1) := by decide +kernel
theorem dX6_take_12 : decode cX6_take 12 = .ok (.getfield 21, 3) := by decide +kernel
theorem dX6_take_15 : decode cX6_take 15 = .ok (.aload_n 1, 1) := by decide +kernel
theorem dX6_take_16 : decode cX6_take 16 = .ok (.getfield 21, 3) := by decide +kernel
theorem dX6_take_19 : decode cX6_take 19 = .ok (.invokevirtual 74, 3) := by decide +kernel
theorem dX6_take_22 : decode cX6_take 22 = .ok (.aload_n 0, 1) := by decide +kernel
theorem dX6_take_23 : decode cX6_take 23 = .ok (.getfield 28, 3) := by decide +kernel
theorem dX6_take_26 : decode cX6_take 26 = .ok (.aload_n 1, 1) := by decide +kernel
theorem dX6_take_27 : decode cX6_take 27 = .ok (.getfield 28, 3) := by decide +kernel
theorem dX6_take_30 : decode cX6_take 30 = .ok (.invokevirtual 77, 3) := by decide +kernel
theorem dX6_take_33 : decode cX6_take 33 = .ok (.aload_n 1, 1) := by decide +kernel
theorem dX6_take_34 : decode cX6_take 34 = .ok (.getfield 32, 3) := by decide +kernel
theorem dX6_take_37 : decode cX6_take 37 = .ok (.iconst 0, 1) := by decide +kernel
theorem dX6_take_38 : decode cX6_take 38 = .ok (.aload_n 0, 1) := by decide +kernel
theorem dX6_take_39 : decode cX6_take 39 = .ok (.getfield 32, 3) := by decide +kernel
theorem dX6_take_42 : decode cX6_take 42 = .ok (.iconst 0, 1) := by decide +kernel
theorem dX6_take_43 : decode cX6_take 43 = .ok (.bipush 6, 2) := by decide +kernel
theorem dX6_take_45 : decode cX6_take 45 = .ok (.invokestatic 80, 3) := by decide +kernel
theorem dX6_take_48 : decode cX6_take 48 = .ok (.aload_n 1, 1) := by decide +kernel
theorem dX6_take_49 : decode cX6_take 49 = .ok (.getfield 36, 3) := by decide +kernel
theorem dX6_take_52 : decode cX6_take 52 = .ok (.iconst 0, 1) := by decide +kernel
theorem dX6_take_53 : decode cX6_take 53 = .ok (.aload_n 0, 1) := by decide +kernel
theorem dX6_take_54 : decode cX6_take 54 = .ok (.getfield 36, 3) := by decide +kernel
theorem dX6_take_57 : decode cX6_take 57 = .ok (.iconst 0, 1) := by decide +kernel
theorem dX6_take_58 : decode cX6_take 58 = .ok (.bipush 18, 2) := by decide +kernel
theorem dX6_take_60 : decode cX6_take 60 = .ok (.invokestatic 80, 3) := by decide +kernel
theorem dX6_take_63 : decode cX6_take 63 = .ok (.aload_n 1, 1) := by decide +kernel
theorem dX6_take_64 : decode cX6_take 64 = .ok (.getfield 39, 3) := by decide +kernel
theorem dX6_take_67 : decode cX6_take 67 = .ok (.iconst 0, 1) := by decide +kernel
theorem dX6_take_68 : decode cX6_take 68 = .ok (.aload_n 0, 1) := by decide +kernel
theorem dX6_take_69 : decode cX6_take 69 = .ok (.getfield 39, 3) := by decide +kernel
theorem dX6_take_72 : decode cX6_take 72 = .ok (.iconst 0, 1) := by decide +kernel
theorem dX6_take_73 : decode cX6_take 73 = .ok (.bipush 36, 2) := by decide +kernel
theorem dX6_take_75 : decode cX6_take 75 = .ok (.invokestatic 80, 3) := by decide +kernel
theorem dX6_take_78 : decode cX6_take 78 = .ok (.iconst 0, 1) := by decide +kernel
theorem dX6_take_79 : decode cX6_take 79 = .ok (.istore_n 2, 1) := by decide +kernel
theorem dX6_take_80 : decode cX6_take 80 = .ok (.iload_n 2, 1) := by decide +kernel
theorem dX6_take_81 : decode cX6_take 81 = .ok (.bipush 6, 2) := by decide +kernel
theorem dX6_take_83 : decode cX6_take 83 = .ok (.if_icmp .ge 21, 3) := by decide +kernel
theorem dX6_take_86 : decode cX6_take 86 = .ok (.aload_n 0, 1) := by decide +kernel
theorem dX6_take_87 : decode cX6_take 87 = .ok (.getfield 47, 3) := by decide +kernel
theorem dX6_take_90 : decode cX6_take 90 = .ok (.iload_n 2, 1) := by decide +kernel
theorem dX6_take_91 : decode cX6_take 91 = .ok (.aload_n 1, 1) := by decide +kernel
theorem dX6_take_92 : decode cX6_take 92 = .ok (.getfield 47, 3) := by decide +kernel
theorem dX6_take_95 : decode cX6_take 95 = .ok (.iload_n 2, 1) := by decide +kernel
theorem dX6_take_96 : decode cX6_take 96 = .ok (.aaload, 1) := by decide +kernel
theorem dX6_take_97 : decode cX6_take 97 = .ok (.aastore, 1) := by decide +kernel
theorem dX6_take_98 : decode cX6_take 98 = .ok (.iinc 2 1, 3) := by decide +kernel
theorem dX6_take_101 : decode cX6_take 101 = .ok (.goto (-21), 3) := by decide +kernel
theorem dX6_take_104 : decode cX6_take 104 = .ok (.aload_n 0, 1) := by decide +kernel
theorem dX6_take_105 : decode cX6_take 105 = .ok (.aload_n 1, 1) := by decide +kernel
theorem dX6_take_106 : decode cX6_take 106 = .ok (.getfield 86, 3) := by decide +kernel
theorem dX6_take_109 : decode cX6_take 109 = .ok (.putfield 86, 3) := by decide +kernel
theorem dX6_take_112 : decode cX6_take 112 = .ok (.aload_n 0, 1) := by decide +kernel
theorem dX6_take_113 : decode cX6_take 113 = .ok (.aload_n 1, 1) := by decide +kernel
theorem dX6_take_114 : decode cX6_take 114 = .ok (.getfield 51, 3) := by decide +kernel
theorem dX6_take_117 : decode cX6_take 117 = .ok (.putfield 51, 3) := by decide +kernel
theorem dX6_take_120 : decode cX6_take 120 = .ok (.aload_n 0, 1) := by decide +kernel
theorem dX6_take_121 : decode cX6_take 121 = .ok (.aload_n 1, 1) := by decide +kernel
theorem dX6_take_122 : decode cX6_take 122 = .ok (.getfield 89, 3) := by decide +kernel
theorem dX6_take_125 : decode cX6_take 125 = .ok (.putfield 89, 3) := by decide +kernel
theorem dX6_take_128 : decode cX6_take 128 = .ok (.aload_n 0, 1) := by decide +kernel
theorem dX6_take_129 : decode cX6_take 129 = .ok (.aload_n 1, 1) := by decide +kernel
theorem dX6_take_130 : decode cX6_take 130 = .ok (.getfield 92, 3) := by decide +kernel
theorem dX6_take_133 : decode cX6_take 133 = .ok (.putfield 92, 3) := by decide +kernel
theorem dX6_take_136 : decode cX6_take 136 = .ok (.aload_n 0, 1) := by decide +kernel
theorem dX6_take_137 : decode cX6_take 137 = .ok (.aload_n 1, 1) := by decide +kernel
theorem dX6_take_138 : decode cX6_take 138 = .ok (.getfield 55, 3) := by decide +kernel
theorem dX6_take_141 : decode cX6_take 141 = .ok (.putfield 55, 3) := by decide +kernel
theorem dX6_take_144 : decode cX6_take 144 = .ok (.return_, 1) := by decide +kernel
