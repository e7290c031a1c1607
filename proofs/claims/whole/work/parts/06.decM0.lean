theorem dX12_in_0 : decode cX12_in 0 = .ok (.lload_n 0, 1) := by decide +kernel
theorem dX12_in_1 : decode cX12_in 1 = .ok (.lload_n 2, 1) := by decide +kernel
theorem dX12_in_2 : decode cX12_in 2 = .ok (.lcmp, 1) := by decide +kernel
theorem dX12_in_3 : decode cX12_in 3 = .ok (.ifCond .lt 14, 3) := by decide +kernel
theorem dX12_in_6 : decode cX12_in 6 = .ok (.lload_n 0, 1) := by decide +kernel
theorem dX12_in_7 : decode cX12_in 7 = .ok (.lload 4, 2) := by decide +kernel
theorem dX12_in_9 : decode cX12_in 9 = .ok (.lcmp, 1) := by decide +kernel
theorem dX12_in_10 : decode cX12_in 10 = .ok (.ifCond .gt 7, 3) := by decide +kernel
theorem dX12_in_13 : decode cX12_in 13 = .ok (.iconst 1, 1) := by decide +kernel
theorem dX12_in_14 : decode cX12_in 14 = .ok (.goto 4, 3) := by decide +kernel
theorem dX12_in_17 : decode cX12_in 17 = .ok (.iconst 0, 1) := by decide +kernel
theorem dX12_in_18 : decode cX12_in 18 = .ok (.ireturn, 1) := by decide +kernel
theorem dX12_is_0 : decode cX12_is 0 = .ok (.iload_n 0, 1) := by decide +kernel
theorem dX12_is_1 : decode cX12_is 1 = .ok (.iload_n 1, 1) := by decide +kernel
theorem dX12_is_2 : decode cX12_is 2 = .ok (.ishr, 1) := by decide +kernel
theorem dX12_is_3 : decode cX12_is 3 = .ok (.iconst 1, 1) := by decide +kernel
theorem dX12_is_4 : decode cX12_is 4 = .ok (.iand, 1) := by decide +kernel
theorem dX12_is_5 : decode cX12_is 5 = .ok (.iconst 1, 1) := by decide +kernel
theorem dX12_is_6 : decode cX12_is 6 = .ok (.if_icmp .ne 7, 3) := by decide +kernel
theorem dX12_is_9 : decode cX12_is 9 = .ok (.iconst 1, 1) := by decide +kernel
theorem dX12_is_10 : decode cX12_is 10 = .ok (.goto 4, 3) := by decide +kernel
theorem dX12_is_13 : decode cX12_is 13 = .ok (.iconst 0, 1) := by decide +kernel
theorem dX12_is_14 : decode cX12_is 14 = .ok (.ireturn, 1) := by decide +kernel
theorem dX12_ones_0 : decode cX12_ones 0 = .ok (.iconst 0, 1) := by decide +kernel
theorem dX12_ones_1 : decode cX12_ones 1 = .ok (.istore_n 1, 1) := by decide +kernel
theorem dX12_ones_2 : decode cX12_ones 2 = .ok (.iconst 0, 1) := by decide +kernel
theorem dX12_ones_3 : decode cX12_ones 3 = .ok (.istore_n 2, 1) := by decide +kernel
theorem dX12_ones_4 : decode cX12_ones 4 = .ok (.iload_n 2, 1) := by decide +kernel
theorem dX12_ones_5 : decode cX12_ones 5 = .ok (.bipush 10, 2) := by decide +kernel
theorem dX12_ones_7 : decode cX12_ones 7 = .ok (.if_icmp .ge 17, 3) := by decide +kernel
theorem dX12_ones_10 : decode cX12_ones 10 = .ok (.iload_n 1, 1) := by decide +kernel
theorem dX12_ones_11 : decode cX12_ones 11 = .ok (.iload_n 0, 1) := by decide +kernel
theorem dX12_ones_12 : decode cX12_ones 12 = .ok (.iload_n 2, 1) := by decide +kernel
theorem dX12_ones_13 : decode cX12_ones 13 = .ok (.ishr, 1) := by decide +kernel
theorem dX12_ones_14 : decode cX12_ones 14 = .ok (.iconst 1, 1) := by decide +kernel
theorem dX12_ones_15 : decode cX12_ones 15 = .ok (.iand, 1) := by decide +kernel
theorem dX12_ones_16 : decode cX12_ones 16 = .ok (.iadd, 1) := by decide +kernel
theorem dX12_ones_17 : decode cX12_ones 17 = .ok (.istore_n 1, 1) := by decide +kernel
theorem dX12_ones_18 : decode cX12_ones 18 = .ok (.iinc 2 1, 3) := by decide +kernel
theorem dX12_ones_21 : decode cX12_ones 21 = .ok (.goto (-17), 3) := by decide +kernel
theorem dX12_ones_24 : decode cX12_ones 24 = .ok (.iload_n 1, 1) := by decide +kernel
theorem dX12_ones_25 : decode cX12_ones 25 = .ok (.ireturn, 1) := by decide +kernel
theorem dX12_within_0 : decode cX12_within 0 = .ok (.lload_n 0, 1) := by decide +kernel
theorem dX12_within_1 : decode cX12_within 1 = .ok (.iload_n 2, 1) := by decide +kernel
theorem dX12_within_2 : decode cX12_within 2 = .ok (.i2l, 1) := by decide +kernel
theorem dX12_within_3 : decode cX12_within 3 = .ok (.lcmp, 1) := by decide +kernel
theorem dX12_within_4 : decode cX12_within 4 = .ok (.ifCond .ge 7, 3) := by decide +kernel
theorem dX12_within_7 : decode cX12_within 7 = .ok (.iload_n 2, 1) := by decide +kernel
theorem dX12_within_8 : decode cX12_within 8 = .ok (.goto 16, 3) := by decide +kernel
theorem dX12_within_11 : decode cX12_within 11 = .ok (.lload_n 0, 1) := by decide +kernel
theorem dX12_within_12 : decode cX12_within 12 = .ok (.iload_n 3, 1) := by decide +kernel
theorem dX12_within_13 : decode cX12_within 13 = .ok (.i2l, 1) := by decide +kernel
theorem dX12_within_14 : decode cX12_within 14 = .ok (.lcmp, 1) := by decide +kernel
theorem dX12_within_15 : decode cX12_within 15 = .ok (.ifCond .le 7, 3) := by decide +kernel
theorem dX12_within_18 : decode cX12_within 18 = .ok (.iload_n 3, 1) := by decide +kernel
theorem dX12_within_19 : decode cX12_within 19 = .ok (.goto 5, 3) := by decide +kernel
theorem dX12_within_22 : decode cX12_within 22 = .ok (.lload_n 0, 1) := by decide +kernel
theorem dX12_within_23 : decode cX12_within 23 = .ok (.l2i, 1) := by decide +kernel
theorem dX12_within_24 : decode cX12_within 24 = .ok (.ireturn, 1) := by decide +kernel
theorem dX12_tell_0 : decode cX12_tell 0 = .ok (.aload_n 0, 1) := by decide +kernel
theorem dX12_tell_1 : decode cX12_tell 1 = .ok (.iload_n 1, 1) := by decide +kernel
theorem dX12_tell_2 : decode cX12_tell 2 = .ok (.ifCond .ge 7, 3) := by decide +kernel
theorem dX12_tell_5 : decode cX12_tell 5 = .ok (.iload_n 1, 1) := by decide +kernel
theorem dX12_tell_6 : decode cX12_tell 6 = .ok (.goto 4, 3) := by decide +kernel
theorem dX12_tell_9 : decode cX12_tell 9 = .ok (.iconst 0, 1) := by decide +kernel
theorem dX12_tell_10 : decode cX12_tell 10 = .ok (.putfield 145, 3) := by decide +kernel
theorem dX12_tell_13 : decode cX12_tell 13 = .ok (.iload_n 1, 1) := by decide +kernel
theorem dX12_tell_14 : decode cX12_tell 14 = .ok (.ifCond .ge 14, 3) := by decide +kernel
theorem dX12_tell_17 : decode cX12_tell 17 = .ok (.aload_n 0, 1) := by decide +kernel
theorem dX12_tell_18 : decode cX12_tell 18 = .ok (.getfield 7, 3) := by decide +kernel
theorem dX12_tell_21 : decode cX12_tell 21 = .ok (.iload_n 1, 1) := by decide +kernel
theorem dX12_tell_22 : decode cX12_tell 22 = .ok (.ineg, 1) := by decide +kernel
theorem dX12_tell_23 : decode cX12_tell 23 = .ok (.dup2, 1) := by decide +kernel
theorem dX12_tell_24 : decode cX12_tell 24 = .ok (.iaload, 1) := by decide +kernel
theorem dX12_tell_25 : decode cX12_tell 25 = .ok (.iconst 1, 1) := by decide +kernel
theorem dX12_tell_26 : decode cX12_tell 26 = .ok (.iadd, 1) := by decide +kernel
theorem dX12_tell_27 : decode cX12_tell 27 = .ok (.iastore, 1) := by decide +kernel
theorem dX12_tell_28 : decode cX12_tell 28 = .ok (.iload_n 1, 1) := by decide +kernel
theorem dX12_tell_29 : decode cX12_tell 29 = .ok (.ireturn, 1) := by decide +kernel
theorem dX12_change_0 : decode cX12_change 0 = .ok (.aload_n 0, 1) := by decide +kernel
theorem dX12_change_1 : decode cX12_change 1 = .ok (.getfield 13, 3) := by decide +kernel
theorem dX12_change_4 : decode cX12_change 4 = .ok (.iload_n 1, 1) := by decide +kernel
theorem dX12_change_5 : decode cX12_change 5 = .ok (.iaload, 1) := by decide +kernel
theorem dX12_change_6 : decode cX12_change 6 = .ok (.istore_n 3, 1) := by decide +kernel
theorem dX12_change_7 : decode cX12_change 7 = .ok (.aload_n 0, 1) := by decide +kernel
theorem dX12_change_8 : decode cX12_change 8 = .ok (.getfield 13, 3) := by decide +kernel
theorem dX12_change_11 : decode cX12_change 11 = .ok (.iload_n 1, 1) := by decide +kernel
theorem dX12_change_12 : decode cX12_change 12 = .ok (.iload_n 2, 1) := by decide +kernel
theorem dX12_change_13 : decode cX12_change 13 = .ok (.iastore, 1) := by decide +kernel
theorem dX12_change_14 : decode cX12_change 14 = .ok (.aload_n 0, 1) := by decide +kernel
theorem dX12_change_15 : decode cX12_change 15 = .ok (.iconst 0, 1) := by decide +kernel
theorem dX12_change_16 : decode cX12_change 16 = .ok (.putfield 145, 3) := by decide +kernel
theorem dX12_change_19 : decode cX12_change 19 = .ok (.iload_n 3, 1) := by decide +kernel
theorem dX12_change_20 : decode cX12_change 20 = .ok (.ireturn, 1) := by decide +kernel
theorem dX12_keepAll_0 : decode cX12_keepAll 0 = .ok (.iconst 0, 1) := by decide +kernel
theorem dX12_keepAll_1 : decode cX12_keepAll 1 = .ok (.istore_n 2, 1) := by decide +kernel
theorem dX12_keepAll_2 : decode cX12_keepAll 2 = .ok (.iload_n 2, 1) := by decide +kernel
theorem dX12_keepAll_3 : decode cX12_keepAll 3 = .ok (.bipush 25, 2) := by decide +kernel
theorem dX12_keepAll_5 : decode cX12_keepAll 5 = .ok (.if_icmp .ge 29, 3) := by decide +kernel
theorem dX12_keepAll_8 : decode cX12_keepAll 8 = .ok (.aload_n 0, 1) := by decide +kernel
theorem dX12_keepAll_9 : decode cX12_keepAll 9 = .ok (.getfield 23, 3) := by decide +kernel
theorem dX12_keepAll_12 : decode cX12_keepAll 12 = .ok (.bipush 25, 2) := by decide +kernel
theorem dX12_keepAll_14 : decode cX12_keepAll 14 = .ok (.iload_n 1, 1) := by decide +kernel
theorem dX12_keepAll_15 : decode cX12_keepAll 15 = .ok (.imul, 1) := by decide +kernel
theorem dX12_keepAll_16 : decode cX12_keepAll 16 = .ok (.iload_n 2, 1) := by decide +kernel
theorem dX12_keepAll_17 : decode cX12_keepAll 17 = .ok (.iadd, 1) := by decide +kernel
theorem dX12_keepAll_18 : decode cX12_keepAll 18 = .ok (.aload_n 0, 1) := by decide +kernel
theorem dX12_keepAll_19 : decode cX12_keepAll 19 = .ok (.getfield 13, 3) := by decide +kernel
theorem dX12_keepAll_22 : decode cX12_keepAll 22 = .ok (.bipush 6, 2) := by decide +kernel
theorem dX12_keepAll_24 : decode cX12_keepAll 24 = .ok (.iload_n 2, 1) := by decide +kernel
theorem dX12_keepAll_25 : decode cX12_keepAll 25 = .ok (.iadd, 1) := by decide +kernel
theorem dX12_keepAll_26 : decode cX12_keepAll 26 = .ok (.iaload, 1) := by decide +kernel
theorem dX12_keepAll_27 : decode cX12_keepAll 27 = .ok (.iastore, 1) := by decide +kernel
theorem dX12_keepAll_28 : decode cX12_keepAll 28 = .ok (.iinc 2 1, 3) := by decide +kernel
theorem dX12_keepAll_31 : decode cX12_keepAll 31 = .ok (.goto (-29), 3) := by decide +kernel
theorem dX12_keepAll_34 : decode cX12_keepAll 34 = .ok (.return_, 1) := by decide +kernel
theorem dX12_putBack_0 : decode cX12_putBack 0 = .ok (.iconst 0, 1) := by decide +kernel
theorem dX12_putBack_1 : decode cX12_putBack 1 = .ok (.istore_n 2, 1) := by decide +kernel
theorem dX12_putBack_2 : decode cX12_putBack 2 = .ok (.iload_n 2, 1) := by decide +kernel
theorem dX12_putBack_3 : decode cX12_putBack 3 = .ok (.bipush 25, 2) := by decide +kernel
theorem dX12_putBack_5 : decode cX12_putBack 5 = .ok (.if_icmp .ge 29, 3) := by decide +kernel
theorem dX12_putBack_8 : decode cX12_putBack 8 = .ok (.aload_n 0, 1) := by decide +kernel
theorem dX12_putBack_9 : decode cX12_putBack 9 = .ok (.getfield 13, 3) := by decide +kernel
theorem dX12_putBack_12 : decode cX12_putBack 12 = .ok (.bipush 6, 2) := by decide +kernel
theorem dX12_putBack_14 : decode cX12_putBack 14 = .ok (.iload_n 2, 1) := by decide +kernel
theorem dX12_putBack_15 : decode cX12_putBack 15 = .ok (.iadd, 1) := by decide +kernel
theorem dX12_putBack_16 : decode cX12_putBack 16 = .ok (.aload_n 0, 1) := by decide +kernel
theorem dX12_putBack_17 : decode cX12_putBack 17 = .ok (.getfield 23, 3) := by decide +kernel
theorem dX12_putBack_20 : decode cX12_putBack 20 = .ok (.bipush 25, 2) := by decide +kernel
theorem dX12_putBack_22 : decode cX12_putBack 22 = .ok (.iload_n 1, 1) := by decide +kernel
theorem dX12_putBack_23 : decode cX12_putBack 23 = .ok (.imul, 1) := by decide +kernel
theorem dX12_putBack_24 : decode cX12_putBack 24 = .ok (.iload_n 2, 1) := by decide +kernel
theorem dX12_putBack_25 : decode cX12_putBack 25 = .ok (.iadd, 1) := by decide +kernel
theorem dX12_putBack_26 : decode cX12_putBack 26 = .ok (.iaload, 1) := by decide +kernel
theorem dX12_putBack_27 : decode cX12_putBack 27 = .ok (.iastore, 1) := by decide +kernel
theorem dX12_putBack_28 : decode cX12_putBack 28 = .ok (.iinc 2 1, 3) := by decide +kernel
theorem dX12_putBack_31 : decode cX12_putBack 31 = .ok (.goto (-29), 3) := by decide +kernel
theorem dX12_putBack_34 : decode cX12_putBack 34 = .ok (.return_, 1) := by decide +kernel
theorem dX12_remember_0 : decode cX12_remember 0 = .ok (.aload_n 0, 1) := by decide +kernel
theorem dX12_remember_1 : decode cX12_remember 1 = .ok (.getfield 148, 3) := by decide +kernel
theorem dX12_remember_4 : decode cX12_remember 4 = .ok (.bipush 16, 2) := by decide +kernel
theorem dX12_remember_6 : decode cX12_remember 6 = .ok (.if_icmp .ne 71, 3) := by decide +kernel
theorem dX12_remember_9 : decode cX12_remember 9 = .ok (.iconst 0, 1) := by decide +kernel
theorem dX12_remember_10 : decode cX12_remember 10 = .ok (.istore_n 2, 1) := by decide +kernel
theorem dX12_remember_11 : decode cX12_remember 11 = .ok (.iload_n 2, 1) := by decide +kernel
theorem dX12_remember_12 : decode cX12_remember 12 = .ok (.sipush 375, 3) := by decide +kernel
theorem dX12_remember_15 : decode cX12_remember 15 = .ok (.if_icmp .ge 24, 3) := by decide +kernel
theorem dX12_remember_18 : decode cX12_remember 18 = .ok (.aload_n 0, 1) := by decide +kernel
theorem dX12_remember_19 : decode cX12_remember 19 = .ok (.getfield 23, 3) := by decide +kernel
theorem dX12_remember_22 : decode cX12_remember 22 = .ok (.iload_n 2, 1) := by decide +kernel
theorem dX12_remember_23 : decode cX12_remember 23 = .ok (.aload_n 0, 1) := by decide +kernel
theorem dX12_remember_24 : decode cX12_remember 24 = .ok (.getfield 23, 3) := by decide +kernel
theorem dX12_remember_27 : decode cX12_remember 27 = .ok (.iload_n 2, 1) := by decide +kernel
theorem dX12_remember_28 : decode cX12_remember 28 = .ok (.bipush 25, 2) := by decide +kernel
theorem dX12_remember_30 : decode cX12_remember 30 = .ok (.iadd, 1) := by decide +kernel
theorem dX12_remember_31 : decode cX12_remember 31 = .ok (.iaload, 1) := by decide +kernel
theorem dX12_remember_32 : decode cX12_remember 32 = .ok (.iastore, 1) := by decide +kernel
theorem dX12_remember_33 : decode cX12_remember 33 = .ok (.iinc 2 1, 3) := by decide +kernel
theorem dX12_remember_36 : decode cX12_remember 36 = .ok (.goto (-25), 3) := by decide +kernel
theorem dX12_remember_39 : decode cX12_remember 39 = .ok (.iconst 0, 1) := by decide +kernel
theorem dX12_remember_40 : decode cX12_remember 40 = .ok (.istore_n 2, 1) := by decide +kernel
theorem dX12_remember_41 : decode cX12_remember 41 = .ok (.iload_n 2, 1) := by decide +kernel
theorem dX12_remember_42 : decode cX12_remember 42 = .ok (.bipush 15, 2) := by decide +kernel
theorem dX12_remember_44 : decode cX12_remember 44 = .ok (.if_icmp .ge 23, 3) := by decide +kernel
theorem dX12_remember_47 : decode cX12_remember 47 = .ok (.aload_n 0, 1) := by decide +kernel
theorem dX12_remember_48 : decode cX12_remember 48 = .ok (.getfield 26, 3) := by decide +kernel
theorem dX12_remember_51 : decode cX12_remember 51 = .ok (.iload_n 2, 1) := by decide +kernel
theorem dX12_remember_52 : decode cX12_remember 52 = .ok (.aload_n 0, 1) := by decide +kernel
theorem dX12_remember_53 : decode cX12_remember 53 = .ok (.getfield 26, 3) := by decide +kernel
theorem dX12_remember_56 : decode cX12_remember 56 = .ok (.iload_n 2, 1) := by decide +kernel
theorem dX12_remember_57 : decode cX12_remember 57 = .ok (.iconst 1, 1) := by decide +kernel
theorem dX12_remember_58 : decode cX12_remember 58 = .ok (.iadd, 1) := by decide +kernel
theorem dX12_remember_59 : decode cX12_remember 59 = .ok (.iaload, 1) := by decide +kernel
theorem dX12_remember_60 : decode cX12_remember 60 = .ok (.iastore, 1) := by decide +kernel
theorem dX12_remember_61 : decode cX12_remember 61 = .ok (.iinc 2 1, 3) := by decide +kernel
theorem dX12_remember_64 : decode cX12_remember 64 = .ok (.goto (-23), 3) := by decide +kernel
theorem dX12_remember_67 : decode cX12_remember 67 = .ok (.aload_n 0, 1) := by decide +kernel
theorem dX12_remember_68 : decode cX12_remember 68 = .ok (.dup, 1) := by decide +kernel
theorem dX12_remember_69 : decode cX12_remember 69 = .ok (.getfield 148, 3) := by decide +kernel
theorem dX12_remember_72 : decode cX12_remember 72 = .ok (.iconst 1, 1) := by decide +kernel
theorem dX12_remember_73 : decode cX12_remember 73 = .ok (.isub, 1) := by decide +kernel
theorem dX12_remember_74 : decode cX12_remember 74 = .ok (.putfield 148, 3) := by decide +kernel
theorem dX12_remember_77 : decode cX12_remember 77 = .ok (.aload_n 0, 1) := by decide +kernel
theorem dX12_remember_78 : decode cX12_remember 78 = .ok (.aload_n 0, 1) := by decide +kernel
theorem dX12_remember_79 : decode cX12_remember 79 = .ok (.getfield 148, 3) := by decide +kernel
theorem dX12_remember_82 : decode cX12_remember 82 = .ok (.invokevirtual 151, 3) := by decide +kernel
theorem dX12_remember_85 : decode cX12_remember 85 = .ok (.aload_n 0, 1) := by decide +kernel
theorem dX12_remember_86 : decode cX12_remember 86 = .ok (.getfield 26, 3) := by decide +kernel
theorem dX12_remember_89 : decode cX12_remember 89 = .ok (.aload_n 0, 1) := by decide +kernel
theorem dX12_remember_90 : decode cX12_remember 90 = .ok (.getfield 148, 3) := by decide +kernel
theorem dX12_remember_93 : decode cX12_remember 93 = .ok (.iload_n 1, 1) := by decide +kernel
theorem dX12_remember_94 : decode cX12_remember 94 = .ok (.iastore, 1) := by decide +kernel
theorem dX12_remember_95 : decode cX12_remember 95 = .ok (.aload_n 0, 1) := by decide +kernel
theorem dX12_remember_96 : decode cX12_remember 96 = .ok (.dup, 1) := by decide +kernel
theorem dX12_remember_97 : decode cX12_remember 97 = .ok (.getfield 148, 3) := by decide +kernel
theorem dX12_remember_100 : decode cX12_remember 100 = .ok (.iconst 1, 1) := by decide +kernel
theorem dX12_remember_101 : decode cX12_remember 101 = .ok (.iadd, 1) := by decide +kernel
theorem dX12_remember_102 : decode cX12_remember 102 = .ok (.putfield 148, 3) := by decide +kernel
theorem dX12_remember_105 : decode cX12_remember 105 = .ok (.return_, 1) := by decide +kernel
theorem dX12_undo_0 : decode cX12_undo 0 = .ok (.aload_n 0, 1) := by decide +kernel
theorem dX12_undo_1 : decode cX12_undo 1 = .ok (.iconst 0, 1) := by decide +kernel
theorem dX12_undo_2 : decode cX12_undo 2 = .ok (.putfield 142, 3) := by decide +kernel
theorem dX12_undo_5 : decode cX12_undo 5 = .ok (.aload_n 0, 1) := by decide +kernel
theorem dX12_undo_6 : decode cX12_undo 6 = .ok (.getfield 148, 3) := by decide +kernel
theorem dX12_undo_9 : decode cX12_undo 9 = .ok (.ifCond .ne 10, 3) := by decide +kernel
theorem dX12_undo_12 : decode cX12_undo 12 = .ok (.aload_n 0, 1) := by decide +kernel
theorem dX12_undo_13 : decode cX12_undo 13 = .ok (.bipush (-3), 2) := by decide +kernel
theorem dX12_undo_15 : decode cX12_undo 15 = .ok (.invokevirtual 155, 3) := by decide +kernel
theorem dX12_undo_18 : decode cX12_undo 18 = .ok (.ireturn, 1) := by decide +kernel
theorem dX12_undo_19 : decode cX12_undo 19 = .ok (.aload_n 0, 1) := by decide +kernel
theorem dX12_undo_20 : decode cX12_undo 20 = .ok (.dup, 1) := by decide +kernel
theorem dX12_undo_21 : decode cX12_undo 21 = .ok (.getfield 148, 3) := by decide +kernel
theorem dX12_undo_24 : decode cX12_undo 24 = .ok (.iconst 1, 1) := by decide +kernel
theorem dX12_undo_25 : decode cX12_undo 25 = .ok (.isub, 1) := by decide +kernel
theorem dX12_undo_26 : decode cX12_undo 26 = .ok (.putfield 148, 3) := by decide +kernel
theorem dX12_undo_29 : decode cX12_undo 29 = .ok (.aload_n 0, 1) := by decide +kernel
theorem dX12_undo_30 : decode cX12_undo 30 = .ok (.aload_n 0, 1) := by decide +kernel
theorem dX12_undo_31 : decode cX12_undo 31 = .ok (.getfield 148, 3) := by decide +kernel
theorem dX12_undo_34 : decode cX12_undo 34 = .ok (.invokevirtual 159, 3) := by decide +kernel
theorem dX12_undo_37 : decode cX12_undo 37 = .ok (.aload_n 0, 1) := by decide +kernel
theorem dX12_undo_38 : decode cX12_undo 38 = .ok (.aload_n 0, 1) := by decide +kernel
theorem dX12_undo_39 : decode cX12_undo 39 = .ok (.getfield 26, 3) := by decide +kernel
theorem dX12_undo_42 : decode cX12_undo 42 = .ok (.aload_n 0, 1) := by decide +kernel
theorem dX12_undo_43 : decode cX12_undo 43 = .ok (.getfield 148, 3) := by decide +kernel
theorem dX12_undo_46 : decode cX12_undo 46 = .ok (.iaload, 1) := by decide +kernel
theorem dX12_undo_47 : decode cX12_undo 47 = .ok (.invokevirtual 155, 3) := by decide +kernel
theorem dX12_undo_50 : decode cX12_undo 50 = .ok (.ireturn, 1) := by decide +kernel
theorem dX12_image_0 : decode cX12_image 0 = .ok (.aload_n 0, 1) := by decide +kernel
theorem dX12_image_1 : decode cX12_image 1 = .ok (.iconst 0, 1) := by decide +kernel
theorem dX12_image_2 : decode cX12_image 2 = .ok (.putfield 142, 3) := by decide +kernel
theorem dX12_image_5 : decode cX12_image 5 = .ok (.iload_n 1, 1) := by decide +kernel
theorem dX12_image_6 : decode cX12_image 6 = .ok (.i2l, 1) := by decide +kernel
theorem dX12_image_7 : decode cX12_image 7 = .ok (.lconst 0, 1) := by decide +kernel
theorem dX12_image_8 : decode cX12_image 8 = .ok (.lconst 1, 1) := by decide +kernel
theorem dX12_image_9 : decode cX12_image 9 = .ok (.invokestatic 162, 3) := by decide +kernel
theorem dX12_image_12 : decode cX12_image 12 = .ok (.ifCond .ne 9, 3) := by decide +kernel
theorem dX12_image_15 : decode cX12_image 15 = .ok (.aload_n 0, 1) := by decide +kernel
theorem dX12_image_16 : decode cX12_image 16 = .ok (.iconst (-1), 1) := by decide +kernel
theorem dX12_image_17 : decode cX12_image 17 = .ok (.invokevirtual 155, 3) := by decide +kernel
theorem dX12_image_20 : decode cX12_image 20 = .ok (.ireturn, 1) := by decide +kernel
theorem dX12_image_21 : decode cX12_image 21 = .ok (.iconst 0, 1) := by decide +kernel
theorem dX12_image_22 : decode cX12_image 22 = .ok (.istore_n 2, 1) := by decide +kernel
theorem dX12_image_23 : decode cX12_image 23 = .ok (.iload_n 2, 1) := by decide +kernel
theorem dX12_image_24 : decode cX12_image 24 = .ok (.sipush 5550, 3) := by decide +kernel
theorem dX12_image_27 : decode cX12_image 27 = .ok (.if_icmp .ge 27, 3) := by decide +kernel
theorem dX12_image_30 : decode cX12_image 30 = .ok (.aload_n 0, 1) := by decide +kernel
theorem dX12_image_31 : decode cX12_image 31 = .ok (.getfield 16, 3) := by decide +kernel
theorem dX12_image_34 : decode cX12_image 34 = .ok (.sipush 5550, 3) := by decide +kernel
theorem dX12_image_37 : decode cX12_image 37 = .ok (.iload_n 1, 1) := by decide +kernel
theorem dX12_image_38 : decode cX12_image 38 = .ok (.imul, 1) := by decide +kernel
theorem dX12_image_39 : decode cX12_image 39 = .ok (.iload_n 2, 1) := by decide +kernel
theorem dX12_image_40 : decode cX12_image 40 = .ok (.iadd, 1) := by decide +kernel
theorem dX12_image_41 : decode cX12_image 41 = .ok (.aload_n 0, 1) := by decide +kernel
theorem dX12_image_42 : decode cX12_image 42 = .ok (.getfield 13, 3) := by decide +kernel
theorem dX12_image_45 : decode cX12_image 45 = .ok (.iload_n 2, 1) := by decide +kernel
theorem dX12_image_46 : decode cX12_image 46 = .ok (.iaload, 1) := by decide +kernel
theorem dX12_image_47 : decode cX12_image 47 = .ok (.iastore, 1) := by decide +kernel
theorem dX12_image_48 : decode cX12_image 48 = .ok (.iinc 2 1, 3) := by decide +kernel
theorem dX12_image_51 : decode cX12_image 51 = .ok (.goto (-28), 3) := by decide +kernel
theorem dX12_image_54 : decode cX12_image 54 = .ok (.aload_n 0, 1) := by decide +kernel
theorem dX12_image_55 : decode cX12_image 55 = .ok (.getfield 19, 3) := by decide +kernel
theorem dX12_image_58 : decode cX12_image 58 = .ok (.iload_n 1, 1) := by decide +kernel
theorem dX12_image_59 : decode cX12_image 59 = .ok (.iconst 1, 1) := by decide +kernel
theorem dX12_image_60 : decode cX12_image 60 = .ok (.bastore, 1) := by decide +kernel
theorem dX12_image_61 : decode cX12_image 61 = .ok (.aload_n 0, 1) := by decide +kernel
theorem dX12_image_62 : decode cX12_image 62 = .ok (.iconst 0, 1) := by decide +kernel
theorem dX12_image_63 : decode cX12_image 63 = .ok (.invokevirtual 155, 3) := by decide +kernel
theorem dX12_image_66 : decode cX12_image 66 = .ok (.ireturn, 1) := by decide +kernel
theorem dX12_back_0 : decode cX12_back 0 = .ok (.aload_n 0, 1) := by decide +kernel
theorem dX12_back_1 : decode cX12_back 1 = .ok (.iconst 0, 1) := by decide +kernel
theorem dX12_back_2 : decode cX12_back 2 = .ok (.putfield 142, 3) := by decide +kernel
theorem dX12_back_5 : decode cX12_back 5 = .ok (.iload_n 1, 1) := by decide +kernel
theorem dX12_back_6 : decode cX12_back 6 = .ok (.i2l, 1) := by decide +kernel
theorem dX12_back_7 : decode cX12_back 7 = .ok (.lconst 0, 1) := by decide +kernel
theorem dX12_back_8 : decode cX12_back 8 = .ok (.lconst 1, 1) := by decide +kernel
theorem dX12_back_9 : decode cX12_back 9 = .ok (.invokestatic 162, 3) := by decide +kernel
theorem dX12_back_12 : decode cX12_back 12 = .ok (.ifCond .ne 9, 3) := by decide +kernel
theorem dX12_back_15 : decode cX12_back 15 = .ok (.aload_n 0, 1) := by decide +kernel
theorem dX12_back_16 : decode cX12_back 16 = .ok (.iconst (-1), 1) := by decide +kernel
theorem dX12_back_17 : decode cX12_back 17 = .ok (.invokevirtual 155, 3) := by decide +kernel
theorem dX12_back_20 : decode cX12_back 20 = .ok (.ireturn, 1) := by decide +kernel
theorem dX12_back_21 : decode cX12_back 21 = .ok (.aload_n 0, 1) := by decide +kernel
theorem dX12_back_22 : decode cX12_back 22 = .ok (.getfield 19, 3) := by decide +kernel
theorem dX12_back_25 : decode cX12_back 25 = .ok (.iload_n 1, 1) := by decide +kernel
theorem dX12_back_26 : decode cX12_back 26 = .ok (.baload, 1) := by decide +kernel
theorem dX12_back_27 : decode cX12_back 27 = .ok (.ifCond .ne 10, 3) := by decide +kernel
theorem dX12_back_30 : decode cX12_back 30 = .ok (.aload_n 0, 1) := by decide +kernel
theorem dX12_back_31 : decode cX12_back 31 = .ok (.bipush (-2), 2) := by decide +kernel
theorem dX12_back_33 : decode cX12_back 33 = .ok (.invokevirtual 155, 3) := by decide +kernel
theorem dX12_back_36 : decode cX12_back 36 = .ok (.ireturn, 1) := by decide +kernel
theorem dX12_back_37 : decode cX12_back 37 = .ok (.iconst 0, 1) := by decide +kernel
theorem dX12_back_38 : decode cX12_back 38 = .ok (.istore_n 2, 1) := by decide +kernel
theorem dX12_back_39 : decode cX12_back 39 = .ok (.iload_n 2, 1) := by decide +kernel
theorem dX12_back_40 : decode cX12_back 40 = .ok (.sipush 5550, 3) := by decide +kernel
theorem dX12_back_43 : decode cX12_back 43 = .ok (.if_icmp .ge 27, 3) := by decide +kernel
theorem dX12_back_46 : decode cX12_back 46 = .ok (.aload_n 0, 1) := by decide +kernel
theorem dX12_back_47 : decode cX12_back 47 = .ok (.getfield 13, 3) := by decide +kernel
theorem dX12_back_50 : decode cX12_back 50 = .ok (.iload_n 2, 1) := by decide +kernel
theorem dX12_back_51 : decode cX12_back 51 = .ok (.aload_n 0, 1) := by decide +kernel
theorem dX12_back_52 : decode cX12_back 52 = .ok (.getfield 16, 3) := by decide +kernel
theorem dX12_back_55 : decode cX12_back 55 = .ok (.sipush 5550, 3) := by decide +kernel
theorem dX12_back_58 : decode cX12_back 58 = .ok (.iload_n 1, 1) := by decide +kernel
theorem dX12_back_59 : decode cX12_back 59 = .ok (.imul, 1) := by decide +kernel
theorem dX12_back_60 : decode cX12_back 60 = .ok (.iload_n 2, 1) := by decide +kernel
theorem dX12_back_61 : decode cX12_back 61 = .ok (.iadd, 1) := by decide +kernel
theorem dX12_back_62 : decode cX12_back 62 = .ok (.iaload, 1) := by decide +kernel
theorem dX12_back_63 : decode cX12_back 63 = .ok (.iastore, 1) := by decide +kernel
theorem dX12_back_64 : decode cX12_back 64 = .ok (.iinc 2 1, 3) := by decide +kernel
theorem dX12_back_67 : decode cX12_back 67 = .ok (.goto (-28), 3) := by decide +kernel
theorem dX12_back_70 : decode cX12_back 70 = .ok (.aload_n 0, 1) := by decide +kernel
theorem dX12_back_71 : decode cX12_back 71 = .ok (.iconst 0, 1) := by decide +kernel
theorem dX12_back_72 : decode cX12_back 72 = .ok (.putfield 148, 3) := by decide +kernel
theorem dX12_back_75 : decode cX12_back 75 = .ok (.aload_n 0, 1) := by decide +kernel
theorem dX12_back_76 : decode cX12_back 76 = .ok (.iconst 0, 1) := by decide +kernel
theorem dX12_back_77 : decode cX12_back 77 = .ok (.invokevirtual 155, 3) := by decide +kernel
theorem dX12_back_80 : decode cX12_back 80 = .ok (.ireturn, 1) := by decide +kernel
theorem dX12_isFort_0 : decode cX12_isFort 0 = .ok (.iload_n 1, 1) := by decide +kernel
theorem dX12_isFort_1 : decode cX12_isFort 1 = .ok (.i2l, 1) := by decide +kernel
theorem dX12_isFort_2 : decode cX12_isFort 2 = .ok (.lconst 0, 1) := by decide +kernel
theorem dX12_isFort_3 : decode cX12_isFort 3 = .ok (.aload_n 0, 1) := by decide +kernel
theorem dX12_isFort_4 : decode cX12_isFort 4 = .ok (.getfield 13, 3) := by decide +kernel
theorem dX12_isFort_7 : decode cX12_isFort 7 = .ok (.iconst 0, 1) := by decide +kernel
theorem dX12_isFort_8 : decode cX12_isFort 8 = .ok (.iaload, 1) := by decide +kernel
theorem dX12_isFort_9 : decode cX12_isFort 9 = .ok (.i2l, 1) := by decide +kernel
theorem dX12_isFort_10 : decode cX12_isFort 10 = .ok (.lconst 1, 1) := by decide +kernel
theorem dX12_isFort_11 : decode cX12_isFort 11 = .ok (.lsub, 1) := by decide +kernel
theorem dX12_isFort_12 : decode cX12_isFort 12 = .ok (.invokestatic 162, 3) := by decide +kernel
theorem dX12_isFort_15 : decode cX12_isFort 15 = .ok (.ireturn, 1) := by decide +kernel
theorem dX12_isOne_0 : decode cX12_isOne 0 = .ok (.iload_n 0, 1) := by decide +kernel
theorem dX12_isOne_1 : decode cX12_isOne 1 = .ok (.i2l, 1) := by decide +kernel
theorem dX12_isOne_2 : decode cX12_isOne 2 = .ok (.lconst 0, 1) := by decide +kernel
theorem dX12_isOne_3 : decode cX12_isOne 3 = .ok (.ldc2_w 166, 3) := by decide +kernel
theorem dX12_isOne_6 : decode cX12_isOne 6 = .ok (.invokestatic 162, 3) := by decide +kernel
theorem dX12_isOne_9 : decode cX12_isOne 9 = .ok (.ireturn, 1) := by decide +kernel
theorem dX12_fameOf_0 : decode cX12_fameOf 0 = .ok (.aload_n 0, 1) := by decide +kernel
theorem dX12_fameOf_1 : decode cX12_fameOf 1 = .ok (.getfield 13, 3) := by decide +kernel
theorem dX12_fameOf_4 : decode cX12_fameOf 4 = .ok (.bipush 9, 2) := by decide +kernel
theorem dX12_fameOf_6 : decode cX12_fameOf 6 = .ok (.aload_n 0, 1) := by decide +kernel
theorem dX12_fameOf_7 : decode cX12_fameOf 7 = .ok (.getfield 13, 3) := by decide +kernel
theorem dX12_fameOf_10 : decode cX12_fameOf 10 = .ok (.bipush 31, 2) := by decide +kernel
theorem dX12_fameOf_12 : decode cX12_fameOf 12 = .ok (.iload_n 1, 1) := by decide +kernel
theorem dX12_fameOf_13 : decode cX12_fameOf 13 = .ok (.iadd, 1) := by decide +kernel
theorem dX12_fameOf_14 : decode cX12_fameOf 14 = .ok (.iaload, 1) := by decide +kernel
theorem dX12_fameOf_15 : decode cX12_fameOf 15 = .ok (.iadd, 1) := by decide +kernel
theorem dX12_fameOf_16 : decode cX12_fameOf 16 = .ok (.iaload, 1) := by decide +kernel
theorem dX12_fameOf_17 : decode cX12_fameOf 17 = .ok (.ireturn, 1) := by decide +kernel
theorem dX12_beliefBy_0 : decode cX12_beliefBy 0 = .ok (.aload_n 0, 1) := by decide +kernel
theorem dX12_beliefBy_1 : decode cX12_beliefBy 1 = .ok (.getfield 13, 3) := by decide +kernel
theorem dX12_beliefBy_4 : decode cX12_beliefBy 4 = .ok (.bipush 7, 2) := by decide +kernel
theorem dX12_beliefBy_6 : decode cX12_beliefBy 6 = .ok (.iaload, 1) := by decide +kernel
theorem dX12_beliefBy_7 : decode cX12_beliefBy 7 = .ok (.i2l, 1) := by decide +kernel
theorem dX12_beliefBy_8 : decode cX12_beliefBy 8 = .ok (.lstore_n 3, 1) := by decide +kernel
theorem dX12_beliefBy_9 : decode cX12_beliefBy 9 = .ok (.ldc2_w 168, 3) := by decide +kernel
theorem dX12_beliefBy_12 : decode cX12_beliefBy 12 = .ok (.lload_n 3, 1) := by decide +kernel
theorem dX12_beliefBy_13 : decode cX12_beliefBy 13 = .ok (.lsub, 1) := by decide +kernel
theorem dX12_beliefBy_14 : decode cX12_beliefBy 14 = .ok (.lstore 5, 2) := by decide +kernel
theorem dX12_beliefBy_16 : decode cX12_beliefBy 16 = .ok (.lload_n 3, 1) := by decide +kernel
theorem dX12_beliefBy_17 : decode cX12_beliefBy 17 = .ok (.ldc2_w 168, 3) := by decide +kernel
theorem dX12_beliefBy_20 : decode cX12_beliefBy 20 = .ok (.lmul, 1) := by decide +kernel
theorem dX12_beliefBy_21 : decode cX12_beliefBy 21 = .ok (.lstore 7, 2) := by decide +kernel
theorem dX12_beliefBy_23 : decode cX12_beliefBy 23 = .ok (.iconst 0, 1) := by decide +kernel
theorem dX12_beliefBy_24 : decode cX12_beliefBy 24 = .ok (.istore 9, 2) := by decide +kernel
theorem dX12_beliefBy_26 : decode cX12_beliefBy 26 = .ok (.iload 9, 2) := by decide +kernel
theorem dX12_beliefBy_28 : decode cX12_beliefBy 28 = .ok (.bipush 6, 2) := by decide +kernel
theorem dX12_beliefBy_30 : decode cX12_beliefBy 30 = .ok (.if_icmp .ge 91, 3) := by decide +kernel
theorem dX12_beliefBy_33 : decode cX12_beliefBy 33 = .ok (.lload_n 3, 1) := by decide +kernel
theorem dX12_beliefBy_34 : decode cX12_beliefBy 34 = .ok (.iload_n 2, 1) := by decide +kernel
theorem dX12_beliefBy_35 : decode cX12_beliefBy 35 = .ok (.iload 9, 2) := by decide +kernel
theorem dX12_beliefBy_37 : decode cX12_beliefBy 37 = .ok (.invokestatic 170, 3) := by decide +kernel
theorem dX12_beliefBy_40 : decode cX12_beliefBy 40 = .ok (.ifCond .eq 17, 3) := by decide +kernel
theorem dX12_beliefBy_43 : decode cX12_beliefBy 43 = .ok (.aload_n 0, 1) := by decide +kernel
theorem dX12_beliefBy_44 : decode cX12_beliefBy 44 = .ok (.getfield 13, 3) := by decide +kernel
theorem dX12_beliefBy_47 : decode cX12_beliefBy 47 = .ok (.bipush 37, 2) := by decide +kernel
theorem dX12_beliefBy_49 : decode cX12_beliefBy 49 = .ok (.iload 9, 2) := by decide +kernel
theorem dX12_beliefBy_51 : decode cX12_beliefBy 51 = .ok (.iadd, 1) := by decide +kernel
theorem dX12_beliefBy_52 : decode cX12_beliefBy 52 = .ok (.iaload, 1) := by decide +kernel
theorem dX12_beliefBy_53 : decode cX12_beliefBy 53 = .ok (.i2l, 1) := by decide +kernel
theorem dX12_beliefBy_54 : decode cX12_beliefBy 54 = .ok (.goto 17, 3) := by decide +kernel
theorem dX12_beliefBy_57 : decode cX12_beliefBy 57 = .ok (.bipush 10, 2) := by decide +kernel
theorem dX12_beliefBy_59 : decode cX12_beliefBy 59 = .ok (.aload_n 0, 1) := by decide +kernel
theorem dX12_beliefBy_60 : decode cX12_beliefBy 60 = .ok (.getfield 13, 3) := by decide +kernel
theorem dX12_beliefBy_63 : decode cX12_beliefBy 63 = .ok (.bipush 37, 2) := by decide +kernel
theorem dX12_beliefBy_65 : decode cX12_beliefBy 65 = .ok (.iload 9, 2) := by decide +kernel
theorem dX12_beliefBy_67 : decode cX12_beliefBy 67 = .ok (.iadd, 1) := by decide +kernel
theorem dX12_beliefBy_68 : decode cX12_beliefBy 68 = .ok (.iaload, 1) := by decide +kernel
theorem dX12_beliefBy_69 : decode cX12_beliefBy 69 = .ok (.isub, 1) := by decide +kernel
theorem dX12_beliefBy_70 : decode cX12_beliefBy 70 = .ok (.i2l, 1) := by decide +kernel
theorem dX12_beliefBy_71 : decode cX12_beliefBy 71 = .ok (.lmul, 1) := by decide +kernel
theorem dX12_beliefBy_72 : decode cX12_beliefBy 72 = .ok (.lstore_n 3, 1) := by decide +kernel
theorem dX12_beliefBy_73 : decode cX12_beliefBy 73 = .ok (.lload 5, 2) := by decide +kernel
theorem dX12_beliefBy_75 : decode cX12_beliefBy 75 = .ok (.iload_n 2, 1) := by decide +kernel
theorem dX12_beliefBy_76 : decode cX12_beliefBy 76 = .ok (.iload 9, 2) := by decide +kernel
theorem dX12_beliefBy_78 : decode cX12_beliefBy 78 = .ok (.invokestatic 170, 3) := by decide +kernel
theorem dX12_beliefBy_81 : decode cX12_beliefBy 81 = .ok (.ifCond .eq 17, 3) := by decide +kernel
theorem dX12_beliefBy_84 : decode cX12_beliefBy 84 = .ok (.aload_n 0, 1) := by decide +kernel
theorem dX12_beliefBy_85 : decode cX12_beliefBy 85 = .ok (.getfield 13, 3) := by decide +kernel
theorem dX12_beliefBy_88 : decode cX12_beliefBy 88 = .ok (.bipush 43, 2) := by decide +kernel
theorem dX12_beliefBy_90 : decode cX12_beliefBy 90 = .ok (.iload 9, 2) := by decide +kernel
theorem dX12_beliefBy_92 : decode cX12_beliefBy 92 = .ok (.iadd, 1) := by decide +kernel
theorem dX12_beliefBy_93 : decode cX12_beliefBy 93 = .ok (.iaload, 1) := by decide +kernel
theorem dX12_beliefBy_94 : decode cX12_beliefBy 94 = .ok (.i2l, 1) := by decide +kernel
theorem dX12_beliefBy_95 : decode cX12_beliefBy 95 = .ok (.goto 17, 3) := by decide +kernel
theorem dX12_beliefBy_98 : decode cX12_beliefBy 98 = .ok (.bipush 10, 2) := by decide +kernel
theorem dX12_beliefBy_100 : decode cX12_beliefBy 100 = .ok (.aload_n 0, 1) := by decide +kernel
theorem dX12_beliefBy_101 : decode cX12_beliefBy 101 = .ok (.getfield 13, 3) := by decide +kernel
theorem dX12_beliefBy_104 : decode cX12_beliefBy 104 = .ok (.bipush 43, 2) := by decide +kernel
theorem dX12_beliefBy_106 : decode cX12_beliefBy 106 = .ok (.iload 9, 2) := by decide +kernel
theorem dX12_beliefBy_108 : decode cX12_beliefBy 108 = .ok (.iadd, 1) := by decide +kernel
theorem dX12_beliefBy_109 : decode cX12_beliefBy 109 = .ok (.iaload, 1) := by decide +kernel
theorem dX12_beliefBy_110 : decode cX12_beliefBy 110 = .ok (.isub, 1) := by decide +kernel
theorem dX12_beliefBy_111 : decode cX12_beliefBy 111 = .ok (.i2l, 1) := by decide +kernel
theorem dX12_beliefBy_112 : decode cX12_beliefBy 112 = .ok (.lmul, 1) := by decide +kernel
theorem dX12_beliefBy_113 : decode cX12_beliefBy 113 = .ok (.lstore 5, 2) := by decide +kernel
theorem dX12_beliefBy_115 : decode cX12_beliefBy 115 = .ok (.iinc 9 1, 3) := by decide +kernel
theorem dX12_beliefBy_118 : decode cX12_beliefBy 118 = .ok (.goto (-92), 3) := by decide +kernel
theorem dX12_beliefBy_121 : decode cX12_beliefBy 121 = .ok (.lload_n 3, 1) := by decide +kernel
theorem dX12_beliefBy_122 : decode cX12_beliefBy 122 = .ok (.lload 5, 2) := by decide +kernel
theorem dX12_beliefBy_124 : decode cX12_beliefBy 124 = .ok (.ladd, 1) := by decide +kernel
theorem dX12_beliefBy_125 : decode cX12_beliefBy 125 = .ok (.lconst 0, 1) := by decide +kernel
theorem dX12_beliefBy_126 : decode cX12_beliefBy 126 = .ok (.lcmp, 1) := by decide +kernel
theorem dX12_beliefBy_127 : decode cX12_beliefBy 127 = .ok (.ifCond .ne 8, 3) := by decide +kernel
theorem dX12_beliefBy_130 : decode cX12_beliefBy 130 = .ok (.lload 7, 2) := by decide +kernel
theorem dX12_beliefBy_132 : decode cX12_beliefBy 132 = .ok (.goto 13, 3) := by decide +kernel
theorem dX12_beliefBy_135 : decode cX12_beliefBy 135 = .ok (.lload_n 3, 1) := by decide +kernel
theorem dX12_beliefBy_136 : decode cX12_beliefBy 136 = .ok (.ldc2_w 174, 3) := by decide +kernel
theorem dX12_beliefBy_139 : decode cX12_beliefBy 139 = .ok (.lmul, 1) := by decide +kernel
theorem dX12_beliefBy_140 : decode cX12_beliefBy 140 = .ok (.lload_n 3, 1) := by decide +kernel
theorem dX12_beliefBy_141 : decode cX12_beliefBy 141 = .ok (.lload 5, 2) := by decide +kernel
theorem dX12_beliefBy_143 : decode cX12_beliefBy 143 = .ok (.ladd, 1) := by decide +kernel
theorem dX12_beliefBy_144 : decode cX12_beliefBy 144 = .ok (.ldiv, 1) := by decide +kernel
theorem dX12_beliefBy_145 : decode cX12_beliefBy 145 = .ok (.lstore 9, 2) := by decide +kernel
theorem dX12_beliefBy_147 : decode cX12_beliefBy 147 = .ok (.aload_n 0, 1) := by decide +kernel
theorem dX12_beliefBy_148 : decode cX12_beliefBy 148 = .ok (.iload_n 1, 1) := by decide +kernel
theorem dX12_beliefBy_149 : decode cX12_beliefBy 149 = .ok (.invokevirtual 176, 3) := by decide +kernel
theorem dX12_beliefBy_152 : decode cX12_beliefBy 152 = .ok (.i2l, 1) := by decide +kernel
theorem dX12_beliefBy_153 : decode cX12_beliefBy 153 = .ok (.lload 9, 2) := by decide +kernel
theorem dX12_beliefBy_155 : decode cX12_beliefBy 155 = .ok (.lmul, 1) := by decide +kernel
theorem dX12_beliefBy_156 : decode cX12_beliefBy 156 = .ok (.bipush 100, 2) := by decide +kernel
theorem dX12_beliefBy_158 : decode cX12_beliefBy 158 = .ok (.aload_n 0, 1) := by decide +kernel
theorem dX12_beliefBy_159 : decode cX12_beliefBy 159 = .ok (.iload_n 1, 1) := by decide +kernel
theorem dX12_beliefBy_160 : decode cX12_beliefBy 160 = .ok (.invokevirtual 176, 3) := by decide +kernel
theorem dX12_beliefBy_163 : decode cX12_beliefBy 163 = .ok (.isub, 1) := by decide +kernel
theorem dX12_beliefBy_164 : decode cX12_beliefBy 164 = .ok (.i2l, 1) := by decide +kernel
theorem dX12_beliefBy_165 : decode cX12_beliefBy 165 = .ok (.lload 7, 2) := by decide +kernel
theorem dX12_beliefBy_167 : decode cX12_beliefBy 167 = .ok (.lmul, 1) := by decide +kernel
theorem dX12_beliefBy_168 : decode cX12_beliefBy 168 = .ok (.ladd, 1) := by decide +kernel
theorem dX12_beliefBy_169 : decode cX12_beliefBy 169 = .ok (.ldc2_w 179, 3) := by decide +kernel
theorem dX12_beliefBy_172 : decode cX12_beliefBy 172 = .ok (.ldiv, 1) := by decide +kernel
theorem dX12_beliefBy_173 : decode cX12_beliefBy 173 = .ok (.lreturn, 1) := by decide +kernel
theorem dX12_hundredths_0 : decode cX12_hundredths 0 = .ok (.aload_n 0, 1) := by decide +kernel
theorem dX12_hundredths_1 : decode cX12_hundredths 1 = .ok (.iload_n 1, 1) := by decide +kernel
theorem dX12_hundredths_2 : decode cX12_hundredths 2 = .ok (.iload_n 2, 1) := by decide +kernel
theorem dX12_hundredths_3 : decode cX12_hundredths 3 = .ok (.invokevirtual 181, 3) := by decide +kernel
theorem dX12_hundredths_6 : decode cX12_hundredths 6 = .ok (.ldc2_w 185, 3) := by decide +kernel
theorem dX12_hundredths_9 : decode cX12_hundredths 9 = .ok (.ldiv, 1) := by decide +kernel
theorem dX12_hundredths_10 : decode cX12_hundredths 10 = .ok (.l2i, 1) := by decide +kernel
theorem dX12_hundredths_11 : decode cX12_hundredths 11 = .ok (.ireturn, 1) := by decide +kernel
theorem dX12_come_0 : decode cX12_come 0 = .ok (.iload_n 1, 1) := by decide +kernel
theorem dX12_come_1 : decode cX12_come 1 = .ok (.i2l, 1) := by decide +kernel
theorem dX12_come_2 : decode cX12_come 2 = .ok (.lconst 0, 1) := by decide +kernel
theorem dX12_come_3 : decode cX12_come 3 = .ok (.ldc2_w 187, 3) := by decide +kernel
theorem dX12_come_6 : decode cX12_come 6 = .ok (.invokestatic 162, 3) := by decide +kernel
theorem dX12_come_9 : decode cX12_come 9 = .ok (.ifCond .eq 15, 3) := by decide +kernel
theorem dX12_come_12 : decode cX12_come 12 = .ok (.iload_n 2, 1) := by decide +kernel
theorem dX12_come_13 : decode cX12_come 13 = .ok (.i2l, 1) := by decide +kernel
theorem dX12_come_14 : decode cX12_come 14 = .ok (.lconst 0, 1) := by decide +kernel
theorem dX12_come_15 : decode cX12_come 15 = .ok (.ldc2_w 189, 3) := by decide +kernel
theorem dX12_come_18 : decode cX12_come 18 = .ok (.invokestatic 162, 3) := by decide +kernel
theorem dX12_come_21 : decode cX12_come 21 = .ok (.ifCond .ne 5, 3) := by decide +kernel
theorem dX12_come_24 : decode cX12_come 24 = .ok (.iconst (-1), 1) := by decide +kernel
theorem dX12_come_25 : decode cX12_come 25 = .ok (.ireturn, 1) := by decide +kernel
theorem dX12_come_26 : decode cX12_come 26 = .ok (.aload_n 0, 1) := by decide +kernel
theorem dX12_come_27 : decode cX12_come 27 = .ok (.getfield 13, 3) := by decide +kernel
theorem dX12_come_30 : decode cX12_come 30 = .ok (.iconst 0, 1) := by decide +kernel
theorem dX12_come_31 : decode cX12_come 31 = .ok (.iaload, 1) := by decide +kernel
theorem dX12_come_32 : decode cX12_come 32 = .ok (.istore_n 3, 1) := by decide +kernel
theorem dX12_come_33 : decode cX12_come 33 = .ok (.iload_n 3, 1) := by decide +kernel
theorem dX12_come_34 : decode cX12_come 34 = .ok (.bipush 6, 2) := by decide +kernel
theorem dX12_come_36 : decode cX12_come 36 = .ok (.if_icmp .ne 6, 3) := by decide +kernel
theorem dX12_come_39 : decode cX12_come 39 = .ok (.bipush (-5), 2) := by decide +kernel
theorem dX12_come_41 : decode cX12_come 41 = .ok (.ireturn, 1) := by decide +kernel
theorem dX12_come_42 : decode cX12_come 42 = .ok (.aload_n 0, 1) := by decide +kernel
theorem dX12_come_43 : decode cX12_come 43 = .ok (.getfield 13, 3) := by decide +kernel
theorem dX12_come_46 : decode cX12_come 46 = .ok (.bipush 13, 2) := by decide +kernel
theorem dX12_come_48 : decode cX12_come 48 = .ok (.iload_n 3, 1) := by decide +kernel
theorem dX12_come_49 : decode cX12_come 49 = .ok (.iadd, 1) := by decide +kernel
theorem dX12_come_50 : decode cX12_come 50 = .ok (.iload_n 1, 1) := by decide +kernel
theorem dX12_come_51 : decode cX12_come 51 = .ok (.iastore, 1) := by decide +kernel
theorem dX12_come_52 : decode cX12_come 52 = .ok (.aload_n 0, 1) := by decide +kernel
theorem dX12_come_53 : decode cX12_come 53 = .ok (.getfield 13, 3) := by decide +kernel
theorem dX12_come_56 : decode cX12_come 56 = .ok (.bipush 31, 2) := by decide +kernel
theorem dX12_come_58 : decode cX12_come 58 = .ok (.iload_n 3, 1) := by decide +kernel
theorem dX12_come_59 : decode cX12_come 59 = .ok (.iadd, 1) := by decide +kernel
theorem dX12_come_60 : decode cX12_come 60 = .ok (.iload_n 2, 1) := by decide +kernel
theorem dX12_come_61 : decode cX12_come 61 = .ok (.iastore, 1) := by decide +kernel
theorem dX12_come_62 : decode cX12_come 62 = .ok (.aload_n 0, 1) := by decide +kernel
theorem dX12_come_63 : decode cX12_come 63 = .ok (.getfield 13, 3) := by decide +kernel
theorem dX12_come_66 : decode cX12_come 66 = .ok (.bipush 19, 2) := by decide +kernel
theorem dX12_come_68 : decode cX12_come 68 = .ok (.iload_n 3, 1) := by decide +kernel
theorem dX12_come_69 : decode cX12_come 69 = .ok (.iadd, 1) := by decide +kernel
theorem dX12_come_70 : decode cX12_come 70 = .ok (.iconst 0, 1) := by decide +kernel
theorem dX12_come_71 : decode cX12_come 71 = .ok (.iastore, 1) := by decide +kernel
theorem dX12_come_72 : decode cX12_come 72 = .ok (.aload_n 0, 1) := by decide +kernel
theorem dX12_come_73 : decode cX12_come 73 = .ok (.getfield 13, 3) := by decide +kernel
theorem dX12_come_76 : decode cX12_come 76 = .ok (.bipush 25, 2) := by decide +kernel
theorem dX12_come_78 : decode cX12_come 78 = .ok (.iload_n 3, 1) := by decide +kernel
theorem dX12_come_79 : decode cX12_come 79 = .ok (.iadd, 1) := by decide +kernel
theorem dX12_come_80 : decode cX12_come 80 = .ok (.iconst 0, 1) := by decide +kernel
theorem dX12_come_81 : decode cX12_come 81 = .ok (.iastore, 1) := by decide +kernel
theorem dX12_come_82 : decode cX12_come 82 = .ok (.aload_n 0, 1) := by decide +kernel
theorem dX12_come_83 : decode cX12_come 83 = .ok (.getfield 13, 3) := by decide +kernel
theorem dX12_come_86 : decode cX12_come 86 = .ok (.iconst 0, 1) := by decide +kernel
theorem dX12_come_87 : decode cX12_come 87 = .ok (.dup2, 1) := by decide +kernel
theorem dX12_come_88 : decode cX12_come 88 = .ok (.iaload, 1) := by decide +kernel
theorem dX12_come_89 : decode cX12_come 89 = .ok (.iconst 1, 1) := by decide +kernel
theorem dX12_come_90 : decode cX12_come 90 = .ok (.iadd, 1) := by decide +kernel
theorem dX12_come_91 : decode cX12_come 91 = .ok (.iastore, 1) := by decide +kernel
theorem dX12_come_92 : decode cX12_come 92 = .ok (.aload_n 0, 1) := by decide +kernel
theorem dX12_come_93 : decode cX12_come 93 = .ok (.iconst 0, 1) := by decide +kernel
theorem dX12_come_94 : decode cX12_come 94 = .ok (.putfield 148, 3) := by decide +kernel
theorem dX12_come_97 : decode cX12_come 97 = .ok (.iload_n 3, 1) := by decide +kernel
theorem dX12_come_98 : decode cX12_come 98 = .ok (.ireturn, 1) := by decide +kernel
theorem dX12_fort_0 : decode cX12_fort 0 = .ok (.aload_n 0, 1) := by decide +kernel
theorem dX12_fort_1 : decode cX12_fort 1 = .ok (.iconst 0, 1) := by decide +kernel
theorem dX12_fort_2 : decode cX12_fort 2 = .ok (.putfield 142, 3) := by decide +kernel
theorem dX12_fort_5 : decode cX12_fort 5 = .ok (.aload_n 0, 1) := by decide +kernel
theorem dX12_fort_6 : decode cX12_fort 6 = .ok (.aload_n 0, 1) := by decide +kernel
theorem dX12_fort_7 : decode cX12_fort 7 = .ok (.iload_n 1, 1) := by decide +kernel
theorem dX12_fort_8 : decode cX12_fort 8 = .ok (.iload_n 2, 1) := by decide +kernel
theorem dX12_fort_9 : decode cX12_fort 9 = .ok (.invokevirtual 191, 3) := by decide +kernel
theorem dX12_fort_12 : decode cX12_fort 12 = .ok (.invokevirtual 155, 3) := by decide +kernel
theorem dX12_fort_15 : decode cX12_fort 15 = .ok (.ireturn, 1) := by decide +kernel
theorem dX12_of_0 : decode cX12_of 0 = .ok (.aload_n 0, 1) := by decide +kernel
theorem dX12_of_1 : decode cX12_of 1 = .ok (.iconst 0, 1) := by decide +kernel
theorem dX12_of_2 : decode cX12_of 2 = .ok (.putfield 142, 3) := by decide +kernel
theorem dX12_of_5 : decode cX12_of 5 = .ok (.aload_n 0, 1) := by decide +kernel
theorem dX12_of_6 : decode cX12_of 6 = .ok (.iload_n 1, 1) := by decide +kernel
theorem dX12_of_7 : decode cX12_of 7 = .ok (.invokevirtual 195, 3) := by decide +kernel
theorem dX12_of_10 : decode cX12_of 10 = .ok (.ifCond .ne 5, 3) := by decide +kernel
theorem dX12_of_13 : decode cX12_of 13 = .ok (.iconst (-1), 1) := by decide +kernel
theorem dX12_of_14 : decode cX12_of 14 = .ok (.ireturn, 1) := by decide +kernel
theorem dX12_of_15 : decode cX12_of 15 = .ok (.iload_n 2, 1) := by decide +kernel
theorem dX12_of_16 : decode cX12_of 16 = .ok (.tableswitch 92 0 4 #[36, 46, 56, 66, 76], 36) := by decide +kernel
theorem dX12_of_52 : decode cX12_of 52 = .ok (.aload_n 0, 1) := by decide +kernel
theorem dX12_of_53 : decode cX12_of 53 = .ok (.getfield 13, 3) := by decide +kernel
theorem dX12_of_56 : decode cX12_of 56 = .ok (.bipush 13, 2) := by decide +kernel
theorem dX12_of_58 : decode cX12_of 58 = .ok (.iload_n 1, 1) := by decide +kernel
theorem dX12_of_59 : decode cX12_of 59 = .ok (.iadd, 1) := by decide +kernel
theorem dX12_of_60 : decode cX12_of 60 = .ok (.iaload, 1) := by decide +kernel
theorem dX12_of_61 : decode cX12_of 61 = .ok (.ireturn, 1) := by decide +kernel
theorem dX12_of_62 : decode cX12_of 62 = .ok (.aload_n 0, 1) := by decide +kernel
theorem dX12_of_63 : decode cX12_of 63 = .ok (.getfield 13, 3) := by decide +kernel
theorem dX12_of_66 : decode cX12_of 66 = .ok (.bipush 31, 2) := by decide +kernel
theorem dX12_of_68 : decode cX12_of 68 = .ok (.iload_n 1, 1) := by decide +kernel
theorem dX12_of_69 : decode cX12_of 69 = .ok (.iadd, 1) := by decide +kernel
theorem dX12_of_70 : decode cX12_of 70 = .ok (.iaload, 1) := by decide +kernel
theorem dX12_of_71 : decode cX12_of 71 = .ok (.ireturn, 1) := by decide +kernel
theorem dX12_of_72 : decode cX12_of 72 = .ok (.aload_n 0, 1) := by decide +kernel
theorem dX12_of_73 : decode cX12_of 73 = .ok (.getfield 13, 3) := by decide +kernel
theorem dX12_of_76 : decode cX12_of 76 = .ok (.bipush 19, 2) := by decide +kernel
theorem dX12_of_78 : decode cX12_of 78 = .ok (.iload_n 1, 1) := by decide +kernel
theorem dX12_of_79 : decode cX12_of 79 = .ok (.iadd, 1) := by decide +kernel
theorem dX12_of_80 : decode cX12_of 80 = .ok (.iaload, 1) := by decide +kernel
theorem dX12_of_81 : decode cX12_of 81 = .ok (.ireturn, 1) := by decide +kernel
theorem dX12_of_82 : decode cX12_of 82 = .ok (.aload_n 0, 1) := by decide +kernel
theorem dX12_of_83 : decode cX12_of 83 = .ok (.getfield 13, 3) := by decide +kernel
theorem dX12_of_86 : decode cX12_of 86 = .ok (.bipush 25, 2) := by decide +kernel
theorem dX12_of_88 : decode cX12_of 88 = .ok (.iload_n 1, 1) := by decide +kernel
theorem dX12_of_89 : decode cX12_of 89 = .ok (.iadd, 1) := by decide +kernel
theorem dX12_of_90 : decode cX12_of 90 = .ok (.iaload, 1) := by decide +kernel
theorem dX12_of_91 : decode cX12_of 91 = .ok (.ireturn, 1) := by decide +kernel
theorem dX12_of_92 : decode cX12_of 92 = .ok (.aload_n 0, 1) := by decide +kernel
theorem dX12_of_93 : decode cX12_of 93 = .ok (.iload_n 1, 1) := by decide +kernel
theorem dX12_of_94 : decode cX12_of 94 = .ok (.aload_n 0, 1) := by decide +kernel
theorem dX12_of_95 : decode cX12_of 95 = .ok (.getfield 13, 3) := by decide +kernel
theorem dX12_of_98 : decode cX12_of 98 = .ok (.bipush 19, 2) := by decide +kernel
theorem dX12_of_100 : decode cX12_of 100 = .ok (.iload_n 1, 1) := by decide +kernel
theorem dX12_of_101 : decode cX12_of 101 = .ok (.iadd, 1) := by decide +kernel
theorem dX12_of_102 : decode cX12_of 102 = .ok (.iaload, 1) := by decide +kernel
theorem dX12_of_103 : decode cX12_of 103 = .ok (.invokevirtual 181, 3) := by decide +kernel
theorem dX12_of_106 : decode cX12_of 106 = .ok (.l2i, 1) := by decide +kernel
theorem dX12_of_107 : decode cX12_of 107 = .ok (.ireturn, 1) := by decide +kernel
theorem dX12_of_108 : decode cX12_of 108 = .ok (.iconst (-1), 1) := by decide +kernel
theorem dX12_of_109 : decode cX12_of 109 = .ok (.ireturn, 1) := by decide +kernel
theorem dX12_sign_0 : decode cX12_sign 0 = .ok (.aload_n 0, 1) := by decide +kernel
theorem dX12_sign_1 : decode cX12_sign 1 = .ok (.iconst 0, 1) := by decide +kernel
theorem dX12_sign_2 : decode cX12_sign 2 = .ok (.putfield 142, 3) := by decide +kernel
theorem dX12_sign_5 : decode cX12_sign 5 = .ok (.iload_n 1, 1) := by decide +kernel
theorem dX12_sign_6 : decode cX12_sign 6 = .ok (.invokestatic 199, 3) := by decide +kernel
theorem dX12_sign_9 : decode cX12_sign 9 = .ok (.ifCond .eq 38, 3) := by decide +kernel
theorem dX12_sign_12 : decode cX12_sign 12 = .ok (.iload_n 2, 1) := by decide +kernel
theorem dX12_sign_13 : decode cX12_sign 13 = .ok (.i2l, 1) := by decide +kernel
theorem dX12_sign_14 : decode cX12_sign 14 = .ok (.lconst 0, 1) := by decide +kernel
theorem dX12_sign_15 : decode cX12_sign 15 = .ok (.ldc2_w 202, 3) := by decide +kernel
theorem dX12_sign_18 : decode cX12_sign 18 = .ok (.invokestatic 162, 3) := by decide +kernel
theorem dX12_sign_21 : decode cX12_sign 21 = .ok (.ifCond .eq 26, 3) := by decide +kernel
theorem dX12_sign_24 : decode cX12_sign 24 = .ok (.iload_n 3, 1) := by decide +kernel
theorem dX12_sign_25 : decode cX12_sign 25 = .ok (.i2l, 1) := by decide +kernel
theorem dX12_sign_26 : decode cX12_sign 26 = .ok (.lconst 0, 1) := by decide +kernel
theorem dX12_sign_27 : decode cX12_sign 27 = .ok (.iload_n 2, 1) := by decide +kernel
theorem dX12_sign_28 : decode cX12_sign 28 = .ok (.iconst 2, 1) := by decide +kernel
theorem dX12_sign_29 : decode cX12_sign 29 = .ok (.if_icmp .ne 9, 3) := by decide +kernel
theorem dX12_sign_32 : decode cX12_sign 32 = .ok (.ldc2_w 187, 3) := by decide +kernel
theorem dX12_sign_35 : decode cX12_sign 35 = .ok (.goto 6, 3) := by decide +kernel
theorem dX12_sign_38 : decode cX12_sign 38 = .ok (.ldc2_w 204, 3) := by decide +kernel
theorem dX12_sign_41 : decode cX12_sign 41 = .ok (.invokestatic 162, 3) := by decide +kernel
theorem dX12_sign_44 : decode cX12_sign 44 = .ok (.ifCond .ne 9, 3) := by decide +kernel
theorem dX12_sign_47 : decode cX12_sign 47 = .ok (.aload_n 0, 1) := by decide +kernel
theorem dX12_sign_48 : decode cX12_sign 48 = .ok (.iconst (-1), 1) := by decide +kernel
theorem dX12_sign_49 : decode cX12_sign 49 = .ok (.invokevirtual 155, 3) := by decide +kernel
theorem dX12_sign_52 : decode cX12_sign 52 = .ok (.ireturn, 1) := by decide +kernel
theorem dX12_sign_53 : decode cX12_sign 53 = .ok (.aload_n 0, 1) := by decide +kernel
theorem dX12_sign_54 : decode cX12_sign 54 = .ok (.iconst 0, 1) := by decide +kernel
theorem dX12_sign_55 : decode cX12_sign 55 = .ok (.putfield 148, 3) := by decide +kernel
theorem dX12_sign_58 : decode cX12_sign 58 = .ok (.aload_n 0, 1) := by decide +kernel
theorem dX12_sign_59 : decode cX12_sign 59 = .ok (.iload_n 2, 1) := by decide +kernel
theorem dX12_sign_60 : decode cX12_sign 60 = .ok (.ifCond .ne 8, 3) := by decide +kernel
theorem dX12_sign_63 : decode cX12_sign 63 = .ok (.bipush 37, 2) := by decide +kernel
theorem dX12_sign_65 : decode cX12_sign 65 = .ok (.goto 15, 3) := by decide +kernel
theorem dX12_sign_68 : decode cX12_sign 68 = .ok (.iload_n 2, 1) := by decide +kernel
theorem dX12_sign_69 : decode cX12_sign 69 = .ok (.iconst 1, 1) := by decide +kernel
theorem dX12_sign_70 : decode cX12_sign 70 = .ok (.if_icmp .ne 8, 3) := by decide +kernel
theorem dX12_sign_73 : decode cX12_sign 73 = .ok (.bipush 43, 2) := by decide +kernel
theorem dX12_sign_75 : decode cX12_sign 75 = .ok (.goto 5, 3) := by decide +kernel
theorem dX12_sign_78 : decode cX12_sign 78 = .ok (.bipush 49, 2) := by decide +kernel
theorem dX12_sign_80 : decode cX12_sign 80 = .ok (.iload_n 1, 1) := by decide +kernel
theorem dX12_sign_81 : decode cX12_sign 81 = .ok (.iadd, 1) := by decide +kernel
theorem dX12_sign_82 : decode cX12_sign 82 = .ok (.iload_n 3, 1) := by decide +kernel
theorem dX12_sign_83 : decode cX12_sign 83 = .ok (.invokevirtual 206, 3) := by decide +kernel
theorem dX12_sign_86 : decode cX12_sign 86 = .ok (.ireturn, 1) := by decide +kernel
theorem dX12_road_0 : decode cX12_road 0 = .ok (.aload_n 0, 1) := by decide +kernel
theorem dX12_road_1 : decode cX12_road 1 = .ok (.iconst 0, 1) := by decide +kernel
theorem dX12_road_2 : decode cX12_road 2 = .ok (.putfield 142, 3) := by decide +kernel
theorem dX12_road_5 : decode cX12_road 5 = .ok (.iload_n 1, 1) := by decide +kernel
theorem dX12_road_6 : decode cX12_road 6 = .ok (.iload_n 2, 1) := by decide +kernel
theorem dX12_road_7 : decode cX12_road 7 = .ok (.if_icmp .eq 15, 3) := by decide +kernel
theorem dX12_road_10 : decode cX12_road 10 = .ok (.iload_n 3, 1) := by decide +kernel
theorem dX12_road_11 : decode cX12_road 11 = .ok (.i2l, 1) := by decide +kernel
theorem dX12_road_12 : decode cX12_road 12 = .ok (.lconst 0, 1) := by decide +kernel
theorem dX12_road_13 : decode cX12_road 13 = .ok (.ldc2_w 187, 3) := by decide +kernel
theorem dX12_road_16 : decode cX12_road 16 = .ok (.invokestatic 162, 3) := by decide +kernel
theorem dX12_road_19 : decode cX12_road 19 = .ok (.ifCond .ne 9, 3) := by decide +kernel
theorem dX12_road_22 : decode cX12_road 22 = .ok (.aload_n 0, 1) := by decide +kernel
theorem dX12_road_23 : decode cX12_road 23 = .ok (.iconst (-1), 1) := by decide +kernel
theorem dX12_road_24 : decode cX12_road 24 = .ok (.invokevirtual 155, 3) := by decide +kernel
theorem dX12_road_27 : decode cX12_road 27 = .ok (.ireturn, 1) := by decide +kernel
theorem dX12_road_28 : decode cX12_road 28 = .ok (.aload_n 0, 1) := by decide +kernel
theorem dX12_road_29 : decode cX12_road 29 = .ok (.iload_n 1, 1) := by decide +kernel
theorem dX12_road_30 : decode cX12_road 30 = .ok (.invokevirtual 195, 3) := by decide +kernel
theorem dX12_road_33 : decode cX12_road 33 = .ok (.ifCond .eq 11, 3) := by decide +kernel
theorem dX12_road_36 : decode cX12_road 36 = .ok (.aload_n 0, 1) := by decide +kernel
theorem dX12_road_37 : decode cX12_road 37 = .ok (.iload_n 2, 1) := by decide +kernel
theorem dX12_road_38 : decode cX12_road 38 = .ok (.invokevirtual 195, 3) := by decide +kernel
theorem dX12_road_41 : decode cX12_road 41 = .ok (.ifCond .ne 10, 3) := by decide +kernel
theorem dX12_road_44 : decode cX12_road 44 = .ok (.aload_n 0, 1) := by decide +kernel
theorem dX12_road_45 : decode cX12_road 45 = .ok (.bipush (-2), 2) := by decide +kernel
theorem dX12_road_47 : decode cX12_road 47 = .ok (.invokevirtual 155, 3) := by decide +kernel
theorem dX12_road_50 : decode cX12_road 50 = .ok (.ireturn, 1) := by decide +kernel
theorem dX12_road_51 : decode cX12_road 51 = .ok (.aload_n 0, 1) := by decide +kernel
theorem dX12_road_52 : decode cX12_road 52 = .ok (.getfield 13, 3) := by decide +kernel
theorem dX12_road_55 : decode cX12_road 55 = .ok (.bipush 55, 2) := by decide +kernel
theorem dX12_road_57 : decode cX12_road 57 = .ok (.bipush 6, 2) := by decide +kernel
theorem dX12_road_59 : decode cX12_road 59 = .ok (.iload_n 2, 1) := by decide +kernel
theorem dX12_road_60 : decode cX12_road 60 = .ok (.imul, 1) := by decide +kernel
theorem dX12_road_61 : decode cX12_road 61 = .ok (.iadd, 1) := by decide +kernel
theorem dX12_road_62 : decode cX12_road 62 = .ok (.iload_n 1, 1) := by decide +kernel
theorem dX12_road_63 : decode cX12_road 63 = .ok (.iadd, 1) := by decide +kernel
theorem dX12_road_64 : decode cX12_road 64 = .ok (.iload_n 3, 1) := by decide +kernel
theorem dX12_road_65 : decode cX12_road 65 = .ok (.iastore, 1) := by decide +kernel
theorem dX12_road_66 : decode cX12_road 66 = .ok (.aload_n 0, 1) := by decide +kernel
theorem dX12_road_67 : decode cX12_road 67 = .ok (.bipush 55, 2) := by decide +kernel
theorem dX12_road_69 : decode cX12_road 69 = .ok (.bipush 6, 2) := by decide +kernel
theorem dX12_road_71 : decode cX12_road 71 = .ok (.iload_n 1, 1) := by decide +kernel
theorem dX12_road_72 : decode cX12_road 72 = .ok (.imul, 1) := by decide +kernel
theorem dX12_road_73 : decode cX12_road 73 = .ok (.iadd, 1) := by decide +kernel
theorem dX12_road_74 : decode cX12_road 74 = .ok (.iload_n 2, 1) := by decide +kernel
theorem dX12_road_75 : decode cX12_road 75 = .ok (.iadd, 1) := by decide +kernel
theorem dX12_road_76 : decode cX12_road 76 = .ok (.iload_n 3, 1) := by decide +kernel
theorem dX12_road_77 : decode cX12_road 77 = .ok (.invokevirtual 206, 3) := by decide +kernel
theorem dX12_road_80 : decode cX12_road 80 = .ok (.ireturn, 1) := by decide +kernel
theorem dX12_fame_0 : decode cX12_fame 0 = .ok (.aload_n 0, 1) := by decide +kernel
theorem dX12_fame_1 : decode cX12_fame 1 = .ok (.iconst 0, 1) := by decide +kernel
theorem dX12_fame_2 : decode cX12_fame 2 = .ok (.putfield 142, 3) := by decide +kernel
theorem dX12_fame_5 : decode cX12_fame 5 = .ok (.iload_n 1, 1) := by decide +kernel
theorem dX12_fame_6 : decode cX12_fame 6 = .ok (.i2l, 1) := by decide +kernel
theorem dX12_fame_7 : decode cX12_fame 7 = .ok (.lconst 0, 1) := by decide +kernel
theorem dX12_fame_8 : decode cX12_fame 8 = .ok (.ldc2_w 189, 3) := by decide +kernel
theorem dX12_fame_11 : decode cX12_fame 11 = .ok (.invokestatic 162, 3) := by decide +kernel
theorem dX12_fame_14 : decode cX12_fame 14 = .ok (.ifCond .eq 15, 3) := by decide +kernel
theorem dX12_fame_17 : decode cX12_fame 17 = .ok (.iload_n 2, 1) := by decide +kernel
theorem dX12_fame_18 : decode cX12_fame 18 = .ok (.i2l, 1) := by decide +kernel
theorem dX12_fame_19 : decode cX12_fame 19 = .ok (.lconst 0, 1) := by decide +kernel
theorem dX12_fame_20 : decode cX12_fame 20 = .ok (.ldc2_w 179, 3) := by decide +kernel
theorem dX12_fame_23 : decode cX12_fame 23 = .ok (.invokestatic 162, 3) := by decide +kernel
theorem dX12_fame_26 : decode cX12_fame 26 = .ok (.ifCond .ne 9, 3) := by decide +kernel
theorem dX12_fame_29 : decode cX12_fame 29 = .ok (.aload_n 0, 1) := by decide +kernel
theorem dX12_fame_30 : decode cX12_fame 30 = .ok (.iconst (-1), 1) := by decide +kernel
theorem dX12_fame_31 : decode cX12_fame 31 = .ok (.invokevirtual 155, 3) := by decide +kernel
theorem dX12_fame_34 : decode cX12_fame 34 = .ok (.ireturn, 1) := by decide +kernel
theorem dX12_fame_35 : decode cX12_fame 35 = .ok (.aload_n 0, 1) := by decide +kernel
theorem dX12_fame_36 : decode cX12_fame 36 = .ok (.iconst 0, 1) := by decide +kernel
theorem dX12_fame_37 : decode cX12_fame 37 = .ok (.putfield 148, 3) := by decide +kernel
theorem dX12_fame_40 : decode cX12_fame 40 = .ok (.aload_n 0, 1) := by decide +kernel
theorem dX12_fame_41 : decode cX12_fame 41 = .ok (.bipush 9, 2) := by decide +kernel
theorem dX12_fame_43 : decode cX12_fame 43 = .ok (.iload_n 1, 1) := by decide +kernel
theorem dX12_fame_44 : decode cX12_fame 44 = .ok (.iadd, 1) := by decide +kernel
theorem dX12_fame_45 : decode cX12_fame 45 = .ok (.iload_n 2, 1) := by decide +kernel
theorem dX12_fame_46 : decode cX12_fame 46 = .ok (.invokevirtual 206, 3) := by decide +kernel
theorem dX12_fame_49 : decode cX12_fame 49 = .ok (.ireturn, 1) := by decide +kernel
theorem dX12_terms_0 : decode cX12_terms 0 = .ok (.aload_n 0, 1) := by decide +kernel
theorem dX12_terms_1 : decode cX12_terms 1 = .ok (.iconst 0, 1) := by decide +kernel
theorem dX12_terms_2 : decode cX12_terms 2 = .ok (.putfield 142, 3) := by decide +kernel
theorem dX12_terms_5 : decode cX12_terms 5 = .ok (.iload_n 1, 1) := by decide +kernel
theorem dX12_terms_6 : decode cX12_terms 6 = .ok (.ifCond .ne 15, 3) := by decide +kernel
theorem dX12_terms_9 : decode cX12_terms 9 = .ok (.iload_n 2, 1) := by decide +kernel
theorem dX12_terms_10 : decode cX12_terms 10 = .ok (.i2l, 1) := by decide +kernel
theorem dX12_terms_11 : decode cX12_terms 11 = .ok (.lconst 0, 1) := by decide +kernel
theorem dX12_terms_12 : decode cX12_terms 12 = .ok (.ldc2_w 209, 3) := by decide +kernel
theorem dX12_terms_15 : decode cX12_terms 15 = .ok (.invokestatic 162, 3) := by decide +kernel
theorem dX12_terms_18 : decode cX12_terms 18 = .ok (.goto 42, 3) := by decide +kernel
theorem dX12_terms_21 : decode cX12_terms 21 = .ok (.iload_n 1, 1) := by decide +kernel
theorem dX12_terms_22 : decode cX12_terms 22 = .ok (.iconst 1, 1) := by decide +kernel
theorem dX12_terms_23 : decode cX12_terms 23 = .ok (.if_icmp .ne 15, 3) := by decide +kernel
theorem dX12_terms_26 : decode cX12_terms 26 = .ok (.iload_n 2, 1) := by decide +kernel
theorem dX12_terms_27 : decode cX12_terms 27 = .ok (.i2l, 1) := by decide +kernel
theorem dX12_terms_28 : decode cX12_terms 28 = .ok (.lconst 0, 1) := by decide +kernel
theorem dX12_terms_29 : decode cX12_terms 29 = .ok (.ldc2_w 168, 3) := by decide +kernel
theorem dX12_terms_32 : decode cX12_terms 32 = .ok (.invokestatic 162, 3) := by decide +kernel
theorem dX12_terms_35 : decode cX12_terms 35 = .ok (.goto 25, 3) := by decide +kernel
theorem dX12_terms_38 : decode cX12_terms 38 = .ok (.iload_n 1, 1) := by decide +kernel
theorem dX12_terms_39 : decode cX12_terms 39 = .ok (.iconst 2, 1) := by decide +kernel
theorem dX12_terms_40 : decode cX12_terms 40 = .ok (.if_icmp .ne 19, 3) := by decide +kernel
theorem dX12_terms_43 : decode cX12_terms 43 = .ok (.iload_n 2, 1) := by decide +kernel
theorem dX12_terms_44 : decode cX12_terms 44 = .ok (.i2l, 1) := by decide +kernel
theorem dX12_terms_45 : decode cX12_terms 45 = .ok (.lconst 0, 1) := by decide +kernel
theorem dX12_terms_46 : decode cX12_terms 46 = .ok (.ldc2_w 211, 3) := by decide +kernel
theorem dX12_terms_49 : decode cX12_terms 49 = .ok (.invokestatic 162, 3) := by decide +kernel
theorem dX12_terms_52 : decode cX12_terms 52 = .ok (.ifCond .eq 7, 3) := by decide +kernel
theorem dX12_terms_55 : decode cX12_terms 55 = .ok (.iconst 1, 1) := by decide +kernel
theorem dX12_terms_56 : decode cX12_terms 56 = .ok (.goto 4, 3) := by decide +kernel
theorem dX12_terms_59 : decode cX12_terms 59 = .ok (.iconst 0, 1) := by decide +kernel
theorem dX12_terms_60 : decode cX12_terms 60 = .ok (.istore_n 3, 1) := by decide +kernel
theorem dX12_terms_61 : decode cX12_terms 61 = .ok (.iload_n 3, 1) := by decide +kernel
theorem dX12_terms_62 : decode cX12_terms 62 = .ok (.ifCond .ne 9, 3) := by decide +kernel
theorem dX12_terms_65 : decode cX12_terms 65 = .ok (.aload_n 0, 1) := by decide +kernel
theorem dX12_terms_66 : decode cX12_terms 66 = .ok (.iconst (-1), 1) := by decide +kernel
theorem dX12_terms_67 : decode cX12_terms 67 = .ok (.invokevirtual 155, 3) := by decide +kernel
theorem dX12_terms_70 : decode cX12_terms 70 = .ok (.ireturn, 1) := by decide +kernel
theorem dX12_terms_71 : decode cX12_terms 71 = .ok (.aload_n 0, 1) := by decide +kernel
theorem dX12_terms_72 : decode cX12_terms 72 = .ok (.iconst 0, 1) := by decide +kernel
theorem dX12_terms_73 : decode cX12_terms 73 = .ok (.putfield 148, 3) := by decide +kernel
theorem dX12_terms_76 : decode cX12_terms 76 = .ok (.aload_n 0, 1) := by decide +kernel
theorem dX12_terms_77 : decode cX12_terms 77 = .ok (.bipush 6, 2) := by decide +kernel
theorem dX12_terms_79 : decode cX12_terms 79 = .ok (.iload_n 1, 1) := by decide +kernel
theorem dX12_terms_80 : decode cX12_terms 80 = .ok (.iadd, 1) := by decide +kernel
theorem dX12_terms_81 : decode cX12_terms 81 = .ok (.iload_n 2, 1) := by decide +kernel
theorem dX12_terms_82 : decode cX12_terms 82 = .ok (.invokevirtual 206, 3) := by decide +kernel
theorem dX12_terms_85 : decode cX12_terms 85 = .ok (.ireturn, 1) := by decide +kernel
theorem dX12_row_0 : decode cX12_row 0 = .ok (.aload_n 0, 1) := by decide +kernel
theorem dX12_row_1 : decode cX12_row 1 = .ok (.iconst 0, 1) := by decide +kernel
theorem dX12_row_2 : decode cX12_row 2 = .ok (.putfield 142, 3) := by decide +kernel
theorem dX12_row_5 : decode cX12_row 5 = .ok (.aload_n 0, 1) := by decide +kernel
theorem dX12_row_6 : decode cX12_row 6 = .ok (.getfield 213, 3) := by decide +kernel
theorem dX12_row_9 : decode cX12_row 9 = .ok (.istore_n 1, 1) := by decide +kernel
theorem dX12_row_10 : decode cX12_row 10 = .ok (.aload_n 0, 1) := by decide +kernel
theorem dX12_row_11 : decode cX12_row 11 = .ok (.iconst 0, 1) := by decide +kernel
theorem dX12_row_12 : decode cX12_row 12 = .ok (.putfield 213, 3) := by decide +kernel
theorem dX12_row_15 : decode cX12_row 15 = .ok (.iload_n 1, 1) := by decide +kernel
theorem dX12_row_16 : decode cX12_row 16 = .ok (.ifCond .ne 10, 3) := by decide +kernel
theorem dX12_row_19 : decode cX12_row 19 = .ok (.aload_n 0, 1) := by decide +kernel
theorem dX12_row_20 : decode cX12_row 20 = .ok (.bipush (-6), 2) := by decide +kernel
theorem dX12_row_22 : decode cX12_row 22 = .ok (.invokevirtual 155, 3) := by decide +kernel
theorem dX12_row_25 : decode cX12_row 25 = .ok (.ireturn, 1) := by decide +kernel
theorem dX12_row_26 : decode cX12_row 26 = .ok (.aload_n 0, 1) := by decide +kernel
theorem dX12_row_27 : decode cX12_row 27 = .ok (.iconst 0, 1) := by decide +kernel
theorem dX12_row_28 : decode cX12_row 28 = .ok (.putfield 216, 3) := by decide +kernel
theorem dX12_row_31 : decode cX12_row 31 = .ok (.iconst 0, 1) := by decide +kernel
theorem dX12_row_32 : decode cX12_row 32 = .ok (.istore_n 2, 1) := by decide +kernel
theorem dX12_row_33 : decode cX12_row 33 = .ok (.iconst 0, 1) := by decide +kernel
theorem dX12_row_34 : decode cX12_row 34 = .ok (.istore_n 3, 1) := by decide +kernel
theorem dX12_row_35 : decode cX12_row 35 = .ok (.iload_n 3, 1) := by decide +kernel
theorem dX12_row_36 : decode cX12_row 36 = .ok (.iload_n 1, 1) := by decide +kernel
theorem dX12_row_37 : decode cX12_row 37 = .ok (.if_icmp .ge 53, 3) := by decide +kernel
theorem dX12_row_40 : decode cX12_row 40 = .ok (.iload_n 3, 1) := by decide +kernel
theorem dX12_row_41 : decode cX12_row 41 = .ok (.iconst 1, 1) := by decide +kernel
theorem dX12_row_42 : decode cX12_row 42 = .ok (.iadd, 1) := by decide +kernel
theorem dX12_row_43 : decode cX12_row 43 = .ok (.iload_n 1, 1) := by decide +kernel
theorem dX12_row_44 : decode cX12_row 44 = .ok (.if_icmp .ge 30, 3) := by decide +kernel
theorem dX12_row_47 : decode cX12_row 47 = .ok (.aload_n 0, 1) := by decide +kernel
theorem dX12_row_48 : decode cX12_row 48 = .ok (.aload_n 0, 1) := by decide +kernel
theorem dX12_row_49 : decode cX12_row 49 = .ok (.getfield 35, 3) := by decide +kernel
theorem dX12_row_52 : decode cX12_row 52 = .ok (.iload_n 3, 1) := by decide +kernel
theorem dX12_row_53 : decode cX12_row 53 = .ok (.iaload, 1) := by decide +kernel
theorem dX12_row_54 : decode cX12_row 54 = .ok (.aload_n 0, 1) := by decide +kernel
theorem dX12_row_55 : decode cX12_row 55 = .ok (.getfield 35, 3) := by decide +kernel
theorem dX12_row_58 : decode cX12_row 58 = .ok (.iload_n 3, 1) := by decide +kernel
theorem dX12_row_59 : decode cX12_row 59 = .ok (.iconst 1, 1) := by decide +kernel
theorem dX12_row_60 : decode cX12_row 60 = .ok (.iadd, 1) := by decide +kernel
theorem dX12_row_61 : decode cX12_row 61 = .ok (.iaload, 1) := by decide +kernel
theorem dX12_row_62 : decode cX12_row 62 = .ok (.invokevirtual 191, 3) := by decide +kernel
theorem dX12_row_65 : decode cX12_row 65 = .ok (.ifCond .lt 9, 3) := by decide +kernel
theorem dX12_row_68 : decode cX12_row 68 = .ok (.iinc 2 1, 3) := by decide +kernel
theorem dX12_row_71 : decode cX12_row 71 = .ok (.goto 13, 3) := by decide +kernel
theorem dX12_row_74 : decode cX12_row 74 = .ok (.aload_n 0, 1) := by decide +kernel
theorem dX12_row_75 : decode cX12_row 75 = .ok (.dup, 1) := by decide +kernel
theorem dX12_row_76 : decode cX12_row 76 = .ok (.getfield 216, 3) := by decide +kernel
theorem dX12_row_79 : decode cX12_row 79 = .ok (.iconst 1, 1) := by decide +kernel
theorem dX12_row_80 : decode cX12_row 80 = .ok (.iadd, 1) := by decide +kernel
theorem dX12_row_81 : decode cX12_row 81 = .ok (.putfield 216, 3) := by decide +kernel
theorem dX12_row_84 : decode cX12_row 84 = .ok (.iinc 3 2, 3) := by decide +kernel
theorem dX12_row_87 : decode cX12_row 87 = .ok (.goto (-52), 3) := by decide +kernel
theorem dX12_row_90 : decode cX12_row 90 = .ok (.aload_n 0, 1) := by decide +kernel
theorem dX12_row_91 : decode cX12_row 91 = .ok (.iconst 0, 1) := by decide +kernel
theorem dX12_row_92 : decode cX12_row 92 = .ok (.putfield 148, 3) := by decide +kernel
theorem dX12_row_95 : decode cX12_row 95 = .ok (.aload_n 0, 1) := by decide +kernel
theorem dX12_row_96 : decode cX12_row 96 = .ok (.iload_n 2, 1) := by decide +kernel
theorem dX12_row_97 : decode cX12_row 97 = .ok (.invokevirtual 155, 3) := by decide +kernel
theorem dX12_row_100 : decode cX12_row 100 = .ok (.ireturn, 1) := by decide +kernel
theorem dX12_brooms_0 : decode cX12_brooms 0 = .ok (.aload_n 0, 1) := by decide +kernel
theorem dX12_brooms_1 : decode cX12_brooms 1 = .ok (.iconst 0, 1) := by decide +kernel
theorem dX12_brooms_2 : decode cX12_brooms 2 = .ok (.putfield 142, 3) := by decide +kernel
theorem dX12_brooms_5 : decode cX12_brooms 5 = .ok (.aload_n 0, 1) := by decide +kernel
theorem dX12_brooms_6 : decode cX12_brooms 6 = .ok (.getfield 216, 3) := by decide +kernel
theorem dX12_brooms_9 : decode cX12_brooms 9 = .ok (.ireturn, 1) := by decide +kernel
theorem dX12_four_0 : decode cX12_four 0 = .ok (.bipush 24, 2) := by decide +kernel
theorem dX12_four_2 : decode cX12_four 2 = .ok (.istore_n 2, 1) := by decide +kernel
theorem dX12_four_3 : decode cX12_four 3 = .ok (.iload_n 2, 1) := by decide +kernel
theorem dX12_four_4 : decode cX12_four 4 = .ok (.ifCond .lt 35, 3) := by decide +kernel
theorem dX12_four_7 : decode cX12_four 7 = .ok (.aload_n 0, 1) := by decide +kernel
theorem dX12_four_8 : decode cX12_four 8 = .ok (.getfield 35, 3) := by decide +kernel
theorem dX12_four_11 : decode cX12_four 11 = .ok (.aload_n 0, 1) := by decide +kernel
theorem dX12_four_12 : decode cX12_four 12 = .ok (.getfield 213, 3) := by decide +kernel
theorem dX12_four_15 : decode cX12_four 15 = .ok (.iload_n 1, 1) := by decide +kernel
theorem dX12_four_16 : decode cX12_four 16 = .ok (.iload_n 2, 1) := by decide +kernel
theorem dX12_four_17 : decode cX12_four 17 = .ok (.ishr, 1) := by decide +kernel
theorem dX12_four_18 : decode cX12_four 18 = .ok (.sipush 255, 3) := by decide +kernel
theorem dX12_four_21 : decode cX12_four 21 = .ok (.iand, 1) := by decide +kernel
theorem dX12_four_22 : decode cX12_four 22 = .ok (.iastore, 1) := by decide +kernel
theorem dX12_four_23 : decode cX12_four 23 = .ok (.aload_n 0, 1) := by decide +kernel
theorem dX12_four_24 : decode cX12_four 24 = .ok (.dup, 1) := by decide +kernel
theorem dX12_four_25 : decode cX12_four 25 = .ok (.getfield 213, 3) := by decide +kernel
theorem dX12_four_28 : decode cX12_four 28 = .ok (.iconst 1, 1) := by decide +kernel
theorem dX12_four_29 : decode cX12_four 29 = .ok (.iadd, 1) := by decide +kernel
theorem dX12_four_30 : decode cX12_four 30 = .ok (.putfield 213, 3) := by decide +kernel
theorem dX12_four_33 : decode cX12_four 33 = .ok (.iinc 2 (-8), 3) := by decide +kernel
theorem dX12_four_36 : decode cX12_four 36 = .ok (.goto (-33), 3) := by decide +kernel
theorem dX12_four_39 : decode cX12_four 39 = .ok (.return_, 1) := by decide +kernel
theorem dX12_feed_0 : decode cX12_feed 0 = .ok (.aload_n 0, 1) := by decide +kernel
theorem dX12_feed_1 : decode cX12_feed 1 = .ok (.iconst 0, 1) := by decide +kernel
theorem dX12_feed_2 : decode cX12_feed 2 = .ok (.putfield 142, 3) := by decide +kernel
theorem dX12_feed_5 : decode cX12_feed 5 = .ok (.aload_n 0, 1) := by decide +kernel
theorem dX12_feed_6 : decode cX12_feed 6 = .ok (.getfield 213, 3) := by decide +kernel
theorem dX12_feed_9 : decode cX12_feed 9 = .ok (.bipush 20, 2) := by decide +kernel
theorem dX12_feed_11 : decode cX12_feed 11 = .ok (.iadd, 1) := by decide +kernel
theorem dX12_feed_12 : decode cX12_feed 12 = .ok (.sipush 400, 3) := by decide +kernel
theorem dX12_feed_15 : decode cX12_feed 15 = .ok (.if_icmp .le 5, 3) := by decide +kernel
theorem dX12_feed_18 : decode cX12_feed 18 = .ok (.iconst (-1), 1) := by decide +kernel
theorem dX12_feed_19 : decode cX12_feed 19 = .ok (.ireturn, 1) := by decide +kernel
theorem dX12_feed_20 : decode cX12_feed 20 = .ok (.aload_n 0, 1) := by decide +kernel
theorem dX12_feed_21 : decode cX12_feed 21 = .ok (.iload_n 1, 1) := by decide +kernel
theorem dX12_feed_22 : decode cX12_feed 22 = .ok (.invokevirtual 219, 3) := by decide +kernel
theorem dX12_feed_25 : decode cX12_feed 25 = .ok (.aload_n 0, 1) := by decide +kernel
theorem dX12_feed_26 : decode cX12_feed 26 = .ok (.iload_n 2, 1) := by decide +kernel
theorem dX12_feed_27 : decode cX12_feed 27 = .ok (.invokevirtual 219, 3) := by decide +kernel
theorem dX12_feed_30 : decode cX12_feed 30 = .ok (.aload_n 0, 1) := by decide +kernel
theorem dX12_feed_31 : decode cX12_feed 31 = .ok (.iload_n 3, 1) := by decide +kernel
theorem dX12_feed_32 : decode cX12_feed 32 = .ok (.invokevirtual 219, 3) := by decide +kernel
theorem dX12_feed_35 : decode cX12_feed 35 = .ok (.aload_n 0, 1) := by decide +kernel
theorem dX12_feed_36 : decode cX12_feed 36 = .ok (.iload 4, 2) := by decide +kernel
theorem dX12_feed_38 : decode cX12_feed 38 = .ok (.invokevirtual 219, 3) := by decide +kernel
theorem dX12_feed_41 : decode cX12_feed 41 = .ok (.aload_n 0, 1) := by decide +kernel
theorem dX12_feed_42 : decode cX12_feed 42 = .ok (.iload 5, 2) := by decide +kernel
theorem dX12_feed_44 : decode cX12_feed 44 = .ok (.invokevirtual 219, 3) := by decide +kernel
theorem dX12_feed_47 : decode cX12_feed 47 = .ok (.aload_n 0, 1) := by decide +kernel
theorem dX12_feed_48 : decode cX12_feed 48 = .ok (.getfield 213, 3) := by decide +kernel
theorem dX12_feed_51 : decode cX12_feed 51 = .ok (.ireturn, 1) := by decide +kernel
theorem dX12_end_0 : decode cX12_end 0 = .ok (.aload_n 0, 1) := by decide +kernel
theorem dX12_end_1 : decode cX12_end 1 = .ok (.iconst 0, 1) := by decide +kernel
theorem dX12_end_2 : decode cX12_end 2 = .ok (.putfield 142, 3) := by decide +kernel
theorem dX12_end_5 : decode cX12_end 5 = .ok (.iload_n 1, 1) := by decide +kernel
theorem dX12_end_6 : decode cX12_end 6 = .ok (.ifCond .lt 11, 3) := by decide +kernel
theorem dX12_end_9 : decode cX12_end 9 = .ok (.iload_n 1, 1) := by decide +kernel
theorem dX12_end_10 : decode cX12_end 10 = .ok (.aload_n 0, 1) := by decide +kernel
theorem dX12_end_11 : decode cX12_end 11 = .ok (.getfield 213, 3) := by decide +kernel
theorem dX12_end_14 : decode cX12_end 14 = .ok (.if_icmp .le 5, 3) := by decide +kernel
theorem dX12_end_17 : decode cX12_end 17 = .ok (.iconst (-1), 1) := by decide +kernel
theorem dX12_end_18 : decode cX12_end 18 = .ok (.ireturn, 1) := by decide +kernel
theorem dX12_end_19 : decode cX12_end 19 = .ok (.aload_n 0, 1) := by decide +kernel
theorem dX12_end_20 : decode cX12_end 20 = .ok (.iload_n 1, 1) := by decide +kernel
theorem dX12_end_21 : decode cX12_end 21 = .ok (.putfield 213, 3) := by decide +kernel
theorem dX12_end_24 : decode cX12_end 24 = .ok (.iload_n 1, 1) := by decide +kernel
theorem dX12_end_25 : decode cX12_end 25 = .ok (.ireturn, 1) := by decide +kernel
theorem dX12_isSmall_0 : decode cX12_isSmall 0 = .ok (.iload_n 0, 1) := by decide +kernel
theorem dX12_isSmall_1 : decode cX12_isSmall 1 = .ok (.bipush 97, 2) := by decide +kernel
theorem dX12_isSmall_3 : decode cX12_isSmall 3 = .ok (.if_icmp .lt 13, 3) := by decide +kernel
theorem dX12_isSmall_6 : decode cX12_isSmall 6 = .ok (.iload_n 0, 1) := by decide +kernel
theorem dX12_isSmall_7 : decode cX12_isSmall 7 = .ok (.bipush 122, 2) := by decide +kernel
theorem dX12_isSmall_9 : decode cX12_isSmall 9 = .ok (.if_icmp .gt 7, 3) := by decide +kernel
theorem dX12_isSmall_12 : decode cX12_isSmall 12 = .ok (.iconst 1, 1) := by decide +kernel
theorem dX12_isSmall_13 : decode cX12_isSmall 13 = .ok (.goto 4, 3) := by decide +kernel
theorem dX12_isSmall_16 : decode cX12_isSmall 16 = .ok (.iconst 0, 1) := by decide +kernel
theorem dX12_isSmall_17 : decode cX12_isSmall 17 = .ok (.ireturn, 1) := by decide +kernel
theorem dX12_isDigit_0 : decode cX12_isDigit 0 = .ok (.iload_n 0, 1) := by decide +kernel
theorem dX12_isDigit_1 : decode cX12_isDigit 1 = .ok (.bipush 48, 2) := by decide +kernel
theorem dX12_isDigit_3 : decode cX12_isDigit 3 = .ok (.if_icmp .lt 13, 3) := by decide +kernel
theorem dX12_isDigit_6 : decode cX12_isDigit 6 = .ok (.iload_n 0, 1) := by decide +kernel
theorem dX12_isDigit_7 : decode cX12_isDigit 7 = .ok (.bipush 57, 2) := by decide +kernel
theorem dX12_isDigit_9 : decode cX12_isDigit 9 = .ok (.if_icmp .gt 7, 3) := by decide +kernel
theorem dX12_isDigit_12 : decode cX12_isDigit 12 = .ok (.iconst 1, 1) := by decide +kernel
theorem dX12_isDigit_13 : decode cX12_isDigit 13 = .ok (.goto 4, 3) := by decide +kernel
theorem dX12_isDigit_16 : decode cX12_isDigit 16 = .ok (.iconst 0, 1) := by decide +kernel
theorem dX12_isDigit_17 : decode cX12_isDigit 17 = .ok (.ireturn, 1) := by decide +kernel
theorem dX12_nextToken_0 : decode cX12_nextToken 0 = .ok (.aload_n 0, 1) := by decide +kernel
theorem dX12_nextToken_1 : decode cX12_nextToken 1 = .ok (.aload_n 0, 1) := by decide +kernel
theorem dX12_nextToken_2 : decode cX12_nextToken 2 = .ok (.getfield 222, 3) := by decide +kernel
theorem dX12_nextToken_5 : decode cX12_nextToken 5 = .ok (.putfield 232, 3) := by decide +kernel
theorem dX12_nextToken_8 : decode cX12_nextToken 8 = .ok (.aload_n 0, 1) := by decide +kernel
theorem dX12_nextToken_9 : decode cX12_nextToken 9 = .ok (.getfield 232, 3) := by decide +kernel
theorem dX12_nextToken_12 : decode cX12_nextToken 12 = .ok (.aload_n 0, 1) := by decide +kernel
theorem dX12_nextToken_13 : decode cX12_nextToken 13 = .ok (.getfield 213, 3) := by decide +kernel
theorem dX12_nextToken_16 : decode cX12_nextToken 16 = .ok (.if_icmp .ge 30, 3) := by decide +kernel
theorem dX12_nextToken_19 : decode cX12_nextToken 19 = .ok (.aload_n 0, 1) := by decide +kernel
theorem dX12_nextToken_20 : decode cX12_nextToken 20 = .ok (.getfield 35, 3) := by decide +kernel
theorem dX12_nextToken_23 : decode cX12_nextToken 23 = .ok (.aload_n 0, 1) := by decide +kernel
theorem dX12_nextToken_24 : decode cX12_nextToken 24 = .ok (.getfield 232, 3) := by decide +kernel
theorem dX12_nextToken_27 : decode cX12_nextToken 27 = .ok (.iaload, 1) := by decide +kernel
theorem dX12_nextToken_28 : decode cX12_nextToken 28 = .ok (.bipush 32, 2) := by decide +kernel
theorem dX12_nextToken_30 : decode cX12_nextToken 30 = .ok (.if_icmp .ne 16, 3) := by decide +kernel
theorem dX12_nextToken_33 : decode cX12_nextToken 33 = .ok (.aload_n 0, 1) := by decide +kernel
theorem dX12_nextToken_34 : decode cX12_nextToken 34 = .ok (.dup, 1) := by decide +kernel
theorem dX12_nextToken_35 : decode cX12_nextToken 35 = .ok (.getfield 232, 3) := by decide +kernel
theorem dX12_nextToken_38 : decode cX12_nextToken 38 = .ok (.iconst 1, 1) := by decide +kernel
theorem dX12_nextToken_39 : decode cX12_nextToken 39 = .ok (.iadd, 1) := by decide +kernel
theorem dX12_nextToken_40 : decode cX12_nextToken 40 = .ok (.putfield 232, 3) := by decide +kernel
theorem dX12_nextToken_43 : decode cX12_nextToken 43 = .ok (.goto (-35), 3) := by decide +kernel
theorem dX12_nextToken_46 : decode cX12_nextToken 46 = .ok (.aload_n 0, 1) := by decide +kernel
theorem dX12_nextToken_47 : decode cX12_nextToken 47 = .ok (.aload_n 0, 1) := by decide +kernel
theorem dX12_nextToken_48 : decode cX12_nextToken 48 = .ok (.getfield 232, 3) := by decide +kernel
theorem dX12_nextToken_51 : decode cX12_nextToken 51 = .ok (.putfield 222, 3) := by decide +kernel
theorem dX12_nextToken_54 : decode cX12_nextToken 54 = .ok (.aload_n 0, 1) := by decide +kernel
theorem dX12_nextToken_55 : decode cX12_nextToken 55 = .ok (.lconst 0, 1) := by decide +kernel
theorem dX12_nextToken_56 : decode cX12_nextToken 56 = .ok (.putfield 235, 3) := by decide +kernel
theorem dX12_nextToken_59 : decode cX12_nextToken 59 = .ok (.aload_n 0, 1) := by decide +kernel
theorem dX12_nextToken_60 : decode cX12_nextToken 60 = .ok (.aload_n 0, 1) := by decide +kernel
theorem dX12_nextToken_61 : decode cX12_nextToken 61 = .ok (.getfield 232, 3) := by decide +kernel
theorem dX12_nextToken_64 : decode cX12_nextToken 64 = .ok (.aload_n 0, 1) := by decide +kernel
theorem dX12_nextToken_65 : decode cX12_nextToken 65 = .ok (.getfield 213, 3) := by decide +kernel
theorem dX12_nextToken_68 : decode cX12_nextToken 68 = .ok (.if_icmp .ne 7, 3) := by decide +kernel
theorem dX12_nextToken_71 : decode cX12_nextToken 71 = .ok (.iconst 0, 1) := by decide +kernel
theorem dX12_nextToken_72 : decode cX12_nextToken 72 = .ok (.goto 42, 3) := by decide +kernel
theorem dX12_nextToken_75 : decode cX12_nextToken 75 = .ok (.aload_n 0, 1) := by decide +kernel
theorem dX12_nextToken_76 : decode cX12_nextToken 76 = .ok (.getfield 35, 3) := by decide +kernel
theorem dX12_nextToken_79 : decode cX12_nextToken 79 = .ok (.aload_n 0, 1) := by decide +kernel
theorem dX12_nextToken_80 : decode cX12_nextToken 80 = .ok (.getfield 232, 3) := by decide +kernel
theorem dX12_nextToken_83 : decode cX12_nextToken 83 = .ok (.iaload, 1) := by decide +kernel
theorem dX12_nextToken_84 : decode cX12_nextToken 84 = .ok (.invokestatic 239, 3) := by decide +kernel
theorem dX12_nextToken_87 : decode cX12_nextToken 87 = .ok (.ifCond .eq 7, 3) := by decide +kernel
theorem dX12_nextToken_90 : decode cX12_nextToken 90 = .ok (.iconst 1, 1) := by decide +kernel
theorem dX12_nextToken_91 : decode cX12_nextToken 91 = .ok (.goto 23, 3) := by decide +kernel
theorem dX12_nextToken_94 : decode cX12_nextToken 94 = .ok (.aload_n 0, 1) := by decide +kernel
theorem dX12_nextToken_95 : decode cX12_nextToken 95 = .ok (.getfield 35, 3) := by decide +kernel
theorem dX12_nextToken_98 : decode cX12_nextToken 98 = .ok (.aload_n 0, 1) := by decide +kernel
theorem dX12_nextToken_99 : decode cX12_nextToken 99 = .ok (.getfield 232, 3) := by decide +kernel
theorem dX12_nextToken_102 : decode cX12_nextToken 102 = .ok (.iaload, 1) := by decide +kernel
theorem dX12_nextToken_103 : decode cX12_nextToken 103 = .ok (.invokestatic 242, 3) := by decide +kernel
theorem dX12_nextToken_106 : decode cX12_nextToken 106 = .ok (.ifCond .eq 7, 3) := by decide +kernel
theorem dX12_nextToken_109 : decode cX12_nextToken 109 = .ok (.iconst 2, 1) := by decide +kernel
theorem dX12_nextToken_110 : decode cX12_nextToken 110 = .ok (.goto 4, 3) := by decide +kernel
theorem dX12_nextToken_113 : decode cX12_nextToken 113 = .ok (.iconst 3, 1) := by decide +kernel
theorem dX12_nextToken_114 : decode cX12_nextToken 114 = .ok (.putfield 245, 3) := by decide +kernel
theorem dX12_nextToken_117 : decode cX12_nextToken 117 = .ok (.aload_n 0, 1) := by decide +kernel
theorem dX12_nextToken_118 : decode cX12_nextToken 118 = .ok (.getfield 245, 3) := by decide +kernel
theorem dX12_nextToken_121 : decode cX12_nextToken 121 = .ok (.iconst 3, 1) := by decide +kernel
theorem dX12_nextToken_122 : decode cX12_nextToken 122 = .ok (.if_icmp .ne 27, 3) := by decide +kernel
theorem dX12_nextToken_125 : decode cX12_nextToken 125 = .ok (.aload_n 0, 1) := by decide +kernel
theorem dX12_nextToken_126 : decode cX12_nextToken 126 = .ok (.aload_n 0, 1) := by decide +kernel
theorem dX12_nextToken_127 : decode cX12_nextToken 127 = .ok (.getfield 35, 3) := by decide +kernel
theorem dX12_nextToken_130 : decode cX12_nextToken 130 = .ok (.aload_n 0, 1) := by decide +kernel
theorem dX12_nextToken_131 : decode cX12_nextToken 131 = .ok (.getfield 232, 3) := by decide +kernel
theorem dX12_nextToken_134 : decode cX12_nextToken 134 = .ok (.iaload, 1) := by decide +kernel
theorem dX12_nextToken_135 : decode cX12_nextToken 135 = .ok (.i2l, 1) := by decide +kernel
theorem dX12_nextToken_136 : decode cX12_nextToken 136 = .ok (.putfield 235, 3) := by decide +kernel
theorem dX12_nextToken_139 : decode cX12_nextToken 139 = .ok (.aload_n 0, 1) := by decide +kernel
theorem dX12_nextToken_140 : decode cX12_nextToken 140 = .ok (.dup, 1) := by decide +kernel
theorem dX12_nextToken_141 : decode cX12_nextToken 141 = .ok (.getfield 222, 3) := by decide +kernel
theorem dX12_nextToken_144 : decode cX12_nextToken 144 = .ok (.iconst 1, 1) := by decide +kernel
theorem dX12_nextToken_145 : decode cX12_nextToken 145 = .ok (.iadd, 1) := by decide +kernel
theorem dX12_nextToken_146 : decode cX12_nextToken 146 = .ok (.putfield 222, 3) := by decide +kernel
theorem dX12_nextToken_149 : decode cX12_nextToken 149 = .ok (.aload_n 0, 1) := by decide +kernel
theorem dX12_nextToken_150 : decode cX12_nextToken 150 = .ok (.getfield 245, 3) := by decide +kernel
theorem dX12_nextToken_153 : decode cX12_nextToken 153 = .ok (.iconst 1, 1) := by decide +kernel
theorem dX12_nextToken_154 : decode cX12_nextToken 154 = .ok (.if_icmp .ne 89, 3) := by decide +kernel
theorem dX12_nextToken_157 : decode cX12_nextToken 157 = .ok (.aload_n 0, 1) := by decide +kernel
theorem dX12_nextToken_158 : decode cX12_nextToken 158 = .ok (.getfield 222, 3) := by decide +kernel
theorem dX12_nextToken_161 : decode cX12_nextToken 161 = .ok (.aload_n 0, 1) := by decide +kernel
theorem dX12_nextToken_162 : decode cX12_nextToken 162 = .ok (.getfield 213, 3) := by decide +kernel
theorem dX12_nextToken_165 : decode cX12_nextToken 165 = .ok (.if_icmp .ge 78, 3) := by decide +kernel
theorem dX12_nextToken_168 : decode cX12_nextToken 168 = .ok (.aload_n 0, 1) := by decide +kernel
theorem dX12_nextToken_169 : decode cX12_nextToken 169 = .ok (.getfield 35, 3) := by decide +kernel
theorem dX12_nextToken_172 : decode cX12_nextToken 172 = .ok (.aload_n 0, 1) := by decide +kernel
theorem dX12_nextToken_173 : decode cX12_nextToken 173 = .ok (.getfield 222, 3) := by decide +kernel
theorem dX12_nextToken_176 : decode cX12_nextToken 176 = .ok (.iaload, 1) := by decide +kernel
theorem dX12_nextToken_177 : decode cX12_nextToken 177 = .ok (.invokestatic 239, 3) := by decide +kernel
theorem dX12_nextToken_180 : decode cX12_nextToken 180 = .ok (.ifCond .eq 63, 3) := by decide +kernel
theorem dX12_nextToken_183 : decode cX12_nextToken 183 = .ok (.aload_n 0, 1) := by decide +kernel
theorem dX12_nextToken_184 : decode cX12_nextToken 184 = .ok (.aload_n 0, 1) := by decide +kernel
theorem dX12_nextToken_185 : decode cX12_nextToken 185 = .ok (.getfield 222, 3) := by decide +kernel
theorem dX12_nextToken_188 : decode cX12_nextToken 188 = .ok (.aload_n 0, 1) := by decide +kernel
theorem dX12_nextToken_189 : decode cX12_nextToken 189 = .ok (.getfield 232, 3) := by decide +kernel
theorem dX12_nextToken_192 : decode cX12_nextToken 192 = .ok (.isub, 1) := by decide +kernel
theorem dX12_nextToken_193 : decode cX12_nextToken 193 = .ok (.bipush 10, 2) := by decide +kernel
theorem dX12_nextToken_195 : decode cX12_nextToken 195 = .ok (.if_icmp .ge 29, 3) := by decide +kernel
theorem dX12_nextToken_198 : decode cX12_nextToken 198 = .ok (.aload_n 0, 1) := by decide +kernel
theorem dX12_nextToken_199 : decode cX12_nextToken 199 = .ok (.getfield 235, 3) := by decide +kernel
theorem dX12_nextToken_202 : decode cX12_nextToken 202 = .ok (.ldc2_w 248, 3) := by decide +kernel
theorem dX12_nextToken_205 : decode cX12_nextToken 205 = .ok (.lmul, 1) := by decide +kernel
theorem dX12_nextToken_206 : decode cX12_nextToken 206 = .ok (.aload_n 0, 1) := by decide +kernel
theorem dX12_nextToken_207 : decode cX12_nextToken 207 = .ok (.getfield 35, 3) := by decide +kernel
theorem dX12_nextToken_210 : decode cX12_nextToken 210 = .ok (.aload_n 0, 1) := by decide +kernel
theorem dX12_nextToken_211 : decode cX12_nextToken 211 = .ok (.getfield 222, 3) := by decide +kernel
theorem dX12_nextToken_214 : decode cX12_nextToken 214 = .ok (.iaload, 1) := by decide +kernel
theorem dX12_nextToken_215 : decode cX12_nextToken 215 = .ok (.i2l, 1) := by decide +kernel
theorem dX12_nextToken_216 : decode cX12_nextToken 216 = .ok (.ladd, 1) := by decide +kernel
theorem dX12_nextToken_217 : decode cX12_nextToken 217 = .ok (.ldc2_w 250, 3) := by decide +kernel
theorem dX12_nextToken_220 : decode cX12_nextToken 220 = .ok (.lsub, 1) := by decide +kernel
theorem dX12_nextToken_221 : decode cX12_nextToken 221 = .ok (.goto 6, 3) := by decide +kernel
theorem dX12_nextToken_224 : decode cX12_nextToken 224 = .ok (.ldc2_w 252, 3) := by decide +kernel
theorem dX12_nextToken_227 : decode cX12_nextToken 227 = .ok (.putfield 235, 3) := by decide +kernel
theorem dX12_nextToken_230 : decode cX12_nextToken 230 = .ok (.aload_n 0, 1) := by decide +kernel
theorem dX12_nextToken_231 : decode cX12_nextToken 231 = .ok (.dup, 1) := by decide +kernel
theorem dX12_nextToken_232 : decode cX12_nextToken 232 = .ok (.getfield 222, 3) := by decide +kernel
theorem dX12_nextToken_235 : decode cX12_nextToken 235 = .ok (.iconst 1, 1) := by decide +kernel
theorem dX12_nextToken_236 : decode cX12_nextToken 236 = .ok (.iadd, 1) := by decide +kernel
theorem dX12_nextToken_237 : decode cX12_nextToken 237 = .ok (.putfield 222, 3) := by decide +kernel
theorem dX12_nextToken_240 : decode cX12_nextToken 240 = .ok (.goto (-91), 3) := by decide +kernel
theorem dX12_nextToken_243 : decode cX12_nextToken 243 = .ok (.aload_n 0, 1) := by decide +kernel
theorem dX12_nextToken_244 : decode cX12_nextToken 244 = .ok (.getfield 245, 3) := by decide +kernel
theorem dX12_nextToken_247 : decode cX12_nextToken 247 = .ok (.iconst 2, 1) := by decide +kernel
theorem dX12_nextToken_248 : decode cX12_nextToken 248 = .ok (.if_icmp .ne 87, 3) := by decide +kernel
theorem dX12_nextToken_251 : decode cX12_nextToken 251 = .ok (.aload_n 0, 1) := by decide +kernel
theorem dX12_nextToken_252 : decode cX12_nextToken 252 = .ok (.getfield 222, 3) := by decide +kernel
theorem dX12_nextToken_255 : decode cX12_nextToken 255 = .ok (.aload_n 0, 1) := by decide +kernel
theorem dX12_nextToken_256 : decode cX12_nextToken 256 = .ok (.getfield 213, 3) := by decide +kernel
theorem dX12_nextToken_259 : decode cX12_nextToken 259 = .ok (.if_icmp .ge 76, 3) := by decide +kernel
theorem dX12_nextToken_262 : decode cX12_nextToken 262 = .ok (.aload_n 0, 1) := by decide +kernel
theorem dX12_nextToken_263 : decode cX12_nextToken 263 = .ok (.getfield 35, 3) := by decide +kernel
theorem dX12_nextToken_266 : decode cX12_nextToken 266 = .ok (.aload_n 0, 1) := by decide +kernel
theorem dX12_nextToken_267 : decode cX12_nextToken 267 = .ok (.getfield 222, 3) := by decide +kernel
theorem dX12_nextToken_270 : decode cX12_nextToken 270 = .ok (.iaload, 1) := by decide +kernel
theorem dX12_nextToken_271 : decode cX12_nextToken 271 = .ok (.invokestatic 242, 3) := by decide +kernel
theorem dX12_nextToken_274 : decode cX12_nextToken 274 = .ok (.ifCond .eq 61, 3) := by decide +kernel
theorem dX12_nextToken_277 : decode cX12_nextToken 277 = .ok (.aload_n 0, 1) := by decide +kernel
theorem dX12_nextToken_278 : decode cX12_nextToken 278 = .ok (.aload_n 0, 1) := by decide +kernel
theorem dX12_nextToken_279 : decode cX12_nextToken 279 = .ok (.getfield 235, 3) := by decide +kernel
theorem dX12_nextToken_282 : decode cX12_nextToken 282 = .ok (.ldc2_w 174, 3) := by decide +kernel
theorem dX12_nextToken_285 : decode cX12_nextToken 285 = .ok (.lcmp, 1) := by decide +kernel
theorem dX12_nextToken_286 : decode cX12_nextToken 286 = .ok (.ifCond .le 10, 3) := by decide +kernel
theorem dX12_nextToken_289 : decode cX12_nextToken 289 = .ok (.aload_n 0, 1) := by decide +kernel
theorem dX12_nextToken_290 : decode cX12_nextToken 290 = .ok (.getfield 235, 3) := by decide +kernel
theorem dX12_nextToken_293 : decode cX12_nextToken 293 = .ok (.goto 26, 3) := by decide +kernel
theorem dX12_nextToken_296 : decode cX12_nextToken 296 = .ok (.aload_n 0, 1) := by decide +kernel
theorem dX12_nextToken_297 : decode cX12_nextToken 297 = .ok (.getfield 235, 3) := by decide +kernel
theorem dX12_nextToken_300 : decode cX12_nextToken 300 = .ok (.ldc2_w 204, 3) := by decide +kernel
theorem dX12_nextToken_303 : decode cX12_nextToken 303 = .ok (.lmul, 1) := by decide +kernel
theorem dX12_nextToken_304 : decode cX12_nextToken 304 = .ok (.aload_n 0, 1) := by decide +kernel
theorem dX12_nextToken_305 : decode cX12_nextToken 305 = .ok (.getfield 35, 3) := by decide +kernel
theorem dX12_nextToken_308 : decode cX12_nextToken 308 = .ok (.aload_n 0, 1) := by decide +kernel
theorem dX12_nextToken_309 : decode cX12_nextToken 309 = .ok (.getfield 222, 3) := by decide +kernel
theorem dX12_nextToken_312 : decode cX12_nextToken 312 = .ok (.iaload, 1) := by decide +kernel
theorem dX12_nextToken_313 : decode cX12_nextToken 313 = .ok (.i2l, 1) := by decide +kernel
theorem dX12_nextToken_314 : decode cX12_nextToken 314 = .ok (.ladd, 1) := by decide +kernel
theorem dX12_nextToken_315 : decode cX12_nextToken 315 = .ok (.ldc2_w 254, 3) := by decide +kernel
theorem dX12_nextToken_318 : decode cX12_nextToken 318 = .ok (.lsub, 1) := by decide +kernel
theorem dX12_nextToken_319 : decode cX12_nextToken 319 = .ok (.putfield 235, 3) := by decide +kernel
theorem dX12_nextToken_322 : decode cX12_nextToken 322 = .ok (.aload_n 0, 1) := by decide +kernel
theorem dX12_nextToken_323 : decode cX12_nextToken 323 = .ok (.dup, 1) := by decide +kernel
theorem dX12_nextToken_324 : decode cX12_nextToken 324 = .ok (.getfield 222, 3) := by decide +kernel
theorem dX12_nextToken_327 : decode cX12_nextToken 327 = .ok (.iconst 1, 1) := by decide +kernel
theorem dX12_nextToken_328 : decode cX12_nextToken 328 = .ok (.iadd, 1) := by decide +kernel
theorem dX12_nextToken_329 : decode cX12_nextToken 329 = .ok (.putfield 222, 3) := by decide +kernel
theorem dX12_nextToken_332 : decode cX12_nextToken 332 = .ok (.goto (-89), 3) := by decide +kernel
theorem dX12_nextToken_335 : decode cX12_nextToken 335 = .ok (.return_, 1) := by decide +kernel
theorem dX12_begin_0 : decode cX12_begin 0 = .ok (.aload_n 0, 1) := by decide +kernel
theorem dX12_begin_1 : decode cX12_begin 1 = .ok (.iconst 0, 1) := by decide +kernel
theorem dX12_begin_2 : decode cX12_begin 2 = .ok (.putfield 222, 3) := by decide +kernel
theorem dX12_begin_5 : decode cX12_begin 5 = .ok (.aload_n 0, 1) := by decide +kernel
theorem dX12_begin_6 : decode cX12_begin 6 = .ok (.iconst 0, 1) := by decide +kernel
theorem dX12_begin_7 : decode cX12_begin 7 = .ok (.putfield 225, 3) := by decide +kernel
theorem dX12_begin_10 : decode cX12_begin 10 = .ok (.aload_n 0, 1) := by decide +kernel
theorem dX12_begin_11 : decode cX12_begin 11 = .ok (.iconst (-1), 1) := by decide +kernel
theorem dX12_begin_12 : decode cX12_begin 12 = .ok (.putfield 38, 3) := by decide +kernel
theorem dX12_begin_15 : decode cX12_begin 15 = .ok (.aload_n 0, 1) := by decide +kernel
theorem dX12_begin_16 : decode cX12_begin 16 = .ok (.invokevirtual 229, 3) := by decide +kernel
theorem dX12_begin_19 : decode cX12_begin 19 = .ok (.return_, 1) := by decide +kernel
theorem dX12_isWord_0 : decode cX12_isWord 0 = .ok (.aload_n 0, 1) := by decide +kernel
theorem dX12_isWord_1 : decode cX12_isWord 1 = .ok (.getfield 245, 3) := by decide +kernel
theorem dX12_isWord_4 : decode cX12_isWord 4 = .ok (.iconst 1, 1) := by decide +kernel
theorem dX12_isWord_5 : decode cX12_isWord 5 = .ok (.if_icmp .ne 16, 3) := by decide +kernel
theorem dX12_isWord_8 : decode cX12_isWord 8 = .ok (.aload_n 0, 1) := by decide +kernel
theorem dX12_isWord_9 : decode cX12_isWord 9 = .ok (.getfield 235, 3) := by decide +kernel
theorem dX12_isWord_12 : decode cX12_isWord 12 = .ok (.lload_n 1, 1) := by decide +kernel
theorem dX12_isWord_13 : decode cX12_isWord 13 = .ok (.lcmp, 1) := by decide +kernel
theorem dX12_isWord_14 : decode cX12_isWord 14 = .ok (.ifCond .ne 7, 3) := by decide +kernel
theorem dX12_isWord_17 : decode cX12_isWord 17 = .ok (.iconst 1, 1) := by decide +kernel
theorem dX12_isWord_18 : decode cX12_isWord 18 = .ok (.goto 4, 3) := by decide +kernel
theorem dX12_isWord_21 : decode cX12_isWord 21 = .ok (.iconst 0, 1) := by decide +kernel
theorem dX12_isWord_22 : decode cX12_isWord 22 = .ok (.ireturn, 1) := by decide +kernel
theorem dX12_isSign_0 : decode cX12_isSign 0 = .ok (.aload_n 0, 1) := by decide +kernel
theorem dX12_isSign_1 : decode cX12_isSign 1 = .ok (.getfield 245, 3) := by decide +kernel
theorem dX12_isSign_4 : decode cX12_isSign 4 = .ok (.iconst 3, 1) := by decide +kernel
theorem dX12_isSign_5 : decode cX12_isSign 5 = .ok (.if_icmp .ne 17, 3) := by decide +kernel
theorem dX12_isSign_8 : decode cX12_isSign 8 = .ok (.aload_n 0, 1) := by decide +kernel
theorem dX12_isSign_9 : decode cX12_isSign 9 = .ok (.getfield 235, 3) := by decide +kernel
theorem dX12_isSign_12 : decode cX12_isSign 12 = .ok (.iload_n 1, 1) := by decide +kernel
theorem dX12_isSign_13 : decode cX12_isSign 13 = .ok (.i2l, 1) := by decide +kernel
theorem dX12_isSign_14 : decode cX12_isSign 14 = .ok (.lcmp, 1) := by decide +kernel
theorem dX12_isSign_15 : decode cX12_isSign 15 = .ok (.ifCond .ne 7, 3) := by decide +kernel
theorem dX12_isSign_18 : decode cX12_isSign 18 = .ok (.iconst 1, 1) := by decide +kernel
theorem dX12_isSign_19 : decode cX12_isSign 19 = .ok (.goto 4, 3) := by decide +kernel
theorem dX12_isSign_22 : decode cX12_isSign 22 = .ok (.iconst 0, 1) := by decide +kernel
theorem dX12_isSign_23 : decode cX12_isSign 23 = .ok (.ireturn, 1) := by decide +kernel
theorem dX12_must_0 : decode cX12_must 0 = .ok (.aload_n 0, 1) := by decide +kernel
theorem dX12_must_1 : decode cX12_must 1 = .ok (.getfield 225, 3) := by decide +kernel
theorem dX12_must_4 : decode cX12_must 4 = .ok (.ifCond .ne 20, 3) := by decide +kernel
theorem dX12_must_7 : decode cX12_must 7 = .ok (.iload_n 1, 1) := by decide +kernel
theorem dX12_must_8 : decode cX12_must 8 = .ok (.ifCond .ne 16, 3) := by decide +kernel
theorem dX12_must_11 : decode cX12_must 11 = .ok (.aload_n 0, 1) := by decide +kernel
theorem dX12_must_12 : decode cX12_must 12 = .ok (.iconst 1, 1) := by decide +kernel
theorem dX12_must_13 : decode cX12_must 13 = .ok (.putfield 225, 3) := by decide +kernel
theorem dX12_must_16 : decode cX12_must 16 = .ok (.aload_n 0, 1) := by decide +kernel
theorem dX12_must_17 : decode cX12_must 17 = .ok (.aload_n 0, 1) := by decide +kernel
theorem dX12_must_18 : decode cX12_must 18 = .ok (.getfield 232, 3) := by decide +kernel
theorem dX12_must_21 : decode cX12_must 21 = .ok (.putfield 38, 3) := by decide +kernel
theorem dX12_must_24 : decode cX12_must 24 = .ok (.aload_n 0, 1) := by decide +kernel
theorem dX12_must_25 : decode cX12_must 25 = .ok (.getfield 225, 3) := by decide +kernel
theorem dX12_must_28 : decode cX12_must 28 = .ok (.ifCond .ne 7, 3) := by decide +kernel
theorem dX12_must_31 : decode cX12_must 31 = .ok (.aload_n 0, 1) := by decide +kernel
theorem dX12_must_32 : decode cX12_must 32 = .ok (.invokevirtual 229, 3) := by decide +kernel
theorem dX12_must_35 : decode cX12_must 35 = .ok (.return_, 1) := by decide +kernel
theorem dX12_number_0 : decode cX12_number 0 = .ok (.aload_n 0, 1) := by decide +kernel
theorem dX12_number_1 : decode cX12_number 1 = .ok (.getfield 235, 3) := by decide +kernel
theorem dX12_number_4 : decode cX12_number 4 = .ok (.l2i, 1) := by decide +kernel
theorem dX12_number_5 : decode cX12_number 5 = .ok (.istore 5, 2) := by decide +kernel
theorem dX12_number_7 : decode cX12_number 7 = .ok (.aload_n 0, 1) := by decide +kernel
theorem dX12_number_8 : decode cX12_number 8 = .ok (.aload_n 0, 1) := by decide +kernel
theorem dX12_number_9 : decode cX12_number 9 = .ok (.getfield 245, 3) := by decide +kernel
theorem dX12_number_12 : decode cX12_number 12 = .ok (.iconst 2, 1) := by decide +kernel
theorem dX12_number_13 : decode cX12_number 13 = .ok (.if_icmp .ne 19, 3) := by decide +kernel
theorem dX12_number_16 : decode cX12_number 16 = .ok (.aload_n 0, 1) := by decide +kernel
theorem dX12_number_17 : decode cX12_number 17 = .ok (.getfield 235, 3) := by decide +kernel
theorem dX12_number_20 : decode cX12_number 20 = .ok (.lload_n 1, 1) := by decide +kernel
theorem dX12_number_21 : decode cX12_number 21 = .ok (.lload_n 3, 1) := by decide +kernel
theorem dX12_number_22 : decode cX12_number 22 = .ok (.invokestatic 162, 3) := by decide +kernel
theorem dX12_number_25 : decode cX12_number 25 = .ok (.ifCond .eq 7, 3) := by decide +kernel
theorem dX12_number_28 : decode cX12_number 28 = .ok (.iconst 1, 1) := by decide +kernel
theorem dX12_number_29 : decode cX12_number 29 = .ok (.goto 4, 3) := by decide +kernel
theorem dX12_number_32 : decode cX12_number 32 = .ok (.iconst 0, 1) := by decide +kernel
theorem dX12_number_33 : decode cX12_number 33 = .ok (.invokevirtual 256, 3) := by decide +kernel
theorem dX12_number_36 : decode cX12_number 36 = .ok (.iload 5, 2) := by decide +kernel
theorem dX12_number_38 : decode cX12_number 38 = .ok (.ireturn, 1) := by decide +kernel
theorem dX12_fault_0 : decode cX12_fault 0 = .ok (.aload_n 0, 1) := by decide +kernel
theorem dX12_fault_1 : decode cX12_fault 1 = .ok (.iconst 0, 1) := by decide +kernel
theorem dX12_fault_2 : decode cX12_fault 2 = .ok (.putfield 142, 3) := by decide +kernel
theorem dX12_fault_5 : decode cX12_fault 5 = .ok (.aload_n 0, 1) := by decide +kernel
theorem dX12_fault_6 : decode cX12_fault 6 = .ok (.getfield 38, 3) := by decide +kernel
theorem dX12_fault_9 : decode cX12_fault 9 = .ok (.ireturn, 1) := by decide +kernel
theorem dX12_emit_0 : decode cX12_emit 0 = .ok (.aload_n 0, 1) := by decide +kernel
theorem dX12_emit_1 : decode cX12_emit 1 = .ok (.getfield 45, 3) := by decide +kernel
theorem dX12_emit_4 : decode cX12_emit 4 = .ok (.aload_n 0, 1) := by decide +kernel
theorem dX12_emit_5 : decode cX12_emit 5 = .ok (.getfield 260, 3) := by decide +kernel
theorem dX12_emit_8 : decode cX12_emit 8 = .ok (.iload_n 1, 1) := by decide +kernel
theorem dX12_emit_9 : decode cX12_emit 9 = .ok (.iastore, 1) := by decide +kernel
theorem dX12_emit_10 : decode cX12_emit 10 = .ok (.aload_n 0, 1) := by decide +kernel
theorem dX12_emit_11 : decode cX12_emit 11 = .ok (.getfield 48, 3) := by decide +kernel
theorem dX12_emit_14 : decode cX12_emit 14 = .ok (.aload_n 0, 1) := by decide +kernel
theorem dX12_emit_15 : decode cX12_emit 15 = .ok (.getfield 260, 3) := by decide +kernel
theorem dX12_emit_18 : decode cX12_emit 18 = .ok (.iload_n 2, 1) := by decide +kernel
theorem dX12_emit_19 : decode cX12_emit 19 = .ok (.iastore, 1) := by decide +kernel
theorem dX12_emit_20 : decode cX12_emit 20 = .ok (.aload_n 0, 1) := by decide +kernel
theorem dX12_emit_21 : decode cX12_emit 21 = .ok (.dup, 1) := by decide +kernel
theorem dX12_emit_22 : decode cX12_emit 22 = .ok (.getfield 260, 3) := by decide +kernel
theorem dX12_emit_25 : decode cX12_emit 25 = .ok (.iconst 1, 1) := by decide +kernel
theorem dX12_emit_26 : decode cX12_emit 26 = .ok (.iadd, 1) := by decide +kernel
theorem dX12_emit_27 : decode cX12_emit 27 = .ok (.putfield 260, 3) := by decide +kernel
theorem dX12_emit_30 : decode cX12_emit 30 = .ok (.return_, 1) := by decide +kernel
theorem dX12_push_0 : decode cX12_push 0 = .ok (.aload_n 0, 1) := by decide +kernel
theorem dX12_push_1 : decode cX12_push 1 = .ok (.getfield 51, 3) := by decide +kernel
theorem dX12_push_4 : decode cX12_push 4 = .ok (.aload_n 0, 1) := by decide +kernel
theorem dX12_push_5 : decode cX12_push 5 = .ok (.getfield 263, 3) := by decide +kernel
theorem dX12_push_8 : decode cX12_push 8 = .ok (.iload_n 1, 1) := by decide +kernel
theorem dX12_push_9 : decode cX12_push 9 = .ok (.iastore, 1) := by decide +kernel
theorem dX12_push_10 : decode cX12_push 10 = .ok (.aload_n 0, 1) := by decide +kernel
theorem dX12_push_11 : decode cX12_push 11 = .ok (.getfield 54, 3) := by decide +kernel
theorem dX12_push_14 : decode cX12_push 14 = .ok (.aload_n 0, 1) := by decide +kernel
theorem dX12_push_15 : decode cX12_push 15 = .ok (.getfield 263, 3) := by decide +kernel
theorem dX12_push_18 : decode cX12_push 18 = .ok (.iload_n 2, 1) := by decide +kernel
theorem dX12_push_19 : decode cX12_push 19 = .ok (.iastore, 1) := by decide +kernel
theorem dX12_push_20 : decode cX12_push 20 = .ok (.aload_n 0, 1) := by decide +kernel
theorem dX12_push_21 : decode cX12_push 21 = .ok (.dup, 1) := by decide +kernel
theorem dX12_push_22 : decode cX12_push 22 = .ok (.getfield 263, 3) := by decide +kernel
theorem dX12_push_25 : decode cX12_push 25 = .ok (.iconst 1, 1) := by decide +kernel
theorem dX12_push_26 : decode cX12_push 26 = .ok (.iadd, 1) := by decide +kernel
theorem dX12_push_27 : decode cX12_push 27 = .ok (.putfield 263, 3) := by decide +kernel
theorem dX12_push_30 : decode cX12_push 30 = .ok (.return_, 1) := by decide +kernel
theorem dX12_binds_0 : decode cX12_binds 0 = .ok (.iload_n 0, 1) := by decide +kernel
theorem dX12_binds_1 : decode cX12_binds 1 = .ok (.bipush 31, 2) := by decide +kernel
theorem dX12_binds_3 : decode cX12_binds 3 = .ok (.if_icmp .lt 7, 3) := by decide +kernel
theorem dX12_binds_6 : decode cX12_binds 6 = .ok (.iconst 0, 1) := by decide +kernel
theorem dX12_binds_7 : decode cX12_binds 7 = .ok (.goto 55, 3) := by decide +kernel
theorem dX12_binds_10 : decode cX12_binds 10 = .ok (.iload_n 0, 1) := by decide +kernel
theorem dX12_binds_11 : decode cX12_binds 11 = .ok (.bipush 30, 2) := by decide +kernel
theorem dX12_binds_13 : decode cX12_binds 13 = .ok (.if_icmp .ne 7, 3) := by decide +kernel
theorem dX12_binds_16 : decode cX12_binds 16 = .ok (.iconst 1, 1) := by decide +kernel
theorem dX12_binds_17 : decode cX12_binds 17 = .ok (.goto 45, 3) := by decide +kernel
theorem dX12_binds_20 : decode cX12_binds 20 = .ok (.iload_n 0, 1) := by decide +kernel
theorem dX12_binds_21 : decode cX12_binds 21 = .ok (.bipush 29, 2) := by decide +kernel
theorem dX12_binds_23 : decode cX12_binds 23 = .ok (.if_icmp .ne 7, 3) := by decide +kernel
theorem dX12_binds_26 : decode cX12_binds 26 = .ok (.iconst 2, 1) := by decide +kernel
theorem dX12_binds_27 : decode cX12_binds 27 = .ok (.goto 35, 3) := by decide +kernel
theorem dX12_binds_30 : decode cX12_binds 30 = .ok (.iload_n 0, 1) := by decide +kernel
theorem dX12_binds_31 : decode cX12_binds 31 = .ok (.bipush 28, 2) := by decide +kernel
theorem dX12_binds_33 : decode cX12_binds 33 = .ok (.if_icmp .ne 7, 3) := by decide +kernel
theorem dX12_binds_36 : decode cX12_binds 36 = .ok (.iconst 3, 1) := by decide +kernel
theorem dX12_binds_37 : decode cX12_binds 37 = .ok (.goto 25, 3) := by decide +kernel
theorem dX12_binds_40 : decode cX12_binds 40 = .ok (.iload_n 0, 1) := by decide +kernel
theorem dX12_binds_41 : decode cX12_binds 41 = .ok (.bipush 25, 2) := by decide +kernel
theorem dX12_binds_43 : decode cX12_binds 43 = .ok (.if_icmp .lt 7, 3) := by decide +kernel
theorem dX12_binds_46 : decode cX12_binds 46 = .ok (.iconst 4, 1) := by decide +kernel
theorem dX12_binds_47 : decode cX12_binds 47 = .ok (.goto 15, 3) := by decide +kernel
theorem dX12_binds_50 : decode cX12_binds 50 = .ok (.iload_n 0, 1) := by decide +kernel
theorem dX12_binds_51 : decode cX12_binds 51 = .ok (.bipush 22, 2) := by decide +kernel
theorem dX12_binds_53 : decode cX12_binds 53 = .ok (.if_icmp .lt 8, 3) := by decide +kernel
theorem dX12_binds_56 : decode cX12_binds 56 = .ok (.bipush 6, 2) := by decide +kernel
theorem dX12_binds_58 : decode cX12_binds 58 = .ok (.goto 4, 3) := by decide +kernel
theorem dX12_binds_61 : decode cX12_binds 61 = .ok (.iconst 5, 1) := by decide +kernel
theorem dX12_binds_62 : decode cX12_binds 62 = .ok (.ireturn, 1) := by decide +kernel
theorem dX12_settle_0 : decode cX12_settle 0 = .ok (.aload_n 0, 1) := by decide +kernel
theorem dX12_settle_1 : decode cX12_settle 1 = .ok (.getfield 263, 3) := by decide +kernel
theorem dX12_settle_4 : decode cX12_settle 4 = .ok (.ifCond .le 97, 3) := by decide +kernel
theorem dX12_settle_7 : decode cX12_settle 7 = .ok (.aload_n 0, 1) := by decide +kernel
theorem dX12_settle_8 : decode cX12_settle 8 = .ok (.getfield 51, 3) := by decide +kernel
theorem dX12_settle_11 : decode cX12_settle 11 = .ok (.aload_n 0, 1) := by decide +kernel
theorem dX12_settle_12 : decode cX12_settle 12 = .ok (.getfield 263, 3) := by decide +kernel
theorem dX12_settle_15 : decode cX12_settle 15 = .ok (.iconst 1, 1) := by decide +kernel
theorem dX12_settle_16 : decode cX12_settle 16 = .ok (.isub, 1) := by decide +kernel
theorem dX12_settle_17 : decode cX12_settle 17 = .ok (.iaload, 1) := by decide +kernel
theorem dX12_settle_18 : decode cX12_settle 18 = .ok (.invokestatic 266, 3) := by decide +kernel
theorem dX12_settle_21 : decode cX12_settle 21 = .ok (.iload_n 1, 1) := by decide +kernel
theorem dX12_settle_22 : decode cX12_settle 22 = .ok (.if_icmp .lt 79, 3) := by decide +kernel
theorem dX12_settle_25 : decode cX12_settle 25 = .ok (.aload_n 0, 1) := by decide +kernel
theorem dX12_settle_26 : decode cX12_settle 26 = .ok (.dup, 1) := by decide +kernel
theorem dX12_settle_27 : decode cX12_settle 27 = .ok (.getfield 263, 3) := by decide +kernel
theorem dX12_settle_30 : decode cX12_settle 30 = .ok (.iconst 1, 1) := by decide +kernel
theorem dX12_settle_31 : decode cX12_settle 31 = .ok (.isub, 1) := by decide +kernel
theorem dX12_settle_32 : decode cX12_settle 32 = .ok (.putfield 263, 3) := by decide +kernel
theorem dX12_settle_35 : decode cX12_settle 35 = .ok (.aload_n 0, 1) := by decide +kernel
theorem dX12_settle_36 : decode cX12_settle 36 = .ok (.getfield 51, 3) := by decide +kernel
theorem dX12_settle_39 : decode cX12_settle 39 = .ok (.aload_n 0, 1) := by decide +kernel
theorem dX12_settle_40 : decode cX12_settle 40 = .ok (.getfield 263, 3) := by decide +kernel
theorem dX12_settle_43 : decode cX12_settle 43 = .ok (.iaload, 1) := by decide +kernel
theorem dX12_settle_44 : decode cX12_settle 44 = .ok (.bipush 29, 2) := by decide +kernel
theorem dX12_settle_46 : decode cX12_settle 46 = .ok (.if_icmp .eq 17, 3) := by decide +kernel
theorem dX12_settle_49 : decode cX12_settle 49 = .ok (.aload_n 0, 1) := by decide +kernel
theorem dX12_settle_50 : decode cX12_settle 50 = .ok (.getfield 51, 3) := by decide +kernel
theorem dX12_settle_53 : decode cX12_settle 53 = .ok (.aload_n 0, 1) := by decide +kernel
theorem dX12_settle_54 : decode cX12_settle 54 = .ok (.getfield 263, 3) := by decide +kernel
theorem dX12_settle_57 : decode cX12_settle 57 = .ok (.iaload, 1) := by decide +kernel
theorem dX12_settle_58 : decode cX12_settle 58 = .ok (.bipush 30, 2) := by decide +kernel
theorem dX12_settle_60 : decode cX12_settle 60 = .ok (.if_icmp .ne 24, 3) := by decide +kernel
theorem dX12_settle_63 : decode cX12_settle 63 = .ok (.aload_n 0, 1) := by decide +kernel
theorem dX12_settle_64 : decode cX12_settle 64 = .ok (.getfield 48, 3) := by decide +kernel
theorem dX12_settle_67 : decode cX12_settle 67 = .ok (.aload_n 0, 1) := by decide +kernel
theorem dX12_settle_68 : decode cX12_settle 68 = .ok (.getfield 54, 3) := by decide +kernel
theorem dX12_settle_71 : decode cX12_settle 71 = .ok (.aload_n 0, 1) := by decide +kernel
theorem dX12_settle_72 : decode cX12_settle 72 = .ok (.getfield 263, 3) := by decide +kernel
theorem dX12_settle_75 : decode cX12_settle 75 = .ok (.iaload, 1) := by decide +kernel
theorem dX12_settle_76 : decode cX12_settle 76 = .ok (.aload_n 0, 1) := by decide +kernel
theorem dX12_settle_77 : decode cX12_settle 77 = .ok (.getfield 260, 3) := by decide +kernel
theorem dX12_settle_80 : decode cX12_settle 80 = .ok (.iastore, 1) := by decide +kernel
theorem dX12_settle_81 : decode cX12_settle 81 = .ok (.goto (-81), 3) := by decide +kernel
theorem dX12_settle_84 : decode cX12_settle 84 = .ok (.aload_n 0, 1) := by decide +kernel
theorem dX12_settle_85 : decode cX12_settle 85 = .ok (.aload_n 0, 1) := by decide +kernel
theorem dX12_settle_86 : decode cX12_settle 86 = .ok (.getfield 51, 3) := by decide +kernel
theorem dX12_settle_89 : decode cX12_settle 89 = .ok (.aload_n 0, 1) := by decide +kernel
theorem dX12_settle_90 : decode cX12_settle 90 = .ok (.getfield 263, 3) := by decide +kernel
theorem dX12_settle_93 : decode cX12_settle 93 = .ok (.iaload, 1) := by decide +kernel
theorem dX12_settle_94 : decode cX12_settle 94 = .ok (.iconst 0, 1) := by decide +kernel
theorem dX12_settle_95 : decode cX12_settle 95 = .ok (.invokevirtual 269, 3) := by decide +kernel
theorem dX12_settle_98 : decode cX12_settle 98 = .ok (.goto (-98), 3) := by decide +kernel
theorem dX12_settle_101 : decode cX12_settle 101 = .ok (.return_, 1) := by decide +kernel
theorem dX12_inner_0 : decode cX12_inner 0 = .ok (.iconst (-1), 1) := by decide +kernel
theorem dX12_inner_1 : decode cX12_inner 1 = .ok (.istore_n 1, 1) := by decide +kernel
theorem dX12_inner_2 : decode cX12_inner 2 = .ok (.iconst 0, 1) := by decide +kernel
theorem dX12_inner_3 : decode cX12_inner 3 = .ok (.istore_n 2, 1) := by decide +kernel
theorem dX12_inner_4 : decode cX12_inner 4 = .ok (.iload_n 2, 1) := by decide +kernel
theorem dX12_inner_5 : decode cX12_inner 5 = .ok (.aload_n 0, 1) := by decide +kernel
theorem dX12_inner_6 : decode cX12_inner 6 = .ok (.getfield 263, 3) := by decide +kernel
theorem dX12_inner_9 : decode cX12_inner 9 = .ok (.if_icmp .ge 31, 3) := by decide +kernel
theorem dX12_inner_12 : decode cX12_inner 12 = .ok (.aload_n 0, 1) := by decide +kernel
theorem dX12_inner_13 : decode cX12_inner 13 = .ok (.getfield 51, 3) := by decide +kernel
theorem dX12_inner_16 : decode cX12_inner 16 = .ok (.iload_n 2, 1) := by decide +kernel
theorem dX12_inner_17 : decode cX12_inner 17 = .ok (.iaload, 1) := by decide +kernel
theorem dX12_inner_18 : decode cX12_inner 18 = .ok (.bipush 31, 2) := by decide +kernel
theorem dX12_inner_20 : decode cX12_inner 20 = .ok (.if_icmp .lt 12, 3) := by decide +kernel
theorem dX12_inner_23 : decode cX12_inner 23 = .ok (.aload_n 0, 1) := by decide +kernel
theorem dX12_inner_24 : decode cX12_inner 24 = .ok (.getfield 51, 3) := by decide +kernel
theorem dX12_inner_27 : decode cX12_inner 27 = .ok (.iload_n 2, 1) := by decide +kernel
theorem dX12_inner_28 : decode cX12_inner 28 = .ok (.iaload, 1) := by decide +kernel
theorem dX12_inner_29 : decode cX12_inner 29 = .ok (.goto 4, 3) := by decide +kernel
theorem dX12_inner_32 : decode cX12_inner 32 = .ok (.iload_n 1, 1) := by decide +kernel
theorem dX12_inner_33 : decode cX12_inner 33 = .ok (.istore_n 1, 1) := by decide +kernel
theorem dX12_inner_34 : decode cX12_inner 34 = .ok (.iinc 2 1, 3) := by decide +kernel
theorem dX12_inner_37 : decode cX12_inner 37 = .ok (.goto (-33), 3) := by decide +kernel
theorem dX12_inner_40 : decode cX12_inner 40 = .ok (.iload_n 1, 1) := by decide +kernel
theorem dX12_inner_41 : decode cX12_inner 41 = .ok (.ireturn, 1) := by decide +kernel
theorem dX12_isCompared_0 : decode cX12_isCompared 0 = .ok (.aload_n 0, 1) := by decide +kernel
theorem dX12_isCompared_1 : decode cX12_isCompared 1 = .ok (.getfield 263, 3) := by decide +kernel
theorem dX12_isCompared_4 : decode cX12_isCompared 4 = .ok (.iconst 1, 1) := by decide +kernel
theorem dX12_isCompared_5 : decode cX12_isCompared 5 = .ok (.isub, 1) := by decide +kernel
theorem dX12_isCompared_6 : decode cX12_isCompared 6 = .ok (.istore_n 1, 1) := by decide +kernel
theorem dX12_isCompared_7 : decode cX12_isCompared 7 = .ok (.iload_n 1, 1) := by decide +kernel
theorem dX12_isCompared_8 : decode cX12_isCompared 8 = .ok (.ifCond .lt 28, 3) := by decide +kernel
theorem dX12_isCompared_11 : decode cX12_isCompared 11 = .ok (.aload_n 0, 1) := by decide +kernel
theorem dX12_isCompared_12 : decode cX12_isCompared 12 = .ok (.getfield 51, 3) := by decide +kernel
theorem dX12_isCompared_15 : decode cX12_isCompared 15 = .ok (.iload_n 1, 1) := by decide +kernel
theorem dX12_isCompared_16 : decode cX12_isCompared 16 = .ok (.iaload, 1) := by decide +kernel
theorem dX12_isCompared_17 : decode cX12_isCompared 17 = .ok (.i2l, 1) := by decide +kernel
theorem dX12_isCompared_18 : decode cX12_isCompared 18 = .ok (.ldc2_w 273, 3) := by decide +kernel
theorem dX12_isCompared_21 : decode cX12_isCompared 21 = .ok (.ldc2_w 275, 3) := by decide +kernel
theorem dX12_isCompared_24 : decode cX12_isCompared 24 = .ok (.invokestatic 162, 3) := by decide +kernel
theorem dX12_isCompared_27 : decode cX12_isCompared 27 = .ok (.ifCond .eq 9, 3) := by decide +kernel
theorem dX12_isCompared_30 : decode cX12_isCompared 30 = .ok (.iinc 1 (-1), 3) := by decide +kernel
theorem dX12_isCompared_33 : decode cX12_isCompared 33 = .ok (.goto (-26), 3) := by decide +kernel
theorem dX12_isCompared_36 : decode cX12_isCompared 36 = .ok (.iload_n 1, 1) := by decide +kernel
theorem dX12_isCompared_37 : decode cX12_isCompared 37 = .ok (.ifCond .lt 26, 3) := by decide +kernel
theorem dX12_isCompared_40 : decode cX12_isCompared 40 = .ok (.aload_n 0, 1) := by decide +kernel
theorem dX12_isCompared_41 : decode cX12_isCompared 41 = .ok (.getfield 51, 3) := by decide +kernel
theorem dX12_isCompared_44 : decode cX12_isCompared 44 = .ok (.iload_n 1, 1) := by decide +kernel
theorem dX12_isCompared_45 : decode cX12_isCompared 45 = .ok (.iaload, 1) := by decide +kernel
theorem dX12_isCompared_46 : decode cX12_isCompared 46 = .ok (.i2l, 1) := by decide +kernel
theorem dX12_isCompared_47 : decode cX12_isCompared 47 = .ok (.ldc2_w 277, 3) := by decide +kernel
theorem dX12_isCompared_50 : decode cX12_isCompared 50 = .ok (.ldc2_w 279, 3) := by decide +kernel
theorem dX12_isCompared_53 : decode cX12_isCompared 53 = .ok (.invokestatic 162, 3) := by decide +kernel
theorem dX12_isCompared_56 : decode cX12_isCompared 56 = .ok (.ifCond .eq 7, 3) := by decide +kernel
theorem dX12_isCompared_59 : decode cX12_isCompared 59 = .ok (.iconst 1, 1) := by decide +kernel
theorem dX12_isCompared_60 : decode cX12_isCompared 60 = .ok (.goto 4, 3) := by decide +kernel
theorem dX12_isCompared_63 : decode cX12_isCompared 63 = .ok (.iconst 0, 1) := by decide +kernel
theorem dX12_isCompared_64 : decode cX12_isCompared 64 = .ok (.ireturn, 1) := by decide +kernel
theorem dX12_partAt_0 : decode cX12_partAt 0 = .ok (.iconst (-1), 1) := by decide +kernel
theorem dX12_partAt_1 : decode cX12_partAt 1 = .ok (.istore_n 1, 1) := by decide +kernel
theorem dX12_partAt_2 : decode cX12_partAt 2 = .ok (.iconst 0, 1) := by decide +kernel
theorem dX12_partAt_3 : decode cX12_partAt 3 = .ok (.istore_n 2, 1) := by decide +kernel
theorem dX12_partAt_4 : decode cX12_partAt 4 = .ok (.iload_n 2, 1) := by decide +kernel
theorem dX12_partAt_5 : decode cX12_partAt 5 = .ok (.bipush 10, 2) := by decide +kernel
theorem dX12_partAt_7 : decode cX12_partAt 7 = .ok (.if_icmp .ge 30, 3) := by decide +kernel
theorem dX12_partAt_10 : decode cX12_partAt 10 = .ok (.aload_n 0, 1) := by decide +kernel
theorem dX12_partAt_11 : decode cX12_partAt 11 = .ok (.aload_n 0, 1) := by decide +kernel
theorem dX12_partAt_12 : decode cX12_partAt 12 = .ok (.getfield 77, 3) := by decide +kernel
theorem dX12_partAt_15 : decode cX12_partAt 15 = .ok (.iload_n 2, 1) := by decide +kernel
theorem dX12_partAt_16 : decode cX12_partAt 16 = .ok (.laload, 1) := by decide +kernel
theorem dX12_partAt_17 : decode cX12_partAt 17 = .ok (.invokevirtual 281, 3) := by decide +kernel
theorem dX12_partAt_20 : decode cX12_partAt 20 = .ok (.ifCond .eq 9, 3) := by decide +kernel
theorem dX12_partAt_23 : decode cX12_partAt 23 = .ok (.iload_n 2, 1) := by decide +kernel
theorem dX12_partAt_24 : decode cX12_partAt 24 = .ok (.iconst 1, 1) := by decide +kernel
theorem dX12_partAt_25 : decode cX12_partAt 25 = .ok (.iadd, 1) := by decide +kernel
theorem dX12_partAt_26 : decode cX12_partAt 26 = .ok (.goto 4, 3) := by decide +kernel
theorem dX12_partAt_29 : decode cX12_partAt 29 = .ok (.iload_n 1, 1) := by decide +kernel
theorem dX12_partAt_30 : decode cX12_partAt 30 = .ok (.istore_n 1, 1) := by decide +kernel
theorem dX12_partAt_31 : decode cX12_partAt 31 = .ok (.iinc 2 1, 3) := by decide +kernel
theorem dX12_partAt_34 : decode cX12_partAt 34 = .ok (.goto (-30), 3) := by decide +kernel
theorem dX12_partAt_37 : decode cX12_partAt 37 = .ok (.iload_n 1, 1) := by decide +kernel
theorem dX12_partAt_38 : decode cX12_partAt 38 = .ok (.ireturn, 1) := by decide +kernel
theorem dX12_orderPartAt_0 : decode cX12_orderPartAt 0 = .ok (.iconst (-1), 1) := by decide +kernel
theorem dX12_orderPartAt_1 : decode cX12_orderPartAt 1 = .ok (.istore_n 1, 1) := by decide +kernel
theorem dX12_orderPartAt_2 : decode cX12_orderPartAt 2 = .ok (.iconst 0, 1) := by decide +kernel
theorem dX12_orderPartAt_3 : decode cX12_orderPartAt 3 = .ok (.istore_n 2, 1) := by decide +kernel
theorem dX12_orderPartAt_4 : decode cX12_orderPartAt 4 = .ok (.iload_n 2, 1) := by decide +kernel
theorem dX12_orderPartAt_5 : decode cX12_orderPartAt 5 = .ok (.bipush 6, 2) := by decide +kernel
theorem dX12_orderPartAt_7 : decode cX12_orderPartAt 7 = .ok (.if_icmp .ge 30, 3) := by decide +kernel
theorem dX12_orderPartAt_10 : decode cX12_orderPartAt 10 = .ok (.aload_n 0, 1) := by decide +kernel
theorem dX12_orderPartAt_11 : decode cX12_orderPartAt 11 = .ok (.aload_n 0, 1) := by decide +kernel
theorem dX12_orderPartAt_12 : decode cX12_orderPartAt 12 = .ok (.getfield 89, 3) := by decide +kernel
theorem dX12_orderPartAt_15 : decode cX12_orderPartAt 15 = .ok (.iload_n 2, 1) := by decide +kernel
theorem dX12_orderPartAt_16 : decode cX12_orderPartAt 16 = .ok (.laload, 1) := by decide +kernel
theorem dX12_orderPartAt_17 : decode cX12_orderPartAt 17 = .ok (.invokevirtual 281, 3) := by decide +kernel
theorem dX12_orderPartAt_20 : decode cX12_orderPartAt 20 = .ok (.ifCond .eq 9, 3) := by decide +kernel
theorem dX12_orderPartAt_23 : decode cX12_orderPartAt 23 = .ok (.iload_n 2, 1) := by decide +kernel
theorem dX12_orderPartAt_24 : decode cX12_orderPartAt 24 = .ok (.iconst 1, 1) := by decide +kernel
theorem dX12_orderPartAt_25 : decode cX12_orderPartAt 25 = .ok (.iadd, 1) := by decide +kernel
theorem dX12_orderPartAt_26 : decode cX12_orderPartAt 26 = .ok (.goto 4, 3) := by decide +kernel
theorem dX12_orderPartAt_29 : decode cX12_orderPartAt 29 = .ok (.iload_n 1, 1) := by decide +kernel
theorem dX12_orderPartAt_30 : decode cX12_orderPartAt 30 = .ok (.istore_n 1, 1) := by decide +kernel
theorem dX12_orderPartAt_31 : decode cX12_orderPartAt 31 = .ok (.iinc 2 1, 3) := by decide +kernel
theorem dX12_orderPartAt_34 : decode cX12_orderPartAt 34 = .ok (.goto (-30), 3) := by decide +kernel
theorem dX12_orderPartAt_37 : decode cX12_orderPartAt 37 = .ok (.iload_n 1, 1) := by decide +kernel
theorem dX12_orderPartAt_38 : decode cX12_orderPartAt 38 = .ok (.ireturn, 1) := by decide +kernel
theorem dX12_openBracket_0 : decode cX12_openBracket 0 = .ok (.aload_n 0, 1) := by decide +kernel
theorem dX12_openBracket_1 : decode cX12_openBracket 1 = .ok (.aload_n 0, 1) := by decide +kernel
theorem dX12_openBracket_2 : decode cX12_openBracket 2 = .ok (.getfield 285, 3) := by decide +kernel
theorem dX12_openBracket_5 : decode cX12_openBracket 5 = .ok (.bipush 8, 2) := by decide +kernel
theorem dX12_openBracket_7 : decode cX12_openBracket 7 = .ok (.if_icmp .ge 7, 3) := by decide +kernel
theorem dX12_openBracket_10 : decode cX12_openBracket 10 = .ok (.iconst 1, 1) := by decide +kernel
theorem dX12_openBracket_11 : decode cX12_openBracket 11 = .ok (.goto 4, 3) := by decide +kernel
theorem dX12_openBracket_14 : decode cX12_openBracket 14 = .ok (.iconst 0, 1) := by decide +kernel
theorem dX12_openBracket_15 : decode cX12_openBracket 15 = .ok (.invokevirtual 256, 3) := by decide +kernel
theorem dX12_openBracket_18 : decode cX12_openBracket 18 = .ok (.aload_n 0, 1) := by decide +kernel
theorem dX12_openBracket_19 : decode cX12_openBracket 19 = .ok (.getfield 225, 3) := by decide +kernel
theorem dX12_openBracket_22 : decode cX12_openBracket 22 = .ok (.ifCond .ne 19, 3) := by decide +kernel
theorem dX12_openBracket_25 : decode cX12_openBracket 25 = .ok (.aload_n 0, 1) := by decide +kernel
theorem dX12_openBracket_26 : decode cX12_openBracket 26 = .ok (.dup, 1) := by decide +kernel
theorem dX12_openBracket_27 : decode cX12_openBracket 27 = .ok (.getfield 285, 3) := by decide +kernel
theorem dX12_openBracket_30 : decode cX12_openBracket 30 = .ok (.iconst 1, 1) := by decide +kernel
theorem dX12_openBracket_31 : decode cX12_openBracket 31 = .ok (.iadd, 1) := by decide +kernel
theorem dX12_openBracket_32 : decode cX12_openBracket 32 = .ok (.putfield 285, 3) := by decide +kernel
theorem dX12_openBracket_35 : decode cX12_openBracket 35 = .ok (.aload_n 0, 1) := by decide +kernel
theorem dX12_openBracket_36 : decode cX12_openBracket 36 = .ok (.iload_n 1, 1) := by decide +kernel
theorem dX12_openBracket_37 : decode cX12_openBracket 37 = .ok (.iconst 0, 1) := by decide +kernel
theorem dX12_openBracket_38 : decode cX12_openBracket 38 = .ok (.invokevirtual 288, 3) := by decide +kernel
theorem dX12_openBracket_41 : decode cX12_openBracket 41 = .ok (.return_, 1) := by decide +kernel
theorem dX12_leaf_0 : decode cX12_leaf 0 = .ok (.aload_n 0, 1) := by decide +kernel
theorem dX12_leaf_1 : decode cX12_leaf 1 = .ok (.iload_n 1, 1) := by decide +kernel
theorem dX12_leaf_2 : decode cX12_leaf 2 = .ok (.ifCond .eq 16, 3) := by decide +kernel
theorem dX12_leaf_5 : decode cX12_leaf 5 = .ok (.aload_n 0, 1) := by decide +kernel
theorem dX12_leaf_6 : decode cX12_leaf 6 = .ok (.getfield 291, 3) := by decide +kernel
theorem dX12_leaf_9 : decode cX12_leaf 9 = .ok (.bipush 50, 2) := by decide +kernel
theorem dX12_leaf_11 : decode cX12_leaf 11 = .ok (.if_icmp .ge 7, 3) := by decide +kernel
theorem dX12_leaf_14 : decode cX12_leaf 14 = .ok (.iconst 1, 1) := by decide +kernel
theorem dX12_leaf_15 : decode cX12_leaf 15 = .ok (.goto 4, 3) := by decide +kernel
theorem dX12_leaf_18 : decode cX12_leaf 18 = .ok (.iconst 0, 1) := by decide +kernel
theorem dX12_leaf_19 : decode cX12_leaf 19 = .ok (.invokevirtual 256, 3) := by decide +kernel
theorem dX12_leaf_22 : decode cX12_leaf 22 = .ok (.aload_n 0, 1) := by decide +kernel
theorem dX12_leaf_23 : decode cX12_leaf 23 = .ok (.getfield 225, 3) := by decide +kernel
theorem dX12_leaf_26 : decode cX12_leaf 26 = .ok (.ifCond .ne 19, 3) := by decide +kernel
theorem dX12_leaf_29 : decode cX12_leaf 29 = .ok (.aload_n 0, 1) := by decide +kernel
theorem dX12_leaf_30 : decode cX12_leaf 30 = .ok (.iload_n 2, 1) := by decide +kernel
theorem dX12_leaf_31 : decode cX12_leaf 31 = .ok (.iload_n 3, 1) := by decide +kernel
theorem dX12_leaf_32 : decode cX12_leaf 32 = .ok (.invokevirtual 269, 3) := by decide +kernel
theorem dX12_leaf_35 : decode cX12_leaf 35 = .ok (.aload_n 0, 1) := by decide +kernel
theorem dX12_leaf_36 : decode cX12_leaf 36 = .ok (.dup, 1) := by decide +kernel
theorem dX12_leaf_37 : decode cX12_leaf 37 = .ok (.getfield 291, 3) := by decide +kernel
theorem dX12_leaf_40 : decode cX12_leaf 40 = .ok (.iconst 1, 1) := by decide +kernel
theorem dX12_leaf_41 : decode cX12_leaf 41 = .ok (.iadd, 1) := by decide +kernel
theorem dX12_leaf_42 : decode cX12_leaf 42 = .ok (.putfield 291, 3) := by decide +kernel
theorem dX12_leaf_45 : decode cX12_leaf 45 = .ok (.return_, 1) := by decide +kernel
theorem dX12_readPart_0 : decode cX12_readPart 0 = .ok (.aload_n 0, 1) := by decide +kernel
theorem dX12_readPart_1 : decode cX12_readPart 1 = .ok (.bipush 91, 2) := by decide +kernel
theorem dX12_readPart_3 : decode cX12_readPart 3 = .ok (.invokevirtual 294, 3) := by decide +kernel
theorem dX12_readPart_6 : decode cX12_readPart 6 = .ok (.ifCond .eq 11, 3) := by decide +kernel
theorem dX12_readPart_9 : decode cX12_readPart 9 = .ok (.aload_n 0, 1) := by decide +kernel
theorem dX12_readPart_10 : decode cX12_readPart 10 = .ok (.bipush 32, 2) := by decide +kernel
theorem dX12_readPart_12 : decode cX12_readPart 12 = .ok (.invokevirtual 297, 3) := by decide +kernel
theorem dX12_readPart_15 : decode cX12_readPart 15 = .ok (.iconst 1, 1) := by decide +kernel
theorem dX12_readPart_16 : decode cX12_readPart 16 = .ok (.ireturn, 1) := by decide +kernel
theorem dX12_readPart_17 : decode cX12_readPart 17 = .ok (.aload_n 0, 1) := by decide +kernel
theorem dX12_readPart_18 : decode cX12_readPart 18 = .ok (.getfield 300, 3) := by decide +kernel
theorem dX12_readPart_21 : decode cX12_readPart 21 = .ok (.ifCond .eq 10, 3) := by decide +kernel
theorem dX12_readPart_24 : decode cX12_readPart 24 = .ok (.aload_n 0, 1) := by decide +kernel
theorem dX12_readPart_25 : decode cX12_readPart 25 = .ok (.invokevirtual 303, 3) := by decide +kernel
theorem dX12_readPart_28 : decode cX12_readPart 28 = .ok (.goto 7, 3) := by decide +kernel
theorem dX12_readPart_31 : decode cX12_readPart 31 = .ok (.aload_n 0, 1) := by decide +kernel
theorem dX12_readPart_32 : decode cX12_readPart 32 = .ok (.invokevirtual 307, 3) := by decide +kernel
theorem dX12_readPart_35 : decode cX12_readPart 35 = .ok (.istore_n 1, 1) := by decide +kernel
theorem dX12_readPart_36 : decode cX12_readPart 36 = .ok (.aload_n 0, 1) := by decide +kernel
theorem dX12_readPart_37 : decode cX12_readPart 37 = .ok (.getfield 245, 3) := by decide +kernel
theorem dX12_readPart_40 : decode cX12_readPart 40 = .ok (.iconst 2, 1) := by decide +kernel
theorem dX12_readPart_41 : decode cX12_readPart 41 = .ok (.if_icmp .ne 18, 3) := by decide +kernel
theorem dX12_readPart_44 : decode cX12_readPart 44 = .ok (.aload_n 0, 1) := by decide +kernel
theorem dX12_readPart_45 : decode cX12_readPart 45 = .ok (.getfield 235, 3) := by decide +kernel
theorem dX12_readPart_48 : decode cX12_readPart 48 = .ok (.ldc2_w 168, 3) := by decide +kernel
theorem dX12_readPart_51 : decode cX12_readPart 51 = .ok (.lcmp, 1) := by decide +kernel
theorem dX12_readPart_52 : decode cX12_readPart 52 = .ok (.ifCond .gt 7, 3) := by decide +kernel
theorem dX12_readPart_55 : decode cX12_readPart 55 = .ok (.iconst 1, 1) := by decide +kernel
theorem dX12_readPart_56 : decode cX12_readPart 56 = .ok (.goto 4, 3) := by decide +kernel
theorem dX12_readPart_59 : decode cX12_readPart 59 = .ok (.iconst 0, 1) := by decide +kernel
theorem dX12_readPart_60 : decode cX12_readPart 60 = .ok (.istore_n 2, 1) := by decide +kernel
theorem dX12_readPart_61 : decode cX12_readPart 61 = .ok (.aload_n 0, 1) := by decide +kernel
theorem dX12_readPart_62 : decode cX12_readPart 62 = .ok (.iload_n 1, 1) := by decide +kernel
theorem dX12_readPart_63 : decode cX12_readPart 63 = .ok (.iconst (-1), 1) := by decide +kernel
theorem dX12_readPart_64 : decode cX12_readPart 64 = .ok (.if_icmp .ne 7, 3) := by decide +kernel
theorem dX12_readPart_67 : decode cX12_readPart 67 = .ok (.iload_n 2, 1) := by decide +kernel
theorem dX12_readPart_68 : decode cX12_readPart 68 = .ok (.ifCond .eq 7, 3) := by decide +kernel
theorem dX12_readPart_71 : decode cX12_readPart 71 = .ok (.iconst 1, 1) := by decide +kernel
theorem dX12_readPart_72 : decode cX12_readPart 72 = .ok (.goto 4, 3) := by decide +kernel
theorem dX12_readPart_75 : decode cX12_readPart 75 = .ok (.iconst 0, 1) := by decide +kernel
theorem dX12_readPart_76 : decode cX12_readPart 76 = .ok (.iload_n 1, 1) := by decide +kernel
theorem dX12_readPart_77 : decode cX12_readPart 77 = .ok (.iconst (-1), 1) := by decide +kernel
theorem dX12_readPart_78 : decode cX12_readPart 78 = .ok (.if_icmp .ne 7, 3) := by decide +kernel
theorem dX12_readPart_81 : decode cX12_readPart 81 = .ok (.iconst 0, 1) := by decide +kernel
theorem dX12_readPart_82 : decode cX12_readPart 82 = .ok (.goto 4, 3) := by decide +kernel
theorem dX12_readPart_85 : decode cX12_readPart 85 = .ok (.iload_n 1, 1) := by decide +kernel
theorem dX12_readPart_86 : decode cX12_readPart 86 = .ok (.iload_n 2, 1) := by decide +kernel
theorem dX12_readPart_87 : decode cX12_readPart 87 = .ok (.ifCond .eq 11, 3) := by decide +kernel
theorem dX12_readPart_90 : decode cX12_readPart 90 = .ok (.aload_n 0, 1) := by decide +kernel
theorem dX12_readPart_91 : decode cX12_readPart 91 = .ok (.getfield 235, 3) := by decide +kernel
theorem dX12_readPart_94 : decode cX12_readPart 94 = .ok (.l2i, 1) := by decide +kernel
theorem dX12_readPart_95 : decode cX12_readPart 95 = .ok (.goto 4, 3) := by decide +kernel
theorem dX12_readPart_98 : decode cX12_readPart 98 = .ok (.iconst 0, 1) := by decide +kernel
theorem dX12_readPart_99 : decode cX12_readPart 99 = .ok (.invokevirtual 310, 3) := by decide +kernel
theorem dX12_readPart_102 : decode cX12_readPart 102 = .ok (.aload_n 0, 1) := by decide +kernel
theorem dX12_readPart_103 : decode cX12_readPart 103 = .ok (.getfield 300, 3) := by decide +kernel
theorem dX12_readPart_106 : decode cX12_readPart 106 = .ok (.ifCond .eq 48, 3) := by decide +kernel
theorem dX12_readPart_109 : decode cX12_readPart 109 = .ok (.iload_n 1, 1) := by decide +kernel
theorem dX12_readPart_110 : decode cX12_readPart 110 = .ok (.iconst 4, 1) := by decide +kernel
theorem dX12_readPart_111 : decode cX12_readPart 111 = .ok (.if_icmp .lt 43, 3) := by decide +kernel
theorem dX12_readPart_114 : decode cX12_readPart 114 = .ok (.aload_n 0, 1) := by decide +kernel
theorem dX12_readPart_115 : decode cX12_readPart 115 = .ok (.getfield 225, 3) := by decide +kernel
theorem dX12_readPart_118 : decode cX12_readPart 118 = .ok (.ifCond .ne 36, 3) := by decide +kernel
theorem dX12_readPart_121 : decode cX12_readPart 121 = .ok (.aload_n 0, 1) := by decide +kernel
theorem dX12_readPart_122 : decode cX12_readPart 122 = .ok (.getfield 260, 3) := by decide +kernel
theorem dX12_readPart_125 : decode cX12_readPart 125 = .ok (.iconst 1, 1) := by decide +kernel
theorem dX12_readPart_126 : decode cX12_readPart 126 = .ok (.isub, 1) := by decide +kernel
theorem dX12_readPart_127 : decode cX12_readPart 127 = .ok (.istore_n 3, 1) := by decide +kernel
theorem dX12_readPart_128 : decode cX12_readPart 128 = .ok (.aload_n 0, 1) := by decide +kernel
theorem dX12_readPart_129 : decode cX12_readPart 129 = .ok (.getfield 48, 3) := by decide +kernel
theorem dX12_readPart_132 : decode cX12_readPart 132 = .ok (.iload_n 3, 1) := by decide +kernel
theorem dX12_readPart_133 : decode cX12_readPart 133 = .ok (.aload_n 0, 1) := by decide +kernel
theorem dX12_readPart_134 : decode cX12_readPart 134 = .ok (.lconst 0, 1) := by decide +kernel
theorem dX12_readPart_135 : decode cX12_readPart 135 = .ok (.iload_n 1, 1) := by decide +kernel
theorem dX12_readPart_136 : decode cX12_readPart 136 = .ok (.bipush 6, 2) := by decide +kernel
theorem dX12_readPart_138 : decode cX12_readPart 138 = .ok (.if_icmp .ne 9, 3) := by decide +kernel
theorem dX12_readPart_141 : decode cX12_readPart 141 = .ok (.ldc2_w 189, 3) := by decide +kernel
theorem dX12_readPart_144 : decode cX12_readPart 144 = .ok (.goto 6, 3) := by decide +kernel
theorem dX12_readPart_147 : decode cX12_readPart 147 = .ok (.ldc2_w 166, 3) := by decide +kernel
theorem dX12_readPart_150 : decode cX12_readPart 150 = .ok (.invokevirtual 314, 3) := by decide +kernel
theorem dX12_readPart_153 : decode cX12_readPart 153 = .ok (.iastore, 1) := by decide +kernel
theorem dX12_readPart_154 : decode cX12_readPart 154 = .ok (.iconst 3, 1) := by decide +kernel
theorem dX12_readPart_155 : decode cX12_readPart 155 = .ok (.ireturn, 1) := by decide +kernel
theorem dX12_readPlain_0 : decode cX12_readPlain 0 = .ok (.aload_n 0, 1) := by decide +kernel
theorem dX12_readPlain_1 : decode cX12_readPlain 1 = .ok (.ldc2_w 318, 3) := by decide +kernel
theorem dX12_readPlain_4 : decode cX12_readPlain 4 = .ok (.invokevirtual 281, 3) := by decide +kernel
theorem dX12_readPlain_7 : decode cX12_readPlain 7 = .ok (.ifCond .eq 16, 3) := by decide +kernel
theorem dX12_readPlain_10 : decode cX12_readPlain 10 = .ok (.aload_n 0, 1) := by decide +kernel
theorem dX12_readPlain_11 : decode cX12_readPlain 11 = .ok (.bipush 28, 2) := by decide +kernel
theorem dX12_readPlain_13 : decode cX12_readPlain 13 = .ok (.iconst 0, 1) := by decide +kernel
theorem dX12_readPlain_14 : decode cX12_readPlain 14 = .ok (.invokevirtual 288, 3) := by decide +kernel
theorem dX12_readPlain_17 : decode cX12_readPlain 17 = .ok (.aload_n 0, 1) := by decide +kernel
theorem dX12_readPlain_18 : decode cX12_readPlain 18 = .ok (.invokevirtual 229, 3) := by decide +kernel
theorem dX12_readPlain_21 : decode cX12_readPlain 21 = .ok (.iconst 0, 1) := by decide +kernel
theorem dX12_readPlain_22 : decode cX12_readPlain 22 = .ok (.ireturn, 1) := by decide +kernel
theorem dX12_readPlain_23 : decode cX12_readPlain 23 = .ok (.aload_n 0, 1) := by decide +kernel
theorem dX12_readPlain_24 : decode cX12_readPlain 24 = .ok (.bipush 40, 2) := by decide +kernel
theorem dX12_readPlain_26 : decode cX12_readPlain 26 = .ok (.invokevirtual 294, 3) := by decide +kernel
theorem dX12_readPlain_29 : decode cX12_readPlain 29 = .ok (.ifCond .eq 11, 3) := by decide +kernel
theorem dX12_readPlain_32 : decode cX12_readPlain 32 = .ok (.aload_n 0, 1) := by decide +kernel
theorem dX12_readPlain_33 : decode cX12_readPlain 33 = .ok (.bipush 31, 2) := by decide +kernel
theorem dX12_readPlain_35 : decode cX12_readPlain 35 = .ok (.invokevirtual 297, 3) := by decide +kernel
theorem dX12_readPlain_38 : decode cX12_readPlain 38 = .ok (.iconst 0, 1) := by decide +kernel
theorem dX12_readPlain_39 : decode cX12_readPlain 39 = .ok (.ireturn, 1) := by decide +kernel
theorem dX12_readPlain_40 : decode cX12_readPlain 40 = .ok (.aload_n 0, 1) := by decide +kernel
theorem dX12_readPlain_41 : decode cX12_readPlain 41 = .ok (.invokevirtual 320, 3) := by decide +kernel
theorem dX12_readPlain_44 : decode cX12_readPlain 44 = .ok (.ireturn, 1) := by decide +kernel
theorem dX12_behindSum_0 : decode cX12_behindSum 0 = .ok (.aload_n 0, 1) := by decide +kernel
theorem dX12_behindSum_1 : decode cX12_behindSum 1 = .ok (.bipush 43, 2) := by decide +kernel
theorem dX12_behindSum_3 : decode cX12_behindSum 3 = .ok (.invokevirtual 294, 3) := by decide +kernel
theorem dX12_behindSum_6 : decode cX12_behindSum 6 = .ok (.ifCond .eq 8, 3) := by decide +kernel
theorem dX12_behindSum_9 : decode cX12_behindSum 9 = .ok (.bipush 20, 2) := by decide +kernel
theorem dX12_behindSum_11 : decode cX12_behindSum 11 = .ok (.goto 60, 3) := by decide +kernel
theorem dX12_behindSum_14 : decode cX12_behindSum 14 = .ok (.aload_n 0, 1) := by decide +kernel
theorem dX12_behindSum_15 : decode cX12_behindSum 15 = .ok (.bipush 45, 2) := by decide +kernel
theorem dX12_behindSum_17 : decode cX12_behindSum 17 = .ok (.invokevirtual 294, 3) := by decide +kernel
theorem dX12_behindSum_20 : decode cX12_behindSum 20 = .ok (.ifCond .eq 8, 3) := by decide +kernel
theorem dX12_behindSum_23 : decode cX12_behindSum 23 = .ok (.bipush 21, 2) := by decide +kernel
theorem dX12_behindSum_25 : decode cX12_behindSum 25 = .ok (.goto 46, 3) := by decide +kernel
theorem dX12_behindSum_28 : decode cX12_behindSum 28 = .ok (.aload_n 0, 1) := by decide +kernel
theorem dX12_behindSum_29 : decode cX12_behindSum 29 = .ok (.bipush 42, 2) := by decide +kernel
theorem dX12_behindSum_31 : decode cX12_behindSum 31 = .ok (.invokevirtual 294, 3) := by decide +kernel
theorem dX12_behindSum_34 : decode cX12_behindSum 34 = .ok (.ifCond .eq 8, 3) := by decide +kernel
theorem dX12_behindSum_37 : decode cX12_behindSum 37 = .ok (.bipush 22, 2) := by decide +kernel
theorem dX12_behindSum_39 : decode cX12_behindSum 39 = .ok (.goto 32, 3) := by decide +kernel
theorem dX12_behindSum_42 : decode cX12_behindSum 42 = .ok (.aload_n 0, 1) := by decide +kernel
theorem dX12_behindSum_43 : decode cX12_behindSum 43 = .ok (.bipush 47, 2) := by decide +kernel
theorem dX12_behindSum_45 : decode cX12_behindSum 45 = .ok (.invokevirtual 294, 3) := by decide +kernel
theorem dX12_behindSum_48 : decode cX12_behindSum 48 = .ok (.ifCond .eq 8, 3) := by decide +kernel
theorem dX12_behindSum_51 : decode cX12_behindSum 51 = .ok (.bipush 23, 2) := by decide +kernel
theorem dX12_behindSum_53 : decode cX12_behindSum 53 = .ok (.goto 18, 3) := by decide +kernel
theorem dX12_behindSum_56 : decode cX12_behindSum 56 = .ok (.aload_n 0, 1) := by decide +kernel
theorem dX12_behindSum_57 : decode cX12_behindSum 57 = .ok (.bipush 37, 2) := by decide +kernel
theorem dX12_behindSum_59 : decode cX12_behindSum 59 = .ok (.invokevirtual 294, 3) := by decide +kernel
theorem dX12_behindSum_62 : decode cX12_behindSum 62 = .ok (.ifCond .eq 8, 3) := by decide +kernel
theorem dX12_behindSum_65 : decode cX12_behindSum 65 = .ok (.bipush 24, 2) := by decide +kernel
theorem dX12_behindSum_67 : decode cX12_behindSum 67 = .ok (.goto 4, 3) := by decide +kernel
theorem dX12_behindSum_70 : decode cX12_behindSum 70 = .ok (.iconst (-1), 1) := by decide +kernel
theorem dX12_behindSum_71 : decode cX12_behindSum 71 = .ok (.istore_n 2, 1) := by decide +kernel
theorem dX12_behindSum_72 : decode cX12_behindSum 72 = .ok (.iload_n 2, 1) := by decide +kernel
theorem dX12_behindSum_73 : decode cX12_behindSum 73 = .ok (.iconst (-1), 1) := by decide +kernel
theorem dX12_behindSum_74 : decode cX12_behindSum 74 = .ok (.if_icmp .eq 23, 3) := by decide +kernel
theorem dX12_behindSum_77 : decode cX12_behindSum 77 = .ok (.aload_n 0, 1) := by decide +kernel
theorem dX12_behindSum_78 : decode cX12_behindSum 78 = .ok (.iload_n 2, 1) := by decide +kernel
theorem dX12_behindSum_79 : decode cX12_behindSum 79 = .ok (.invokestatic 266, 3) := by decide +kernel
theorem dX12_behindSum_82 : decode cX12_behindSum 82 = .ok (.invokevirtual 323, 3) := by decide +kernel
theorem dX12_behindSum_85 : decode cX12_behindSum 85 = .ok (.aload_n 0, 1) := by decide +kernel
theorem dX12_behindSum_86 : decode cX12_behindSum 86 = .ok (.iload_n 2, 1) := by decide +kernel
theorem dX12_behindSum_87 : decode cX12_behindSum 87 = .ok (.iconst 0, 1) := by decide +kernel
theorem dX12_behindSum_88 : decode cX12_behindSum 88 = .ok (.invokevirtual 288, 3) := by decide +kernel
theorem dX12_behindSum_91 : decode cX12_behindSum 91 = .ok (.aload_n 0, 1) := by decide +kernel
theorem dX12_behindSum_92 : decode cX12_behindSum 92 = .ok (.invokevirtual 229, 3) := by decide +kernel
theorem dX12_behindSum_95 : decode cX12_behindSum 95 = .ok (.iconst 1, 1) := by decide +kernel
theorem dX12_behindSum_96 : decode cX12_behindSum 96 = .ok (.ireturn, 1) := by decide +kernel
theorem dX12_behindSum_97 : decode cX12_behindSum 97 = .ok (.aload_n 0, 1) := by decide +kernel
theorem dX12_behindSum_98 : decode cX12_behindSum 98 = .ok (.invokevirtual 326, 3) := by decide +kernel
theorem dX12_behindSum_101 : decode cX12_behindSum 101 = .ok (.istore_n 3, 1) := by decide +kernel
theorem dX12_behindSum_102 : decode cX12_behindSum 102 = .ok (.iload_n 3, 1) := by decide +kernel
theorem dX12_behindSum_103 : decode cX12_behindSum 103 = .ok (.bipush 32, 2) := by decide +kernel
theorem dX12_behindSum_105 : decode cX12_behindSum 105 = .ok (.if_icmp .ne 47, 3) := by decide +kernel
theorem dX12_behindSum_108 : decode cX12_behindSum 108 = .ok (.aload_n 0, 1) := by decide +kernel
theorem dX12_behindSum_109 : decode cX12_behindSum 109 = .ok (.aload_n 0, 1) := by decide +kernel
theorem dX12_behindSum_110 : decode cX12_behindSum 110 = .ok (.bipush 93, 2) := by decide +kernel
theorem dX12_behindSum_112 : decode cX12_behindSum 112 = .ok (.invokevirtual 294, 3) := by decide +kernel
theorem dX12_behindSum_115 : decode cX12_behindSum 115 = .ok (.invokevirtual 256, 3) := by decide +kernel
theorem dX12_behindSum_118 : decode cX12_behindSum 118 = .ok (.aload_n 0, 1) := by decide +kernel
theorem dX12_behindSum_119 : decode cX12_behindSum 119 = .ok (.getfield 225, 3) := by decide +kernel
theorem dX12_behindSum_122 : decode cX12_behindSum 122 = .ok (.ifCond .ne 28, 3) := by decide +kernel
theorem dX12_behindSum_125 : decode cX12_behindSum 125 = .ok (.aload_n 0, 1) := by decide +kernel
theorem dX12_behindSum_126 : decode cX12_behindSum 126 = .ok (.iconst 5, 1) := by decide +kernel
theorem dX12_behindSum_127 : decode cX12_behindSum 127 = .ok (.invokevirtual 323, 3) := by decide +kernel
theorem dX12_behindSum_130 : decode cX12_behindSum 130 = .ok (.aload_n 0, 1) := by decide +kernel
theorem dX12_behindSum_131 : decode cX12_behindSum 131 = .ok (.dup, 1) := by decide +kernel
theorem dX12_behindSum_132 : decode cX12_behindSum 132 = .ok (.getfield 263, 3) := by decide +kernel
theorem dX12_behindSum_135 : decode cX12_behindSum 135 = .ok (.iconst 1, 1) := by decide +kernel
theorem dX12_behindSum_136 : decode cX12_behindSum 136 = .ok (.isub, 1) := by decide +kernel
theorem dX12_behindSum_137 : decode cX12_behindSum 137 = .ok (.putfield 263, 3) := by decide +kernel
theorem dX12_behindSum_140 : decode cX12_behindSum 140 = .ok (.aload_n 0, 1) := by decide +kernel
theorem dX12_behindSum_141 : decode cX12_behindSum 141 = .ok (.dup, 1) := by decide +kernel
theorem dX12_behindSum_142 : decode cX12_behindSum 142 = .ok (.getfield 285, 3) := by decide +kernel
theorem dX12_behindSum_145 : decode cX12_behindSum 145 = .ok (.iconst 1, 1) := by decide +kernel
theorem dX12_behindSum_146 : decode cX12_behindSum 146 = .ok (.isub, 1) := by decide +kernel
theorem dX12_behindSum_147 : decode cX12_behindSum 147 = .ok (.putfield 285, 3) := by decide +kernel
theorem dX12_behindSum_150 : decode cX12_behindSum 150 = .ok (.iconst 3, 1) := by decide +kernel
theorem dX12_behindSum_151 : decode cX12_behindSum 151 = .ok (.ireturn, 1) := by decide +kernel
theorem dX12_behindSum_152 : decode cX12_behindSum 152 = .ok (.iload_n 3, 1) := by decide +kernel
theorem dX12_behindSum_153 : decode cX12_behindSum 153 = .ok (.iconst (-1), 1) := by decide +kernel
theorem dX12_behindSum_154 : decode cX12_behindSum 154 = .ok (.if_icmp .ne 9, 3) := by decide +kernel
theorem dX12_behindSum_157 : decode cX12_behindSum 157 = .ok (.iload_n 1, 1) := by decide +kernel
theorem dX12_behindSum_158 : decode cX12_behindSum 158 = .ok (.ifCond .ne 5, 3) := by decide +kernel
theorem dX12_behindSum_161 : decode cX12_behindSum 161 = .ok (.iconst 4, 1) := by decide +kernel
theorem dX12_behindSum_162 : decode cX12_behindSum 162 = .ok (.ireturn, 1) := by decide +kernel
theorem dX12_behindSum_163 : decode cX12_behindSum 163 = .ok (.aload_n 0, 1) := by decide +kernel
theorem dX12_behindSum_164 : decode cX12_behindSum 164 = .ok (.invokevirtual 329, 3) := by decide +kernel
theorem dX12_behindSum_167 : decode cX12_behindSum 167 = .ok (.ifCond .eq 5, 3) := by decide +kernel
theorem dX12_behindSum_170 : decode cX12_behindSum 170 = .ok (.iconst 2, 1) := by decide +kernel
theorem dX12_behindSum_171 : decode cX12_behindSum 171 = .ok (.ireturn, 1) := by decide +kernel
theorem dX12_behindSum_172 : decode cX12_behindSum 172 = .ok (.aload_n 0, 1) := by decide +kernel
theorem dX12_behindSum_173 : decode cX12_behindSum 173 = .ok (.bipush 60, 2) := by decide +kernel
theorem dX12_behindSum_175 : decode cX12_behindSum 175 = .ok (.invokevirtual 294, 3) := by decide +kernel
theorem dX12_behindSum_178 : decode cX12_behindSum 178 = .ok (.ifCond .eq 8, 3) := by decide +kernel
theorem dX12_behindSum_181 : decode cX12_behindSum 181 = .ok (.bipush 25, 2) := by decide +kernel
theorem dX12_behindSum_183 : decode cX12_behindSum 183 = .ok (.goto 19, 3) := by decide +kernel
theorem dX12_behindSum_186 : decode cX12_behindSum 186 = .ok (.aload_n 0, 1) := by decide +kernel
theorem dX12_behindSum_187 : decode cX12_behindSum 187 = .ok (.bipush 62, 2) := by decide +kernel
theorem dX12_behindSum_189 : decode cX12_behindSum 189 = .ok (.invokevirtual 294, 3) := by decide +kernel
theorem dX12_behindSum_192 : decode cX12_behindSum 192 = .ok (.ifCond .eq 8, 3) := by decide +kernel
theorem dX12_behindSum_195 : decode cX12_behindSum 195 = .ok (.bipush 26, 2) := by decide +kernel
theorem dX12_behindSum_197 : decode cX12_behindSum 197 = .ok (.goto 5, 3) := by decide +kernel
theorem dX12_behindSum_200 : decode cX12_behindSum 200 = .ok (.bipush 27, 2) := by decide +kernel
theorem dX12_behindSum_202 : decode cX12_behindSum 202 = .ok (.istore_n 2, 1) := by decide +kernel
theorem dX12_behindSum_203 : decode cX12_behindSum 203 = .ok (.aload_n 0, 1) := by decide +kernel
theorem dX12_behindSum_204 : decode cX12_behindSum 204 = .ok (.iload_n 2, 1) := by decide +kernel
theorem dX12_behindSum_205 : decode cX12_behindSum 205 = .ok (.bipush 27, 2) := by decide +kernel
theorem dX12_behindSum_207 : decode cX12_behindSum 207 = .ok (.if_icmp .ne 12, 3) := by decide +kernel
theorem dX12_behindSum_210 : decode cX12_behindSum 210 = .ok (.aload_n 0, 1) := by decide +kernel
theorem dX12_behindSum_211 : decode cX12_behindSum 211 = .ok (.bipush 61, 2) := by decide +kernel
theorem dX12_behindSum_213 : decode cX12_behindSum 213 = .ok (.invokevirtual 294, 3) := by decide +kernel
theorem dX12_behindSum_216 : decode cX12_behindSum 216 = .ok (.ifCond .eq 7, 3) := by decide +kernel
theorem dX12_behindSum_219 : decode cX12_behindSum 219 = .ok (.iconst 1, 1) := by decide +kernel
theorem dX12_behindSum_220 : decode cX12_behindSum 220 = .ok (.goto 4, 3) := by decide +kernel
theorem dX12_behindSum_223 : decode cX12_behindSum 223 = .ok (.iconst 0, 1) := by decide +kernel
theorem dX12_behindSum_224 : decode cX12_behindSum 224 = .ok (.invokevirtual 256, 3) := by decide +kernel
theorem dX12_behindSum_227 : decode cX12_behindSum 227 = .ok (.aload_n 0, 1) := by decide +kernel
theorem dX12_behindSum_228 : decode cX12_behindSum 228 = .ok (.getfield 225, 3) := by decide +kernel
theorem dX12_behindSum_231 : decode cX12_behindSum 231 = .ok (.ifCond .ne 14, 3) := by decide +kernel
theorem dX12_behindSum_234 : decode cX12_behindSum 234 = .ok (.aload_n 0, 1) := by decide +kernel
theorem dX12_behindSum_235 : decode cX12_behindSum 235 = .ok (.iconst 5, 1) := by decide +kernel
theorem dX12_behindSum_236 : decode cX12_behindSum 236 = .ok (.invokevirtual 323, 3) := by decide +kernel
theorem dX12_behindSum_239 : decode cX12_behindSum 239 = .ok (.aload_n 0, 1) := by decide +kernel
theorem dX12_behindSum_240 : decode cX12_behindSum 240 = .ok (.iload_n 2, 1) := by decide +kernel
theorem dX12_behindSum_241 : decode cX12_behindSum 241 = .ok (.iconst 0, 1) := by decide +kernel
theorem dX12_behindSum_242 : decode cX12_behindSum 242 = .ok (.invokevirtual 288, 3) := by decide +kernel
theorem dX12_behindSum_245 : decode cX12_behindSum 245 = .ok (.iconst 1, 1) := by decide +kernel
theorem dX12_behindSum_246 : decode cX12_behindSum 246 = .ok (.ireturn, 1) := by decide +kernel
theorem dX12_behindTest_0 : decode cX12_behindTest 0 = .ok (.aload_n 0, 1) := by decide +kernel
theorem dX12_behindTest_1 : decode cX12_behindTest 1 = .ok (.ldc2_w 333, 3) := by decide +kernel
theorem dX12_behindTest_4 : decode cX12_behindTest 4 = .ok (.invokevirtual 281, 3) := by decide +kernel
theorem dX12_behindTest_7 : decode cX12_behindTest 7 = .ok (.istore_n 1, 1) := by decide +kernel
theorem dX12_behindTest_8 : decode cX12_behindTest 8 = .ok (.iload_n 1, 1) := by decide +kernel
theorem dX12_behindTest_9 : decode cX12_behindTest 9 = .ok (.ifCond .ne 13, 3) := by decide +kernel
theorem dX12_behindTest_12 : decode cX12_behindTest 12 = .ok (.aload_n 0, 1) := by decide +kernel
theorem dX12_behindTest_13 : decode cX12_behindTest 13 = .ok (.ldc2_w 335, 3) := by decide +kernel
theorem dX12_behindTest_16 : decode cX12_behindTest 16 = .ok (.invokevirtual 281, 3) := by decide +kernel
theorem dX12_behindTest_19 : decode cX12_behindTest 19 = .ok (.ifCond .eq 57, 3) := by decide +kernel
theorem dX12_behindTest_22 : decode cX12_behindTest 22 = .ok (.aload_n 0, 1) := by decide +kernel
theorem dX12_behindTest_23 : decode cX12_behindTest 23 = .ok (.iload_n 1, 1) := by decide +kernel
theorem dX12_behindTest_24 : decode cX12_behindTest 24 = .ok (.ifCond .eq 7, 3) := by decide +kernel
theorem dX12_behindTest_27 : decode cX12_behindTest 27 = .ok (.iconst 2, 1) := by decide +kernel
theorem dX12_behindTest_28 : decode cX12_behindTest 28 = .ok (.goto 4, 3) := by decide +kernel
theorem dX12_behindTest_31 : decode cX12_behindTest 31 = .ok (.iconst 1, 1) := by decide +kernel
theorem dX12_behindTest_32 : decode cX12_behindTest 32 = .ok (.invokevirtual 323, 3) := by decide +kernel
theorem dX12_behindTest_35 : decode cX12_behindTest 35 = .ok (.aload_n 0, 1) := by decide +kernel
theorem dX12_behindTest_36 : decode cX12_behindTest 36 = .ok (.iload_n 1, 1) := by decide +kernel
theorem dX12_behindTest_37 : decode cX12_behindTest 37 = .ok (.ifCond .eq 8, 3) := by decide +kernel
theorem dX12_behindTest_40 : decode cX12_behindTest 40 = .ok (.bipush 29, 2) := by decide +kernel
theorem dX12_behindTest_42 : decode cX12_behindTest 42 = .ok (.goto 5, 3) := by decide +kernel
theorem dX12_behindTest_45 : decode cX12_behindTest 45 = .ok (.bipush 30, 2) := by decide +kernel
theorem dX12_behindTest_47 : decode cX12_behindTest 47 = .ok (.aload_n 0, 1) := by decide +kernel
theorem dX12_behindTest_48 : decode cX12_behindTest 48 = .ok (.getfield 260, 3) := by decide +kernel
theorem dX12_behindTest_51 : decode cX12_behindTest 51 = .ok (.invokevirtual 288, 3) := by decide +kernel
theorem dX12_behindTest_54 : decode cX12_behindTest 54 = .ok (.aload_n 0, 1) := by decide +kernel
theorem dX12_behindTest_55 : decode cX12_behindTest 55 = .ok (.iload_n 1, 1) := by decide +kernel
theorem dX12_behindTest_56 : decode cX12_behindTest 56 = .ok (.ifCond .eq 8, 3) := by decide +kernel
theorem dX12_behindTest_59 : decode cX12_behindTest 59 = .ok (.bipush 29, 2) := by decide +kernel
theorem dX12_behindTest_61 : decode cX12_behindTest 61 = .ok (.goto 5, 3) := by decide +kernel
theorem dX12_behindTest_64 : decode cX12_behindTest 64 = .ok (.bipush 30, 2) := by decide +kernel
theorem dX12_behindTest_66 : decode cX12_behindTest 66 = .ok (.iconst 0, 1) := by decide +kernel
theorem dX12_behindTest_67 : decode cX12_behindTest 67 = .ok (.invokevirtual 269, 3) := by decide +kernel
theorem dX12_behindTest_70 : decode cX12_behindTest 70 = .ok (.aload_n 0, 1) := by decide +kernel
theorem dX12_behindTest_71 : decode cX12_behindTest 71 = .ok (.invokevirtual 229, 3) := by decide +kernel
theorem dX12_behindTest_74 : decode cX12_behindTest 74 = .ok (.iconst 0, 1) := by decide +kernel
theorem dX12_behindTest_75 : decode cX12_behindTest 75 = .ok (.ireturn, 1) := by decide +kernel
theorem dX12_behindTest_76 : decode cX12_behindTest 76 = .ok (.aload_n 0, 1) := by decide +kernel
theorem dX12_behindTest_77 : decode cX12_behindTest 77 = .ok (.invokevirtual 326, 3) := by decide +kernel
theorem dX12_behindTest_80 : decode cX12_behindTest 80 = .ok (.iconst (-1), 1) := by decide +kernel
theorem dX12_behindTest_81 : decode cX12_behindTest 81 = .ok (.if_icmp .ne 5, 3) := by decide +kernel
theorem dX12_behindTest_84 : decode cX12_behindTest 84 = .ok (.iconst 4, 1) := by decide +kernel
theorem dX12_behindTest_85 : decode cX12_behindTest 85 = .ok (.ireturn, 1) := by decide +kernel
theorem dX12_behindTest_86 : decode cX12_behindTest 86 = .ok (.aload_n 0, 1) := by decide +kernel
theorem dX12_behindTest_87 : decode cX12_behindTest 87 = .ok (.aload_n 0, 1) := by decide +kernel
theorem dX12_behindTest_88 : decode cX12_behindTest 88 = .ok (.bipush 41, 2) := by decide +kernel
theorem dX12_behindTest_90 : decode cX12_behindTest 90 = .ok (.invokevirtual 294, 3) := by decide +kernel
theorem dX12_behindTest_93 : decode cX12_behindTest 93 = .ok (.invokevirtual 256, 3) := by decide +kernel
theorem dX12_behindTest_96 : decode cX12_behindTest 96 = .ok (.aload_n 0, 1) := by decide +kernel
theorem dX12_behindTest_97 : decode cX12_behindTest 97 = .ok (.getfield 225, 3) := by decide +kernel
theorem dX12_behindTest_100 : decode cX12_behindTest 100 = .ok (.ifCond .ne 28, 3) := by decide +kernel
theorem dX12_behindTest_103 : decode cX12_behindTest 103 = .ok (.aload_n 0, 1) := by decide +kernel
theorem dX12_behindTest_104 : decode cX12_behindTest 104 = .ok (.iconst 1, 1) := by decide +kernel
theorem dX12_behindTest_105 : decode cX12_behindTest 105 = .ok (.invokevirtual 323, 3) := by decide +kernel
theorem dX12_behindTest_108 : decode cX12_behindTest 108 = .ok (.aload_n 0, 1) := by decide +kernel
theorem dX12_behindTest_109 : decode cX12_behindTest 109 = .ok (.dup, 1) := by decide +kernel
theorem dX12_behindTest_110 : decode cX12_behindTest 110 = .ok (.getfield 263, 3) := by decide +kernel
theorem dX12_behindTest_113 : decode cX12_behindTest 113 = .ok (.iconst 1, 1) := by decide +kernel
theorem dX12_behindTest_114 : decode cX12_behindTest 114 = .ok (.isub, 1) := by decide +kernel
theorem dX12_behindTest_115 : decode cX12_behindTest 115 = .ok (.putfield 263, 3) := by decide +kernel
theorem dX12_behindTest_118 : decode cX12_behindTest 118 = .ok (.aload_n 0, 1) := by decide +kernel
theorem dX12_behindTest_119 : decode cX12_behindTest 119 = .ok (.dup, 1) := by decide +kernel
theorem dX12_behindTest_120 : decode cX12_behindTest 120 = .ok (.getfield 285, 3) := by decide +kernel
theorem dX12_behindTest_123 : decode cX12_behindTest 123 = .ok (.iconst 1, 1) := by decide +kernel
theorem dX12_behindTest_124 : decode cX12_behindTest 124 = .ok (.isub, 1) := by decide +kernel
theorem dX12_behindTest_125 : decode cX12_behindTest 125 = .ok (.putfield 285, 3) := by decide +kernel
theorem dX12_behindTest_128 : decode cX12_behindTest 128 = .ok (.iconst 2, 1) := by decide +kernel
theorem dX12_behindTest_129 : decode cX12_behindTest 129 = .ok (.ireturn, 1) := by decide +kernel
theorem dX12_readExpression_0 : decode cX12_readExpression 0 = .ok (.aload_n 0, 1) := by decide +kernel
theorem dX12_readExpression_1 : decode cX12_readExpression 1 = .ok (.iconst 0, 1) := by decide +kernel
theorem dX12_readExpression_2 : decode cX12_readExpression 2 = .ok (.putfield 263, 3) := by decide +kernel
theorem dX12_readExpression_5 : decode cX12_readExpression 5 = .ok (.aload_n 0, 1) := by decide +kernel
theorem dX12_readExpression_6 : decode cX12_readExpression 6 = .ok (.iconst 0, 1) := by decide +kernel
theorem dX12_readExpression_7 : decode cX12_readExpression 7 = .ok (.putfield 285, 3) := by decide +kernel
theorem dX12_readExpression_10 : decode cX12_readExpression 10 = .ok (.iload_n 1, 1) := by decide +kernel
theorem dX12_readExpression_11 : decode cX12_readExpression 11 = .ok (.ifCond .eq 7, 3) := by decide +kernel
theorem dX12_readExpression_14 : decode cX12_readExpression 14 = .ok (.iconst 0, 1) := by decide +kernel
theorem dX12_readExpression_15 : decode cX12_readExpression 15 = .ok (.goto 4, 3) := by decide +kernel
theorem dX12_readExpression_18 : decode cX12_readExpression 18 = .ok (.iconst 1, 1) := by decide +kernel
theorem dX12_readExpression_19 : decode cX12_readExpression 19 = .ok (.istore_n 2, 1) := by decide +kernel
theorem dX12_readExpression_20 : decode cX12_readExpression 20 = .ok (.aload_n 0, 1) := by decide +kernel
theorem dX12_readExpression_21 : decode cX12_readExpression 21 = .ok (.getfield 225, 3) := by decide +kernel
theorem dX12_readExpression_24 : decode cX12_readExpression 24 = .ok (.ifCond .ne 52, 3) := by decide +kernel
theorem dX12_readExpression_27 : decode cX12_readExpression 27 = .ok (.iload_n 2, 1) := by decide +kernel
theorem dX12_readExpression_28 : decode cX12_readExpression 28 = .ok (.iconst 4, 1) := by decide +kernel
theorem dX12_readExpression_29 : decode cX12_readExpression 29 = .ok (.if_icmp .eq 47, 3) := by decide +kernel
theorem dX12_readExpression_32 : decode cX12_readExpression 32 = .ok (.iload_n 2, 1) := by decide +kernel
theorem dX12_readExpression_33 : decode cX12_readExpression 33 = .ok (.ifCond .ne 10, 3) := by decide +kernel
theorem dX12_readExpression_36 : decode cX12_readExpression 36 = .ok (.aload_n 0, 1) := by decide +kernel
theorem dX12_readExpression_37 : decode cX12_readExpression 37 = .ok (.invokevirtual 337, 3) := by decide +kernel
theorem dX12_readExpression_40 : decode cX12_readExpression 40 = .ok (.goto 32, 3) := by decide +kernel
theorem dX12_readExpression_43 : decode cX12_readExpression 43 = .ok (.iload_n 2, 1) := by decide +kernel
theorem dX12_readExpression_44 : decode cX12_readExpression 44 = .ok (.iconst 1, 1) := by decide +kernel
theorem dX12_readExpression_45 : decode cX12_readExpression 45 = .ok (.if_icmp .ne 10, 3) := by decide +kernel
theorem dX12_readExpression_48 : decode cX12_readExpression 48 = .ok (.aload_n 0, 1) := by decide +kernel
theorem dX12_readExpression_49 : decode cX12_readExpression 49 = .ok (.invokevirtual 320, 3) := by decide +kernel
theorem dX12_readExpression_52 : decode cX12_readExpression 52 = .ok (.goto 20, 3) := by decide +kernel
theorem dX12_readExpression_55 : decode cX12_readExpression 55 = .ok (.iload_n 2, 1) := by decide +kernel
theorem dX12_readExpression_56 : decode cX12_readExpression 56 = .ok (.iconst 3, 1) := by decide +kernel
theorem dX12_readExpression_57 : decode cX12_readExpression 57 = .ok (.if_icmp .ne 11, 3) := by decide +kernel
theorem dX12_readExpression_60 : decode cX12_readExpression 60 = .ok (.aload_n 0, 1) := by decide +kernel
theorem dX12_readExpression_61 : decode cX12_readExpression 61 = .ok (.iload_n 1, 1) := by decide +kernel
theorem dX12_readExpression_62 : decode cX12_readExpression 62 = .ok (.invokevirtual 340, 3) := by decide +kernel
theorem dX12_readExpression_65 : decode cX12_readExpression 65 = .ok (.goto 7, 3) := by decide +kernel
theorem dX12_readExpression_68 : decode cX12_readExpression 68 = .ok (.aload_n 0, 1) := by decide +kernel
theorem dX12_readExpression_69 : decode cX12_readExpression 69 = .ok (.invokevirtual 344, 3) := by decide +kernel
theorem dX12_readExpression_72 : decode cX12_readExpression 72 = .ok (.istore_n 2, 1) := by decide +kernel
theorem dX12_readExpression_73 : decode cX12_readExpression 73 = .ok (.goto (-53), 3) := by decide +kernel
theorem dX12_readExpression_76 : decode cX12_readExpression 76 = .ok (.aload_n 0, 1) := by decide +kernel
theorem dX12_readExpression_77 : decode cX12_readExpression 77 = .ok (.iconst 1, 1) := by decide +kernel
theorem dX12_readExpression_78 : decode cX12_readExpression 78 = .ok (.invokevirtual 323, 3) := by decide +kernel
theorem dX12_readExpression_81 : decode cX12_readExpression 81 = .ok (.return_, 1) := by decide +kernel
theorem dX12_beginText_0 : decode cX12_beginText 0 = .ok (.aload_n 0, 1) := by decide +kernel
theorem dX12_beginText_1 : decode cX12_beginText 1 = .ok (.iload_n 1, 1) := by decide +kernel
theorem dX12_beginText_2 : decode cX12_beginText 2 = .ok (.putfield 300, 3) := by decide +kernel
theorem dX12_beginText_5 : decode cX12_beginText 5 = .ok (.aload_n 0, 1) := by decide +kernel
theorem dX12_beginText_6 : decode cX12_beginText 6 = .ok (.invokevirtual 347, 3) := by decide +kernel
theorem dX12_beginText_9 : decode cX12_beginText 9 = .ok (.aload_n 0, 1) := by decide +kernel
theorem dX12_beginText_10 : decode cX12_beginText 10 = .ok (.iconst 0, 1) := by decide +kernel
theorem dX12_beginText_11 : decode cX12_beginText 11 = .ok (.putfield 350, 3) := by decide +kernel
theorem dX12_beginText_14 : decode cX12_beginText 14 = .ok (.aload_n 0, 1) := by decide +kernel
theorem dX12_beginText_15 : decode cX12_beginText 15 = .ok (.iconst 0, 1) := by decide +kernel
theorem dX12_beginText_16 : decode cX12_beginText 16 = .ok (.putfield 260, 3) := by decide +kernel
theorem dX12_beginText_19 : decode cX12_beginText 19 = .ok (.aload_n 0, 1) := by decide +kernel
theorem dX12_beginText_20 : decode cX12_beginText 20 = .ok (.iconst 0, 1) := by decide +kernel
theorem dX12_beginText_21 : decode cX12_beginText 21 = .ok (.putfield 291, 3) := by decide +kernel
theorem dX12_beginText_24 : decode cX12_beginText 24 = .ok (.return_, 1) := by decide +kernel
theorem dX12_endText_0 : decode cX12_endText 0 = .ok (.aload_n 0, 1) := by decide +kernel
theorem dX12_endText_1 : decode cX12_endText 1 = .ok (.getfield 225, 3) := by decide +kernel
theorem dX12_endText_4 : decode cX12_endText 4 = .ok (.ifCond .ne 15, 3) := by decide +kernel
theorem dX12_endText_7 : decode cX12_endText 7 = .ok (.aload_n 0, 1) := by decide +kernel
theorem dX12_endText_8 : decode cX12_endText 8 = .ok (.getfield 245, 3) := by decide +kernel
theorem dX12_endText_11 : decode cX12_endText 11 = .ok (.ifCond .eq 8, 3) := by decide +kernel
theorem dX12_endText_14 : decode cX12_endText 14 = .ok (.aload_n 0, 1) := by decide +kernel
theorem dX12_endText_15 : decode cX12_endText 15 = .ok (.iconst 0, 1) := by decide +kernel
theorem dX12_endText_16 : decode cX12_endText 16 = .ok (.invokevirtual 256, 3) := by decide +kernel
theorem dX12_endText_19 : decode cX12_endText 19 = .ok (.aload_n 0, 1) := by decide +kernel
theorem dX12_endText_20 : decode cX12_endText 20 = .ok (.iconst 0, 1) := by decide +kernel
theorem dX12_endText_21 : decode cX12_endText 21 = .ok (.putfield 300, 3) := by decide +kernel
theorem dX12_endText_24 : decode cX12_endText 24 = .ok (.aload_n 0, 1) := by decide +kernel
theorem dX12_endText_25 : decode cX12_endText 25 = .ok (.iconst 0, 1) := by decide +kernel
theorem dX12_endText_26 : decode cX12_endText 26 = .ok (.putfield 213, 3) := by decide +kernel
theorem dX12_endText_29 : decode cX12_endText 29 = .ok (.return_, 1) := by decide +kernel
theorem dX12_readLaw_0 : decode cX12_readLaw 0 = .ok (.iconst (-1), 1) := by decide +kernel
theorem dX12_readLaw_1 : decode cX12_readLaw 1 = .ok (.istore_n 1, 1) := by decide +kernel
theorem dX12_readLaw_2 : decode cX12_readLaw 2 = .ok (.iconst 0, 1) := by decide +kernel
theorem dX12_readLaw_3 : decode cX12_readLaw 3 = .ok (.istore_n 2, 1) := by decide +kernel
theorem dX12_readLaw_4 : decode cX12_readLaw 4 = .ok (.iload_n 2, 1) := by decide +kernel
theorem dX12_readLaw_5 : decode cX12_readLaw 5 = .ok (.iconst 4, 1) := by decide +kernel
theorem dX12_readLaw_6 : decode cX12_readLaw 6 = .ok (.if_icmp .ge 28, 3) := by decide +kernel
theorem dX12_readLaw_9 : decode cX12_readLaw 9 = .ok (.aload_n 0, 1) := by decide +kernel
theorem dX12_readLaw_10 : decode cX12_readLaw 10 = .ok (.aload_n 0, 1) := by decide +kernel
theorem dX12_readLaw_11 : decode cX12_readLaw 11 = .ok (.getfield 98, 3) := by decide +kernel
theorem dX12_readLaw_14 : decode cX12_readLaw 14 = .ok (.iload_n 2, 1) := by decide +kernel
theorem dX12_readLaw_15 : decode cX12_readLaw 15 = .ok (.laload, 1) := by decide +kernel
theorem dX12_readLaw_16 : decode cX12_readLaw 16 = .ok (.invokevirtual 281, 3) := by decide +kernel
theorem dX12_readLaw_19 : decode cX12_readLaw 19 = .ok (.ifCond .eq 7, 3) := by decide +kernel
theorem dX12_readLaw_22 : decode cX12_readLaw 22 = .ok (.iload_n 2, 1) := by decide +kernel
theorem dX12_readLaw_23 : decode cX12_readLaw 23 = .ok (.goto 4, 3) := by decide +kernel
theorem dX12_readLaw_26 : decode cX12_readLaw 26 = .ok (.iload_n 1, 1) := by decide +kernel
theorem dX12_readLaw_27 : decode cX12_readLaw 27 = .ok (.istore_n 1, 1) := by decide +kernel
theorem dX12_readLaw_28 : decode cX12_readLaw 28 = .ok (.iinc 2 1, 3) := by decide +kernel
theorem dX12_readLaw_31 : decode cX12_readLaw 31 = .ok (.goto (-27), 3) := by decide +kernel
theorem dX12_readLaw_34 : decode cX12_readLaw 34 = .ok (.aload_n 0, 1) := by decide +kernel
theorem dX12_readLaw_35 : decode cX12_readLaw 35 = .ok (.iload_n 1, 1) := by decide +kernel
theorem dX12_readLaw_36 : decode cX12_readLaw 36 = .ok (.iconst (-1), 1) := by decide +kernel
theorem dX12_readLaw_37 : decode cX12_readLaw 37 = .ok (.if_icmp .eq 16, 3) := by decide +kernel
theorem dX12_readLaw_40 : decode cX12_readLaw 40 = .ok (.aload_n 0, 1) := by decide +kernel
theorem dX12_readLaw_41 : decode cX12_readLaw 41 = .ok (.getfield 350, 3) := by decide +kernel
theorem dX12_readLaw_44 : decode cX12_readLaw 44 = .ok (.bipush 12, 2) := by decide +kernel
theorem dX12_readLaw_46 : decode cX12_readLaw 46 = .ok (.if_icmp .ge 7, 3) := by decide +kernel
theorem dX12_readLaw_49 : decode cX12_readLaw 49 = .ok (.iconst 1, 1) := by decide +kernel
theorem dX12_readLaw_50 : decode cX12_readLaw 50 = .ok (.goto 4, 3) := by decide +kernel
theorem dX12_readLaw_53 : decode cX12_readLaw 53 = .ok (.iconst 0, 1) := by decide +kernel
theorem dX12_readLaw_54 : decode cX12_readLaw 54 = .ok (.invokevirtual 256, 3) := by decide +kernel
theorem dX12_readLaw_57 : decode cX12_readLaw 57 = .ok (.aload_n 0, 1) := by decide +kernel
theorem dX12_readLaw_58 : decode cX12_readLaw 58 = .ok (.getfield 225, 3) := by decide +kernel
theorem dX12_readLaw_61 : decode cX12_readLaw 61 = .ok (.ifCond .eq 4, 3) := by decide +kernel
theorem dX12_readLaw_64 : decode cX12_readLaw 64 = .ok (.return_, 1) := by decide +kernel
theorem dX12_readLaw_65 : decode cX12_readLaw 65 = .ok (.bipush 8, 2) := by decide +kernel
theorem dX12_readLaw_67 : decode cX12_readLaw 67 = .ok (.aload_n 0, 1) := by decide +kernel
theorem dX12_readLaw_68 : decode cX12_readLaw 68 = .ok (.getfield 350, 3) := by decide +kernel
theorem dX12_readLaw_71 : decode cX12_readLaw 71 = .ok (.imul, 1) := by decide +kernel
theorem dX12_readLaw_72 : decode cX12_readLaw 72 = .ok (.istore_n 2, 1) := by decide +kernel
theorem dX12_readLaw_73 : decode cX12_readLaw 73 = .ok (.iconst 0, 1) := by decide +kernel
theorem dX12_readLaw_74 : decode cX12_readLaw 74 = .ok (.istore_n 3, 1) := by decide +kernel
theorem dX12_readLaw_75 : decode cX12_readLaw 75 = .ok (.iload_n 3, 1) := by decide +kernel
theorem dX12_readLaw_76 : decode cX12_readLaw 76 = .ok (.bipush 8, 2) := by decide +kernel
theorem dX12_readLaw_78 : decode cX12_readLaw 78 = .ok (.if_icmp .ge 18, 3) := by decide +kernel
theorem dX12_readLaw_81 : decode cX12_readLaw 81 = .ok (.aload_n 0, 1) := by decide +kernel
theorem dX12_readLaw_82 : decode cX12_readLaw 82 = .ok (.getfield 42, 3) := by decide +kernel
theorem dX12_readLaw_85 : decode cX12_readLaw 85 = .ok (.iload_n 2, 1) := by decide +kernel
theorem dX12_readLaw_86 : decode cX12_readLaw 86 = .ok (.iload_n 3, 1) := by decide +kernel
theorem dX12_readLaw_87 : decode cX12_readLaw 87 = .ok (.iadd, 1) := by decide +kernel
theorem dX12_readLaw_88 : decode cX12_readLaw 88 = .ok (.iconst 0, 1) := by decide +kernel
theorem dX12_readLaw_89 : decode cX12_readLaw 89 = .ok (.iastore, 1) := by decide +kernel
theorem dX12_readLaw_90 : decode cX12_readLaw 90 = .ok (.iinc 3 1, 3) := by decide +kernel
theorem dX12_readLaw_93 : decode cX12_readLaw 93 = .ok (.goto (-18), 3) := by decide +kernel
theorem dX12_readLaw_96 : decode cX12_readLaw 96 = .ok (.aload_n 0, 1) := by decide +kernel
theorem dX12_readLaw_97 : decode cX12_readLaw 97 = .ok (.getfield 42, 3) := by decide +kernel
theorem dX12_readLaw_100 : decode cX12_readLaw 100 = .ok (.iload_n 2, 1) := by decide +kernel
theorem dX12_readLaw_101 : decode cX12_readLaw 101 = .ok (.iload_n 1, 1) := by decide +kernel
theorem dX12_readLaw_102 : decode cX12_readLaw 102 = .ok (.iastore, 1) := by decide +kernel
theorem dX12_readLaw_103 : decode cX12_readLaw 103 = .ok (.aload_n 0, 1) := by decide +kernel
theorem dX12_readLaw_104 : decode cX12_readLaw 104 = .ok (.dup, 1) := by decide +kernel
theorem dX12_readLaw_105 : decode cX12_readLaw 105 = .ok (.getfield 350, 3) := by decide +kernel
theorem dX12_readLaw_108 : decode cX12_readLaw 108 = .ok (.iconst 1, 1) := by decide +kernel
theorem dX12_readLaw_109 : decode cX12_readLaw 109 = .ok (.iadd, 1) := by decide +kernel
theorem dX12_readLaw_110 : decode cX12_readLaw 110 = .ok (.putfield 350, 3) := by decide +kernel
theorem dX12_readLaw_113 : decode cX12_readLaw 113 = .ok (.aload_n 0, 1) := by decide +kernel
theorem dX12_readLaw_114 : decode cX12_readLaw 114 = .ok (.getfield 42, 3) := by decide +kernel
theorem dX12_readLaw_117 : decode cX12_readLaw 117 = .ok (.iload_n 2, 1) := by decide +kernel
theorem dX12_readLaw_118 : decode cX12_readLaw 118 = .ok (.iconst 3, 1) := by decide +kernel
theorem dX12_readLaw_119 : decode cX12_readLaw 119 = .ok (.iadd, 1) := by decide +kernel
theorem dX12_readLaw_120 : decode cX12_readLaw 120 = .ok (.aload_n 0, 1) := by decide +kernel
theorem dX12_readLaw_121 : decode cX12_readLaw 121 = .ok (.getfield 260, 3) := by decide +kernel
theorem dX12_readLaw_124 : decode cX12_readLaw 124 = .ok (.iastore, 1) := by decide +kernel
theorem dX12_readLaw_125 : decode cX12_readLaw 125 = .ok (.iload_n 1, 1) := by decide +kernel
theorem dX12_readLaw_126 : decode cX12_readLaw 126 = .ok (.iconst 3, 1) := by decide +kernel
theorem dX12_readLaw_127 : decode cX12_readLaw 127 = .ok (.if_icmp .eq 8, 3) := by decide +kernel
theorem dX12_readLaw_130 : decode cX12_readLaw 130 = .ok (.aload_n 0, 1) := by decide +kernel
theorem dX12_readLaw_131 : decode cX12_readLaw 131 = .ok (.iconst 0, 1) := by decide +kernel
theorem dX12_readLaw_132 : decode cX12_readLaw 132 = .ok (.invokevirtual 353, 3) := by decide +kernel
theorem dX12_readLaw_135 : decode cX12_readLaw 135 = .ok (.aload_n 0, 1) := by decide +kernel
theorem dX12_readLaw_136 : decode cX12_readLaw 136 = .ok (.getfield 42, 3) := by decide +kernel
theorem dX12_readLaw_139 : decode cX12_readLaw 139 = .ok (.iload_n 2, 1) := by decide +kernel
theorem dX12_readLaw_140 : decode cX12_readLaw 140 = .ok (.iconst 4, 1) := by decide +kernel
theorem dX12_readLaw_141 : decode cX12_readLaw 141 = .ok (.iadd, 1) := by decide +kernel
theorem dX12_readLaw_142 : decode cX12_readLaw 142 = .ok (.aload_n 0, 1) := by decide +kernel
theorem dX12_readLaw_143 : decode cX12_readLaw 143 = .ok (.getfield 260, 3) := by decide +kernel
theorem dX12_readLaw_146 : decode cX12_readLaw 146 = .ok (.iastore, 1) := by decide +kernel
theorem dX12_readLaw_147 : decode cX12_readLaw 147 = .ok (.aload_n 0, 1) := by decide +kernel
theorem dX12_readLaw_148 : decode cX12_readLaw 148 = .ok (.getfield 42, 3) := by decide +kernel
theorem dX12_readLaw_151 : decode cX12_readLaw 151 = .ok (.iload_n 2, 1) := by decide +kernel
theorem dX12_readLaw_152 : decode cX12_readLaw 152 = .ok (.iconst 5, 1) := by decide +kernel
theorem dX12_readLaw_153 : decode cX12_readLaw 153 = .ok (.iadd, 1) := by decide +kernel
theorem dX12_readLaw_154 : decode cX12_readLaw 154 = .ok (.aload_n 0, 1) := by decide +kernel
theorem dX12_readLaw_155 : decode cX12_readLaw 155 = .ok (.getfield 260, 3) := by decide +kernel
theorem dX12_readLaw_158 : decode cX12_readLaw 158 = .ok (.iastore, 1) := by decide +kernel
theorem dX12_readLaw_159 : decode cX12_readLaw 159 = .ok (.aload_n 0, 1) := by decide +kernel
theorem dX12_readLaw_160 : decode cX12_readLaw 160 = .ok (.getfield 225, 3) := by decide +kernel
theorem dX12_readLaw_163 : decode cX12_readLaw 163 = .ok (.ifCond .ne 22, 3) := by decide +kernel
theorem dX12_readLaw_166 : decode cX12_readLaw 166 = .ok (.aload_n 0, 1) := by decide +kernel
theorem dX12_readLaw_167 : decode cX12_readLaw 167 = .ok (.ldc2_w 356, 3) := by decide +kernel
theorem dX12_readLaw_170 : decode cX12_readLaw 170 = .ok (.invokevirtual 281, 3) := by decide +kernel
theorem dX12_readLaw_173 : decode cX12_readLaw 173 = .ok (.ifCond .eq 12, 3) := by decide +kernel
theorem dX12_readLaw_176 : decode cX12_readLaw 176 = .ok (.aload_n 0, 1) := by decide +kernel
theorem dX12_readLaw_177 : decode cX12_readLaw 177 = .ok (.invokevirtual 229, 3) := by decide +kernel
theorem dX12_readLaw_180 : decode cX12_readLaw 180 = .ok (.aload_n 0, 1) := by decide +kernel
theorem dX12_readLaw_181 : decode cX12_readLaw 181 = .ok (.iconst 1, 1) := by decide +kernel
theorem dX12_readLaw_182 : decode cX12_readLaw 182 = .ok (.invokevirtual 353, 3) := by decide +kernel
theorem dX12_readLaw_185 : decode cX12_readLaw 185 = .ok (.aload_n 0, 1) := by decide +kernel
theorem dX12_readLaw_186 : decode cX12_readLaw 186 = .ok (.getfield 42, 3) := by decide +kernel
theorem dX12_readLaw_189 : decode cX12_readLaw 189 = .ok (.iload_n 2, 1) := by decide +kernel
theorem dX12_readLaw_190 : decode cX12_readLaw 190 = .ok (.bipush 6, 2) := by decide +kernel
theorem dX12_readLaw_192 : decode cX12_readLaw 192 = .ok (.iadd, 1) := by decide +kernel
theorem dX12_readLaw_193 : decode cX12_readLaw 193 = .ok (.aload_n 0, 1) := by decide +kernel
theorem dX12_readLaw_194 : decode cX12_readLaw 194 = .ok (.getfield 260, 3) := by decide +kernel
theorem dX12_readLaw_197 : decode cX12_readLaw 197 = .ok (.iastore, 1) := by decide +kernel
theorem dX12_readLaw_198 : decode cX12_readLaw 198 = .ok (.return_, 1) := by decide +kernel
theorem dX12_law_0 : decode cX12_law 0 = .ok (.aload_n 0, 1) := by decide +kernel
theorem dX12_law_1 : decode cX12_law 1 = .ok (.iconst 0, 1) := by decide +kernel
theorem dX12_law_2 : decode cX12_law 2 = .ok (.putfield 142, 3) := by decide +kernel
theorem dX12_law_5 : decode cX12_law 5 = .ok (.aload_n 0, 1) := by decide +kernel
theorem dX12_law_6 : decode cX12_law 6 = .ok (.getfield 13, 3) := by decide +kernel
theorem dX12_law_9 : decode cX12_law 9 = .ok (.iconst 4, 1) := by decide +kernel
theorem dX12_law_10 : decode cX12_law 10 = .ok (.iaload, 1) := by decide +kernel
theorem dX12_law_11 : decode cX12_law 11 = .ok (.bipush 6, 2) := by decide +kernel
theorem dX12_law_13 : decode cX12_law 13 = .ok (.if_icmp .ne 15, 3) := by decide +kernel
theorem dX12_law_16 : decode cX12_law 16 = .ok (.aload_n 0, 1) := by decide +kernel
theorem dX12_law_17 : decode cX12_law 17 = .ok (.iconst 0, 1) := by decide +kernel
theorem dX12_law_18 : decode cX12_law 18 = .ok (.putfield 213, 3) := by decide +kernel
theorem dX12_law_21 : decode cX12_law 21 = .ok (.aload_n 0, 1) := by decide +kernel
theorem dX12_law_22 : decode cX12_law 22 = .ok (.bipush (-5), 2) := by decide +kernel
theorem dX12_law_24 : decode cX12_law 24 = .ok (.invokevirtual 155, 3) := by decide +kernel
theorem dX12_law_27 : decode cX12_law 27 = .ok (.ireturn, 1) := by decide +kernel
theorem dX12_law_28 : decode cX12_law 28 = .ok (.aload_n 0, 1) := by decide +kernel
theorem dX12_law_29 : decode cX12_law 29 = .ok (.iconst 0, 1) := by decide +kernel
theorem dX12_law_30 : decode cX12_law 30 = .ok (.invokevirtual 358, 3) := by decide +kernel
theorem dX12_law_33 : decode cX12_law 33 = .ok (.aload_n 0, 1) := by decide +kernel
theorem dX12_law_34 : decode cX12_law 34 = .ok (.invokevirtual 361, 3) := by decide +kernel
theorem dX12_law_37 : decode cX12_law 37 = .ok (.aload_n 0, 1) := by decide +kernel
theorem dX12_law_38 : decode cX12_law 38 = .ok (.getfield 225, 3) := by decide +kernel
theorem dX12_law_41 : decode cX12_law 41 = .ok (.ifCond .ne 23, 3) := by decide +kernel
theorem dX12_law_44 : decode cX12_law 44 = .ok (.aload_n 0, 1) := by decide +kernel
theorem dX12_law_45 : decode cX12_law 45 = .ok (.bipush 59, 2) := by decide +kernel
theorem dX12_law_47 : decode cX12_law 47 = .ok (.invokevirtual 294, 3) := by decide +kernel
theorem dX12_law_50 : decode cX12_law 50 = .ok (.ifCond .eq 14, 3) := by decide +kernel
theorem dX12_law_53 : decode cX12_law 53 = .ok (.aload_n 0, 1) := by decide +kernel
theorem dX12_law_54 : decode cX12_law 54 = .ok (.invokevirtual 229, 3) := by decide +kernel
theorem dX12_law_57 : decode cX12_law 57 = .ok (.aload_n 0, 1) := by decide +kernel
theorem dX12_law_58 : decode cX12_law 58 = .ok (.invokevirtual 361, 3) := by decide +kernel
theorem dX12_law_61 : decode cX12_law 61 = .ok (.goto (-24), 3) := by decide +kernel
theorem dX12_law_64 : decode cX12_law 64 = .ok (.aload_n 0, 1) := by decide +kernel
theorem dX12_law_65 : decode cX12_law 65 = .ok (.invokevirtual 364, 3) := by decide +kernel
theorem dX12_law_68 : decode cX12_law 68 = .ok (.aload_n 0, 1) := by decide +kernel
theorem dX12_law_69 : decode cX12_law 69 = .ok (.getfield 225, 3) := by decide +kernel
theorem dX12_law_72 : decode cX12_law 72 = .ok (.ifCond .eq 10, 3) := by decide +kernel
theorem dX12_law_75 : decode cX12_law 75 = .ok (.aload_n 0, 1) := by decide +kernel
theorem dX12_law_76 : decode cX12_law 76 = .ok (.bipush (-6), 2) := by decide +kernel
theorem dX12_law_78 : decode cX12_law 78 = .ok (.invokevirtual 155, 3) := by decide +kernel
theorem dX12_law_81 : decode cX12_law 81 = .ok (.ireturn, 1) := by decide +kernel
theorem dX12_law_82 : decode cX12_law 82 = .ok (.sipush 150, 3) := by decide +kernel
theorem dX12_law_85 : decode cX12_law 85 = .ok (.sipush 900, 3) := by decide +kernel
theorem dX12_law_88 : decode cX12_law 88 = .ok (.aload_n 0, 1) := by decide +kernel
theorem dX12_law_89 : decode cX12_law 89 = .ok (.getfield 13, 3) := by decide +kernel
theorem dX12_law_92 : decode cX12_law 92 = .ok (.iconst 4, 1) := by decide +kernel
theorem dX12_law_93 : decode cX12_law 93 = .ok (.iaload, 1) := by decide +kernel
theorem dX12_law_94 : decode cX12_law 94 = .ok (.imul, 1) := by decide +kernel
theorem dX12_law_95 : decode cX12_law 95 = .ok (.iadd, 1) := by decide +kernel
theorem dX12_law_96 : decode cX12_law 96 = .ok (.istore_n 1, 1) := by decide +kernel
theorem dX12_law_97 : decode cX12_law 97 = .ok (.aload_n 0, 1) := by decide +kernel
theorem dX12_law_98 : decode cX12_law 98 = .ok (.getfield 13, 3) := by decide +kernel
theorem dX12_law_101 : decode cX12_law 101 = .ok (.iload_n 1, 1) := by decide +kernel
theorem dX12_law_102 : decode cX12_law 102 = .ok (.iconst 1, 1) := by decide +kernel
theorem dX12_law_103 : decode cX12_law 103 = .ok (.iadd, 1) := by decide +kernel
theorem dX12_law_104 : decode cX12_law 104 = .ok (.aload_n 0, 1) := by decide +kernel
theorem dX12_law_105 : decode cX12_law 105 = .ok (.getfield 350, 3) := by decide +kernel
theorem dX12_law_108 : decode cX12_law 108 = .ok (.iastore, 1) := by decide +kernel
theorem dX12_law_109 : decode cX12_law 109 = .ok (.iconst 0, 1) := by decide +kernel
theorem dX12_law_110 : decode cX12_law 110 = .ok (.istore_n 2, 1) := by decide +kernel
theorem dX12_law_111 : decode cX12_law 111 = .ok (.iload_n 2, 1) := by decide +kernel
theorem dX12_law_112 : decode cX12_law 112 = .ok (.bipush 8, 2) := by decide +kernel
theorem dX12_law_114 : decode cX12_law 114 = .ok (.aload_n 0, 1) := by decide +kernel
theorem dX12_law_115 : decode cX12_law 115 = .ok (.getfield 350, 3) := by decide +kernel
theorem dX12_law_118 : decode cX12_law 118 = .ok (.imul, 1) := by decide +kernel
theorem dX12_law_119 : decode cX12_law 119 = .ok (.if_icmp .ge 25, 3) := by decide +kernel
theorem dX12_law_122 : decode cX12_law 122 = .ok (.aload_n 0, 1) := by decide +kernel
theorem dX12_law_123 : decode cX12_law 123 = .ok (.getfield 13, 3) := by decide +kernel
theorem dX12_law_126 : decode cX12_law 126 = .ok (.iload_n 1, 1) := by decide +kernel
theorem dX12_law_127 : decode cX12_law 127 = .ok (.iconst 2, 1) := by decide +kernel
theorem dX12_law_128 : decode cX12_law 128 = .ok (.iadd, 1) := by decide +kernel
theorem dX12_law_129 : decode cX12_law 129 = .ok (.iload_n 2, 1) := by decide +kernel
theorem dX12_law_130 : decode cX12_law 130 = .ok (.iadd, 1) := by decide +kernel
theorem dX12_law_131 : decode cX12_law 131 = .ok (.aload_n 0, 1) := by decide +kernel
theorem dX12_law_132 : decode cX12_law 132 = .ok (.getfield 42, 3) := by decide +kernel
theorem dX12_law_135 : decode cX12_law 135 = .ok (.iload_n 2, 1) := by decide +kernel
theorem dX12_law_136 : decode cX12_law 136 = .ok (.iaload, 1) := by decide +kernel
theorem dX12_law_137 : decode cX12_law 137 = .ok (.iastore, 1) := by decide +kernel
theorem dX12_law_138 : decode cX12_law 138 = .ok (.iinc 2 1, 3) := by decide +kernel
theorem dX12_law_141 : decode cX12_law 141 = .ok (.goto (-30), 3) := by decide +kernel
theorem dX12_law_144 : decode cX12_law 144 = .ok (.iconst 0, 1) := by decide +kernel
theorem dX12_law_145 : decode cX12_law 145 = .ok (.istore_n 2, 1) := by decide +kernel
theorem dX12_law_146 : decode cX12_law 146 = .ok (.iload_n 2, 1) := by decide +kernel
theorem dX12_law_147 : decode cX12_law 147 = .ok (.aload_n 0, 1) := by decide +kernel
theorem dX12_law_148 : decode cX12_law 148 = .ok (.getfield 260, 3) := by decide +kernel
theorem dX12_law_151 : decode cX12_law 151 = .ok (.if_icmp .ge 49, 3) := by decide +kernel
theorem dX12_law_154 : decode cX12_law 154 = .ok (.aload_n 0, 1) := by decide +kernel
theorem dX12_law_155 : decode cX12_law 155 = .ok (.getfield 13, 3) := by decide +kernel
theorem dX12_law_158 : decode cX12_law 158 = .ok (.iload_n 1, 1) := by decide +kernel
theorem dX12_law_159 : decode cX12_law 159 = .ok (.bipush 98, 2) := by decide +kernel
theorem dX12_law_161 : decode cX12_law 161 = .ok (.iadd, 1) := by decide +kernel
theorem dX12_law_162 : decode cX12_law 162 = .ok (.iconst 2, 1) := by decide +kernel
theorem dX12_law_163 : decode cX12_law 163 = .ok (.iload_n 2, 1) := by decide +kernel
theorem dX12_law_164 : decode cX12_law 164 = .ok (.imul, 1) := by decide +kernel
theorem dX12_law_165 : decode cX12_law 165 = .ok (.iadd, 1) := by decide +kernel
theorem dX12_law_166 : decode cX12_law 166 = .ok (.aload_n 0, 1) := by decide +kernel
theorem dX12_law_167 : decode cX12_law 167 = .ok (.getfield 45, 3) := by decide +kernel
theorem dX12_law_170 : decode cX12_law 170 = .ok (.iload_n 2, 1) := by decide +kernel
theorem dX12_law_171 : decode cX12_law 171 = .ok (.iaload, 1) := by decide +kernel
theorem dX12_law_172 : decode cX12_law 172 = .ok (.iastore, 1) := by decide +kernel
theorem dX12_law_173 : decode cX12_law 173 = .ok (.aload_n 0, 1) := by decide +kernel
theorem dX12_law_174 : decode cX12_law 174 = .ok (.getfield 13, 3) := by decide +kernel
theorem dX12_law_177 : decode cX12_law 177 = .ok (.iload_n 1, 1) := by decide +kernel
theorem dX12_law_178 : decode cX12_law 178 = .ok (.bipush 98, 2) := by decide +kernel
theorem dX12_law_180 : decode cX12_law 180 = .ok (.iadd, 1) := by decide +kernel
theorem dX12_law_181 : decode cX12_law 181 = .ok (.iconst 2, 1) := by decide +kernel
theorem dX12_law_182 : decode cX12_law 182 = .ok (.iload_n 2, 1) := by decide +kernel
theorem dX12_law_183 : decode cX12_law 183 = .ok (.imul, 1) := by decide +kernel
theorem dX12_law_184 : decode cX12_law 184 = .ok (.iadd, 1) := by decide +kernel
theorem dX12_law_185 : decode cX12_law 185 = .ok (.iconst 1, 1) := by decide +kernel
theorem dX12_law_186 : decode cX12_law 186 = .ok (.iadd, 1) := by decide +kernel
theorem dX12_law_187 : decode cX12_law 187 = .ok (.aload_n 0, 1) := by decide +kernel
theorem dX12_law_188 : decode cX12_law 188 = .ok (.getfield 48, 3) := by decide +kernel
theorem dX12_law_191 : decode cX12_law 191 = .ok (.iload_n 2, 1) := by decide +kernel
theorem dX12_law_192 : decode cX12_law 192 = .ok (.iaload, 1) := by decide +kernel
theorem dX12_law_193 : decode cX12_law 193 = .ok (.iastore, 1) := by decide +kernel
theorem dX12_law_194 : decode cX12_law 194 = .ok (.iinc 2 1, 3) := by decide +kernel
theorem dX12_law_197 : decode cX12_law 197 = .ok (.goto (-51), 3) := by decide +kernel
theorem dX12_law_200 : decode cX12_law 200 = .ok (.aload_n 0, 1) := by decide +kernel
theorem dX12_law_201 : decode cX12_law 201 = .ok (.getfield 13, 3) := by decide +kernel
theorem dX12_law_204 : decode cX12_law 204 = .ok (.iconst 4, 1) := by decide +kernel
theorem dX12_law_205 : decode cX12_law 205 = .ok (.dup2, 1) := by decide +kernel
theorem dX12_law_206 : decode cX12_law 206 = .ok (.iaload, 1) := by decide +kernel
theorem dX12_law_207 : decode cX12_law 207 = .ok (.iconst 1, 1) := by decide +kernel
theorem dX12_law_208 : decode cX12_law 208 = .ok (.iadd, 1) := by decide +kernel
theorem dX12_law_209 : decode cX12_law 209 = .ok (.iastore, 1) := by decide +kernel
theorem dX12_law_210 : decode cX12_law 210 = .ok (.aload_n 0, 1) := by decide +kernel
theorem dX12_law_211 : decode cX12_law 211 = .ok (.aload_n 0, 1) := by decide +kernel
theorem dX12_law_212 : decode cX12_law 212 = .ok (.getfield 13, 3) := by decide +kernel
theorem dX12_law_215 : decode cX12_law 215 = .ok (.iconst 4, 1) := by decide +kernel
theorem dX12_law_216 : decode cX12_law 216 = .ok (.iaload, 1) := by decide +kernel
theorem dX12_law_217 : decode cX12_law 217 = .ok (.iconst 1, 1) := by decide +kernel
theorem dX12_law_218 : decode cX12_law 218 = .ok (.isub, 1) := by decide +kernel
theorem dX12_law_219 : decode cX12_law 219 = .ok (.invokevirtual 155, 3) := by decide +kernel
theorem dX12_law_222 : decode cX12_law 222 = .ok (.ireturn, 1) := by decide +kernel
theorem dX12_force_0 : decode cX12_force 0 = .ok (.aload_n 0, 1) := by decide +kernel
theorem dX12_force_1 : decode cX12_force 1 = .ok (.iconst 0, 1) := by decide +kernel
theorem dX12_force_2 : decode cX12_force 2 = .ok (.putfield 142, 3) := by decide +kernel
theorem dX12_force_5 : decode cX12_force 5 = .ok (.iload_n 1, 1) := by decide +kernel
theorem dX12_force_6 : decode cX12_force 6 = .ok (.iconst (-1), 1) := by decide +kernel
theorem dX12_force_7 : decode cX12_force 7 = .ok (.if_icmp .eq 21, 3) := by decide +kernel
theorem dX12_force_10 : decode cX12_force 10 = .ok (.iload_n 1, 1) := by decide +kernel
theorem dX12_force_11 : decode cX12_force 11 = .ok (.i2l, 1) := by decide +kernel
theorem dX12_force_12 : decode cX12_force 12 = .ok (.lconst 0, 1) := by decide +kernel
theorem dX12_force_13 : decode cX12_force 13 = .ok (.aload_n 0, 1) := by decide +kernel
theorem dX12_force_14 : decode cX12_force 14 = .ok (.getfield 13, 3) := by decide +kernel
theorem dX12_force_17 : decode cX12_force 17 = .ok (.iconst 4, 1) := by decide +kernel
theorem dX12_force_18 : decode cX12_force 18 = .ok (.iaload, 1) := by decide +kernel
theorem dX12_force_19 : decode cX12_force 19 = .ok (.i2l, 1) := by decide +kernel
theorem dX12_force_20 : decode cX12_force 20 = .ok (.lconst 1, 1) := by decide +kernel
theorem dX12_force_21 : decode cX12_force 21 = .ok (.lsub, 1) := by decide +kernel
theorem dX12_force_22 : decode cX12_force 22 = .ok (.invokestatic 162, 3) := by decide +kernel
theorem dX12_force_25 : decode cX12_force 25 = .ok (.ifCond .eq 12, 3) := by decide +kernel
theorem dX12_force_28 : decode cX12_force 28 = .ok (.aload_n 0, 1) := by decide +kernel
theorem dX12_force_29 : decode cX12_force 29 = .ok (.iconst 5, 1) := by decide +kernel
theorem dX12_force_30 : decode cX12_force 30 = .ok (.iload_n 1, 1) := by decide +kernel
theorem dX12_force_31 : decode cX12_force 31 = .ok (.invokevirtual 206, 3) := by decide +kernel
theorem dX12_force_34 : decode cX12_force 34 = .ok (.goto 9, 3) := by decide +kernel
theorem dX12_force_37 : decode cX12_force 37 = .ok (.aload_n 0, 1) := by decide +kernel
theorem dX12_force_38 : decode cX12_force 38 = .ok (.bipush (-2), 2) := by decide +kernel
theorem dX12_force_40 : decode cX12_force 40 = .ok (.invokevirtual 155, 3) := by decide +kernel
theorem dX12_force_43 : decode cX12_force 43 = .ok (.ireturn, 1) := by decide +kernel
theorem dX12_reckon_0 : decode cX12_reckon 0 = .ok (.iload_n 1, 1) := by decide +kernel
theorem dX12_reckon_1 : decode cX12_reckon 1 = .ok (.tableswitch 148 20 26 #[43, 48, 53, 58, 90, 122, 135], 43) := by decide +kernel
theorem dX12_reckon_44 : decode cX12_reckon 44 = .ok (.lload_n 2, 1) := by decide +kernel
theorem dX12_reckon_45 : decode cX12_reckon 45 = .ok (.lload 4, 2) := by decide +kernel
theorem dX12_reckon_47 : decode cX12_reckon 47 = .ok (.ladd, 1) := by decide +kernel
theorem dX12_reckon_48 : decode cX12_reckon 48 = .ok (.lreturn, 1) := by decide +kernel
theorem dX12_reckon_49 : decode cX12_reckon 49 = .ok (.lload_n 2, 1) := by decide +kernel
theorem dX12_reckon_50 : decode cX12_reckon 50 = .ok (.lload 4, 2) := by decide +kernel
theorem dX12_reckon_52 : decode cX12_reckon 52 = .ok (.lsub, 1) := by decide +kernel
theorem dX12_reckon_53 : decode cX12_reckon 53 = .ok (.lreturn, 1) := by decide +kernel
theorem dX12_reckon_54 : decode cX12_reckon 54 = .ok (.lload_n 2, 1) := by decide +kernel
theorem dX12_reckon_55 : decode cX12_reckon 55 = .ok (.lload 4, 2) := by decide +kernel
theorem dX12_reckon_57 : decode cX12_reckon 57 = .ok (.lmul, 1) := by decide +kernel
theorem dX12_reckon_58 : decode cX12_reckon 58 = .ok (.lreturn, 1) := by decide +kernel
theorem dX12_reckon_59 : decode cX12_reckon 59 = .ok (.aload_n 0, 1) := by decide +kernel
theorem dX12_reckon_60 : decode cX12_reckon 60 = .ok (.lload 4, 2) := by decide +kernel
theorem dX12_reckon_62 : decode cX12_reckon 62 = .ok (.lconst 0, 1) := by decide +kernel
theorem dX12_reckon_63 : decode cX12_reckon 63 = .ok (.lcmp, 1) := by decide +kernel
theorem dX12_reckon_64 : decode cX12_reckon 64 = .ok (.ifCond .ne 7, 3) := by decide +kernel
theorem dX12_reckon_67 : decode cX12_reckon 67 = .ok (.iconst 1, 1) := by decide +kernel
theorem dX12_reckon_68 : decode cX12_reckon 68 = .ok (.goto 4, 3) := by decide +kernel
theorem dX12_reckon_71 : decode cX12_reckon 71 = .ok (.iconst 0, 1) := by decide +kernel
theorem dX12_reckon_72 : decode cX12_reckon 72 = .ok (.putfield 367, 3) := by decide +kernel
theorem dX12_reckon_75 : decode cX12_reckon 75 = .ok (.aload_n 0, 1) := by decide +kernel
theorem dX12_reckon_76 : decode cX12_reckon 76 = .ok (.getfield 367, 3) := by decide +kernel
theorem dX12_reckon_79 : decode cX12_reckon 79 = .ok (.ifCond .eq 7, 3) := by decide +kernel
theorem dX12_reckon_82 : decode cX12_reckon 82 = .ok (.lconst 0, 1) := by decide +kernel
theorem dX12_reckon_83 : decode cX12_reckon 83 = .ok (.goto 7, 3) := by decide +kernel
theorem dX12_reckon_86 : decode cX12_reckon 86 = .ok (.lload_n 2, 1) := by decide +kernel
theorem dX12_reckon_87 : decode cX12_reckon 87 = .ok (.lload 4, 2) := by decide +kernel
theorem dX12_reckon_89 : decode cX12_reckon 89 = .ok (.ldiv, 1) := by decide +kernel
theorem dX12_reckon_90 : decode cX12_reckon 90 = .ok (.lreturn, 1) := by decide +kernel
theorem dX12_reckon_91 : decode cX12_reckon 91 = .ok (.aload_n 0, 1) := by decide +kernel
theorem dX12_reckon_92 : decode cX12_reckon 92 = .ok (.lload 4, 2) := by decide +kernel
theorem dX12_reckon_94 : decode cX12_reckon 94 = .ok (.lconst 0, 1) := by decide +kernel
theorem dX12_reckon_95 : decode cX12_reckon 95 = .ok (.lcmp, 1) := by decide +kernel
theorem dX12_reckon_96 : decode cX12_reckon 96 = .ok (.ifCond .ne 7, 3) := by decide +kernel
theorem dX12_reckon_99 : decode cX12_reckon 99 = .ok (.iconst 1, 1) := by decide +kernel
theorem dX12_reckon_100 : decode cX12_reckon 100 = .ok (.goto 4, 3) := by decide +kernel
theorem dX12_reckon_103 : decode cX12_reckon 103 = .ok (.iconst 0, 1) := by decide +kernel
theorem dX12_reckon_104 : decode cX12_reckon 104 = .ok (.putfield 367, 3) := by decide +kernel
theorem dX12_reckon_107 : decode cX12_reckon 107 = .ok (.aload_n 0, 1) := by decide +kernel
theorem dX12_reckon_108 : decode cX12_reckon 108 = .ok (.getfield 367, 3) := by decide +kernel
theorem dX12_reckon_111 : decode cX12_reckon 111 = .ok (.ifCond .eq 7, 3) := by decide +kernel
theorem dX12_reckon_114 : decode cX12_reckon 114 = .ok (.lconst 0, 1) := by decide +kernel
theorem dX12_reckon_115 : decode cX12_reckon 115 = .ok (.goto 7, 3) := by decide +kernel
theorem dX12_reckon_118 : decode cX12_reckon 118 = .ok (.lload_n 2, 1) := by decide +kernel
theorem dX12_reckon_119 : decode cX12_reckon 119 = .ok (.lload 4, 2) := by decide +kernel
theorem dX12_reckon_121 : decode cX12_reckon 121 = .ok (.lrem, 1) := by decide +kernel
theorem dX12_reckon_122 : decode cX12_reckon 122 = .ok (.lreturn, 1) := by decide +kernel
theorem dX12_reckon_123 : decode cX12_reckon 123 = .ok (.lload_n 2, 1) := by decide +kernel
theorem dX12_reckon_124 : decode cX12_reckon 124 = .ok (.lload 4, 2) := by decide +kernel
theorem dX12_reckon_126 : decode cX12_reckon 126 = .ok (.lcmp, 1) := by decide +kernel
theorem dX12_reckon_127 : decode cX12_reckon 127 = .ok (.ifCond .ge 7, 3) := by decide +kernel
theorem dX12_reckon_130 : decode cX12_reckon 130 = .ok (.lconst 1, 1) := by decide +kernel
theorem dX12_reckon_131 : decode cX12_reckon 131 = .ok (.goto 4, 3) := by decide +kernel
theorem dX12_reckon_134 : decode cX12_reckon 134 = .ok (.lconst 0, 1) := by decide +kernel
theorem dX12_reckon_135 : decode cX12_reckon 135 = .ok (.lreturn, 1) := by decide +kernel
theorem dX12_reckon_136 : decode cX12_reckon 136 = .ok (.lload_n 2, 1) := by decide +kernel
theorem dX12_reckon_137 : decode cX12_reckon 137 = .ok (.lload 4, 2) := by decide +kernel
theorem dX12_reckon_139 : decode cX12_reckon 139 = .ok (.lcmp, 1) := by decide +kernel
theorem dX12_reckon_140 : decode cX12_reckon 140 = .ok (.ifCond .le 7, 3) := by decide +kernel
theorem dX12_reckon_143 : decode cX12_reckon 143 = .ok (.lconst 1, 1) := by decide +kernel
theorem dX12_reckon_144 : decode cX12_reckon 144 = .ok (.goto 4, 3) := by decide +kernel
theorem dX12_reckon_147 : decode cX12_reckon 147 = .ok (.lconst 0, 1) := by decide +kernel
theorem dX12_reckon_148 : decode cX12_reckon 148 = .ok (.lreturn, 1) := by decide +kernel
theorem dX12_reckon_149 : decode cX12_reckon 149 = .ok (.lload_n 2, 1) := by decide +kernel
theorem dX12_reckon_150 : decode cX12_reckon 150 = .ok (.lload 4, 2) := by decide +kernel
theorem dX12_reckon_152 : decode cX12_reckon 152 = .ok (.lcmp, 1) := by decide +kernel
theorem dX12_reckon_153 : decode cX12_reckon 153 = .ok (.ifCond .ne 7, 3) := by decide +kernel
theorem dX12_reckon_156 : decode cX12_reckon 156 = .ok (.lconst 1, 1) := by decide +kernel
theorem dX12_reckon_157 : decode cX12_reckon 157 = .ok (.goto 4, 3) := by decide +kernel
theorem dX12_reckon_160 : decode cX12_reckon 160 = .ok (.lconst 0, 1) := by decide +kernel
theorem dX12_reckon_161 : decode cX12_reckon 161 = .ok (.lreturn, 1) := by decide +kernel
theorem dX12_reckonAll_0 : decode cX12_reckonAll 0 = .ok (.aload_n 0, 1) := by decide +kernel
theorem dX12_reckonAll_1 : decode cX12_reckonAll 1 = .ok (.iconst 0, 1) := by decide +kernel
theorem dX12_reckonAll_2 : decode cX12_reckonAll 2 = .ok (.putfield 367, 3) := by decide +kernel
theorem dX12_reckonAll_5 : decode cX12_reckonAll 5 = .ok (.iconst 0, 1) := by decide +kernel
theorem dX12_reckonAll_6 : decode cX12_reckonAll 6 = .ok (.istore_n 3, 1) := by decide +kernel
theorem dX12_reckonAll_7 : decode cX12_reckonAll 7 = .ok (.iload_n 1, 1) := by decide +kernel
theorem dX12_reckonAll_8 : decode cX12_reckonAll 8 = .ok (.istore 4, 2) := by decide +kernel
theorem dX12_reckonAll_10 : decode cX12_reckonAll 10 = .ok (.iload 4, 2) := by decide +kernel
theorem dX12_reckonAll_12 : decode cX12_reckonAll 12 = .ok (.iload_n 2, 1) := by decide +kernel
theorem dX12_reckonAll_13 : decode cX12_reckonAll 13 = .ok (.if_icmp .ge 359, 3) := by decide +kernel
theorem dX12_reckonAll_16 : decode cX12_reckonAll 16 = .ok (.aload_n 0, 1) := by decide +kernel
theorem dX12_reckonAll_17 : decode cX12_reckonAll 17 = .ok (.getfield 367, 3) := by decide +kernel
theorem dX12_reckonAll_20 : decode cX12_reckonAll 20 = .ok (.ifCond .ne 352, 3) := by decide +kernel
theorem dX12_reckonAll_23 : decode cX12_reckonAll 23 = .ok (.aload_n 0, 1) := by decide +kernel
theorem dX12_reckonAll_24 : decode cX12_reckonAll 24 = .ok (.getfield 300, 3) := by decide +kernel
theorem dX12_reckonAll_27 : decode cX12_reckonAll 27 = .ok (.ifCond .eq 13, 3) := by decide +kernel
theorem dX12_reckonAll_30 : decode cX12_reckonAll 30 = .ok (.aload_n 0, 1) := by decide +kernel
theorem dX12_reckonAll_31 : decode cX12_reckonAll 31 = .ok (.getfield 45, 3) := by decide +kernel
theorem dX12_reckonAll_34 : decode cX12_reckonAll 34 = .ok (.iload 4, 2) := by decide +kernel
theorem dX12_reckonAll_36 : decode cX12_reckonAll 36 = .ok (.iaload, 1) := by decide +kernel
theorem dX12_reckonAll_37 : decode cX12_reckonAll 37 = .ok (.goto 20, 3) := by decide +kernel
theorem dX12_reckonAll_40 : decode cX12_reckonAll 40 = .ok (.aload_n 0, 1) := by decide +kernel
theorem dX12_reckonAll_41 : decode cX12_reckonAll 41 = .ok (.getfield 13, 3) := by decide +kernel
theorem dX12_reckonAll_44 : decode cX12_reckonAll 44 = .ok (.aload_n 0, 1) := by decide +kernel
theorem dX12_reckonAll_45 : decode cX12_reckonAll 45 = .ok (.getfield 370, 3) := by decide +kernel
theorem dX12_reckonAll_48 : decode cX12_reckonAll 48 = .ok (.bipush 98, 2) := by decide +kernel
theorem dX12_reckonAll_50 : decode cX12_reckonAll 50 = .ok (.iadd, 1) := by decide +kernel
theorem dX12_reckonAll_51 : decode cX12_reckonAll 51 = .ok (.iconst 2, 1) := by decide +kernel
theorem dX12_reckonAll_52 : decode cX12_reckonAll 52 = .ok (.iload 4, 2) := by decide +kernel
theorem dX12_reckonAll_54 : decode cX12_reckonAll 54 = .ok (.imul, 1) := by decide +kernel
theorem dX12_reckonAll_55 : decode cX12_reckonAll 55 = .ok (.iadd, 1) := by decide +kernel
theorem dX12_reckonAll_56 : decode cX12_reckonAll 56 = .ok (.iaload, 1) := by decide +kernel
theorem dX12_reckonAll_57 : decode cX12_reckonAll 57 = .ok (.istore 5, 2) := by decide +kernel
theorem dX12_reckonAll_59 : decode cX12_reckonAll 59 = .ok (.aload_n 0, 1) := by decide +kernel
theorem dX12_reckonAll_60 : decode cX12_reckonAll 60 = .ok (.getfield 300, 3) := by decide +kernel
theorem dX12_reckonAll_63 : decode cX12_reckonAll 63 = .ok (.ifCond .eq 13, 3) := by decide +kernel
theorem dX12_reckonAll_66 : decode cX12_reckonAll 66 = .ok (.aload_n 0, 1) := by decide +kernel
theorem dX12_reckonAll_67 : decode cX12_reckonAll 67 = .ok (.getfield 48, 3) := by decide +kernel
theorem dX12_reckonAll_70 : decode cX12_reckonAll 70 = .ok (.iload 4, 2) := by decide +kernel
theorem dX12_reckonAll_72 : decode cX12_reckonAll 72 = .ok (.iaload, 1) := by decide +kernel
theorem dX12_reckonAll_73 : decode cX12_reckonAll 73 = .ok (.goto 22, 3) := by decide +kernel
theorem dX12_reckonAll_76 : decode cX12_reckonAll 76 = .ok (.aload_n 0, 1) := by decide +kernel
theorem dX12_reckonAll_77 : decode cX12_reckonAll 77 = .ok (.getfield 13, 3) := by decide +kernel
theorem dX12_reckonAll_80 : decode cX12_reckonAll 80 = .ok (.aload_n 0, 1) := by decide +kernel
theorem dX12_reckonAll_81 : decode cX12_reckonAll 81 = .ok (.getfield 370, 3) := by decide +kernel
theorem dX12_reckonAll_84 : decode cX12_reckonAll 84 = .ok (.bipush 98, 2) := by decide +kernel
theorem dX12_reckonAll_86 : decode cX12_reckonAll 86 = .ok (.iadd, 1) := by decide +kernel
theorem dX12_reckonAll_87 : decode cX12_reckonAll 87 = .ok (.iconst 2, 1) := by decide +kernel
theorem dX12_reckonAll_88 : decode cX12_reckonAll 88 = .ok (.iload 4, 2) := by decide +kernel
theorem dX12_reckonAll_90 : decode cX12_reckonAll 90 = .ok (.imul, 1) := by decide +kernel
theorem dX12_reckonAll_91 : decode cX12_reckonAll 91 = .ok (.iadd, 1) := by decide +kernel
theorem dX12_reckonAll_92 : decode cX12_reckonAll 92 = .ok (.iconst 1, 1) := by decide +kernel
theorem dX12_reckonAll_93 : decode cX12_reckonAll 93 = .ok (.iadd, 1) := by decide +kernel
theorem dX12_reckonAll_94 : decode cX12_reckonAll 94 = .ok (.iaload, 1) := by decide +kernel
theorem dX12_reckonAll_95 : decode cX12_reckonAll 95 = .ok (.istore 6, 2) := by decide +kernel
theorem dX12_reckonAll_97 : decode cX12_reckonAll 97 = .ok (.iinc 4 1, 3) := by decide +kernel
theorem dX12_reckonAll_100 : decode cX12_reckonAll 100 = .ok (.iload 5, 2) := by decide +kernel
theorem dX12_reckonAll_102 : decode cX12_reckonAll 102 = .ok (.bipush 20, 2) := by decide +kernel
theorem dX12_reckonAll_104 : decode cX12_reckonAll 104 = .ok (.if_icmp .ge 126, 3) := by decide +kernel
theorem dX12_reckonAll_107 : decode cX12_reckonAll 107 = .ok (.aload_n 0, 1) := by decide +kernel
theorem dX12_reckonAll_108 : decode cX12_reckonAll 108 = .ok (.getfield 107, 3) := by decide +kernel
theorem dX12_reckonAll_111 : decode cX12_reckonAll 111 = .ok (.iload_n 3, 1) := by decide +kernel
theorem dX12_reckonAll_112 : decode cX12_reckonAll 112 = .ok (.iload 5, 2) := by decide +kernel
theorem dX12_reckonAll_114 : decode cX12_reckonAll 114 = .ok (.ifCond .ne 9, 3) := by decide +kernel
theorem dX12_reckonAll_117 : decode cX12_reckonAll 117 = .ok (.iload 6, 2) := by decide +kernel
theorem dX12_reckonAll_119 : decode cX12_reckonAll 119 = .ok (.i2l, 1) := by decide +kernel
theorem dX12_reckonAll_120 : decode cX12_reckonAll 120 = .ok (.goto 103, 3) := by decide +kernel
theorem dX12_reckonAll_123 : decode cX12_reckonAll 123 = .ok (.aload_n 0, 1) := by decide +kernel
theorem dX12_reckonAll_124 : decode cX12_reckonAll 124 = .ok (.getfield 300, 3) := by decide +kernel
theorem dX12_reckonAll_127 : decode cX12_reckonAll 127 = .ok (.ifCond .ne 13, 3) := by decide +kernel
theorem dX12_reckonAll_130 : decode cX12_reckonAll 130 = .ok (.aload_n 0, 1) := by decide +kernel
theorem dX12_reckonAll_131 : decode cX12_reckonAll 131 = .ok (.getfield 101, 3) := by decide +kernel
theorem dX12_reckonAll_134 : decode cX12_reckonAll 134 = .ok (.iload 5, 2) := by decide +kernel
theorem dX12_reckonAll_136 : decode cX12_reckonAll 136 = .ok (.laload, 1) := by decide +kernel
theorem dX12_reckonAll_137 : decode cX12_reckonAll 137 = .ok (.goto 86, 3) := by decide +kernel
theorem dX12_reckonAll_140 : decode cX12_reckonAll 140 = .ok (.iload 5, 2) := by decide +kernel
theorem dX12_reckonAll_142 : decode cX12_reckonAll 142 = .ok (.iconst 4, 1) := by decide +kernel
theorem dX12_reckonAll_143 : decode cX12_reckonAll 143 = .ok (.if_icmp .ge 13, 3) := by decide +kernel
theorem dX12_reckonAll_146 : decode cX12_reckonAll 146 = .ok (.aload_n 0, 1) := by decide +kernel
theorem dX12_reckonAll_147 : decode cX12_reckonAll 147 = .ok (.getfield 104, 3) := by decide +kernel
theorem dX12_reckonAll_150 : decode cX12_reckonAll 150 = .ok (.iload 5, 2) := by decide +kernel
theorem dX12_reckonAll_152 : decode cX12_reckonAll 152 = .ok (.laload, 1) := by decide +kernel
theorem dX12_reckonAll_153 : decode cX12_reckonAll 153 = .ok (.goto 70, 3) := by decide +kernel
theorem dX12_reckonAll_156 : decode cX12_reckonAll 156 = .ok (.iload 5, 2) := by decide +kernel
theorem dX12_reckonAll_158 : decode cX12_reckonAll 158 = .ok (.bipush 6, 2) := by decide +kernel
theorem dX12_reckonAll_160 : decode cX12_reckonAll 160 = .ok (.if_icmp .ne 17, 3) := by decide +kernel
theorem dX12_reckonAll_163 : decode cX12_reckonAll 163 = .ok (.aload_n 0, 1) := by decide +kernel
theorem dX12_reckonAll_164 : decode cX12_reckonAll 164 = .ok (.getfield 13, 3) := by decide +kernel
theorem dX12_reckonAll_167 : decode cX12_reckonAll 167 = .ok (.bipush 9, 2) := by decide +kernel
theorem dX12_reckonAll_169 : decode cX12_reckonAll 169 = .ok (.iload 6, 2) := by decide +kernel
theorem dX12_reckonAll_171 : decode cX12_reckonAll 171 = .ok (.iadd, 1) := by decide +kernel
theorem dX12_reckonAll_172 : decode cX12_reckonAll 172 = .ok (.iaload, 1) := by decide +kernel
theorem dX12_reckonAll_173 : decode cX12_reckonAll 173 = .ok (.i2l, 1) := by decide +kernel
theorem dX12_reckonAll_174 : decode cX12_reckonAll 174 = .ok (.goto 49, 3) := by decide +kernel
theorem dX12_reckonAll_177 : decode cX12_reckonAll 177 = .ok (.aload_n 0, 1) := by decide +kernel
theorem dX12_reckonAll_178 : decode cX12_reckonAll 178 = .ok (.iload 6, 2) := by decide +kernel
theorem dX12_reckonAll_180 : decode cX12_reckonAll 180 = .ok (.invokevirtual 195, 3) := by decide +kernel
theorem dX12_reckonAll_183 : decode cX12_reckonAll 183 = .ok (.ifCond .ne 9, 3) := by decide +kernel
theorem dX12_reckonAll_186 : decode cX12_reckonAll 186 = .ok (.ldc2_w 252, 3) := by decide +kernel
theorem dX12_reckonAll_189 : decode cX12_reckonAll 189 = .ok (.goto 34, 3) := by decide +kernel
theorem dX12_reckonAll_192 : decode cX12_reckonAll 192 = .ok (.iload 5, 2) := by decide +kernel
theorem dX12_reckonAll_194 : decode cX12_reckonAll 194 = .ok (.iconst 4, 1) := by decide +kernel
theorem dX12_reckonAll_195 : decode cX12_reckonAll 195 = .ok (.if_icmp .ne 17, 3) := by decide +kernel
theorem dX12_reckonAll_198 : decode cX12_reckonAll 198 = .ok (.aload_n 0, 1) := by decide +kernel
theorem dX12_reckonAll_199 : decode cX12_reckonAll 199 = .ok (.getfield 13, 3) := by decide +kernel
theorem dX12_reckonAll_202 : decode cX12_reckonAll 202 = .ok (.bipush 13, 2) := by decide +kernel
theorem dX12_reckonAll_204 : decode cX12_reckonAll 204 = .ok (.iload 6, 2) := by decide +kernel
theorem dX12_reckonAll_206 : decode cX12_reckonAll 206 = .ok (.iadd, 1) := by decide +kernel
theorem dX12_reckonAll_207 : decode cX12_reckonAll 207 = .ok (.iaload, 1) := by decide +kernel
theorem dX12_reckonAll_208 : decode cX12_reckonAll 208 = .ok (.i2l, 1) := by decide +kernel
theorem dX12_reckonAll_209 : decode cX12_reckonAll 209 = .ok (.goto 14, 3) := by decide +kernel
theorem dX12_reckonAll_212 : decode cX12_reckonAll 212 = .ok (.aload_n 0, 1) := by decide +kernel
theorem dX12_reckonAll_213 : decode cX12_reckonAll 213 = .ok (.getfield 13, 3) := by decide +kernel
theorem dX12_reckonAll_216 : decode cX12_reckonAll 216 = .ok (.bipush 19, 2) := by decide +kernel
theorem dX12_reckonAll_218 : decode cX12_reckonAll 218 = .ok (.iload 6, 2) := by decide +kernel
theorem dX12_reckonAll_220 : decode cX12_reckonAll 220 = .ok (.iadd, 1) := by decide +kernel
theorem dX12_reckonAll_221 : decode cX12_reckonAll 221 = .ok (.iaload, 1) := by decide +kernel
theorem dX12_reckonAll_222 : decode cX12_reckonAll 222 = .ok (.i2l, 1) := by decide +kernel
theorem dX12_reckonAll_223 : decode cX12_reckonAll 223 = .ok (.lastore, 1) := by decide +kernel
theorem dX12_reckonAll_224 : decode cX12_reckonAll 224 = .ok (.iinc 3 1, 3) := by decide +kernel
theorem dX12_reckonAll_227 : decode cX12_reckonAll 227 = .ok (.goto 142, 3) := by decide +kernel
theorem dX12_reckonAll_230 : decode cX12_reckonAll 230 = .ok (.iload 5, 2) := by decide +kernel
theorem dX12_reckonAll_232 : decode cX12_reckonAll 232 = .ok (.bipush 28, 2) := by decide +kernel
theorem dX12_reckonAll_234 : decode cX12_reckonAll 234 = .ok (.if_icmp .ge 73, 3) := by decide +kernel
theorem dX12_reckonAll_237 : decode cX12_reckonAll 237 = .ok (.iinc 3 (-1), 3) := by decide +kernel
theorem dX12_reckonAll_240 : decode cX12_reckonAll 240 = .ok (.aload_n 0, 1) := by decide +kernel
theorem dX12_reckonAll_241 : decode cX12_reckonAll 241 = .ok (.getfield 107, 3) := by decide +kernel
theorem dX12_reckonAll_244 : decode cX12_reckonAll 244 = .ok (.iload_n 3, 1) := by decide +kernel
theorem dX12_reckonAll_245 : decode cX12_reckonAll 245 = .ok (.iconst 1, 1) := by decide +kernel
theorem dX12_reckonAll_246 : decode cX12_reckonAll 246 = .ok (.isub, 1) := by decide +kernel
theorem dX12_reckonAll_247 : decode cX12_reckonAll 247 = .ok (.aload_n 0, 1) := by decide +kernel
theorem dX12_reckonAll_248 : decode cX12_reckonAll 248 = .ok (.iload 5, 2) := by decide +kernel
theorem dX12_reckonAll_250 : decode cX12_reckonAll 250 = .ok (.aload_n 0, 1) := by decide +kernel
theorem dX12_reckonAll_251 : decode cX12_reckonAll 251 = .ok (.getfield 107, 3) := by decide +kernel
theorem dX12_reckonAll_254 : decode cX12_reckonAll 254 = .ok (.iload_n 3, 1) := by decide +kernel
theorem dX12_reckonAll_255 : decode cX12_reckonAll 255 = .ok (.iconst 1, 1) := by decide +kernel
theorem dX12_reckonAll_256 : decode cX12_reckonAll 256 = .ok (.isub, 1) := by decide +kernel
theorem dX12_reckonAll_257 : decode cX12_reckonAll 257 = .ok (.laload, 1) := by decide +kernel
theorem dX12_reckonAll_258 : decode cX12_reckonAll 258 = .ok (.aload_n 0, 1) := by decide +kernel
theorem dX12_reckonAll_259 : decode cX12_reckonAll 259 = .ok (.getfield 107, 3) := by decide +kernel
theorem dX12_reckonAll_262 : decode cX12_reckonAll 262 = .ok (.iload_n 3, 1) := by decide +kernel
theorem dX12_reckonAll_263 : decode cX12_reckonAll 263 = .ok (.laload, 1) := by decide +kernel
theorem dX12_reckonAll_264 : decode cX12_reckonAll 264 = .ok (.invokevirtual 373, 3) := by decide +kernel
theorem dX12_reckonAll_267 : decode cX12_reckonAll 267 = .ok (.lastore, 1) := by decide +kernel
theorem dX12_reckonAll_268 : decode cX12_reckonAll 268 = .ok (.aload_n 0, 1) := by decide +kernel
theorem dX12_reckonAll_269 : decode cX12_reckonAll 269 = .ok (.aload_n 0, 1) := by decide +kernel
theorem dX12_reckonAll_270 : decode cX12_reckonAll 270 = .ok (.getfield 367, 3) := by decide +kernel
theorem dX12_reckonAll_273 : decode cX12_reckonAll 273 = .ok (.ifCond .ne 23, 3) := by decide +kernel
theorem dX12_reckonAll_276 : decode cX12_reckonAll 276 = .ok (.aload_n 0, 1) := by decide +kernel
theorem dX12_reckonAll_277 : decode cX12_reckonAll 277 = .ok (.getfield 107, 3) := by decide +kernel
theorem dX12_reckonAll_280 : decode cX12_reckonAll 280 = .ok (.iload_n 3, 1) := by decide +kernel
theorem dX12_reckonAll_281 : decode cX12_reckonAll 281 = .ok (.iconst 1, 1) := by decide +kernel
theorem dX12_reckonAll_282 : decode cX12_reckonAll 282 = .ok (.isub, 1) := by decide +kernel
theorem dX12_reckonAll_283 : decode cX12_reckonAll 283 = .ok (.laload, 1) := by decide +kernel
theorem dX12_reckonAll_284 : decode cX12_reckonAll 284 = .ok (.ldc2_w 377, 3) := by decide +kernel
theorem dX12_reckonAll_287 : decode cX12_reckonAll 287 = .ok (.ldc2_w 379, 3) := by decide +kernel
theorem dX12_reckonAll_290 : decode cX12_reckonAll 290 = .ok (.invokestatic 162, 3) := by decide +kernel
theorem dX12_reckonAll_293 : decode cX12_reckonAll 293 = .ok (.ifCond .ne 7, 3) := by decide +kernel
theorem dX12_reckonAll_296 : decode cX12_reckonAll 296 = .ok (.iconst 1, 1) := by decide +kernel
theorem dX12_reckonAll_297 : decode cX12_reckonAll 297 = .ok (.goto 4, 3) := by decide +kernel
theorem dX12_reckonAll_300 : decode cX12_reckonAll 300 = .ok (.iconst 0, 1) := by decide +kernel
theorem dX12_reckonAll_301 : decode cX12_reckonAll 301 = .ok (.putfield 367, 3) := by decide +kernel
theorem dX12_reckonAll_304 : decode cX12_reckonAll 304 = .ok (.goto 65, 3) := by decide +kernel
theorem dX12_reckonAll_307 : decode cX12_reckonAll 307 = .ok (.iload 5, 2) := by decide +kernel
theorem dX12_reckonAll_309 : decode cX12_reckonAll 309 = .ok (.bipush 28, 2) := by decide +kernel
theorem dX12_reckonAll_311 : decode cX12_reckonAll 311 = .ok (.if_icmp .ne 24, 3) := by decide +kernel
theorem dX12_reckonAll_314 : decode cX12_reckonAll 314 = .ok (.aload_n 0, 1) := by decide +kernel
theorem dX12_reckonAll_315 : decode cX12_reckonAll 315 = .ok (.getfield 107, 3) := by decide +kernel
theorem dX12_reckonAll_318 : decode cX12_reckonAll 318 = .ok (.iload_n 3, 1) := by decide +kernel
theorem dX12_reckonAll_319 : decode cX12_reckonAll 319 = .ok (.iconst 1, 1) := by decide +kernel
theorem dX12_reckonAll_320 : decode cX12_reckonAll 320 = .ok (.isub, 1) := by decide +kernel
theorem dX12_reckonAll_321 : decode cX12_reckonAll 321 = .ok (.lconst 1, 1) := by decide +kernel
theorem dX12_reckonAll_322 : decode cX12_reckonAll 322 = .ok (.aload_n 0, 1) := by decide +kernel
theorem dX12_reckonAll_323 : decode cX12_reckonAll 323 = .ok (.getfield 107, 3) := by decide +kernel
theorem dX12_reckonAll_326 : decode cX12_reckonAll 326 = .ok (.iload_n 3, 1) := by decide +kernel
theorem dX12_reckonAll_327 : decode cX12_reckonAll 327 = .ok (.iconst 1, 1) := by decide +kernel
theorem dX12_reckonAll_328 : decode cX12_reckonAll 328 = .ok (.isub, 1) := by decide +kernel
theorem dX12_reckonAll_329 : decode cX12_reckonAll 329 = .ok (.laload, 1) := by decide +kernel
theorem dX12_reckonAll_330 : decode cX12_reckonAll 330 = .ok (.lsub, 1) := by decide +kernel
theorem dX12_reckonAll_331 : decode cX12_reckonAll 331 = .ok (.lastore, 1) := by decide +kernel
theorem dX12_reckonAll_332 : decode cX12_reckonAll 332 = .ok (.goto 37, 3) := by decide +kernel
theorem dX12_reckonAll_335 : decode cX12_reckonAll 335 = .ok (.aload_n 0, 1) := by decide +kernel
theorem dX12_reckonAll_336 : decode cX12_reckonAll 336 = .ok (.getfield 107, 3) := by decide +kernel
theorem dX12_reckonAll_339 : decode cX12_reckonAll 339 = .ok (.iload_n 3, 1) := by decide +kernel
theorem dX12_reckonAll_340 : decode cX12_reckonAll 340 = .ok (.iconst 1, 1) := by decide +kernel
theorem dX12_reckonAll_341 : decode cX12_reckonAll 341 = .ok (.isub, 1) := by decide +kernel
theorem dX12_reckonAll_342 : decode cX12_reckonAll 342 = .ok (.laload, 1) := by decide +kernel
theorem dX12_reckonAll_343 : decode cX12_reckonAll 343 = .ok (.iload 5, 2) := by decide +kernel
theorem dX12_reckonAll_345 : decode cX12_reckonAll 345 = .ok (.bipush 29, 2) := by decide +kernel
theorem dX12_reckonAll_347 : decode cX12_reckonAll 347 = .ok (.if_icmp .ne 7, 3) := by decide +kernel
theorem dX12_reckonAll_350 : decode cX12_reckonAll 350 = .ok (.lconst 0, 1) := by decide +kernel
theorem dX12_reckonAll_351 : decode cX12_reckonAll 351 = .ok (.goto 4, 3) := by decide +kernel
theorem dX12_reckonAll_354 : decode cX12_reckonAll 354 = .ok (.lconst 1, 1) := by decide +kernel
theorem dX12_reckonAll_355 : decode cX12_reckonAll 355 = .ok (.lcmp, 1) := by decide +kernel
theorem dX12_reckonAll_356 : decode cX12_reckonAll 356 = .ok (.ifCond .ne 10, 3) := by decide +kernel
theorem dX12_reckonAll_359 : decode cX12_reckonAll 359 = .ok (.iload 6, 2) := by decide +kernel
theorem dX12_reckonAll_361 : decode cX12_reckonAll 361 = .ok (.istore 4, 2) := by decide +kernel
theorem dX12_reckonAll_363 : decode cX12_reckonAll 363 = .ok (.goto 6, 3) := by decide +kernel
theorem dX12_reckonAll_366 : decode cX12_reckonAll 366 = .ok (.iinc 3 (-1), 3) := by decide +kernel
theorem dX12_reckonAll_369 : decode cX12_reckonAll 369 = .ok (.goto (-359), 3) := by decide +kernel
theorem dX12_reckonAll_372 : decode cX12_reckonAll 372 = .ok (.aload_n 0, 1) := by decide +kernel
theorem dX12_reckonAll_373 : decode cX12_reckonAll 373 = .ok (.iload_n 3, 1) := by decide +kernel
theorem dX12_reckonAll_374 : decode cX12_reckonAll 374 = .ok (.ifCond .le 12, 3) := by decide +kernel
theorem dX12_reckonAll_377 : decode cX12_reckonAll 377 = .ok (.aload_n 0, 1) := by decide +kernel
theorem dX12_reckonAll_378 : decode cX12_reckonAll 378 = .ok (.getfield 107, 3) := by decide +kernel
theorem dX12_reckonAll_381 : decode cX12_reckonAll 381 = .ok (.iconst 0, 1) := by decide +kernel
theorem dX12_reckonAll_382 : decode cX12_reckonAll 382 = .ok (.laload, 1) := by decide +kernel
theorem dX12_reckonAll_383 : decode cX12_reckonAll 383 = .ok (.goto 4, 3) := by decide +kernel
theorem dX12_reckonAll_386 : decode cX12_reckonAll 386 = .ok (.lconst 0, 1) := by decide +kernel
theorem dX12_reckonAll_387 : decode cX12_reckonAll 387 = .ok (.putfield 381, 3) := by decide +kernel
theorem dX12_reckonAll_390 : decode cX12_reckonAll 390 = .ok (.return_, 1) := by decide +kernel
theorem dX12_isSo_0 : decode cX12_isSo 0 = .ok (.aload_n 0, 1) := by decide +kernel
theorem dX12_isSo_1 : decode cX12_isSo 1 = .ok (.getfield 13, 3) := by decide +kernel
theorem dX12_isSo_4 : decode cX12_isSo 4 = .ok (.iload_n 1, 1) := by decide +kernel
theorem dX12_isSo_5 : decode cX12_isSo 5 = .ok (.iconst 5, 1) := by decide +kernel
theorem dX12_isSo_6 : decode cX12_isSo 6 = .ok (.iadd, 1) := by decide +kernel
theorem dX12_isSo_7 : decode cX12_isSo 7 = .ok (.iaload, 1) := by decide +kernel
theorem dX12_isSo_8 : decode cX12_isSo 8 = .ok (.aload_n 0, 1) := by decide +kernel
theorem dX12_isSo_9 : decode cX12_isSo 9 = .ok (.getfield 13, 3) := by decide +kernel
theorem dX12_isSo_12 : decode cX12_isSo 12 = .ok (.iload_n 1, 1) := by decide +kernel
theorem dX12_isSo_13 : decode cX12_isSo 13 = .ok (.bipush 6, 2) := by decide +kernel
theorem dX12_isSo_15 : decode cX12_isSo 15 = .ok (.iadd, 1) := by decide +kernel
theorem dX12_isSo_16 : decode cX12_isSo 16 = .ok (.iaload, 1) := by decide +kernel
theorem dX12_isSo_17 : decode cX12_isSo 17 = .ok (.if_icmp .ge 42, 3) := by decide +kernel
theorem dX12_isSo_20 : decode cX12_isSo 20 = .ok (.aload_n 0, 1) := by decide +kernel
theorem dX12_isSo_21 : decode cX12_isSo 21 = .ok (.aload_n 0, 1) := by decide +kernel
theorem dX12_isSo_22 : decode cX12_isSo 22 = .ok (.getfield 13, 3) := by decide +kernel
theorem dX12_isSo_25 : decode cX12_isSo 25 = .ok (.iload_n 1, 1) := by decide +kernel
theorem dX12_isSo_26 : decode cX12_isSo 26 = .ok (.iconst 5, 1) := by decide +kernel
theorem dX12_isSo_27 : decode cX12_isSo 27 = .ok (.iadd, 1) := by decide +kernel
theorem dX12_isSo_28 : decode cX12_isSo 28 = .ok (.iaload, 1) := by decide +kernel
theorem dX12_isSo_29 : decode cX12_isSo 29 = .ok (.aload_n 0, 1) := by decide +kernel
theorem dX12_isSo_30 : decode cX12_isSo 30 = .ok (.getfield 13, 3) := by decide +kernel
theorem dX12_isSo_33 : decode cX12_isSo 33 = .ok (.iload_n 1, 1) := by decide +kernel
theorem dX12_isSo_34 : decode cX12_isSo 34 = .ok (.bipush 6, 2) := by decide +kernel
theorem dX12_isSo_36 : decode cX12_isSo 36 = .ok (.iadd, 1) := by decide +kernel
theorem dX12_isSo_37 : decode cX12_isSo 37 = .ok (.iaload, 1) := by decide +kernel
theorem dX12_isSo_38 : decode cX12_isSo 38 = .ok (.invokevirtual 384, 3) := by decide +kernel
theorem dX12_isSo_41 : decode cX12_isSo 41 = .ok (.aload_n 0, 1) := by decide +kernel
theorem dX12_isSo_42 : decode cX12_isSo 42 = .ok (.getfield 367, 3) := by decide +kernel
theorem dX12_isSo_45 : decode cX12_isSo 45 = .ok (.ifCond .ne 12, 3) := by decide +kernel
theorem dX12_isSo_48 : decode cX12_isSo 48 = .ok (.aload_n 0, 1) := by decide +kernel
theorem dX12_isSo_49 : decode cX12_isSo 49 = .ok (.getfield 381, 3) := by decide +kernel
theorem dX12_isSo_52 : decode cX12_isSo 52 = .ok (.lconst 0, 1) := by decide +kernel
theorem dX12_isSo_53 : decode cX12_isSo 53 = .ok (.lcmp, 1) := by decide +kernel
theorem dX12_isSo_54 : decode cX12_isSo 54 = .ok (.ifCond .ne 5, 3) := by decide +kernel
theorem dX12_isSo_57 : decode cX12_isSo 57 = .ok (.iconst 0, 1) := by decide +kernel
theorem dX12_isSo_58 : decode cX12_isSo 58 = .ok (.ireturn, 1) := by decide +kernel
theorem dX12_isSo_59 : decode cX12_isSo 59 = .ok (.aload_n 0, 1) := by decide +kernel
theorem dX12_isSo_60 : decode cX12_isSo 60 = .ok (.getfield 13, 3) := by decide +kernel
theorem dX12_isSo_63 : decode cX12_isSo 63 = .ok (.iload_n 1, 1) := by decide +kernel
theorem dX12_isSo_64 : decode cX12_isSo 64 = .ok (.iaload, 1) := by decide +kernel
theorem dX12_isSo_65 : decode cX12_isSo 65 = .ok (.iconst 3, 1) := by decide +kernel
theorem dX12_isSo_66 : decode cX12_isSo 66 = .ok (.if_icmp .eq 44, 3) := by decide +kernel
theorem dX12_isSo_69 : decode cX12_isSo 69 = .ok (.aload_n 0, 1) := by decide +kernel
theorem dX12_isSo_70 : decode cX12_isSo 70 = .ok (.aload_n 0, 1) := by decide +kernel
theorem dX12_isSo_71 : decode cX12_isSo 71 = .ok (.getfield 13, 3) := by decide +kernel
theorem dX12_isSo_74 : decode cX12_isSo 74 = .ok (.iload_n 1, 1) := by decide +kernel
theorem dX12_isSo_75 : decode cX12_isSo 75 = .ok (.iconst 3, 1) := by decide +kernel
theorem dX12_isSo_76 : decode cX12_isSo 76 = .ok (.iadd, 1) := by decide +kernel
theorem dX12_isSo_77 : decode cX12_isSo 77 = .ok (.iaload, 1) := by decide +kernel
theorem dX12_isSo_78 : decode cX12_isSo 78 = .ok (.aload_n 0, 1) := by decide +kernel
theorem dX12_isSo_79 : decode cX12_isSo 79 = .ok (.getfield 13, 3) := by decide +kernel
theorem dX12_isSo_82 : decode cX12_isSo 82 = .ok (.iload_n 1, 1) := by decide +kernel
theorem dX12_isSo_83 : decode cX12_isSo 83 = .ok (.iconst 4, 1) := by decide +kernel
theorem dX12_isSo_84 : decode cX12_isSo 84 = .ok (.iadd, 1) := by decide +kernel
theorem dX12_isSo_85 : decode cX12_isSo 85 = .ok (.iaload, 1) := by decide +kernel
theorem dX12_isSo_86 : decode cX12_isSo 86 = .ok (.invokevirtual 384, 3) := by decide +kernel
theorem dX12_isSo_89 : decode cX12_isSo 89 = .ok (.aload_n 0, 1) := by decide +kernel
theorem dX12_isSo_90 : decode cX12_isSo 90 = .ok (.aload_n 0, 1) := by decide +kernel
theorem dX12_isSo_91 : decode cX12_isSo 91 = .ok (.getfield 381, 3) := by decide +kernel
theorem dX12_isSo_94 : decode cX12_isSo 94 = .ok (.putfield 387, 3) := by decide +kernel
theorem dX12_isSo_97 : decode cX12_isSo 97 = .ok (.aload_n 0, 1) := by decide +kernel
theorem dX12_isSo_98 : decode cX12_isSo 98 = .ok (.getfield 367, 3) := by decide +kernel
theorem dX12_isSo_101 : decode cX12_isSo 101 = .ok (.ifCond .ne 7, 3) := by decide +kernel
theorem dX12_isSo_104 : decode cX12_isSo 104 = .ok (.iconst 1, 1) := by decide +kernel
theorem dX12_isSo_105 : decode cX12_isSo 105 = .ok (.goto 4, 3) := by decide +kernel
theorem dX12_isSo_108 : decode cX12_isSo 108 = .ok (.iconst 0, 1) := by decide +kernel
theorem dX12_isSo_109 : decode cX12_isSo 109 = .ok (.ireturn, 1) := by decide +kernel
theorem dX12_isSo_110 : decode cX12_isSo 110 = .ok (.iconst 1, 1) := by decide +kernel
theorem dX12_isSo_111 : decode cX12_isSo 111 = .ok (.ireturn, 1) := by decide +kernel
theorem dX12_tells_0 : decode cX12_tells 0 = .ok (.aload_n 0, 1) := by decide +kernel
theorem dX12_tells_1 : decode cX12_tells 1 = .ok (.getfield 13, 3) := by decide +kernel
theorem dX12_tells_4 : decode cX12_tells 4 = .ok (.iconst 5, 1) := by decide +kernel
theorem dX12_tells_5 : decode cX12_tells 5 = .ok (.iaload, 1) := by decide +kernel
theorem dX12_tells_6 : decode cX12_tells 6 = .ok (.iconst (-1), 1) := by decide +kernel
theorem dX12_tells_7 : decode cX12_tells 7 = .ok (.if_icmp .ne 6, 3) := by decide +kernel
theorem dX12_tells_10 : decode cX12_tells 10 = .ok (.lload 7, 2) := by decide +kernel
theorem dX12_tells_12 : decode cX12_tells 12 = .ok (.lreturn, 1) := by decide +kernel
theorem dX12_tells_13 : decode cX12_tells 13 = .ok (.aload_n 0, 1) := by decide +kernel
theorem dX12_tells_14 : decode cX12_tells 14 = .ok (.sipush 150, 3) := by decide +kernel
theorem dX12_tells_17 : decode cX12_tells 17 = .ok (.sipush 900, 3) := by decide +kernel
theorem dX12_tells_20 : decode cX12_tells 20 = .ok (.aload_n 0, 1) := by decide +kernel
theorem dX12_tells_21 : decode cX12_tells 21 = .ok (.getfield 13, 3) := by decide +kernel
theorem dX12_tells_24 : decode cX12_tells 24 = .ok (.iconst 5, 1) := by decide +kernel
theorem dX12_tells_25 : decode cX12_tells 25 = .ok (.iaload, 1) := by decide +kernel
theorem dX12_tells_26 : decode cX12_tells 26 = .ok (.imul, 1) := by decide +kernel
theorem dX12_tells_27 : decode cX12_tells 27 = .ok (.iadd, 1) := by decide +kernel
theorem dX12_tells_28 : decode cX12_tells 28 = .ok (.putfield 370, 3) := by decide +kernel
theorem dX12_tells_31 : decode cX12_tells 31 = .ok (.aload_n 0, 1) := by decide +kernel
theorem dX12_tells_32 : decode cX12_tells 32 = .ok (.getfield 101, 3) := by decide +kernel
theorem dX12_tells_35 : decode cX12_tells 35 = .ok (.iconst 1, 1) := by decide +kernel
theorem dX12_tells_36 : decode cX12_tells 36 = .ok (.iload_n 2, 1) := by decide +kernel
theorem dX12_tells_37 : decode cX12_tells 37 = .ok (.i2l, 1) := by decide +kernel
theorem dX12_tells_38 : decode cX12_tells 38 = .ok (.lastore, 1) := by decide +kernel
theorem dX12_tells_39 : decode cX12_tells 39 = .ok (.aload_n 0, 1) := by decide +kernel
theorem dX12_tells_40 : decode cX12_tells 40 = .ok (.getfield 101, 3) := by decide +kernel
theorem dX12_tells_43 : decode cX12_tells 43 = .ok (.iconst 2, 1) := by decide +kernel
theorem dX12_tells_44 : decode cX12_tells 44 = .ok (.aload_n 0, 1) := by decide +kernel
theorem dX12_tells_45 : decode cX12_tells 45 = .ok (.getfield 13, 3) := by decide +kernel
theorem dX12_tells_48 : decode cX12_tells 48 = .ok (.bipush 13, 2) := by decide +kernel
theorem dX12_tells_50 : decode cX12_tells 50 = .ok (.iload_n 2, 1) := by decide +kernel
theorem dX12_tells_51 : decode cX12_tells 51 = .ok (.iadd, 1) := by decide +kernel
theorem dX12_tells_52 : decode cX12_tells 52 = .ok (.iaload, 1) := by decide +kernel
theorem dX12_tells_53 : decode cX12_tells 53 = .ok (.i2l, 1) := by decide +kernel
theorem dX12_tells_54 : decode cX12_tells 54 = .ok (.lastore, 1) := by decide +kernel
theorem dX12_tells_55 : decode cX12_tells 55 = .ok (.aload_n 0, 1) := by decide +kernel
theorem dX12_tells_56 : decode cX12_tells 56 = .ok (.getfield 101, 3) := by decide +kernel
theorem dX12_tells_59 : decode cX12_tells 59 = .ok (.iconst 3, 1) := by decide +kernel
theorem dX12_tells_60 : decode cX12_tells 60 = .ok (.aload_n 0, 1) := by decide +kernel
theorem dX12_tells_61 : decode cX12_tells 61 = .ok (.getfield 13, 3) := by decide +kernel
theorem dX12_tells_64 : decode cX12_tells 64 = .ok (.bipush 31, 2) := by decide +kernel
theorem dX12_tells_66 : decode cX12_tells 66 = .ok (.iload_n 2, 1) := by decide +kernel
theorem dX12_tells_67 : decode cX12_tells 67 = .ok (.iadd, 1) := by decide +kernel
theorem dX12_tells_68 : decode cX12_tells 68 = .ok (.iaload, 1) := by decide +kernel
theorem dX12_tells_69 : decode cX12_tells 69 = .ok (.i2l, 1) := by decide +kernel
theorem dX12_tells_70 : decode cX12_tells 70 = .ok (.lastore, 1) := by decide +kernel
theorem dX12_tells_71 : decode cX12_tells 71 = .ok (.aload_n 0, 1) := by decide +kernel
theorem dX12_tells_72 : decode cX12_tells 72 = .ok (.getfield 101, 3) := by decide +kernel
theorem dX12_tells_75 : decode cX12_tells 75 = .ok (.iconst 4, 1) := by decide +kernel
theorem dX12_tells_76 : decode cX12_tells 76 = .ok (.aload_n 0, 1) := by decide +kernel
theorem dX12_tells_77 : decode cX12_tells 77 = .ok (.iload_n 2, 1) := by decide +kernel
theorem dX12_tells_78 : decode cX12_tells 78 = .ok (.invokevirtual 176, 3) := by decide +kernel
theorem dX12_tells_81 : decode cX12_tells 81 = .ok (.i2l, 1) := by decide +kernel
theorem dX12_tells_82 : decode cX12_tells 82 = .ok (.lastore, 1) := by decide +kernel
theorem dX12_tells_83 : decode cX12_tells 83 = .ok (.aload_n 0, 1) := by decide +kernel
theorem dX12_tells_84 : decode cX12_tells 84 = .ok (.getfield 101, 3) := by decide +kernel
theorem dX12_tells_87 : decode cX12_tells 87 = .ok (.iconst 5, 1) := by decide +kernel
theorem dX12_tells_88 : decode cX12_tells 88 = .ok (.iload_n 3, 1) := by decide +kernel
theorem dX12_tells_89 : decode cX12_tells 89 = .ok (.i2l, 1) := by decide +kernel
theorem dX12_tells_90 : decode cX12_tells 90 = .ok (.lastore, 1) := by decide +kernel
theorem dX12_tells_91 : decode cX12_tells 91 = .ok (.aload_n 0, 1) := by decide +kernel
theorem dX12_tells_92 : decode cX12_tells 92 = .ok (.getfield 101, 3) := by decide +kernel
theorem dX12_tells_95 : decode cX12_tells 95 = .ok (.bipush 6, 2) := by decide +kernel
theorem dX12_tells_97 : decode cX12_tells 97 = .ok (.iload 4, 2) := by decide +kernel
theorem dX12_tells_99 : decode cX12_tells 99 = .ok (.i2l, 1) := by decide +kernel
theorem dX12_tells_100 : decode cX12_tells 100 = .ok (.lastore, 1) := by decide +kernel
theorem dX12_tells_101 : decode cX12_tells 101 = .ok (.aload_n 0, 1) := by decide +kernel
theorem dX12_tells_102 : decode cX12_tells 102 = .ok (.getfield 101, 3) := by decide +kernel
theorem dX12_tells_105 : decode cX12_tells 105 = .ok (.bipush 7, 2) := by decide +kernel
theorem dX12_tells_107 : decode cX12_tells 107 = .ok (.iload 5, 2) := by decide +kernel
theorem dX12_tells_109 : decode cX12_tells 109 = .ok (.i2l, 1) := by decide +kernel
theorem dX12_tells_110 : decode cX12_tells 110 = .ok (.lastore, 1) := by decide +kernel
theorem dX12_tells_111 : decode cX12_tells 111 = .ok (.aload_n 0, 1) := by decide +kernel
theorem dX12_tells_112 : decode cX12_tells 112 = .ok (.getfield 101, 3) := by decide +kernel
theorem dX12_tells_115 : decode cX12_tells 115 = .ok (.bipush 8, 2) := by decide +kernel
theorem dX12_tells_117 : decode cX12_tells 117 = .ok (.iload 6, 2) := by decide +kernel
theorem dX12_tells_119 : decode cX12_tells 119 = .ok (.i2l, 1) := by decide +kernel
theorem dX12_tells_120 : decode cX12_tells 120 = .ok (.lastore, 1) := by decide +kernel
theorem dX12_tells_121 : decode cX12_tells 121 = .ok (.aload_n 0, 1) := by decide +kernel
theorem dX12_tells_122 : decode cX12_tells 122 = .ok (.getfield 101, 3) := by decide +kernel
theorem dX12_tells_125 : decode cX12_tells 125 = .ok (.bipush 9, 2) := by decide +kernel
theorem dX12_tells_127 : decode cX12_tells 127 = .ok (.aload_n 0, 1) := by decide +kernel
theorem dX12_tells_128 : decode cX12_tells 128 = .ok (.getfield 13, 3) := by decide +kernel
theorem dX12_tells_131 : decode cX12_tells 131 = .ok (.bipush 6, 2) := by decide +kernel
theorem dX12_tells_133 : decode cX12_tells 133 = .ok (.iaload, 1) := by decide +kernel
theorem dX12_tells_134 : decode cX12_tells 134 = .ok (.i2l, 1) := by decide +kernel
theorem dX12_tells_135 : decode cX12_tells 135 = .ok (.lastore, 1) := by decide +kernel
theorem dX12_tells_136 : decode cX12_tells 136 = .ok (.aload_n 0, 1) := by decide +kernel
theorem dX12_tells_137 : decode cX12_tells 137 = .ok (.getfield 101, 3) := by decide +kernel
theorem dX12_tells_140 : decode cX12_tells 140 = .ok (.bipush 10, 2) := by decide +kernel
theorem dX12_tells_142 : decode cX12_tells 142 = .ok (.aload_n 0, 1) := by decide +kernel
theorem dX12_tells_143 : decode cX12_tells 143 = .ok (.getfield 13, 3) := by decide +kernel
theorem dX12_tells_146 : decode cX12_tells 146 = .ok (.bipush 8, 2) := by decide +kernel
theorem dX12_tells_148 : decode cX12_tells 148 = .ok (.iaload, 1) := by decide +kernel
theorem dX12_tells_149 : decode cX12_tells 149 = .ok (.i2l, 1) := by decide +kernel
theorem dX12_tells_150 : decode cX12_tells 150 = .ok (.lastore, 1) := by decide +kernel
theorem dX12_tells_151 : decode cX12_tells 151 = .ok (.lload 7, 2) := by decide +kernel
theorem dX12_tells_153 : decode cX12_tells 153 = .ok (.lstore 9, 2) := by decide +kernel
theorem dX12_tells_155 : decode cX12_tells 155 = .ok (.iconst 0, 1) := by decide +kernel
theorem dX12_tells_156 : decode cX12_tells 156 = .ok (.istore 11, 2) := by decide +kernel
theorem dX12_tells_158 : decode cX12_tells 158 = .ok (.iload 11, 2) := by decide +kernel
theorem dX12_tells_160 : decode cX12_tells 160 = .ok (.aload_n 0, 1) := by decide +kernel
theorem dX12_tells_161 : decode cX12_tells 161 = .ok (.getfield 13, 3) := by decide +kernel
theorem dX12_tells_164 : decode cX12_tells 164 = .ok (.aload_n 0, 1) := by decide +kernel
theorem dX12_tells_165 : decode cX12_tells 165 = .ok (.getfield 370, 3) := by decide +kernel
theorem dX12_tells_168 : decode cX12_tells 168 = .ok (.iconst 1, 1) := by decide +kernel
theorem dX12_tells_169 : decode cX12_tells 169 = .ok (.iadd, 1) := by decide +kernel
theorem dX12_tells_170 : decode cX12_tells 170 = .ok (.iaload, 1) := by decide +kernel
theorem dX12_tells_171 : decode cX12_tells 171 = .ok (.if_icmp .ge 58, 3) := by decide +kernel
theorem dX12_tells_174 : decode cX12_tells 174 = .ok (.aload_n 0, 1) := by decide +kernel
theorem dX12_tells_175 : decode cX12_tells 175 = .ok (.getfield 370, 3) := by decide +kernel
theorem dX12_tells_178 : decode cX12_tells 178 = .ok (.iconst 2, 1) := by decide +kernel
theorem dX12_tells_179 : decode cX12_tells 179 = .ok (.iadd, 1) := by decide +kernel
theorem dX12_tells_180 : decode cX12_tells 180 = .ok (.bipush 8, 2) := by decide +kernel
theorem dX12_tells_182 : decode cX12_tells 182 = .ok (.iload 11, 2) := by decide +kernel
theorem dX12_tells_184 : decode cX12_tells 184 = .ok (.imul, 1) := by decide +kernel
theorem dX12_tells_185 : decode cX12_tells 185 = .ok (.iadd, 1) := by decide +kernel
theorem dX12_tells_186 : decode cX12_tells 186 = .ok (.istore 12, 2) := by decide +kernel
theorem dX12_tells_188 : decode cX12_tells 188 = .ok (.aload_n 0, 1) := by decide +kernel
theorem dX12_tells_189 : decode cX12_tells 189 = .ok (.getfield 13, 3) := by decide +kernel
theorem dX12_tells_192 : decode cX12_tells 192 = .ok (.iload 12, 2) := by decide +kernel
theorem dX12_tells_194 : decode cX12_tells 194 = .ok (.iaload, 1) := by decide +kernel
theorem dX12_tells_195 : decode cX12_tells 195 = .ok (.iload_n 1, 1) := by decide +kernel
theorem dX12_tells_196 : decode cX12_tells 196 = .ok (.if_icmp .ne 27, 3) := by decide +kernel
theorem dX12_tells_199 : decode cX12_tells 199 = .ok (.aload_n 0, 1) := by decide +kernel
theorem dX12_tells_200 : decode cX12_tells 200 = .ok (.iload 12, 2) := by decide +kernel
theorem dX12_tells_202 : decode cX12_tells 202 = .ok (.invokevirtual 390, 3) := by decide +kernel
theorem dX12_tells_205 : decode cX12_tells 205 = .ok (.ifCond .eq 18, 3) := by decide +kernel
theorem dX12_tells_208 : decode cX12_tells 208 = .ok (.iload_n 1, 1) := by decide +kernel
theorem dX12_tells_209 : decode cX12_tells 209 = .ok (.iconst 3, 1) := by decide +kernel
theorem dX12_tells_210 : decode cX12_tells 210 = .ok (.if_icmp .ne 7, 3) := by decide +kernel
theorem dX12_tells_213 : decode cX12_tells 213 = .ok (.lconst 1, 1) := by decide +kernel
theorem dX12_tells_214 : decode cX12_tells 214 = .ok (.goto 7, 3) := by decide +kernel
theorem dX12_tells_217 : decode cX12_tells 217 = .ok (.aload_n 0, 1) := by decide +kernel
theorem dX12_tells_218 : decode cX12_tells 218 = .ok (.getfield 387, 3) := by decide +kernel
theorem dX12_tells_221 : decode cX12_tells 221 = .ok (.lstore 9, 2) := by decide +kernel
theorem dX12_tells_223 : decode cX12_tells 223 = .ok (.iinc 11 1, 3) := by decide +kernel
theorem dX12_tells_226 : decode cX12_tells 226 = .ok (.goto (-68), 3) := by decide +kernel
theorem dX12_tells_229 : decode cX12_tells 229 = .ok (.lload 9, 2) := by decide +kernel
theorem dX12_tells_231 : decode cX12_tells 231 = .ok (.lreturn, 1) := by decide +kernel
theorem dX12_paysOf_0 : decode cX12_paysOf 0 = .ok (.aload_n 0, 1) := by decide +kernel
theorem dX12_paysOf_1 : decode cX12_paysOf 1 = .ok (.iconst 1, 1) := by decide +kernel
theorem dX12_paysOf_2 : decode cX12_paysOf 2 = .ok (.iload_n 1, 1) := by decide +kernel
theorem dX12_paysOf_3 : decode cX12_paysOf 3 = .ok (.iload_n 2, 1) := by decide +kernel
theorem dX12_paysOf_4 : decode cX12_paysOf 4 = .ok (.iconst (-1), 1) := by decide +kernel
theorem dX12_paysOf_5 : decode cX12_paysOf 5 = .ok (.iconst (-1), 1) := by decide +kernel
theorem dX12_paysOf_6 : decode cX12_paysOf 6 = .ok (.iconst (-1), 1) := by decide +kernel
theorem dX12_paysOf_7 : decode cX12_paysOf 7 = .ok (.aload_n 0, 1) := by decide +kernel
theorem dX12_paysOf_8 : decode cX12_paysOf 8 = .ok (.getfield 13, 3) := by decide +kernel
theorem dX12_paysOf_11 : decode cX12_paysOf 11 = .ok (.bipush 49, 2) := by decide +kernel
theorem dX12_paysOf_13 : decode cX12_paysOf 13 = .ok (.iload_n 2, 1) := by decide +kernel
theorem dX12_paysOf_14 : decode cX12_paysOf 14 = .ok (.iadd, 1) := by decide +kernel
theorem dX12_paysOf_15 : decode cX12_paysOf 15 = .ok (.iaload, 1) := by decide +kernel
theorem dX12_paysOf_16 : decode cX12_paysOf 16 = .ok (.i2l, 1) := by decide +kernel
theorem dX12_paysOf_17 : decode cX12_paysOf 17 = .ok (.invokevirtual 393, 3) := by decide +kernel
theorem dX12_paysOf_20 : decode cX12_paysOf 20 = .ok (.iconst 0, 1) := by decide +kernel
theorem dX12_paysOf_21 : decode cX12_paysOf 21 = .ok (.bipush 99, 2) := by decide +kernel
theorem dX12_paysOf_23 : decode cX12_paysOf 23 = .ok (.invokestatic 397, 3) := by decide +kernel
theorem dX12_paysOf_26 : decode cX12_paysOf 26 = .ok (.ireturn, 1) := by decide +kernel
theorem dX12_isBarred_0 : decode cX12_isBarred 0 = .ok (.aload_n 0, 1) := by decide +kernel
theorem dX12_isBarred_1 : decode cX12_isBarred 1 = .ok (.iconst 3, 1) := by decide +kernel
theorem dX12_isBarred_2 : decode cX12_isBarred 2 = .ok (.iload_n 1, 1) := by decide +kernel
theorem dX12_isBarred_3 : decode cX12_isBarred 3 = .ok (.iload_n 2, 1) := by decide +kernel
theorem dX12_isBarred_4 : decode cX12_isBarred 4 = .ok (.iconst (-1), 1) := by decide +kernel
theorem dX12_isBarred_5 : decode cX12_isBarred 5 = .ok (.iconst (-1), 1) := by decide +kernel
theorem dX12_isBarred_6 : decode cX12_isBarred 6 = .ok (.iconst (-1), 1) := by decide +kernel
theorem dX12_isBarred_7 : decode cX12_isBarred 7 = .ok (.lconst 0, 1) := by decide +kernel
theorem dX12_isBarred_8 : decode cX12_isBarred 8 = .ok (.invokevirtual 393, 3) := by decide +kernel
theorem dX12_isBarred_11 : decode cX12_isBarred 11 = .ok (.lconst 1, 1) := by decide +kernel
theorem dX12_isBarred_12 : decode cX12_isBarred 12 = .ok (.lcmp, 1) := by decide +kernel
theorem dX12_isBarred_13 : decode cX12_isBarred 13 = .ok (.ifCond .ne 7, 3) := by decide +kernel
theorem dX12_isBarred_16 : decode cX12_isBarred 16 = .ok (.iconst 1, 1) := by decide +kernel
theorem dX12_isBarred_17 : decode cX12_isBarred 17 = .ok (.goto 4, 3) := by decide +kernel
theorem dX12_isBarred_20 : decode cX12_isBarred 20 = .ok (.iconst 0, 1) := by decide +kernel
theorem dX12_isBarred_21 : decode cX12_isBarred 21 = .ok (.ireturn, 1) := by decide +kernel
theorem dX12_turnsAt_0 : decode cX12_turnsAt 0 = .ok (.aload_n 0, 1) := by decide +kernel
theorem dX12_turnsAt_1 : decode cX12_turnsAt 1 = .ok (.iconst 0, 1) := by decide +kernel
theorem dX12_turnsAt_2 : decode cX12_turnsAt 2 = .ok (.iload_n 1, 1) := by decide +kernel
theorem dX12_turnsAt_3 : decode cX12_turnsAt 3 = .ok (.iconst (-1), 1) := by decide +kernel
theorem dX12_turnsAt_4 : decode cX12_turnsAt 4 = .ok (.iload_n 2, 1) := by decide +kernel
theorem dX12_turnsAt_5 : decode cX12_turnsAt 5 = .ok (.aload_n 0, 1) := by decide +kernel
theorem dX12_turnsAt_6 : decode cX12_turnsAt 6 = .ok (.iload_n 1, 1) := by decide +kernel
theorem dX12_turnsAt_7 : decode cX12_turnsAt 7 = .ok (.iload_n 3, 1) := by decide +kernel
theorem dX12_turnsAt_8 : decode cX12_turnsAt 8 = .ok (.invokevirtual 401, 3) := by decide +kernel
theorem dX12_turnsAt_11 : decode cX12_turnsAt 11 = .ok (.iconst (-1), 1) := by decide +kernel
theorem dX12_turnsAt_12 : decode cX12_turnsAt 12 = .ok (.ldc2_w 404, 3) := by decide +kernel
theorem dX12_turnsAt_15 : decode cX12_turnsAt 15 = .ok (.invokevirtual 393, 3) := by decide +kernel
theorem dX12_turnsAt_18 : decode cX12_turnsAt 18 = .ok (.iconst 0, 1) := by decide +kernel
theorem dX12_turnsAt_19 : decode cX12_turnsAt 19 = .ok (.bipush 100, 2) := by decide +kernel
theorem dX12_turnsAt_21 : decode cX12_turnsAt 21 = .ok (.invokestatic 397, 3) := by decide +kernel
theorem dX12_turnsAt_24 : decode cX12_turnsAt 24 = .ok (.ireturn, 1) := by decide +kernel
theorem dX12_isTurned_0 : decode cX12_isTurned 0 = .ok (.aload_n 0, 1) := by decide +kernel
theorem dX12_isTurned_1 : decode cX12_isTurned 1 = .ok (.iload_n 1, 1) := by decide +kernel
theorem dX12_isTurned_2 : decode cX12_isTurned 2 = .ok (.iload_n 3, 1) := by decide +kernel
theorem dX12_isTurned_3 : decode cX12_isTurned 3 = .ok (.invokevirtual 401, 3) := by decide +kernel
theorem dX12_isTurned_6 : decode cX12_isTurned 6 = .ok (.aload_n 0, 1) := by decide +kernel
theorem dX12_isTurned_7 : decode cX12_isTurned 7 = .ok (.iload_n 1, 1) := by decide +kernel
theorem dX12_isTurned_8 : decode cX12_isTurned 8 = .ok (.iload_n 2, 1) := by decide +kernel
theorem dX12_isTurned_9 : decode cX12_isTurned 9 = .ok (.iload_n 3, 1) := by decide +kernel
theorem dX12_isTurned_10 : decode cX12_isTurned 10 = .ok (.invokevirtual 406, 3) := by decide +kernel
theorem dX12_isTurned_13 : decode cX12_isTurned 13 = .ok (.if_icmp .lt 7, 3) := by decide +kernel
theorem dX12_isTurned_16 : decode cX12_isTurned 16 = .ok (.iconst 1, 1) := by decide +kernel
theorem dX12_isTurned_17 : decode cX12_isTurned 17 = .ok (.goto 4, 3) := by decide +kernel
theorem dX12_isTurned_20 : decode cX12_isTurned 20 = .ok (.iconst 0, 1) := by decide +kernel
theorem dX12_isTurned_21 : decode cX12_isTurned 21 = .ok (.ireturn, 1) := by decide +kernel
theorem dX12_asks_0 : decode cX12_asks 0 = .ok (.aload_n 0, 1) := by decide +kernel
theorem dX12_asks_1 : decode cX12_asks 1 = .ok (.iconst 0, 1) := by decide +kernel
theorem dX12_asks_2 : decode cX12_asks 2 = .ok (.putfield 142, 3) := by decide +kernel
theorem dX12_asks_5 : decode cX12_asks 5 = .ok (.aload_n 0, 1) := by decide +kernel
theorem dX12_asks_6 : decode cX12_asks 6 = .ok (.iload_n 1, 1) := by decide +kernel
theorem dX12_asks_7 : decode cX12_asks 7 = .ok (.invokevirtual 195, 3) := by decide +kernel
theorem dX12_asks_10 : decode cX12_asks 10 = .ok (.ifCond .eq 42, 3) := by decide +kernel
theorem dX12_asks_13 : decode cX12_asks 13 = .ok (.iload_n 3, 1) := by decide +kernel
theorem dX12_asks_14 : decode cX12_asks 14 = .ok (.i2l, 1) := by decide +kernel
theorem dX12_asks_15 : decode cX12_asks 15 = .ok (.lconst 0, 1) := by decide +kernel
theorem dX12_asks_16 : decode cX12_asks 16 = .ok (.ldc2_w 189, 3) := by decide +kernel
theorem dX12_asks_19 : decode cX12_asks 19 = .ok (.invokestatic 162, 3) := by decide +kernel
theorem dX12_asks_22 : decode cX12_asks 22 = .ok (.ifCond .eq 30, 3) := by decide +kernel
theorem dX12_asks_25 : decode cX12_asks 25 = .ok (.iload_n 3, 1) := by decide +kernel
theorem dX12_asks_26 : decode cX12_asks 26 = .ok (.iconst 2, 1) := by decide +kernel
theorem dX12_asks_27 : decode cX12_asks 27 = .ok (.if_icmp .ge 13, 3) := by decide +kernel
theorem dX12_asks_30 : decode cX12_asks 30 = .ok (.iload_n 2, 1) := by decide +kernel
theorem dX12_asks_31 : decode cX12_asks 31 = .ok (.invokestatic 199, 3) := by decide +kernel
theorem dX12_asks_34 : decode cX12_asks 34 = .ok (.ifCond .ne 20, 3) := by decide +kernel
theorem dX12_asks_37 : decode cX12_asks 37 = .ok (.goto 15, 3) := by decide +kernel
theorem dX12_asks_40 : decode cX12_asks 40 = .ok (.iload_n 2, 1) := by decide +kernel
theorem dX12_asks_41 : decode cX12_asks 41 = .ok (.i2l, 1) := by decide +kernel
theorem dX12_asks_42 : decode cX12_asks 42 = .ok (.lconst 1, 1) := by decide +kernel
theorem dX12_asks_43 : decode cX12_asks 43 = .ok (.ldc2_w 187, 3) := by decide +kernel
theorem dX12_asks_46 : decode cX12_asks 46 = .ok (.invokestatic 162, 3) := by decide +kernel
theorem dX12_asks_49 : decode cX12_asks 49 = .ok (.ifCond .ne 5, 3) := by decide +kernel
theorem dX12_asks_52 : decode cX12_asks 52 = .ok (.iconst (-1), 1) := by decide +kernel
theorem dX12_asks_53 : decode cX12_asks 53 = .ok (.ireturn, 1) := by decide +kernel
theorem dX12_asks_54 : decode cX12_asks 54 = .ok (.iload_n 3, 1) := by decide +kernel
theorem dX12_asks_55 : decode cX12_asks 55 = .ok (.tableswitch 63 0 2 #[25, 32, 47], 25) := by decide +kernel
theorem dX12_asks_80 : decode cX12_asks 80 = .ok (.aload_n 0, 1) := by decide +kernel
theorem dX12_asks_81 : decode cX12_asks 81 = .ok (.iload_n 1, 1) := by decide +kernel
theorem dX12_asks_82 : decode cX12_asks 82 = .ok (.iload_n 2, 1) := by decide +kernel
theorem dX12_asks_83 : decode cX12_asks 83 = .ok (.invokevirtual 410, 3) := by decide +kernel
theorem dX12_asks_86 : decode cX12_asks 86 = .ok (.ireturn, 1) := by decide +kernel
theorem dX12_asks_87 : decode cX12_asks 87 = .ok (.aload_n 0, 1) := by decide +kernel
theorem dX12_asks_88 : decode cX12_asks 88 = .ok (.iload_n 1, 1) := by decide +kernel
theorem dX12_asks_89 : decode cX12_asks 89 = .ok (.iload_n 2, 1) := by decide +kernel
theorem dX12_asks_90 : decode cX12_asks 90 = .ok (.invokevirtual 413, 3) := by decide +kernel
theorem dX12_asks_93 : decode cX12_asks 93 = .ok (.ifCond .eq 7, 3) := by decide +kernel
theorem dX12_asks_96 : decode cX12_asks 96 = .ok (.iconst 1, 1) := by decide +kernel
theorem dX12_asks_97 : decode cX12_asks 97 = .ok (.goto 4, 3) := by decide +kernel
theorem dX12_asks_100 : decode cX12_asks 100 = .ok (.iconst 0, 1) := by decide +kernel
theorem dX12_asks_101 : decode cX12_asks 101 = .ok (.ireturn, 1) := by decide +kernel
theorem dX12_asks_102 : decode cX12_asks 102 = .ok (.aload_n 0, 1) := by decide +kernel
theorem dX12_asks_103 : decode cX12_asks 103 = .ok (.iload_n 1, 1) := by decide +kernel
theorem dX12_asks_104 : decode cX12_asks 104 = .ok (.iload_n 2, 1) := by decide +kernel
theorem dX12_asks_105 : decode cX12_asks 105 = .ok (.aload_n 0, 1) := by decide +kernel
theorem dX12_asks_106 : decode cX12_asks 106 = .ok (.getfield 13, 3) := by decide +kernel
theorem dX12_asks_109 : decode cX12_asks 109 = .ok (.bipush 19, 2) := by decide +kernel
theorem dX12_asks_111 : decode cX12_asks 111 = .ok (.iload_n 1, 1) := by decide +kernel
theorem dX12_asks_112 : decode cX12_asks 112 = .ok (.iadd, 1) := by decide +kernel
theorem dX12_asks_113 : decode cX12_asks 113 = .ok (.iaload, 1) := by decide +kernel
theorem dX12_asks_114 : decode cX12_asks 114 = .ok (.invokevirtual 406, 3) := by decide +kernel
theorem dX12_asks_117 : decode cX12_asks 117 = .ok (.ireturn, 1) := by decide +kernel
theorem dX12_asks_118 : decode cX12_asks 118 = .ok (.aload_n 0, 1) := by decide +kernel
theorem dX12_asks_119 : decode cX12_asks 119 = .ok (.iload_n 1, 1) := by decide +kernel
theorem dX12_asks_120 : decode cX12_asks 120 = .ok (.iload_n 2, 1) := by decide +kernel
theorem dX12_asks_121 : decode cX12_asks 121 = .ok (.aload_n 0, 1) := by decide +kernel
theorem dX12_asks_122 : decode cX12_asks 122 = .ok (.getfield 13, 3) := by decide +kernel
theorem dX12_asks_125 : decode cX12_asks 125 = .ok (.bipush 19, 2) := by decide +kernel
theorem dX12_asks_127 : decode cX12_asks 127 = .ok (.iload_n 1, 1) := by decide +kernel
theorem dX12_asks_128 : decode cX12_asks 128 = .ok (.iadd, 1) := by decide +kernel
theorem dX12_asks_129 : decode cX12_asks 129 = .ok (.iaload, 1) := by decide +kernel
theorem dX12_asks_130 : decode cX12_asks 130 = .ok (.invokevirtual 416, 3) := by decide +kernel
theorem dX12_asks_133 : decode cX12_asks 133 = .ok (.ifCond .eq 7, 3) := by decide +kernel
theorem dX12_asks_136 : decode cX12_asks 136 = .ok (.iconst 1, 1) := by decide +kernel
theorem dX12_asks_137 : decode cX12_asks 137 = .ok (.goto 4, 3) := by decide +kernel
theorem dX12_asks_140 : decode cX12_asks 140 = .ok (.iconst 0, 1) := by decide +kernel
theorem dX12_asks_141 : decode cX12_asks 141 = .ok (.ireturn, 1) := by decide +kernel
theorem dX12_canShow_0 : decode cX12_canShow 0 = .ok (.aload_n 0, 1) := by decide +kernel
theorem dX12_canShow_1 : decode cX12_canShow 1 = .ok (.getfield 13, 3) := by decide +kernel
theorem dX12_canShow_4 : decode cX12_canShow 4 = .ok (.bipush 25, 2) := by decide +kernel
theorem dX12_canShow_6 : decode cX12_canShow 6 = .ok (.iload_n 1, 1) := by decide +kernel
theorem dX12_canShow_7 : decode cX12_canShow 7 = .ok (.iadd, 1) := by decide +kernel
theorem dX12_canShow_8 : decode cX12_canShow 8 = .ok (.iaload, 1) := by decide +kernel
theorem dX12_canShow_9 : decode cX12_canShow 9 = .ok (.ifCond .ne 32, 3) := by decide +kernel
theorem dX12_canShow_12 : decode cX12_canShow 12 = .ok (.aload_n 0, 1) := by decide +kernel
theorem dX12_canShow_13 : decode cX12_canShow 13 = .ok (.getfield 13, 3) := by decide +kernel
theorem dX12_canShow_16 : decode cX12_canShow 16 = .ok (.bipush 19, 2) := by decide +kernel
theorem dX12_canShow_18 : decode cX12_canShow 18 = .ok (.iload_n 1, 1) := by decide +kernel
theorem dX12_canShow_19 : decode cX12_canShow 19 = .ok (.iadd, 1) := by decide +kernel
theorem dX12_canShow_20 : decode cX12_canShow 20 = .ok (.iaload, 1) := by decide +kernel
theorem dX12_canShow_21 : decode cX12_canShow 21 = .ok (.iload_n 2, 1) := by decide +kernel
theorem dX12_canShow_22 : decode cX12_canShow 22 = .ok (.invokestatic 170, 3) := by decide +kernel
theorem dX12_canShow_25 : decode cX12_canShow 25 = .ok (.ifCond .ne 16, 3) := by decide +kernel
theorem dX12_canShow_28 : decode cX12_canShow 28 = .ok (.aload_n 0, 1) := by decide +kernel
theorem dX12_canShow_29 : decode cX12_canShow 29 = .ok (.iload_n 1, 1) := by decide +kernel
theorem dX12_canShow_30 : decode cX12_canShow 30 = .ok (.iload_n 2, 1) := by decide +kernel
theorem dX12_canShow_31 : decode cX12_canShow 31 = .ok (.invokevirtual 413, 3) := by decide +kernel
theorem dX12_canShow_34 : decode cX12_canShow 34 = .ok (.ifCond .ne 7, 3) := by decide +kernel
theorem dX12_canShow_37 : decode cX12_canShow 37 = .ok (.iconst 1, 1) := by decide +kernel
theorem dX12_canShow_38 : decode cX12_canShow 38 = .ok (.goto 4, 3) := by decide +kernel
theorem dX12_canShow_41 : decode cX12_canShow 41 = .ok (.iconst 0, 1) := by decide +kernel
theorem dX12_canShow_42 : decode cX12_canShow 42 = .ok (.ireturn, 1) := by decide +kernel
theorem dX12_showNow_0 : decode cX12_showNow 0 = .ok (.iload_n 2, 1) := by decide +kernel
theorem dX12_showNow_1 : decode cX12_showNow 1 = .ok (.invokestatic 199, 3) := by decide +kernel
theorem dX12_showNow_4 : decode cX12_showNow 4 = .ok (.ifCond .ne 5, 3) := by decide +kernel
theorem dX12_showNow_7 : decode cX12_showNow 7 = .ok (.iconst (-1), 1) := by decide +kernel
theorem dX12_showNow_8 : decode cX12_showNow 8 = .ok (.ireturn, 1) := by decide +kernel
theorem dX12_showNow_9 : decode cX12_showNow 9 = .ok (.aload_n 0, 1) := by decide +kernel
theorem dX12_showNow_10 : decode cX12_showNow 10 = .ok (.iload_n 1, 1) := by decide +kernel
theorem dX12_showNow_11 : decode cX12_showNow 11 = .ok (.invokevirtual 195, 3) := by decide +kernel
theorem dX12_showNow_14 : decode cX12_showNow 14 = .ok (.ifCond .ne 6, 3) := by decide +kernel
theorem dX12_showNow_17 : decode cX12_showNow 17 = .ok (.bipush (-2), 2) := by decide +kernel
theorem dX12_showNow_19 : decode cX12_showNow 19 = .ok (.ireturn, 1) := by decide +kernel
theorem dX12_showNow_20 : decode cX12_showNow 20 = .ok (.aload_n 0, 1) := by decide +kernel
theorem dX12_showNow_21 : decode cX12_showNow 21 = .ok (.iload_n 1, 1) := by decide +kernel
theorem dX12_showNow_22 : decode cX12_showNow 22 = .ok (.iload_n 2, 1) := by decide +kernel
theorem dX12_showNow_23 : decode cX12_showNow 23 = .ok (.invokevirtual 420, 3) := by decide +kernel
theorem dX12_showNow_26 : decode cX12_showNow 26 = .ok (.ifCond .ne 6, 3) := by decide +kernel
theorem dX12_showNow_29 : decode cX12_showNow 29 = .ok (.bipush (-3), 2) := by decide +kernel
theorem dX12_showNow_31 : decode cX12_showNow 31 = .ok (.ireturn, 1) := by decide +kernel
theorem dX12_showNow_32 : decode cX12_showNow 32 = .ok (.aload_n 0, 1) := by decide +kernel
theorem dX12_showNow_33 : decode cX12_showNow 33 = .ok (.iconst 0, 1) := by decide +kernel
theorem dX12_showNow_34 : decode cX12_showNow 34 = .ok (.invokevirtual 423, 3) := by decide +kernel
theorem dX12_showNow_37 : decode cX12_showNow 37 = .ok (.aload_n 0, 1) := by decide +kernel
theorem dX12_showNow_38 : decode cX12_showNow 38 = .ok (.iload_n 1, 1) := by decide +kernel
theorem dX12_showNow_39 : decode cX12_showNow 39 = .ok (.iload_n 2, 1) := by decide +kernel
theorem dX12_showNow_40 : decode cX12_showNow 40 = .ok (.invokevirtual 410, 3) := by decide +kernel
theorem dX12_showNow_43 : decode cX12_showNow 43 = .ok (.istore_n 3, 1) := by decide +kernel
theorem dX12_showNow_44 : decode cX12_showNow 44 = .ok (.aload_n 0, 1) := by decide +kernel
theorem dX12_showNow_45 : decode cX12_showNow 45 = .ok (.getfield 13, 3) := by decide +kernel
theorem dX12_showNow_48 : decode cX12_showNow 48 = .ok (.bipush 19, 2) := by decide +kernel
theorem dX12_showNow_50 : decode cX12_showNow 50 = .ok (.iload_n 1, 1) := by decide +kernel
theorem dX12_showNow_51 : decode cX12_showNow 51 = .ok (.iadd, 1) := by decide +kernel
theorem dX12_showNow_52 : decode cX12_showNow 52 = .ok (.dup2, 1) := by decide +kernel
theorem dX12_showNow_53 : decode cX12_showNow 53 = .ok (.iaload, 1) := by decide +kernel
theorem dX12_showNow_54 : decode cX12_showNow 54 = .ok (.iconst 1, 1) := by decide +kernel
theorem dX12_showNow_55 : decode cX12_showNow 55 = .ok (.iload_n 2, 1) := by decide +kernel
theorem dX12_showNow_56 : decode cX12_showNow 56 = .ok (.ishl, 1) := by decide +kernel
theorem dX12_showNow_57 : decode cX12_showNow 57 = .ok (.ior, 1) := by decide +kernel
theorem dX12_showNow_58 : decode cX12_showNow 58 = .ok (.iastore, 1) := by decide +kernel
theorem dX12_showNow_59 : decode cX12_showNow 59 = .ok (.iload_n 3, 1) := by decide +kernel
theorem dX12_showNow_60 : decode cX12_showNow 60 = .ok (.ireturn, 1) := by decide +kernel
theorem dX12_show_0 : decode cX12_show 0 = .ok (.aload_n 0, 1) := by decide +kernel
theorem dX12_show_1 : decode cX12_show 1 = .ok (.iconst 0, 1) := by decide +kernel
theorem dX12_show_2 : decode cX12_show 2 = .ok (.putfield 142, 3) := by decide +kernel
theorem dX12_show_5 : decode cX12_show 5 = .ok (.aload_n 0, 1) := by decide +kernel
theorem dX12_show_6 : decode cX12_show 6 = .ok (.aload_n 0, 1) := by decide +kernel
theorem dX12_show_7 : decode cX12_show 7 = .ok (.iload_n 1, 1) := by decide +kernel
theorem dX12_show_8 : decode cX12_show 8 = .ok (.iload_n 2, 1) := by decide +kernel
theorem dX12_show_9 : decode cX12_show 9 = .ok (.invokevirtual 426, 3) := by decide +kernel
theorem dX12_show_12 : decode cX12_show 12 = .ok (.invokevirtual 155, 3) := by decide +kernel
theorem dX12_show_15 : decode cX12_show 15 = .ok (.ireturn, 1) := by decide +kernel
theorem dX12_hideNow_0 : decode cX12_hideNow 0 = .ok (.iload_n 2, 1) := by decide +kernel
theorem dX12_hideNow_1 : decode cX12_hideNow 1 = .ok (.invokestatic 199, 3) := by decide +kernel
theorem dX12_hideNow_4 : decode cX12_hideNow 4 = .ok (.ifCond .ne 5, 3) := by decide +kernel
theorem dX12_hideNow_7 : decode cX12_hideNow 7 = .ok (.iconst (-1), 1) := by decide +kernel
theorem dX12_hideNow_8 : decode cX12_hideNow 8 = .ok (.ireturn, 1) := by decide +kernel
theorem dX12_hideNow_9 : decode cX12_hideNow 9 = .ok (.aload_n 0, 1) := by decide +kernel
theorem dX12_hideNow_10 : decode cX12_hideNow 10 = .ok (.iload_n 1, 1) := by decide +kernel
theorem dX12_hideNow_11 : decode cX12_hideNow 11 = .ok (.invokevirtual 195, 3) := by decide +kernel
theorem dX12_hideNow_14 : decode cX12_hideNow 14 = .ok (.ifCond .ne 6, 3) := by decide +kernel
theorem dX12_hideNow_17 : decode cX12_hideNow 17 = .ok (.bipush (-2), 2) := by decide +kernel
theorem dX12_hideNow_19 : decode cX12_hideNow 19 = .ok (.ireturn, 1) := by decide +kernel
theorem dX12_hideNow_20 : decode cX12_hideNow 20 = .ok (.aload_n 0, 1) := by decide +kernel
theorem dX12_hideNow_21 : decode cX12_hideNow 21 = .ok (.getfield 13, 3) := by decide +kernel
theorem dX12_hideNow_24 : decode cX12_hideNow 24 = .ok (.bipush 25, 2) := by decide +kernel
theorem dX12_hideNow_26 : decode cX12_hideNow 26 = .ok (.iload_n 1, 1) := by decide +kernel
theorem dX12_hideNow_27 : decode cX12_hideNow 27 = .ok (.iadd, 1) := by decide +kernel
theorem dX12_hideNow_28 : decode cX12_hideNow 28 = .ok (.iaload, 1) := by decide +kernel
theorem dX12_hideNow_29 : decode cX12_hideNow 29 = .ok (.iconst 1, 1) := by decide +kernel
theorem dX12_hideNow_30 : decode cX12_hideNow 30 = .ok (.if_icmp .eq 19, 3) := by decide +kernel
theorem dX12_hideNow_33 : decode cX12_hideNow 33 = .ok (.aload_n 0, 1) := by decide +kernel
theorem dX12_hideNow_34 : decode cX12_hideNow 34 = .ok (.getfield 13, 3) := by decide +kernel
theorem dX12_hideNow_37 : decode cX12_hideNow 37 = .ok (.bipush 19, 2) := by decide +kernel
theorem dX12_hideNow_39 : decode cX12_hideNow 39 = .ok (.iload_n 1, 1) := by decide +kernel
theorem dX12_hideNow_40 : decode cX12_hideNow 40 = .ok (.iadd, 1) := by decide +kernel
theorem dX12_hideNow_41 : decode cX12_hideNow 41 = .ok (.iaload, 1) := by decide +kernel
theorem dX12_hideNow_42 : decode cX12_hideNow 42 = .ok (.iload_n 2, 1) := by decide +kernel
theorem dX12_hideNow_43 : decode cX12_hideNow 43 = .ok (.invokestatic 170, 3) := by decide +kernel
theorem dX12_hideNow_46 : decode cX12_hideNow 46 = .ok (.ifCond .ne 6, 3) := by decide +kernel
theorem dX12_hideNow_49 : decode cX12_hideNow 49 = .ok (.bipush (-3), 2) := by decide +kernel
theorem dX12_hideNow_51 : decode cX12_hideNow 51 = .ok (.ireturn, 1) := by decide +kernel
theorem dX12_hideNow_52 : decode cX12_hideNow 52 = .ok (.aload_n 0, 1) := by decide +kernel
theorem dX12_hideNow_53 : decode cX12_hideNow 53 = .ok (.iconst 1, 1) := by decide +kernel
theorem dX12_hideNow_54 : decode cX12_hideNow 54 = .ok (.invokevirtual 423, 3) := by decide +kernel
theorem dX12_hideNow_57 : decode cX12_hideNow 57 = .ok (.aload_n 0, 1) := by decide +kernel
theorem dX12_hideNow_58 : decode cX12_hideNow 58 = .ok (.getfield 13, 3) := by decide +kernel
theorem dX12_hideNow_61 : decode cX12_hideNow 61 = .ok (.bipush 19, 2) := by decide +kernel
theorem dX12_hideNow_63 : decode cX12_hideNow 63 = .ok (.iload_n 1, 1) := by decide +kernel
theorem dX12_hideNow_64 : decode cX12_hideNow 64 = .ok (.iadd, 1) := by decide +kernel
theorem dX12_hideNow_65 : decode cX12_hideNow 65 = .ok (.dup2, 1) := by decide +kernel
theorem dX12_hideNow_66 : decode cX12_hideNow 66 = .ok (.iaload, 1) := by decide +kernel
theorem dX12_hideNow_67 : decode cX12_hideNow 67 = .ok (.iconst 1, 1) := by decide +kernel
theorem dX12_hideNow_68 : decode cX12_hideNow 68 = .ok (.iload_n 2, 1) := by decide +kernel
theorem dX12_hideNow_69 : decode cX12_hideNow 69 = .ok (.ishl, 1) := by decide +kernel
theorem dX12_hideNow_70 : decode cX12_hideNow 70 = .ok (.isub, 1) := by decide +kernel
theorem dX12_hideNow_71 : decode cX12_hideNow 71 = .ok (.iastore, 1) := by decide +kernel
theorem dX12_hideNow_72 : decode cX12_hideNow 72 = .ok (.aload_n 0, 1) := by decide +kernel
theorem dX12_hideNow_73 : decode cX12_hideNow 73 = .ok (.getfield 13, 3) := by decide +kernel
theorem dX12_hideNow_76 : decode cX12_hideNow 76 = .ok (.bipush 19, 2) := by decide +kernel
theorem dX12_hideNow_78 : decode cX12_hideNow 78 = .ok (.iload_n 1, 1) := by decide +kernel
theorem dX12_hideNow_79 : decode cX12_hideNow 79 = .ok (.iadd, 1) := by decide +kernel
theorem dX12_hideNow_80 : decode cX12_hideNow 80 = .ok (.iaload, 1) := by decide +kernel
theorem dX12_hideNow_81 : decode cX12_hideNow 81 = .ok (.ireturn, 1) := by decide +kernel
theorem dX12_hide_0 : decode cX12_hide 0 = .ok (.aload_n 0, 1) := by decide +kernel
theorem dX12_hide_1 : decode cX12_hide 1 = .ok (.iconst 0, 1) := by decide +kernel
theorem dX12_hide_2 : decode cX12_hide 2 = .ok (.putfield 142, 3) := by decide +kernel
theorem dX12_hide_5 : decode cX12_hide 5 = .ok (.aload_n 0, 1) := by decide +kernel
theorem dX12_hide_6 : decode cX12_hide 6 = .ok (.aload_n 0, 1) := by decide +kernel
theorem dX12_hide_7 : decode cX12_hide 7 = .ok (.iload_n 1, 1) := by decide +kernel
theorem dX12_hide_8 : decode cX12_hide 8 = .ok (.iload_n 2, 1) := by decide +kernel
theorem dX12_hide_9 : decode cX12_hide 9 = .ok (.invokevirtual 429, 3) := by decide +kernel
theorem dX12_hide_12 : decode cX12_hide 12 = .ok (.invokevirtual 155, 3) := by decide +kernel
theorem dX12_hide_15 : decode cX12_hide 15 = .ok (.ireturn, 1) := by decide +kernel
theorem dX12_manNow_0 : decode cX12_manNow 0 = .ok (.iload_n 2, 1) := by decide +kernel
theorem dX12_manNow_1 : decode cX12_manNow 1 = .ok (.i2l, 1) := by decide +kernel
theorem dX12_manNow_2 : decode cX12_manNow 2 = .ok (.ldc2_w 432, 3) := by decide +kernel
theorem dX12_manNow_5 : decode cX12_manNow 5 = .ok (.ldc2_w 187, 3) := by decide +kernel
theorem dX12_manNow_8 : decode cX12_manNow 8 = .ok (.invokestatic 162, 3) := by decide +kernel
theorem dX12_manNow_11 : decode cX12_manNow 11 = .ok (.ifCond .ne 5, 3) := by decide +kernel
theorem dX12_manNow_14 : decode cX12_manNow 14 = .ok (.iconst (-1), 1) := by decide +kernel
theorem dX12_manNow_15 : decode cX12_manNow 15 = .ok (.ireturn, 1) := by decide +kernel
theorem dX12_manNow_16 : decode cX12_manNow 16 = .ok (.aload_n 0, 1) := by decide +kernel
theorem dX12_manNow_17 : decode cX12_manNow 17 = .ok (.iload_n 1, 1) := by decide +kernel
theorem dX12_manNow_18 : decode cX12_manNow 18 = .ok (.invokevirtual 195, 3) := by decide +kernel
theorem dX12_manNow_21 : decode cX12_manNow 21 = .ok (.ifCond .ne 6, 3) := by decide +kernel
theorem dX12_manNow_24 : decode cX12_manNow 24 = .ok (.bipush (-2), 2) := by decide +kernel
theorem dX12_manNow_26 : decode cX12_manNow 26 = .ok (.ireturn, 1) := by decide +kernel
theorem dX12_manNow_27 : decode cX12_manNow 27 = .ok (.aload_n 0, 1) := by decide +kernel
theorem dX12_manNow_28 : decode cX12_manNow 28 = .ok (.getfield 13, 3) := by decide +kernel
theorem dX12_manNow_31 : decode cX12_manNow 31 = .ok (.bipush 25, 2) := by decide +kernel
theorem dX12_manNow_33 : decode cX12_manNow 33 = .ok (.iload_n 1, 1) := by decide +kernel
theorem dX12_manNow_34 : decode cX12_manNow 34 = .ok (.iadd, 1) := by decide +kernel
theorem dX12_manNow_35 : decode cX12_manNow 35 = .ok (.iaload, 1) := by decide +kernel
theorem dX12_manNow_36 : decode cX12_manNow 36 = .ok (.iconst 1, 1) := by decide +kernel
theorem dX12_manNow_37 : decode cX12_manNow 37 = .ok (.if_icmp .eq 25, 3) := by decide +kernel
theorem dX12_manNow_40 : decode cX12_manNow 40 = .ok (.aload_n 0, 1) := by decide +kernel
theorem dX12_manNow_41 : decode cX12_manNow 41 = .ok (.getfield 13, 3) := by decide +kernel
theorem dX12_manNow_44 : decode cX12_manNow 44 = .ok (.bipush 13, 2) := by decide +kernel
theorem dX12_manNow_46 : decode cX12_manNow 46 = .ok (.iload_n 1, 1) := by decide +kernel
theorem dX12_manNow_47 : decode cX12_manNow 47 = .ok (.iadd, 1) := by decide +kernel
theorem dX12_manNow_48 : decode cX12_manNow 48 = .ok (.iaload, 1) := by decide +kernel
theorem dX12_manNow_49 : decode cX12_manNow 49 = .ok (.iload_n 2, 1) := by decide +kernel
theorem dX12_manNow_50 : decode cX12_manNow 50 = .ok (.iadd, 1) := by decide +kernel
theorem dX12_manNow_51 : decode cX12_manNow 51 = .ok (.i2l, 1) := by decide +kernel
theorem dX12_manNow_52 : decode cX12_manNow 52 = .ok (.lconst 0, 1) := by decide +kernel
theorem dX12_manNow_53 : decode cX12_manNow 53 = .ok (.ldc2_w 187, 3) := by decide +kernel
theorem dX12_manNow_56 : decode cX12_manNow 56 = .ok (.invokestatic 162, 3) := by decide +kernel
theorem dX12_manNow_59 : decode cX12_manNow 59 = .ok (.ifCond .ne 6, 3) := by decide +kernel
theorem dX12_manNow_62 : decode cX12_manNow 62 = .ok (.bipush (-3), 2) := by decide +kernel
theorem dX12_manNow_64 : decode cX12_manNow 64 = .ok (.ireturn, 1) := by decide +kernel
theorem dX12_manNow_65 : decode cX12_manNow 65 = .ok (.aload_n 0, 1) := by decide +kernel
theorem dX12_manNow_66 : decode cX12_manNow 66 = .ok (.iconst 2, 1) := by decide +kernel
theorem dX12_manNow_67 : decode cX12_manNow 67 = .ok (.invokevirtual 423, 3) := by decide +kernel
theorem dX12_manNow_70 : decode cX12_manNow 70 = .ok (.aload_n 0, 1) := by decide +kernel
theorem dX12_manNow_71 : decode cX12_manNow 71 = .ok (.getfield 13, 3) := by decide +kernel
theorem dX12_manNow_74 : decode cX12_manNow 74 = .ok (.bipush 13, 2) := by decide +kernel
theorem dX12_manNow_76 : decode cX12_manNow 76 = .ok (.iload_n 1, 1) := by decide +kernel
theorem dX12_manNow_77 : decode cX12_manNow 77 = .ok (.iadd, 1) := by decide +kernel
theorem dX12_manNow_78 : decode cX12_manNow 78 = .ok (.dup2, 1) := by decide +kernel
theorem dX12_manNow_79 : decode cX12_manNow 79 = .ok (.iaload, 1) := by decide +kernel
theorem dX12_manNow_80 : decode cX12_manNow 80 = .ok (.iload_n 2, 1) := by decide +kernel
theorem dX12_manNow_81 : decode cX12_manNow 81 = .ok (.iadd, 1) := by decide +kernel
theorem dX12_manNow_82 : decode cX12_manNow 82 = .ok (.iastore, 1) := by decide +kernel
theorem dX12_manNow_83 : decode cX12_manNow 83 = .ok (.aload_n 0, 1) := by decide +kernel
theorem dX12_manNow_84 : decode cX12_manNow 84 = .ok (.getfield 13, 3) := by decide +kernel
theorem dX12_manNow_87 : decode cX12_manNow 87 = .ok (.bipush 13, 2) := by decide +kernel
theorem dX12_manNow_89 : decode cX12_manNow 89 = .ok (.iload_n 1, 1) := by decide +kernel
theorem dX12_manNow_90 : decode cX12_manNow 90 = .ok (.iadd, 1) := by decide +kernel
theorem dX12_manNow_91 : decode cX12_manNow 91 = .ok (.iaload, 1) := by decide +kernel
theorem dX12_manNow_92 : decode cX12_manNow 92 = .ok (.ireturn, 1) := by decide +kernel
theorem dX12_man_0 : decode cX12_man 0 = .ok (.aload_n 0, 1) := by decide +kernel
theorem dX12_man_1 : decode cX12_man 1 = .ok (.iconst 0, 1) := by decide +kernel
theorem dX12_man_2 : decode cX12_man 2 = .ok (.putfield 142, 3) := by decide +kernel
theorem dX12_man_5 : decode cX12_man 5 = .ok (.aload_n 0, 1) := by decide +kernel
theorem dX12_man_6 : decode cX12_man 6 = .ok (.aload_n 0, 1) := by decide +kernel
theorem dX12_man_7 : decode cX12_man 7 = .ok (.iload_n 1, 1) := by decide +kernel
theorem dX12_man_8 : decode cX12_man 8 = .ok (.iload_n 2, 1) := by decide +kernel
theorem dX12_man_9 : decode cX12_man 9 = .ok (.invokevirtual 434, 3) := by decide +kernel
theorem dX12_man_12 : decode cX12_man 12 = .ok (.invokevirtual 155, 3) := by decide +kernel
theorem dX12_man_15 : decode cX12_man 15 = .ok (.ireturn, 1) := by decide +kernel
theorem dX12_canMarch_0 : decode cX12_canMarch 0 = .ok (.aload_n 0, 1) := by decide +kernel
theorem dX12_canMarch_1 : decode cX12_canMarch 1 = .ok (.getfield 13, 3) := by decide +kernel
theorem dX12_canMarch_4 : decode cX12_canMarch 4 = .ok (.bipush 25, 2) := by decide +kernel
theorem dX12_canMarch_6 : decode cX12_canMarch 6 = .ok (.iload_n 1, 1) := by decide +kernel
theorem dX12_canMarch_7 : decode cX12_canMarch 7 = .ok (.iadd, 1) := by decide +kernel
theorem dX12_canMarch_8 : decode cX12_canMarch 8 = .ok (.iaload, 1) := by decide +kernel
theorem dX12_canMarch_9 : decode cX12_canMarch 9 = .ok (.ifCond .ne 20, 3) := by decide +kernel
theorem dX12_canMarch_12 : decode cX12_canMarch 12 = .ok (.aload_n 0, 1) := by decide +kernel
theorem dX12_canMarch_13 : decode cX12_canMarch 13 = .ok (.getfield 13, 3) := by decide +kernel
theorem dX12_canMarch_16 : decode cX12_canMarch 16 = .ok (.bipush 6, 2) := by decide +kernel
theorem dX12_canMarch_18 : decode cX12_canMarch 18 = .ok (.iaload, 1) := by decide +kernel
theorem dX12_canMarch_19 : decode cX12_canMarch 19 = .ok (.sipush 999, 3) := by decide +kernel
theorem dX12_canMarch_22 : decode cX12_canMarch 22 = .ok (.if_icmp .ge 7, 3) := by decide +kernel
theorem dX12_canMarch_25 : decode cX12_canMarch 25 = .ok (.iconst 1, 1) := by decide +kernel
theorem dX12_canMarch_26 : decode cX12_canMarch 26 = .ok (.goto 4, 3) := by decide +kernel
theorem dX12_canMarch_29 : decode cX12_canMarch 29 = .ok (.iconst 0, 1) := by decide +kernel
theorem dX12_canMarch_30 : decode cX12_canMarch 30 = .ok (.ireturn, 1) := by decide +kernel
theorem dX12_marchIt_0 : decode cX12_marchIt 0 = .ok (.aload_n 0, 1) := by decide +kernel
theorem dX12_marchIt_1 : decode cX12_marchIt 1 = .ok (.iload_n 2, 1) := by decide +kernel
theorem dX12_marchIt_2 : decode cX12_marchIt 2 = .ok (.iload_n 1, 1) := by decide +kernel
theorem dX12_marchIt_3 : decode cX12_marchIt 3 = .ok (.aload_n 0, 1) := by decide +kernel
theorem dX12_marchIt_4 : decode cX12_marchIt 4 = .ok (.getfield 13, 3) := by decide +kernel
theorem dX12_marchIt_7 : decode cX12_marchIt 7 = .ok (.bipush 19, 2) := by decide +kernel
theorem dX12_marchIt_9 : decode cX12_marchIt 9 = .ok (.iload_n 2, 1) := by decide +kernel
theorem dX12_marchIt_10 : decode cX12_marchIt 10 = .ok (.iadd, 1) := by decide +kernel
theorem dX12_marchIt_11 : decode cX12_marchIt 11 = .ok (.iaload, 1) := by decide +kernel
theorem dX12_marchIt_12 : decode cX12_marchIt 12 = .ok (.invokevirtual 416, 3) := by decide +kernel
theorem dX12_marchIt_15 : decode cX12_marchIt 15 = .ok (.ifCond .eq 7, 3) := by decide +kernel
theorem dX12_marchIt_18 : decode cX12_marchIt 18 = .ok (.iconst 1, 1) := by decide +kernel
theorem dX12_marchIt_19 : decode cX12_marchIt 19 = .ok (.goto 21, 3) := by decide +kernel
theorem dX12_marchIt_22 : decode cX12_marchIt 22 = .ok (.iload_n 1, 1) := by decide +kernel
theorem dX12_marchIt_23 : decode cX12_marchIt 23 = .ok (.aload_n 0, 1) := by decide +kernel
theorem dX12_marchIt_24 : decode cX12_marchIt 24 = .ok (.getfield 13, 3) := by decide +kernel
theorem dX12_marchIt_27 : decode cX12_marchIt 27 = .ok (.bipush 13, 2) := by decide +kernel
theorem dX12_marchIt_29 : decode cX12_marchIt 29 = .ok (.iload_n 2, 1) := by decide +kernel
theorem dX12_marchIt_30 : decode cX12_marchIt 30 = .ok (.iadd, 1) := by decide +kernel
theorem dX12_marchIt_31 : decode cX12_marchIt 31 = .ok (.iaload, 1) := by decide +kernel
theorem dX12_marchIt_32 : decode cX12_marchIt 32 = .ok (.if_icmp .le 7, 3) := by decide +kernel
theorem dX12_marchIt_35 : decode cX12_marchIt 35 = .ok (.iconst 2, 1) := by decide +kernel
theorem dX12_marchIt_36 : decode cX12_marchIt 36 = .ok (.goto 4, 3) := by decide +kernel
theorem dX12_marchIt_39 : decode cX12_marchIt 39 = .ok (.iconst 0, 1) := by decide +kernel
theorem dX12_marchIt_40 : decode cX12_marchIt 40 = .ok (.istore_n 3, 1) := by decide +kernel
theorem dX12_marchIt_41 : decode cX12_marchIt 41 = .ok (.iload_n 3, 1) := by decide +kernel
theorem dX12_marchIt_42 : decode cX12_marchIt 42 = .ok (.iconst 2, 1) := by decide +kernel
theorem dX12_marchIt_43 : decode cX12_marchIt 43 = .ok (.if_icmp .ne 13, 3) := by decide +kernel
theorem dX12_marchIt_46 : decode cX12_marchIt 46 = .ok (.aload_n 0, 1) := by decide +kernel
theorem dX12_marchIt_47 : decode cX12_marchIt 47 = .ok (.getfield 13, 3) := by decide +kernel
theorem dX12_marchIt_50 : decode cX12_marchIt 50 = .ok (.bipush 25, 2) := by decide +kernel
theorem dX12_marchIt_52 : decode cX12_marchIt 52 = .ok (.iload_n 2, 1) := by decide +kernel
theorem dX12_marchIt_53 : decode cX12_marchIt 53 = .ok (.iadd, 1) := by decide +kernel
theorem dX12_marchIt_54 : decode cX12_marchIt 54 = .ok (.iconst 1, 1) := by decide +kernel
theorem dX12_marchIt_55 : decode cX12_marchIt 55 = .ok (.iastore, 1) := by decide +kernel
theorem dX12_marchIt_56 : decode cX12_marchIt 56 = .ok (.iload_n 3, 1) := by decide +kernel
theorem dX12_marchIt_57 : decode cX12_marchIt 57 = .ok (.ifCond .ne 32, 3) := by decide +kernel
theorem dX12_marchIt_60 : decode cX12_marchIt 60 = .ok (.aload_n 0, 1) := by decide +kernel
theorem dX12_marchIt_61 : decode cX12_marchIt 61 = .ok (.getfield 13, 3) := by decide +kernel
theorem dX12_marchIt_64 : decode cX12_marchIt 64 = .ok (.bipush 13, 2) := by decide +kernel
theorem dX12_marchIt_66 : decode cX12_marchIt 66 = .ok (.iload_n 2, 1) := by decide +kernel
theorem dX12_marchIt_67 : decode cX12_marchIt 67 = .ok (.iadd, 1) := by decide +kernel
theorem dX12_marchIt_68 : decode cX12_marchIt 68 = .ok (.aload_n 0, 1) := by decide +kernel
theorem dX12_marchIt_69 : decode cX12_marchIt 69 = .ok (.getfield 13, 3) := by decide +kernel
theorem dX12_marchIt_72 : decode cX12_marchIt 72 = .ok (.bipush 13, 2) := by decide +kernel
theorem dX12_marchIt_74 : decode cX12_marchIt 74 = .ok (.iload_n 2, 1) := by decide +kernel
