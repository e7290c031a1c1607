theorem dX0_init_0 : decode cX0_init 0 = .ok (.aload_n 0, 1) := by decide +kernel
theorem dX0_init_1 : decode cX0_init 1 = .ok (.invokespecial 3, 3) := by decide +kernel
theorem dX0_init_4 : decode cX0_init 4 = .ok (.aload_n 0, 1) := by decide +kernel
theorem dX0_init_5 : decode cX0_init 5 = .ok (.bipush 6, 2) := by decide +kernel
theorem dX0_init_7 : decode cX0_init 7 = .ok (.newarray .int, 2) := by decide +kernel
theorem dX0_init_9 : decode cX0_init 9 = .ok (.putfield 9, 3) := by decide +kernel
theorem dX0_init_12 : decode cX0_init 12 = .ok (.aload_n 0, 1) := by decide +kernel
theorem dX0_init_13 : decode cX0_init 13 = .ok (.bipush 6, 2) := by decide +kernel
theorem dX0_init_15 : decode cX0_init 15 = .ok (.newarray .int, 2) := by decide +kernel
theorem dX0_init_17 : decode cX0_init 17 = .ok (.putfield 15, 3) := by decide +kernel
theorem dX0_init_20 : decode cX0_init 20 = .ok (.aload_n 0, 1) := by decide +kernel
theorem dX0_init_21 : decode cX0_init 21 = .ok (.bipush 6, 2) := by decide +kernel
theorem dX0_init_23 : decode cX0_init 23 = .ok (.newarray .int, 2) := by decide +kernel
theorem dX0_init_25 : decode cX0_init 25 = .ok (.putfield 18, 3) := by decide +kernel
theorem dX0_init_28 : decode cX0_init 28 = .ok (.aload_n 0, 1) := by decide +kernel
theorem dX0_init_29 : decode cX0_init 29 = .ok (.iconst 4, 1) := by decide +kernel
theorem dX0_init_30 : decode cX0_init 30 = .ok (.newarray .int, 2) := by decide +kernel
theorem dX0_init_32 : decode cX0_init 32 = .ok (.putfield 21, 3) := by decide +kernel
theorem dX0_init_35 : decode cX0_init 35 = .ok (.return_, 1) := by decide +kernel
theorem dX4_init_0 : decode cX4_init 0 = .ok (.aload_n 0, 1) := by decide +kernel
theorem dX4_init_1 : decode cX4_init 1 = .ok (.invokespecial 3, 3) := by decide +kernel
theorem dX4_init_4 : decode cX4_init 4 = .ok (.aload_n 0, 1) := by decide +kernel
theorem dX4_init_5 : decode cX4_init 5 = .ok (.bipush 6, 2) := by decide +kernel
theorem dX4_init_7 : decode cX4_init 7 = .ok (.newarray .int, 2) := by decide +kernel
theorem dX4_init_9 : decode cX4_init 9 = .ok (.putfield 9, 3) := by decide +kernel
theorem dX4_init_12 : decode cX4_init 12 = .ok (.aload_n 0, 1) := by decide +kernel
theorem dX4_init_13 : decode cX4_init 13 = .ok (.bipush 6, 2) := by decide +kernel
theorem dX4_init_15 : decode cX4_init 15 = .ok (.newarray .int, 2) := by decide +kernel
theorem dX4_init_17 : decode cX4_init 17 = .ok (.putfield 15, 3) := by decide +kernel
theorem dX4_init_20 : decode cX4_init 20 = .ok (.aload_n 0, 1) := by decide +kernel
theorem dX4_init_21 : decode cX4_init 21 = .ok (.bipush 8, 2) := by decide +kernel
theorem dX4_init_23 : decode cX4_init 23 = .ok (.newarray .int, 2) := by decide +kernel
theorem dX4_init_25 : decode cX4_init 25 = .ok (.putfield 18, 3) := by decide +kernel
theorem dX4_init_28 : decode cX4_init 28 = .ok (.aload_n 0, 1) := by decide +kernel
theorem dX4_init_29 : decode cX4_init 29 = .ok (.bipush 8, 2) := by decide +kernel
theorem dX4_init_31 : decode cX4_init 31 = .ok (.newarray .int, 2) := by decide +kernel
theorem dX4_init_33 : decode cX4_init 33 = .ok (.putfield 21, 3) := by decide +kernel
theorem dX4_init_36 : decode cX4_init 36 = .ok (.aload_n 0, 1) := by decide +kernel
theorem dX4_init_37 : decode cX4_init 37 = .ok (.bipush 66, 2) := by decide +kernel
theorem dX4_init_39 : decode cX4_init 39 = .ok (.newarray .int, 2) := by decide +kernel
theorem dX4_init_41 : decode cX4_init 41 = .ok (.putfield 24, 3) := by decide +kernel
theorem dX4_init_44 : decode cX4_init 44 = .ok (.return_, 1) := by decide +kernel
theorem dX1_init_0 : decode cX1_init 0 = .ok (.aload_n 0, 1) := by decide +kernel
theorem dX1_init_1 : decode cX1_init 1 = .ok (.invokespecial 5, 3) := by decide +kernel
theorem dX1_init_4 : decode cX1_init 4 = .ok (.aload_n 0, 1) := by decide +kernel
theorem dX1_init_5 : decode cX1_init 5 = .ok (.bipush 8, 2) := by decide +kernel
theorem dX1_init_7 : decode cX1_init 7 = .ok (.newarray .int, 2) := by decide +kernel
theorem dX1_init_9 : decode cX1_init 9 = .ok (.putfield 11, 3) := by decide +kernel
theorem dX1_init_12 : decode cX1_init 12 = .ok (.aload_n 0, 1) := by decide +kernel
theorem dX1_init_13 : decode cX1_init 13 = .ok (.bipush 8, 2) := by decide +kernel
theorem dX1_init_15 : decode cX1_init 15 = .ok (.newarray .int, 2) := by decide +kernel
theorem dX1_init_17 : decode cX1_init 17 = .ok (.putfield 15, 3) := by decide +kernel
theorem dX1_init_20 : decode cX1_init 20 = .ok (.aload_n 0, 1) := by decide +kernel
theorem dX1_init_21 : decode cX1_init 21 = .ok (.bipush 8, 2) := by decide +kernel
theorem dX1_init_23 : decode cX1_init 23 = .ok (.newarray .int, 2) := by decide +kernel
theorem dX1_init_25 : decode cX1_init 25 = .ok (.putfield 18, 3) := by decide +kernel
theorem dX1_init_28 : decode cX1_init 28 = .ok (.aload_n 0, 1) := by decide +kernel
theorem dX1_init_29 : decode cX1_init 29 = .ok (.bipush 99, 2) := by decide +kernel
theorem dX1_init_31 : decode cX1_init 31 = .ok (.newarray .int, 2) := by decide +kernel
theorem dX1_init_33 : decode cX1_init 33 = .ok (.putfield 21, 3) := by decide +kernel
theorem dX1_init_36 : decode cX1_init 36 = .ok (.return_, 1) := by decide +kernel
theorem dX10_init_0 : decode cX10_init 0 = .ok (.aload_n 0, 1) := by decide +kernel
theorem dX10_init_1 : decode cX10_init 1 = .ok (.invokespecial 1, 3) := by decide +kernel
theorem dX10_init_4 : decode cX10_init 4 = .ok (.aload_n 0, 1) := by decide +kernel
theorem dX10_init_5 : decode cX10_init 5 = .ok (.sipush 400, 3) := by decide +kernel
theorem dX10_init_8 : decode cX10_init 8 = .ok (.newarray .int, 2) := by decide +kernel
theorem dX10_init_10 : decode cX10_init 10 = .ok (.putfield 9, 3) := by decide +kernel
theorem dX10_init_13 : decode cX10_init 13 = .ok (.aload_n 0, 1) := by decide +kernel
theorem dX10_init_14 : decode cX10_init 14 = .ok (.sipush 401, 3) := by decide +kernel
theorem dX10_init_17 : decode cX10_init 17 = .ok (.newarray .int, 2) := by decide +kernel
theorem dX10_init_19 : decode cX10_init 19 = .ok (.putfield 13, 3) := by decide +kernel
theorem dX10_init_22 : decode cX10_init 22 = .ok (.aload_n 0, 1) := by decide +kernel
theorem dX10_init_23 : decode cX10_init 23 = .ok (.sipush 401, 3) := by decide +kernel
theorem dX10_init_26 : decode cX10_init 26 = .ok (.newarray .int, 2) := by decide +kernel
theorem dX10_init_28 : decode cX10_init 28 = .ok (.putfield 16, 3) := by decide +kernel
theorem dX10_init_31 : decode cX10_init 31 = .ok (.aload_n 0, 1) := by decide +kernel
theorem dX10_init_32 : decode cX10_init 32 = .ok (.sipush 401, 3) := by decide +kernel
theorem dX10_init_35 : decode cX10_init 35 = .ok (.newarray .int, 2) := by decide +kernel
theorem dX10_init_37 : decode cX10_init 37 = .ok (.putfield 19, 3) := by decide +kernel
theorem dX10_init_40 : decode cX10_init 40 = .ok (.return_, 1) := by decide +kernel
theorem dX8_init_0 : decode cX8_init 0 = .ok (.aload_n 0, 1) := by decide +kernel
theorem dX8_init_1 : decode cX8_init 1 = .ok (.invokespecial 3, 3) := by decide +kernel
theorem dX8_init_4 : decode cX8_init 4 = .ok (.aload_n 0, 1) := by decide +kernel
theorem dX8_init_5 : decode cX8_init 5 = .ok (.bipush 12, 2) := by decide +kernel
theorem dX8_init_7 : decode cX8_init 7 = .ok (.newarray .int, 2) := by decide +kernel
theorem dX8_init_9 : decode cX8_init 9 = .ok (.putfield 9, 3) := by decide +kernel
theorem dX8_init_12 : decode cX8_init 12 = .ok (.aload_n 0, 1) := by decide +kernel
theorem dX8_init_13 : decode cX8_init 13 = .ok (.bipush 12, 2) := by decide +kernel
theorem dX8_init_15 : decode cX8_init 15 = .ok (.newarray .int, 2) := by decide +kernel
theorem dX8_init_17 : decode cX8_init 17 = .ok (.putfield 13, 3) := by decide +kernel
theorem dX8_init_20 : decode cX8_init 20 = .ok (.aload_n 0, 1) := by decide +kernel
theorem dX8_init_21 : decode cX8_init 21 = .ok (.bipush 48, 2) := by decide +kernel
theorem dX8_init_23 : decode cX8_init 23 = .ok (.newarray .int, 2) := by decide +kernel
theorem dX8_init_25 : decode cX8_init 25 = .ok (.putfield 16, 3) := by decide +kernel
theorem dX8_init_28 : decode cX8_init 28 = .ok (.aload_n 0, 1) := by decide +kernel
theorem dX8_init_29 : decode cX8_init 29 = .ok (.sipush 400, 3) := by decide +kernel
theorem dX8_init_32 : decode cX8_init 32 = .ok (.newarray .int, 2) := by decide +kernel
theorem dX8_init_34 : decode cX8_init 34 = .ok (.putfield 21, 3) := by decide +kernel
theorem dX8_init_37 : decode cX8_init 37 = .ok (.return_, 1) := by decide +kernel
theorem dX9_init_0 : decode cX9_init 0 = .ok (.aload_n 0, 1) := by decide +kernel
theorem dX9_init_1 : decode cX9_init 1 = .ok (.invokespecial 3, 3) := by decide +kernel
theorem dX9_init_4 : decode cX9_init 4 = .ok (.aload_n 0, 1) := by decide +kernel
theorem dX9_init_5 : decode cX9_init 5 = .ok (.aload_n 1, 1) := by decide +kernel
theorem dX9_init_6 : decode cX9_init 6 = .ok (.putfield 9, 3) := by decide +kernel
theorem dX9_init_9 : decode cX9_init 9 = .ok (.aload_n 0, 1) := by decide +kernel
theorem dX9_init_10 : decode cX9_init 10 = .ok (.aload_n 2, 1) := by decide +kernel
theorem dX9_init_11 : decode cX9_init 11 = .ok (.putfield 15, 3) := by decide +kernel
theorem dX9_init_14 : decode cX9_init 14 = .ok (.return_, 1) := by decide +kernel
theorem dX5_init_0 : decode cX5_init 0 = .ok (.aload_n 0, 1) := by decide +kernel
theorem dX5_init_1 : decode cX5_init 1 = .ok (.invokespecial 3, 3) := by decide +kernel
theorem dX5_init_4 : decode cX5_init 4 = .ok (.aload_n 0, 1) := by decide +kernel
theorem dX5_init_5 : decode cX5_init 5 = .ok (.bipush 10, 2) := by decide +kernel
theorem dX5_init_7 : decode cX5_init 7 = .ok (.newarray .int, 2) := by decide +kernel
theorem dX5_init_9 : decode cX5_init 9 = .ok (.putfield 9, 3) := by decide +kernel
theorem dX5_init_12 : decode cX5_init 12 = .ok (.aload_n 0, 1) := by decide +kernel
theorem dX5_init_13 : decode cX5_init 13 = .ok (.bipush 6, 2) := by decide +kernel
theorem dX5_init_15 : decode cX5_init 15 = .ok (.newarray .int, 2) := by decide +kernel
theorem dX5_init_17 : decode cX5_init 17 = .ok (.putfield 15, 3) := by decide +kernel
theorem dX5_init_20 : decode cX5_init 20 = .ok (.aload_n 0, 1) := by decide +kernel
theorem dX5_init_21 : decode cX5_init 21 = .ok (.bipush 64, 2) := by decide +kernel
theorem dX5_init_23 : decode cX5_init 23 = .ok (.newarray .long, 2) := by decide +kernel
theorem dX5_init_25 : decode cX5_init 25 = .ok (.putfield 20, 3) := by decide +kernel
theorem dX5_init_28 : decode cX5_init 28 = .ok (.aload_n 0, 1) := by decide +kernel
theorem dX5_init_29 : decode cX5_init 29 = .ok (.aload_n 1, 1) := by decide +kernel
theorem dX5_init_30 : decode cX5_init 30 = .ok (.putfield 24, 3) := by decide +kernel
theorem dX5_init_33 : decode cX5_init 33 = .ok (.return_, 1) := by decide +kernel
theorem dX2_init_0 : decode cX2_init 0 = .ok (.aload_n 0, 1) := by decide +kernel
theorem dX2_init_1 : decode cX2_init 1 = .ok (.invokespecial 3, 3) := by decide +kernel
theorem dX2_init_4 : decode cX2_init 4 = .ok (.aload_n 0, 1) := by decide +kernel
theorem dX2_init_5 : decode cX2_init 5 = .ok (.bipush 112, 2) := by decide +kernel
theorem dX2_init_7 : decode cX2_init 7 = .ok (.newarray .int, 2) := by decide +kernel
theorem dX2_init_9 : decode cX2_init 9 = .ok (.putfield 11, 3) := by decide +kernel
theorem dX2_init_12 : decode cX2_init 12 = .ok (.aload_n 0, 1) := by decide +kernel
theorem dX2_init_13 : decode cX2_init 13 = .ok (.bipush 112, 2) := by decide +kernel
theorem dX2_init_15 : decode cX2_init 15 = .ok (.newarray .int, 2) := by decide +kernel
theorem dX2_init_17 : decode cX2_init 17 = .ok (.putfield 15, 3) := by decide +kernel
theorem dX2_init_20 : decode cX2_init 20 = .ok (.aload_n 0, 1) := by decide +kernel
theorem dX2_init_21 : decode cX2_init 21 = .ok (.aload_n 1, 1) := by decide +kernel
theorem dX2_init_22 : decode cX2_init 22 = .ok (.putfield 18, 3) := by decide +kernel
theorem dX2_init_25 : decode cX2_init 25 = .ok (.aload_n 0, 1) := by decide +kernel
theorem dX2_init_26 : decode cX2_init 26 = .ok (.aload_n 2, 1) := by decide +kernel
theorem dX2_init_27 : decode cX2_init 27 = .ok (.putfield 22, 3) := by decide +kernel
theorem dX2_init_30 : decode cX2_init 30 = .ok (.return_, 1) := by decide +kernel
theorem dX7_init_0 : decode cX7_init 0 = .ok (.aload_n 0, 1) := by decide +kernel
theorem dX7_init_1 : decode cX7_init 1 = .ok (.invokespecial 3, 3) := by decide +kernel
theorem dX7_init_4 : decode cX7_init 4 = .ok (.aload_n 0, 1) := by decide +kernel
theorem dX7_init_5 : decode cX7_init 5 = .ok (.new 9, 3) := by decide +kernel
theorem dX7_init_8 : decode cX7_init 8 = .ok (.dup, 1) := by decide +kernel
theorem dX7_init_9 : decode cX7_init 9 = .ok (.invokespecial 11, 3) := by decide +kernel
theorem dX7_init_12 : decode cX7_init 12 = .ok (.putfield 12, 3) := by decide +kernel
theorem dX7_init_15 : decode cX7_init 15 = .ok (.aload_n 0, 1) := by decide +kernel
theorem dX7_init_16 : decode cX7_init 16 = .ok (.bipush 19, 2) := by decide +kernel
theorem dX7_init_18 : decode cX7_init 18 = .ok (.newarray .int, 2) := by decide +kernel
theorem dX7_init_20 : decode cX7_init 20 = .ok (.putfield 20, 3) := by decide +kernel
theorem dX7_init_23 : decode cX7_init 23 = .ok (.aload_n 0, 1) := by decide +kernel
theorem dX7_init_24 : decode cX7_init 24 = .ok (.bipush 64, 2) := by decide +kernel
theorem dX7_init_26 : decode cX7_init 26 = .ok (.newarray .long, 2) := by decide +kernel
theorem dX7_init_28 : decode cX7_init 28 = .ok (.putfield 26, 3) := by decide +kernel
theorem dX7_init_31 : decode cX7_init 31 = .ok (.aload_n 0, 1) := by decide +kernel
theorem dX7_init_32 : decode cX7_init 32 = .ok (.aload_n 1, 1) := by decide +kernel
theorem dX7_init_33 : decode cX7_init 33 = .ok (.putfield 30, 3) := by decide +kernel
theorem dX7_init_36 : decode cX7_init 36 = .ok (.aload_n 0, 1) := by decide +kernel
theorem dX7_init_37 : decode cX7_init 37 = .ok (.aload_n 2, 1) := by decide +kernel
theorem dX7_init_38 : decode cX7_init 38 = .ok (.putfield 34, 3) := by decide +kernel
theorem dX7_init_41 : decode cX7_init 41 = .ok (.aload_n 0, 1) := by decide +kernel
theorem dX7_init_42 : decode cX7_init 42 = .ok (.aload_n 3, 1) := by decide +kernel
theorem dX7_init_43 : decode cX7_init 43 = .ok (.putfield 38, 3) := by decide +kernel
theorem dX7_init_46 : decode cX7_init 46 = .ok (.return_, 1) := by decide +kernel
theorem dX3_init_0 : decode cX3_init 0 = .ok (.aload_n 0, 1) := by decide +kernel
theorem dX3_init_1 : decode cX3_init 1 = .ok (.invokespecial 3, 3) := by decide +kernel
theorem dX3_init_4 : decode cX3_init 4 = .ok (.aload_n 0, 1) := by decide +kernel
theorem dX3_init_5 : decode cX3_init 5 = .ok (.new 9, 3) := by decide +kernel
theorem dX3_init_8 : decode cX3_init 8 = .ok (.dup, 1) := by decide +kernel
theorem dX3_init_9 : decode cX3_init 9 = .ok (.invokespecial 11, 3) := by decide +kernel
theorem dX3_init_12 : decode cX3_init 12 = .ok (.putfield 12, 3) := by decide +kernel
theorem dX3_init_15 : decode cX3_init 15 = .ok (.aload_n 0, 1) := by decide +kernel
theorem dX3_init_16 : decode cX3_init 16 = .ok (.new 9, 3) := by decide +kernel
theorem dX3_init_19 : decode cX3_init 19 = .ok (.dup, 1) := by decide +kernel
theorem dX3_init_20 : decode cX3_init 20 = .ok (.invokespecial 11, 3) := by decide +kernel
theorem dX3_init_23 : decode cX3_init 23 = .ok (.putfield 18, 3) := by decide +kernel
theorem dX3_init_26 : decode cX3_init 26 = .ok (.aload_n 0, 1) := by decide +kernel
theorem dX3_init_27 : decode cX3_init 27 = .ok (.aload_n 1, 1) := by decide +kernel
theorem dX3_init_28 : decode cX3_init 28 = .ok (.putfield 21, 3) := by decide +kernel
theorem dX3_init_31 : decode cX3_init 31 = .ok (.aload_n 0, 1) := by decide +kernel
theorem dX3_init_32 : decode cX3_init 32 = .ok (.aload_n 2, 1) := by decide +kernel
theorem dX3_init_33 : decode cX3_init 33 = .ok (.putfield 25, 3) := by decide +kernel
theorem dX3_init_36 : decode cX3_init 36 = .ok (.return_, 1) := by decide +kernel

theorem dfl_0 : ∀ j, j < 5 → defaultValue (tyX0 j) = vp_V [.null, .null, .null, .null, .int 0] j := by
  intro j hj
  have h : j = 0 ∨ j = 1 ∨ j = 2 ∨ j = 3 ∨ j = 4 := by omega
  rcases h with rfl | rfl | rfl | rfl | rfl <;> rfl
theorem dfl_1 : ∀ j, j < 5 → defaultValue (tyX1 j) = vp_V [.null, .null, .null, .null, .int 0] j := by
  intro j hj
  have h : j = 0 ∨ j = 1 ∨ j = 2 ∨ j = 3 ∨ j = 4 := by omega
  rcases h with rfl | rfl | rfl | rfl | rfl <;> rfl
theorem dfl_2 : ∀ j, j < 6 → defaultValue (tyX2 j) = vp_V [.null, .null, .null, .null, .int 0, .int 0] j := by
  intro j hj
  have h : j = 0 ∨ j = 1 ∨ j = 2 ∨ j = 3 ∨ j = 4 ∨ j = 5 := by omega
  rcases h with rfl | rfl | rfl | rfl | rfl | rfl <;> rfl
theorem dfl_3 : ∀ j, j < 6 → defaultValue (tyX3 j) = vp_V [.null, .null, .null, .null, .int 0, .long 0] j := by
  intro j hj
  have h : j = 0 ∨ j = 1 ∨ j = 2 ∨ j = 3 ∨ j = 4 ∨ j = 5 := by omega
  rcases h with rfl | rfl | rfl | rfl | rfl | rfl <;> rfl
theorem dfl_4 : ∀ j, j < 7 → defaultValue (tyX4 j) = vp_V [.null, .null, .null, .null, .null, .int 0, .int 0] j := by
  intro j hj
  have h : j = 0 ∨ j = 1 ∨ j = 2 ∨ j = 3 ∨ j = 4 ∨ j = 5 ∨ j = 6 := by omega
  rcases h with rfl | rfl | rfl | rfl | rfl | rfl | rfl <;> rfl
theorem dfl_5 : ∀ j, j < 4 → defaultValue (tyX5 j) = vp_V [.null, .null, .null, .null] j := by
  intro j hj
  have h : j = 0 ∨ j = 1 ∨ j = 2 ∨ j = 3 := by omega
  rcases h with rfl | rfl | rfl | rfl <;> rfl
theorem dfl_6 : ∀ j, j < 13 → defaultValue (tyX6 j) = vp_V [.null, .null, .null, .null, .null, .null, .null, .null, .int 0, .int 0, .int 0, .int 0, .int 0] j := by
  intro j hj
  have h : j = 0 ∨ j = 1 ∨ j = 2 ∨ j = 3 ∨ j = 4 ∨ j = 5 ∨ j = 6 ∨ j = 7 ∨ j = 8 ∨ j = 9 ∨ j = 10 ∨ j = 11 ∨ j = 12 := by omega
  rcases h with rfl | rfl | rfl | rfl | rfl | rfl | rfl | rfl | rfl | rfl | rfl | rfl | rfl <;> rfl
theorem dfl_7 : ∀ j, j < 8 → defaultValue (tyX7 j) = vp_V [.null, .null, .null, .null, .null, .null, .int 0, .int 0] j := by
  intro j hj
  have h : j = 0 ∨ j = 1 ∨ j = 2 ∨ j = 3 ∨ j = 4 ∨ j = 5 ∨ j = 6 ∨ j = 7 := by omega
  rcases h with rfl | rfl | rfl | rfl | rfl | rfl | rfl | rfl <;> rfl
theorem dfl_8 : ∀ j, j < 6 → defaultValue (tyX8 j) = vp_V [.null, .null, .null, .null, .int 0, .int 0] j := by
  intro j hj
  have h : j = 0 ∨ j = 1 ∨ j = 2 ∨ j = 3 ∨ j = 4 ∨ j = 5 := by omega
  rcases h with rfl | rfl | rfl | rfl | rfl | rfl <;> rfl
theorem dfl_9 : ∀ j, j < 7 → defaultValue (tyX9 j) = vp_V [.null, .null, .int 0, .int 0, .int 0, .int 0, .int 0] j := by
  intro j hj
  have h : j = 0 ∨ j = 1 ∨ j = 2 ∨ j = 3 ∨ j = 4 ∨ j = 5 ∨ j = 6 := by omega
  rcases h with rfl | rfl | rfl | rfl | rfl | rfl | rfl <;> rfl
theorem dfl_10 : ∀ j, j < 6 → defaultValue (tyX10 j) = vp_V [.null, .null, .null, .null, .int 0, .int 0] j := by
  intro j hj
  have h : j = 0 ∨ j = 1 ∨ j = 2 ∨ j = 3 ∨ j = 4 ∨ j = 5 := by omega
  rcases h with rfl | rfl | rfl | rfl | rfl | rfl <;> rfl
theorem dfl_11 : ∀ j, j < 13 → defaultValue (tyX11 j) = vp_V [.null, .null, .null, .null, .null, .null, .null, .null, .null, .int 0, .int 0, .int 0, .int 0] j := by
  intro j hj
  have h : j = 0 ∨ j = 1 ∨ j = 2 ∨ j = 3 ∨ j = 4 ∨ j = 5 ∨ j = 6 ∨ j = 7 ∨ j = 8 ∨ j = 9 ∨ j = 10 ∨ j = 11 ∨ j = 12 := by omega
  rcases h with rfl | rfl | rfl | rfl | rfl | rfl | rfl | rfl | rfl | rfl | rfl | rfl | rfl <;> rfl
theorem dfl_12 : ∀ j, j < 53 → defaultValue (tyX12 j) = vp_V [.int 0, .int 0, .null, .null, .null, .null, .null, .null, .int 0, .null, .null, .int 0, .null, .int 0, .int 0, .int 0, .int 0, .long 0, .int 0, .int 0, .int 0, .int 0, .null, .int 0, .null, .null, .int 0, .null, .null, .int 0, .int 0, .null, .null, .null, .int 0, .null, .null, .null, .int 0, .long 0, .long 0, .null, .null, .null, .null, .null, .int 0, .int 0, .int 0, .int 0, .long 0, .null, .int 0] j := by
  intro j hj
  have h : j = 0 ∨ j = 1 ∨ j = 2 ∨ j = 3 ∨ j = 4 ∨ j = 5 ∨ j = 6 ∨ j = 7 ∨ j = 8 ∨ j = 9 ∨ j = 10 ∨ j = 11 ∨ j = 12 ∨ j = 13 ∨ j = 14 ∨ j = 15 ∨ j = 16 ∨ j = 17 ∨ j = 18 ∨ j = 19 ∨ j = 20 ∨ j = 21 ∨ j = 22 ∨ j = 23 ∨ j = 24 ∨ j = 25 ∨ j = 26 ∨ j = 27 ∨ j = 28 ∨ j = 29 ∨ j = 30 ∨ j = 31 ∨ j = 32 ∨ j = 33 ∨ j = 34 ∨ j = 35 ∨ j = 36 ∨ j = 37 ∨ j = 38 ∨ j = 39 ∨ j = 40 ∨ j = 41 ∨ j = 42 ∨ j = 43 ∨ j = 44 ∨ j = 45 ∨ j = 46 ∨ j = 47 ∨ j = 48 ∨ j = 49 ∨ j = 50 ∨ j = 51 ∨ j = 52 := by omega
  rcases h with rfl | rfl | rfl | rfl | rfl | rfl | rfl | rfl | rfl | rfl | rfl | rfl | rfl | rfl | rfl | rfl | rfl | rfl | rfl | rfl | rfl | rfl | rfl | rfl | rfl | rfl | rfl | rfl | rfl | rfl | rfl | rfl | rfl | rfl | rfl | rfl | rfl | rfl | rfl | rfl | rfl | rfl | rfl | rfl | rfl | rfl | rfl | rfl | rfl | rfl | rfl | rfl | rfl <;> rfl
def wX0_init (cy : Nat → ClassId) (h0 : Nat) (u : Nat → Nat) : va_W := [(h0, .inr (0, [.ref (u 0), .ref (u 1), .ref (u 2), .ref (u 3), .int 0])), ((u 0), .inl (cy 0, 6, .inl (fun _ => 0))), ((u 1), .inl (cy 0, 6, .inl (fun _ => 0))), ((u 2), .inl (cy 0, 6, .inl (fun _ => 0))), ((u 3), .inl (cy 0, 4, .inl (fun _ => 0)))]
set_option maxHeartbeats 4000000 in
set_option maxRecDepth 100000 in
theorem nX0_init (l : Launch) (D : va_G) (cy : Nat → ClassId) (h0 : Nat) (sz : Nat) : Met l yX0_init (Cond.code yX0_init cX0_init 1 none :: TT) (rmX 1 4 22) (xPc D cy [.ref h0] [(h0, .inr (0, [.null, .null, .null, .null, .int 0]))] h0 sz) (xQv D (wX0_init cy h0) h0 sz) 4 22 (xA h0 sz) := by
  refine x_met (by decide) rfl (Nat.le_of_ble_eq_true rfl) (fun p e s m args below meth c ls E hx hb hr hlocks hown hT hin hN hml hl hP hD hS hA => ?_)
  replace hl : lv_has ls 1 [(0, .ref h0)] := hl
  have hH : s.heap = s.heap := rfl
  refine lv_aload_n hx hb dX0_init_0 rfl (lv_at hl 0 rfl) ?_
  refine W.objInit hx hb hown (hT _ k_41) (hT _ k_28) (hT _ k_29) rfl (hl.1.trans hml.symm) rfl dX0_init_1 (Nat.le_of_ble_eq_true rfl) (Nat.le_of_ble_eq_true rfl) ?_
  refine W.eq (g2 := F0 m 4 ls []) rfl ?_
  refine lv_aload_n hx hb dX0_init_4 rfl (lv_at hl 0 rfl) ?_
  refine lv_bipush (v := 6) hx hb dX0_init_5 (by decide) ?_
  refine x_newI 6 E hP hD hS hA (by decide) rfl (by decide) (Nat.le_of_ble_eq_true rfl) (Nat.le_of_ble_eq_true rfl) dX0_init_7 (fun q7 H hP hD hS => ?_)
  replace hP : va_P D classes [(h0, .inr (0, [.null, .null, .null, .null, .int 0])), (q7, .inl (cy 0, 6, .inl (fun _ => 0)))] H := hP
  replace hD : va_D (xA h0 s.heap.size) [(h0, .inr (0, [.null, .null, .null, .null, .int 0])), (q7, .inl (cy 0, 6, .inl (fun _ => 0)))] := hD
  refine va_putF (D := D) (ci := 0) (v := .ref q7) (ty := (.array .int)) (C := RX0) (T := TX0) (N := 5) hx hb hT hin_0 tyX0 tyX0_ok nmX0 hown E.2 hP hD hS 0 rfl rfl 0 (by decide) (hT _ k_42) (fun _ h9 => h9) rfl hin rfl (by decide +kernel) rfl rfl (Nat.le_of_ble_eq_true rfl) dX0_init_9 (fun H locs hP hD hS => ?_)
  replace hP : va_P D classes [(h0, .inr (0, [.ref q7, .null, .null, .null, .int 0])), (q7, .inl (cy 0, 6, .inl (fun _ => 0)))] H := hP
  replace hD : va_D (xA h0 s.heap.size) [(h0, .inr (0, [.ref q7, .null, .null, .null, .int 0])), (q7, .inl (cy 0, 6, .inl (fun _ => 0)))] := hD
  refine lv_aload_n hx hb dX0_init_12 rfl (lv_at hl 0 rfl) ?_
  refine lv_bipush (v := 6) hx hb dX0_init_13 (by decide) ?_
  refine x_newI 6 E hP hD hS hA (by decide) rfl (by decide) (Nat.le_of_ble_eq_true rfl) (Nat.le_of_ble_eq_true rfl) dX0_init_15 (fun q15 H hP hD hS => ?_)
  replace hP : va_P D classes [(h0, .inr (0, [.ref q7, .null, .null, .null, .int 0])), (q7, .inl (cy 0, 6, .inl (fun _ => 0))), (q15, .inl (cy 0, 6, .inl (fun _ => 0)))] H := hP
  replace hD : va_D (xA h0 s.heap.size) [(h0, .inr (0, [.ref q7, .null, .null, .null, .int 0])), (q7, .inl (cy 0, 6, .inl (fun _ => 0))), (q15, .inl (cy 0, 6, .inl (fun _ => 0)))] := hD
  refine va_putF (D := D) (ci := 0) (v := .ref q15) (ty := (.array .int)) (C := RX0) (T := TX0) (N := 5) hx hb hT hin_0 tyX0 tyX0_ok nmX0 hown E.2 hP hD hS 0 rfl rfl 1 (by decide) (hT _ k_48) (fun _ h9 => h9) rfl hin rfl (by decide +kernel) rfl rfl (Nat.le_of_ble_eq_true rfl) dX0_init_17 (fun H locs hP hD hS => ?_)
  replace hP : va_P D classes [(h0, .inr (0, [.ref q7, .ref q15, .null, .null, .int 0])), (q7, .inl (cy 0, 6, .inl (fun _ => 0))), (q15, .inl (cy 0, 6, .inl (fun _ => 0)))] H := hP
  replace hD : va_D (xA h0 s.heap.size) [(h0, .inr (0, [.ref q7, .ref q15, .null, .null, .int 0])), (q7, .inl (cy 0, 6, .inl (fun _ => 0))), (q15, .inl (cy 0, 6, .inl (fun _ => 0)))] := hD
  refine lv_aload_n hx hb dX0_init_20 rfl (lv_at hl 0 rfl) ?_
  refine lv_bipush (v := 6) hx hb dX0_init_21 (by decide) ?_
  refine x_newI 6 E hP hD hS hA (by decide) rfl (by decide) (Nat.le_of_ble_eq_true rfl) (Nat.le_of_ble_eq_true rfl) dX0_init_23 (fun q23 H hP hD hS => ?_)
  replace hP : va_P D classes [(h0, .inr (0, [.ref q7, .ref q15, .null, .null, .int 0])), (q7, .inl (cy 0, 6, .inl (fun _ => 0))), (q15, .inl (cy 0, 6, .inl (fun _ => 0))), (q23, .inl (cy 0, 6, .inl (fun _ => 0)))] H := hP
  replace hD : va_D (xA h0 s.heap.size) [(h0, .inr (0, [.ref q7, .ref q15, .null, .null, .int 0])), (q7, .inl (cy 0, 6, .inl (fun _ => 0))), (q15, .inl (cy 0, 6, .inl (fun _ => 0))), (q23, .inl (cy 0, 6, .inl (fun _ => 0)))] := hD
  refine va_putF (D := D) (ci := 0) (v := .ref q23) (ty := (.array .int)) (C := RX0) (T := TX0) (N := 5) hx hb hT hin_0 tyX0 tyX0_ok nmX0 hown E.2 hP hD hS 0 rfl rfl 2 (by decide) (hT _ k_55) (fun _ h9 => h9) rfl hin rfl (by decide +kernel) rfl rfl (Nat.le_of_ble_eq_true rfl) dX0_init_25 (fun H locs hP hD hS => ?_)
  replace hP : va_P D classes [(h0, .inr (0, [.ref q7, .ref q15, .ref q23, .null, .int 0])), (q7, .inl (cy 0, 6, .inl (fun _ => 0))), (q15, .inl (cy 0, 6, .inl (fun _ => 0))), (q23, .inl (cy 0, 6, .inl (fun _ => 0)))] H := hP
  replace hD : va_D (xA h0 s.heap.size) [(h0, .inr (0, [.ref q7, .ref q15, .ref q23, .null, .int 0])), (q7, .inl (cy 0, 6, .inl (fun _ => 0))), (q15, .inl (cy 0, 6, .inl (fun _ => 0))), (q23, .inl (cy 0, 6, .inl (fun _ => 0)))] := hD
  refine lv_aload_n hx hb dX0_init_28 rfl (lv_at hl 0 rfl) ?_
  refine lv_iconst (v := 4) hx hb dX0_init_29 (by decide) ?_
  refine x_newI 4 E hP hD hS hA (by decide) rfl (by decide) (Nat.le_of_ble_eq_true rfl) (Nat.le_of_ble_eq_true rfl) dX0_init_30 (fun q30 H hP hD hS => ?_)
  replace hP : va_P D classes [(h0, .inr (0, [.ref q7, .ref q15, .ref q23, .null, .int 0])), (q7, .inl (cy 0, 6, .inl (fun _ => 0))), (q15, .inl (cy 0, 6, .inl (fun _ => 0))), (q23, .inl (cy 0, 6, .inl (fun _ => 0))), (q30, .inl (cy 0, 4, .inl (fun _ => 0)))] H := hP
  replace hD : va_D (xA h0 s.heap.size) [(h0, .inr (0, [.ref q7, .ref q15, .ref q23, .null, .int 0])), (q7, .inl (cy 0, 6, .inl (fun _ => 0))), (q15, .inl (cy 0, 6, .inl (fun _ => 0))), (q23, .inl (cy 0, 6, .inl (fun _ => 0))), (q30, .inl (cy 0, 4, .inl (fun _ => 0)))] := hD
  refine va_putF (D := D) (ci := 0) (v := .ref q30) (ty := (.array .int)) (C := RX0) (T := TX0) (N := 5) hx hb hT hin_0 tyX0 tyX0_ok nmX0 hown E.2 hP hD hS 0 rfl rfl 3 (by decide) (hT _ k_59) (fun _ h9 => h9) rfl hin rfl (by decide +kernel) rfl rfl (Nat.le_of_ble_eq_true rfl) dX0_init_32 (fun H locs hP hD hS => ?_)
  replace hP : va_P D classes [(h0, .inr (0, [.ref q7, .ref q15, .ref q23, .ref q30, .int 0])), (q7, .inl (cy 0, 6, .inl (fun _ => 0))), (q15, .inl (cy 0, 6, .inl (fun _ => 0))), (q23, .inl (cy 0, 6, .inl (fun _ => 0))), (q30, .inl (cy 0, 4, .inl (fun _ => 0)))] H := hP
  replace hD : va_D (xA h0 s.heap.size) [(h0, .inr (0, [.ref q7, .ref q15, .ref q23, .ref q30, .int 0])), (q7, .inl (cy 0, 6, .inl (fun _ => 0))), (q15, .inl (cy 0, 6, .inl (fun _ => 0))), (q23, .inl (cy 0, 6, .inl (fun _ => 0))), (q30, .inl (cy 0, 4, .inl (fun _ => 0)))] := hD
  refine W.widen (k := 4) (n := 22) (Nat.le_of_ble_eq_true rfl) (Nat.le_of_ble_eq_true rfl) ?_
  exact W.vret hx hb hr (fun t ht hW => ⟨⟨(fun i => match i with | 0 => q7 | 1 => q15 | 2 => q23 | _ => q30), rfl, trivial, (by show va_P D classes [(h0, .inr (0, [.ref q7, .ref q15, .ref q23, .ref q30, .int 0])), (q7, .inl (cy 0, 6, .inl (fun _ => 0))), (q15, .inl (cy 0, 6, .inl (fun _ => 0))), (q23, .inl (cy 0, 6, .inl (fun _ => 0))), (q30, .inl (cy 0, 4, .inl (fun _ => 0)))] t.heap; rw [ht]; exact hP), hD⟩, hS.F ht⟩) hS.2.2 dX0_init_35 hlocks
def wX4_init (cy : Nat → ClassId) (h0 : Nat) (u : Nat → Nat) : va_W := [(h0, .inr (4, [.ref (u 0), .ref (u 1), .ref (u 2), .ref (u 3), .ref (u 4), .int 0, .int 0])), ((u 0), .inl (cy 0, 6, .inl (fun _ => 0))), ((u 1), .inl (cy 0, 6, .inl (fun _ => 0))), ((u 2), .inl (cy 0, 8, .inl (fun _ => 0))), ((u 3), .inl (cy 0, 8, .inl (fun _ => 0))), ((u 4), .inl (cy 0, 66, .inl (fun _ => 0)))]
set_option maxHeartbeats 4000000 in
set_option maxRecDepth 100000 in
theorem nX4_init (l : Launch) (D : va_G) (cy : Nat → ClassId) (h0 : Nat) (sz : Nat) : Met l yX4_init (Cond.code yX4_init cX4_init 1 none :: TT) (rmX 1 5 94) (xPc D cy [.ref h0] [(h0, .inr (4, [.null, .null, .null, .null, .null, .int 0, .int 0]))] h0 sz) (xQv D (wX4_init cy h0) h0 sz) 5 94 (xA h0 sz) := by
  refine x_met (by decide) rfl (Nat.le_of_ble_eq_true rfl) (fun p e s m args below meth c ls E hx hb hr hlocks hown hT hin hN hml hl hP hD hS hA => ?_)
  replace hl : lv_has ls 1 [(0, .ref h0)] := hl
  have hH : s.heap = s.heap := rfl
  refine lv_aload_n hx hb dX4_init_0 rfl (lv_at hl 0 rfl) ?_
  refine W.objInit hx hb hown (hT _ k_87) (hT _ k_28) (hT _ k_29) rfl (hl.1.trans hml.symm) rfl dX4_init_1 (Nat.le_of_ble_eq_true rfl) (Nat.le_of_ble_eq_true rfl) ?_
  refine W.eq (g2 := F0 m 4 ls []) rfl ?_
  refine lv_aload_n hx hb dX4_init_4 rfl (lv_at hl 0 rfl) ?_
  refine lv_bipush (v := 6) hx hb dX4_init_5 (by decide) ?_
  refine x_newI 6 E hP hD hS hA (by decide) rfl (by decide) (Nat.le_of_ble_eq_true rfl) (Nat.le_of_ble_eq_true rfl) dX4_init_7 (fun q7 H hP hD hS => ?_)
  replace hP : va_P D classes [(h0, .inr (4, [.null, .null, .null, .null, .null, .int 0, .int 0])), (q7, .inl (cy 0, 6, .inl (fun _ => 0)))] H := hP
  replace hD : va_D (xA h0 s.heap.size) [(h0, .inr (4, [.null, .null, .null, .null, .null, .int 0, .int 0])), (q7, .inl (cy 0, 6, .inl (fun _ => 0)))] := hD
  refine va_putF (D := D) (ci := 4) (v := .ref q7) (ty := (.array .int)) (C := RX4) (T := TX4) (N := 7) hx hb hT hin_4 tyX4 tyX4_ok nmX4 hown E.2 hP hD hS 0 rfl rfl 0 (by decide) (hT _ k_88) (fun _ h9 => h9) rfl hin rfl (by decide +kernel) rfl rfl (Nat.le_of_ble_eq_true rfl) dX4_init_9 (fun H locs hP hD hS => ?_)
  replace hP : va_P D classes [(h0, .inr (4, [.ref q7, .null, .null, .null, .null, .int 0, .int 0])), (q7, .inl (cy 0, 6, .inl (fun _ => 0)))] H := hP
  replace hD : va_D (xA h0 s.heap.size) [(h0, .inr (4, [.ref q7, .null, .null, .null, .null, .int 0, .int 0])), (q7, .inl (cy 0, 6, .inl (fun _ => 0)))] := hD
  refine lv_aload_n hx hb dX4_init_12 rfl (lv_at hl 0 rfl) ?_
  refine lv_bipush (v := 6) hx hb dX4_init_13 (by decide) ?_
  refine x_newI 6 E hP hD hS hA (by decide) rfl (by decide) (Nat.le_of_ble_eq_true rfl) (Nat.le_of_ble_eq_true rfl) dX4_init_15 (fun q15 H hP hD hS => ?_)
  replace hP : va_P D classes [(h0, .inr (4, [.ref q7, .null, .null, .null, .null, .int 0, .int 0])), (q7, .inl (cy 0, 6, .inl (fun _ => 0))), (q15, .inl (cy 0, 6, .inl (fun _ => 0)))] H := hP
  replace hD : va_D (xA h0 s.heap.size) [(h0, .inr (4, [.ref q7, .null, .null, .null, .null, .int 0, .int 0])), (q7, .inl (cy 0, 6, .inl (fun _ => 0))), (q15, .inl (cy 0, 6, .inl (fun _ => 0)))] := hD
  refine va_putF (D := D) (ci := 4) (v := .ref q15) (ty := (.array .int)) (C := RX4) (T := TX4) (N := 7) hx hb hT hin_4 tyX4 tyX4_ok nmX4 hown E.2 hP hD hS 0 rfl rfl 1 (by decide) (hT _ k_89) (fun _ h9 => h9) rfl hin rfl (by decide +kernel) rfl rfl (Nat.le_of_ble_eq_true rfl) dX4_init_17 (fun H locs hP hD hS => ?_)
  replace hP : va_P D classes [(h0, .inr (4, [.ref q7, .ref q15, .null, .null, .null, .int 0, .int 0])), (q7, .inl (cy 0, 6, .inl (fun _ => 0))), (q15, .inl (cy 0, 6, .inl (fun _ => 0)))] H := hP
  replace hD : va_D (xA h0 s.heap.size) [(h0, .inr (4, [.ref q7, .ref q15, .null, .null, .null, .int 0, .int 0])), (q7, .inl (cy 0, 6, .inl (fun _ => 0))), (q15, .inl (cy 0, 6, .inl (fun _ => 0)))] := hD
  refine lv_aload_n hx hb dX4_init_20 rfl (lv_at hl 0 rfl) ?_
  refine lv_bipush (v := 8) hx hb dX4_init_21 (by decide) ?_
  refine x_newI 8 E hP hD hS hA (by decide) rfl (by decide) (Nat.le_of_ble_eq_true rfl) (Nat.le_of_ble_eq_true rfl) dX4_init_23 (fun q23 H hP hD hS => ?_)
  replace hP : va_P D classes [(h0, .inr (4, [.ref q7, .ref q15, .null, .null, .null, .int 0, .int 0])), (q7, .inl (cy 0, 6, .inl (fun _ => 0))), (q15, .inl (cy 0, 6, .inl (fun _ => 0))), (q23, .inl (cy 0, 8, .inl (fun _ => 0)))] H := hP
  replace hD : va_D (xA h0 s.heap.size) [(h0, .inr (4, [.ref q7, .ref q15, .null, .null, .null, .int 0, .int 0])), (q7, .inl (cy 0, 6, .inl (fun _ => 0))), (q15, .inl (cy 0, 6, .inl (fun _ => 0))), (q23, .inl (cy 0, 8, .inl (fun _ => 0)))] := hD
  refine va_putF (D := D) (ci := 4) (v := .ref q23) (ty := (.array .int)) (C := RX4) (T := TX4) (N := 7) hx hb hT hin_4 tyX4 tyX4_ok nmX4 hown E.2 hP hD hS 0 rfl rfl 2 (by decide) (hT _ k_91) (fun _ h9 => h9) rfl hin rfl (by decide +kernel) rfl rfl (Nat.le_of_ble_eq_true rfl) dX4_init_25 (fun H locs hP hD hS => ?_)
  replace hP : va_P D classes [(h0, .inr (4, [.ref q7, .ref q15, .ref q23, .null, .null, .int 0, .int 0])), (q7, .inl (cy 0, 6, .inl (fun _ => 0))), (q15, .inl (cy 0, 6, .inl (fun _ => 0))), (q23, .inl (cy 0, 8, .inl (fun _ => 0)))] H := hP
  replace hD : va_D (xA h0 s.heap.size) [(h0, .inr (4, [.ref q7, .ref q15, .ref q23, .null, .null, .int 0, .int 0])), (q7, .inl (cy 0, 6, .inl (fun _ => 0))), (q15, .inl (cy 0, 6, .inl (fun _ => 0))), (q23, .inl (cy 0, 8, .inl (fun _ => 0)))] := hD
  refine lv_aload_n hx hb dX4_init_28 rfl (lv_at hl 0 rfl) ?_
  refine lv_bipush (v := 8) hx hb dX4_init_29 (by decide) ?_
  refine x_newI 8 E hP hD hS hA (by decide) rfl (by decide) (Nat.le_of_ble_eq_true rfl) (Nat.le_of_ble_eq_true rfl) dX4_init_31 (fun q31 H hP hD hS => ?_)
  replace hP : va_P D classes [(h0, .inr (4, [.ref q7, .ref q15, .ref q23, .null, .null, .int 0, .int 0])), (q7, .inl (cy 0, 6, .inl (fun _ => 0))), (q15, .inl (cy 0, 6, .inl (fun _ => 0))), (q23, .inl (cy 0, 8, .inl (fun _ => 0))), (q31, .inl (cy 0, 8, .inl (fun _ => 0)))] H := hP
  replace hD : va_D (xA h0 s.heap.size) [(h0, .inr (4, [.ref q7, .ref q15, .ref q23, .null, .null, .int 0, .int 0])), (q7, .inl (cy 0, 6, .inl (fun _ => 0))), (q15, .inl (cy 0, 6, .inl (fun _ => 0))), (q23, .inl (cy 0, 8, .inl (fun _ => 0))), (q31, .inl (cy 0, 8, .inl (fun _ => 0)))] := hD
  refine va_putF (D := D) (ci := 4) (v := .ref q31) (ty := (.array .int)) (C := RX4) (T := TX4) (N := 7) hx hb hT hin_4 tyX4 tyX4_ok nmX4 hown E.2 hP hD hS 0 rfl rfl 3 (by decide) (hT _ k_92) (fun _ h9 => h9) rfl hin rfl (by decide +kernel) rfl rfl (Nat.le_of_ble_eq_true rfl) dX4_init_33 (fun H locs hP hD hS => ?_)
  replace hP : va_P D classes [(h0, .inr (4, [.ref q7, .ref q15, .ref q23, .ref q31, .null, .int 0, .int 0])), (q7, .inl (cy 0, 6, .inl (fun _ => 0))), (q15, .inl (cy 0, 6, .inl (fun _ => 0))), (q23, .inl (cy 0, 8, .inl (fun _ => 0))), (q31, .inl (cy 0, 8, .inl (fun _ => 0)))] H := hP
  replace hD : va_D (xA h0 s.heap.size) [(h0, .inr (4, [.ref q7, .ref q15, .ref q23, .ref q31, .null, .int 0, .int 0])), (q7, .inl (cy 0, 6, .inl (fun _ => 0))), (q15, .inl (cy 0, 6, .inl (fun _ => 0))), (q23, .inl (cy 0, 8, .inl (fun _ => 0))), (q31, .inl (cy 0, 8, .inl (fun _ => 0)))] := hD
  refine lv_aload_n hx hb dX4_init_36 rfl (lv_at hl 0 rfl) ?_
  refine lv_bipush (v := 66) hx hb dX4_init_37 (by decide) ?_
  refine x_newI 66 E hP hD hS hA (by decide) rfl (by decide) (Nat.le_of_ble_eq_true rfl) (Nat.le_of_ble_eq_true rfl) dX4_init_39 (fun q39 H hP hD hS => ?_)
  replace hP : va_P D classes [(h0, .inr (4, [.ref q7, .ref q15, .ref q23, .ref q31, .null, .int 0, .int 0])), (q7, .inl (cy 0, 6, .inl (fun _ => 0))), (q15, .inl (cy 0, 6, .inl (fun _ => 0))), (q23, .inl (cy 0, 8, .inl (fun _ => 0))), (q31, .inl (cy 0, 8, .inl (fun _ => 0))), (q39, .inl (cy 0, 66, .inl (fun _ => 0)))] H := hP
  replace hD : va_D (xA h0 s.heap.size) [(h0, .inr (4, [.ref q7, .ref q15, .ref q23, .ref q31, .null, .int 0, .int 0])), (q7, .inl (cy 0, 6, .inl (fun _ => 0))), (q15, .inl (cy 0, 6, .inl (fun _ => 0))), (q23, .inl (cy 0, 8, .inl (fun _ => 0))), (q31, .inl (cy 0, 8, .inl (fun _ => 0))), (q39, .inl (cy 0, 66, .inl (fun _ => 0)))] := hD
  refine va_putF (D := D) (ci := 4) (v := .ref q39) (ty := (.array .int)) (C := RX4) (T := TX4) (N := 7) hx hb hT hin_4 tyX4 tyX4_ok nmX4 hown E.2 hP hD hS 0 rfl rfl 4 (by decide) (hT _ k_93) (fun _ h9 => h9) rfl hin rfl (by decide +kernel) rfl rfl (Nat.le_of_ble_eq_true rfl) dX4_init_41 (fun H locs hP hD hS => ?_)
  replace hP : va_P D classes [(h0, .inr (4, [.ref q7, .ref q15, .ref q23, .ref q31, .ref q39, .int 0, .int 0])), (q7, .inl (cy 0, 6, .inl (fun _ => 0))), (q15, .inl (cy 0, 6, .inl (fun _ => 0))), (q23, .inl (cy 0, 8, .inl (fun _ => 0))), (q31, .inl (cy 0, 8, .inl (fun _ => 0))), (q39, .inl (cy 0, 66, .inl (fun _ => 0)))] H := hP
  replace hD : va_D (xA h0 s.heap.size) [(h0, .inr (4, [.ref q7, .ref q15, .ref q23, .ref q31, .ref q39, .int 0, .int 0])), (q7, .inl (cy 0, 6, .inl (fun _ => 0))), (q15, .inl (cy 0, 6, .inl (fun _ => 0))), (q23, .inl (cy 0, 8, .inl (fun _ => 0))), (q31, .inl (cy 0, 8, .inl (fun _ => 0))), (q39, .inl (cy 0, 66, .inl (fun _ => 0)))] := hD
  refine W.widen (k := 5) (n := 94) (Nat.le_of_ble_eq_true rfl) (Nat.le_of_ble_eq_true rfl) ?_
  exact W.vret hx hb hr (fun t ht hW => ⟨⟨(fun i => match i with | 0 => q7 | 1 => q15 | 2 => q23 | 3 => q31 | _ => q39), rfl, trivial, (by show va_P D classes [(h0, .inr (4, [.ref q7, .ref q15, .ref q23, .ref q31, .ref q39, .int 0, .int 0])), (q7, .inl (cy 0, 6, .inl (fun _ => 0))), (q15, .inl (cy 0, 6, .inl (fun _ => 0))), (q23, .inl (cy 0, 8, .inl (fun _ => 0))), (q31, .inl (cy 0, 8, .inl (fun _ => 0))), (q39, .inl (cy 0, 66, .inl (fun _ => 0)))] t.heap; rw [ht]; exact hP), hD⟩, hS.F ht⟩) hS.2.2 dX4_init_44 hlocks
def wX1_init (cy : Nat → ClassId) (h0 : Nat) (u : Nat → Nat) : va_W := [(h0, .inr (1, [.ref (u 0), .ref (u 1), .ref (u 2), .ref (u 3), .int 0])), ((u 0), .inl (cy 0, 8, .inl (fun _ => 0))), ((u 1), .inl (cy 0, 8, .inl (fun _ => 0))), ((u 2), .inl (cy 0, 8, .inl (fun _ => 0))), ((u 3), .inl (cy 0, 99, .inl (fun _ => 0)))]
set_option maxHeartbeats 4000000 in
set_option maxRecDepth 100000 in
theorem nX1_init (l : Launch) (D : va_G) (cy : Nat → ClassId) (h0 : Nat) (sz : Nat) : Met l yX1_init (Cond.code yX1_init cX1_init 1 none :: TT) (rmX 1 4 123) (xPc D cy [.ref h0] [(h0, .inr (1, [.null, .null, .null, .null, .int 0]))] h0 sz) (xQv D (wX1_init cy h0) h0 sz) 4 123 (xA h0 sz) := by
  refine x_met (by decide) rfl (Nat.le_of_ble_eq_true rfl) (fun p e s m args below meth c ls E hx hb hr hlocks hown hT hin hN hml hl hP hD hS hA => ?_)
  replace hl : lv_has ls 1 [(0, .ref h0)] := hl
  have hH : s.heap = s.heap := rfl
  refine lv_aload_n hx hb dX1_init_0 rfl (lv_at hl 0 rfl) ?_
  refine W.objInit hx hb hown (hT _ k_118) (hT _ k_28) (hT _ k_29) rfl (hl.1.trans hml.symm) rfl dX1_init_1 (Nat.le_of_ble_eq_true rfl) (Nat.le_of_ble_eq_true rfl) ?_
  refine W.eq (g2 := F0 m 4 ls []) rfl ?_
  refine lv_aload_n hx hb dX1_init_4 rfl (lv_at hl 0 rfl) ?_
  refine lv_bipush (v := 8) hx hb dX1_init_5 (by decide) ?_
  refine x_newI 8 E hP hD hS hA (by decide) rfl (by decide) (Nat.le_of_ble_eq_true rfl) (Nat.le_of_ble_eq_true rfl) dX1_init_7 (fun q7 H hP hD hS => ?_)
  replace hP : va_P D classes [(h0, .inr (1, [.null, .null, .null, .null, .int 0])), (q7, .inl (cy 0, 8, .inl (fun _ => 0)))] H := hP
  replace hD : va_D (xA h0 s.heap.size) [(h0, .inr (1, [.null, .null, .null, .null, .int 0])), (q7, .inl (cy 0, 8, .inl (fun _ => 0)))] := hD
  refine va_putF (D := D) (ci := 1) (v := .ref q7) (ty := (.array .int)) (C := RX1) (T := TX1) (N := 5) hx hb hT hin_1 tyX1 tyX1_ok nmX1 hown E.2 hP hD hS 0 rfl rfl 0 (by decide) (hT _ k_119) (fun _ h9 => h9) rfl hin rfl (by decide +kernel) rfl rfl (Nat.le_of_ble_eq_true rfl) dX1_init_9 (fun H locs hP hD hS => ?_)
  replace hP : va_P D classes [(h0, .inr (1, [.ref q7, .null, .null, .null, .int 0])), (q7, .inl (cy 0, 8, .inl (fun _ => 0)))] H := hP
  replace hD : va_D (xA h0 s.heap.size) [(h0, .inr (1, [.ref q7, .null, .null, .null, .int 0])), (q7, .inl (cy 0, 8, .inl (fun _ => 0)))] := hD
  refine lv_aload_n hx hb dX1_init_12 rfl (lv_at hl 0 rfl) ?_
  refine lv_bipush (v := 8) hx hb dX1_init_13 (by decide) ?_
  refine x_newI 8 E hP hD hS hA (by decide) rfl (by decide) (Nat.le_of_ble_eq_true rfl) (Nat.le_of_ble_eq_true rfl) dX1_init_15 (fun q15 H hP hD hS => ?_)
  replace hP : va_P D classes [(h0, .inr (1, [.ref q7, .null, .null, .null, .int 0])), (q7, .inl (cy 0, 8, .inl (fun _ => 0))), (q15, .inl (cy 0, 8, .inl (fun _ => 0)))] H := hP
  replace hD : va_D (xA h0 s.heap.size) [(h0, .inr (1, [.ref q7, .null, .null, .null, .int 0])), (q7, .inl (cy 0, 8, .inl (fun _ => 0))), (q15, .inl (cy 0, 8, .inl (fun _ => 0)))] := hD
  refine va_putF (D := D) (ci := 1) (v := .ref q15) (ty := (.array .int)) (C := RX1) (T := TX1) (N := 5) hx hb hT hin_1 tyX1 tyX1_ok nmX1 hown E.2 hP hD hS 0 rfl rfl 1 (by decide) (hT _ k_120) (fun _ h9 => h9) rfl hin rfl (by decide +kernel) rfl rfl (Nat.le_of_ble_eq_true rfl) dX1_init_17 (fun H locs hP hD hS => ?_)
  replace hP : va_P D classes [(h0, .inr (1, [.ref q7, .ref q15, .null, .null, .int 0])), (q7, .inl (cy 0, 8, .inl (fun _ => 0))), (q15, .inl (cy 0, 8, .inl (fun _ => 0)))] H := hP
  replace hD : va_D (xA h0 s.heap.size) [(h0, .inr (1, [.ref q7, .ref q15, .null, .null, .int 0])), (q7, .inl (cy 0, 8, .inl (fun _ => 0))), (q15, .inl (cy 0, 8, .inl (fun _ => 0)))] := hD
  refine lv_aload_n hx hb dX1_init_20 rfl (lv_at hl 0 rfl) ?_
  refine lv_bipush (v := 8) hx hb dX1_init_21 (by decide) ?_
  refine x_newI 8 E hP hD hS hA (by decide) rfl (by decide) (Nat.le_of_ble_eq_true rfl) (Nat.le_of_ble_eq_true rfl) dX1_init_23 (fun q23 H hP hD hS => ?_)
  replace hP : va_P D classes [(h0, .inr (1, [.ref q7, .ref q15, .null, .null, .int 0])), (q7, .inl (cy 0, 8, .inl (fun _ => 0))), (q15, .inl (cy 0, 8, .inl (fun _ => 0))), (q23, .inl (cy 0, 8, .inl (fun _ => 0)))] H := hP
  replace hD : va_D (xA h0 s.heap.size) [(h0, .inr (1, [.ref q7, .ref q15, .null, .null, .int 0])), (q7, .inl (cy 0, 8, .inl (fun _ => 0))), (q15, .inl (cy 0, 8, .inl (fun _ => 0))), (q23, .inl (cy 0, 8, .inl (fun _ => 0)))] := hD
  refine va_putF (D := D) (ci := 1) (v := .ref q23) (ty := (.array .int)) (C := RX1) (T := TX1) (N := 5) hx hb hT hin_1 tyX1 tyX1_ok nmX1 hown E.2 hP hD hS 0 rfl rfl 2 (by decide) (hT _ k_121) (fun _ h9 => h9) rfl hin rfl (by decide +kernel) rfl rfl (Nat.le_of_ble_eq_true rfl) dX1_init_25 (fun H locs hP hD hS => ?_)
  replace hP : va_P D classes [(h0, .inr (1, [.ref q7, .ref q15, .ref q23, .null, .int 0])), (q7, .inl (cy 0, 8, .inl (fun _ => 0))), (q15, .inl (cy 0, 8, .inl (fun _ => 0))), (q23, .inl (cy 0, 8, .inl (fun _ => 0)))] H := hP
  replace hD : va_D (xA h0 s.heap.size) [(h0, .inr (1, [.ref q7, .ref q15, .ref q23, .null, .int 0])), (q7, .inl (cy 0, 8, .inl (fun _ => 0))), (q15, .inl (cy 0, 8, .inl (fun _ => 0))), (q23, .inl (cy 0, 8, .inl (fun _ => 0)))] := hD
  refine lv_aload_n hx hb dX1_init_28 rfl (lv_at hl 0 rfl) ?_
  refine lv_bipush (v := 99) hx hb dX1_init_29 (by decide) ?_
  refine x_newI 99 E hP hD hS hA (by decide) rfl (by decide) (Nat.le_of_ble_eq_true rfl) (Nat.le_of_ble_eq_true rfl) dX1_init_31 (fun q31 H hP hD hS => ?_)
  replace hP : va_P D classes [(h0, .inr (1, [.ref q7, .ref q15, .ref q23, .null, .int 0])), (q7, .inl (cy 0, 8, .inl (fun _ => 0))), (q15, .inl (cy 0, 8, .inl (fun _ => 0))), (q23, .inl (cy 0, 8, .inl (fun _ => 0))), (q31, .inl (cy 0, 99, .inl (fun _ => 0)))] H := hP
  replace hD : va_D (xA h0 s.heap.size) [(h0, .inr (1, [.ref q7, .ref q15, .ref q23, .null, .int 0])), (q7, .inl (cy 0, 8, .inl (fun _ => 0))), (q15, .inl (cy 0, 8, .inl (fun _ => 0))), (q23, .inl (cy 0, 8, .inl (fun _ => 0))), (q31, .inl (cy 0, 99, .inl (fun _ => 0)))] := hD
  refine va_putF (D := D) (ci := 1) (v := .ref q31) (ty := (.array .int)) (C := RX1) (T := TX1) (N := 5) hx hb hT hin_1 tyX1 tyX1_ok nmX1 hown E.2 hP hD hS 0 rfl rfl 3 (by decide) (hT _ k_122) (fun _ h9 => h9) rfl hin rfl (by decide +kernel) rfl rfl (Nat.le_of_ble_eq_true rfl) dX1_init_33 (fun H locs hP hD hS => ?_)
  replace hP : va_P D classes [(h0, .inr (1, [.ref q7, .ref q15, .ref q23, .ref q31, .int 0])), (q7, .inl (cy 0, 8, .inl (fun _ => 0))), (q15, .inl (cy 0, 8, .inl (fun _ => 0))), (q23, .inl (cy 0, 8, .inl (fun _ => 0))), (q31, .inl (cy 0, 99, .inl (fun _ => 0)))] H := hP
  replace hD : va_D (xA h0 s.heap.size) [(h0, .inr (1, [.ref q7, .ref q15, .ref q23, .ref q31, .int 0])), (q7, .inl (cy 0, 8, .inl (fun _ => 0))), (q15, .inl (cy 0, 8, .inl (fun _ => 0))), (q23, .inl (cy 0, 8, .inl (fun _ => 0))), (q31, .inl (cy 0, 99, .inl (fun _ => 0)))] := hD
  refine W.widen (k := 4) (n := 123) (Nat.le_of_ble_eq_true rfl) (Nat.le_of_ble_eq_true rfl) ?_
  exact W.vret hx hb hr (fun t ht hW => ⟨⟨(fun i => match i with | 0 => q7 | 1 => q15 | 2 => q23 | _ => q31), rfl, trivial, (by show va_P D classes [(h0, .inr (1, [.ref q7, .ref q15, .ref q23, .ref q31, .int 0])), (q7, .inl (cy 0, 8, .inl (fun _ => 0))), (q15, .inl (cy 0, 8, .inl (fun _ => 0))), (q23, .inl (cy 0, 8, .inl (fun _ => 0))), (q31, .inl (cy 0, 99, .inl (fun _ => 0)))] t.heap; rw [ht]; exact hP), hD⟩, hS.F ht⟩) hS.2.2 dX1_init_36 hlocks
def wX10_init (cy : Nat → ClassId) (h0 : Nat) (u : Nat → Nat) : va_W := [(h0, .inr (10, [.ref (u 0), .ref (u 1), .ref (u 2), .ref (u 3), .int 0, .int 0])), ((u 0), .inl (cy 0, 400, .inl (fun _ => 0))), ((u 1), .inl (cy 0, 401, .inl (fun _ => 0))), ((u 2), .inl (cy 0, 401, .inl (fun _ => 0))), ((u 3), .inl (cy 0, 401, .inl (fun _ => 0)))]
set_option maxHeartbeats 4000000 in
set_option maxRecDepth 100000 in
theorem nX10_init (l : Launch) (D : va_G) (cy : Nat → ClassId) (h0 : Nat) (sz : Nat) : Met l yX10_init (Cond.code yX10_init cX10_init 1 none :: TT) (rmX 1 4 1603) (xPc D cy [.ref h0] [(h0, .inr (10, [.null, .null, .null, .null, .int 0, .int 0]))] h0 sz) (xQv D (wX10_init cy h0) h0 sz) 4 1603 (xA h0 sz) := by
  refine x_met (by decide) rfl (Nat.le_of_ble_eq_true rfl) (fun p e s m args below meth c ls E hx hb hr hlocks hown hT hin hN hml hl hP hD hS hA => ?_)
  replace hl : lv_has ls 1 [(0, .ref h0)] := hl
  have hH : s.heap = s.heap := rfl
  refine lv_aload_n hx hb dX10_init_0 rfl (lv_at hl 0 rfl) ?_
  refine W.objInit hx hb hown (hT _ k_215) (hT _ k_28) (hT _ k_29) rfl (hl.1.trans hml.symm) rfl dX10_init_1 (Nat.le_of_ble_eq_true rfl) (Nat.le_of_ble_eq_true rfl) ?_
  refine W.eq (g2 := F0 m 4 ls []) rfl ?_
  refine lv_aload_n hx hb dX10_init_4 rfl (lv_at hl 0 rfl) ?_
  refine lv_sipush (v := 400) hx hb dX10_init_5 (by decide) ?_
  refine x_newI 400 E hP hD hS hA (by decide) rfl (by decide) (Nat.le_of_ble_eq_true rfl) (Nat.le_of_ble_eq_true rfl) dX10_init_8 (fun q8 H hP hD hS => ?_)
  replace hP : va_P D classes [(h0, .inr (10, [.null, .null, .null, .null, .int 0, .int 0])), (q8, .inl (cy 0, 400, .inl (fun _ => 0)))] H := hP
  replace hD : va_D (xA h0 s.heap.size) [(h0, .inr (10, [.null, .null, .null, .null, .int 0, .int 0])), (q8, .inl (cy 0, 400, .inl (fun _ => 0)))] := hD
  refine va_putF (D := D) (ci := 10) (v := .ref q8) (ty := (.array .int)) (C := RX10) (T := TX10) (N := 6) hx hb hT hin_10 tyX10 tyX10_ok nmX10 hown E.2 hP hD hS 0 rfl rfl 0 (by decide) (hT _ k_216) (fun _ h9 => h9) rfl hin rfl (by decide +kernel) rfl rfl (Nat.le_of_ble_eq_true rfl) dX10_init_10 (fun H locs hP hD hS => ?_)
  replace hP : va_P D classes [(h0, .inr (10, [.ref q8, .null, .null, .null, .int 0, .int 0])), (q8, .inl (cy 0, 400, .inl (fun _ => 0)))] H := hP
  replace hD : va_D (xA h0 s.heap.size) [(h0, .inr (10, [.ref q8, .null, .null, .null, .int 0, .int 0])), (q8, .inl (cy 0, 400, .inl (fun _ => 0)))] := hD
  refine lv_aload_n hx hb dX10_init_13 rfl (lv_at hl 0 rfl) ?_
  refine lv_sipush (v := 401) hx hb dX10_init_14 (by decide) ?_
  refine x_newI 401 E hP hD hS hA (by decide) rfl (by decide) (Nat.le_of_ble_eq_true rfl) (Nat.le_of_ble_eq_true rfl) dX10_init_17 (fun q17 H hP hD hS => ?_)
  replace hP : va_P D classes [(h0, .inr (10, [.ref q8, .null, .null, .null, .int 0, .int 0])), (q8, .inl (cy 0, 400, .inl (fun _ => 0))), (q17, .inl (cy 0, 401, .inl (fun _ => 0)))] H := hP
  replace hD : va_D (xA h0 s.heap.size) [(h0, .inr (10, [.ref q8, .null, .null, .null, .int 0, .int 0])), (q8, .inl (cy 0, 400, .inl (fun _ => 0))), (q17, .inl (cy 0, 401, .inl (fun _ => 0)))] := hD
  refine va_putF (D := D) (ci := 10) (v := .ref q17) (ty := (.array .int)) (C := RX10) (T := TX10) (N := 6) hx hb hT hin_10 tyX10 tyX10_ok nmX10 hown E.2 hP hD hS 0 rfl rfl 1 (by decide) (hT _ k_218) (fun _ h9 => h9) rfl hin rfl (by decide +kernel) rfl rfl (Nat.le_of_ble_eq_true rfl) dX10_init_19 (fun H locs hP hD hS => ?_)
  replace hP : va_P D classes [(h0, .inr (10, [.ref q8, .ref q17, .null, .null, .int 0, .int 0])), (q8, .inl (cy 0, 400, .inl (fun _ => 0))), (q17, .inl (cy 0, 401, .inl (fun _ => 0)))] H := hP
  replace hD : va_D (xA h0 s.heap.size) [(h0, .inr (10, [.ref q8, .ref q17, .null, .null, .int 0, .int 0])), (q8, .inl (cy 0, 400, .inl (fun _ => 0))), (q17, .inl (cy 0, 401, .inl (fun _ => 0)))] := hD
  refine lv_aload_n hx hb dX10_init_22 rfl (lv_at hl 0 rfl) ?_
  refine lv_sipush (v := 401) hx hb dX10_init_23 (by decide) ?_
  refine x_newI 401 E hP hD hS hA (by decide) rfl (by decide) (Nat.le_of_ble_eq_true rfl) (Nat.le_of_ble_eq_true rfl) dX10_init_26 (fun q26 H hP hD hS => ?_)
  replace hP : va_P D classes [(h0, .inr (10, [.ref q8, .ref q17, .null, .null, .int 0, .int 0])), (q8, .inl (cy 0, 400, .inl (fun _ => 0))), (q17, .inl (cy 0, 401, .inl (fun _ => 0))), (q26, .inl (cy 0, 401, .inl (fun _ => 0)))] H := hP
  replace hD : va_D (xA h0 s.heap.size) [(h0, .inr (10, [.ref q8, .ref q17, .null, .null, .int 0, .int 0])), (q8, .inl (cy 0, 400, .inl (fun _ => 0))), (q17, .inl (cy 0, 401, .inl (fun _ => 0))), (q26, .inl (cy 0, 401, .inl (fun _ => 0)))] := hD
  refine va_putF (D := D) (ci := 10) (v := .ref q26) (ty := (.array .int)) (C := RX10) (T := TX10) (N := 6) hx hb hT hin_10 tyX10 tyX10_ok nmX10 hown E.2 hP hD hS 0 rfl rfl 2 (by decide) (hT _ k_220) (fun _ h9 => h9) rfl hin rfl (by decide +kernel) rfl rfl (Nat.le_of_ble_eq_true rfl) dX10_init_28 (fun H locs hP hD hS => ?_)
  replace hP : va_P D classes [(h0, .inr (10, [.ref q8, .ref q17, .ref q26, .null, .int 0, .int 0])), (q8, .inl (cy 0, 400, .inl (fun _ => 0))), (q17, .inl (cy 0, 401, .inl (fun _ => 0))), (q26, .inl (cy 0, 401, .inl (fun _ => 0)))] H := hP
  replace hD : va_D (xA h0 s.heap.size) [(h0, .inr (10, [.ref q8, .ref q17, .ref q26, .null, .int 0, .int 0])), (q8, .inl (cy 0, 400, .inl (fun _ => 0))), (q17, .inl (cy 0, 401, .inl (fun _ => 0))), (q26, .inl (cy 0, 401, .inl (fun _ => 0)))] := hD
  refine lv_aload_n hx hb dX10_init_31 rfl (lv_at hl 0 rfl) ?_
  refine lv_sipush (v := 401) hx hb dX10_init_32 (by decide) ?_
  refine x_newI 401 E hP hD hS hA (by decide) rfl (by decide) (Nat.le_of_ble_eq_true rfl) (Nat.le_of_ble_eq_true rfl) dX10_init_35 (fun q35 H hP hD hS => ?_)
  replace hP : va_P D classes [(h0, .inr (10, [.ref q8, .ref q17, .ref q26, .null, .int 0, .int 0])), (q8, .inl (cy 0, 400, .inl (fun _ => 0))), (q17, .inl (cy 0, 401, .inl (fun _ => 0))), (q26, .inl (cy 0, 401, .inl (fun _ => 0))), (q35, .inl (cy 0, 401, .inl (fun _ => 0)))] H := hP
  replace hD : va_D (xA h0 s.heap.size) [(h0, .inr (10, [.ref q8, .ref q17, .ref q26, .null, .int 0, .int 0])), (q8, .inl (cy 0, 400, .inl (fun _ => 0))), (q17, .inl (cy 0, 401, .inl (fun _ => 0))), (q26, .inl (cy 0, 401, .inl (fun _ => 0))), (q35, .inl (cy 0, 401, .inl (fun _ => 0)))] := hD
  refine va_putF (D := D) (ci := 10) (v := .ref q35) (ty := (.array .int)) (C := RX10) (T := TX10) (N := 6) hx hb hT hin_10 tyX10 tyX10_ok nmX10 hown E.2 hP hD hS 0 rfl rfl 3 (by decide) (hT _ k_222) (fun _ h9 => h9) rfl hin rfl (by decide +kernel) rfl rfl (Nat.le_of_ble_eq_true rfl) dX10_init_37 (fun H locs hP hD hS => ?_)
  replace hP : va_P D classes [(h0, .inr (10, [.ref q8, .ref q17, .ref q26, .ref q35, .int 0, .int 0])), (q8, .inl (cy 0, 400, .inl (fun _ => 0))), (q17, .inl (cy 0, 401, .inl (fun _ => 0))), (q26, .inl (cy 0, 401, .inl (fun _ => 0))), (q35, .inl (cy 0, 401, .inl (fun _ => 0)))] H := hP
  replace hD : va_D (xA h0 s.heap.size) [(h0, .inr (10, [.ref q8, .ref q17, .ref q26, .ref q35, .int 0, .int 0])), (q8, .inl (cy 0, 400, .inl (fun _ => 0))), (q17, .inl (cy 0, 401, .inl (fun _ => 0))), (q26, .inl (cy 0, 401, .inl (fun _ => 0))), (q35, .inl (cy 0, 401, .inl (fun _ => 0)))] := hD
  refine W.widen (k := 4) (n := 1603) (Nat.le_of_ble_eq_true rfl) (Nat.le_of_ble_eq_true rfl) ?_
  exact W.vret hx hb hr (fun t ht hW => ⟨⟨(fun i => match i with | 0 => q8 | 1 => q17 | 2 => q26 | _ => q35), rfl, trivial, (by show va_P D classes [(h0, .inr (10, [.ref q8, .ref q17, .ref q26, .ref q35, .int 0, .int 0])), (q8, .inl (cy 0, 400, .inl (fun _ => 0))), (q17, .inl (cy 0, 401, .inl (fun _ => 0))), (q26, .inl (cy 0, 401, .inl (fun _ => 0))), (q35, .inl (cy 0, 401, .inl (fun _ => 0)))] t.heap; rw [ht]; exact hP), hD⟩, hS.F ht⟩) hS.2.2 dX10_init_40 hlocks
def wX8_init (cy : Nat → ClassId) (h0 : Nat) (u : Nat → Nat) : va_W := [(h0, .inr (8, [.ref (u 0), .ref (u 1), .ref (u 2), .ref (u 3), .int 0, .int 0])), ((u 0), .inl (cy 0, 12, .inl (fun _ => 0))), ((u 1), .inl (cy 0, 12, .inl (fun _ => 0))), ((u 2), .inl (cy 0, 48, .inl (fun _ => 0))), ((u 3), .inl (cy 0, 400, .inl (fun _ => 0)))]
set_option maxHeartbeats 4000000 in
set_option maxRecDepth 100000 in
theorem nX8_init (l : Launch) (D : va_G) (cy : Nat → ClassId) (h0 : Nat) (sz : Nat) : Met l yX8_init (Cond.code yX8_init cX8_init 1 none :: TT) (rmX 1 4 472) (xPc D cy [.ref h0] [(h0, .inr (8, [.null, .null, .null, .null, .int 0, .int 0]))] h0 sz) (xQv D (wX8_init cy h0) h0 sz) 4 472 (xA h0 sz) := by
  refine x_met (by decide) rfl (Nat.le_of_ble_eq_true rfl) (fun p e s m args below meth c ls E hx hb hr hlocks hown hT hin hN hml hl hP hD hS hA => ?_)
  replace hl : lv_has ls 1 [(0, .ref h0)] := hl
  have hH : s.heap = s.heap := rfl
  refine lv_aload_n hx hb dX8_init_0 rfl (lv_at hl 0 rfl) ?_
  refine W.objInit hx hb hown (hT _ k_246) (hT _ k_28) (hT _ k_29) rfl (hl.1.trans hml.symm) rfl dX8_init_1 (Nat.le_of_ble_eq_true rfl) (Nat.le_of_ble_eq_true rfl) ?_
  refine W.eq (g2 := F0 m 4 ls []) rfl ?_
  refine lv_aload_n hx hb dX8_init_4 rfl (lv_at hl 0 rfl) ?_
  refine lv_bipush (v := 12) hx hb dX8_init_5 (by decide) ?_
  refine x_newI 12 E hP hD hS hA (by decide) rfl (by decide) (Nat.le_of_ble_eq_true rfl) (Nat.le_of_ble_eq_true rfl) dX8_init_7 (fun q7 H hP hD hS => ?_)
  replace hP : va_P D classes [(h0, .inr (8, [.null, .null, .null, .null, .int 0, .int 0])), (q7, .inl (cy 0, 12, .inl (fun _ => 0)))] H := hP
  replace hD : va_D (xA h0 s.heap.size) [(h0, .inr (8, [.null, .null, .null, .null, .int 0, .int 0])), (q7, .inl (cy 0, 12, .inl (fun _ => 0)))] := hD
  refine va_putF (D := D) (ci := 8) (v := .ref q7) (ty := (.array .int)) (C := RX8) (T := TX8) (N := 6) hx hb hT hin_8 tyX8 tyX8_ok nmX8 hown E.2 hP hD hS 0 rfl rfl 0 (by decide) (hT _ k_247) (fun _ h9 => h9) rfl hin rfl (by decide +kernel) rfl rfl (Nat.le_of_ble_eq_true rfl) dX8_init_9 (fun H locs hP hD hS => ?_)
  replace hP : va_P D classes [(h0, .inr (8, [.ref q7, .null, .null, .null, .int 0, .int 0])), (q7, .inl (cy 0, 12, .inl (fun _ => 0)))] H := hP
  replace hD : va_D (xA h0 s.heap.size) [(h0, .inr (8, [.ref q7, .null, .null, .null, .int 0, .int 0])), (q7, .inl (cy 0, 12, .inl (fun _ => 0)))] := hD
  refine lv_aload_n hx hb dX8_init_12 rfl (lv_at hl 0 rfl) ?_
  refine lv_bipush (v := 12) hx hb dX8_init_13 (by decide) ?_
  refine x_newI 12 E hP hD hS hA (by decide) rfl (by decide) (Nat.le_of_ble_eq_true rfl) (Nat.le_of_ble_eq_true rfl) dX8_init_15 (fun q15 H hP hD hS => ?_)
  replace hP : va_P D classes [(h0, .inr (8, [.ref q7, .null, .null, .null, .int 0, .int 0])), (q7, .inl (cy 0, 12, .inl (fun _ => 0))), (q15, .inl (cy 0, 12, .inl (fun _ => 0)))] H := hP
  replace hD : va_D (xA h0 s.heap.size) [(h0, .inr (8, [.ref q7, .null, .null, .null, .int 0, .int 0])), (q7, .inl (cy 0, 12, .inl (fun _ => 0))), (q15, .inl (cy 0, 12, .inl (fun _ => 0)))] := hD
  refine va_putF (D := D) (ci := 8) (v := .ref q15) (ty := (.array .int)) (C := RX8) (T := TX8) (N := 6) hx hb hT hin_8 tyX8 tyX8_ok nmX8 hown E.2 hP hD hS 0 rfl rfl 1 (by decide) (hT _ k_250) (fun _ h9 => h9) rfl hin rfl (by decide +kernel) rfl rfl (Nat.le_of_ble_eq_true rfl) dX8_init_17 (fun H locs hP hD hS => ?_)
  replace hP : va_P D classes [(h0, .inr (8, [.ref q7, .ref q15, .null, .null, .int 0, .int 0])), (q7, .inl (cy 0, 12, .inl (fun _ => 0))), (q15, .inl (cy 0, 12, .inl (fun _ => 0)))] H := hP
  replace hD : va_D (xA h0 s.heap.size) [(h0, .inr (8, [.ref q7, .ref q15, .null, .null, .int 0, .int 0])), (q7, .inl (cy 0, 12, .inl (fun _ => 0))), (q15, .inl (cy 0, 12, .inl (fun _ => 0)))] := hD
  refine lv_aload_n hx hb dX8_init_20 rfl (lv_at hl 0 rfl) ?_
  refine lv_bipush (v := 48) hx hb dX8_init_21 (by decide) ?_
  refine x_newI 48 E hP hD hS hA (by decide) rfl (by decide) (Nat.le_of_ble_eq_true rfl) (Nat.le_of_ble_eq_true rfl) dX8_init_23 (fun q23 H hP hD hS => ?_)
  replace hP : va_P D classes [(h0, .inr (8, [.ref q7, .ref q15, .null, .null, .int 0, .int 0])), (q7, .inl (cy 0, 12, .inl (fun _ => 0))), (q15, .inl (cy 0, 12, .inl (fun _ => 0))), (q23, .inl (cy 0, 48, .inl (fun _ => 0)))] H := hP
  replace hD : va_D (xA h0 s.heap.size) [(h0, .inr (8, [.ref q7, .ref q15, .null, .null, .int 0, .int 0])), (q7, .inl (cy 0, 12, .inl (fun _ => 0))), (q15, .inl (cy 0, 12, .inl (fun _ => 0))), (q23, .inl (cy 0, 48, .inl (fun _ => 0)))] := hD
  refine va_putF (D := D) (ci := 8) (v := .ref q23) (ty := (.array .int)) (C := RX8) (T := TX8) (N := 6) hx hb hT hin_8 tyX8 tyX8_ok nmX8 hown E.2 hP hD hS 0 rfl rfl 2 (by decide) (hT _ k_252) (fun _ h9 => h9) rfl hin rfl (by decide +kernel) rfl rfl (Nat.le_of_ble_eq_true rfl) dX8_init_25 (fun H locs hP hD hS => ?_)
  replace hP : va_P D classes [(h0, .inr (8, [.ref q7, .ref q15, .ref q23, .null, .int 0, .int 0])), (q7, .inl (cy 0, 12, .inl (fun _ => 0))), (q15, .inl (cy 0, 12, .inl (fun _ => 0))), (q23, .inl (cy 0, 48, .inl (fun _ => 0)))] H := hP
  replace hD : va_D (xA h0 s.heap.size) [(h0, .inr (8, [.ref q7, .ref q15, .ref q23, .null, .int 0, .int 0])), (q7, .inl (cy 0, 12, .inl (fun _ => 0))), (q15, .inl (cy 0, 12, .inl (fun _ => 0))), (q23, .inl (cy 0, 48, .inl (fun _ => 0)))] := hD
  refine lv_aload_n hx hb dX8_init_28 rfl (lv_at hl 0 rfl) ?_
  refine lv_sipush (v := 400) hx hb dX8_init_29 (by decide) ?_
  refine x_newI 400 E hP hD hS hA (by decide) rfl (by decide) (Nat.le_of_ble_eq_true rfl) (Nat.le_of_ble_eq_true rfl) dX8_init_32 (fun q32 H hP hD hS => ?_)
  replace hP : va_P D classes [(h0, .inr (8, [.ref q7, .ref q15, .ref q23, .null, .int 0, .int 0])), (q7, .inl (cy 0, 12, .inl (fun _ => 0))), (q15, .inl (cy 0, 12, .inl (fun _ => 0))), (q23, .inl (cy 0, 48, .inl (fun _ => 0))), (q32, .inl (cy 0, 400, .inl (fun _ => 0)))] H := hP
  replace hD : va_D (xA h0 s.heap.size) [(h0, .inr (8, [.ref q7, .ref q15, .ref q23, .null, .int 0, .int 0])), (q7, .inl (cy 0, 12, .inl (fun _ => 0))), (q15, .inl (cy 0, 12, .inl (fun _ => 0))), (q23, .inl (cy 0, 48, .inl (fun _ => 0))), (q32, .inl (cy 0, 400, .inl (fun _ => 0)))] := hD
  refine va_putF (D := D) (ci := 8) (v := .ref q32) (ty := (.array .int)) (C := RX8) (T := TX8) (N := 6) hx hb hT hin_8 tyX8 tyX8_ok nmX8 hown E.2 hP hD hS 0 rfl rfl 3 (by decide) (hT _ k_253) (fun _ h9 => h9) rfl hin rfl (by decide +kernel) rfl rfl (Nat.le_of_ble_eq_true rfl) dX8_init_34 (fun H locs hP hD hS => ?_)
  replace hP : va_P D classes [(h0, .inr (8, [.ref q7, .ref q15, .ref q23, .ref q32, .int 0, .int 0])), (q7, .inl (cy 0, 12, .inl (fun _ => 0))), (q15, .inl (cy 0, 12, .inl (fun _ => 0))), (q23, .inl (cy 0, 48, .inl (fun _ => 0))), (q32, .inl (cy 0, 400, .inl (fun _ => 0)))] H := hP
  replace hD : va_D (xA h0 s.heap.size) [(h0, .inr (8, [.ref q7, .ref q15, .ref q23, .ref q32, .int 0, .int 0])), (q7, .inl (cy 0, 12, .inl (fun _ => 0))), (q15, .inl (cy 0, 12, .inl (fun _ => 0))), (q23, .inl (cy 0, 48, .inl (fun _ => 0))), (q32, .inl (cy 0, 400, .inl (fun _ => 0)))] := hD
  refine W.widen (k := 4) (n := 472) (Nat.le_of_ble_eq_true rfl) (Nat.le_of_ble_eq_true rfl) ?_
  exact W.vret hx hb hr (fun t ht hW => ⟨⟨(fun i => match i with | 0 => q7 | 1 => q15 | 2 => q23 | _ => q32), rfl, trivial, (by show va_P D classes [(h0, .inr (8, [.ref q7, .ref q15, .ref q23, .ref q32, .int 0, .int 0])), (q7, .inl (cy 0, 12, .inl (fun _ => 0))), (q15, .inl (cy 0, 12, .inl (fun _ => 0))), (q23, .inl (cy 0, 48, .inl (fun _ => 0))), (q32, .inl (cy 0, 400, .inl (fun _ => 0)))] t.heap; rw [ht]; exact hP), hD⟩, hS.F ht⟩) hS.2.2 dX8_init_37 hlocks
def wX9_init (cy : Nat → ClassId) (h0 : Nat) (r0 : Nat) (r1 : Nat) (u : Nat → Nat) : va_W := [(h0, .inr (9, [.ref r0, .ref r1, .int 0, .int 0, .int 0, .int 0, .int 0]))]
set_option maxHeartbeats 4000000 in
set_option maxRecDepth 100000 in
theorem nX9_init (l : Launch) (D : va_G) (cy : Nat → ClassId) (h0 : Nat) (r0 : Nat) (r1 : Nat) (sz : Nat) : Met l yX9_init (Cond.code yX9_init cX9_init 3 none :: TT) (rmX 1 0 0) (xPc D cy [.ref h0, .ref r0, .ref r1] [(h0, .inr (9, [.null, .null, .int 0, .int 0, .int 0, .int 0, .int 0]))] h0 sz) (xQv D (wX9_init cy h0 r0 r1) h0 sz) 0 0 (xA h0 sz) := by
  refine x_met (by decide) rfl (Nat.le_of_ble_eq_true rfl) (fun p e s m args below meth c ls E hx hb hr hlocks hown hT hin hN hml hl hP hD hS hA => ?_)
  replace hl : lv_has ls 3 [(0, .ref h0), (1, .ref r0), (2, .ref r1)] := hl
  have hH : s.heap = s.heap := rfl
  refine lv_aload_n hx hb dX9_init_0 rfl (lv_at hl 0 rfl) ?_
  refine W.objInit hx hb hown (hT _ k_276) (hT _ k_28) (hT _ k_29) rfl (hl.1.trans hml.symm) rfl dX9_init_1 (Nat.le_of_ble_eq_true rfl) (Nat.le_of_ble_eq_true rfl) ?_
  refine W.eq (g2 := F0 m 4 ls []) rfl ?_
  refine lv_aload_n hx hb dX9_init_4 rfl (lv_at hl 0 rfl) ?_
  refine lv_aload_n hx hb dX9_init_5 rfl (lv_at hl 1 rfl) ?_
  refine va_putF (D := D) (ci := 9) (v := .ref r0) (ty := (.object "OpenGates$Tape")) (C := RX9) (T := TX9) (N := 7) hx hb hT hin_9 tyX9 tyX9_ok nmX9 hown E.2 hP hD hS 0 rfl rfl 0 (by decide) (hT _ k_277) (fun _ h9 => h9) rfl hin rfl (by decide +kernel) rfl rfl (Nat.le_of_ble_eq_true rfl) dX9_init_6 (fun H locs hP hD hS => ?_)
  replace hP : va_P D classes [(h0, .inr (9, [.ref r0, .null, .int 0, .int 0, .int 0, .int 0, .int 0]))] H := hP
  replace hD : va_D (xA h0 s.heap.size) [(h0, .inr (9, [.ref r0, .null, .int 0, .int 0, .int 0, .int 0, .int 0]))] := hD
  refine lv_aload_n hx hb dX9_init_9 rfl (lv_at hl 0 rfl) ?_
  refine lv_aload_n hx hb dX9_init_10 rfl (lv_at hl 2 rfl) ?_
  refine va_putF (D := D) (ci := 9) (v := .ref r1) (ty := (.object "OpenGates$Program")) (C := RX9) (T := TX9) (N := 7) hx hb hT hin_9 tyX9 tyX9_ok nmX9 hown E.2 hP hD hS 0 rfl rfl 1 (by decide) (hT _ k_278) (fun _ h9 => h9) rfl hin rfl (by decide +kernel) rfl rfl (Nat.le_of_ble_eq_true rfl) dX9_init_11 (fun H locs hP hD hS => ?_)
  replace hP : va_P D classes [(h0, .inr (9, [.ref r0, .ref r1, .int 0, .int 0, .int 0, .int 0, .int 0]))] H := hP
  replace hD : va_D (xA h0 s.heap.size) [(h0, .inr (9, [.ref r0, .ref r1, .int 0, .int 0, .int 0, .int 0, .int 0]))] := hD
  refine W.widen (k := 0) (n := 0) (Nat.le_of_ble_eq_true rfl) (Nat.le_of_ble_eq_true rfl) ?_
  exact W.vret hx hb hr (fun t ht hW => ⟨⟨(fun _ => 0), rfl, trivial, (by show va_P D classes [(h0, .inr (9, [.ref r0, .ref r1, .int 0, .int 0, .int 0, .int 0, .int 0]))] t.heap; rw [ht]; exact hP), hD⟩, hS.F ht⟩) hS.2.2 dX9_init_14 hlocks
def wX5_init (cy : Nat → ClassId) (h0 : Nat) (r0 : Nat) (u : Nat → Nat) : va_W := [(h0, .inr (5, [.ref r0, .ref (u 0), .ref (u 1), .ref (u 2)])), ((u 0), .inl (cy 0, 10, .inl (fun _ => 0))), ((u 1), .inl (cy 0, 6, .inl (fun _ => 0))), ((u 2), .inl (cy 1, 64, .inr (.inl (fun _ => 0))))]
set_option maxHeartbeats 4000000 in
set_option maxRecDepth 100000 in
theorem nX5_init (l : Launch) (D : va_G) (cy : Nat → ClassId) (h0 : Nat) (r0 : Nat) (sz : Nat) : Met l yX5_init (Cond.code yX5_init cX5_init 2 none :: TT) (rmX 1 3 80) (xPc D cy [.ref h0, .ref r0] [(h0, .inr (5, [.null, .null, .null, .null]))] h0 sz) (xQv D (wX5_init cy h0 r0) h0 sz) 3 80 (xA h0 sz) := by
  refine x_met (by decide) rfl (Nat.le_of_ble_eq_true rfl) (fun p e s m args below meth c ls E hx hb hr hlocks hown hT hin hN hml hl hP hD hS hA => ?_)
  replace hl : lv_has ls 2 [(0, .ref h0), (1, .ref r0)] := hl
  have hH : s.heap = s.heap := rfl
  refine lv_aload_n hx hb dX5_init_0 rfl (lv_at hl 0 rfl) ?_
  refine W.objInit hx hb hown (hT _ k_305) (hT _ k_28) (hT _ k_29) rfl (hl.1.trans hml.symm) rfl dX5_init_1 (Nat.le_of_ble_eq_true rfl) (Nat.le_of_ble_eq_true rfl) ?_
  refine W.eq (g2 := F0 m 4 ls []) rfl ?_
  refine lv_aload_n hx hb dX5_init_4 rfl (lv_at hl 0 rfl) ?_
  refine lv_bipush (v := 10) hx hb dX5_init_5 (by decide) ?_
  refine x_newI 10 E hP hD hS hA (by decide) rfl (by decide) (Nat.le_of_ble_eq_true rfl) (Nat.le_of_ble_eq_true rfl) dX5_init_7 (fun q7 H hP hD hS => ?_)
  replace hP : va_P D classes [(h0, .inr (5, [.null, .null, .null, .null])), (q7, .inl (cy 0, 10, .inl (fun _ => 0)))] H := hP
  replace hD : va_D (xA h0 s.heap.size) [(h0, .inr (5, [.null, .null, .null, .null])), (q7, .inl (cy 0, 10, .inl (fun _ => 0)))] := hD
  refine va_putF (D := D) (ci := 5) (v := .ref q7) (ty := (.array .int)) (C := RX5) (T := TX5) (N := 4) hx hb hT hin_5 tyX5 tyX5_ok nmX5 hown E.2 hP hD hS 0 rfl rfl 1 (by decide) (hT _ k_307) (fun _ h9 => h9) rfl hin rfl (by decide +kernel) rfl rfl (Nat.le_of_ble_eq_true rfl) dX5_init_9 (fun H locs hP hD hS => ?_)
  replace hP : va_P D classes [(h0, .inr (5, [.null, .ref q7, .null, .null])), (q7, .inl (cy 0, 10, .inl (fun _ => 0)))] H := hP
  replace hD : va_D (xA h0 s.heap.size) [(h0, .inr (5, [.null, .ref q7, .null, .null])), (q7, .inl (cy 0, 10, .inl (fun _ => 0)))] := hD
  refine lv_aload_n hx hb dX5_init_12 rfl (lv_at hl 0 rfl) ?_
  refine lv_bipush (v := 6) hx hb dX5_init_13 (by decide) ?_
  refine x_newI 6 E hP hD hS hA (by decide) rfl (by decide) (Nat.le_of_ble_eq_true rfl) (Nat.le_of_ble_eq_true rfl) dX5_init_15 (fun q15 H hP hD hS => ?_)
  replace hP : va_P D classes [(h0, .inr (5, [.null, .ref q7, .null, .null])), (q7, .inl (cy 0, 10, .inl (fun _ => 0))), (q15, .inl (cy 0, 6, .inl (fun _ => 0)))] H := hP
  replace hD : va_D (xA h0 s.heap.size) [(h0, .inr (5, [.null, .ref q7, .null, .null])), (q7, .inl (cy 0, 10, .inl (fun _ => 0))), (q15, .inl (cy 0, 6, .inl (fun _ => 0)))] := hD
  refine va_putF (D := D) (ci := 5) (v := .ref q15) (ty := (.array .int)) (C := RX5) (T := TX5) (N := 4) hx hb hT hin_5 tyX5 tyX5_ok nmX5 hown E.2 hP hD hS 0 rfl rfl 2 (by decide) (hT _ k_308) (fun _ h9 => h9) rfl hin rfl (by decide +kernel) rfl rfl (Nat.le_of_ble_eq_true rfl) dX5_init_17 (fun H locs hP hD hS => ?_)
  replace hP : va_P D classes [(h0, .inr (5, [.null, .ref q7, .ref q15, .null])), (q7, .inl (cy 0, 10, .inl (fun _ => 0))), (q15, .inl (cy 0, 6, .inl (fun _ => 0)))] H := hP
  replace hD : va_D (xA h0 s.heap.size) [(h0, .inr (5, [.null, .ref q7, .ref q15, .null])), (q7, .inl (cy 0, 10, .inl (fun _ => 0))), (q15, .inl (cy 0, 6, .inl (fun _ => 0)))] := hD
  refine lv_aload_n hx hb dX5_init_20 rfl (lv_at hl 0 rfl) ?_
  refine lv_bipush (v := 64) hx hb dX5_init_21 (by decide) ?_
  refine x_newJ 64 E hP hD hS hA (by decide) rfl (by decide) (Nat.le_of_ble_eq_true rfl) (Nat.le_of_ble_eq_true rfl) dX5_init_23 (fun q23 H hP hD hS => ?_)
  replace hP : va_P D classes [(h0, .inr (5, [.null, .ref q7, .ref q15, .null])), (q7, .inl (cy 0, 10, .inl (fun _ => 0))), (q15, .inl (cy 0, 6, .inl (fun _ => 0))), (q23, .inl (cy 1, 64, .inr (.inl (fun _ => 0))))] H := hP
  replace hD : va_D (xA h0 s.heap.size) [(h0, .inr (5, [.null, .ref q7, .ref q15, .null])), (q7, .inl (cy 0, 10, .inl (fun _ => 0))), (q15, .inl (cy 0, 6, .inl (fun _ => 0))), (q23, .inl (cy 1, 64, .inr (.inl (fun _ => 0))))] := hD
  refine va_putF (D := D) (ci := 5) (v := .ref q23) (ty := (.array .long)) (C := RX5) (T := TX5) (N := 4) hx hb hT hin_5 tyX5 tyX5_ok nmX5 hown E.2 hP hD hS 0 rfl rfl 3 (by decide) (hT _ k_309) (fun _ h9 => h9) rfl hin rfl (by decide +kernel) rfl rfl (Nat.le_of_ble_eq_true rfl) dX5_init_25 (fun H locs hP hD hS => ?_)
  replace hP : va_P D classes [(h0, .inr (5, [.null, .ref q7, .ref q15, .ref q23])), (q7, .inl (cy 0, 10, .inl (fun _ => 0))), (q15, .inl (cy 0, 6, .inl (fun _ => 0))), (q23, .inl (cy 1, 64, .inr (.inl (fun _ => 0))))] H := hP
  replace hD : va_D (xA h0 s.heap.size) [(h0, .inr (5, [.null, .ref q7, .ref q15, .ref q23])), (q7, .inl (cy 0, 10, .inl (fun _ => 0))), (q15, .inl (cy 0, 6, .inl (fun _ => 0))), (q23, .inl (cy 1, 64, .inr (.inl (fun _ => 0))))] := hD
  refine lv_aload_n hx hb dX5_init_28 rfl (lv_at hl 0 rfl) ?_
  refine lv_aload_n hx hb dX5_init_29 rfl (lv_at hl 1 rfl) ?_
  refine va_putF (D := D) (ci := 5) (v := .ref r0) (ty := (.object "OpenGates$Land")) (C := RX5) (T := TX5) (N := 4) hx hb hT hin_5 tyX5 tyX5_ok nmX5 hown E.2 hP hD hS 0 rfl rfl 0 (by decide) (hT _ k_306) (fun _ h9 => h9) rfl hin rfl (by decide +kernel) rfl rfl (Nat.le_of_ble_eq_true rfl) dX5_init_30 (fun H locs hP hD hS => ?_)
  replace hP : va_P D classes [(h0, .inr (5, [.ref r0, .ref q7, .ref q15, .ref q23])), (q7, .inl (cy 0, 10, .inl (fun _ => 0))), (q15, .inl (cy 0, 6, .inl (fun _ => 0))), (q23, .inl (cy 1, 64, .inr (.inl (fun _ => 0))))] H := hP
  replace hD : va_D (xA h0 s.heap.size) [(h0, .inr (5, [.ref r0, .ref q7, .ref q15, .ref q23])), (q7, .inl (cy 0, 10, .inl (fun _ => 0))), (q15, .inl (cy 0, 6, .inl (fun _ => 0))), (q23, .inl (cy 1, 64, .inr (.inl (fun _ => 0))))] := hD
  refine W.widen (k := 3) (n := 80) (Nat.le_of_ble_eq_true rfl) (Nat.le_of_ble_eq_true rfl) ?_
  exact W.vret hx hb hr (fun t ht hW => ⟨⟨(fun i => match i with | 0 => q7 | 1 => q15 | _ => q23), rfl, trivial, (by show va_P D classes [(h0, .inr (5, [.ref r0, .ref q7, .ref q15, .ref q23])), (q7, .inl (cy 0, 10, .inl (fun _ => 0))), (q15, .inl (cy 0, 6, .inl (fun _ => 0))), (q23, .inl (cy 1, 64, .inr (.inl (fun _ => 0))))] t.heap; rw [ht]; exact hP), hD⟩, hS.F ht⟩) hS.2.2 dX5_init_33 hlocks
def wX2_init (cy : Nat → ClassId) (h0 : Nat) (r0 : Nat) (r1 : Nat) (u : Nat → Nat) : va_W := [(h0, .inr (2, [.ref r0, .ref r1, .ref (u 0), .ref (u 1), .int 0, .int 0])), ((u 0), .inl (cy 0, 112, .inl (fun _ => 0))), ((u 1), .inl (cy 0, 112, .inl (fun _ => 0)))]
set_option maxHeartbeats 4000000 in
set_option maxRecDepth 100000 in
theorem nX2_init (l : Launch) (D : va_G) (cy : Nat → ClassId) (h0 : Nat) (r0 : Nat) (r1 : Nat) (sz : Nat) : Met l yX2_init (Cond.code yX2_init cX2_init 3 none :: TT) (rmX 1 2 224) (xPc D cy [.ref h0, .ref r0, .ref r1] [(h0, .inr (2, [.null, .null, .null, .null, .int 0, .int 0]))] h0 sz) (xQv D (wX2_init cy h0 r0 r1) h0 sz) 2 224 (xA h0 sz) := by
  refine x_met (by decide) rfl (Nat.le_of_ble_eq_true rfl) (fun p e s m args below meth c ls E hx hb hr hlocks hown hT hin hN hml hl hP hD hS hA => ?_)
  replace hl : lv_has ls 3 [(0, .ref h0), (1, .ref r0), (2, .ref r1)] := hl
  have hH : s.heap = s.heap := rfl
  refine lv_aload_n hx hb dX2_init_0 rfl (lv_at hl 0 rfl) ?_
  refine W.objInit hx hb hown (hT _ k_325) (hT _ k_28) (hT _ k_29) rfl (hl.1.trans hml.symm) rfl dX2_init_1 (Nat.le_of_ble_eq_true rfl) (Nat.le_of_ble_eq_true rfl) ?_
  refine W.eq (g2 := F0 m 4 ls []) rfl ?_
  refine lv_aload_n hx hb dX2_init_4 rfl (lv_at hl 0 rfl) ?_
  refine lv_bipush (v := 112) hx hb dX2_init_5 (by decide) ?_
  refine x_newI 112 E hP hD hS hA (by decide) rfl (by decide) (Nat.le_of_ble_eq_true rfl) (Nat.le_of_ble_eq_true rfl) dX2_init_7 (fun q7 H hP hD hS => ?_)
  replace hP : va_P D classes [(h0, .inr (2, [.null, .null, .null, .null, .int 0, .int 0])), (q7, .inl (cy 0, 112, .inl (fun _ => 0)))] H := hP
  replace hD : va_D (xA h0 s.heap.size) [(h0, .inr (2, [.null, .null, .null, .null, .int 0, .int 0])), (q7, .inl (cy 0, 112, .inl (fun _ => 0)))] := hD
  refine va_putF (D := D) (ci := 2) (v := .ref q7) (ty := (.array .int)) (C := RX2) (T := TX2) (N := 6) hx hb hT hin_2 tyX2 tyX2_ok nmX2 hown E.2 hP hD hS 0 rfl rfl 2 (by decide) (hT _ k_328) (fun _ h9 => h9) rfl hin rfl (by decide +kernel) rfl rfl (Nat.le_of_ble_eq_true rfl) dX2_init_9 (fun H locs hP hD hS => ?_)
  replace hP : va_P D classes [(h0, .inr (2, [.null, .null, .ref q7, .null, .int 0, .int 0])), (q7, .inl (cy 0, 112, .inl (fun _ => 0)))] H := hP
  replace hD : va_D (xA h0 s.heap.size) [(h0, .inr (2, [.null, .null, .ref q7, .null, .int 0, .int 0])), (q7, .inl (cy 0, 112, .inl (fun _ => 0)))] := hD
  refine lv_aload_n hx hb dX2_init_12 rfl (lv_at hl 0 rfl) ?_
  refine lv_bipush (v := 112) hx hb dX2_init_13 (by decide) ?_
  refine x_newI 112 E hP hD hS hA (by decide) rfl (by decide) (Nat.le_of_ble_eq_true rfl) (Nat.le_of_ble_eq_true rfl) dX2_init_15 (fun q15 H hP hD hS => ?_)
  replace hP : va_P D classes [(h0, .inr (2, [.null, .null, .ref q7, .null, .int 0, .int 0])), (q7, .inl (cy 0, 112, .inl (fun _ => 0))), (q15, .inl (cy 0, 112, .inl (fun _ => 0)))] H := hP
  replace hD : va_D (xA h0 s.heap.size) [(h0, .inr (2, [.null, .null, .ref q7, .null, .int 0, .int 0])), (q7, .inl (cy 0, 112, .inl (fun _ => 0))), (q15, .inl (cy 0, 112, .inl (fun _ => 0)))] := hD
  refine va_putF (D := D) (ci := 2) (v := .ref q15) (ty := (.array .int)) (C := RX2) (T := TX2) (N := 6) hx hb hT hin_2 tyX2 tyX2_ok nmX2 hown E.2 hP hD hS 0 rfl rfl 3 (by decide) (hT _ k_329) (fun _ h9 => h9) rfl hin rfl (by decide +kernel) rfl rfl (Nat.le_of_ble_eq_true rfl) dX2_init_17 (fun H locs hP hD hS => ?_)
  replace hP : va_P D classes [(h0, .inr (2, [.null, .null, .ref q7, .ref q15, .int 0, .int 0])), (q7, .inl (cy 0, 112, .inl (fun _ => 0))), (q15, .inl (cy 0, 112, .inl (fun _ => 0)))] H := hP
  replace hD : va_D (xA h0 s.heap.size) [(h0, .inr (2, [.null, .null, .ref q7, .ref q15, .int 0, .int 0])), (q7, .inl (cy 0, 112, .inl (fun _ => 0))), (q15, .inl (cy 0, 112, .inl (fun _ => 0)))] := hD
  refine lv_aload_n hx hb dX2_init_20 rfl (lv_at hl 0 rfl) ?_
  refine lv_aload_n hx hb dX2_init_21 rfl (lv_at hl 1 rfl) ?_
  refine va_putF (D := D) (ci := 2) (v := .ref r0) (ty := (.object "OpenGates$Land")) (C := RX2) (T := TX2) (N := 6) hx hb hT hin_2 tyX2 tyX2_ok nmX2 hown E.2 hP hD hS 0 rfl rfl 0 (by decide) (hT _ k_326) (fun _ h9 => h9) rfl hin rfl (by decide +kernel) rfl rfl (Nat.le_of_ble_eq_true rfl) dX2_init_22 (fun H locs hP hD hS => ?_)
  replace hP : va_P D classes [(h0, .inr (2, [.ref r0, .null, .ref q7, .ref q15, .int 0, .int 0])), (q7, .inl (cy 0, 112, .inl (fun _ => 0))), (q15, .inl (cy 0, 112, .inl (fun _ => 0)))] H := hP
  replace hD : va_D (xA h0 s.heap.size) [(h0, .inr (2, [.ref r0, .null, .ref q7, .ref q15, .int 0, .int 0])), (q7, .inl (cy 0, 112, .inl (fun _ => 0))), (q15, .inl (cy 0, 112, .inl (fun _ => 0)))] := hD
  refine lv_aload_n hx hb dX2_init_25 rfl (lv_at hl 0 rfl) ?_
  refine lv_aload_n hx hb dX2_init_26 rfl (lv_at hl 2 rfl) ?_
  refine va_putF (D := D) (ci := 2) (v := .ref r1) (ty := (.object "OpenGates$Judge")) (C := RX2) (T := TX2) (N := 6) hx hb hT hin_2 tyX2 tyX2_ok nmX2 hown E.2 hP hD hS 0 rfl rfl 1 (by decide) (hT _ k_327) (fun _ h9 => h9) rfl hin rfl (by decide +kernel) rfl rfl (Nat.le_of_ble_eq_true rfl) dX2_init_27 (fun H locs hP hD hS => ?_)
  replace hP : va_P D classes [(h0, .inr (2, [.ref r0, .ref r1, .ref q7, .ref q15, .int 0, .int 0])), (q7, .inl (cy 0, 112, .inl (fun _ => 0))), (q15, .inl (cy 0, 112, .inl (fun _ => 0)))] H := hP
  replace hD : va_D (xA h0 s.heap.size) [(h0, .inr (2, [.ref r0, .ref r1, .ref q7, .ref q15, .int 0, .int 0])), (q7, .inl (cy 0, 112, .inl (fun _ => 0))), (q15, .inl (cy 0, 112, .inl (fun _ => 0)))] := hD
  refine W.widen (k := 2) (n := 224) (Nat.le_of_ble_eq_true rfl) (Nat.le_of_ble_eq_true rfl) ?_
  exact W.vret hx hb hr (fun t ht hW => ⟨⟨(fun i => match i with | 0 => q7 | _ => q15), rfl, trivial, (by show va_P D classes [(h0, .inr (2, [.ref r0, .ref r1, .ref q7, .ref q15, .int 0, .int 0])), (q7, .inl (cy 0, 112, .inl (fun _ => 0))), (q15, .inl (cy 0, 112, .inl (fun _ => 0)))] t.heap; rw [ht]; exact hP), hD⟩, hS.F ht⟩) hS.2.2 dX2_init_30 hlocks
def wX7_init (cy : Nat → ClassId) (h0 : Nat) (r0 : Nat) (r1 : Nat) (r2 : Nat) (u : Nat → Nat) : va_W := [(h0, .inr (7, [.ref r0, .ref r1, .ref r2, .ref (u 0), .ref (u 5), .ref (u 6), .int 0, .int 0])), ((u 0), .inr (0, [.ref (u 1), .ref (u 2), .ref (u 3), .ref (u 4), .int 0])), ((u 1), .inl (cy 0, 6, .inl (fun _ => 0))), ((u 2), .inl (cy 0, 6, .inl (fun _ => 0))), ((u 3), .inl (cy 0, 6, .inl (fun _ => 0))), ((u 4), .inl (cy 0, 4, .inl (fun _ => 0))), ((u 5), .inl (cy 0, 19, .inl (fun _ => 0))), ((u 6), .inl (cy 1, 64, .inr (.inl (fun _ => 0))))]
set_option maxHeartbeats 4000000 in
set_option maxRecDepth 100000 in
theorem nX7_init (l : Launch) (D : va_G) (cy : Nat → ClassId) (h0 : Nat) (r0 : Nat) (r1 : Nat) (r2 : Nat) (sz : Nat) : Met l yX7_init (Cond.code yX7_init cX7_init 4 none :: TT) (rmX 2 7 110) (xPc D cy [.ref h0, .ref r0, .ref r1, .ref r2] [(h0, .inr (7, [.null, .null, .null, .null, .null, .null, .int 0, .int 0]))] h0 sz) (xQv D (wX7_init cy h0 r0 r1 r2) h0 sz) 7 110 (xA h0 sz) := by
  refine x_met (by decide) rfl (Nat.le_of_ble_eq_true rfl) (fun p e s m args below meth c ls E hx hb hr hlocks hown hT hin hN hml hl hP hD hS hA => ?_)
  replace hl : lv_has ls 4 [(0, .ref h0), (1, .ref r0), (2, .ref r1), (3, .ref r2)] := hl
  have hH : s.heap = s.heap := rfl
  refine lv_aload_n hx hb dX7_init_0 rfl (lv_at hl 0 rfl) ?_
  refine W.objInit hx hb hown (hT _ k_351) (hT _ k_28) (hT _ k_29) rfl (hl.1.trans hml.symm) rfl dX7_init_1 (Nat.le_of_ble_eq_true rfl) (Nat.le_of_ble_eq_true rfl) ?_
  refine W.eq (g2 := F0 m 4 ls []) rfl ?_
  refine lv_aload_n hx hb dX7_init_4 rfl (lv_at hl 0 rfl) ?_
  refine va_new (ci := 0) (fs := [.null, .null, .null, .null, .int 0]) (C := RX0) (T := TX0) (N := 5) hx hb hT hin_0 tyX0 tyX0_ok hown (hT _ k_352) (hT _ k_37) (hT _ k_3) E.2 hP hD hS hA rfl dfl_0 (Nat.le_of_ble_eq_true rfl) (Nat.le_of_ble_eq_true rfl) dX7_init_5 (fun q5 H hP hD hS => ?_)
  replace hP : va_P D classes [(h0, .inr (7, [.null, .null, .null, .null, .null, .null, .int 0, .int 0])), (q5, .inr (0, [.null, .null, .null, .null, .int 0]))] H := hP
  replace hD : va_D (xA h0 s.heap.size) [(h0, .inr (7, [.null, .null, .null, .null, .null, .null, .int 0, .int 0])), (q5, .inr (0, [.null, .null, .null, .null, .int 0]))] := hD
  refine lv_dup hx hb dX7_init_8 rfl ?_
  have hPc := P_of (a := [(q5, .inr (0, [.null, .null, .null, .null, .int 0]))]) hP (fun z hz => by simp only [List.mem_singleton] at hz; subst hz; simp)
  have hFc : ∀ z, xA q5 H.size z → xA h0 s.heap.size z := fun z hz => hz.elim (fun hh => hh ▸ hD.2 1 _ rfl) (fun hh => Or.inr (Nat.le_trans hS.1 hh))
  refine va_callv (va_runIN (As := []) (rest := [.ref q5, .ref h0]) E.1 (nX0_init l D cy q5 H.size) ⟨va_cnB 0 hT (tt_cons k_40) rfl rfl rfl (hN.1 (Cond.methodLinkNest "OpenGates$Marshal" 11 ⟨"OpenGates$Camp", "<init>", "()V"⟩ "OpenGates") (List.mem_of_getElem? (i := 4) rfl)) (hT _ k_3) qX0_init.2 ⟨Nat.le_of_ble_eq_true rfl, Nat.le_of_ble_eq_true rfl⟩, rfl, hT _ k_39⟩ ⟨x_blind, fun U hU hW => ⟨rfl, by rw [hU], by rw [hU]; exact hPc, va_K.moved hW.alike E.2, hN.warm hW⟩⟩ rfl rfl hl.1 rfl (lv_room (Nat.le_of_ble_eq_true rfl)) dX7_init_9 ⟨Nat.le_of_ble_eq_true rfl, Nat.le_of_ble_eq_true rfl⟩) hS (fun q _ h => hFc q h) hFc (fun u9 t H1 locs ht hvm hw hB hz1 hk1 hS => ?_)
  obtain ⟨hP1, hD1⟩ := hB
  rw [ht] at hP1
  obtain ⟨hP, hD⟩ := x_join (rest := [(h0, .inr (7, [.null, .null, .null, .null, .null, .null, .int 0, .int 0]))]) hP hD hk1 hP1 hD1 hFc
  generalize H1 = H at hP hS ⊢
  clear hPc hFc hk1 hP1 hD1
  replace hP : va_P D classes [(h0, .inr (7, [.null, .null, .null, .null, .null, .null, .int 0, .int 0])), (q5, .inr (0, [.ref (u9 0), .ref (u9 1), .ref (u9 2), .ref (u9 3), .int 0])), ((u9 0), .inl (cy 0, 6, .inl (fun _ => 0))), ((u9 1), .inl (cy 0, 6, .inl (fun _ => 0))), ((u9 2), .inl (cy 0, 6, .inl (fun _ => 0))), ((u9 3), .inl (cy 0, 4, .inl (fun _ => 0)))] H := hP
  replace hD : va_D (xA h0 s.heap.size) [(h0, .inr (7, [.null, .null, .null, .null, .null, .null, .int 0, .int 0])), (q5, .inr (0, [.ref (u9 0), .ref (u9 1), .ref (u9 2), .ref (u9 3), .int 0])), ((u9 0), .inl (cy 0, 6, .inl (fun _ => 0))), ((u9 1), .inl (cy 0, 6, .inl (fun _ => 0))), ((u9 2), .inl (cy 0, 6, .inl (fun _ => 0))), ((u9 3), .inl (cy 0, 4, .inl (fun _ => 0)))] := hD
  refine va_putF (D := D) (ci := 7) (v := .ref q5) (ty := (.object "OpenGates$Camp")) (C := RX7) (T := TX7) (N := 8) hx hb hT hin_7 tyX7 tyX7_ok nmX7 hown E.2 hP hD hS 0 rfl rfl 3 (by decide) (hT _ k_357) (fun _ h9 => h9) rfl hin rfl (by decide +kernel) rfl rfl (Nat.le_of_ble_eq_true rfl) dX7_init_12 (fun H locs hP hD hS => ?_)
  replace hP : va_P D classes [(h0, .inr (7, [.null, .null, .null, .ref q5, .null, .null, .int 0, .int 0])), (q5, .inr (0, [.ref (u9 0), .ref (u9 1), .ref (u9 2), .ref (u9 3), .int 0])), ((u9 0), .inl (cy 0, 6, .inl (fun _ => 0))), ((u9 1), .inl (cy 0, 6, .inl (fun _ => 0))), ((u9 2), .inl (cy 0, 6, .inl (fun _ => 0))), ((u9 3), .inl (cy 0, 4, .inl (fun _ => 0)))] H := hP
  replace hD : va_D (xA h0 s.heap.size) [(h0, .inr (7, [.null, .null, .null, .ref q5, .null, .null, .int 0, .int 0])), (q5, .inr (0, [.ref (u9 0), .ref (u9 1), .ref (u9 2), .ref (u9 3), .int 0])), ((u9 0), .inl (cy 0, 6, .inl (fun _ => 0))), ((u9 1), .inl (cy 0, 6, .inl (fun _ => 0))), ((u9 2), .inl (cy 0, 6, .inl (fun _ => 0))), ((u9 3), .inl (cy 0, 4, .inl (fun _ => 0)))] := hD
  refine lv_aload_n hx hb dX7_init_15 rfl (lv_at hl 0 rfl) ?_
  refine lv_bipush (v := 19) hx hb dX7_init_16 (by decide) ?_
  refine x_newI 19 E hP hD hS hA (by decide) rfl (by decide) (Nat.le_of_ble_eq_true rfl) (Nat.le_of_ble_eq_true rfl) dX7_init_18 (fun q18 H hP hD hS => ?_)
  replace hP : va_P D classes [(h0, .inr (7, [.null, .null, .null, .ref q5, .null, .null, .int 0, .int 0])), (q5, .inr (0, [.ref (u9 0), .ref (u9 1), .ref (u9 2), .ref (u9 3), .int 0])), ((u9 0), .inl (cy 0, 6, .inl (fun _ => 0))), ((u9 1), .inl (cy 0, 6, .inl (fun _ => 0))), ((u9 2), .inl (cy 0, 6, .inl (fun _ => 0))), ((u9 3), .inl (cy 0, 4, .inl (fun _ => 0))), (q18, .inl (cy 0, 19, .inl (fun _ => 0)))] H := hP
  replace hD : va_D (xA h0 s.heap.size) [(h0, .inr (7, [.null, .null, .null, .ref q5, .null, .null, .int 0, .int 0])), (q5, .inr (0, [.ref (u9 0), .ref (u9 1), .ref (u9 2), .ref (u9 3), .int 0])), ((u9 0), .inl (cy 0, 6, .inl (fun _ => 0))), ((u9 1), .inl (cy 0, 6, .inl (fun _ => 0))), ((u9 2), .inl (cy 0, 6, .inl (fun _ => 0))), ((u9 3), .inl (cy 0, 4, .inl (fun _ => 0))), (q18, .inl (cy 0, 19, .inl (fun _ => 0)))] := hD
  refine va_putF (D := D) (ci := 7) (v := .ref q18) (ty := (.array .int)) (C := RX7) (T := TX7) (N := 8) hx hb hT hin_7 tyX7 tyX7_ok nmX7 hown E.2 hP hD hS 0 rfl rfl 4 (by decide) (hT _ k_358) (fun _ h9 => h9) rfl hin rfl (by decide +kernel) rfl rfl (Nat.le_of_ble_eq_true rfl) dX7_init_20 (fun H locs hP hD hS => ?_)
  replace hP : va_P D classes [(h0, .inr (7, [.null, .null, .null, .ref q5, .ref q18, .null, .int 0, .int 0])), (q5, .inr (0, [.ref (u9 0), .ref (u9 1), .ref (u9 2), .ref (u9 3), .int 0])), ((u9 0), .inl (cy 0, 6, .inl (fun _ => 0))), ((u9 1), .inl (cy 0, 6, .inl (fun _ => 0))), ((u9 2), .inl (cy 0, 6, .inl (fun _ => 0))), ((u9 3), .inl (cy 0, 4, .inl (fun _ => 0))), (q18, .inl (cy 0, 19, .inl (fun _ => 0)))] H := hP
  replace hD : va_D (xA h0 s.heap.size) [(h0, .inr (7, [.null, .null, .null, .ref q5, .ref q18, .null, .int 0, .int 0])), (q5, .inr (0, [.ref (u9 0), .ref (u9 1), .ref (u9 2), .ref (u9 3), .int 0])), ((u9 0), .inl (cy 0, 6, .inl (fun _ => 0))), ((u9 1), .inl (cy 0, 6, .inl (fun _ => 0))), ((u9 2), .inl (cy 0, 6, .inl (fun _ => 0))), ((u9 3), .inl (cy 0, 4, .inl (fun _ => 0))), (q18, .inl (cy 0, 19, .inl (fun _ => 0)))] := hD
  refine lv_aload_n hx hb dX7_init_23 rfl (lv_at hl 0 rfl) ?_
  refine lv_bipush (v := 64) hx hb dX7_init_24 (by decide) ?_
  refine x_newJ 64 E hP hD hS hA (by decide) rfl (by decide) (Nat.le_of_ble_eq_true rfl) (Nat.le_of_ble_eq_true rfl) dX7_init_26 (fun q26 H hP hD hS => ?_)
  replace hP : va_P D classes [(h0, .inr (7, [.null, .null, .null, .ref q5, .ref q18, .null, .int 0, .int 0])), (q5, .inr (0, [.ref (u9 0), .ref (u9 1), .ref (u9 2), .ref (u9 3), .int 0])), ((u9 0), .inl (cy 0, 6, .inl (fun _ => 0))), ((u9 1), .inl (cy 0, 6, .inl (fun _ => 0))), ((u9 2), .inl (cy 0, 6, .inl (fun _ => 0))), ((u9 3), .inl (cy 0, 4, .inl (fun _ => 0))), (q18, .inl (cy 0, 19, .inl (fun _ => 0))), (q26, .inl (cy 1, 64, .inr (.inl (fun _ => 0))))] H := hP
  replace hD : va_D (xA h0 s.heap.size) [(h0, .inr (7, [.null, .null, .null, .ref q5, .ref q18, .null, .int 0, .int 0])), (q5, .inr (0, [.ref (u9 0), .ref (u9 1), .ref (u9 2), .ref (u9 3), .int 0])), ((u9 0), .inl (cy 0, 6, .inl (fun _ => 0))), ((u9 1), .inl (cy 0, 6, .inl (fun _ => 0))), ((u9 2), .inl (cy 0, 6, .inl (fun _ => 0))), ((u9 3), .inl (cy 0, 4, .inl (fun _ => 0))), (q18, .inl (cy 0, 19, .inl (fun _ => 0))), (q26, .inl (cy 1, 64, .inr (.inl (fun _ => 0))))] := hD
  refine va_putF (D := D) (ci := 7) (v := .ref q26) (ty := (.array .long)) (C := RX7) (T := TX7) (N := 8) hx hb hT hin_7 tyX7 tyX7_ok nmX7 hown E.2 hP hD hS 0 rfl rfl 5 (by decide) (hT _ k_359) (fun _ h9 => h9) rfl hin rfl (by decide +kernel) rfl rfl (Nat.le_of_ble_eq_true rfl) dX7_init_28 (fun H locs hP hD hS => ?_)
  replace hP : va_P D classes [(h0, .inr (7, [.null, .null, .null, .ref q5, .ref q18, .ref q26, .int 0, .int 0])), (q5, .inr (0, [.ref (u9 0), .ref (u9 1), .ref (u9 2), .ref (u9 3), .int 0])), ((u9 0), .inl (cy 0, 6, .inl (fun _ => 0))), ((u9 1), .inl (cy 0, 6, .inl (fun _ => 0))), ((u9 2), .inl (cy 0, 6, .inl (fun _ => 0))), ((u9 3), .inl (cy 0, 4, .inl (fun _ => 0))), (q18, .inl (cy 0, 19, .inl (fun _ => 0))), (q26, .inl (cy 1, 64, .inr (.inl (fun _ => 0))))] H := hP
  replace hD : va_D (xA h0 s.heap.size) [(h0, .inr (7, [.null, .null, .null, .ref q5, .ref q18, .ref q26, .int 0, .int 0])), (q5, .inr (0, [.ref (u9 0), .ref (u9 1), .ref (u9 2), .ref (u9 3), .int 0])), ((u9 0), .inl (cy 0, 6, .inl (fun _ => 0))), ((u9 1), .inl (cy 0, 6, .inl (fun _ => 0))), ((u9 2), .inl (cy 0, 6, .inl (fun _ => 0))), ((u9 3), .inl (cy 0, 4, .inl (fun _ => 0))), (q18, .inl (cy 0, 19, .inl (fun _ => 0))), (q26, .inl (cy 1, 64, .inr (.inl (fun _ => 0))))] := hD
  refine lv_aload_n hx hb dX7_init_31 rfl (lv_at hl 0 rfl) ?_
  refine lv_aload_n hx hb dX7_init_32 rfl (lv_at hl 1 rfl) ?_
  refine va_putF (D := D) (ci := 7) (v := .ref r0) (ty := (.object "OpenGates$Land")) (C := RX7) (T := TX7) (N := 8) hx hb hT hin_7 tyX7 tyX7_ok nmX7 hown E.2 hP hD hS 0 rfl rfl 0 (by decide) (hT _ k_354) (fun _ h9 => h9) rfl hin rfl (by decide +kernel) rfl rfl (Nat.le_of_ble_eq_true rfl) dX7_init_33 (fun H locs hP hD hS => ?_)
  replace hP : va_P D classes [(h0, .inr (7, [.ref r0, .null, .null, .ref q5, .ref q18, .ref q26, .int 0, .int 0])), (q5, .inr (0, [.ref (u9 0), .ref (u9 1), .ref (u9 2), .ref (u9 3), .int 0])), ((u9 0), .inl (cy 0, 6, .inl (fun _ => 0))), ((u9 1), .inl (cy 0, 6, .inl (fun _ => 0))), ((u9 2), .inl (cy 0, 6, .inl (fun _ => 0))), ((u9 3), .inl (cy 0, 4, .inl (fun _ => 0))), (q18, .inl (cy 0, 19, .inl (fun _ => 0))), (q26, .inl (cy 1, 64, .inr (.inl (fun _ => 0))))] H := hP
  replace hD : va_D (xA h0 s.heap.size) [(h0, .inr (7, [.ref r0, .null, .null, .ref q5, .ref q18, .ref q26, .int 0, .int 0])), (q5, .inr (0, [.ref (u9 0), .ref (u9 1), .ref (u9 2), .ref (u9 3), .int 0])), ((u9 0), .inl (cy 0, 6, .inl (fun _ => 0))), ((u9 1), .inl (cy 0, 6, .inl (fun _ => 0))), ((u9 2), .inl (cy 0, 6, .inl (fun _ => 0))), ((u9 3), .inl (cy 0, 4, .inl (fun _ => 0))), (q18, .inl (cy 0, 19, .inl (fun _ => 0))), (q26, .inl (cy 1, 64, .inr (.inl (fun _ => 0))))] := hD
  refine lv_aload_n hx hb dX7_init_36 rfl (lv_at hl 0 rfl) ?_
  refine lv_aload_n hx hb dX7_init_37 rfl (lv_at hl 2 rfl) ?_
  refine va_putF (D := D) (ci := 7) (v := .ref r1) (ty := (.object "OpenGates$Deeds")) (C := RX7) (T := TX7) (N := 8) hx hb hT hin_7 tyX7 tyX7_ok nmX7 hown E.2 hP hD hS 0 rfl rfl 1 (by decide) (hT _ k_355) (fun _ h9 => h9) rfl hin rfl (by decide +kernel) rfl rfl (Nat.le_of_ble_eq_true rfl) dX7_init_38 (fun H locs hP hD hS => ?_)
  replace hP : va_P D classes [(h0, .inr (7, [.ref r0, .ref r1, .null, .ref q5, .ref q18, .ref q26, .int 0, .int 0])), (q5, .inr (0, [.ref (u9 0), .ref (u9 1), .ref (u9 2), .ref (u9 3), .int 0])), ((u9 0), .inl (cy 0, 6, .inl (fun _ => 0))), ((u9 1), .inl (cy 0, 6, .inl (fun _ => 0))), ((u9 2), .inl (cy 0, 6, .inl (fun _ => 0))), ((u9 3), .inl (cy 0, 4, .inl (fun _ => 0))), (q18, .inl (cy 0, 19, .inl (fun _ => 0))), (q26, .inl (cy 1, 64, .inr (.inl (fun _ => 0))))] H := hP
  replace hD : va_D (xA h0 s.heap.size) [(h0, .inr (7, [.ref r0, .ref r1, .null, .ref q5, .ref q18, .ref q26, .int 0, .int 0])), (q5, .inr (0, [.ref (u9 0), .ref (u9 1), .ref (u9 2), .ref (u9 3), .int 0])), ((u9 0), .inl (cy 0, 6, .inl (fun _ => 0))), ((u9 1), .inl (cy 0, 6, .inl (fun _ => 0))), ((u9 2), .inl (cy 0, 6, .inl (fun _ => 0))), ((u9 3), .inl (cy 0, 4, .inl (fun _ => 0))), (q18, .inl (cy 0, 19, .inl (fun _ => 0))), (q26, .inl (cy 1, 64, .inr (.inl (fun _ => 0))))] := hD
  refine lv_aload_n hx hb dX7_init_41 rfl (lv_at hl 0 rfl) ?_
  refine lv_aload_n hx hb dX7_init_42 rfl (lv_at hl 3 rfl) ?_
  refine va_putF (D := D) (ci := 7) (v := .ref r2) (ty := (.object "OpenGates$Program")) (C := RX7) (T := TX7) (N := 8) hx hb hT hin_7 tyX7 tyX7_ok nmX7 hown E.2 hP hD hS 0 rfl rfl 2 (by decide) (hT _ k_356) (fun _ h9 => h9) rfl hin rfl (by decide +kernel) rfl rfl (Nat.le_of_ble_eq_true rfl) dX7_init_43 (fun H locs hP hD hS => ?_)
  replace hP : va_P D classes [(h0, .inr (7, [.ref r0, .ref r1, .ref r2, .ref q5, .ref q18, .ref q26, .int 0, .int 0])), (q5, .inr (0, [.ref (u9 0), .ref (u9 1), .ref (u9 2), .ref (u9 3), .int 0])), ((u9 0), .inl (cy 0, 6, .inl (fun _ => 0))), ((u9 1), .inl (cy 0, 6, .inl (fun _ => 0))), ((u9 2), .inl (cy 0, 6, .inl (fun _ => 0))), ((u9 3), .inl (cy 0, 4, .inl (fun _ => 0))), (q18, .inl (cy 0, 19, .inl (fun _ => 0))), (q26, .inl (cy 1, 64, .inr (.inl (fun _ => 0))))] H := hP
  replace hD : va_D (xA h0 s.heap.size) [(h0, .inr (7, [.ref r0, .ref r1, .ref r2, .ref q5, .ref q18, .ref q26, .int 0, .int 0])), (q5, .inr (0, [.ref (u9 0), .ref (u9 1), .ref (u9 2), .ref (u9 3), .int 0])), ((u9 0), .inl (cy 0, 6, .inl (fun _ => 0))), ((u9 1), .inl (cy 0, 6, .inl (fun _ => 0))), ((u9 2), .inl (cy 0, 6, .inl (fun _ => 0))), ((u9 3), .inl (cy 0, 4, .inl (fun _ => 0))), (q18, .inl (cy 0, 19, .inl (fun _ => 0))), (q26, .inl (cy 1, 64, .inr (.inl (fun _ => 0))))] := hD
  refine W.widen (k := 7) (n := 110) (Nat.le_of_ble_eq_true rfl) (Nat.le_of_ble_eq_true rfl) ?_
  exact W.vret hx hb hr (fun t ht hW => ⟨⟨(fun i => match i with | 0 => q5 | 1 => (u9 0) | 2 => (u9 1) | 3 => (u9 2) | 4 => (u9 3) | 5 => q18 | _ => q26), rfl, trivial, (by show va_P D classes [(h0, .inr (7, [.ref r0, .ref r1, .ref r2, .ref q5, .ref q18, .ref q26, .int 0, .int 0])), (q5, .inr (0, [.ref (u9 0), .ref (u9 1), .ref (u9 2), .ref (u9 3), .int 0])), ((u9 0), .inl (cy 0, 6, .inl (fun _ => 0))), ((u9 1), .inl (cy 0, 6, .inl (fun _ => 0))), ((u9 2), .inl (cy 0, 6, .inl (fun _ => 0))), ((u9 3), .inl (cy 0, 4, .inl (fun _ => 0))), (q18, .inl (cy 0, 19, .inl (fun _ => 0))), (q26, .inl (cy 1, 64, .inr (.inl (fun _ => 0))))] t.heap; rw [ht]; exact hP), hD⟩, hS.F ht⟩) hS.2.2 dX7_init_46 hlocks
def wX3_init (cy : Nat → ClassId) (h0 : Nat) (r0 : Nat) (r1 : Nat) (u : Nat → Nat) : va_W := [(h0, .inr (3, [.ref r0, .ref r1, .ref (u 0), .ref (u 5), .int 0, .long 0])), ((u 0), .inr (0, [.ref (u 1), .ref (u 2), .ref (u 3), .ref (u 4), .int 0])), ((u 1), .inl (cy 0, 6, .inl (fun _ => 0))), ((u 2), .inl (cy 0, 6, .inl (fun _ => 0))), ((u 3), .inl (cy 0, 6, .inl (fun _ => 0))), ((u 4), .inl (cy 0, 4, .inl (fun _ => 0))), ((u 5), .inr (0, [.ref (u 6), .ref (u 7), .ref (u 8), .ref (u 9), .int 0])), ((u 6), .inl (cy 0, 6, .inl (fun _ => 0))), ((u 7), .inl (cy 0, 6, .inl (fun _ => 0))), ((u 8), .inl (cy 0, 6, .inl (fun _ => 0))), ((u 9), .inl (cy 0, 4, .inl (fun _ => 0)))]
set_option maxHeartbeats 4000000 in
set_option maxRecDepth 100000 in
theorem nX3_init (l : Launch) (D : va_G) (cy : Nat → ClassId) (h0 : Nat) (r0 : Nat) (r1 : Nat) (sz : Nat) : Met l yX3_init (Cond.code yX3_init cX3_init 3 none :: TT) (rmX 2 10 54) (xPc D cy [.ref h0, .ref r0, .ref r1] [(h0, .inr (3, [.null, .null, .null, .null, .int 0, .long 0]))] h0 sz) (xQv D (wX3_init cy h0 r0 r1) h0 sz) 10 54 (xA h0 sz) := by
  refine x_met (by decide) rfl (Nat.le_of_ble_eq_true rfl) (fun p e s m args below meth c ls E hx hb hr hlocks hown hT hin hN hml hl hP hD hS hA => ?_)
  replace hl : lv_has ls 3 [(0, .ref h0), (1, .ref r0), (2, .ref r1)] := hl
  have hH : s.heap = s.heap := rfl
  refine lv_aload_n hx hb dX3_init_0 rfl (lv_at hl 0 rfl) ?_
  refine W.objInit hx hb hown (hT _ k_385) (hT _ k_28) (hT _ k_29) rfl (hl.1.trans hml.symm) rfl dX3_init_1 (Nat.le_of_ble_eq_true rfl) (Nat.le_of_ble_eq_true rfl) ?_
  refine W.eq (g2 := F0 m 4 ls []) rfl ?_
  refine lv_aload_n hx hb dX3_init_4 rfl (lv_at hl 0 rfl) ?_
  refine va_new (ci := 0) (fs := [.null, .null, .null, .null, .int 0]) (C := RX0) (T := TX0) (N := 5) hx hb hT hin_0 tyX0 tyX0_ok hown (hT _ k_386) (hT _ k_37) (hT _ k_3) E.2 hP hD hS hA rfl dfl_0 (Nat.le_of_ble_eq_true rfl) (Nat.le_of_ble_eq_true rfl) dX3_init_5 (fun q5 H hP hD hS => ?_)
  replace hP : va_P D classes [(h0, .inr (3, [.null, .null, .null, .null, .int 0, .long 0])), (q5, .inr (0, [.null, .null, .null, .null, .int 0]))] H := hP
  replace hD : va_D (xA h0 s.heap.size) [(h0, .inr (3, [.null, .null, .null, .null, .int 0, .long 0])), (q5, .inr (0, [.null, .null, .null, .null, .int 0]))] := hD
  refine lv_dup hx hb dX3_init_8 rfl ?_
  have hPc := P_of (a := [(q5, .inr (0, [.null, .null, .null, .null, .int 0]))]) hP (fun z hz => by simp only [List.mem_singleton] at hz; subst hz; simp)
  have hFc : ∀ z, xA q5 H.size z → xA h0 s.heap.size z := fun z hz => hz.elim (fun hh => hh ▸ hD.2 1 _ rfl) (fun hh => Or.inr (Nat.le_trans hS.1 hh))
  refine va_callv (va_runIN (As := []) (rest := [.ref q5, .ref h0]) E.1 (nX0_init l D cy q5 H.size) ⟨va_cnB 0 hT (tt_cons k_40) rfl rfl rfl (hN.1 (Cond.methodLinkNest "OpenGates$Draws" 11 ⟨"OpenGates$Camp", "<init>", "()V"⟩ "OpenGates") (List.mem_of_getElem? (i := 5) rfl)) (hT _ k_3) qX0_init.2 ⟨Nat.le_of_ble_eq_true rfl, Nat.le_of_ble_eq_true rfl⟩, rfl, hT _ k_39⟩ ⟨x_blind, fun U hU hW => ⟨rfl, by rw [hU], by rw [hU]; exact hPc, va_K.moved hW.alike E.2, hN.warm hW⟩⟩ rfl rfl hl.1 rfl (lv_room (Nat.le_of_ble_eq_true rfl)) dX3_init_9 ⟨Nat.le_of_ble_eq_true rfl, Nat.le_of_ble_eq_true rfl⟩) hS (fun q _ h => hFc q h) hFc (fun u9 t H1 locs ht hvm hw hB hz1 hk1 hS => ?_)
  obtain ⟨hP1, hD1⟩ := hB
  rw [ht] at hP1
  obtain ⟨hP, hD⟩ := x_join (rest := [(h0, .inr (3, [.null, .null, .null, .null, .int 0, .long 0]))]) hP hD hk1 hP1 hD1 hFc
  generalize H1 = H at hP hS ⊢
  clear hPc hFc hk1 hP1 hD1
  replace hP : va_P D classes [(h0, .inr (3, [.null, .null, .null, .null, .int 0, .long 0])), (q5, .inr (0, [.ref (u9 0), .ref (u9 1), .ref (u9 2), .ref (u9 3), .int 0])), ((u9 0), .inl (cy 0, 6, .inl (fun _ => 0))), ((u9 1), .inl (cy 0, 6, .inl (fun _ => 0))), ((u9 2), .inl (cy 0, 6, .inl (fun _ => 0))), ((u9 3), .inl (cy 0, 4, .inl (fun _ => 0)))] H := hP
  replace hD : va_D (xA h0 s.heap.size) [(h0, .inr (3, [.null, .null, .null, .null, .int 0, .long 0])), (q5, .inr (0, [.ref (u9 0), .ref (u9 1), .ref (u9 2), .ref (u9 3), .int 0])), ((u9 0), .inl (cy 0, 6, .inl (fun _ => 0))), ((u9 1), .inl (cy 0, 6, .inl (fun _ => 0))), ((u9 2), .inl (cy 0, 6, .inl (fun _ => 0))), ((u9 3), .inl (cy 0, 4, .inl (fun _ => 0)))] := hD
  refine va_putF (D := D) (ci := 3) (v := .ref q5) (ty := (.object "OpenGates$Camp")) (C := RX3) (T := TX3) (N := 6) hx hb hT hin_3 tyX3 tyX3_ok nmX3 hown E.2 hP hD hS 0 rfl rfl 2 (by decide) (hT _ k_390) (fun _ h9 => h9) rfl hin rfl (by decide +kernel) rfl rfl (Nat.le_of_ble_eq_true rfl) dX3_init_12 (fun H locs hP hD hS => ?_)
  replace hP : va_P D classes [(h0, .inr (3, [.null, .null, .ref q5, .null, .int 0, .long 0])), (q5, .inr (0, [.ref (u9 0), .ref (u9 1), .ref (u9 2), .ref (u9 3), .int 0])), ((u9 0), .inl (cy 0, 6, .inl (fun _ => 0))), ((u9 1), .inl (cy 0, 6, .inl (fun _ => 0))), ((u9 2), .inl (cy 0, 6, .inl (fun _ => 0))), ((u9 3), .inl (cy 0, 4, .inl (fun _ => 0)))] H := hP
  replace hD : va_D (xA h0 s.heap.size) [(h0, .inr (3, [.null, .null, .ref q5, .null, .int 0, .long 0])), (q5, .inr (0, [.ref (u9 0), .ref (u9 1), .ref (u9 2), .ref (u9 3), .int 0])), ((u9 0), .inl (cy 0, 6, .inl (fun _ => 0))), ((u9 1), .inl (cy 0, 6, .inl (fun _ => 0))), ((u9 2), .inl (cy 0, 6, .inl (fun _ => 0))), ((u9 3), .inl (cy 0, 4, .inl (fun _ => 0)))] := hD
  refine lv_aload_n hx hb dX3_init_15 rfl (lv_at hl 0 rfl) ?_
  refine va_new (ci := 0) (fs := [.null, .null, .null, .null, .int 0]) (C := RX0) (T := TX0) (N := 5) hx hb hT hin_0 tyX0 tyX0_ok hown (hT _ k_386) (hT _ k_37) (hT _ k_3) E.2 hP hD hS hA rfl dfl_0 (Nat.le_of_ble_eq_true rfl) (Nat.le_of_ble_eq_true rfl) dX3_init_16 (fun q16 H hP hD hS => ?_)
  replace hP : va_P D classes [(h0, .inr (3, [.null, .null, .ref q5, .null, .int 0, .long 0])), (q5, .inr (0, [.ref (u9 0), .ref (u9 1), .ref (u9 2), .ref (u9 3), .int 0])), ((u9 0), .inl (cy 0, 6, .inl (fun _ => 0))), ((u9 1), .inl (cy 0, 6, .inl (fun _ => 0))), ((u9 2), .inl (cy 0, 6, .inl (fun _ => 0))), ((u9 3), .inl (cy 0, 4, .inl (fun _ => 0))), (q16, .inr (0, [.null, .null, .null, .null, .int 0]))] H := hP
  replace hD : va_D (xA h0 s.heap.size) [(h0, .inr (3, [.null, .null, .ref q5, .null, .int 0, .long 0])), (q5, .inr (0, [.ref (u9 0), .ref (u9 1), .ref (u9 2), .ref (u9 3), .int 0])), ((u9 0), .inl (cy 0, 6, .inl (fun _ => 0))), ((u9 1), .inl (cy 0, 6, .inl (fun _ => 0))), ((u9 2), .inl (cy 0, 6, .inl (fun _ => 0))), ((u9 3), .inl (cy 0, 4, .inl (fun _ => 0))), (q16, .inr (0, [.null, .null, .null, .null, .int 0]))] := hD
  refine lv_dup hx hb dX3_init_19 rfl ?_
  have hPc := P_of (a := [(q16, .inr (0, [.null, .null, .null, .null, .int 0]))]) hP (fun z hz => by simp only [List.mem_singleton] at hz; subst hz; simp)
  have hFc : ∀ z, xA q16 H.size z → xA h0 s.heap.size z := fun z hz => hz.elim (fun hh => hh ▸ hD.2 6 _ rfl) (fun hh => Or.inr (Nat.le_trans hS.1 hh))
  refine va_callv (va_runIN (As := []) (rest := [.ref q16, .ref h0]) E.1 (nX0_init l D cy q16 H.size) ⟨va_cnB 0 hT (tt_cons k_40) rfl rfl rfl (hN.1 (Cond.methodLinkNest "OpenGates$Draws" 11 ⟨"OpenGates$Camp", "<init>", "()V"⟩ "OpenGates") (List.mem_of_getElem? (i := 5) rfl)) (hT _ k_3) qX0_init.2 ⟨Nat.le_of_ble_eq_true rfl, Nat.le_of_ble_eq_true rfl⟩, rfl, hT _ k_39⟩ ⟨x_blind, fun U hU hW => ⟨rfl, by rw [hU], by rw [hU]; exact hPc, va_K.moved hW.alike E.2, hN.warm hW⟩⟩ rfl rfl hl.1 rfl (lv_room (Nat.le_of_ble_eq_true rfl)) dX3_init_20 ⟨Nat.le_of_ble_eq_true rfl, Nat.le_of_ble_eq_true rfl⟩) hS (fun q _ h => hFc q h) hFc (fun u20 t H1 locs ht hvm hw hB hz1 hk1 hS => ?_)
  obtain ⟨hP1, hD1⟩ := hB
  rw [ht] at hP1
  obtain ⟨hP, hD⟩ := x_join (rest := [(h0, .inr (3, [.null, .null, .ref q5, .null, .int 0, .long 0])), (q5, .inr (0, [.ref (u9 0), .ref (u9 1), .ref (u9 2), .ref (u9 3), .int 0])), ((u9 0), .inl (cy 0, 6, .inl (fun _ => 0))), ((u9 1), .inl (cy 0, 6, .inl (fun _ => 0))), ((u9 2), .inl (cy 0, 6, .inl (fun _ => 0))), ((u9 3), .inl (cy 0, 4, .inl (fun _ => 0)))]) hP hD hk1 hP1 hD1 hFc
  generalize H1 = H at hP hS ⊢
  clear hPc hFc hk1 hP1 hD1
  replace hP : va_P D classes [(h0, .inr (3, [.null, .null, .ref q5, .null, .int 0, .long 0])), (q5, .inr (0, [.ref (u9 0), .ref (u9 1), .ref (u9 2), .ref (u9 3), .int 0])), ((u9 0), .inl (cy 0, 6, .inl (fun _ => 0))), ((u9 1), .inl (cy 0, 6, .inl (fun _ => 0))), ((u9 2), .inl (cy 0, 6, .inl (fun _ => 0))), ((u9 3), .inl (cy 0, 4, .inl (fun _ => 0))), (q16, .inr (0, [.ref (u20 0), .ref (u20 1), .ref (u20 2), .ref (u20 3), .int 0])), ((u20 0), .inl (cy 0, 6, .inl (fun _ => 0))), ((u20 1), .inl (cy 0, 6, .inl (fun _ => 0))), ((u20 2), .inl (cy 0, 6, .inl (fun _ => 0))), ((u20 3), .inl (cy 0, 4, .inl (fun _ => 0)))] H := hP
  replace hD : va_D (xA h0 s.heap.size) [(h0, .inr (3, [.null, .null, .ref q5, .null, .int 0, .long 0])), (q5, .inr (0, [.ref (u9 0), .ref (u9 1), .ref (u9 2), .ref (u9 3), .int 0])), ((u9 0), .inl (cy 0, 6, .inl (fun _ => 0))), ((u9 1), .inl (cy 0, 6, .inl (fun _ => 0))), ((u9 2), .inl (cy 0, 6, .inl (fun _ => 0))), ((u9 3), .inl (cy 0, 4, .inl (fun _ => 0))), (q16, .inr (0, [.ref (u20 0), .ref (u20 1), .ref (u20 2), .ref (u20 3), .int 0])), ((u20 0), .inl (cy 0, 6, .inl (fun _ => 0))), ((u20 1), .inl (cy 0, 6, .inl (fun _ => 0))), ((u20 2), .inl (cy 0, 6, .inl (fun _ => 0))), ((u20 3), .inl (cy 0, 4, .inl (fun _ => 0)))] := hD
  refine va_putF (D := D) (ci := 3) (v := .ref q16) (ty := (.object "OpenGates$Camp")) (C := RX3) (T := TX3) (N := 6) hx hb hT hin_3 tyX3 tyX3_ok nmX3 hown E.2 hP hD hS 0 rfl rfl 3 (by decide) (hT _ k_391) (fun _ h9 => h9) rfl hin rfl (by decide +kernel) rfl rfl (Nat.le_of_ble_eq_true rfl) dX3_init_23 (fun H locs hP hD hS => ?_)
  replace hP : va_P D classes [(h0, .inr (3, [.null, .null, .ref q5, .ref q16, .int 0, .long 0])), (q5, .inr (0, [.ref (u9 0), .ref (u9 1), .ref (u9 2), .ref (u9 3), .int 0])), ((u9 0), .inl (cy 0, 6, .inl (fun _ => 0))), ((u9 1), .inl (cy 0, 6, .inl (fun _ => 0))), ((u9 2), .inl (cy 0, 6, .inl (fun _ => 0))), ((u9 3), .inl (cy 0, 4, .inl (fun _ => 0))), (q16, .inr (0, [.ref (u20 0), .ref (u20 1), .ref (u20 2), .ref (u20 3), .int 0])), ((u20 0), .inl (cy 0, 6, .inl (fun _ => 0))), ((u20 1), .inl (cy 0, 6, .inl (fun _ => 0))), ((u20 2), .inl (cy 0, 6, .inl (fun _ => 0))), ((u20 3), .inl (cy 0, 4, .inl (fun _ => 0)))] H := hP
  replace hD : va_D (xA h0 s.heap.size) [(h0, .inr (3, [.null, .null, .ref q5, .ref q16, .int 0, .long 0])), (q5, .inr (0, [.ref (u9 0), .ref (u9 1), .ref (u9 2), .ref (u9 3), .int 0])), ((u9 0), .inl (cy 0, 6, .inl (fun _ => 0))), ((u9 1), .inl (cy 0, 6, .inl (fun _ => 0))), ((u9 2), .inl (cy 0, 6, .inl (fun _ => 0))), ((u9 3), .inl (cy 0, 4, .inl (fun _ => 0))), (q16, .inr (0, [.ref (u20 0), .ref (u20 1), .ref (u20 2), .ref (u20 3), .int 0])), ((u20 0), .inl (cy 0, 6, .inl (fun _ => 0))), ((u20 1), .inl (cy 0, 6, .inl (fun _ => 0))), ((u20 2), .inl (cy 0, 6, .inl (fun _ => 0))), ((u20 3), .inl (cy 0, 4, .inl (fun _ => 0)))] := hD
  refine lv_aload_n hx hb dX3_init_26 rfl (lv_at hl 0 rfl) ?_
  refine lv_aload_n hx hb dX3_init_27 rfl (lv_at hl 1 rfl) ?_
  refine va_putF (D := D) (ci := 3) (v := .ref r0) (ty := (.object "OpenGates$Land")) (C := RX3) (T := TX3) (N := 6) hx hb hT hin_3 tyX3 tyX3_ok nmX3 hown E.2 hP hD hS 0 rfl rfl 0 (by decide) (hT _ k_388) (fun _ h9 => h9) rfl hin rfl (by decide +kernel) rfl rfl (Nat.le_of_ble_eq_true rfl) dX3_init_28 (fun H locs hP hD hS => ?_)
  replace hP : va_P D classes [(h0, .inr (3, [.ref r0, .null, .ref q5, .ref q16, .int 0, .long 0])), (q5, .inr (0, [.ref (u9 0), .ref (u9 1), .ref (u9 2), .ref (u9 3), .int 0])), ((u9 0), .inl (cy 0, 6, .inl (fun _ => 0))), ((u9 1), .inl (cy 0, 6, .inl (fun _ => 0))), ((u9 2), .inl (cy 0, 6, .inl (fun _ => 0))), ((u9 3), .inl (cy 0, 4, .inl (fun _ => 0))), (q16, .inr (0, [.ref (u20 0), .ref (u20 1), .ref (u20 2), .ref (u20 3), .int 0])), ((u20 0), .inl (cy 0, 6, .inl (fun _ => 0))), ((u20 1), .inl (cy 0, 6, .inl (fun _ => 0))), ((u20 2), .inl (cy 0, 6, .inl (fun _ => 0))), ((u20 3), .inl (cy 0, 4, .inl (fun _ => 0)))] H := hP
  replace hD : va_D (xA h0 s.heap.size) [(h0, .inr (3, [.ref r0, .null, .ref q5, .ref q16, .int 0, .long 0])), (q5, .inr (0, [.ref (u9 0), .ref (u9 1), .ref (u9 2), .ref (u9 3), .int 0])), ((u9 0), .inl (cy 0, 6, .inl (fun _ => 0))), ((u9 1), .inl (cy 0, 6, .inl (fun _ => 0))), ((u9 2), .inl (cy 0, 6, .inl (fun _ => 0))), ((u9 3), .inl (cy 0, 4, .inl (fun _ => 0))), (q16, .inr (0, [.ref (u20 0), .ref (u20 1), .ref (u20 2), .ref (u20 3), .int 0])), ((u20 0), .inl (cy 0, 6, .inl (fun _ => 0))), ((u20 1), .inl (cy 0, 6, .inl (fun _ => 0))), ((u20 2), .inl (cy 0, 6, .inl (fun _ => 0))), ((u20 3), .inl (cy 0, 4, .inl (fun _ => 0)))] := hD
  refine lv_aload_n hx hb dX3_init_31 rfl (lv_at hl 0 rfl) ?_
  refine lv_aload_n hx hb dX3_init_32 rfl (lv_at hl 2 rfl) ?_
  refine va_putF (D := D) (ci := 3) (v := .ref r1) (ty := (.object "OpenGates$Deeds")) (C := RX3) (T := TX3) (N := 6) hx hb hT hin_3 tyX3 tyX3_ok nmX3 hown E.2 hP hD hS 0 rfl rfl 1 (by decide) (hT _ k_389) (fun _ h9 => h9) rfl hin rfl (by decide +kernel) rfl rfl (Nat.le_of_ble_eq_true rfl) dX3_init_33 (fun H locs hP hD hS => ?_)
  replace hP : va_P D classes [(h0, .inr (3, [.ref r0, .ref r1, .ref q5, .ref q16, .int 0, .long 0])), (q5, .inr (0, [.ref (u9 0), .ref (u9 1), .ref (u9 2), .ref (u9 3), .int 0])), ((u9 0), .inl (cy 0, 6, .inl (fun _ => 0))), ((u9 1), .inl (cy 0, 6, .inl (fun _ => 0))), ((u9 2), .inl (cy 0, 6, .inl (fun _ => 0))), ((u9 3), .inl (cy 0, 4, .inl (fun _ => 0))), (q16, .inr (0, [.ref (u20 0), .ref (u20 1), .ref (u20 2), .ref (u20 3), .int 0])), ((u20 0), .inl (cy 0, 6, .inl (fun _ => 0))), ((u20 1), .inl (cy 0, 6, .inl (fun _ => 0))), ((u20 2), .inl (cy 0, 6, .inl (fun _ => 0))), ((u20 3), .inl (cy 0, 4, .inl (fun _ => 0)))] H := hP
  replace hD : va_D (xA h0 s.heap.size) [(h0, .inr (3, [.ref r0, .ref r1, .ref q5, .ref q16, .int 0, .long 0])), (q5, .inr (0, [.ref (u9 0), .ref (u9 1), .ref (u9 2), .ref (u9 3), .int 0])), ((u9 0), .inl (cy 0, 6, .inl (fun _ => 0))), ((u9 1), .inl (cy 0, 6, .inl (fun _ => 0))), ((u9 2), .inl (cy 0, 6, .inl (fun _ => 0))), ((u9 3), .inl (cy 0, 4, .inl (fun _ => 0))), (q16, .inr (0, [.ref (u20 0), .ref (u20 1), .ref (u20 2), .ref (u20 3), .int 0])), ((u20 0), .inl (cy 0, 6, .inl (fun _ => 0))), ((u20 1), .inl (cy 0, 6, .inl (fun _ => 0))), ((u20 2), .inl (cy 0, 6, .inl (fun _ => 0))), ((u20 3), .inl (cy 0, 4, .inl (fun _ => 0)))] := hD
  refine W.widen (k := 10) (n := 54) (Nat.le_of_ble_eq_true rfl) (Nat.le_of_ble_eq_true rfl) ?_
  exact W.vret hx hb hr (fun t ht hW => ⟨⟨(fun i => match i with | 0 => q5 | 1 => (u9 0) | 2 => (u9 1) | 3 => (u9 2) | 4 => (u9 3) | 5 => q16 | 6 => (u20 0) | 7 => (u20 1) | 8 => (u20 2) | _ => (u20 3)), rfl, trivial, (by show va_P D classes [(h0, .inr (3, [.ref r0, .ref r1, .ref q5, .ref q16, .int 0, .long 0])), (q5, .inr (0, [.ref (u9 0), .ref (u9 1), .ref (u9 2), .ref (u9 3), .int 0])), ((u9 0), .inl (cy 0, 6, .inl (fun _ => 0))), ((u9 1), .inl (cy 0, 6, .inl (fun _ => 0))), ((u9 2), .inl (cy 0, 6, .inl (fun _ => 0))), ((u9 3), .inl (cy 0, 4, .inl (fun _ => 0))), (q16, .inr (0, [.ref (u20 0), .ref (u20 1), .ref (u20 2), .ref (u20 3), .int 0])), ((u20 0), .inl (cy 0, 6, .inl (fun _ => 0))), ((u20 1), .inl (cy 0, 6, .inl (fun _ => 0))), ((u20 2), .inl (cy 0, 6, .inl (fun _ => 0))), ((u20 3), .inl (cy 0, 4, .inl (fun _ => 0)))] t.heap; rw [ht]; exact hP), hD⟩, hS.F ht⟩) hS.2.2 dX3_init_36 hlocks
