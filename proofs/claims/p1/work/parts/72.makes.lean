theorem dX7_init_0 : decode cX7_init 0 = .ok (.aload_n 0, 1) := by decide +kernel
theorem dX7_init_1 : decode cX7_init 1 = .ok (.invokespecial 3, 3) := by decide +kernel
theorem dX7_init_4 : decode cX7_init 4 = .ok (.aload_n 0, 1) := by decide +kernel
theorem dX7_init_5 : decode cX7_init 5 = .ok (.iconst 0, 1) := by decide +kernel
theorem dX7_init_6 : decode cX7_init 6 = .ok (.putfield 9, 3) := by decide +kernel
theorem dX7_init_9 : decode cX7_init 9 = .ok (.aload_n 0, 1) := by decide +kernel
theorem dX7_init_10 : decode cX7_init 10 = .ok (.iconst 0, 1) := by decide +kernel
theorem dX7_init_11 : decode cX7_init 11 = .ok (.putfield 15, 3) := by decide +kernel
theorem dX7_init_14 : decode cX7_init 14 = .ok (.aload_n 0, 1) := by decide +kernel
theorem dX7_init_15 : decode cX7_init 15 = .ok (.iconst 0, 1) := by decide +kernel
theorem dX7_init_16 : decode cX7_init 16 = .ok (.putfield 18, 3) := by decide +kernel
theorem dX7_init_19 : decode cX7_init 19 = .ok (.aload_n 0, 1) := by decide +kernel
theorem dX7_init_20 : decode cX7_init 20 = .ok (.iconst 0, 1) := by decide +kernel
theorem dX7_init_21 : decode cX7_init 21 = .ok (.putfield 21, 3) := by decide +kernel
theorem dX7_init_24 : decode cX7_init 24 = .ok (.aload_n 0, 1) := by decide +kernel
theorem dX7_init_25 : decode cX7_init 25 = .ok (.iconst 0, 1) := by decide +kernel
theorem dX7_init_26 : decode cX7_init 26 = .ok (.putfield 24, 3) := by decide +kernel
theorem dX7_init_29 : decode cX7_init 29 = .ok (.aload_n 0, 1) := by decide +kernel
theorem dX7_init_30 : decode cX7_init 30 = .ok (.iconst 0, 1) := by decide +kernel
theorem dX7_init_31 : decode cX7_init 31 = .ok (.putfield 27, 3) := by decide +kernel
theorem dX7_init_34 : decode cX7_init 34 = .ok (.aload_n 0, 1) := by decide +kernel
theorem dX7_init_35 : decode cX7_init 35 = .ok (.sipush 1001, 3) := by decide +kernel
theorem dX7_init_38 : decode cX7_init 38 = .ok (.newarray .int, 2) := by decide +kernel
theorem dX7_init_40 : decode cX7_init 40 = .ok (.putfield 31, 3) := by decide +kernel
theorem dX7_init_43 : decode cX7_init 43 = .ok (.return_, 1) := by decide +kernel
theorem dX5_init_0 : decode cX5_init 0 = .ok (.aload_n 0, 1) := by decide +kernel
theorem dX5_init_1 : decode cX5_init 1 = .ok (.invokespecial 3, 3) := by decide +kernel
theorem dX5_init_4 : decode cX5_init 4 = .ok (.aload_n 0, 1) := by decide +kernel
theorem dX5_init_5 : decode cX5_init 5 = .ok (.new 9, 3) := by decide +kernel
theorem dX5_init_8 : decode cX5_init 8 = .ok (.dup, 1) := by decide +kernel
set_option maxRecDepth 20000 in
theorem ggX5_init_X7_init : GoodIn wsX5_init wsX7_init := goodIn_r _ [20, 21, 2, 3, 22, 23, 24, 25, 26, 27, 13, 28, 29, 30, 31, 32, 33, 34, 35] rfl (by decide +kernel)
set_option maxRecDepth 20000 in
theorem gX5_init_X7_init_n11 : GoodIn wsX5_init (wsX7_init) := ggX5_init_X7_init
theorem dX5_init_9 : decode cX5_init 9 = .ok (.invokespecial 11, 3) := by decide +kernel
theorem dX5_init_12 : decode cX5_init 12 = .ok (.putfield 12, 3) := by decide +kernel
theorem dX5_init_15 : decode cX5_init 15 = .ok (.aload_n 0, 1) := by decide +kernel
theorem dX5_init_16 : decode cX5_init 16 = .ok (.iconst 0, 1) := by decide +kernel
theorem dX5_init_17 : decode cX5_init 17 = .ok (.putfield 18, 3) := by decide +kernel
theorem dX5_init_20 : decode cX5_init 20 = .ok (.aload_n 0, 1) := by decide +kernel
theorem dX5_init_21 : decode cX5_init 21 = .ok (.iconst 0, 1) := by decide +kernel
theorem dX5_init_22 : decode cX5_init 22 = .ok (.putfield 22, 3) := by decide +kernel
theorem dX5_init_25 : decode cX5_init 25 = .ok (.aload_n 0, 1) := by decide +kernel
theorem dX5_init_26 : decode cX5_init 26 = .ok (.bipush 63, 2) := by decide +kernel
theorem dX5_init_28 : decode cX5_init 28 = .ok (.putfield 26, 3) := by decide +kernel
theorem dX5_init_31 : decode cX5_init 31 = .ok (.aload_n 0, 1) := by decide +kernel
theorem dX5_init_32 : decode cX5_init 32 = .ok (.iconst 0, 1) := by decide +kernel
theorem dX5_init_33 : decode cX5_init 33 = .ok (.putfield 30, 3) := by decide +kernel
theorem dX5_init_36 : decode cX5_init 36 = .ok (.aload_n 0, 1) := by decide +kernel
theorem dX5_init_37 : decode cX5_init 37 = .ok (.iconst 0, 1) := by decide +kernel
theorem dX5_init_38 : decode cX5_init 38 = .ok (.putfield 33, 3) := by decide +kernel
theorem dX5_init_41 : decode cX5_init 41 = .ok (.aload_n 0, 1) := by decide +kernel
theorem dX5_init_42 : decode cX5_init 42 = .ok (.bipush 24, 2) := by decide +kernel
theorem dX5_init_44 : decode cX5_init 44 = .ok (.newarray .int, 2) := by decide +kernel
theorem dX5_init_46 : decode cX5_init 46 = .ok (.putfield 36, 3) := by decide +kernel
theorem dX5_init_49 : decode cX5_init 49 = .ok (.aload_n 0, 1) := by decide +kernel
theorem dX5_init_50 : decode cX5_init 50 = .ok (.iconst 4, 1) := by decide +kernel
theorem dX5_init_51 : decode cX5_init 51 = .ok (.newarray .int, 2) := by decide +kernel
theorem dX5_init_53 : decode cX5_init 53 = .ok (.putfield 40, 3) := by decide +kernel
theorem dX5_init_56 : decode cX5_init 56 = .ok (.aload_n 0, 1) := by decide +kernel
theorem dX5_init_57 : decode cX5_init 57 = .ok (.iload_n 1, 1) := by decide +kernel
theorem dX5_init_58 : decode cX5_init 58 = .ok (.putfield 43, 3) := by decide +kernel
theorem dX5_init_61 : decode cX5_init 61 = .ok (.aload_n 0, 1) := by decide +kernel
theorem dX5_init_62 : decode cX5_init 62 = .ok (.iload_n 2, 1) := by decide +kernel
theorem dX5_init_63 : decode cX5_init 63 = .ok (.putfield 46, 3) := by decide +kernel
theorem dX5_init_66 : decode cX5_init 66 = .ok (.aload_n 0, 1) := by decide +kernel
theorem dX5_init_67 : decode cX5_init 67 = .ok (.iload_n 3, 1) := by decide +kernel
theorem dX5_init_68 : decode cX5_init 68 = .ok (.putfield 49, 3) := by decide +kernel
theorem dX5_init_71 : decode cX5_init 71 = .ok (.return_, 1) := by decide +kernel
theorem dX6_init_0 : decode cX6_init 0 = .ok (.aload_n 0, 1) := by decide +kernel
theorem dX6_init_1 : decode cX6_init 1 = .ok (.invokespecial 3, 3) := by decide +kernel
theorem dX6_init_4 : decode cX6_init 4 = .ok (.aload_n 0, 1) := by decide +kernel
theorem dX6_init_5 : decode cX6_init 5 = .ok (.iconst 0, 1) := by decide +kernel
theorem dX6_init_6 : decode cX6_init 6 = .ok (.putfield 9, 3) := by decide +kernel
theorem dX6_init_9 : decode cX6_init 9 = .ok (.aload_n 0, 1) := by decide +kernel
theorem dX6_init_10 : decode cX6_init 10 = .ok (.iconst 0, 1) := by decide +kernel
theorem dX6_init_11 : decode cX6_init 11 = .ok (.putfield 15, 3) := by decide +kernel
theorem dX6_init_14 : decode cX6_init 14 = .ok (.aload_n 0, 1) := by decide +kernel
theorem dX6_init_15 : decode cX6_init 15 = .ok (.new 18, 3) := by decide +kernel
theorem dX6_init_18 : decode cX6_init 18 = .ok (.dup, 1) := by decide +kernel
set_option maxRecDepth 20000 in
theorem ggX6_init_X7_init : GoodIn wsX6_init wsX7_init := goodIn_r _ [18, 19, 2, 3, 20, 21, 22, 23, 24, 25, 12, 26, 36, 37, 38, 39, 40, 41, 42] rfl (by decide +kernel)
set_option maxRecDepth 20000 in
theorem gX6_init_X7_init_n20 : GoodIn wsX6_init (wsX7_init) := ggX6_init_X7_init
theorem dX6_init_19 : decode cX6_init 19 = .ok (.invokespecial 20, 3) := by decide +kernel
theorem dX6_init_22 : decode cX6_init 22 = .ok (.putfield 21, 3) := by decide +kernel
theorem dX6_init_25 : decode cX6_init 25 = .ok (.aload_n 0, 1) := by decide +kernel
theorem dX6_init_26 : decode cX6_init 26 = .ok (.new 18, 3) := by decide +kernel
theorem dX6_init_29 : decode cX6_init 29 = .ok (.dup, 1) := by decide +kernel
theorem dX6_init_30 : decode cX6_init 30 = .ok (.invokespecial 20, 3) := by decide +kernel
theorem dX6_init_33 : decode cX6_init 33 = .ok (.putfield 25, 3) := by decide +kernel
theorem dX6_init_36 : decode cX6_init 36 = .ok (.aload_n 0, 1) := by decide +kernel
theorem dX6_init_37 : decode cX6_init 37 = .ok (.iconst 0, 1) := by decide +kernel
theorem dX6_init_38 : decode cX6_init 38 = .ok (.putfield 28, 3) := by decide +kernel
theorem dX6_init_41 : decode cX6_init 41 = .ok (.aload_n 0, 1) := by decide +kernel
theorem dX6_init_42 : decode cX6_init 42 = .ok (.sipush 501, 3) := by decide +kernel
theorem dX6_init_45 : decode cX6_init 45 = .ok (.newarray .int, 2) := by decide +kernel
theorem dX6_init_47 : decode cX6_init 47 = .ok (.putfield 31, 3) := by decide +kernel
theorem dX6_init_50 : decode cX6_init 50 = .ok (.aload_n 0, 1) := by decide +kernel
theorem dX6_init_51 : decode cX6_init 51 = .ok (.sipush 501, 3) := by decide +kernel
theorem dX6_init_54 : decode cX6_init 54 = .ok (.newarray .int, 2) := by decide +kernel
theorem dX6_init_56 : decode cX6_init 56 = .ok (.putfield 35, 3) := by decide +kernel
theorem dX6_init_59 : decode cX6_init 59 = .ok (.aload_n 0, 1) := by decide +kernel
theorem dX6_init_60 : decode cX6_init 60 = .ok (.sipush 501, 3) := by decide +kernel
theorem dX6_init_63 : decode cX6_init 63 = .ok (.newarray .int, 2) := by decide +kernel
theorem dX6_init_65 : decode cX6_init 65 = .ok (.putfield 38, 3) := by decide +kernel
theorem dX6_init_68 : decode cX6_init 68 = .ok (.aload_n 0, 1) := by decide +kernel
theorem dX6_init_69 : decode cX6_init 69 = .ok (.sipush 501, 3) := by decide +kernel
theorem dX6_init_72 : decode cX6_init 72 = .ok (.newarray .int, 2) := by decide +kernel
theorem dX6_init_74 : decode cX6_init 74 = .ok (.putfield 41, 3) := by decide +kernel
theorem dX6_init_77 : decode cX6_init 77 = .ok (.return_, 1) := by decide +kernel
theorem dX10_init_0 : decode cX10_init 0 = .ok (.aload_n 0, 1) := by decide +kernel
theorem dX10_init_1 : decode cX10_init 1 = .ok (.invokespecial 3, 3) := by decide +kernel
theorem dX10_init_4 : decode cX10_init 4 = .ok (.aload_n 0, 1) := by decide +kernel
theorem dX10_init_5 : decode cX10_init 5 = .ok (.iconst 0, 1) := by decide +kernel
theorem dX10_init_6 : decode cX10_init 6 = .ok (.putfield 9, 3) := by decide +kernel
theorem dX10_init_9 : decode cX10_init 9 = .ok (.aload_n 0, 1) := by decide +kernel
theorem dX10_init_10 : decode cX10_init 10 = .ok (.iconst 0, 1) := by decide +kernel
theorem dX10_init_11 : decode cX10_init 11 = .ok (.putfield 15, 3) := by decide +kernel
theorem dX10_init_14 : decode cX10_init 14 = .ok (.aload_n 0, 1) := by decide +kernel
theorem dX10_init_15 : decode cX10_init 15 = .ok (.iconst 0, 1) := by decide +kernel
theorem dX10_init_16 : decode cX10_init 16 = .ok (.putfield 18, 3) := by decide +kernel
theorem dX10_init_19 : decode cX10_init 19 = .ok (.aload_n 0, 1) := by decide +kernel
theorem dX10_init_20 : decode cX10_init 20 = .ok (.bipush 19, 2) := by decide +kernel
theorem dX10_init_22 : decode cX10_init 22 = .ok (.newarray .int, 2) := by decide +kernel
theorem dX10_init_24 : decode cX10_init 24 = .ok (.putfield 22, 3) := by decide +kernel
theorem dX10_init_27 : decode cX10_init 27 = .ok (.aload_n 0, 1) := by decide +kernel
theorem dX10_init_28 : decode cX10_init 28 = .ok (.bipush 9, 2) := by decide +kernel
theorem dX10_init_30 : decode cX10_init 30 = .ok (.newarray .int, 2) := by decide +kernel
theorem dX10_init_32 : decode cX10_init 32 = .ok (.putfield 26, 3) := by decide +kernel
theorem dX10_init_35 : decode cX10_init 35 = .ok (.return_, 1) := by decide +kernel
theorem dX8_init_0 : decode cX8_init 0 = .ok (.aload_n 0, 1) := by decide +kernel
theorem dX8_init_1 : decode cX8_init 1 = .ok (.invokespecial 3, 3) := by decide +kernel
theorem dX8_init_4 : decode cX8_init 4 = .ok (.aload_n 0, 1) := by decide +kernel
theorem dX8_init_5 : decode cX8_init 5 = .ok (.iconst 0, 1) := by decide +kernel
theorem dX8_init_6 : decode cX8_init 6 = .ok (.putfield 9, 3) := by decide +kernel
theorem dX8_init_9 : decode cX8_init 9 = .ok (.aload_n 0, 1) := by decide +kernel
theorem dX8_init_10 : decode cX8_init 10 = .ok (.iconst 0, 1) := by decide +kernel
theorem dX8_init_11 : decode cX8_init 11 = .ok (.putfield 15, 3) := by decide +kernel
theorem dX8_init_14 : decode cX8_init 14 = .ok (.aload_n 0, 1) := by decide +kernel
theorem dX8_init_15 : decode cX8_init 15 = .ok (.iconst 0, 1) := by decide +kernel
theorem dX8_init_16 : decode cX8_init 16 = .ok (.putfield 18, 3) := by decide +kernel
theorem dX8_init_19 : decode cX8_init 19 = .ok (.aload_n 0, 1) := by decide +kernel
theorem dX8_init_20 : decode cX8_init 20 = .ok (.iconst 0, 1) := by decide +kernel
theorem dX8_init_21 : decode cX8_init 21 = .ok (.putfield 21, 3) := by decide +kernel
theorem dX8_init_24 : decode cX8_init 24 = .ok (.aload_n 0, 1) := by decide +kernel
theorem dX8_init_25 : decode cX8_init 25 = .ok (.iconst 0, 1) := by decide +kernel
theorem dX8_init_26 : decode cX8_init 26 = .ok (.putfield 24, 3) := by decide +kernel
theorem dX8_init_29 : decode cX8_init 29 = .ok (.aload_n 0, 1) := by decide +kernel
theorem dX8_init_30 : decode cX8_init 30 = .ok (.sipush 2002, 3) := by decide +kernel
theorem dX8_init_33 : decode cX8_init 33 = .ok (.newarray .int, 2) := by decide +kernel
theorem dX8_init_35 : decode cX8_init 35 = .ok (.putfield 28, 3) := by decide +kernel
theorem dX8_init_38 : decode cX8_init 38 = .ok (.aload_n 0, 1) := by decide +kernel
theorem dX8_init_39 : decode cX8_init 39 = .ok (.sipush 2002, 3) := by decide +kernel
theorem dX8_init_42 : decode cX8_init 42 = .ok (.newarray .int, 2) := by decide +kernel
theorem dX8_init_44 : decode cX8_init 44 = .ok (.putfield 32, 3) := by decide +kernel
theorem dX8_init_47 : decode cX8_init 47 = .ok (.aload_n 0, 1) := by decide +kernel
theorem dX8_init_48 : decode cX8_init 48 = .ok (.iconst 2, 1) := by decide +kernel
theorem dX8_init_49 : decode cX8_init 49 = .ok (.newarray .int, 2) := by decide +kernel
theorem dX8_init_51 : decode cX8_init 51 = .ok (.putfield 35, 3) := by decide +kernel
theorem dX8_init_54 : decode cX8_init 54 = .ok (.return_, 1) := by decide +kernel
theorem dX4_init_0 : decode cX4_init 0 = .ok (.aload_n 0, 1) := by decide +kernel
theorem dX4_init_1 : decode cX4_init 1 = .ok (.invokespecial 5, 3) := by decide +kernel
theorem dX4_init_4 : decode cX4_init 4 = .ok (.aload_n 0, 1) := by decide +kernel
theorem dX4_init_5 : decode cX4_init 5 = .ok (.iconst 0, 1) := by decide +kernel
theorem dX4_init_6 : decode cX4_init 6 = .ok (.putfield 11, 3) := by decide +kernel
theorem dX4_init_9 : decode cX4_init 9 = .ok (.aload_n 0, 1) := by decide +kernel
theorem dX4_init_10 : decode cX4_init 10 = .ok (.iconst 1, 1) := by decide +kernel
theorem dX4_init_11 : decode cX4_init 11 = .ok (.putfield 15, 3) := by decide +kernel
theorem dX4_init_14 : decode cX4_init 14 = .ok (.aload_n 0, 1) := by decide +kernel
theorem dX4_init_15 : decode cX4_init 15 = .ok (.iconst 0, 1) := by decide +kernel
theorem dX4_init_16 : decode cX4_init 16 = .ok (.putfield 18, 3) := by decide +kernel
theorem dX4_init_19 : decode cX4_init 19 = .ok (.aload_n 0, 1) := by decide +kernel
theorem dX4_init_20 : decode cX4_init 20 = .ok (.lconst 0, 1) := by decide +kernel
theorem dX4_init_21 : decode cX4_init 21 = .ok (.putfield 22, 3) := by decide +kernel
theorem dX4_init_24 : decode cX4_init 24 = .ok (.aload_n 0, 1) := by decide +kernel
theorem dX4_init_25 : decode cX4_init 25 = .ok (.lconst 0, 1) := by decide +kernel
theorem dX4_init_26 : decode cX4_init 26 = .ok (.putfield 26, 3) := by decide +kernel
theorem dX4_init_29 : decode cX4_init 29 = .ok (.aload_n 0, 1) := by decide +kernel
theorem dX4_init_30 : decode cX4_init 30 = .ok (.sipush 2001, 3) := by decide +kernel
theorem dX4_init_33 : decode cX4_init 33 = .ok (.newarray .int, 2) := by decide +kernel
theorem dX4_init_35 : decode cX4_init 35 = .ok (.putfield 29, 3) := by decide +kernel
theorem dX4_init_38 : decode cX4_init 38 = .ok (.aload_n 0, 1) := by decide +kernel
theorem dX4_init_39 : decode cX4_init 39 = .ok (.sipush 3072, 3) := by decide +kernel
theorem dX4_init_42 : decode cX4_init 42 = .ok (.newarray .int, 2) := by decide +kernel
theorem dX4_init_44 : decode cX4_init 44 = .ok (.putfield 33, 3) := by decide +kernel
theorem dX4_init_47 : decode cX4_init 47 = .ok (.return_, 1) := by decide +kernel
theorem dX0_init_0 : decode cX0_init 0 = .ok (.aload_n 0, 1) := by decide +kernel
theorem dX0_init_1 : decode cX0_init 1 = .ok (.invokespecial 1, 3) := by decide +kernel
theorem dX0_init_4 : decode cX0_init 4 = .ok (.aload_n 0, 1) := by decide +kernel
theorem dX0_init_5 : decode cX0_init 5 = .ok (.iconst 0, 1) := by decide +kernel
theorem dX0_init_6 : decode cX0_init 6 = .ok (.putfield 7, 3) := by decide +kernel
theorem dX0_init_9 : decode cX0_init 9 = .ok (.aload_n 0, 1) := by decide +kernel
theorem dX0_init_10 : decode cX0_init 10 = .ok (.iconst 4, 1) := by decide +kernel
theorem dX0_init_11 : decode cX0_init 11 = .ok (.newarray .int, 2) := by decide +kernel
theorem dX0_init_13 : decode cX0_init 13 = .ok (.putfield 13, 3) := by decide +kernel
theorem dX0_init_16 : decode cX0_init 16 = .ok (.aload_n 0, 1) := by decide +kernel
theorem dX0_init_17 : decode cX0_init 17 = .ok (.bipush 12, 2) := by decide +kernel
theorem dX0_init_19 : decode cX0_init 19 = .ok (.newarray .int, 2) := by decide +kernel
theorem dX0_init_21 : decode cX0_init 21 = .ok (.putfield 17, 3) := by decide +kernel
theorem dX0_init_24 : decode cX0_init 24 = .ok (.aload_n 0, 1) := by decide +kernel
theorem dX0_init_25 : decode cX0_init 25 = .ok (.bipush 12, 2) := by decide +kernel
theorem dX0_init_27 : decode cX0_init 27 = .ok (.newarray .int, 2) := by decide +kernel
theorem dX0_init_29 : decode cX0_init 29 = .ok (.putfield 20, 3) := by decide +kernel
theorem dX0_init_32 : decode cX0_init 32 = .ok (.aload_n 0, 1) := by decide +kernel
theorem dX0_init_33 : decode cX0_init 33 = .ok (.bipush 12, 2) := by decide +kernel
theorem dX0_init_35 : decode cX0_init 35 = .ok (.newarray .int, 2) := by decide +kernel
theorem dX0_init_37 : decode cX0_init 37 = .ok (.putfield 23, 3) := by decide +kernel
theorem dX0_init_40 : decode cX0_init 40 = .ok (.aload_n 0, 1) := by decide +kernel
theorem dX0_init_41 : decode cX0_init 41 = .ok (.bipush 12, 2) := by decide +kernel
theorem dX0_init_43 : decode cX0_init 43 = .ok (.newarray .int, 2) := by decide +kernel
theorem dX0_init_45 : decode cX0_init 45 = .ok (.putfield 26, 3) := by decide +kernel
theorem dX0_init_48 : decode cX0_init 48 = .ok (.return_, 1) := by decide +kernel
theorem dX9_init_0 : decode cX9_init 0 = .ok (.aload_n 0, 1) := by decide +kernel
theorem dX9_init_1 : decode cX9_init 1 = .ok (.invokespecial 1, 3) := by decide +kernel
theorem dX9_init_4 : decode cX9_init 4 = .ok (.aload_n 0, 1) := by decide +kernel
theorem dX9_init_5 : decode cX9_init 5 = .ok (.iconst 0, 1) := by decide +kernel
theorem dX9_init_6 : decode cX9_init 6 = .ok (.putfield 7, 3) := by decide +kernel
theorem dX9_init_9 : decode cX9_init 9 = .ok (.aload_n 0, 1) := by decide +kernel
theorem dX9_init_10 : decode cX9_init 10 = .ok (.iconst 0, 1) := by decide +kernel
theorem dX9_init_11 : decode cX9_init 11 = .ok (.putfield 13, 3) := by decide +kernel
theorem dX9_init_14 : decode cX9_init 14 = .ok (.aload_n 0, 1) := by decide +kernel
theorem dX9_init_15 : decode cX9_init 15 = .ok (.bipush 40, 2) := by decide +kernel
theorem dX9_init_17 : decode cX9_init 17 = .ok (.newarray .int, 2) := by decide +kernel
theorem dX9_init_19 : decode cX9_init 19 = .ok (.putfield 16, 3) := by decide +kernel
theorem dX9_init_22 : decode cX9_init 22 = .ok (.aload_n 0, 1) := by decide +kernel
theorem dX9_init_23 : decode cX9_init 23 = .ok (.bipush 24, 2) := by decide +kernel
theorem dX9_init_25 : decode cX9_init 25 = .ok (.newarray .int, 2) := by decide +kernel
theorem dX9_init_27 : decode cX9_init 27 = .ok (.putfield 20, 3) := by decide +kernel
theorem dX9_init_30 : decode cX9_init 30 = .ok (.aload_n 0, 1) := by decide +kernel
theorem dX9_init_31 : decode cX9_init 31 = .ok (.iconst 4, 1) := by decide +kernel
theorem dX9_init_32 : decode cX9_init 32 = .ok (.newarray .int, 2) := by decide +kernel
theorem dX9_init_34 : decode cX9_init 34 = .ok (.putfield 23, 3) := by decide +kernel
theorem dX9_init_37 : decode cX9_init 37 = .ok (.aload_n 0, 1) := by decide +kernel
theorem dX9_init_38 : decode cX9_init 38 = .ok (.sipush 400, 3) := by decide +kernel
theorem dX9_init_41 : decode cX9_init 41 = .ok (.newarray .int, 2) := by decide +kernel
theorem dX9_init_43 : decode cX9_init 43 = .ok (.putfield 26, 3) := by decide +kernel
theorem dX9_init_46 : decode cX9_init 46 = .ok (.return_, 1) := by decide +kernel
theorem dX1_init_0 : decode cX1_init 0 = .ok (.aload_n 0, 1) := by decide +kernel
theorem dX1_init_1 : decode cX1_init 1 = .ok (.invokespecial 1, 3) := by decide +kernel
theorem dX1_init_4 : decode cX1_init 4 = .ok (.aload_n 0, 1) := by decide +kernel
theorem dX1_init_5 : decode cX1_init 5 = .ok (.iconst 0, 1) := by decide +kernel
theorem dX1_init_6 : decode cX1_init 6 = .ok (.putfield 7, 3) := by decide +kernel
theorem dX1_init_9 : decode cX1_init 9 = .ok (.aload_n 0, 1) := by decide +kernel
theorem dX1_init_10 : decode cX1_init 10 = .ok (.iconst 0, 1) := by decide +kernel
theorem dX1_init_11 : decode cX1_init 11 = .ok (.putfield 13, 3) := by decide +kernel
theorem dX1_init_14 : decode cX1_init 14 = .ok (.aload_n 0, 1) := by decide +kernel
theorem dX1_init_15 : decode cX1_init 15 = .ok (.iconst 0, 1) := by decide +kernel
theorem dX1_init_16 : decode cX1_init 16 = .ok (.putfield 16, 3) := by decide +kernel
theorem dX1_init_19 : decode cX1_init 19 = .ok (.aload_n 0, 1) := by decide +kernel
theorem dX1_init_20 : decode cX1_init 20 = .ok (.lconst 0, 1) := by decide +kernel
theorem dX1_init_21 : decode cX1_init 21 = .ok (.putfield 20, 3) := by decide +kernel
theorem dX1_init_24 : decode cX1_init 24 = .ok (.aload_n 0, 1) := by decide +kernel
theorem dX1_init_25 : decode cX1_init 25 = .ok (.bipush 10, 2) := by decide +kernel
theorem dX1_init_27 : decode cX1_init 27 = .ok (.newarray .int, 2) := by decide +kernel
theorem dX1_init_29 : decode cX1_init 29 = .ok (.putfield 24, 3) := by decide +kernel
theorem dX1_init_32 : decode cX1_init 32 = .ok (.aload_n 0, 1) := by decide +kernel
theorem dX1_init_33 : decode cX1_init 33 = .ok (.bipush 10, 2) := by decide +kernel
theorem dX1_init_35 : decode cX1_init 35 = .ok (.newarray .int, 2) := by decide +kernel
theorem dX1_init_37 : decode cX1_init 37 = .ok (.putfield 28, 3) := by decide +kernel
theorem dX1_init_40 : decode cX1_init 40 = .ok (.return_, 1) := by decide +kernel
theorem dX3_init_0 : decode cX3_init 0 = .ok (.aload_n 0, 1) := by decide +kernel
theorem dX3_init_1 : decode cX3_init 1 = .ok (.invokespecial 3, 3) := by decide +kernel
theorem dX3_init_4 : decode cX3_init 4 = .ok (.aload_n 0, 1) := by decide +kernel
theorem dX3_init_5 : decode cX3_init 5 = .ok (.new 9, 3) := by decide +kernel
theorem dX3_init_8 : decode cX3_init 8 = .ok (.dup, 1) := by decide +kernel
theorem dX3_init_9 : decode cX3_init 9 = .ok (.iconst 0, 1) := by decide +kernel
theorem dX3_init_10 : decode cX3_init 10 = .ok (.iconst 2, 1) := by decide +kernel
theorem dX3_init_11 : decode cX3_init 11 = .ok (.iconst 2, 1) := by decide +kernel
set_option maxRecDepth 20000 in
theorem ggX3_init_X5_init : GoodIn wsX3_init wsX5_init := goodIn_r _ [18, 19, 2, 3, 20, 21, 22, 23, 24, 25, 26, 27, 28, 29, 30, 31, 32, 33, 34, 35, 36, 37, 38, 39, 40, 41, 42, 43, 44, 65, 66, 67, 68, 69, 70, 71, 45, 46, 47, 48, 49, 50, 51, 52, 53, 54, 55] rfl (by decide +kernel)
set_option maxRecDepth 20000 in
theorem gX3_init_X5_init : GoodIn wsX3_init (wsX5_init) := ggX3_init_X5_init
theorem dX3_init_12 : decode cX3_init 12 = .ok (.invokespecial 13, 3) := by decide +kernel
theorem dX3_init_15 : decode cX3_init 15 = .ok (.putfield 16, 3) := by decide +kernel
theorem dX3_init_18 : decode cX3_init 18 = .ok (.aload_n 0, 1) := by decide +kernel
theorem dX3_init_19 : decode cX3_init 19 = .ok (.iconst 0, 1) := by decide +kernel
theorem dX3_init_20 : decode cX3_init 20 = .ok (.putfield 20, 3) := by decide +kernel
theorem dX3_init_23 : decode cX3_init 23 = .ok (.aload_n 0, 1) := by decide +kernel
theorem dX3_init_24 : decode cX3_init 24 = .ok (.iconst 0, 1) := by decide +kernel
theorem dX3_init_25 : decode cX3_init 25 = .ok (.putfield 24, 3) := by decide +kernel
theorem dX3_init_28 : decode cX3_init 28 = .ok (.aload_n 0, 1) := by decide +kernel
theorem dX3_init_29 : decode cX3_init 29 = .ok (.iconst 0, 1) := by decide +kernel
theorem dX3_init_30 : decode cX3_init 30 = .ok (.putfield 27, 3) := by decide +kernel
theorem dX3_init_33 : decode cX3_init 33 = .ok (.aload_n 0, 1) := by decide +kernel
theorem dX3_init_34 : decode cX3_init 34 = .ok (.iconst 0, 1) := by decide +kernel
theorem dX3_init_35 : decode cX3_init 35 = .ok (.putfield 30, 3) := by decide +kernel
theorem dX3_init_38 : decode cX3_init 38 = .ok (.aload_n 0, 1) := by decide +kernel
theorem dX3_init_39 : decode cX3_init 39 = .ok (.iconst 0, 1) := by decide +kernel
theorem dX3_init_40 : decode cX3_init 40 = .ok (.putfield 33, 3) := by decide +kernel
theorem dX3_init_43 : decode cX3_init 43 = .ok (.aload_n 0, 1) := by decide +kernel
theorem dX3_init_44 : decode cX3_init 44 = .ok (.iconst 0, 1) := by decide +kernel
theorem dX3_init_45 : decode cX3_init 45 = .ok (.putfield 36, 3) := by decide +kernel
theorem dX3_init_48 : decode cX3_init 48 = .ok (.aload_n 0, 1) := by decide +kernel
theorem dX3_init_49 : decode cX3_init 49 = .ok (.iconst 0, 1) := by decide +kernel
theorem dX3_init_50 : decode cX3_init 50 = .ok (.putfield 39, 3) := by decide +kernel
theorem dX3_init_53 : decode cX3_init 53 = .ok (.aload_n 0, 1) := by decide +kernel
theorem dX3_init_54 : decode cX3_init 54 = .ok (.new 9, 3) := by decide +kernel
theorem dX3_init_57 : decode cX3_init 57 = .ok (.dup, 1) := by decide +kernel
theorem dX3_init_58 : decode cX3_init 58 = .ok (.iconst 0, 1) := by decide +kernel
theorem dX3_init_59 : decode cX3_init 59 = .ok (.iconst 2, 1) := by decide +kernel
theorem dX3_init_60 : decode cX3_init 60 = .ok (.iconst 2, 1) := by decide +kernel
theorem dX3_init_61 : decode cX3_init 61 = .ok (.invokespecial 13, 3) := by decide +kernel
theorem dX3_init_64 : decode cX3_init 64 = .ok (.putfield 42, 3) := by decide +kernel
theorem dX3_init_67 : decode cX3_init 67 = .ok (.return_, 1) := by decide +kernel
theorem dX2_init_0 : decode cX2_init 0 = .ok (.aload_n 0, 1) := by decide +kernel
theorem dX2_init_1 : decode cX2_init 1 = .ok (.invokespecial 3, 3) := by decide +kernel
theorem dX2_init_4 : decode cX2_init 4 = .ok (.aload_n 0, 1) := by decide +kernel
theorem dX2_init_5 : decode cX2_init 5 = .ok (.new 9, 3) := by decide +kernel
theorem dX2_init_8 : decode cX2_init 8 = .ok (.dup, 1) := by decide +kernel
set_option maxRecDepth 20000 in
theorem ggX2_init_X7_init : GoodIn wsX2_init wsX7_init := goodIn_r _ [26, 27, 2, 3, 28, 29, 30, 31, 32, 33, 34, 35, 78, 79, 80, 81, 82, 83, 84] rfl (by decide +kernel)
set_option maxRecDepth 20000 in
theorem gX2_init_X7_init_n11 : GoodIn wsX2_init (wsX7_init) := ggX2_init_X7_init
theorem dX2_init_9 : decode cX2_init 9 = .ok (.invokespecial 11, 3) := by decide +kernel
theorem dX2_init_12 : decode cX2_init 12 = .ok (.putfield 12, 3) := by decide +kernel
theorem dX2_init_15 : decode cX2_init 15 = .ok (.aload_n 0, 1) := by decide +kernel
theorem dX2_init_16 : decode cX2_init 16 = .ok (.new 18, 3) := by decide +kernel
theorem dX2_init_19 : decode cX2_init 19 = .ok (.dup, 1) := by decide +kernel
set_option maxRecDepth 20000 in
theorem ggX2_init_X6_init : GoodIn wsX2_init wsX6_init := goodIn_r _ [37, 38, 2, 3, 39, 40, 41, 5, 6, 42, 43, 44, 34, 45, 46, 47, 48, 25, 26, 27, 28, 29, 30, 31, 32, 33, 35, 91, 92, 93, 94, 95, 96, 97, 98, 99, 78, 79, 80, 81, 82, 83, 84] rfl (by decide +kernel)
set_option maxRecDepth 20000 in
theorem gX2_init_X6_init_n20 : GoodIn wsX2_init (wsX6_init) := ggX2_init_X6_init
theorem dX2_init_20 : decode cX2_init 20 = .ok (.invokespecial 20, 3) := by decide +kernel
theorem dX2_init_23 : decode cX2_init 23 = .ok (.putfield 21, 3) := by decide +kernel
theorem dX2_init_26 : decode cX2_init 26 = .ok (.aload_n 0, 1) := by decide +kernel
theorem dX2_init_27 : decode cX2_init 27 = .ok (.new 25, 3) := by decide +kernel
theorem dX2_init_30 : decode cX2_init 30 = .ok (.dup, 1) := by decide +kernel
set_option maxRecDepth 20000 in
theorem ggX2_init_X10_init : GoodIn wsX2_init wsX10_init := goodIn_r _ [50, 51, 2, 3, 52, 53, 54, 34, 55, 56, 100, 101, 102, 103, 104] rfl (by decide +kernel)
set_option maxRecDepth 20000 in
theorem gX2_init_X10_init_n27 : GoodIn wsX2_init (wsX10_init) := ggX2_init_X10_init
theorem dX2_init_31 : decode cX2_init 31 = .ok (.invokespecial 27, 3) := by decide +kernel
theorem dX2_init_34 : decode cX2_init 34 = .ok (.putfield 28, 3) := by decide +kernel
theorem dX2_init_37 : decode cX2_init 37 = .ok (.aload_n 0, 1) := by decide +kernel
theorem dX2_init_38 : decode cX2_init 38 = .ok (.new 9, 3) := by decide +kernel
theorem dX2_init_41 : decode cX2_init 41 = .ok (.dup, 1) := by decide +kernel
theorem dX2_init_42 : decode cX2_init 42 = .ok (.invokespecial 11, 3) := by decide +kernel
theorem dX2_init_45 : decode cX2_init 45 = .ok (.putfield 32, 3) := by decide +kernel
theorem dX2_init_48 : decode cX2_init 48 = .ok (.aload_n 0, 1) := by decide +kernel
theorem dX2_init_49 : decode cX2_init 49 = .ok (.new 35, 3) := by decide +kernel
theorem dX2_init_52 : decode cX2_init 52 = .ok (.dup, 1) := by decide +kernel
set_option maxRecDepth 20000 in
theorem ggX2_init_X8_init : GoodIn wsX2_init wsX8_init := goodIn_r _ [58, 59, 2, 3, 60, 61, 62, 63, 64, 34, 65, 66, 67, 105, 106, 107, 108, 109, 110, 111, 112] rfl (by decide +kernel)
set_option maxRecDepth 20000 in
theorem gX2_init_X8_init_n37 : GoodIn wsX2_init (wsX8_init) := ggX2_init_X8_init
theorem dX2_init_53 : decode cX2_init 53 = .ok (.invokespecial 37, 3) := by decide +kernel
theorem dX2_init_56 : decode cX2_init 56 = .ok (.putfield 38, 3) := by decide +kernel
theorem dX2_init_59 : decode cX2_init 59 = .ok (.aload_n 0, 1) := by decide +kernel
theorem dX2_init_60 : decode cX2_init 60 = .ok (.new 42, 3) := by decide +kernel
theorem dX2_init_63 : decode cX2_init 63 = .ok (.dup, 1) := by decide +kernel
set_option maxRecDepth 20000 in
theorem ggX2_init_X4_init : GoodIn wsX2_init wsX4_init := goodIn_r _ [69, 70, 2, 3, 71, 72, 73, 74, 75, 34, 76, 77, 113, 114, 115, 116, 117, 118, 119] rfl (by decide +kernel)
set_option maxRecDepth 20000 in
theorem gX2_init_X4_init_n44 : GoodIn wsX2_init (wsX4_init) := ggX2_init_X4_init
theorem dX2_init_64 : decode cX2_init 64 = .ok (.invokespecial 44, 3) := by decide +kernel
theorem dX2_init_67 : decode cX2_init 67 = .ok (.putfield 45, 3) := by decide +kernel
theorem dX2_init_70 : decode cX2_init 70 = .ok (.return_, 1) := by decide +kernel
set_option maxHeartbeats 4000000 in
set_option maxRecDepth 100000 in
/-- X7_init -/
theorem c_X7_init (l : Launch) (dC : Nat → ClassId) (dI : Nat → Nat → Nat) (cI : ClassId) (ra : Nat) (sz : Nat) : Met l yX7_init wsX7_init ({ frames := 1, cells := 1, slots := 1001, locals := 24 }) (va_Pc [.ref ra] (cPC dC dI [(ra, .inr (12, [.int 0, .int 0, .int 0, .int 0, .int 0, .int 0, .null]))] [(cI, .int)] sz)) (va_Qv (fun (u : Nat) => True) (fun (u : Nat) t => cQB dC dI [(ra, .inr (12, [.int 0, .int 0, .int 0, .int 0, .int 0, .int 0, .ref u])), (u, .inl (cI, 1001, .inl (fun _ => 0)))] [(cI, .int)] (va_A [(ra, .inr (12, [.int 0, .int 0, .int 0, .int 0, .int 0, .int 0, .null]))] sz) t) (va_A [(ra, .inr (12, [.int 0, .int 0, .int 0, .int 0, .int 0, .int 0, .null]))] sz)) 1 1001 (va_A [(ra, .inr (12, [.int 0, .int 0, .int 0, .int 0, .int 0, .int 0, .null]))] sz) := by
  refine Met.ofW (cc := cX7_init) (maxL := 1) (ret := none) (by decide) rfl ?_
  intro p e s m args below meth c s₁ B hml hv
  obtain ⟨rfl, hsz, hP, hK, hD0, hN⟩ := hv
  have hx := B.exec
  have hb := B.bytes
  have hr := B.returns
  have hts := atoms_spec (ws := wsX7_init) B.pre
  have hown : s.vm.findClass RX7 = some m.cls := findClass_of_methodNamed B.named
  have hlocks := B.notSynchronized
  have hin : meth.name = "<init>" := (name_of_methodNamed B.named B.method).1
  subst hsz
  have hD := hD0.self (sz := s.heap.size)
  generalize hAe : va_A [(ra, .inr (12, [.int 0, .int 0, .int 0, .int 0, .int 0, .int 0, .null]))] s.heap.size = A at hD ⊢
  have hA : ∀ q : Nat, s.heap.size ≤ q → A q := fun q h => by rw [← hAe]; exact Or.inr h
  have hS : va_S A s.heap s.heap [] := va_S.rf
  have hP : va_P (dC, dI) vwCl [(ra, .inr (12, [.int 0, .int 0, .int 0, .int 0, .int 0, .int 0, .null]))] s.heap := hP
  have hD : va_D A [(ra, .inr (12, [.int 0, .int 0, .int 0, .int 0, .int 0, .int 0, .null]))] := hD
  have hl := lv_entry ([.ref ra]) (n := 1) (Nat.le_of_ble_eq_true rfl)
  rw [lg_entry_eq]
  generalize (lg_sl ([.ref ra]) ++ List.replicate (1 - (lg_sl ([.ref ra])).length) Slot.unset).toArray = ls at hl ⊢
  have hl : lv_has ls 1 [(0, .ref ra)] := hl
  have iWX7 : ∀ w ∈ u_ws RX7 TX7 7, w ∈ wsX7_init := by decide +kernel
  refine lv_aload_n hx hb dX7_init_0 rfl (lv_at hl 0 rfl) ?_
  refine W.objInit hx hb hown (hts (.methodLink RX7 3 Lib.objectInit) (by decide +kernel)) (hts (.instanceMethod Lib.objectInit) (by decide +kernel)) (hts (.code Lib.objectInit ⟨#[0xb1]⟩ 1 none) (by decide +kernel)) rfl (by rw [hml]; exact hl.1) rfl dX7_init_1 (Nat.le_of_ble_eq_true rfl) (Nat.le_of_ble_eq_true rfl) ?_
  refine W.eq (g2 := F0 m 4 ls []) rfl ?_
  refine lv_aload_n hx hb dX7_init_4 rfl (lv_at hl 0 rfl) ?_
  refine lv_iconst (v := 0) hx hb dX7_init_5 (by decide) ?_
  refine va_put (D := (dC, dI)) (ci := 12) (v := .int 0) (ty := .int) (C := RX7) (T := TX7) (N := 7) hx hb hts iWX7 tyX7 tyX7_ok nmX7 hown hK hP hD hS 0 rfl rfl 0 (by decide) (hts (.fieldLink RX7 9 "Beaverhall$Run" "state" "I") (by decide +kernel)) (fun _ h9 => h9) rfl (by decide +kernel) rfl rfl (Nat.le_of_ble_eq_true rfl) dX7_init_6 (fun H locs hP hD hS => ?_)
  have hP : va_P (dC, dI) vwCl [(ra, .inr (12, [.int 0, .int 0, .int 0, .int 0, .int 0, .int 0, .null]))] H := hP
  have hD : va_D A [(ra, .inr (12, [.int 0, .int 0, .int 0, .int 0, .int 0, .int 0, .null]))] := hD
  refine lv_aload_n hx hb dX7_init_9 rfl (lv_at hl 0 rfl) ?_
  refine lv_iconst (v := 0) hx hb dX7_init_10 (by decide) ?_
  refine va_put (D := (dC, dI)) (ci := 12) (v := .int 0) (ty := .int) (C := RX7) (T := TX7) (N := 7) hx hb hts iWX7 tyX7 tyX7_ok nmX7 hown hK hP hD hS 0 rfl rfl 1 (by decide) (hts (.fieldLink RX7 15 "Beaverhall$Run" "cell" "I") (by decide +kernel)) (fun _ h9 => h9) rfl (by decide +kernel) rfl rfl (Nat.le_of_ble_eq_true rfl) dX7_init_11 (fun H locs hP hD hS => ?_)
  have hP : va_P (dC, dI) vwCl [(ra, .inr (12, [.int 0, .int 0, .int 0, .int 0, .int 0, .int 0, .null]))] H := hP
  have hD : va_D A [(ra, .inr (12, [.int 0, .int 0, .int 0, .int 0, .int 0, .int 0, .null]))] := hD
  refine lv_aload_n hx hb dX7_init_14 rfl (lv_at hl 0 rfl) ?_
  refine lv_iconst (v := 0) hx hb dX7_init_15 (by decide) ?_
  refine va_put (D := (dC, dI)) (ci := 12) (v := .int 0) (ty := .int) (C := RX7) (T := TX7) (N := 7) hx hb hts iWX7 tyX7 tyX7_ok nmX7 hown hK hP hD hS 0 rfl rfl 2 (by decide) (hts (.fieldLink RX7 18 "Beaverhall$Run" "steps" "I") (by decide +kernel)) (fun _ h9 => h9) rfl (by decide +kernel) rfl rfl (Nat.le_of_ble_eq_true rfl) dX7_init_16 (fun H locs hP hD hS => ?_)
  have hP : va_P (dC, dI) vwCl [(ra, .inr (12, [.int 0, .int 0, .int 0, .int 0, .int 0, .int 0, .null]))] H := hP
  have hD : va_D A [(ra, .inr (12, [.int 0, .int 0, .int 0, .int 0, .int 0, .int 0, .null]))] := hD
  refine lv_aload_n hx hb dX7_init_19 rfl (lv_at hl 0 rfl) ?_
  refine lv_iconst (v := 0) hx hb dX7_init_20 (by decide) ?_
  refine va_put (D := (dC, dI)) (ci := 12) (v := .int 0) (ty := .int) (C := RX7) (T := TX7) (N := 7) hx hb hts iWX7 tyX7 tyX7_ok nmX7 hown hK hP hD hS 0 rfl rfl 3 (by decide) (hts (.fieldLink RX7 21 "Beaverhall$Run" "leftmost" "I") (by decide +kernel)) (fun _ h9 => h9) rfl (by decide +kernel) rfl rfl (Nat.le_of_ble_eq_true rfl) dX7_init_21 (fun H locs hP hD hS => ?_)
  have hP : va_P (dC, dI) vwCl [(ra, .inr (12, [.int 0, .int 0, .int 0, .int 0, .int 0, .int 0, .null]))] H := hP
  have hD : va_D A [(ra, .inr (12, [.int 0, .int 0, .int 0, .int 0, .int 0, .int 0, .null]))] := hD
  refine lv_aload_n hx hb dX7_init_24 rfl (lv_at hl 0 rfl) ?_
  refine lv_iconst (v := 0) hx hb dX7_init_25 (by decide) ?_
  refine va_put (D := (dC, dI)) (ci := 12) (v := .int 0) (ty := .int) (C := RX7) (T := TX7) (N := 7) hx hb hts iWX7 tyX7 tyX7_ok nmX7 hown hK hP hD hS 0 rfl rfl 4 (by decide) (hts (.fieldLink RX7 24 "Beaverhall$Run" "rightmost" "I") (by decide +kernel)) (fun _ h9 => h9) rfl (by decide +kernel) rfl rfl (Nat.le_of_ble_eq_true rfl) dX7_init_26 (fun H locs hP hD hS => ?_)
  have hP : va_P (dC, dI) vwCl [(ra, .inr (12, [.int 0, .int 0, .int 0, .int 0, .int 0, .int 0, .null]))] H := hP
  have hD : va_D A [(ra, .inr (12, [.int 0, .int 0, .int 0, .int 0, .int 0, .int 0, .null]))] := hD
  refine lv_aload_n hx hb dX7_init_29 rfl (lv_at hl 0 rfl) ?_
  refine lv_iconst (v := 0) hx hb dX7_init_30 (by decide) ?_
  refine va_put (D := (dC, dI)) (ci := 12) (v := .int 0) (ty := .boolean) (C := RX7) (T := TX7) (N := 7) hx hb hts iWX7 tyX7 tyX7_ok nmX7 hown hK hP hD hS 0 rfl rfl 5 (by decide) (hts (.fieldLink RX7 27 "Beaverhall$Run" "hasFallen" "Z") (by decide +kernel)) (fun _ h9 => h9) rfl (by decide +kernel) rfl rfl (Nat.le_of_ble_eq_true rfl) dX7_init_31 (fun H locs hP hD hS => ?_)
  have hP : va_P (dC, dI) vwCl [(ra, .inr (12, [.int 0, .int 0, .int 0, .int 0, .int 0, .int 0, .null]))] H := hP
  have hD : va_D A [(ra, .inr (12, [.int 0, .int 0, .int 0, .int 0, .int 0, .int 0, .null]))] := hD
  refine lv_aload_n hx hb dX7_init_34 rfl (lv_at hl 0 rfl) ?_
  refine lv_sipush (v := 1001) hx hb dX7_init_35 (by decide) ?_
  refine va_newa (atype := .int) (ty := .int) (a0 := (1001, .inl (fun _ => 0))) (N' := 1001) hx hb (hts (.arrayClass .int) (by decide +kernel)) rfl hK hP hD hS hA (fun _ => rfl) (by decide) (by decide) (Nat.le_of_ble_eq_true rfl) (Nat.le_of_ble_eq_true rfl) (Nat.le_of_ble_eq_true rfl) dX7_init_38 (fun q_2 cA_1 H hK hP hD hS => ?_)
  have ecA_1 : cI = cA_1 := cA_one hK (i := 0) (j := 1) rfl rfl
  subst ecA_1
  have hK := hK.sub (tys' := [(cI, .int)]) [0] rfl
  have hP : va_P (dC, dI) vwCl [(ra, .inr (12, [.int 0, .int 0, .int 0, .int 0, .int 0, .int 0, .null])), (q_2, .inl (cI, 1001, .inl (fun _ => 0)))] H := hP
  have hD : va_D A [(ra, .inr (12, [.int 0, .int 0, .int 0, .int 0, .int 0, .int 0, .null])), (q_2, .inl (cI, 1001, .inl (fun _ => 0)))] := hD
  refine W.widen (k := 1) (n := 1001) (Nat.le_of_ble_eq_true rfl) (Nat.le_of_ble_eq_true rfl) ?_
  refine va_putF (D := (dC, dI)) (ci := 12) (v := .ref q_2) (ty := .array .int) (C := RX7) (T := TX7) (N := 7) hx hb hts iWX7 tyX7 tyX7_ok nmX7 hown hK hP hD hS 0 rfl rfl 6 (by decide) (hts (.fieldLink RX7 31 "Beaverhall$Run" "tape" "[I") (by decide +kernel)) (fun _ h9 => h9) rfl hin rfl (by decide +kernel) rfl rfl (Nat.le_of_ble_eq_true rfl) dX7_init_40 (fun H locs hP hD hS => ?_)
  have hP : va_P (dC, dI) vwCl [(ra, .inr (12, [.int 0, .int 0, .int 0, .int 0, .int 0, .int 0, .ref q_2])), (q_2, .inl (cI, 1001, .inl (fun _ => 0)))] H := hP
  have hD : va_D A [(ra, .inr (12, [.int 0, .int 0, .int 0, .int 0, .int 0, .int 0, .ref q_2])), (q_2, .inl (cI, 1001, .inl (fun _ => 0)))] := hD
  have hP9 := hP.sub (ws' := [(ra, .inr (12, [.int 0, .int 0, .int 0, .int 0, .int 0, .int 0, .ref q_2])), (q_2, .inl (cI, 1001, .inl (fun _ => 0)))]) [0, 1] rfl
  have hD9 := hD.sub (ws' := [(ra, .inr (12, [.int 0, .int 0, .int 0, .int 0, .int 0, .int 0, .ref q_2])), (q_2, .inl (cI, 1001, .inl (fun _ => 0)))]) [0, 1] (by decide) rfl
  have hK9 := hK.sub (tys' := [(cI, .int)]) [0] rfl
  exact W.vret hx hb hr (fun t ht hW => ⟨⟨q_2, rfl, trivial, ⟨by rw [ht]; exact hP9, va_K.moved hW.alike hK9, hD9⟩⟩, hS.F ht⟩) hS.2.2 dX7_init_43

set_option maxHeartbeats 4000000 in
set_option maxRecDepth 100000 in
/-- X5_init -/
theorem c_X5_init (l : Launch) (dC : Nat → ClassId) (dI : Nat → Nat → Nat) (cI : ClassId) (ra : Nat) (he ss gg : Int32) (h01 : he = 0 ∨ he = 1) (sz : Nat) : Met l yX5_init wsX5_init ({ frames := 2, cells := 4, slots := 1036, locals := 44 }) (va_Pc [.ref ra, .int he, .int ss, .int gg] (cPC dC dI [(ra, .inr (10, [.int 0, .int 0, .int 0, .null, .int 0, .int 0, .int 0, .int 0, .int 0, .null, .null]))] [(cI, .int)] sz)) (va_Qv (fun (u : Nat × Nat × Nat × Nat) => True) (fun (u : Nat × Nat × Nat × Nat) t => cQB dC dI [(ra, .inr (10, [.int he, .int ss, .int gg, .ref u.1, .int 0, .int 0, .int 63, .int 0, .int 0, .ref u.2.2.1, .ref u.2.2.2])), (u.1, .inr (12, [.int 0, .int 0, .int 0, .int 0, .int 0, .int 0, .ref u.2.1])), (u.2.1, .inl (cI, 1001, .inl (fun _ => 0))), (u.2.2.1, .inl (cI, 24, .inl (fun _ => 0))), (u.2.2.2, .inl (cI, 4, .inl (fun _ => 0)))] [(cI, .int)] (va_A [(ra, .inr (10, [.int 0, .int 0, .int 0, .null, .int 0, .int 0, .int 0, .int 0, .int 0, .null, .null]))] sz) t) (va_A [(ra, .inr (10, [.int 0, .int 0, .int 0, .null, .int 0, .int 0, .int 0, .int 0, .int 0, .null, .null]))] sz)) 4 1036 (va_A [(ra, .inr (10, [.int 0, .int 0, .int 0, .null, .int 0, .int 0, .int 0, .int 0, .int 0, .null, .null]))] sz) := by
  refine Met.ofW (cc := cX5_init) (maxL := 4) (ret := none) (by decide) rfl ?_
  intro p e s m args below meth c s₁ B hml hv
  obtain ⟨rfl, hsz, hP, hK, hD0, hN⟩ := hv
  have hx := B.exec
  have hb := B.bytes
  have hr := B.returns
  have hts := atoms_spec (ws := wsX5_init) B.pre
  have hown : s.vm.findClass RX5 = some m.cls := findClass_of_methodNamed B.named
  have hlocks := B.notSynchronized
  have hin : meth.name = "<init>" := (name_of_methodNamed B.named B.method).1
  subst hsz
  have hD := hD0.self (sz := s.heap.size)
  generalize hAe : va_A [(ra, .inr (10, [.int 0, .int 0, .int 0, .null, .int 0, .int 0, .int 0, .int 0, .int 0, .null, .null]))] s.heap.size = A at hD ⊢
  have hA : ∀ q : Nat, s.heap.size ≤ q → A q := fun q h => by rw [← hAe]; exact Or.inr h
  have hS : va_S A s.heap s.heap [] := va_S.rf
  have hP : va_P (dC, dI) vwCl [(ra, .inr (10, [.int 0, .int 0, .int 0, .null, .int 0, .int 0, .int 0, .int 0, .int 0, .null, .null]))] s.heap := hP
  have hD : va_D A [(ra, .inr (10, [.int 0, .int 0, .int 0, .null, .int 0, .int 0, .int 0, .int 0, .int 0, .null, .null]))] := hD
  have hl := lv_entry ([.ref ra, .int he, .int ss, .int gg]) (n := 4) (Nat.le_of_ble_eq_true rfl)
  rw [lg_entry_eq]
  generalize (lg_sl ([.ref ra, .int he, .int ss, .int gg]) ++ List.replicate (4 - (lg_sl ([.ref ra, .int he, .int ss, .int gg])).length) Slot.unset).toArray = ls at hl ⊢
  have hl : lv_has ls 4 [(0, .ref ra), (1, .int he), (2, .int ss), (3, .int gg)] := hl
  have iWX5 : ∀ w ∈ u_ws RX5 TX5 11, w ∈ wsX5_init := by decide +kernel
  have iWX7 : ∀ w ∈ u_ws RX7 TX7 7, w ∈ wsX5_init := by decide +kernel
  refine lv_aload_n hx hb dX5_init_0 rfl (lv_at hl 0 rfl) ?_
  refine W.objInit hx hb hown (hts (.methodLink RX5 3 Lib.objectInit) (by decide +kernel)) (hts (.instanceMethod Lib.objectInit) (by decide +kernel)) (hts (.code Lib.objectInit ⟨#[0xb1]⟩ 1 none) (by decide +kernel)) rfl (by rw [hml]; exact hl.1) rfl dX5_init_1 (Nat.le_of_ble_eq_true rfl) (Nat.le_of_ble_eq_true rfl) ?_
  refine W.eq (g2 := F0 m 4 ls []) rfl ?_
  refine lv_aload_n hx hb dX5_init_4 rfl (lv_at hl 0 rfl) ?_
  refine va_new (ci := 12) (fs := [.int 0, .int 0, .int 0, .int 0, .int 0, .int 0, .null]) (C := RX7) (T := TX7) (N := 7) hx hb hts iWX7 tyX7 tyX7_ok hown (hts (.classLink RX5 9 RX7) (by decide +kernel)) (hts (.instantiable RX7 7) (by decide +kernel)) (hts (.initialized RX7) (by decide +kernel)) hK hP hD hS hA rfl (fun j hj => by rcases (show j = 0 ∨ j = 1 ∨ j = 2 ∨ j = 3 ∨ j = 4 ∨ j = 5 ∨ j = 6 by omega) with rfl | rfl | rfl | rfl | rfl | rfl | rfl <;> rfl) (Nat.le_of_ble_eq_true rfl) (Nat.le_of_ble_eq_true rfl) dX5_init_5 (fun q_1 H hP hD hS => ?_)
  have hP : va_P (dC, dI) vwCl [(ra, .inr (10, [.int 0, .int 0, .int 0, .null, .int 0, .int 0, .int 0, .int 0, .int 0, .null, .null])), (q_1, .inr (12, [.int 0, .int 0, .int 0, .int 0, .int 0, .int 0, .null]))] H := hP
  have hD : va_D A [(ra, .inr (10, [.int 0, .int 0, .int 0, .null, .int 0, .int 0, .int 0, .int 0, .int 0, .null, .null])), (q_1, .inr (12, [.int 0, .int 0, .int 0, .int 0, .int 0, .int 0, .null]))] := hD
  refine W.widen (k := 1) (n := 7) (Nat.le_of_ble_eq_true rfl) (Nat.le_of_ble_eq_true rfl) ?_
  refine lv_dup hx hb dX5_init_8 rfl ?_
  have hPc := hP.sub (ws' := [(q_1, .inr (12, [.int 0, .int 0, .int 0, .int 0, .int 0, .int 0, .null]))]) [1] rfl
  have hDc := hD.sub (ws' := [(q_1, .inr (12, [.int 0, .int 0, .int 0, .int 0, .int 0, .int 0, .null]))]) [1] (by decide) rfl
  have hKc := hK.sub (tys' := [(cI, .int)]) [0] rfl
  have hFc := va_free (wc := [(q_1, .inr (12, [.int 0, .int 0, .int 0, .int 0, .int 0, .int 0, .null]))]) hD hS hA [1] rfl
  refine va_callv (va_runIN (As := []) (rest := [.ref q_1, .ref ra]) ⟨hx, hb, hml, hown, hts⟩ (c_X7_init l dC dI cI q_1 H.size) ⟨va_cnB 0 hts gX5_init_X7_init_n11 rfl rfl rfl (hN (.methodLinkNest RX5 11 yX7_init "Beaverhall") (by decide +kernel)) (hts (.initialized RX7) (by decide +kernel)) (by decide +kernel) ⟨Nat.le_of_ble_eq_true rfl, Nat.le_of_ble_eq_true rfl⟩, rfl, hts (.instanceMethod yX7_init) (by decide +kernel)⟩ (pcS hPc hDc hKc hN) rfl rfl hl.1 rfl (lv_room (Nat.le_of_ble_eq_true rfl)) dX5_init_9 ⟨Nat.le_of_ble_eq_true rfl, Nat.le_of_ble_eq_true rfl⟩) hS (fun q _ h => hFc q h) hFc (fun u t H1 locs ht hvm hw_3 hB hz1 hk1 hS => ?_)
  obtain ⟨hP1, hK1, hD1⟩ := hB
  rw [ht] at hP1
  try dsimp only at hw_3
  obtain ⟨hP, hD⟩ := va_join (wr := [(ra, .inr (10, [.int 0, .int 0, .int 0, .null, .int 0, .int 0, .int 0, .int 0, .int 0, .null, .null]))]) (w1 := [(q_1, .inr (12, [.int 0, .int 0, .int 0, .int 0, .int 0, .int 0, .ref u])), (u, .inl (cI, 1001, .inl (fun _ => 0)))]) hP hD [1] [0] rfl rfl (by decide) (by decide) hk1 hFc hP1 hD1
  generalize H1 = H at hP hS ⊢
  have hP : va_P (dC, dI) vwCl [(ra, .inr (10, [.int 0, .int 0, .int 0, .null, .int 0, .int 0, .int 0, .int 0, .int 0, .null, .null])), (q_1, .inr (12, [.int 0, .int 0, .int 0, .int 0, .int 0, .int 0, .ref u])), (u, .inl (cI, 1001, .inl (fun _ => 0)))] H := hP
  have hD : va_D A [(ra, .inr (10, [.int 0, .int 0, .int 0, .null, .int 0, .int 0, .int 0, .int 0, .int 0, .null, .null])), (q_1, .inr (12, [.int 0, .int 0, .int 0, .int 0, .int 0, .int 0, .ref u])), (u, .inl (cI, 1001, .inl (fun _ => 0)))] := hD
  refine W.widen (k := 2) (n := 1008) (Nat.le_of_ble_eq_true rfl) (Nat.le_of_ble_eq_true rfl) ?_
  obtain ⟨q_2, eq_2⟩ : ∃ z, z = u := ⟨_, rfl⟩
  subst eq_2
  refine va_putF (D := (dC, dI)) (ci := 10) (v := .ref q_1) (ty := .object "Beaverhall$Run") (C := RX5) (T := TX5) (N := 11) hx hb hts iWX5 tyX5 tyX5_ok nmX5 hown hK hP hD hS 0 rfl rfl 3 (by decide) (hts (.fieldLink RX5 12 "Beaverhall$Machine" "last" "LBeaverhall$Run;") (by decide +kernel)) (fun _ h9 => h9) rfl hin rfl (by decide +kernel) rfl rfl (Nat.le_of_ble_eq_true rfl) dX5_init_12 (fun H locs hP hD hS => ?_)
  have hP : va_P (dC, dI) vwCl [(ra, .inr (10, [.int 0, .int 0, .int 0, .ref q_1, .int 0, .int 0, .int 0, .int 0, .int 0, .null, .null])), (q_1, .inr (12, [.int 0, .int 0, .int 0, .int 0, .int 0, .int 0, .ref q_2])), (q_2, .inl (cI, 1001, .inl (fun _ => 0)))] H := hP
  have hD : va_D A [(ra, .inr (10, [.int 0, .int 0, .int 0, .ref q_1, .int 0, .int 0, .int 0, .int 0, .int 0, .null, .null])), (q_1, .inr (12, [.int 0, .int 0, .int 0, .int 0, .int 0, .int 0, .ref q_2])), (q_2, .inl (cI, 1001, .inl (fun _ => 0)))] := hD
  refine lv_aload_n hx hb dX5_init_15 rfl (lv_at hl 0 rfl) ?_
  refine lv_iconst (v := 0) hx hb dX5_init_16 (by decide) ?_
  refine va_put (D := (dC, dI)) (ci := 10) (v := .int 0) (ty := .boolean) (C := RX5) (T := TX5) (N := 11) hx hb hts iWX5 tyX5 tyX5_ok nmX5 hown hK hP hD hS 0 rfl rfl 4 (by decide) (hts (.fieldLink RX5 18 "Beaverhall$Machine" "wasRun" "Z") (by decide +kernel)) (fun _ h9 => h9) rfl (by decide +kernel) rfl rfl (Nat.le_of_ble_eq_true rfl) dX5_init_17 (fun H locs hP hD hS => ?_)
  have hP : va_P (dC, dI) vwCl [(ra, .inr (10, [.int 0, .int 0, .int 0, .ref q_1, .int 0, .int 0, .int 0, .int 0, .int 0, .null, .null])), (q_1, .inr (12, [.int 0, .int 0, .int 0, .int 0, .int 0, .int 0, .ref q_2])), (q_2, .inl (cI, 1001, .inl (fun _ => 0)))] H := hP
  have hD : va_D A [(ra, .inr (10, [.int 0, .int 0, .int 0, .ref q_1, .int 0, .int 0, .int 0, .int 0, .int 0, .null, .null])), (q_1, .inr (12, [.int 0, .int 0, .int 0, .int 0, .int 0, .int 0, .ref q_2])), (q_2, .inl (cI, 1001, .inl (fun _ => 0)))] := hD
  refine lv_aload_n hx hb dX5_init_20 rfl (lv_at hl 0 rfl) ?_
  refine lv_iconst (v := 0) hx hb dX5_init_21 (by decide) ?_
  refine va_put (D := (dC, dI)) (ci := 10) (v := .int 0) (ty := .int) (C := RX5) (T := TX5) (N := 11) hx hb hts iWX5 tyX5 tyX5_ok nmX5 hown hK hP hD hS 0 rfl rfl 5 (by decide) (hts (.fieldLink RX5 22 "Beaverhall$Machine" "told" "I") (by decide +kernel)) (fun _ h9 => h9) rfl (by decide +kernel) rfl rfl (Nat.le_of_ble_eq_true rfl) dX5_init_22 (fun H locs hP hD hS => ?_)
  have hP : va_P (dC, dI) vwCl [(ra, .inr (10, [.int 0, .int 0, .int 0, .ref q_1, .int 0, .int 0, .int 0, .int 0, .int 0, .null, .null])), (q_1, .inr (12, [.int 0, .int 0, .int 0, .int 0, .int 0, .int 0, .ref q_2])), (q_2, .inl (cI, 1001, .inl (fun _ => 0)))] H := hP
  have hD : va_D A [(ra, .inr (10, [.int 0, .int 0, .int 0, .ref q_1, .int 0, .int 0, .int 0, .int 0, .int 0, .null, .null])), (q_1, .inr (12, [.int 0, .int 0, .int 0, .int 0, .int 0, .int 0, .ref q_2])), (q_2, .inl (cI, 1001, .inl (fun _ => 0)))] := hD
  refine lv_aload_n hx hb dX5_init_25 rfl (lv_at hl 0 rfl) ?_
  refine lv_bipush (v := 63) hx hb dX5_init_26 (by decide) ?_
  refine va_put (D := (dC, dI)) (ci := 10) (v := .int 63) (ty := .char) (C := RX5) (T := TX5) (N := 11) hx hb hts iWX5 tyX5 tyX5_ok nmX5 hown hK hP hD hS 0 rfl rfl 6 (by decide) (hts (.fieldLink RX5 26 "Beaverhall$Machine" "letter" "C") (by decide +kernel)) (fun _ h9 => h9) rfl (by decide +kernel) rfl rfl (Nat.le_of_ble_eq_true rfl) dX5_init_28 (fun H locs hP hD hS => ?_)
  have hP : va_P (dC, dI) vwCl [(ra, .inr (10, [.int 0, .int 0, .int 0, .ref q_1, .int 0, .int 0, .int 63, .int 0, .int 0, .null, .null])), (q_1, .inr (12, [.int 0, .int 0, .int 0, .int 0, .int 0, .int 0, .ref q_2])), (q_2, .inl (cI, 1001, .inl (fun _ => 0)))] H := hP
  have hD : va_D A [(ra, .inr (10, [.int 0, .int 0, .int 0, .ref q_1, .int 0, .int 0, .int 63, .int 0, .int 0, .null, .null])), (q_1, .inr (12, [.int 0, .int 0, .int 0, .int 0, .int 0, .int 0, .ref q_2])), (q_2, .inl (cI, 1001, .inl (fun _ => 0)))] := hD
  refine lv_aload_n hx hb dX5_init_31 rfl (lv_at hl 0 rfl) ?_
  refine lv_iconst (v := 0) hx hb dX5_init_32 (by decide) ?_
  refine va_put (D := (dC, dI)) (ci := 10) (v := .int 0) (ty := .int) (C := RX5) (T := TX5) (N := 11) hx hb hts iWX5 tyX5 tyX5_ok nmX5 hown hK hP hD hS 0 rfl rfl 7 (by decide) (hts (.fieldLink RX5 30 "Beaverhall$Machine" "first" "I") (by decide +kernel)) (fun _ h9 => h9) rfl (by decide +kernel) rfl rfl (Nat.le_of_ble_eq_true rfl) dX5_init_33 (fun H locs hP hD hS => ?_)
  have hP : va_P (dC, dI) vwCl [(ra, .inr (10, [.int 0, .int 0, .int 0, .ref q_1, .int 0, .int 0, .int 63, .int 0, .int 0, .null, .null])), (q_1, .inr (12, [.int 0, .int 0, .int 0, .int 0, .int 0, .int 0, .ref q_2])), (q_2, .inl (cI, 1001, .inl (fun _ => 0)))] H := hP
  have hD : va_D A [(ra, .inr (10, [.int 0, .int 0, .int 0, .ref q_1, .int 0, .int 0, .int 63, .int 0, .int 0, .null, .null])), (q_1, .inr (12, [.int 0, .int 0, .int 0, .int 0, .int 0, .int 0, .ref q_2])), (q_2, .inl (cI, 1001, .inl (fun _ => 0)))] := hD
  refine lv_aload_n hx hb dX5_init_36 rfl (lv_at hl 0 rfl) ?_
  refine lv_iconst (v := 0) hx hb dX5_init_37 (by decide) ?_
  refine va_put (D := (dC, dI)) (ci := 10) (v := .int 0) (ty := .int) (C := RX5) (T := TX5) (N := 11) hx hb hts iWX5 tyX5 tyX5_ok nmX5 hown hK hP hD hS 0 rfl rfl 8 (by decide) (hts (.fieldLink RX5 33 "Beaverhall$Machine" "second" "I") (by decide +kernel)) (fun _ h9 => h9) rfl (by decide +kernel) rfl rfl (Nat.le_of_ble_eq_true rfl) dX5_init_38 (fun H locs hP hD hS => ?_)
  have hP : va_P (dC, dI) vwCl [(ra, .inr (10, [.int 0, .int 0, .int 0, .ref q_1, .int 0, .int 0, .int 63, .int 0, .int 0, .null, .null])), (q_1, .inr (12, [.int 0, .int 0, .int 0, .int 0, .int 0, .int 0, .ref q_2])), (q_2, .inl (cI, 1001, .inl (fun _ => 0)))] H := hP
  have hD : va_D A [(ra, .inr (10, [.int 0, .int 0, .int 0, .ref q_1, .int 0, .int 0, .int 63, .int 0, .int 0, .null, .null])), (q_1, .inr (12, [.int 0, .int 0, .int 0, .int 0, .int 0, .int 0, .ref q_2])), (q_2, .inl (cI, 1001, .inl (fun _ => 0)))] := hD
  refine lv_aload_n hx hb dX5_init_41 rfl (lv_at hl 0 rfl) ?_
  refine lv_bipush (v := 24) hx hb dX5_init_42 (by decide) ?_
  refine va_newa (atype := .int) (ty := .int) (a0 := (24, .inl (fun _ => 0))) (N' := 24) hx hb (hts (.arrayClass .int) (by decide +kernel)) rfl hK hP hD hS hA (fun _ => rfl) (by decide) (by decide) (Nat.le_of_ble_eq_true rfl) (Nat.le_of_ble_eq_true rfl) (Nat.le_of_ble_eq_true rfl) dX5_init_44 (fun q_5 cA_4 H hK hP hD hS => ?_)
  have ecA_4 : cI = cA_4 := cA_one hK (i := 0) (j := 1) rfl rfl
  subst ecA_4
  have hK := hK.sub (tys' := [(cI, .int)]) [0] rfl
  have hP : va_P (dC, dI) vwCl [(ra, .inr (10, [.int 0, .int 0, .int 0, .ref q_1, .int 0, .int 0, .int 63, .int 0, .int 0, .null, .null])), (q_1, .inr (12, [.int 0, .int 0, .int 0, .int 0, .int 0, .int 0, .ref q_2])), (q_2, .inl (cI, 1001, .inl (fun _ => 0))), (q_5, .inl (cI, 24, .inl (fun _ => 0)))] H := hP
  have hD : va_D A [(ra, .inr (10, [.int 0, .int 0, .int 0, .ref q_1, .int 0, .int 0, .int 63, .int 0, .int 0, .null, .null])), (q_1, .inr (12, [.int 0, .int 0, .int 0, .int 0, .int 0, .int 0, .ref q_2])), (q_2, .inl (cI, 1001, .inl (fun _ => 0))), (q_5, .inl (cI, 24, .inl (fun _ => 0)))] := hD
  refine W.widen (k := 3) (n := 1032) (Nat.le_of_ble_eq_true rfl) (Nat.le_of_ble_eq_true rfl) ?_
  refine va_putF (D := (dC, dI)) (ci := 10) (v := .ref q_5) (ty := .array .int) (C := RX5) (T := TX5) (N := 11) hx hb hts iWX5 tyX5 tyX5_ok nmX5 hown hK hP hD hS 0 rfl rfl 9 (by decide) (hts (.fieldLink RX5 36 "Beaverhall$Machine" "orders" "[I") (by decide +kernel)) (fun _ h9 => h9) rfl hin rfl (by decide +kernel) rfl rfl (Nat.le_of_ble_eq_true rfl) dX5_init_46 (fun H locs hP hD hS => ?_)
  have hP : va_P (dC, dI) vwCl [(ra, .inr (10, [.int 0, .int 0, .int 0, .ref q_1, .int 0, .int 0, .int 63, .int 0, .int 0, .ref q_5, .null])), (q_1, .inr (12, [.int 0, .int 0, .int 0, .int 0, .int 0, .int 0, .ref q_2])), (q_2, .inl (cI, 1001, .inl (fun _ => 0))), (q_5, .inl (cI, 24, .inl (fun _ => 0)))] H := hP
  have hD : va_D A [(ra, .inr (10, [.int 0, .int 0, .int 0, .ref q_1, .int 0, .int 0, .int 63, .int 0, .int 0, .ref q_5, .null])), (q_1, .inr (12, [.int 0, .int 0, .int 0, .int 0, .int 0, .int 0, .ref q_2])), (q_2, .inl (cI, 1001, .inl (fun _ => 0))), (q_5, .inl (cI, 24, .inl (fun _ => 0)))] := hD
  refine lv_aload_n hx hb dX5_init_49 rfl (lv_at hl 0 rfl) ?_
  refine lv_iconst (v := 4) hx hb dX5_init_50 (by decide) ?_
  refine va_newa (atype := .int) (ty := .int) (a0 := (4, .inl (fun _ => 0))) (N' := 4) hx hb (hts (.arrayClass .int) (by decide +kernel)) rfl hK hP hD hS hA (fun _ => rfl) (by decide) (by decide) (Nat.le_of_ble_eq_true rfl) (Nat.le_of_ble_eq_true rfl) (Nat.le_of_ble_eq_true rfl) dX5_init_51 (fun q_7 cA_6 H hK hP hD hS => ?_)
  have ecA_6 : cI = cA_6 := cA_one hK (i := 0) (j := 1) rfl rfl
  subst ecA_6
  have hK := hK.sub (tys' := [(cI, .int)]) [0] rfl
  have hP : va_P (dC, dI) vwCl [(ra, .inr (10, [.int 0, .int 0, .int 0, .ref q_1, .int 0, .int 0, .int 63, .int 0, .int 0, .ref q_5, .null])), (q_1, .inr (12, [.int 0, .int 0, .int 0, .int 0, .int 0, .int 0, .ref q_2])), (q_2, .inl (cI, 1001, .inl (fun _ => 0))), (q_5, .inl (cI, 24, .inl (fun _ => 0))), (q_7, .inl (cI, 4, .inl (fun _ => 0)))] H := hP
  have hD : va_D A [(ra, .inr (10, [.int 0, .int 0, .int 0, .ref q_1, .int 0, .int 0, .int 63, .int 0, .int 0, .ref q_5, .null])), (q_1, .inr (12, [.int 0, .int 0, .int 0, .int 0, .int 0, .int 0, .ref q_2])), (q_2, .inl (cI, 1001, .inl (fun _ => 0))), (q_5, .inl (cI, 24, .inl (fun _ => 0))), (q_7, .inl (cI, 4, .inl (fun _ => 0)))] := hD
  refine W.widen (k := 4) (n := 1036) (Nat.le_of_ble_eq_true rfl) (Nat.le_of_ble_eq_true rfl) ?_
  refine va_putF (D := (dC, dI)) (ci := 10) (v := .ref q_7) (ty := .array .int) (C := RX5) (T := TX5) (N := 11) hx hb hts iWX5 tyX5 tyX5_ok nmX5 hown hK hP hD hS 0 rfl rfl 10 (by decide) (hts (.fieldLink RX5 40 "Beaverhall$Machine" "heard" "[I") (by decide +kernel)) (fun _ h9 => h9) rfl hin rfl (by decide +kernel) rfl rfl (Nat.le_of_ble_eq_true rfl) dX5_init_53 (fun H locs hP hD hS => ?_)
  have hP : va_P (dC, dI) vwCl [(ra, .inr (10, [.int 0, .int 0, .int 0, .ref q_1, .int 0, .int 0, .int 63, .int 0, .int 0, .ref q_5, .ref q_7])), (q_1, .inr (12, [.int 0, .int 0, .int 0, .int 0, .int 0, .int 0, .ref q_2])), (q_2, .inl (cI, 1001, .inl (fun _ => 0))), (q_5, .inl (cI, 24, .inl (fun _ => 0))), (q_7, .inl (cI, 4, .inl (fun _ => 0)))] H := hP
  have hD : va_D A [(ra, .inr (10, [.int 0, .int 0, .int 0, .ref q_1, .int 0, .int 0, .int 63, .int 0, .int 0, .ref q_5, .ref q_7])), (q_1, .inr (12, [.int 0, .int 0, .int 0, .int 0, .int 0, .int 0, .ref q_2])), (q_2, .inl (cI, 1001, .inl (fun _ => 0))), (q_5, .inl (cI, 24, .inl (fun _ => 0))), (q_7, .inl (cI, 4, .inl (fun _ => 0)))] := hD
  refine lv_aload_n hx hb dX5_init_56 rfl (lv_at hl 0 rfl) ?_
  refine lv_iload_n hx hb dX5_init_57 rfl (lv_at hl 1 rfl) ?_
  refine va_putF (D := (dC, dI)) (ci := 10) (v := .int he) (ty := .boolean) (C := RX5) (T := TX5) (N := 11) hx hb hts iWX5 tyX5 tyX5_ok nmX5 hown hK hP hD hS 0 rfl rfl 0 (by decide) (hts (.fieldLink RX5 43 "Beaverhall$Machine" "hasEnd" "Z") (by decide +kernel)) (fun _ h9 => h9) rfl hin rfl (by decide +kernel) (nar01 h01) (fit01 h01) (Nat.le_of_ble_eq_true rfl) dX5_init_58 (fun H locs hP hD hS => ?_)
  have hP : va_P (dC, dI) vwCl [(ra, .inr (10, [.int he, .int 0, .int 0, .ref q_1, .int 0, .int 0, .int 63, .int 0, .int 0, .ref q_5, .ref q_7])), (q_1, .inr (12, [.int 0, .int 0, .int 0, .int 0, .int 0, .int 0, .ref q_2])), (q_2, .inl (cI, 1001, .inl (fun _ => 0))), (q_5, .inl (cI, 24, .inl (fun _ => 0))), (q_7, .inl (cI, 4, .inl (fun _ => 0)))] H := hP
  have hD : va_D A [(ra, .inr (10, [.int he, .int 0, .int 0, .ref q_1, .int 0, .int 0, .int 63, .int 0, .int 0, .ref q_5, .ref q_7])), (q_1, .inr (12, [.int 0, .int 0, .int 0, .int 0, .int 0, .int 0, .ref q_2])), (q_2, .inl (cI, 1001, .inl (fun _ => 0))), (q_5, .inl (cI, 24, .inl (fun _ => 0))), (q_7, .inl (cI, 4, .inl (fun _ => 0)))] := hD
  refine lv_aload_n hx hb dX5_init_61 rfl (lv_at hl 0 rfl) ?_
  refine lv_iload_n hx hb dX5_init_62 rfl (lv_at hl 2 rfl) ?_
  refine va_putF (D := (dC, dI)) (ci := 10) (v := .int ss) (ty := .int) (C := RX5) (T := TX5) (N := 11) hx hb hts iWX5 tyX5 tyX5_ok nmX5 hown hK hP hD hS 0 rfl rfl 1 (by decide) (hts (.fieldLink RX5 46 "Beaverhall$Machine" "states" "I") (by decide +kernel)) (fun _ h9 => h9) rfl hin rfl (by decide +kernel) rfl rfl (Nat.le_of_ble_eq_true rfl) dX5_init_63 (fun H locs hP hD hS => ?_)
  have hP : va_P (dC, dI) vwCl [(ra, .inr (10, [.int he, .int ss, .int 0, .ref q_1, .int 0, .int 0, .int 63, .int 0, .int 0, .ref q_5, .ref q_7])), (q_1, .inr (12, [.int 0, .int 0, .int 0, .int 0, .int 0, .int 0, .ref q_2])), (q_2, .inl (cI, 1001, .inl (fun _ => 0))), (q_5, .inl (cI, 24, .inl (fun _ => 0))), (q_7, .inl (cI, 4, .inl (fun _ => 0)))] H := hP
  have hD : va_D A [(ra, .inr (10, [.int he, .int ss, .int 0, .ref q_1, .int 0, .int 0, .int 63, .int 0, .int 0, .ref q_5, .ref q_7])), (q_1, .inr (12, [.int 0, .int 0, .int 0, .int 0, .int 0, .int 0, .ref q_2])), (q_2, .inl (cI, 1001, .inl (fun _ => 0))), (q_5, .inl (cI, 24, .inl (fun _ => 0))), (q_7, .inl (cI, 4, .inl (fun _ => 0)))] := hD
  refine lv_aload_n hx hb dX5_init_66 rfl (lv_at hl 0 rfl) ?_
  refine lv_iload_n hx hb dX5_init_67 rfl (lv_at hl 3 rfl) ?_
  refine va_putF (D := (dC, dI)) (ci := 10) (v := .int gg) (ty := .int) (C := RX5) (T := TX5) (N := 11) hx hb hts iWX5 tyX5 tyX5_ok nmX5 hown hK hP hD hS 0 rfl rfl 2 (by decide) (hts (.fieldLink RX5 49 "Beaverhall$Machine" "signs" "I") (by decide +kernel)) (fun _ h9 => h9) rfl hin rfl (by decide +kernel) rfl rfl (Nat.le_of_ble_eq_true rfl) dX5_init_68 (fun H locs hP hD hS => ?_)
  have hP : va_P (dC, dI) vwCl [(ra, .inr (10, [.int he, .int ss, .int gg, .ref q_1, .int 0, .int 0, .int 63, .int 0, .int 0, .ref q_5, .ref q_7])), (q_1, .inr (12, [.int 0, .int 0, .int 0, .int 0, .int 0, .int 0, .ref q_2])), (q_2, .inl (cI, 1001, .inl (fun _ => 0))), (q_5, .inl (cI, 24, .inl (fun _ => 0))), (q_7, .inl (cI, 4, .inl (fun _ => 0)))] H := hP
  have hD : va_D A [(ra, .inr (10, [.int he, .int ss, .int gg, .ref q_1, .int 0, .int 0, .int 63, .int 0, .int 0, .ref q_5, .ref q_7])), (q_1, .inr (12, [.int 0, .int 0, .int 0, .int 0, .int 0, .int 0, .ref q_2])), (q_2, .inl (cI, 1001, .inl (fun _ => 0))), (q_5, .inl (cI, 24, .inl (fun _ => 0))), (q_7, .inl (cI, 4, .inl (fun _ => 0)))] := hD
  have hP9 := hP.sub (ws' := [(ra, .inr (10, [.int he, .int ss, .int gg, .ref q_1, .int 0, .int 0, .int 63, .int 0, .int 0, .ref q_5, .ref q_7])), (q_1, .inr (12, [.int 0, .int 0, .int 0, .int 0, .int 0, .int 0, .ref q_2])), (q_2, .inl (cI, 1001, .inl (fun _ => 0))), (q_5, .inl (cI, 24, .inl (fun _ => 0))), (q_7, .inl (cI, 4, .inl (fun _ => 0)))]) [0, 1, 2, 3, 4] rfl
  have hD9 := hD.sub (ws' := [(ra, .inr (10, [.int he, .int ss, .int gg, .ref q_1, .int 0, .int 0, .int 63, .int 0, .int 0, .ref q_5, .ref q_7])), (q_1, .inr (12, [.int 0, .int 0, .int 0, .int 0, .int 0, .int 0, .ref q_2])), (q_2, .inl (cI, 1001, .inl (fun _ => 0))), (q_5, .inl (cI, 24, .inl (fun _ => 0))), (q_7, .inl (cI, 4, .inl (fun _ => 0)))]) [0, 1, 2, 3, 4] (by decide) rfl
  have hK9 := hK.sub (tys' := [(cI, .int)]) [0] rfl
  exact W.vret hx hb hr (fun t ht hW => ⟨⟨(q_1, q_2, q_5, q_7), rfl, trivial, ⟨by rw [ht]; exact hP9, va_K.moved hW.alike hK9, hD9⟩⟩, hS.F ht⟩) hS.2.2 dX5_init_71

set_option maxHeartbeats 4000000 in
set_option maxRecDepth 100000 in
/-- X6_init -/
theorem c_X6_init (l : Launch) (dC : Nat → ClassId) (dI : Nat → Nat → Nat) (cI : ClassId) (ra : Nat) (sz : Nat) : Met l yX6_init wsX6_init ({ frames := 2, cells := 8, slots := 4020, locals := 44 }) (va_Pc [.ref ra] (cPC dC dI [(ra, .inr (11, [.int 0, .int 0, .null, .null, .int 0, .null, .null, .null, .null]))] [(cI, .int)] sz)) (va_Qv (fun (u : Nat × Nat × Nat × Nat × Nat × Nat × Nat × Nat) => True) (fun (u : Nat × Nat × Nat × Nat × Nat × Nat × Nat × Nat) t => cQB dC dI [(ra, .inr (11, [.int 0, .int 0, .ref u.1, .ref u.2.2.1, .int 0, .ref u.2.2.2.2.1, .ref u.2.2.2.2.2.1, .ref u.2.2.2.2.2.2.1, .ref u.2.2.2.2.2.2.2])), (u.1, .inr (12, [.int 0, .int 0, .int 0, .int 0, .int 0, .int 0, .ref u.2.1])), (u.2.1, .inl (cI, 1001, .inl (fun _ => 0))), (u.2.2.1, .inr (12, [.int 0, .int 0, .int 0, .int 0, .int 0, .int 0, .ref u.2.2.2.1])), (u.2.2.2.1, .inl (cI, 1001, .inl (fun _ => 0))), (u.2.2.2.2.1, .inl (cI, 501, .inl (fun _ => 0))), (u.2.2.2.2.2.1, .inl (cI, 501, .inl (fun _ => 0))), (u.2.2.2.2.2.2.1, .inl (cI, 501, .inl (fun _ => 0))), (u.2.2.2.2.2.2.2, .inl (cI, 501, .inl (fun _ => 0)))] [(cI, .int)] (va_A [(ra, .inr (11, [.int 0, .int 0, .null, .null, .int 0, .null, .null, .null, .null]))] sz) t) (va_A [(ra, .inr (11, [.int 0, .int 0, .null, .null, .int 0, .null, .null, .null, .null]))] sz)) 8 4020 (va_A [(ra, .inr (11, [.int 0, .int 0, .null, .null, .int 0, .null, .null, .null, .null]))] sz) := by
  refine Met.ofW (cc := cX6_init) (maxL := 1) (ret := none) (by decide) rfl ?_
  intro p e s m args below meth c s₁ B hml hv
  obtain ⟨rfl, hsz, hP, hK, hD0, hN⟩ := hv
  have hx := B.exec
  have hb := B.bytes
  have hr := B.returns
  have hts := atoms_spec (ws := wsX6_init) B.pre
  have hown : s.vm.findClass RX6 = some m.cls := findClass_of_methodNamed B.named
  have hlocks := B.notSynchronized
  have hin : meth.name = "<init>" := (name_of_methodNamed B.named B.method).1
  subst hsz
  have hD := hD0.self (sz := s.heap.size)
  generalize hAe : va_A [(ra, .inr (11, [.int 0, .int 0, .null, .null, .int 0, .null, .null, .null, .null]))] s.heap.size = A at hD ⊢
  have hA : ∀ q : Nat, s.heap.size ≤ q → A q := fun q h => by rw [← hAe]; exact Or.inr h
  have hS : va_S A s.heap s.heap [] := va_S.rf
  have hP : va_P (dC, dI) vwCl [(ra, .inr (11, [.int 0, .int 0, .null, .null, .int 0, .null, .null, .null, .null]))] s.heap := hP
  have hD : va_D A [(ra, .inr (11, [.int 0, .int 0, .null, .null, .int 0, .null, .null, .null, .null]))] := hD
  have hl := lv_entry ([.ref ra]) (n := 1) (Nat.le_of_ble_eq_true rfl)
  rw [lg_entry_eq]
  generalize (lg_sl ([.ref ra]) ++ List.replicate (1 - (lg_sl ([.ref ra])).length) Slot.unset).toArray = ls at hl ⊢
  have hl : lv_has ls 1 [(0, .ref ra)] := hl
  have iWX6 : ∀ w ∈ u_ws RX6 TX6 9, w ∈ wsX6_init := by decide +kernel
  have iWX7 : ∀ w ∈ u_ws RX7 TX7 7, w ∈ wsX6_init := by decide +kernel
  refine lv_aload_n hx hb dX6_init_0 rfl (lv_at hl 0 rfl) ?_
  refine W.objInit hx hb hown (hts (.methodLink RX6 3 Lib.objectInit) (by decide +kernel)) (hts (.instanceMethod Lib.objectInit) (by decide +kernel)) (hts (.code Lib.objectInit ⟨#[0xb1]⟩ 1 none) (by decide +kernel)) rfl (by rw [hml]; exact hl.1) rfl dX6_init_1 (Nat.le_of_ble_eq_true rfl) (Nat.le_of_ble_eq_true rfl) ?_
  refine W.eq (g2 := F0 m 4 ls []) rfl ?_
  refine lv_aload_n hx hb dX6_init_4 rfl (lv_at hl 0 rfl) ?_
  refine lv_iconst (v := 0) hx hb dX6_init_5 (by decide) ?_
  refine va_put (D := (dC, dI)) (ci := 11) (v := .int 0) (ty := .int) (C := RX6) (T := TX6) (N := 9) hx hb hts iWX6 tyX6 tyX6_ok nmX6 hown hK hP hD hS 0 rfl rfl 0 (by decide) (hts (.fieldLink RX6 9 "Beaverhall$Returns" "first" "I") (by decide +kernel)) (fun _ h9 => h9) rfl (by decide +kernel) rfl rfl (Nat.le_of_ble_eq_true rfl) dX6_init_6 (fun H locs hP hD hS => ?_)
  have hP : va_P (dC, dI) vwCl [(ra, .inr (11, [.int 0, .int 0, .null, .null, .int 0, .null, .null, .null, .null]))] H := hP
  have hD : va_D A [(ra, .inr (11, [.int 0, .int 0, .null, .null, .int 0, .null, .null, .null, .null]))] := hD
  refine lv_aload_n hx hb dX6_init_9 rfl (lv_at hl 0 rfl) ?_
  refine lv_iconst (v := 0) hx hb dX6_init_10 (by decide) ?_
  refine va_put (D := (dC, dI)) (ci := 11) (v := .int 0) (ty := .int) (C := RX6) (T := TX6) (N := 9) hx hb hts iWX6 tyX6 tyX6_ok nmX6 hown hK hP hD hS 0 rfl rfl 1 (by decide) (hts (.fieldLink RX6 15 "Beaverhall$Returns" "second" "I") (by decide +kernel)) (fun _ h9 => h9) rfl (by decide +kernel) rfl rfl (Nat.le_of_ble_eq_true rfl) dX6_init_11 (fun H locs hP hD hS => ?_)
  have hP : va_P (dC, dI) vwCl [(ra, .inr (11, [.int 0, .int 0, .null, .null, .int 0, .null, .null, .null, .null]))] H := hP
  have hD : va_D A [(ra, .inr (11, [.int 0, .int 0, .null, .null, .int 0, .null, .null, .null, .null]))] := hD
  refine lv_aload_n hx hb dX6_init_14 rfl (lv_at hl 0 rfl) ?_
  refine va_new (ci := 12) (fs := [.int 0, .int 0, .int 0, .int 0, .int 0, .int 0, .null]) (C := RX7) (T := TX7) (N := 7) hx hb hts iWX7 tyX7 tyX7_ok hown (hts (.classLink RX6 18 RX7) (by decide +kernel)) (hts (.instantiable RX7 7) (by decide +kernel)) (hts (.initialized RX7) (by decide +kernel)) hK hP hD hS hA rfl (fun j hj => by rcases (show j = 0 ∨ j = 1 ∨ j = 2 ∨ j = 3 ∨ j = 4 ∨ j = 5 ∨ j = 6 by omega) with rfl | rfl | rfl | rfl | rfl | rfl | rfl <;> rfl) (Nat.le_of_ble_eq_true rfl) (Nat.le_of_ble_eq_true rfl) dX6_init_15 (fun q_1 H hP hD hS => ?_)
  have hP : va_P (dC, dI) vwCl [(ra, .inr (11, [.int 0, .int 0, .null, .null, .int 0, .null, .null, .null, .null])), (q_1, .inr (12, [.int 0, .int 0, .int 0, .int 0, .int 0, .int 0, .null]))] H := hP
  have hD : va_D A [(ra, .inr (11, [.int 0, .int 0, .null, .null, .int 0, .null, .null, .null, .null])), (q_1, .inr (12, [.int 0, .int 0, .int 0, .int 0, .int 0, .int 0, .null]))] := hD
  refine W.widen (k := 1) (n := 7) (Nat.le_of_ble_eq_true rfl) (Nat.le_of_ble_eq_true rfl) ?_
  refine lv_dup hx hb dX6_init_18 rfl ?_
  have hPc := hP.sub (ws' := [(q_1, .inr (12, [.int 0, .int 0, .int 0, .int 0, .int 0, .int 0, .null]))]) [1] rfl
  have hDc := hD.sub (ws' := [(q_1, .inr (12, [.int 0, .int 0, .int 0, .int 0, .int 0, .int 0, .null]))]) [1] (by decide) rfl
  have hKc := hK.sub (tys' := [(cI, .int)]) [0] rfl
  have hFc := va_free (wc := [(q_1, .inr (12, [.int 0, .int 0, .int 0, .int 0, .int 0, .int 0, .null]))]) hD hS hA [1] rfl
  refine va_callv (va_runIN (As := []) (rest := [.ref q_1, .ref ra]) ⟨hx, hb, hml, hown, hts⟩ (c_X7_init l dC dI cI q_1 H.size) ⟨va_cnB 0 hts gX6_init_X7_init_n20 rfl rfl rfl (hN (.methodLinkNest RX6 20 yX7_init "Beaverhall") (by decide +kernel)) (hts (.initialized RX7) (by decide +kernel)) (by decide +kernel) ⟨Nat.le_of_ble_eq_true rfl, Nat.le_of_ble_eq_true rfl⟩, rfl, hts (.instanceMethod yX7_init) (by decide +kernel)⟩ (pcS hPc hDc hKc hN) rfl rfl hl.1 rfl (lv_room (Nat.le_of_ble_eq_true rfl)) dX6_init_19 ⟨Nat.le_of_ble_eq_true rfl, Nat.le_of_ble_eq_true rfl⟩) hS (fun q _ h => hFc q h) hFc (fun u t H1 locs ht hvm hw_3 hB hz1 hk1 hS => ?_)
  obtain ⟨hP1, hK1, hD1⟩ := hB
  rw [ht] at hP1
  try dsimp only at hw_3
  obtain ⟨hP, hD⟩ := va_join (wr := [(ra, .inr (11, [.int 0, .int 0, .null, .null, .int 0, .null, .null, .null, .null]))]) (w1 := [(q_1, .inr (12, [.int 0, .int 0, .int 0, .int 0, .int 0, .int 0, .ref u])), (u, .inl (cI, 1001, .inl (fun _ => 0)))]) hP hD [1] [0] rfl rfl (by decide) (by decide) hk1 hFc hP1 hD1
  generalize H1 = H at hP hS ⊢
  have hP : va_P (dC, dI) vwCl [(ra, .inr (11, [.int 0, .int 0, .null, .null, .int 0, .null, .null, .null, .null])), (q_1, .inr (12, [.int 0, .int 0, .int 0, .int 0, .int 0, .int 0, .ref u])), (u, .inl (cI, 1001, .inl (fun _ => 0)))] H := hP
  have hD : va_D A [(ra, .inr (11, [.int 0, .int 0, .null, .null, .int 0, .null, .null, .null, .null])), (q_1, .inr (12, [.int 0, .int 0, .int 0, .int 0, .int 0, .int 0, .ref u])), (u, .inl (cI, 1001, .inl (fun _ => 0)))] := hD
  refine W.widen (k := 2) (n := 1008) (Nat.le_of_ble_eq_true rfl) (Nat.le_of_ble_eq_true rfl) ?_
  obtain ⟨q_2, eq_2⟩ : ∃ z, z = u := ⟨_, rfl⟩
  subst eq_2
  refine va_putF (D := (dC, dI)) (ci := 11) (v := .ref q_1) (ty := .object "Beaverhall$Run") (C := RX6) (T := TX6) (N := 9) hx hb hts iWX6 tyX6 tyX6_ok nmX6 hown hK hP hD hS 0 rfl rfl 2 (by decide) (hts (.fieldLink RX6 21 "Beaverhall$Returns" "now" "LBeaverhall$Run;") (by decide +kernel)) (fun _ h9 => h9) rfl hin rfl (by decide +kernel) rfl rfl (Nat.le_of_ble_eq_true rfl) dX6_init_22 (fun H locs hP hD hS => ?_)
  have hP : va_P (dC, dI) vwCl [(ra, .inr (11, [.int 0, .int 0, .ref q_1, .null, .int 0, .null, .null, .null, .null])), (q_1, .inr (12, [.int 0, .int 0, .int 0, .int 0, .int 0, .int 0, .ref q_2])), (q_2, .inl (cI, 1001, .inl (fun _ => 0)))] H := hP
  have hD : va_D A [(ra, .inr (11, [.int 0, .int 0, .ref q_1, .null, .int 0, .null, .null, .null, .null])), (q_1, .inr (12, [.int 0, .int 0, .int 0, .int 0, .int 0, .int 0, .ref q_2])), (q_2, .inl (cI, 1001, .inl (fun _ => 0)))] := hD
  refine lv_aload_n hx hb dX6_init_25 rfl (lv_at hl 0 rfl) ?_
  refine va_new (ci := 12) (fs := [.int 0, .int 0, .int 0, .int 0, .int 0, .int 0, .null]) (C := RX7) (T := TX7) (N := 7) hx hb hts iWX7 tyX7 tyX7_ok hown (hts (.classLink RX6 18 RX7) (by decide +kernel)) (hts (.instantiable RX7 7) (by decide +kernel)) (hts (.initialized RX7) (by decide +kernel)) hK hP hD hS hA rfl (fun j hj => by rcases (show j = 0 ∨ j = 1 ∨ j = 2 ∨ j = 3 ∨ j = 4 ∨ j = 5 ∨ j = 6 by omega) with rfl | rfl | rfl | rfl | rfl | rfl | rfl <;> rfl) (Nat.le_of_ble_eq_true rfl) (Nat.le_of_ble_eq_true rfl) dX6_init_26 (fun q_4 H hP hD hS => ?_)
  have hP : va_P (dC, dI) vwCl [(ra, .inr (11, [.int 0, .int 0, .ref q_1, .null, .int 0, .null, .null, .null, .null])), (q_1, .inr (12, [.int 0, .int 0, .int 0, .int 0, .int 0, .int 0, .ref q_2])), (q_2, .inl (cI, 1001, .inl (fun _ => 0))), (q_4, .inr (12, [.int 0, .int 0, .int 0, .int 0, .int 0, .int 0, .null]))] H := hP
  have hD : va_D A [(ra, .inr (11, [.int 0, .int 0, .ref q_1, .null, .int 0, .null, .null, .null, .null])), (q_1, .inr (12, [.int 0, .int 0, .int 0, .int 0, .int 0, .int 0, .ref q_2])), (q_2, .inl (cI, 1001, .inl (fun _ => 0))), (q_4, .inr (12, [.int 0, .int 0, .int 0, .int 0, .int 0, .int 0, .null]))] := hD
  refine W.widen (k := 3) (n := 1015) (Nat.le_of_ble_eq_true rfl) (Nat.le_of_ble_eq_true rfl) ?_
  refine lv_dup hx hb dX6_init_29 rfl ?_
  have hPc := hP.sub (ws' := [(q_4, .inr (12, [.int 0, .int 0, .int 0, .int 0, .int 0, .int 0, .null]))]) [3] rfl
  have hDc := hD.sub (ws' := [(q_4, .inr (12, [.int 0, .int 0, .int 0, .int 0, .int 0, .int 0, .null]))]) [3] (by decide) rfl
  have hKc := hK.sub (tys' := [(cI, .int)]) [0] rfl
  have hFc := va_free (wc := [(q_4, .inr (12, [.int 0, .int 0, .int 0, .int 0, .int 0, .int 0, .null]))]) hD hS hA [3] rfl
  refine va_callv (va_runIN (As := []) (rest := [.ref q_4, .ref ra]) ⟨hx, hb, hml, hown, hts⟩ (c_X7_init l dC dI cI q_4 H.size) ⟨va_cnB 0 hts gX6_init_X7_init_n20 rfl rfl rfl (hN (.methodLinkNest RX6 20 yX7_init "Beaverhall") (by decide +kernel)) (hts (.initialized RX7) (by decide +kernel)) (by decide +kernel) ⟨Nat.le_of_ble_eq_true rfl, Nat.le_of_ble_eq_true rfl⟩, rfl, hts (.instanceMethod yX7_init) (by decide +kernel)⟩ (pcS hPc hDc hKc hN) rfl rfl hl.1 rfl (lv_room (Nat.le_of_ble_eq_true rfl)) dX6_init_30 ⟨Nat.le_of_ble_eq_true rfl, Nat.le_of_ble_eq_true rfl⟩) hS (fun q _ h => hFc q h) hFc (fun u t H1 locs ht hvm hw_6 hB hz1 hk1 hS => ?_)
  obtain ⟨hP1, hK1, hD1⟩ := hB
  rw [ht] at hP1
  try dsimp only at hw_6
  obtain ⟨hP, hD⟩ := va_join (wr := [(ra, .inr (11, [.int 0, .int 0, .ref q_1, .null, .int 0, .null, .null, .null, .null])), (q_1, .inr (12, [.int 0, .int 0, .int 0, .int 0, .int 0, .int 0, .ref q_2])), (q_2, .inl (cI, 1001, .inl (fun _ => 0)))]) (w1 := [(q_4, .inr (12, [.int 0, .int 0, .int 0, .int 0, .int 0, .int 0, .ref u])), (u, .inl (cI, 1001, .inl (fun _ => 0)))]) hP hD [3] [0, 1, 2] rfl rfl (by decide) (by decide) hk1 hFc hP1 hD1
  generalize H1 = H at hP hS ⊢
  have hP : va_P (dC, dI) vwCl [(ra, .inr (11, [.int 0, .int 0, .ref q_1, .null, .int 0, .null, .null, .null, .null])), (q_1, .inr (12, [.int 0, .int 0, .int 0, .int 0, .int 0, .int 0, .ref q_2])), (q_2, .inl (cI, 1001, .inl (fun _ => 0))), (q_4, .inr (12, [.int 0, .int 0, .int 0, .int 0, .int 0, .int 0, .ref u])), (u, .inl (cI, 1001, .inl (fun _ => 0)))] H := hP
  have hD : va_D A [(ra, .inr (11, [.int 0, .int 0, .ref q_1, .null, .int 0, .null, .null, .null, .null])), (q_1, .inr (12, [.int 0, .int 0, .int 0, .int 0, .int 0, .int 0, .ref q_2])), (q_2, .inl (cI, 1001, .inl (fun _ => 0))), (q_4, .inr (12, [.int 0, .int 0, .int 0, .int 0, .int 0, .int 0, .ref u])), (u, .inl (cI, 1001, .inl (fun _ => 0)))] := hD
  refine W.widen (k := 4) (n := 2016) (Nat.le_of_ble_eq_true rfl) (Nat.le_of_ble_eq_true rfl) ?_
  obtain ⟨q_5, eq_5⟩ : ∃ z, z = u := ⟨_, rfl⟩
  subst eq_5
  refine va_putF (D := (dC, dI)) (ci := 11) (v := .ref q_4) (ty := .object "Beaverhall$Run") (C := RX6) (T := TX6) (N := 9) hx hb hts iWX6 tyX6 tyX6_ok nmX6 hown hK hP hD hS 0 rfl rfl 3 (by decide) (hts (.fieldLink RX6 25 "Beaverhall$Returns" "then" "LBeaverhall$Run;") (by decide +kernel)) (fun _ h9 => h9) rfl hin rfl (by decide +kernel) rfl rfl (Nat.le_of_ble_eq_true rfl) dX6_init_33 (fun H locs hP hD hS => ?_)
  have hP : va_P (dC, dI) vwCl [(ra, .inr (11, [.int 0, .int 0, .ref q_1, .ref q_4, .int 0, .null, .null, .null, .null])), (q_1, .inr (12, [.int 0, .int 0, .int 0, .int 0, .int 0, .int 0, .ref q_2])), (q_2, .inl (cI, 1001, .inl (fun _ => 0))), (q_4, .inr (12, [.int 0, .int 0, .int 0, .int 0, .int 0, .int 0, .ref q_5])), (q_5, .inl (cI, 1001, .inl (fun _ => 0)))] H := hP
  have hD : va_D A [(ra, .inr (11, [.int 0, .int 0, .ref q_1, .ref q_4, .int 0, .null, .null, .null, .null])), (q_1, .inr (12, [.int 0, .int 0, .int 0, .int 0, .int 0, .int 0, .ref q_2])), (q_2, .inl (cI, 1001, .inl (fun _ => 0))), (q_4, .inr (12, [.int 0, .int 0, .int 0, .int 0, .int 0, .int 0, .ref q_5])), (q_5, .inl (cI, 1001, .inl (fun _ => 0)))] := hD
  refine lv_aload_n hx hb dX6_init_36 rfl (lv_at hl 0 rfl) ?_
  refine lv_iconst (v := 0) hx hb dX6_init_37 (by decide) ?_
  refine va_put (D := (dC, dI)) (ci := 11) (v := .int 0) (ty := .int) (C := RX6) (T := TX6) (N := 9) hx hb hts iWX6 tyX6 tyX6_ok nmX6 hown hK hP hD hS 0 rfl rfl 4 (by decide) (hts (.fieldLink RX6 28 "Beaverhall$Returns" "length" "I") (by decide +kernel)) (fun _ h9 => h9) rfl (by decide +kernel) rfl rfl (Nat.le_of_ble_eq_true rfl) dX6_init_38 (fun H locs hP hD hS => ?_)
  have hP : va_P (dC, dI) vwCl [(ra, .inr (11, [.int 0, .int 0, .ref q_1, .ref q_4, .int 0, .null, .null, .null, .null])), (q_1, .inr (12, [.int 0, .int 0, .int 0, .int 0, .int 0, .int 0, .ref q_2])), (q_2, .inl (cI, 1001, .inl (fun _ => 0))), (q_4, .inr (12, [.int 0, .int 0, .int 0, .int 0, .int 0, .int 0, .ref q_5])), (q_5, .inl (cI, 1001, .inl (fun _ => 0)))] H := hP
  have hD : va_D A [(ra, .inr (11, [.int 0, .int 0, .ref q_1, .ref q_4, .int 0, .null, .null, .null, .null])), (q_1, .inr (12, [.int 0, .int 0, .int 0, .int 0, .int 0, .int 0, .ref q_2])), (q_2, .inl (cI, 1001, .inl (fun _ => 0))), (q_4, .inr (12, [.int 0, .int 0, .int 0, .int 0, .int 0, .int 0, .ref q_5])), (q_5, .inl (cI, 1001, .inl (fun _ => 0)))] := hD
  refine lv_aload_n hx hb dX6_init_41 rfl (lv_at hl 0 rfl) ?_
  refine lv_sipush (v := 501) hx hb dX6_init_42 (by decide) ?_
  refine va_newa (atype := .int) (ty := .int) (a0 := (501, .inl (fun _ => 0))) (N' := 501) hx hb (hts (.arrayClass .int) (by decide +kernel)) rfl hK hP hD hS hA (fun _ => rfl) (by decide) (by decide) (Nat.le_of_ble_eq_true rfl) (Nat.le_of_ble_eq_true rfl) (Nat.le_of_ble_eq_true rfl) dX6_init_45 (fun q_8 cA_7 H hK hP hD hS => ?_)
  have ecA_7 : cI = cA_7 := cA_one hK (i := 0) (j := 1) rfl rfl
  subst ecA_7
  have hK := hK.sub (tys' := [(cI, .int)]) [0] rfl
  have hP : va_P (dC, dI) vwCl [(ra, .inr (11, [.int 0, .int 0, .ref q_1, .ref q_4, .int 0, .null, .null, .null, .null])), (q_1, .inr (12, [.int 0, .int 0, .int 0, .int 0, .int 0, .int 0, .ref q_2])), (q_2, .inl (cI, 1001, .inl (fun _ => 0))), (q_4, .inr (12, [.int 0, .int 0, .int 0, .int 0, .int 0, .int 0, .ref q_5])), (q_5, .inl (cI, 1001, .inl (fun _ => 0))), (q_8, .inl (cI, 501, .inl (fun _ => 0)))] H := hP
  have hD : va_D A [(ra, .inr (11, [.int 0, .int 0, .ref q_1, .ref q_4, .int 0, .null, .null, .null, .null])), (q_1, .inr (12, [.int 0, .int 0, .int 0, .int 0, .int 0, .int 0, .ref q_2])), (q_2, .inl (cI, 1001, .inl (fun _ => 0))), (q_4, .inr (12, [.int 0, .int 0, .int 0, .int 0, .int 0, .int 0, .ref q_5])), (q_5, .inl (cI, 1001, .inl (fun _ => 0))), (q_8, .inl (cI, 501, .inl (fun _ => 0)))] := hD
  refine W.widen (k := 5) (n := 2517) (Nat.le_of_ble_eq_true rfl) (Nat.le_of_ble_eq_true rfl) ?_
  refine va_putF (D := (dC, dI)) (ci := 11) (v := .ref q_8) (ty := .array .int) (C := RX6) (T := TX6) (N := 9) hx hb hts iWX6 tyX6 tyX6_ok nmX6 hown hK hP hD hS 0 rfl rfl 5 (by decide) (hts (.fieldLink RX6 31 "Beaverhall$Returns" "cells" "[I") (by decide +kernel)) (fun _ h9 => h9) rfl hin rfl (by decide +kernel) rfl rfl (Nat.le_of_ble_eq_true rfl) dX6_init_47 (fun H locs hP hD hS => ?_)
  have hP : va_P (dC, dI) vwCl [(ra, .inr (11, [.int 0, .int 0, .ref q_1, .ref q_4, .int 0, .ref q_8, .null, .null, .null])), (q_1, .inr (12, [.int 0, .int 0, .int 0, .int 0, .int 0, .int 0, .ref q_2])), (q_2, .inl (cI, 1001, .inl (fun _ => 0))), (q_4, .inr (12, [.int 0, .int 0, .int 0, .int 0, .int 0, .int 0, .ref q_5])), (q_5, .inl (cI, 1001, .inl (fun _ => 0))), (q_8, .inl (cI, 501, .inl (fun _ => 0)))] H := hP
  have hD : va_D A [(ra, .inr (11, [.int 0, .int 0, .ref q_1, .ref q_4, .int 0, .ref q_8, .null, .null, .null])), (q_1, .inr (12, [.int 0, .int 0, .int 0, .int 0, .int 0, .int 0, .ref q_2])), (q_2, .inl (cI, 1001, .inl (fun _ => 0))), (q_4, .inr (12, [.int 0, .int 0, .int 0, .int 0, .int 0, .int 0, .ref q_5])), (q_5, .inl (cI, 1001, .inl (fun _ => 0))), (q_8, .inl (cI, 501, .inl (fun _ => 0)))] := hD
  refine lv_aload_n hx hb dX6_init_50 rfl (lv_at hl 0 rfl) ?_
  refine lv_sipush (v := 501) hx hb dX6_init_51 (by decide) ?_
  refine va_newa (atype := .int) (ty := .int) (a0 := (501, .inl (fun _ => 0))) (N' := 501) hx hb (hts (.arrayClass .int) (by decide +kernel)) rfl hK hP hD hS hA (fun _ => rfl) (by decide) (by decide) (Nat.le_of_ble_eq_true rfl) (Nat.le_of_ble_eq_true rfl) (Nat.le_of_ble_eq_true rfl) dX6_init_54 (fun q_10 cA_9 H hK hP hD hS => ?_)
  have ecA_9 : cI = cA_9 := cA_one hK (i := 0) (j := 1) rfl rfl
  subst ecA_9
  have hK := hK.sub (tys' := [(cI, .int)]) [0] rfl
  have hP : va_P (dC, dI) vwCl [(ra, .inr (11, [.int 0, .int 0, .ref q_1, .ref q_4, .int 0, .ref q_8, .null, .null, .null])), (q_1, .inr (12, [.int 0, .int 0, .int 0, .int 0, .int 0, .int 0, .ref q_2])), (q_2, .inl (cI, 1001, .inl (fun _ => 0))), (q_4, .inr (12, [.int 0, .int 0, .int 0, .int 0, .int 0, .int 0, .ref q_5])), (q_5, .inl (cI, 1001, .inl (fun _ => 0))), (q_8, .inl (cI, 501, .inl (fun _ => 0))), (q_10, .inl (cI, 501, .inl (fun _ => 0)))] H := hP
  have hD : va_D A [(ra, .inr (11, [.int 0, .int 0, .ref q_1, .ref q_4, .int 0, .ref q_8, .null, .null, .null])), (q_1, .inr (12, [.int 0, .int 0, .int 0, .int 0, .int 0, .int 0, .ref q_2])), (q_2, .inl (cI, 1001, .inl (fun _ => 0))), (q_4, .inr (12, [.int 0, .int 0, .int 0, .int 0, .int 0, .int 0, .ref q_5])), (q_5, .inl (cI, 1001, .inl (fun _ => 0))), (q_8, .inl (cI, 501, .inl (fun _ => 0))), (q_10, .inl (cI, 501, .inl (fun _ => 0)))] := hD
  refine W.widen (k := 6) (n := 3018) (Nat.le_of_ble_eq_true rfl) (Nat.le_of_ble_eq_true rfl) ?_
  refine va_putF (D := (dC, dI)) (ci := 11) (v := .ref q_10) (ty := .array .int) (C := RX6) (T := TX6) (N := 9) hx hb hts iWX6 tyX6 tyX6_ok nmX6 hown hK hP hD hS 0 rfl rfl 6 (by decide) (hts (.fieldLink RX6 35 "Beaverhall$Returns" "states" "[I") (by decide +kernel)) (fun _ h9 => h9) rfl hin rfl (by decide +kernel) rfl rfl (Nat.le_of_ble_eq_true rfl) dX6_init_56 (fun H locs hP hD hS => ?_)
  have hP : va_P (dC, dI) vwCl [(ra, .inr (11, [.int 0, .int 0, .ref q_1, .ref q_4, .int 0, .ref q_8, .ref q_10, .null, .null])), (q_1, .inr (12, [.int 0, .int 0, .int 0, .int 0, .int 0, .int 0, .ref q_2])), (q_2, .inl (cI, 1001, .inl (fun _ => 0))), (q_4, .inr (12, [.int 0, .int 0, .int 0, .int 0, .int 0, .int 0, .ref q_5])), (q_5, .inl (cI, 1001, .inl (fun _ => 0))), (q_8, .inl (cI, 501, .inl (fun _ => 0))), (q_10, .inl (cI, 501, .inl (fun _ => 0)))] H := hP
  have hD : va_D A [(ra, .inr (11, [.int 0, .int 0, .ref q_1, .ref q_4, .int 0, .ref q_8, .ref q_10, .null, .null])), (q_1, .inr (12, [.int 0, .int 0, .int 0, .int 0, .int 0, .int 0, .ref q_2])), (q_2, .inl (cI, 1001, .inl (fun _ => 0))), (q_4, .inr (12, [.int 0, .int 0, .int 0, .int 0, .int 0, .int 0, .ref q_5])), (q_5, .inl (cI, 1001, .inl (fun _ => 0))), (q_8, .inl (cI, 501, .inl (fun _ => 0))), (q_10, .inl (cI, 501, .inl (fun _ => 0)))] := hD
  refine lv_aload_n hx hb dX6_init_59 rfl (lv_at hl 0 rfl) ?_
  refine lv_sipush (v := 501) hx hb dX6_init_60 (by decide) ?_
  refine va_newa (atype := .int) (ty := .int) (a0 := (501, .inl (fun _ => 0))) (N' := 501) hx hb (hts (.arrayClass .int) (by decide +kernel)) rfl hK hP hD hS hA (fun _ => rfl) (by decide) (by decide) (Nat.le_of_ble_eq_true rfl) (Nat.le_of_ble_eq_true rfl) (Nat.le_of_ble_eq_true rfl) dX6_init_63 (fun q_12 cA_11 H hK hP hD hS => ?_)
  have ecA_11 : cI = cA_11 := cA_one hK (i := 0) (j := 1) rfl rfl
  subst ecA_11
  have hK := hK.sub (tys' := [(cI, .int)]) [0] rfl
  have hP : va_P (dC, dI) vwCl [(ra, .inr (11, [.int 0, .int 0, .ref q_1, .ref q_4, .int 0, .ref q_8, .ref q_10, .null, .null])), (q_1, .inr (12, [.int 0, .int 0, .int 0, .int 0, .int 0, .int 0, .ref q_2])), (q_2, .inl (cI, 1001, .inl (fun _ => 0))), (q_4, .inr (12, [.int 0, .int 0, .int 0, .int 0, .int 0, .int 0, .ref q_5])), (q_5, .inl (cI, 1001, .inl (fun _ => 0))), (q_8, .inl (cI, 501, .inl (fun _ => 0))), (q_10, .inl (cI, 501, .inl (fun _ => 0))), (q_12, .inl (cI, 501, .inl (fun _ => 0)))] H := hP
  have hD : va_D A [(ra, .inr (11, [.int 0, .int 0, .ref q_1, .ref q_4, .int 0, .ref q_8, .ref q_10, .null, .null])), (q_1, .inr (12, [.int 0, .int 0, .int 0, .int 0, .int 0, .int 0, .ref q_2])), (q_2, .inl (cI, 1001, .inl (fun _ => 0))), (q_4, .inr (12, [.int 0, .int 0, .int 0, .int 0, .int 0, .int 0, .ref q_5])), (q_5, .inl (cI, 1001, .inl (fun _ => 0))), (q_8, .inl (cI, 501, .inl (fun _ => 0))), (q_10, .inl (cI, 501, .inl (fun _ => 0))), (q_12, .inl (cI, 501, .inl (fun _ => 0)))] := hD
  refine W.widen (k := 7) (n := 3519) (Nat.le_of_ble_eq_true rfl) (Nat.le_of_ble_eq_true rfl) ?_
  refine va_putF (D := (dC, dI)) (ci := 11) (v := .ref q_12) (ty := .array .int) (C := RX6) (T := TX6) (N := 9) hx hb hts iWX6 tyX6 tyX6_ok nmX6 hown hK hP hD hS 0 rfl rfl 7 (by decide) (hts (.fieldLink RX6 38 "Beaverhall$Returns" "reads" "[I") (by decide +kernel)) (fun _ h9 => h9) rfl hin rfl (by decide +kernel) rfl rfl (Nat.le_of_ble_eq_true rfl) dX6_init_65 (fun H locs hP hD hS => ?_)
  have hP : va_P (dC, dI) vwCl [(ra, .inr (11, [.int 0, .int 0, .ref q_1, .ref q_4, .int 0, .ref q_8, .ref q_10, .ref q_12, .null])), (q_1, .inr (12, [.int 0, .int 0, .int 0, .int 0, .int 0, .int 0, .ref q_2])), (q_2, .inl (cI, 1001, .inl (fun _ => 0))), (q_4, .inr (12, [.int 0, .int 0, .int 0, .int 0, .int 0, .int 0, .ref q_5])), (q_5, .inl (cI, 1001, .inl (fun _ => 0))), (q_8, .inl (cI, 501, .inl (fun _ => 0))), (q_10, .inl (cI, 501, .inl (fun _ => 0))), (q_12, .inl (cI, 501, .inl (fun _ => 0)))] H := hP
  have hD : va_D A [(ra, .inr (11, [.int 0, .int 0, .ref q_1, .ref q_4, .int 0, .ref q_8, .ref q_10, .ref q_12, .null])), (q_1, .inr (12, [.int 0, .int 0, .int 0, .int 0, .int 0, .int 0, .ref q_2])), (q_2, .inl (cI, 1001, .inl (fun _ => 0))), (q_4, .inr (12, [.int 0, .int 0, .int 0, .int 0, .int 0, .int 0, .ref q_5])), (q_5, .inl (cI, 1001, .inl (fun _ => 0))), (q_8, .inl (cI, 501, .inl (fun _ => 0))), (q_10, .inl (cI, 501, .inl (fun _ => 0))), (q_12, .inl (cI, 501, .inl (fun _ => 0)))] := hD
  refine lv_aload_n hx hb dX6_init_68 rfl (lv_at hl 0 rfl) ?_
  refine lv_sipush (v := 501) hx hb dX6_init_69 (by decide) ?_
  refine va_newa (atype := .int) (ty := .int) (a0 := (501, .inl (fun _ => 0))) (N' := 501) hx hb (hts (.arrayClass .int) (by decide +kernel)) rfl hK hP hD hS hA (fun _ => rfl) (by decide) (by decide) (Nat.le_of_ble_eq_true rfl) (Nat.le_of_ble_eq_true rfl) (Nat.le_of_ble_eq_true rfl) dX6_init_72 (fun q_14 cA_13 H hK hP hD hS => ?_)
  have ecA_13 : cI = cA_13 := cA_one hK (i := 0) (j := 1) rfl rfl
  subst ecA_13
  have hK := hK.sub (tys' := [(cI, .int)]) [0] rfl
  have hP : va_P (dC, dI) vwCl [(ra, .inr (11, [.int 0, .int 0, .ref q_1, .ref q_4, .int 0, .ref q_8, .ref q_10, .ref q_12, .null])), (q_1, .inr (12, [.int 0, .int 0, .int 0, .int 0, .int 0, .int 0, .ref q_2])), (q_2, .inl (cI, 1001, .inl (fun _ => 0))), (q_4, .inr (12, [.int 0, .int 0, .int 0, .int 0, .int 0, .int 0, .ref q_5])), (q_5, .inl (cI, 1001, .inl (fun _ => 0))), (q_8, .inl (cI, 501, .inl (fun _ => 0))), (q_10, .inl (cI, 501, .inl (fun _ => 0))), (q_12, .inl (cI, 501, .inl (fun _ => 0))), (q_14, .inl (cI, 501, .inl (fun _ => 0)))] H := hP
  have hD : va_D A [(ra, .inr (11, [.int 0, .int 0, .ref q_1, .ref q_4, .int 0, .ref q_8, .ref q_10, .ref q_12, .null])), (q_1, .inr (12, [.int 0, .int 0, .int 0, .int 0, .int 0, .int 0, .ref q_2])), (q_2, .inl (cI, 1001, .inl (fun _ => 0))), (q_4, .inr (12, [.int 0, .int 0, .int 0, .int 0, .int 0, .int 0, .ref q_5])), (q_5, .inl (cI, 1001, .inl (fun _ => 0))), (q_8, .inl (cI, 501, .inl (fun _ => 0))), (q_10, .inl (cI, 501, .inl (fun _ => 0))), (q_12, .inl (cI, 501, .inl (fun _ => 0))), (q_14, .inl (cI, 501, .inl (fun _ => 0)))] := hD
  refine W.widen (k := 8) (n := 4020) (Nat.le_of_ble_eq_true rfl) (Nat.le_of_ble_eq_true rfl) ?_
  refine va_putF (D := (dC, dI)) (ci := 11) (v := .ref q_14) (ty := .array .int) (C := RX6) (T := TX6) (N := 9) hx hb hts iWX6 tyX6 tyX6_ok nmX6 hown hK hP hD hS 0 rfl rfl 8 (by decide) (hts (.fieldLink RX6 41 "Beaverhall$Returns" "firsts" "[I") (by decide +kernel)) (fun _ h9 => h9) rfl hin rfl (by decide +kernel) rfl rfl (Nat.le_of_ble_eq_true rfl) dX6_init_74 (fun H locs hP hD hS => ?_)
  have hP : va_P (dC, dI) vwCl [(ra, .inr (11, [.int 0, .int 0, .ref q_1, .ref q_4, .int 0, .ref q_8, .ref q_10, .ref q_12, .ref q_14])), (q_1, .inr (12, [.int 0, .int 0, .int 0, .int 0, .int 0, .int 0, .ref q_2])), (q_2, .inl (cI, 1001, .inl (fun _ => 0))), (q_4, .inr (12, [.int 0, .int 0, .int 0, .int 0, .int 0, .int 0, .ref q_5])), (q_5, .inl (cI, 1001, .inl (fun _ => 0))), (q_8, .inl (cI, 501, .inl (fun _ => 0))), (q_10, .inl (cI, 501, .inl (fun _ => 0))), (q_12, .inl (cI, 501, .inl (fun _ => 0))), (q_14, .inl (cI, 501, .inl (fun _ => 0)))] H := hP
  have hD : va_D A [(ra, .inr (11, [.int 0, .int 0, .ref q_1, .ref q_4, .int 0, .ref q_8, .ref q_10, .ref q_12, .ref q_14])), (q_1, .inr (12, [.int 0, .int 0, .int 0, .int 0, .int 0, .int 0, .ref q_2])), (q_2, .inl (cI, 1001, .inl (fun _ => 0))), (q_4, .inr (12, [.int 0, .int 0, .int 0, .int 0, .int 0, .int 0, .ref q_5])), (q_5, .inl (cI, 1001, .inl (fun _ => 0))), (q_8, .inl (cI, 501, .inl (fun _ => 0))), (q_10, .inl (cI, 501, .inl (fun _ => 0))), (q_12, .inl (cI, 501, .inl (fun _ => 0))), (q_14, .inl (cI, 501, .inl (fun _ => 0)))] := hD
  have hP9 := hP.sub (ws' := [(ra, .inr (11, [.int 0, .int 0, .ref q_1, .ref q_4, .int 0, .ref q_8, .ref q_10, .ref q_12, .ref q_14])), (q_1, .inr (12, [.int 0, .int 0, .int 0, .int 0, .int 0, .int 0, .ref q_2])), (q_2, .inl (cI, 1001, .inl (fun _ => 0))), (q_4, .inr (12, [.int 0, .int 0, .int 0, .int 0, .int 0, .int 0, .ref q_5])), (q_5, .inl (cI, 1001, .inl (fun _ => 0))), (q_8, .inl (cI, 501, .inl (fun _ => 0))), (q_10, .inl (cI, 501, .inl (fun _ => 0))), (q_12, .inl (cI, 501, .inl (fun _ => 0))), (q_14, .inl (cI, 501, .inl (fun _ => 0)))]) [0, 1, 2, 3, 4, 5, 6, 7, 8] rfl
  have hD9 := hD.sub (ws' := [(ra, .inr (11, [.int 0, .int 0, .ref q_1, .ref q_4, .int 0, .ref q_8, .ref q_10, .ref q_12, .ref q_14])), (q_1, .inr (12, [.int 0, .int 0, .int 0, .int 0, .int 0, .int 0, .ref q_2])), (q_2, .inl (cI, 1001, .inl (fun _ => 0))), (q_4, .inr (12, [.int 0, .int 0, .int 0, .int 0, .int 0, .int 0, .ref q_5])), (q_5, .inl (cI, 1001, .inl (fun _ => 0))), (q_8, .inl (cI, 501, .inl (fun _ => 0))), (q_10, .inl (cI, 501, .inl (fun _ => 0))), (q_12, .inl (cI, 501, .inl (fun _ => 0))), (q_14, .inl (cI, 501, .inl (fun _ => 0)))]) [0, 1, 2, 3, 4, 5, 6, 7, 8] (by decide) rfl
  have hK9 := hK.sub (tys' := [(cI, .int)]) [0] rfl
  exact W.vret hx hb hr (fun t ht hW => ⟨⟨(q_1, q_2, q_4, q_5, q_8, q_10, q_12, q_14), rfl, trivial, ⟨by rw [ht]; exact hP9, va_K.moved hW.alike hK9, hD9⟩⟩, hS.F ht⟩) hS.2.2 dX6_init_77

set_option maxHeartbeats 4000000 in
set_option maxRecDepth 100000 in
/-- X10_init -/
theorem c_X10_init (l : Launch) (dC : Nat → ClassId) (dI : Nat → Nat → Nat) (cI : ClassId) (ra : Nat) (sz : Nat) : Met l yX10_init wsX10_init ({ frames := 1, cells := 2, slots := 28, locals := 24 }) (va_Pc [.ref ra] (cPC dC dI [(ra, .inr (15, [.int 0, .int 0, .int 0, .null, .null]))] [(cI, .int)] sz)) (va_Qv (fun (u : Nat × Nat) => True) (fun (u : Nat × Nat) t => cQB dC dI [(ra, .inr (15, [.int 0, .int 0, .int 0, .ref u.1, .ref u.2])), (u.1, .inl (cI, 19, .inl (fun _ => 0))), (u.2, .inl (cI, 9, .inl (fun _ => 0)))] [(cI, .int)] (va_A [(ra, .inr (15, [.int 0, .int 0, .int 0, .null, .null]))] sz) t) (va_A [(ra, .inr (15, [.int 0, .int 0, .int 0, .null, .null]))] sz)) 2 28 (va_A [(ra, .inr (15, [.int 0, .int 0, .int 0, .null, .null]))] sz) := by
  refine Met.ofW (cc := cX10_init) (maxL := 1) (ret := none) (by decide) rfl ?_
  intro p e s m args below meth c s₁ B hml hv
  obtain ⟨rfl, hsz, hP, hK, hD0, hN⟩ := hv
  have hx := B.exec
  have hb := B.bytes
  have hr := B.returns
  have hts := atoms_spec (ws := wsX10_init) B.pre
  have hown : s.vm.findClass RX10 = some m.cls := findClass_of_methodNamed B.named
  have hlocks := B.notSynchronized
  have hin : meth.name = "<init>" := (name_of_methodNamed B.named B.method).1
  subst hsz
  have hD := hD0.self (sz := s.heap.size)
  generalize hAe : va_A [(ra, .inr (15, [.int 0, .int 0, .int 0, .null, .null]))] s.heap.size = A at hD ⊢
  have hA : ∀ q : Nat, s.heap.size ≤ q → A q := fun q h => by rw [← hAe]; exact Or.inr h
  have hS : va_S A s.heap s.heap [] := va_S.rf
  have hP : va_P (dC, dI) vwCl [(ra, .inr (15, [.int 0, .int 0, .int 0, .null, .null]))] s.heap := hP
  have hD : va_D A [(ra, .inr (15, [.int 0, .int 0, .int 0, .null, .null]))] := hD
  have hl := lv_entry ([.ref ra]) (n := 1) (Nat.le_of_ble_eq_true rfl)
  rw [lg_entry_eq]
  generalize (lg_sl ([.ref ra]) ++ List.replicate (1 - (lg_sl ([.ref ra])).length) Slot.unset).toArray = ls at hl ⊢
  have hl : lv_has ls 1 [(0, .ref ra)] := hl
  have iWX10 : ∀ w ∈ u_ws RX10 TX10 5, w ∈ wsX10_init := by decide +kernel
  refine lv_aload_n hx hb dX10_init_0 rfl (lv_at hl 0 rfl) ?_
  refine W.objInit hx hb hown (hts (.methodLink RX10 3 Lib.objectInit) (by decide +kernel)) (hts (.instanceMethod Lib.objectInit) (by decide +kernel)) (hts (.code Lib.objectInit ⟨#[0xb1]⟩ 1 none) (by decide +kernel)) rfl (by rw [hml]; exact hl.1) rfl dX10_init_1 (Nat.le_of_ble_eq_true rfl) (Nat.le_of_ble_eq_true rfl) ?_
  refine W.eq (g2 := F0 m 4 ls []) rfl ?_
  refine lv_aload_n hx hb dX10_init_4 rfl (lv_at hl 0 rfl) ?_
  refine lv_iconst (v := 0) hx hb dX10_init_5 (by decide) ?_
  refine va_put (D := (dC, dI)) (ci := 15) (v := .int 0) (ty := .boolean) (C := RX10) (T := TX10) (N := 5) hx hb hts iWX10 tyX10 tyX10_ok nmX10 hown hK hP hD hS 0 rfl rfl 0 (by decide) (hts (.fieldLink RX10 9 "Beaverhall$WaysBack" "isProving" "Z") (by decide +kernel)) (fun _ h9 => h9) rfl (by decide +kernel) rfl rfl (Nat.le_of_ble_eq_true rfl) dX10_init_6 (fun H locs hP hD hS => ?_)
  have hP : va_P (dC, dI) vwCl [(ra, .inr (15, [.int 0, .int 0, .int 0, .null, .null]))] H := hP
  have hD : va_D A [(ra, .inr (15, [.int 0, .int 0, .int 0, .null, .null]))] := hD
  refine lv_aload_n hx hb dX10_init_9 rfl (lv_at hl 0 rfl) ?_
  refine lv_iconst (v := 0) hx hb dX10_init_10 (by decide) ?_
  refine va_put (D := (dC, dI)) (ci := 15) (v := .int 0) (ty := .boolean) (C := RX10) (T := TX10) (N := 5) hx hb hts iWX10 tyX10 tyX10_ok nmX10 hown hK hP hD hS 0 rfl rfl 1 (by decide) (hts (.fieldLink RX10 15 "Beaverhall$WaysBack" "couldBegin" "Z") (by decide +kernel)) (fun _ h9 => h9) rfl (by decide +kernel) rfl rfl (Nat.le_of_ble_eq_true rfl) dX10_init_11 (fun H locs hP hD hS => ?_)
  have hP : va_P (dC, dI) vwCl [(ra, .inr (15, [.int 0, .int 0, .int 0, .null, .null]))] H := hP
  have hD : va_D A [(ra, .inr (15, [.int 0, .int 0, .int 0, .null, .null]))] := hD
  refine lv_aload_n hx hb dX10_init_14 rfl (lv_at hl 0 rfl) ?_
  refine lv_iconst (v := 0) hx hb dX10_init_15 (by decide) ?_
  refine va_put (D := (dC, dI)) (ci := 15) (v := .int 0) (ty := .int) (C := RX10) (T := TX10) (N := 5) hx hb hts iWX10 tyX10 tyX10_ok nmX10 hown hK hP hD hS 0 rfl rfl 2 (by decide) (hts (.fieldLink RX10 18 "Beaverhall$WaysBack" "bound" "I") (by decide +kernel)) (fun _ h9 => h9) rfl (by decide +kernel) rfl rfl (Nat.le_of_ble_eq_true rfl) dX10_init_16 (fun H locs hP hD hS => ?_)
  have hP : va_P (dC, dI) vwCl [(ra, .inr (15, [.int 0, .int 0, .int 0, .null, .null]))] H := hP
  have hD : va_D A [(ra, .inr (15, [.int 0, .int 0, .int 0, .null, .null]))] := hD
  refine lv_aload_n hx hb dX10_init_19 rfl (lv_at hl 0 rfl) ?_
  refine lv_bipush (v := 19) hx hb dX10_init_20 (by decide) ?_
  refine va_newa (atype := .int) (ty := .int) (a0 := (19, .inl (fun _ => 0))) (N' := 19) hx hb (hts (.arrayClass .int) (by decide +kernel)) rfl hK hP hD hS hA (fun _ => rfl) (by decide) (by decide) (Nat.le_of_ble_eq_true rfl) (Nat.le_of_ble_eq_true rfl) (Nat.le_of_ble_eq_true rfl) dX10_init_22 (fun q_2 cA_1 H hK hP hD hS => ?_)
  have ecA_1 : cI = cA_1 := cA_one hK (i := 0) (j := 1) rfl rfl
  subst ecA_1
  have hK := hK.sub (tys' := [(cI, .int)]) [0] rfl
  have hP : va_P (dC, dI) vwCl [(ra, .inr (15, [.int 0, .int 0, .int 0, .null, .null])), (q_2, .inl (cI, 19, .inl (fun _ => 0)))] H := hP
  have hD : va_D A [(ra, .inr (15, [.int 0, .int 0, .int 0, .null, .null])), (q_2, .inl (cI, 19, .inl (fun _ => 0)))] := hD
  refine W.widen (k := 1) (n := 19) (Nat.le_of_ble_eq_true rfl) (Nat.le_of_ble_eq_true rfl) ?_
  refine va_putF (D := (dC, dI)) (ci := 15) (v := .ref q_2) (ty := .array .int) (C := RX10) (T := TX10) (N := 5) hx hb hts iWX10 tyX10 tyX10_ok nmX10 hown hK hP hD hS 0 rfl rfl 3 (by decide) (hts (.fieldLink RX10 22 "Beaverhall$WaysBack" "known" "[I") (by decide +kernel)) (fun _ h9 => h9) rfl hin rfl (by decide +kernel) rfl rfl (Nat.le_of_ble_eq_true rfl) dX10_init_24 (fun H locs hP hD hS => ?_)
  have hP : va_P (dC, dI) vwCl [(ra, .inr (15, [.int 0, .int 0, .int 0, .ref q_2, .null])), (q_2, .inl (cI, 19, .inl (fun _ => 0)))] H := hP
  have hD : va_D A [(ra, .inr (15, [.int 0, .int 0, .int 0, .ref q_2, .null])), (q_2, .inl (cI, 19, .inl (fun _ => 0)))] := hD
  refine lv_aload_n hx hb dX10_init_27 rfl (lv_at hl 0 rfl) ?_
  refine lv_bipush (v := 9) hx hb dX10_init_28 (by decide) ?_
  refine va_newa (atype := .int) (ty := .int) (a0 := (9, .inl (fun _ => 0))) (N' := 9) hx hb (hts (.arrayClass .int) (by decide +kernel)) rfl hK hP hD hS hA (fun _ => rfl) (by decide) (by decide) (Nat.le_of_ble_eq_true rfl) (Nat.le_of_ble_eq_true rfl) (Nat.le_of_ble_eq_true rfl) dX10_init_30 (fun q_4 cA_3 H hK hP hD hS => ?_)
  have ecA_3 : cI = cA_3 := cA_one hK (i := 0) (j := 1) rfl rfl
  subst ecA_3
  have hK := hK.sub (tys' := [(cI, .int)]) [0] rfl
  have hP : va_P (dC, dI) vwCl [(ra, .inr (15, [.int 0, .int 0, .int 0, .ref q_2, .null])), (q_2, .inl (cI, 19, .inl (fun _ => 0))), (q_4, .inl (cI, 9, .inl (fun _ => 0)))] H := hP
  have hD : va_D A [(ra, .inr (15, [.int 0, .int 0, .int 0, .ref q_2, .null])), (q_2, .inl (cI, 19, .inl (fun _ => 0))), (q_4, .inl (cI, 9, .inl (fun _ => 0)))] := hD
  refine W.widen (k := 2) (n := 28) (Nat.le_of_ble_eq_true rfl) (Nat.le_of_ble_eq_true rfl) ?_
  refine va_putF (D := (dC, dI)) (ci := 15) (v := .ref q_4) (ty := .array .int) (C := RX10) (T := TX10) (N := 5) hx hb hts iWX10 tyX10 tyX10_ok nmX10 hown hK hP hD hS 0 rfl rfl 4 (by decide) (hts (.fieldLink RX10 26 "Beaverhall$WaysBack" "counts" "[I") (by decide +kernel)) (fun _ h9 => h9) rfl hin rfl (by decide +kernel) rfl rfl (Nat.le_of_ble_eq_true rfl) dX10_init_32 (fun H locs hP hD hS => ?_)
  have hP : va_P (dC, dI) vwCl [(ra, .inr (15, [.int 0, .int 0, .int 0, .ref q_2, .ref q_4])), (q_2, .inl (cI, 19, .inl (fun _ => 0))), (q_4, .inl (cI, 9, .inl (fun _ => 0)))] H := hP
  have hD : va_D A [(ra, .inr (15, [.int 0, .int 0, .int 0, .ref q_2, .ref q_4])), (q_2, .inl (cI, 19, .inl (fun _ => 0))), (q_4, .inl (cI, 9, .inl (fun _ => 0)))] := hD
  have hP9 := hP.sub (ws' := [(ra, .inr (15, [.int 0, .int 0, .int 0, .ref q_2, .ref q_4])), (q_2, .inl (cI, 19, .inl (fun _ => 0))), (q_4, .inl (cI, 9, .inl (fun _ => 0)))]) [0, 1, 2] rfl
  have hD9 := hD.sub (ws' := [(ra, .inr (15, [.int 0, .int 0, .int 0, .ref q_2, .ref q_4])), (q_2, .inl (cI, 19, .inl (fun _ => 0))), (q_4, .inl (cI, 9, .inl (fun _ => 0)))]) [0, 1, 2] (by decide) rfl
  have hK9 := hK.sub (tys' := [(cI, .int)]) [0] rfl
  exact W.vret hx hb hr (fun t ht hW => ⟨⟨(q_2, q_4), rfl, trivial, ⟨by rw [ht]; exact hP9, va_K.moved hW.alike hK9, hD9⟩⟩, hS.F ht⟩) hS.2.2 dX10_init_35

set_option maxHeartbeats 4000000 in
set_option maxRecDepth 100000 in
/-- X8_init -/
theorem c_X8_init (l : Launch) (dC : Nat → ClassId) (dI : Nat → Nat → Nat) (cI : ClassId) (ra : Nat) (sz : Nat) : Met l yX8_init wsX8_init ({ frames := 1, cells := 3, slots := 4006, locals := 24 }) (va_Pc [.ref ra] (cPC dC dI [(ra, .inr (13, [.int 0, .int 0, .int 0, .int 0, .int 0, .null, .null, .null]))] [(cI, .int)] sz)) (va_Qv (fun (u : Nat × Nat × Nat) => True) (fun (u : Nat × Nat × Nat) t => cQB dC dI [(ra, .inr (13, [.int 0, .int 0, .int 0, .int 0, .int 0, .ref u.1, .ref u.2.1, .ref u.2.2])), (u.1, .inl (cI, 2002, .inl (fun _ => 0))), (u.2.1, .inl (cI, 2002, .inl (fun _ => 0))), (u.2.2, .inl (cI, 2, .inl (fun _ => 0)))] [(cI, .int)] (va_A [(ra, .inr (13, [.int 0, .int 0, .int 0, .int 0, .int 0, .null, .null, .null]))] sz) t) (va_A [(ra, .inr (13, [.int 0, .int 0, .int 0, .int 0, .int 0, .null, .null, .null]))] sz)) 3 4006 (va_A [(ra, .inr (13, [.int 0, .int 0, .int 0, .int 0, .int 0, .null, .null, .null]))] sz) := by
  refine Met.ofW (cc := cX8_init) (maxL := 1) (ret := none) (by decide) rfl ?_
  intro p e s m args below meth c s₁ B hml hv
  obtain ⟨rfl, hsz, hP, hK, hD0, hN⟩ := hv
  have hx := B.exec
  have hb := B.bytes
  have hr := B.returns
  have hts := atoms_spec (ws := wsX8_init) B.pre
  have hown : s.vm.findClass RX8 = some m.cls := findClass_of_methodNamed B.named
  have hlocks := B.notSynchronized
  have hin : meth.name = "<init>" := (name_of_methodNamed B.named B.method).1
  subst hsz
  have hD := hD0.self (sz := s.heap.size)
  generalize hAe : va_A [(ra, .inr (13, [.int 0, .int 0, .int 0, .int 0, .int 0, .null, .null, .null]))] s.heap.size = A at hD ⊢
  have hA : ∀ q : Nat, s.heap.size ≤ q → A q := fun q h => by rw [← hAe]; exact Or.inr h
  have hS : va_S A s.heap s.heap [] := va_S.rf
  have hP : va_P (dC, dI) vwCl [(ra, .inr (13, [.int 0, .int 0, .int 0, .int 0, .int 0, .null, .null, .null]))] s.heap := hP
  have hD : va_D A [(ra, .inr (13, [.int 0, .int 0, .int 0, .int 0, .int 0, .null, .null, .null]))] := hD
  have hl := lv_entry ([.ref ra]) (n := 1) (Nat.le_of_ble_eq_true rfl)
  rw [lg_entry_eq]
  generalize (lg_sl ([.ref ra]) ++ List.replicate (1 - (lg_sl ([.ref ra])).length) Slot.unset).toArray = ls at hl ⊢
  have hl : lv_has ls 1 [(0, .ref ra)] := hl
  have iWX8 : ∀ w ∈ u_ws RX8 TX8 8, w ∈ wsX8_init := by decide +kernel
  refine lv_aload_n hx hb dX8_init_0 rfl (lv_at hl 0 rfl) ?_
  refine W.objInit hx hb hown (hts (.methodLink RX8 3 Lib.objectInit) (by decide +kernel)) (hts (.instanceMethod Lib.objectInit) (by decide +kernel)) (hts (.code Lib.objectInit ⟨#[0xb1]⟩ 1 none) (by decide +kernel)) rfl (by rw [hml]; exact hl.1) rfl dX8_init_1 (Nat.le_of_ble_eq_true rfl) (Nat.le_of_ble_eq_true rfl) ?_
  refine W.eq (g2 := F0 m 4 ls []) rfl ?_
  refine lv_aload_n hx hb dX8_init_4 rfl (lv_at hl 0 rfl) ?_
  refine lv_iconst (v := 0) hx hb dX8_init_5 (by decide) ?_
  refine va_put (D := (dC, dI)) (ci := 13) (v := .int 0) (ty := .int) (C := RX8) (T := TX8) (N := 8) hx hb hts iWX8 tyX8 tyX8_ok nmX8 hown hK hP hD hS 0 rfl rfl 0 (by decide) (hts (.fieldLink RX8 9 "Beaverhall$RunByRows" "steps" "I") (by decide +kernel)) (fun _ h9 => h9) rfl (by decide +kernel) rfl rfl (Nat.le_of_ble_eq_true rfl) dX8_init_6 (fun H locs hP hD hS => ?_)
  have hP : va_P (dC, dI) vwCl [(ra, .inr (13, [.int 0, .int 0, .int 0, .int 0, .int 0, .null, .null, .null]))] H := hP
  have hD : va_D A [(ra, .inr (13, [.int 0, .int 0, .int 0, .int 0, .int 0, .null, .null, .null]))] := hD
  refine lv_aload_n hx hb dX8_init_9 rfl (lv_at hl 0 rfl) ?_
  refine lv_iconst (v := 0) hx hb dX8_init_10 (by decide) ?_
  refine va_put (D := (dC, dI)) (ci := 13) (v := .int 0) (ty := .int) (C := RX8) (T := TX8) (N := 8) hx hb hts iWX8 tyX8 tyX8_ok nmX8 hown hK hP hD hS 0 rfl rfl 1 (by decide) (hts (.fieldLink RX8 15 "Beaverhall$RunByRows" "state" "I") (by decide +kernel)) (fun _ h9 => h9) rfl (by decide +kernel) rfl rfl (Nat.le_of_ble_eq_true rfl) dX8_init_11 (fun H locs hP hD hS => ?_)
  have hP : va_P (dC, dI) vwCl [(ra, .inr (13, [.int 0, .int 0, .int 0, .int 0, .int 0, .null, .null, .null]))] H := hP
  have hD : va_D A [(ra, .inr (13, [.int 0, .int 0, .int 0, .int 0, .int 0, .null, .null, .null]))] := hD
  refine lv_aload_n hx hb dX8_init_14 rfl (lv_at hl 0 rfl) ?_
  refine lv_iconst (v := 0) hx hb dX8_init_15 (by decide) ?_
  refine va_put (D := (dC, dI)) (ci := 13) (v := .int 0) (ty := .int) (C := RX8) (T := TX8) (N := 8) hx hb hts iWX8 tyX8 tyX8_ok nmX8 hown hK hP hD hS 0 rfl rfl 2 (by decide) (hts (.fieldLink RX8 18 "Beaverhall$RunByRows" "cell" "I") (by decide +kernel)) (fun _ h9 => h9) rfl (by decide +kernel) rfl rfl (Nat.le_of_ble_eq_true rfl) dX8_init_16 (fun H locs hP hD hS => ?_)
  have hP : va_P (dC, dI) vwCl [(ra, .inr (13, [.int 0, .int 0, .int 0, .int 0, .int 0, .null, .null, .null]))] H := hP
  have hD : va_D A [(ra, .inr (13, [.int 0, .int 0, .int 0, .int 0, .int 0, .null, .null, .null]))] := hD
  refine lv_aload_n hx hb dX8_init_19 rfl (lv_at hl 0 rfl) ?_
  refine lv_iconst (v := 0) hx hb dX8_init_20 (by decide) ?_
  refine va_put (D := (dC, dI)) (ci := 13) (v := .int 0) (ty := .int) (C := RX8) (T := TX8) (N := 8) hx hb hts iWX8 tyX8 tyX8_ok nmX8 hown hK hP hD hS 0 rfl rfl 3 (by decide) (hts (.fieldLink RX8 21 "Beaverhall$RunByRows" "sign" "I") (by decide +kernel)) (fun _ h9 => h9) rfl (by decide +kernel) rfl rfl (Nat.le_of_ble_eq_true rfl) dX8_init_21 (fun H locs hP hD hS => ?_)
  have hP : va_P (dC, dI) vwCl [(ra, .inr (13, [.int 0, .int 0, .int 0, .int 0, .int 0, .null, .null, .null]))] H := hP
  have hD : va_D A [(ra, .inr (13, [.int 0, .int 0, .int 0, .int 0, .int 0, .null, .null, .null]))] := hD
  refine lv_aload_n hx hb dX8_init_24 rfl (lv_at hl 0 rfl) ?_
  refine lv_iconst (v := 0) hx hb dX8_init_25 (by decide) ?_
  refine va_put (D := (dC, dI)) (ci := 13) (v := .int 0) (ty := .boolean) (C := RX8) (T := TX8) (N := 8) hx hb hts iWX8 tyX8 tyX8_ok nmX8 hown hK hP hD hS 0 rfl rfl 4 (by decide) (hts (.fieldLink RX8 24 "Beaverhall$RunByRows" "hasFallen" "Z") (by decide +kernel)) (fun _ h9 => h9) rfl (by decide +kernel) rfl rfl (Nat.le_of_ble_eq_true rfl) dX8_init_26 (fun H locs hP hD hS => ?_)
  have hP : va_P (dC, dI) vwCl [(ra, .inr (13, [.int 0, .int 0, .int 0, .int 0, .int 0, .null, .null, .null]))] H := hP
  have hD : va_D A [(ra, .inr (13, [.int 0, .int 0, .int 0, .int 0, .int 0, .null, .null, .null]))] := hD
  refine lv_aload_n hx hb dX8_init_29 rfl (lv_at hl 0 rfl) ?_
  refine lv_sipush (v := 2002) hx hb dX8_init_30 (by decide) ?_
  refine va_newa (atype := .int) (ty := .int) (a0 := (2002, .inl (fun _ => 0))) (N' := 2002) hx hb (hts (.arrayClass .int) (by decide +kernel)) rfl hK hP hD hS hA (fun _ => rfl) (by decide) (by decide) (Nat.le_of_ble_eq_true rfl) (Nat.le_of_ble_eq_true rfl) (Nat.le_of_ble_eq_true rfl) dX8_init_33 (fun q_2 cA_1 H hK hP hD hS => ?_)
  have ecA_1 : cI = cA_1 := cA_one hK (i := 0) (j := 1) rfl rfl
  subst ecA_1
  have hK := hK.sub (tys' := [(cI, .int)]) [0] rfl
  have hP : va_P (dC, dI) vwCl [(ra, .inr (13, [.int 0, .int 0, .int 0, .int 0, .int 0, .null, .null, .null])), (q_2, .inl (cI, 2002, .inl (fun _ => 0)))] H := hP
  have hD : va_D A [(ra, .inr (13, [.int 0, .int 0, .int 0, .int 0, .int 0, .null, .null, .null])), (q_2, .inl (cI, 2002, .inl (fun _ => 0)))] := hD
  refine W.widen (k := 1) (n := 2002) (Nat.le_of_ble_eq_true rfl) (Nat.le_of_ble_eq_true rfl) ?_
  refine va_putF (D := (dC, dI)) (ci := 13) (v := .ref q_2) (ty := .array .int) (C := RX8) (T := TX8) (N := 8) hx hb hts iWX8 tyX8 tyX8_ok nmX8 hown hK hP hD hS 0 rfl rfl 5 (by decide) (hts (.fieldLink RX8 28 "Beaverhall$RunByRows" "rowSigns" "[I") (by decide +kernel)) (fun _ h9 => h9) rfl hin rfl (by decide +kernel) rfl rfl (Nat.le_of_ble_eq_true rfl) dX8_init_35 (fun H locs hP hD hS => ?_)
  have hP : va_P (dC, dI) vwCl [(ra, .inr (13, [.int 0, .int 0, .int 0, .int 0, .int 0, .ref q_2, .null, .null])), (q_2, .inl (cI, 2002, .inl (fun _ => 0)))] H := hP
  have hD : va_D A [(ra, .inr (13, [.int 0, .int 0, .int 0, .int 0, .int 0, .ref q_2, .null, .null])), (q_2, .inl (cI, 2002, .inl (fun _ => 0)))] := hD
  refine lv_aload_n hx hb dX8_init_38 rfl (lv_at hl 0 rfl) ?_
  refine lv_sipush (v := 2002) hx hb dX8_init_39 (by decide) ?_
  refine va_newa (atype := .int) (ty := .int) (a0 := (2002, .inl (fun _ => 0))) (N' := 2002) hx hb (hts (.arrayClass .int) (by decide +kernel)) rfl hK hP hD hS hA (fun _ => rfl) (by decide) (by decide) (Nat.le_of_ble_eq_true rfl) (Nat.le_of_ble_eq_true rfl) (Nat.le_of_ble_eq_true rfl) dX8_init_42 (fun q_4 cA_3 H hK hP hD hS => ?_)
  have ecA_3 : cI = cA_3 := cA_one hK (i := 0) (j := 1) rfl rfl
  subst ecA_3
  have hK := hK.sub (tys' := [(cI, .int)]) [0] rfl
  have hP : va_P (dC, dI) vwCl [(ra, .inr (13, [.int 0, .int 0, .int 0, .int 0, .int 0, .ref q_2, .null, .null])), (q_2, .inl (cI, 2002, .inl (fun _ => 0))), (q_4, .inl (cI, 2002, .inl (fun _ => 0)))] H := hP
  have hD : va_D A [(ra, .inr (13, [.int 0, .int 0, .int 0, .int 0, .int 0, .ref q_2, .null, .null])), (q_2, .inl (cI, 2002, .inl (fun _ => 0))), (q_4, .inl (cI, 2002, .inl (fun _ => 0)))] := hD
  refine W.widen (k := 2) (n := 4004) (Nat.le_of_ble_eq_true rfl) (Nat.le_of_ble_eq_true rfl) ?_
  refine va_putF (D := (dC, dI)) (ci := 13) (v := .ref q_4) (ty := .array .int) (C := RX8) (T := TX8) (N := 8) hx hb hts iWX8 tyX8 tyX8_ok nmX8 hown hK hP hD hS 0 rfl rfl 6 (by decide) (hts (.fieldLink RX8 32 "Beaverhall$RunByRows" "rowLengths" "[I") (by decide +kernel)) (fun _ h9 => h9) rfl hin rfl (by decide +kernel) rfl rfl (Nat.le_of_ble_eq_true rfl) dX8_init_44 (fun H locs hP hD hS => ?_)
  have hP : va_P (dC, dI) vwCl [(ra, .inr (13, [.int 0, .int 0, .int 0, .int 0, .int 0, .ref q_2, .ref q_4, .null])), (q_2, .inl (cI, 2002, .inl (fun _ => 0))), (q_4, .inl (cI, 2002, .inl (fun _ => 0)))] H := hP
  have hD : va_D A [(ra, .inr (13, [.int 0, .int 0, .int 0, .int 0, .int 0, .ref q_2, .ref q_4, .null])), (q_2, .inl (cI, 2002, .inl (fun _ => 0))), (q_4, .inl (cI, 2002, .inl (fun _ => 0)))] := hD
  refine lv_aload_n hx hb dX8_init_47 rfl (lv_at hl 0 rfl) ?_
  refine lv_iconst (v := 2) hx hb dX8_init_48 (by decide) ?_
  refine va_newa (atype := .int) (ty := .int) (a0 := (2, .inl (fun _ => 0))) (N' := 2) hx hb (hts (.arrayClass .int) (by decide +kernel)) rfl hK hP hD hS hA (fun _ => rfl) (by decide) (by decide) (Nat.le_of_ble_eq_true rfl) (Nat.le_of_ble_eq_true rfl) (Nat.le_of_ble_eq_true rfl) dX8_init_49 (fun q_6 cA_5 H hK hP hD hS => ?_)
  have ecA_5 : cI = cA_5 := cA_one hK (i := 0) (j := 1) rfl rfl
  subst ecA_5
  have hK := hK.sub (tys' := [(cI, .int)]) [0] rfl
  have hP : va_P (dC, dI) vwCl [(ra, .inr (13, [.int 0, .int 0, .int 0, .int 0, .int 0, .ref q_2, .ref q_4, .null])), (q_2, .inl (cI, 2002, .inl (fun _ => 0))), (q_4, .inl (cI, 2002, .inl (fun _ => 0))), (q_6, .inl (cI, 2, .inl (fun _ => 0)))] H := hP
  have hD : va_D A [(ra, .inr (13, [.int 0, .int 0, .int 0, .int 0, .int 0, .ref q_2, .ref q_4, .null])), (q_2, .inl (cI, 2002, .inl (fun _ => 0))), (q_4, .inl (cI, 2002, .inl (fun _ => 0))), (q_6, .inl (cI, 2, .inl (fun _ => 0)))] := hD
  refine W.widen (k := 3) (n := 4006) (Nat.le_of_ble_eq_true rfl) (Nat.le_of_ble_eq_true rfl) ?_
  refine va_putF (D := (dC, dI)) (ci := 13) (v := .ref q_6) (ty := .array .int) (C := RX8) (T := TX8) (N := 8) hx hb hts iWX8 tyX8 tyX8_ok nmX8 hown hK hP hD hS 0 rfl rfl 7 (by decide) (hts (.fieldLink RX8 35 "Beaverhall$RunByRows" "counts" "[I") (by decide +kernel)) (fun _ h9 => h9) rfl hin rfl (by decide +kernel) rfl rfl (Nat.le_of_ble_eq_true rfl) dX8_init_51 (fun H locs hP hD hS => ?_)
  have hP : va_P (dC, dI) vwCl [(ra, .inr (13, [.int 0, .int 0, .int 0, .int 0, .int 0, .ref q_2, .ref q_4, .ref q_6])), (q_2, .inl (cI, 2002, .inl (fun _ => 0))), (q_4, .inl (cI, 2002, .inl (fun _ => 0))), (q_6, .inl (cI, 2, .inl (fun _ => 0)))] H := hP
  have hD : va_D A [(ra, .inr (13, [.int 0, .int 0, .int 0, .int 0, .int 0, .ref q_2, .ref q_4, .ref q_6])), (q_2, .inl (cI, 2002, .inl (fun _ => 0))), (q_4, .inl (cI, 2002, .inl (fun _ => 0))), (q_6, .inl (cI, 2, .inl (fun _ => 0)))] := hD
  have hP9 := hP.sub (ws' := [(ra, .inr (13, [.int 0, .int 0, .int 0, .int 0, .int 0, .ref q_2, .ref q_4, .ref q_6])), (q_2, .inl (cI, 2002, .inl (fun _ => 0))), (q_4, .inl (cI, 2002, .inl (fun _ => 0))), (q_6, .inl (cI, 2, .inl (fun _ => 0)))]) [0, 1, 2, 3] rfl
  have hD9 := hD.sub (ws' := [(ra, .inr (13, [.int 0, .int 0, .int 0, .int 0, .int 0, .ref q_2, .ref q_4, .ref q_6])), (q_2, .inl (cI, 2002, .inl (fun _ => 0))), (q_4, .inl (cI, 2002, .inl (fun _ => 0))), (q_6, .inl (cI, 2, .inl (fun _ => 0)))]) [0, 1, 2, 3] (by decide) rfl
  have hK9 := hK.sub (tys' := [(cI, .int)]) [0] rfl
  exact W.vret hx hb hr (fun t ht hW => ⟨⟨(q_2, q_4, q_6), rfl, trivial, ⟨by rw [ht]; exact hP9, va_K.moved hW.alike hK9, hD9⟩⟩, hS.F ht⟩) hS.2.2 dX8_init_54

set_option maxHeartbeats 4000000 in
set_option maxRecDepth 100000 in
/-- X4_init -/
theorem c_X4_init (l : Launch) (dC : Nat → ClassId) (dI : Nat → Nat → Nat) (cI : ClassId) (ra : Nat) (sz : Nat) : Met l yX4_init wsX4_init ({ frames := 1, cells := 2, slots := 5073, locals := 24 }) (va_Pc [.ref ra] (cPC dC dI [(ra, .inr (9, [.int 0, .int 0, .int 0, .long 0, .long 0, .null, .null]))] [(cI, .int)] sz)) (va_Qv (fun (u : Nat × Nat) => True) (fun (u : Nat × Nat) t => cQB dC dI [(ra, .inr (9, [.int 0, .int 1, .int 0, .long 0, .long 0, .ref u.1, .ref u.2])), (u.1, .inl (cI, 2001, .inl (fun _ => 0))), (u.2, .inl (cI, 3072, .inl (fun _ => 0)))] [(cI, .int)] (va_A [(ra, .inr (9, [.int 0, .int 0, .int 0, .long 0, .long 0, .null, .null]))] sz) t) (va_A [(ra, .inr (9, [.int 0, .int 0, .int 0, .long 0, .long 0, .null, .null]))] sz)) 2 5073 (va_A [(ra, .inr (9, [.int 0, .int 0, .int 0, .long 0, .long 0, .null, .null]))] sz) := by
  refine Met.ofW (cc := cX4_init) (maxL := 1) (ret := none) (by decide) rfl ?_
  intro p e s m args below meth c s₁ B hml hv
  obtain ⟨rfl, hsz, hP, hK, hD0, hN⟩ := hv
  have hx := B.exec
  have hb := B.bytes
  have hr := B.returns
  have hts := atoms_spec (ws := wsX4_init) B.pre
  have hown : s.vm.findClass RX4 = some m.cls := findClass_of_methodNamed B.named
  have hlocks := B.notSynchronized
  have hin : meth.name = "<init>" := (name_of_methodNamed B.named B.method).1
  subst hsz
  have hD := hD0.self (sz := s.heap.size)
  generalize hAe : va_A [(ra, .inr (9, [.int 0, .int 0, .int 0, .long 0, .long 0, .null, .null]))] s.heap.size = A at hD ⊢
  have hA : ∀ q : Nat, s.heap.size ≤ q → A q := fun q h => by rw [← hAe]; exact Or.inr h
  have hS : va_S A s.heap s.heap [] := va_S.rf
  have hP : va_P (dC, dI) vwCl [(ra, .inr (9, [.int 0, .int 0, .int 0, .long 0, .long 0, .null, .null]))] s.heap := hP
  have hD : va_D A [(ra, .inr (9, [.int 0, .int 0, .int 0, .long 0, .long 0, .null, .null]))] := hD
  have hl := lv_entry ([.ref ra]) (n := 1) (Nat.le_of_ble_eq_true rfl)
  rw [lg_entry_eq]
  generalize (lg_sl ([.ref ra]) ++ List.replicate (1 - (lg_sl ([.ref ra])).length) Slot.unset).toArray = ls at hl ⊢
  have hl : lv_has ls 1 [(0, .ref ra)] := hl
  have iWX4 : ∀ w ∈ u_ws RX4 TX4 7, w ∈ wsX4_init := by decide +kernel
  refine lv_aload_n hx hb dX4_init_0 rfl (lv_at hl 0 rfl) ?_
  refine W.objInit hx hb hown (hts (.methodLink RX4 5 Lib.objectInit) (by decide +kernel)) (hts (.instanceMethod Lib.objectInit) (by decide +kernel)) (hts (.code Lib.objectInit ⟨#[0xb1]⟩ 1 none) (by decide +kernel)) rfl (by rw [hml]; exact hl.1) rfl dX4_init_1 (Nat.le_of_ble_eq_true rfl) (Nat.le_of_ble_eq_true rfl) ?_
  refine W.eq (g2 := F0 m 4 ls []) rfl ?_
  refine lv_aload_n hx hb dX4_init_4 rfl (lv_at hl 0 rfl) ?_
  refine lv_iconst (v := 0) hx hb dX4_init_5 (by decide) ?_
  refine va_put (D := (dC, dI)) (ci := 9) (v := .int 0) (ty := .int) (C := RX4) (T := TX4) (N := 7) hx hb hts iWX4 tyX4 tyX4_ok nmX4 hown hK hP hD hS 0 rfl rfl 0 (by decide) (hts (.fieldLink RX4 11 "Beaverhall$Looks" "size" "I") (by decide +kernel)) (fun _ h9 => h9) rfl (by decide +kernel) rfl rfl (Nat.le_of_ble_eq_true rfl) dX4_init_6 (fun H locs hP hD hS => ?_)
  have hP : va_P (dC, dI) vwCl [(ra, .inr (9, [.int 0, .int 0, .int 0, .long 0, .long 0, .null, .null]))] H := hP
  have hD : va_D A [(ra, .inr (9, [.int 0, .int 0, .int 0, .long 0, .long 0, .null, .null]))] := hD
  refine lv_aload_n hx hb dX4_init_9 rfl (lv_at hl 0 rfl) ?_
  refine lv_iconst (v := 1) hx hb dX4_init_10 (by decide) ?_
  refine va_put (D := (dC, dI)) (ci := 9) (v := .int 1) (ty := .int) (C := RX4) (T := TX4) (N := 7) hx hb hts iWX4 tyX4 tyX4_ok nmX4 hown hK hP hD hS 0 rfl rfl 1 (by decide) (hts (.fieldLink RX4 15 "Beaverhall$Looks" "width" "I") (by decide +kernel)) (fun _ h9 => h9) rfl (by decide +kernel) rfl rfl (Nat.le_of_ble_eq_true rfl) dX4_init_11 (fun H locs hP hD hS => ?_)
  have hP : va_P (dC, dI) vwCl [(ra, .inr (9, [.int 0, .int 1, .int 0, .long 0, .long 0, .null, .null]))] H := hP
  have hD : va_D A [(ra, .inr (9, [.int 0, .int 1, .int 0, .long 0, .long 0, .null, .null]))] := hD
  refine lv_aload_n hx hb dX4_init_14 rfl (lv_at hl 0 rfl) ?_
  refine lv_iconst (v := 0) hx hb dX4_init_15 (by decide) ?_
  refine va_put (D := (dC, dI)) (ci := 9) (v := .int 0) (ty := .boolean) (C := RX4) (T := TX4) (N := 7) hx hb hts iWX4 tyX4 tyX4_ok nmX4 hown hK hP hD hS 0 rfl rfl 2 (by decide) (hts (.fieldLink RX4 18 "Beaverhall$Looks" "hasHalt" "Z") (by decide +kernel)) (fun _ h9 => h9) rfl (by decide +kernel) rfl rfl (Nat.le_of_ble_eq_true rfl) dX4_init_16 (fun H locs hP hD hS => ?_)
  have hP : va_P (dC, dI) vwCl [(ra, .inr (9, [.int 0, .int 1, .int 0, .long 0, .long 0, .null, .null]))] H := hP
  have hD : va_D A [(ra, .inr (9, [.int 0, .int 1, .int 0, .long 0, .long 0, .null, .null]))] := hD
  refine lv_aload_n hx hb dX4_init_19 rfl (lv_at hl 0 rfl) ?_
  refine lv_lconst (v := 0) hx hb dX4_init_20 (by decide) ?_
  refine va_put (D := (dC, dI)) (ci := 9) (v := .long 0) (ty := .long) (C := RX4) (T := TX4) (N := 7) hx hb hts iWX4 tyX4 tyX4_ok nmX4 hown hK hP hD hS 0 rfl rfl 3 (by decide) (hts (.fieldLink RX4 22 "Beaverhall$Looks" "leftRows" "J") (by decide +kernel)) (fun _ h9 => h9) rfl (by decide +kernel) rfl rfl (Nat.le_of_ble_eq_true rfl) dX4_init_21 (fun H locs hP hD hS => ?_)
  have hP : va_P (dC, dI) vwCl [(ra, .inr (9, [.int 0, .int 1, .int 0, .long 0, .long 0, .null, .null]))] H := hP
  have hD : va_D A [(ra, .inr (9, [.int 0, .int 1, .int 0, .long 0, .long 0, .null, .null]))] := hD
  refine lv_aload_n hx hb dX4_init_24 rfl (lv_at hl 0 rfl) ?_
  refine lv_lconst (v := 0) hx hb dX4_init_25 (by decide) ?_
  refine va_put (D := (dC, dI)) (ci := 9) (v := .long 0) (ty := .long) (C := RX4) (T := TX4) (N := 7) hx hb hts iWX4 tyX4 tyX4_ok nmX4 hown hK hP hD hS 0 rfl rfl 4 (by decide) (hts (.fieldLink RX4 26 "Beaverhall$Looks" "rightRows" "J") (by decide +kernel)) (fun _ h9 => h9) rfl (by decide +kernel) rfl rfl (Nat.le_of_ble_eq_true rfl) dX4_init_26 (fun H locs hP hD hS => ?_)
  have hP : va_P (dC, dI) vwCl [(ra, .inr (9, [.int 0, .int 1, .int 0, .long 0, .long 0, .null, .null]))] H := hP
  have hD : va_D A [(ra, .inr (9, [.int 0, .int 1, .int 0, .long 0, .long 0, .null, .null]))] := hD
  refine lv_aload_n hx hb dX4_init_29 rfl (lv_at hl 0 rfl) ?_
  refine lv_sipush (v := 2001) hx hb dX4_init_30 (by decide) ?_
  refine va_newa (atype := .int) (ty := .int) (a0 := (2001, .inl (fun _ => 0))) (N' := 2001) hx hb (hts (.arrayClass .int) (by decide +kernel)) rfl hK hP hD hS hA (fun _ => rfl) (by decide) (by decide) (Nat.le_of_ble_eq_true rfl) (Nat.le_of_ble_eq_true rfl) (Nat.le_of_ble_eq_true rfl) dX4_init_33 (fun q_2 cA_1 H hK hP hD hS => ?_)
  have ecA_1 : cI = cA_1 := cA_one hK (i := 0) (j := 1) rfl rfl
  subst ecA_1
  have hK := hK.sub (tys' := [(cI, .int)]) [0] rfl
  have hP : va_P (dC, dI) vwCl [(ra, .inr (9, [.int 0, .int 1, .int 0, .long 0, .long 0, .null, .null])), (q_2, .inl (cI, 2001, .inl (fun _ => 0)))] H := hP
  have hD : va_D A [(ra, .inr (9, [.int 0, .int 1, .int 0, .long 0, .long 0, .null, .null])), (q_2, .inl (cI, 2001, .inl (fun _ => 0)))] := hD
  refine W.widen (k := 1) (n := 2001) (Nat.le_of_ble_eq_true rfl) (Nat.le_of_ble_eq_true rfl) ?_
  refine va_putF (D := (dC, dI)) (ci := 9) (v := .ref q_2) (ty := .array .int) (C := RX4) (T := TX4) (N := 7) hx hb hts iWX4 tyX4 tyX4_ok nmX4 hown hK hP hD hS 0 rfl rfl 5 (by decide) (hts (.fieldLink RX4 29 "Beaverhall$Looks" "looks" "[I") (by decide +kernel)) (fun _ h9 => h9) rfl hin rfl (by decide +kernel) rfl rfl (Nat.le_of_ble_eq_true rfl) dX4_init_35 (fun H locs hP hD hS => ?_)
  have hP : va_P (dC, dI) vwCl [(ra, .inr (9, [.int 0, .int 1, .int 0, .long 0, .long 0, .ref q_2, .null])), (q_2, .inl (cI, 2001, .inl (fun _ => 0)))] H := hP
  have hD : va_D A [(ra, .inr (9, [.int 0, .int 1, .int 0, .long 0, .long 0, .ref q_2, .null])), (q_2, .inl (cI, 2001, .inl (fun _ => 0)))] := hD
  refine lv_aload_n hx hb dX4_init_38 rfl (lv_at hl 0 rfl) ?_
  refine lv_sipush (v := 3072) hx hb dX4_init_39 (by decide) ?_
  refine va_newa (atype := .int) (ty := .int) (a0 := (3072, .inl (fun _ => 0))) (N' := 3072) hx hb (hts (.arrayClass .int) (by decide +kernel)) rfl hK hP hD hS hA (fun _ => rfl) (by decide) (by decide) (Nat.le_of_ble_eq_true rfl) (Nat.le_of_ble_eq_true rfl) (Nat.le_of_ble_eq_true rfl) dX4_init_42 (fun q_4 cA_3 H hK hP hD hS => ?_)
  have ecA_3 : cI = cA_3 := cA_one hK (i := 0) (j := 1) rfl rfl
  subst ecA_3
  have hK := hK.sub (tys' := [(cI, .int)]) [0] rfl
  have hP : va_P (dC, dI) vwCl [(ra, .inr (9, [.int 0, .int 1, .int 0, .long 0, .long 0, .ref q_2, .null])), (q_2, .inl (cI, 2001, .inl (fun _ => 0))), (q_4, .inl (cI, 3072, .inl (fun _ => 0)))] H := hP
  have hD : va_D A [(ra, .inr (9, [.int 0, .int 1, .int 0, .long 0, .long 0, .ref q_2, .null])), (q_2, .inl (cI, 2001, .inl (fun _ => 0))), (q_4, .inl (cI, 3072, .inl (fun _ => 0)))] := hD
  refine W.widen (k := 2) (n := 5073) (Nat.le_of_ble_eq_true rfl) (Nat.le_of_ble_eq_true rfl) ?_
  refine va_putF (D := (dC, dI)) (ci := 9) (v := .ref q_4) (ty := .array .int) (C := RX4) (T := TX4) (N := 7) hx hb hts iWX4 tyX4 tyX4_ok nmX4 hown hK hP hD hS 0 rfl rfl 6 (by decide) (hts (.fieldLink RX4 33 "Beaverhall$Looks" "seen" "[I") (by decide +kernel)) (fun _ h9 => h9) rfl hin rfl (by decide +kernel) rfl rfl (Nat.le_of_ble_eq_true rfl) dX4_init_44 (fun H locs hP hD hS => ?_)
  have hP : va_P (dC, dI) vwCl [(ra, .inr (9, [.int 0, .int 1, .int 0, .long 0, .long 0, .ref q_2, .ref q_4])), (q_2, .inl (cI, 2001, .inl (fun _ => 0))), (q_4, .inl (cI, 3072, .inl (fun _ => 0)))] H := hP
  have hD : va_D A [(ra, .inr (9, [.int 0, .int 1, .int 0, .long 0, .long 0, .ref q_2, .ref q_4])), (q_2, .inl (cI, 2001, .inl (fun _ => 0))), (q_4, .inl (cI, 3072, .inl (fun _ => 0)))] := hD
  have hP9 := hP.sub (ws' := [(ra, .inr (9, [.int 0, .int 1, .int 0, .long 0, .long 0, .ref q_2, .ref q_4])), (q_2, .inl (cI, 2001, .inl (fun _ => 0))), (q_4, .inl (cI, 3072, .inl (fun _ => 0)))]) [0, 1, 2] rfl
  have hD9 := hD.sub (ws' := [(ra, .inr (9, [.int 0, .int 1, .int 0, .long 0, .long 0, .ref q_2, .ref q_4])), (q_2, .inl (cI, 2001, .inl (fun _ => 0))), (q_4, .inl (cI, 3072, .inl (fun _ => 0)))]) [0, 1, 2] (by decide) rfl
  have hK9 := hK.sub (tys' := [(cI, .int)]) [0] rfl
  exact W.vret hx hb hr (fun t ht hW => ⟨⟨(q_2, q_4), rfl, trivial, ⟨by rw [ht]; exact hP9, va_K.moved hW.alike hK9, hD9⟩⟩, hS.F ht⟩) hS.2.2 dX4_init_47

set_option maxHeartbeats 4000000 in
set_option maxRecDepth 100000 in
/-- X0_init -/
theorem c_X0_init (l : Launch) (dC : Nat → ClassId) (dI : Nat → Nat → Nat) (cI : ClassId) (ra : Nat) (sz : Nat) : Met l yX0_init wsX0_init ({ frames := 1, cells := 5, slots := 52, locals := 24 }) (va_Pc [.ref ra] (cPC dC dI [(ra, .inr (5, [.int 0, .null, .null, .null, .null, .null]))] [(cI, .int)] sz)) (va_Qv (fun (u : Nat × Nat × Nat × Nat × Nat) => True) (fun (u : Nat × Nat × Nat × Nat × Nat) t => cQB dC dI [(ra, .inr (5, [.int 0, .ref u.1, .ref u.2.1, .ref u.2.2.1, .ref u.2.2.2.1, .ref u.2.2.2.2])), (u.1, .inl (cI, 4, .inl (fun _ => 0))), (u.2.1, .inl (cI, 12, .inl (fun _ => 0))), (u.2.2.1, .inl (cI, 12, .inl (fun _ => 0))), (u.2.2.2.1, .inl (cI, 12, .inl (fun _ => 0))), (u.2.2.2.2, .inl (cI, 12, .inl (fun _ => 0)))] [(cI, .int)] (va_A [(ra, .inr (5, [.int 0, .null, .null, .null, .null, .null]))] sz) t) (va_A [(ra, .inr (5, [.int 0, .null, .null, .null, .null, .null]))] sz)) 5 52 (va_A [(ra, .inr (5, [.int 0, .null, .null, .null, .null, .null]))] sz) := by
  refine Met.ofW (cc := cX0_init) (maxL := 1) (ret := none) (by decide) rfl ?_
  intro p e s m args below meth c s₁ B hml hv
  obtain ⟨rfl, hsz, hP, hK, hD0, hN⟩ := hv
  have hx := B.exec
  have hb := B.bytes
  have hr := B.returns
  have hts := atoms_spec (ws := wsX0_init) B.pre
  have hown : s.vm.findClass RX0 = some m.cls := findClass_of_methodNamed B.named
  have hlocks := B.notSynchronized
  have hin : meth.name = "<init>" := (name_of_methodNamed B.named B.method).1
  subst hsz
  have hD := hD0.self (sz := s.heap.size)
  generalize hAe : va_A [(ra, .inr (5, [.int 0, .null, .null, .null, .null, .null]))] s.heap.size = A at hD ⊢
  have hA : ∀ q : Nat, s.heap.size ≤ q → A q := fun q h => by rw [← hAe]; exact Or.inr h
  have hS : va_S A s.heap s.heap [] := va_S.rf
  have hP : va_P (dC, dI) vwCl [(ra, .inr (5, [.int 0, .null, .null, .null, .null, .null]))] s.heap := hP
  have hD : va_D A [(ra, .inr (5, [.int 0, .null, .null, .null, .null, .null]))] := hD
  have hl := lv_entry ([.ref ra]) (n := 1) (Nat.le_of_ble_eq_true rfl)
  rw [lg_entry_eq]
  generalize (lg_sl ([.ref ra]) ++ List.replicate (1 - (lg_sl ([.ref ra])).length) Slot.unset).toArray = ls at hl ⊢
  have hl : lv_has ls 1 [(0, .ref ra)] := hl
  have iWX0 : ∀ w ∈ u_ws RX0 TX0 6, w ∈ wsX0_init := by decide +kernel
  refine lv_aload_n hx hb dX0_init_0 rfl (lv_at hl 0 rfl) ?_
  refine W.objInit hx hb hown (hts (.methodLink RX0 1 Lib.objectInit) (by decide +kernel)) (hts (.instanceMethod Lib.objectInit) (by decide +kernel)) (hts (.code Lib.objectInit ⟨#[0xb1]⟩ 1 none) (by decide +kernel)) rfl (by rw [hml]; exact hl.1) rfl dX0_init_1 (Nat.le_of_ble_eq_true rfl) (Nat.le_of_ble_eq_true rfl) ?_
  refine W.eq (g2 := F0 m 4 ls []) rfl ?_
  refine lv_aload_n hx hb dX0_init_4 rfl (lv_at hl 0 rfl) ?_
  refine lv_iconst (v := 0) hx hb dX0_init_5 (by decide) ?_
  refine va_put (D := (dC, dI)) (ci := 5) (v := .int 0) (ty := .int) (C := RX0) (T := TX0) (N := 6) hx hb hts iWX0 tyX0 tyX0_ok nmX0 hown hK hP hD hS 0 rfl rfl 0 (by decide) (hts (.fieldLink RX0 7 "Beaverhall$Counters" "size" "I") (by decide +kernel)) (fun _ h9 => h9) rfl (by decide +kernel) rfl rfl (Nat.le_of_ble_eq_true rfl) dX0_init_6 (fun H locs hP hD hS => ?_)
  have hP : va_P (dC, dI) vwCl [(ra, .inr (5, [.int 0, .null, .null, .null, .null, .null]))] H := hP
  have hD : va_D A [(ra, .inr (5, [.int 0, .null, .null, .null, .null, .null]))] := hD
  refine lv_aload_n hx hb dX0_init_9 rfl (lv_at hl 0 rfl) ?_
  refine lv_iconst (v := 4) hx hb dX0_init_10 (by decide) ?_
  refine va_newa (atype := .int) (ty := .int) (a0 := (4, .inl (fun _ => 0))) (N' := 4) hx hb (hts (.arrayClass .int) (by decide +kernel)) rfl hK hP hD hS hA (fun _ => rfl) (by decide) (by decide) (Nat.le_of_ble_eq_true rfl) (Nat.le_of_ble_eq_true rfl) (Nat.le_of_ble_eq_true rfl) dX0_init_11 (fun q_2 cA_1 H hK hP hD hS => ?_)
  have ecA_1 : cI = cA_1 := cA_one hK (i := 0) (j := 1) rfl rfl
  subst ecA_1
  have hK := hK.sub (tys' := [(cI, .int)]) [0] rfl
  have hP : va_P (dC, dI) vwCl [(ra, .inr (5, [.int 0, .null, .null, .null, .null, .null])), (q_2, .inl (cI, 4, .inl (fun _ => 0)))] H := hP
  have hD : va_D A [(ra, .inr (5, [.int 0, .null, .null, .null, .null, .null])), (q_2, .inl (cI, 4, .inl (fun _ => 0)))] := hD
  refine W.widen (k := 1) (n := 4) (Nat.le_of_ble_eq_true rfl) (Nat.le_of_ble_eq_true rfl) ?_
  refine va_putF (D := (dC, dI)) (ci := 5) (v := .ref q_2) (ty := .array .int) (C := RX0) (T := TX0) (N := 6) hx hb hts iWX0 tyX0 tyX0_ok nmX0 hown hK hP hD hS 0 rfl rfl 1 (by decide) (hts (.fieldLink RX0 13 "Beaverhall$Counters" "registers" "[I") (by decide +kernel)) (fun _ h9 => h9) rfl hin rfl (by decide +kernel) rfl rfl (Nat.le_of_ble_eq_true rfl) dX0_init_13 (fun H locs hP hD hS => ?_)
  have hP : va_P (dC, dI) vwCl [(ra, .inr (5, [.int 0, .ref q_2, .null, .null, .null, .null])), (q_2, .inl (cI, 4, .inl (fun _ => 0)))] H := hP
  have hD : va_D A [(ra, .inr (5, [.int 0, .ref q_2, .null, .null, .null, .null])), (q_2, .inl (cI, 4, .inl (fun _ => 0)))] := hD
  refine lv_aload_n hx hb dX0_init_16 rfl (lv_at hl 0 rfl) ?_
  refine lv_bipush (v := 12) hx hb dX0_init_17 (by decide) ?_
  refine va_newa (atype := .int) (ty := .int) (a0 := (12, .inl (fun _ => 0))) (N' := 12) hx hb (hts (.arrayClass .int) (by decide +kernel)) rfl hK hP hD hS hA (fun _ => rfl) (by decide) (by decide) (Nat.le_of_ble_eq_true rfl) (Nat.le_of_ble_eq_true rfl) (Nat.le_of_ble_eq_true rfl) dX0_init_19 (fun q_4 cA_3 H hK hP hD hS => ?_)
  have ecA_3 : cI = cA_3 := cA_one hK (i := 0) (j := 1) rfl rfl
  subst ecA_3
  have hK := hK.sub (tys' := [(cI, .int)]) [0] rfl
  have hP : va_P (dC, dI) vwCl [(ra, .inr (5, [.int 0, .ref q_2, .null, .null, .null, .null])), (q_2, .inl (cI, 4, .inl (fun _ => 0))), (q_4, .inl (cI, 12, .inl (fun _ => 0)))] H := hP
  have hD : va_D A [(ra, .inr (5, [.int 0, .ref q_2, .null, .null, .null, .null])), (q_2, .inl (cI, 4, .inl (fun _ => 0))), (q_4, .inl (cI, 12, .inl (fun _ => 0)))] := hD
  refine W.widen (k := 2) (n := 16) (Nat.le_of_ble_eq_true rfl) (Nat.le_of_ble_eq_true rfl) ?_
  refine va_putF (D := (dC, dI)) (ci := 5) (v := .ref q_4) (ty := .array .int) (C := RX0) (T := TX0) (N := 6) hx hb hts iWX0 tyX0 tyX0_ok nmX0 hown hK hP hD hS 0 rfl rfl 2 (by decide) (hts (.fieldLink RX0 17 "Beaverhall$Counters" "ups" "[I") (by decide +kernel)) (fun _ h9 => h9) rfl hin rfl (by decide +kernel) rfl rfl (Nat.le_of_ble_eq_true rfl) dX0_init_21 (fun H locs hP hD hS => ?_)
  have hP : va_P (dC, dI) vwCl [(ra, .inr (5, [.int 0, .ref q_2, .ref q_4, .null, .null, .null])), (q_2, .inl (cI, 4, .inl (fun _ => 0))), (q_4, .inl (cI, 12, .inl (fun _ => 0)))] H := hP
  have hD : va_D A [(ra, .inr (5, [.int 0, .ref q_2, .ref q_4, .null, .null, .null])), (q_2, .inl (cI, 4, .inl (fun _ => 0))), (q_4, .inl (cI, 12, .inl (fun _ => 0)))] := hD
  refine lv_aload_n hx hb dX0_init_24 rfl (lv_at hl 0 rfl) ?_
  refine lv_bipush (v := 12) hx hb dX0_init_25 (by decide) ?_
  refine va_newa (atype := .int) (ty := .int) (a0 := (12, .inl (fun _ => 0))) (N' := 12) hx hb (hts (.arrayClass .int) (by decide +kernel)) rfl hK hP hD hS hA (fun _ => rfl) (by decide) (by decide) (Nat.le_of_ble_eq_true rfl) (Nat.le_of_ble_eq_true rfl) (Nat.le_of_ble_eq_true rfl) dX0_init_27 (fun q_6 cA_5 H hK hP hD hS => ?_)
  have ecA_5 : cI = cA_5 := cA_one hK (i := 0) (j := 1) rfl rfl
  subst ecA_5
  have hK := hK.sub (tys' := [(cI, .int)]) [0] rfl
  have hP : va_P (dC, dI) vwCl [(ra, .inr (5, [.int 0, .ref q_2, .ref q_4, .null, .null, .null])), (q_2, .inl (cI, 4, .inl (fun _ => 0))), (q_4, .inl (cI, 12, .inl (fun _ => 0))), (q_6, .inl (cI, 12, .inl (fun _ => 0)))] H := hP
  have hD : va_D A [(ra, .inr (5, [.int 0, .ref q_2, .ref q_4, .null, .null, .null])), (q_2, .inl (cI, 4, .inl (fun _ => 0))), (q_4, .inl (cI, 12, .inl (fun _ => 0))), (q_6, .inl (cI, 12, .inl (fun _ => 0)))] := hD
  refine W.widen (k := 3) (n := 28) (Nat.le_of_ble_eq_true rfl) (Nat.le_of_ble_eq_true rfl) ?_
  refine va_putF (D := (dC, dI)) (ci := 5) (v := .ref q_6) (ty := .array .int) (C := RX0) (T := TX0) (N := 6) hx hb hts iWX0 tyX0 tyX0_ok nmX0 hown hK hP hD hS 0 rfl rfl 3 (by decide) (hts (.fieldLink RX0 20 "Beaverhall$Counters" "targets" "[I") (by decide +kernel)) (fun _ h9 => h9) rfl hin rfl (by decide +kernel) rfl rfl (Nat.le_of_ble_eq_true rfl) dX0_init_29 (fun H locs hP hD hS => ?_)
  have hP : va_P (dC, dI) vwCl [(ra, .inr (5, [.int 0, .ref q_2, .ref q_4, .ref q_6, .null, .null])), (q_2, .inl (cI, 4, .inl (fun _ => 0))), (q_4, .inl (cI, 12, .inl (fun _ => 0))), (q_6, .inl (cI, 12, .inl (fun _ => 0)))] H := hP
  have hD : va_D A [(ra, .inr (5, [.int 0, .ref q_2, .ref q_4, .ref q_6, .null, .null])), (q_2, .inl (cI, 4, .inl (fun _ => 0))), (q_4, .inl (cI, 12, .inl (fun _ => 0))), (q_6, .inl (cI, 12, .inl (fun _ => 0)))] := hD
  refine lv_aload_n hx hb dX0_init_32 rfl (lv_at hl 0 rfl) ?_
  refine lv_bipush (v := 12) hx hb dX0_init_33 (by decide) ?_
  refine va_newa (atype := .int) (ty := .int) (a0 := (12, .inl (fun _ => 0))) (N' := 12) hx hb (hts (.arrayClass .int) (by decide +kernel)) rfl hK hP hD hS hA (fun _ => rfl) (by decide) (by decide) (Nat.le_of_ble_eq_true rfl) (Nat.le_of_ble_eq_true rfl) (Nat.le_of_ble_eq_true rfl) dX0_init_35 (fun q_8 cA_7 H hK hP hD hS => ?_)
  have ecA_7 : cI = cA_7 := cA_one hK (i := 0) (j := 1) rfl rfl
  subst ecA_7
  have hK := hK.sub (tys' := [(cI, .int)]) [0] rfl
  have hP : va_P (dC, dI) vwCl [(ra, .inr (5, [.int 0, .ref q_2, .ref q_4, .ref q_6, .null, .null])), (q_2, .inl (cI, 4, .inl (fun _ => 0))), (q_4, .inl (cI, 12, .inl (fun _ => 0))), (q_6, .inl (cI, 12, .inl (fun _ => 0))), (q_8, .inl (cI, 12, .inl (fun _ => 0)))] H := hP
  have hD : va_D A [(ra, .inr (5, [.int 0, .ref q_2, .ref q_4, .ref q_6, .null, .null])), (q_2, .inl (cI, 4, .inl (fun _ => 0))), (q_4, .inl (cI, 12, .inl (fun _ => 0))), (q_6, .inl (cI, 12, .inl (fun _ => 0))), (q_8, .inl (cI, 12, .inl (fun _ => 0)))] := hD
  refine W.widen (k := 4) (n := 40) (Nat.le_of_ble_eq_true rfl) (Nat.le_of_ble_eq_true rfl) ?_
  refine va_putF (D := (dC, dI)) (ci := 5) (v := .ref q_8) (ty := .array .int) (C := RX0) (T := TX0) (N := 6) hx hb hts iWX0 tyX0 tyX0_ok nmX0 hown hK hP hD hS 0 rfl rfl 4 (by decide) (hts (.fieldLink RX0 23 "Beaverhall$Counters" "places" "[I") (by decide +kernel)) (fun _ h9 => h9) rfl hin rfl (by decide +kernel) rfl rfl (Nat.le_of_ble_eq_true rfl) dX0_init_37 (fun H locs hP hD hS => ?_)
  have hP : va_P (dC, dI) vwCl [(ra, .inr (5, [.int 0, .ref q_2, .ref q_4, .ref q_6, .ref q_8, .null])), (q_2, .inl (cI, 4, .inl (fun _ => 0))), (q_4, .inl (cI, 12, .inl (fun _ => 0))), (q_6, .inl (cI, 12, .inl (fun _ => 0))), (q_8, .inl (cI, 12, .inl (fun _ => 0)))] H := hP
  have hD : va_D A [(ra, .inr (5, [.int 0, .ref q_2, .ref q_4, .ref q_6, .ref q_8, .null])), (q_2, .inl (cI, 4, .inl (fun _ => 0))), (q_4, .inl (cI, 12, .inl (fun _ => 0))), (q_6, .inl (cI, 12, .inl (fun _ => 0))), (q_8, .inl (cI, 12, .inl (fun _ => 0)))] := hD
  refine lv_aload_n hx hb dX0_init_40 rfl (lv_at hl 0 rfl) ?_
  refine lv_bipush (v := 12) hx hb dX0_init_41 (by decide) ?_
  refine va_newa (atype := .int) (ty := .int) (a0 := (12, .inl (fun _ => 0))) (N' := 12) hx hb (hts (.arrayClass .int) (by decide +kernel)) rfl hK hP hD hS hA (fun _ => rfl) (by decide) (by decide) (Nat.le_of_ble_eq_true rfl) (Nat.le_of_ble_eq_true rfl) (Nat.le_of_ble_eq_true rfl) dX0_init_43 (fun q_10 cA_9 H hK hP hD hS => ?_)
  have ecA_9 : cI = cA_9 := cA_one hK (i := 0) (j := 1) rfl rfl
  subst ecA_9
  have hK := hK.sub (tys' := [(cI, .int)]) [0] rfl
  have hP : va_P (dC, dI) vwCl [(ra, .inr (5, [.int 0, .ref q_2, .ref q_4, .ref q_6, .ref q_8, .null])), (q_2, .inl (cI, 4, .inl (fun _ => 0))), (q_4, .inl (cI, 12, .inl (fun _ => 0))), (q_6, .inl (cI, 12, .inl (fun _ => 0))), (q_8, .inl (cI, 12, .inl (fun _ => 0))), (q_10, .inl (cI, 12, .inl (fun _ => 0)))] H := hP
  have hD : va_D A [(ra, .inr (5, [.int 0, .ref q_2, .ref q_4, .ref q_6, .ref q_8, .null])), (q_2, .inl (cI, 4, .inl (fun _ => 0))), (q_4, .inl (cI, 12, .inl (fun _ => 0))), (q_6, .inl (cI, 12, .inl (fun _ => 0))), (q_8, .inl (cI, 12, .inl (fun _ => 0))), (q_10, .inl (cI, 12, .inl (fun _ => 0)))] := hD
  refine W.widen (k := 5) (n := 52) (Nat.le_of_ble_eq_true rfl) (Nat.le_of_ble_eq_true rfl) ?_
  refine va_putF (D := (dC, dI)) (ci := 5) (v := .ref q_10) (ty := .array .int) (C := RX0) (T := TX0) (N := 6) hx hb hts iWX0 tyX0 tyX0_ok nmX0 hown hK hP hD hS 0 rfl rfl 5 (by decide) (hts (.fieldLink RX0 26 "Beaverhall$Counters" "others" "[I") (by decide +kernel)) (fun _ h9 => h9) rfl hin rfl (by decide +kernel) rfl rfl (Nat.le_of_ble_eq_true rfl) dX0_init_45 (fun H locs hP hD hS => ?_)
  have hP : va_P (dC, dI) vwCl [(ra, .inr (5, [.int 0, .ref q_2, .ref q_4, .ref q_6, .ref q_8, .ref q_10])), (q_2, .inl (cI, 4, .inl (fun _ => 0))), (q_4, .inl (cI, 12, .inl (fun _ => 0))), (q_6, .inl (cI, 12, .inl (fun _ => 0))), (q_8, .inl (cI, 12, .inl (fun _ => 0))), (q_10, .inl (cI, 12, .inl (fun _ => 0)))] H := hP
  have hD : va_D A [(ra, .inr (5, [.int 0, .ref q_2, .ref q_4, .ref q_6, .ref q_8, .ref q_10])), (q_2, .inl (cI, 4, .inl (fun _ => 0))), (q_4, .inl (cI, 12, .inl (fun _ => 0))), (q_6, .inl (cI, 12, .inl (fun _ => 0))), (q_8, .inl (cI, 12, .inl (fun _ => 0))), (q_10, .inl (cI, 12, .inl (fun _ => 0)))] := hD
  have hP9 := hP.sub (ws' := [(ra, .inr (5, [.int 0, .ref q_2, .ref q_4, .ref q_6, .ref q_8, .ref q_10])), (q_2, .inl (cI, 4, .inl (fun _ => 0))), (q_4, .inl (cI, 12, .inl (fun _ => 0))), (q_6, .inl (cI, 12, .inl (fun _ => 0))), (q_8, .inl (cI, 12, .inl (fun _ => 0))), (q_10, .inl (cI, 12, .inl (fun _ => 0)))]) [0, 1, 2, 3, 4, 5] rfl
  have hD9 := hD.sub (ws' := [(ra, .inr (5, [.int 0, .ref q_2, .ref q_4, .ref q_6, .ref q_8, .ref q_10])), (q_2, .inl (cI, 4, .inl (fun _ => 0))), (q_4, .inl (cI, 12, .inl (fun _ => 0))), (q_6, .inl (cI, 12, .inl (fun _ => 0))), (q_8, .inl (cI, 12, .inl (fun _ => 0))), (q_10, .inl (cI, 12, .inl (fun _ => 0)))]) [0, 1, 2, 3, 4, 5] (by decide) rfl
  have hK9 := hK.sub (tys' := [(cI, .int)]) [0] rfl
  exact W.vret hx hb hr (fun t ht hW => ⟨⟨(q_2, q_4, q_6, q_8, q_10), rfl, trivial, ⟨by rw [ht]; exact hP9, va_K.moved hW.alike hK9, hD9⟩⟩, hS.F ht⟩) hS.2.2 dX0_init_48

set_option maxHeartbeats 4000000 in
set_option maxRecDepth 100000 in
/-- X9_init -/
theorem c_X9_init (l : Launch) (dC : Nat → ClassId) (dI : Nat → Nat → Nat) (cI : ClassId) (ra : Nat) (sz : Nat) : Met l yX9_init wsX9_init ({ frames := 1, cells := 4, slots := 468, locals := 24 }) (va_Pc [.ref ra] (cPC dC dI [(ra, .inr (14, [.int 0, .int 0, .null, .null, .null, .null]))] [(cI, .int)] sz)) (va_Qv (fun (u : Nat × Nat × Nat × Nat) => True) (fun (u : Nat × Nat × Nat × Nat) t => cQB dC dI [(ra, .inr (14, [.int 0, .int 0, .ref u.1, .ref u.2.1, .ref u.2.2.1, .ref u.2.2.2])), (u.1, .inl (cI, 40, .inl (fun _ => 0))), (u.2.1, .inl (cI, 24, .inl (fun _ => 0))), (u.2.2.1, .inl (cI, 4, .inl (fun _ => 0))), (u.2.2.2, .inl (cI, 400, .inl (fun _ => 0)))] [(cI, .int)] (va_A [(ra, .inr (14, [.int 0, .int 0, .null, .null, .null, .null]))] sz) t) (va_A [(ra, .inr (14, [.int 0, .int 0, .null, .null, .null, .null]))] sz)) 4 468 (va_A [(ra, .inr (14, [.int 0, .int 0, .null, .null, .null, .null]))] sz) := by
  refine Met.ofW (cc := cX9_init) (maxL := 1) (ret := none) (by decide) rfl ?_
  intro p e s m args below meth c s₁ B hml hv
  obtain ⟨rfl, hsz, hP, hK, hD0, hN⟩ := hv
  have hx := B.exec
  have hb := B.bytes
  have hr := B.returns
  have hts := atoms_spec (ws := wsX9_init) B.pre
  have hown : s.vm.findClass RX9 = some m.cls := findClass_of_methodNamed B.named
  have hlocks := B.notSynchronized
  have hin : meth.name = "<init>" := (name_of_methodNamed B.named B.method).1
  subst hsz
  have hD := hD0.self (sz := s.heap.size)
  generalize hAe : va_A [(ra, .inr (14, [.int 0, .int 0, .null, .null, .null, .null]))] s.heap.size = A at hD ⊢
  have hA : ∀ q : Nat, s.heap.size ≤ q → A q := fun q h => by rw [← hAe]; exact Or.inr h
  have hS : va_S A s.heap s.heap [] := va_S.rf
  have hP : va_P (dC, dI) vwCl [(ra, .inr (14, [.int 0, .int 0, .null, .null, .null, .null]))] s.heap := hP
  have hD : va_D A [(ra, .inr (14, [.int 0, .int 0, .null, .null, .null, .null]))] := hD
  have hl := lv_entry ([.ref ra]) (n := 1) (Nat.le_of_ble_eq_true rfl)
  rw [lg_entry_eq]
  generalize (lg_sl ([.ref ra]) ++ List.replicate (1 - (lg_sl ([.ref ra])).length) Slot.unset).toArray = ls at hl ⊢
  have hl : lv_has ls 1 [(0, .ref ra)] := hl
  have iWX9 : ∀ w ∈ u_ws RX9 TX9 6, w ∈ wsX9_init := by decide +kernel
  refine lv_aload_n hx hb dX9_init_0 rfl (lv_at hl 0 rfl) ?_
  refine W.objInit hx hb hown (hts (.methodLink RX9 1 Lib.objectInit) (by decide +kernel)) (hts (.instanceMethod Lib.objectInit) (by decide +kernel)) (hts (.code Lib.objectInit ⟨#[0xb1]⟩ 1 none) (by decide +kernel)) rfl (by rw [hml]; exact hl.1) rfl dX9_init_1 (Nat.le_of_ble_eq_true rfl) (Nat.le_of_ble_eq_true rfl) ?_
  refine W.eq (g2 := F0 m 4 ls []) rfl ?_
  refine lv_aload_n hx hb dX9_init_4 rfl (lv_at hl 0 rfl) ?_
  refine lv_iconst (v := 0) hx hb dX9_init_5 (by decide) ?_
  refine va_put (D := (dC, dI)) (ci := 14) (v := .int 0) (ty := .int) (C := RX9) (T := TX9) (N := 6) hx hb hts iWX9 tyX9 tyX9_ok nmX9 hown hK hP hD hS 0 rfl rfl 0 (by decide) (hts (.fieldLink RX9 7 "Beaverhall$Tags" "startLength" "I") (by decide +kernel)) (fun _ h9 => h9) rfl (by decide +kernel) rfl rfl (Nat.le_of_ble_eq_true rfl) dX9_init_6 (fun H locs hP hD hS => ?_)
  have hP : va_P (dC, dI) vwCl [(ra, .inr (14, [.int 0, .int 0, .null, .null, .null, .null]))] H := hP
  have hD : va_D A [(ra, .inr (14, [.int 0, .int 0, .null, .null, .null, .null]))] := hD
  refine lv_aload_n hx hb dX9_init_9 rfl (lv_at hl 0 rfl) ?_
  refine lv_iconst (v := 0) hx hb dX9_init_10 (by decide) ?_
  refine va_put (D := (dC, dI)) (ci := 14) (v := .int 0) (ty := .int) (C := RX9) (T := TX9) (N := 6) hx hb hts iWX9 tyX9 tyX9_ok nmX9 hown hK hP hD hS 0 rfl rfl 1 (by decide) (hts (.fieldLink RX9 13 "Beaverhall$Tags" "length" "I") (by decide +kernel)) (fun _ h9 => h9) rfl (by decide +kernel) rfl rfl (Nat.le_of_ble_eq_true rfl) dX9_init_11 (fun H locs hP hD hS => ?_)
  have hP : va_P (dC, dI) vwCl [(ra, .inr (14, [.int 0, .int 0, .null, .null, .null, .null]))] H := hP
  have hD : va_D A [(ra, .inr (14, [.int 0, .int 0, .null, .null, .null, .null]))] := hD
  refine lv_aload_n hx hb dX9_init_14 rfl (lv_at hl 0 rfl) ?_
  refine lv_bipush (v := 40) hx hb dX9_init_15 (by decide) ?_
  refine va_newa (atype := .int) (ty := .int) (a0 := (40, .inl (fun _ => 0))) (N' := 40) hx hb (hts (.arrayClass .int) (by decide +kernel)) rfl hK hP hD hS hA (fun _ => rfl) (by decide) (by decide) (Nat.le_of_ble_eq_true rfl) (Nat.le_of_ble_eq_true rfl) (Nat.le_of_ble_eq_true rfl) dX9_init_17 (fun q_2 cA_1 H hK hP hD hS => ?_)
  have ecA_1 : cI = cA_1 := cA_one hK (i := 0) (j := 1) rfl rfl
  subst ecA_1
  have hK := hK.sub (tys' := [(cI, .int)]) [0] rfl
  have hP : va_P (dC, dI) vwCl [(ra, .inr (14, [.int 0, .int 0, .null, .null, .null, .null])), (q_2, .inl (cI, 40, .inl (fun _ => 0)))] H := hP
  have hD : va_D A [(ra, .inr (14, [.int 0, .int 0, .null, .null, .null, .null])), (q_2, .inl (cI, 40, .inl (fun _ => 0)))] := hD
  refine W.widen (k := 1) (n := 40) (Nat.le_of_ble_eq_true rfl) (Nat.le_of_ble_eq_true rfl) ?_
  refine va_putF (D := (dC, dI)) (ci := 14) (v := .ref q_2) (ty := .array .int) (C := RX9) (T := TX9) (N := 6) hx hb hts iWX9 tyX9 tyX9_ok nmX9 hown hK hP hD hS 0 rfl rfl 2 (by decide) (hts (.fieldLink RX9 16 "Beaverhall$Tags" "start" "[I") (by decide +kernel)) (fun _ h9 => h9) rfl hin rfl (by decide +kernel) rfl rfl (Nat.le_of_ble_eq_true rfl) dX9_init_19 (fun H locs hP hD hS => ?_)
  have hP : va_P (dC, dI) vwCl [(ra, .inr (14, [.int 0, .int 0, .ref q_2, .null, .null, .null])), (q_2, .inl (cI, 40, .inl (fun _ => 0)))] H := hP
  have hD : va_D A [(ra, .inr (14, [.int 0, .int 0, .ref q_2, .null, .null, .null])), (q_2, .inl (cI, 40, .inl (fun _ => 0)))] := hD
  refine lv_aload_n hx hb dX9_init_22 rfl (lv_at hl 0 rfl) ?_
  refine lv_bipush (v := 24) hx hb dX9_init_23 (by decide) ?_
  refine va_newa (atype := .int) (ty := .int) (a0 := (24, .inl (fun _ => 0))) (N' := 24) hx hb (hts (.arrayClass .int) (by decide +kernel)) rfl hK hP hD hS hA (fun _ => rfl) (by decide) (by decide) (Nat.le_of_ble_eq_true rfl) (Nat.le_of_ble_eq_true rfl) (Nat.le_of_ble_eq_true rfl) dX9_init_25 (fun q_4 cA_3 H hK hP hD hS => ?_)
  have ecA_3 : cI = cA_3 := cA_one hK (i := 0) (j := 1) rfl rfl
  subst ecA_3
  have hK := hK.sub (tys' := [(cI, .int)]) [0] rfl
  have hP : va_P (dC, dI) vwCl [(ra, .inr (14, [.int 0, .int 0, .ref q_2, .null, .null, .null])), (q_2, .inl (cI, 40, .inl (fun _ => 0))), (q_4, .inl (cI, 24, .inl (fun _ => 0)))] H := hP
  have hD : va_D A [(ra, .inr (14, [.int 0, .int 0, .ref q_2, .null, .null, .null])), (q_2, .inl (cI, 40, .inl (fun _ => 0))), (q_4, .inl (cI, 24, .inl (fun _ => 0)))] := hD
  refine W.widen (k := 2) (n := 64) (Nat.le_of_ble_eq_true rfl) (Nat.le_of_ble_eq_true rfl) ?_
  refine va_putF (D := (dC, dI)) (ci := 14) (v := .ref q_4) (ty := .array .int) (C := RX9) (T := TX9) (N := 6) hx hb hts iWX9 tyX9 tyX9_ok nmX9 hown hK hP hD hS 0 rfl rfl 3 (by decide) (hts (.fieldLink RX9 20 "Beaverhall$Tags" "rows" "[I") (by decide +kernel)) (fun _ h9 => h9) rfl hin rfl (by decide +kernel) rfl rfl (Nat.le_of_ble_eq_true rfl) dX9_init_27 (fun H locs hP hD hS => ?_)
  have hP : va_P (dC, dI) vwCl [(ra, .inr (14, [.int 0, .int 0, .ref q_2, .ref q_4, .null, .null])), (q_2, .inl (cI, 40, .inl (fun _ => 0))), (q_4, .inl (cI, 24, .inl (fun _ => 0)))] H := hP
  have hD : va_D A [(ra, .inr (14, [.int 0, .int 0, .ref q_2, .ref q_4, .null, .null])), (q_2, .inl (cI, 40, .inl (fun _ => 0))), (q_4, .inl (cI, 24, .inl (fun _ => 0)))] := hD
  refine lv_aload_n hx hb dX9_init_30 rfl (lv_at hl 0 rfl) ?_
  refine lv_iconst (v := 4) hx hb dX9_init_31 (by decide) ?_
  refine va_newa (atype := .int) (ty := .int) (a0 := (4, .inl (fun _ => 0))) (N' := 4) hx hb (hts (.arrayClass .int) (by decide +kernel)) rfl hK hP hD hS hA (fun _ => rfl) (by decide) (by decide) (Nat.le_of_ble_eq_true rfl) (Nat.le_of_ble_eq_true rfl) (Nat.le_of_ble_eq_true rfl) dX9_init_32 (fun q_6 cA_5 H hK hP hD hS => ?_)
  have ecA_5 : cI = cA_5 := cA_one hK (i := 0) (j := 1) rfl rfl
  subst ecA_5
  have hK := hK.sub (tys' := [(cI, .int)]) [0] rfl
  have hP : va_P (dC, dI) vwCl [(ra, .inr (14, [.int 0, .int 0, .ref q_2, .ref q_4, .null, .null])), (q_2, .inl (cI, 40, .inl (fun _ => 0))), (q_4, .inl (cI, 24, .inl (fun _ => 0))), (q_6, .inl (cI, 4, .inl (fun _ => 0)))] H := hP
  have hD : va_D A [(ra, .inr (14, [.int 0, .int 0, .ref q_2, .ref q_4, .null, .null])), (q_2, .inl (cI, 40, .inl (fun _ => 0))), (q_4, .inl (cI, 24, .inl (fun _ => 0))), (q_6, .inl (cI, 4, .inl (fun _ => 0)))] := hD
  refine W.widen (k := 3) (n := 68) (Nat.le_of_ble_eq_true rfl) (Nat.le_of_ble_eq_true rfl) ?_
  refine va_putF (D := (dC, dI)) (ci := 14) (v := .ref q_6) (ty := .array .int) (C := RX9) (T := TX9) (N := 6) hx hb hts iWX9 tyX9 tyX9_ok nmX9 hown hK hP hD hS 0 rfl rfl 4 (by decide) (hts (.fieldLink RX9 23 "Beaverhall$Tags" "rowLengths" "[I") (by decide +kernel)) (fun _ h9 => h9) rfl hin rfl (by decide +kernel) rfl rfl (Nat.le_of_ble_eq_true rfl) dX9_init_34 (fun H locs hP hD hS => ?_)
  have hP : va_P (dC, dI) vwCl [(ra, .inr (14, [.int 0, .int 0, .ref q_2, .ref q_4, .ref q_6, .null])), (q_2, .inl (cI, 40, .inl (fun _ => 0))), (q_4, .inl (cI, 24, .inl (fun _ => 0))), (q_6, .inl (cI, 4, .inl (fun _ => 0)))] H := hP
  have hD : va_D A [(ra, .inr (14, [.int 0, .int 0, .ref q_2, .ref q_4, .ref q_6, .null])), (q_2, .inl (cI, 40, .inl (fun _ => 0))), (q_4, .inl (cI, 24, .inl (fun _ => 0))), (q_6, .inl (cI, 4, .inl (fun _ => 0)))] := hD
  refine lv_aload_n hx hb dX9_init_37 rfl (lv_at hl 0 rfl) ?_
  refine lv_sipush (v := 400) hx hb dX9_init_38 (by decide) ?_
  refine va_newa (atype := .int) (ty := .int) (a0 := (400, .inl (fun _ => 0))) (N' := 400) hx hb (hts (.arrayClass .int) (by decide +kernel)) rfl hK hP hD hS hA (fun _ => rfl) (by decide) (by decide) (Nat.le_of_ble_eq_true rfl) (Nat.le_of_ble_eq_true rfl) (Nat.le_of_ble_eq_true rfl) dX9_init_41 (fun q_8 cA_7 H hK hP hD hS => ?_)
  have ecA_7 : cI = cA_7 := cA_one hK (i := 0) (j := 1) rfl rfl
  subst ecA_7
  have hK := hK.sub (tys' := [(cI, .int)]) [0] rfl
  have hP : va_P (dC, dI) vwCl [(ra, .inr (14, [.int 0, .int 0, .ref q_2, .ref q_4, .ref q_6, .null])), (q_2, .inl (cI, 40, .inl (fun _ => 0))), (q_4, .inl (cI, 24, .inl (fun _ => 0))), (q_6, .inl (cI, 4, .inl (fun _ => 0))), (q_8, .inl (cI, 400, .inl (fun _ => 0)))] H := hP
  have hD : va_D A [(ra, .inr (14, [.int 0, .int 0, .ref q_2, .ref q_4, .ref q_6, .null])), (q_2, .inl (cI, 40, .inl (fun _ => 0))), (q_4, .inl (cI, 24, .inl (fun _ => 0))), (q_6, .inl (cI, 4, .inl (fun _ => 0))), (q_8, .inl (cI, 400, .inl (fun _ => 0)))] := hD
  refine W.widen (k := 4) (n := 468) (Nat.le_of_ble_eq_true rfl) (Nat.le_of_ble_eq_true rfl) ?_
  refine va_putF (D := (dC, dI)) (ci := 14) (v := .ref q_8) (ty := .array .int) (C := RX9) (T := TX9) (N := 6) hx hb hts iWX9 tyX9 tyX9_ok nmX9 hown hK hP hD hS 0 rfl rfl 5 (by decide) (hts (.fieldLink RX9 26 "Beaverhall$Tags" "letters" "[I") (by decide +kernel)) (fun _ h9 => h9) rfl hin rfl (by decide +kernel) rfl rfl (Nat.le_of_ble_eq_true rfl) dX9_init_43 (fun H locs hP hD hS => ?_)
  have hP : va_P (dC, dI) vwCl [(ra, .inr (14, [.int 0, .int 0, .ref q_2, .ref q_4, .ref q_6, .ref q_8])), (q_2, .inl (cI, 40, .inl (fun _ => 0))), (q_4, .inl (cI, 24, .inl (fun _ => 0))), (q_6, .inl (cI, 4, .inl (fun _ => 0))), (q_8, .inl (cI, 400, .inl (fun _ => 0)))] H := hP
  have hD : va_D A [(ra, .inr (14, [.int 0, .int 0, .ref q_2, .ref q_4, .ref q_6, .ref q_8])), (q_2, .inl (cI, 40, .inl (fun _ => 0))), (q_4, .inl (cI, 24, .inl (fun _ => 0))), (q_6, .inl (cI, 4, .inl (fun _ => 0))), (q_8, .inl (cI, 400, .inl (fun _ => 0)))] := hD
  have hP9 := hP.sub (ws' := [(ra, .inr (14, [.int 0, .int 0, .ref q_2, .ref q_4, .ref q_6, .ref q_8])), (q_2, .inl (cI, 40, .inl (fun _ => 0))), (q_4, .inl (cI, 24, .inl (fun _ => 0))), (q_6, .inl (cI, 4, .inl (fun _ => 0))), (q_8, .inl (cI, 400, .inl (fun _ => 0)))]) [0, 1, 2, 3, 4] rfl
  have hD9 := hD.sub (ws' := [(ra, .inr (14, [.int 0, .int 0, .ref q_2, .ref q_4, .ref q_6, .ref q_8])), (q_2, .inl (cI, 40, .inl (fun _ => 0))), (q_4, .inl (cI, 24, .inl (fun _ => 0))), (q_6, .inl (cI, 4, .inl (fun _ => 0))), (q_8, .inl (cI, 400, .inl (fun _ => 0)))]) [0, 1, 2, 3, 4] (by decide) rfl
  have hK9 := hK.sub (tys' := [(cI, .int)]) [0] rfl
  exact W.vret hx hb hr (fun t ht hW => ⟨⟨(q_2, q_4, q_6, q_8), rfl, trivial, ⟨by rw [ht]; exact hP9, va_K.moved hW.alike hK9, hD9⟩⟩, hS.F ht⟩) hS.2.2 dX9_init_46

set_option maxHeartbeats 4000000 in
set_option maxRecDepth 100000 in
/-- X1_init -/
theorem c_X1_init (l : Launch) (dC : Nat → ClassId) (dI : Nat → Nat → Nat) (cI : ClassId) (ra : Nat) (sz : Nat) : Met l yX1_init wsX1_init ({ frames := 1, cells := 2, slots := 20, locals := 24 }) (va_Pc [.ref ra] (cPC dC dI [(ra, .inr (6, [.int 0, .int 0, .int 0, .long 0, .null, .null]))] [(cI, .int)] sz)) (va_Qv (fun (u : Nat × Nat) => True) (fun (u : Nat × Nat) t => cQB dC dI [(ra, .inr (6, [.int 0, .int 0, .int 0, .long 0, .ref u.1, .ref u.2])), (u.1, .inl (cI, 10, .inl (fun _ => 0))), (u.2, .inl (cI, 10, .inl (fun _ => 0)))] [(cI, .int)] (va_A [(ra, .inr (6, [.int 0, .int 0, .int 0, .long 0, .null, .null]))] sz) t) (va_A [(ra, .inr (6, [.int 0, .int 0, .int 0, .long 0, .null, .null]))] sz)) 2 20 (va_A [(ra, .inr (6, [.int 0, .int 0, .int 0, .long 0, .null, .null]))] sz) := by
  refine Met.ofW (cc := cX1_init) (maxL := 1) (ret := none) (by decide) rfl ?_
  intro p e s m args below meth c s₁ B hml hv
  obtain ⟨rfl, hsz, hP, hK, hD0, hN⟩ := hv
  have hx := B.exec
  have hb := B.bytes
  have hr := B.returns
  have hts := atoms_spec (ws := wsX1_init) B.pre
  have hown : s.vm.findClass RX1 = some m.cls := findClass_of_methodNamed B.named
  have hlocks := B.notSynchronized
  have hin : meth.name = "<init>" := (name_of_methodNamed B.named B.method).1
  subst hsz
  have hD := hD0.self (sz := s.heap.size)
  generalize hAe : va_A [(ra, .inr (6, [.int 0, .int 0, .int 0, .long 0, .null, .null]))] s.heap.size = A at hD ⊢
  have hA : ∀ q : Nat, s.heap.size ≤ q → A q := fun q h => by rw [← hAe]; exact Or.inr h
  have hS : va_S A s.heap s.heap [] := va_S.rf
  have hP : va_P (dC, dI) vwCl [(ra, .inr (6, [.int 0, .int 0, .int 0, .long 0, .null, .null]))] s.heap := hP
  have hD : va_D A [(ra, .inr (6, [.int 0, .int 0, .int 0, .long 0, .null, .null]))] := hD
  have hl := lv_entry ([.ref ra]) (n := 1) (Nat.le_of_ble_eq_true rfl)
  rw [lg_entry_eq]
  generalize (lg_sl ([.ref ra]) ++ List.replicate (1 - (lg_sl ([.ref ra])).length) Slot.unset).toArray = ls at hl ⊢
  have hl : lv_has ls 1 [(0, .ref ra)] := hl
  have iWX1 : ∀ w ∈ u_ws RX1 TX1 6, w ∈ wsX1_init := by decide +kernel
  refine lv_aload_n hx hb dX1_init_0 rfl (lv_at hl 0 rfl) ?_
  refine W.objInit hx hb hown (hts (.methodLink RX1 1 Lib.objectInit) (by decide +kernel)) (hts (.instanceMethod Lib.objectInit) (by decide +kernel)) (hts (.code Lib.objectInit ⟨#[0xb1]⟩ 1 none) (by decide +kernel)) rfl (by rw [hml]; exact hl.1) rfl dX1_init_1 (Nat.le_of_ble_eq_true rfl) (Nat.le_of_ble_eq_true rfl) ?_
  refine W.eq (g2 := F0 m 4 ls []) rfl ?_
  refine lv_aload_n hx hb dX1_init_4 rfl (lv_at hl 0 rfl) ?_
  refine lv_iconst (v := 0) hx hb dX1_init_5 (by decide) ?_
  refine va_put (D := (dC, dI)) (ci := 6) (v := .int 0) (ty := .int) (C := RX1) (T := TX1) (N := 6) hx hb hts iWX1 tyX1 tyX1_ok nmX1 hown hK hP hD hS 0 rfl rfl 0 (by decide) (hts (.fieldLink RX1 7 "Beaverhall$FractionWalk" "size" "I") (by decide +kernel)) (fun _ h9 => h9) rfl (by decide +kernel) rfl rfl (Nat.le_of_ble_eq_true rfl) dX1_init_6 (fun H locs hP hD hS => ?_)
  have hP : va_P (dC, dI) vwCl [(ra, .inr (6, [.int 0, .int 0, .int 0, .long 0, .null, .null]))] H := hP
  have hD : va_D A [(ra, .inr (6, [.int 0, .int 0, .int 0, .long 0, .null, .null]))] := hD
  refine lv_aload_n hx hb dX1_init_9 rfl (lv_at hl 0 rfl) ?_
  refine lv_iconst (v := 0) hx hb dX1_init_10 (by decide) ?_
  refine va_put (D := (dC, dI)) (ci := 6) (v := .int 0) (ty := .int) (C := RX1) (T := TX1) (N := 6) hx hb hts iWX1 tyX1 tyX1_ok nmX1 hown hK hP hD hS 0 rfl rfl 1 (by decide) (hts (.fieldLink RX1 13 "Beaverhall$FractionWalk" "steps" "I") (by decide +kernel)) (fun _ h9 => h9) rfl (by decide +kernel) rfl rfl (Nat.le_of_ble_eq_true rfl) dX1_init_11 (fun H locs hP hD hS => ?_)
  have hP : va_P (dC, dI) vwCl [(ra, .inr (6, [.int 0, .int 0, .int 0, .long 0, .null, .null]))] H := hP
  have hD : va_D A [(ra, .inr (6, [.int 0, .int 0, .int 0, .long 0, .null, .null]))] := hD
  refine lv_aload_n hx hb dX1_init_14 rfl (lv_at hl 0 rfl) ?_
  refine lv_iconst (v := 0) hx hb dX1_init_15 (by decide) ?_
  refine va_put (D := (dC, dI)) (ci := 6) (v := .int 0) (ty := .boolean) (C := RX1) (T := TX1) (N := 6) hx hb hts iWX1 tyX1 tyX1_ok nmX1 hown hK hP hD hS 0 rfl rfl 2 (by decide) (hts (.fieldLink RX1 16 "Beaverhall$FractionWalk" "hasEnded" "Z") (by decide +kernel)) (fun _ h9 => h9) rfl (by decide +kernel) rfl rfl (Nat.le_of_ble_eq_true rfl) dX1_init_16 (fun H locs hP hD hS => ?_)
  have hP : va_P (dC, dI) vwCl [(ra, .inr (6, [.int 0, .int 0, .int 0, .long 0, .null, .null]))] H := hP
  have hD : va_D A [(ra, .inr (6, [.int 0, .int 0, .int 0, .long 0, .null, .null]))] := hD
  refine lv_aload_n hx hb dX1_init_19 rfl (lv_at hl 0 rfl) ?_
  refine lv_lconst (v := 0) hx hb dX1_init_20 (by decide) ?_
  refine va_put (D := (dC, dI)) (ci := 6) (v := .long 0) (ty := .long) (C := RX1) (T := TX1) (N := 6) hx hb hts iWX1 tyX1 tyX1_ok nmX1 hown hK hP hD hS 0 rfl rfl 3 (by decide) (hts (.fieldLink RX1 20 "Beaverhall$FractionWalk" "number" "J") (by decide +kernel)) (fun _ h9 => h9) rfl (by decide +kernel) rfl rfl (Nat.le_of_ble_eq_true rfl) dX1_init_21 (fun H locs hP hD hS => ?_)
  have hP : va_P (dC, dI) vwCl [(ra, .inr (6, [.int 0, .int 0, .int 0, .long 0, .null, .null]))] H := hP
  have hD : va_D A [(ra, .inr (6, [.int 0, .int 0, .int 0, .long 0, .null, .null]))] := hD
  refine lv_aload_n hx hb dX1_init_24 rfl (lv_at hl 0 rfl) ?_
  refine lv_bipush (v := 10) hx hb dX1_init_25 (by decide) ?_
  refine va_newa (atype := .int) (ty := .int) (a0 := (10, .inl (fun _ => 0))) (N' := 10) hx hb (hts (.arrayClass .int) (by decide +kernel)) rfl hK hP hD hS hA (fun _ => rfl) (by decide) (by decide) (Nat.le_of_ble_eq_true rfl) (Nat.le_of_ble_eq_true rfl) (Nat.le_of_ble_eq_true rfl) dX1_init_27 (fun q_2 cA_1 H hK hP hD hS => ?_)
  have ecA_1 : cI = cA_1 := cA_one hK (i := 0) (j := 1) rfl rfl
  subst ecA_1
  have hK := hK.sub (tys' := [(cI, .int)]) [0] rfl
  have hP : va_P (dC, dI) vwCl [(ra, .inr (6, [.int 0, .int 0, .int 0, .long 0, .null, .null])), (q_2, .inl (cI, 10, .inl (fun _ => 0)))] H := hP
  have hD : va_D A [(ra, .inr (6, [.int 0, .int 0, .int 0, .long 0, .null, .null])), (q_2, .inl (cI, 10, .inl (fun _ => 0)))] := hD
  refine W.widen (k := 1) (n := 10) (Nat.le_of_ble_eq_true rfl) (Nat.le_of_ble_eq_true rfl) ?_
  refine va_putF (D := (dC, dI)) (ci := 6) (v := .ref q_2) (ty := .array .int) (C := RX1) (T := TX1) (N := 6) hx hb hts iWX1 tyX1 tyX1_ok nmX1 hown hK hP hD hS 0 rfl rfl 4 (by decide) (hts (.fieldLink RX1 24 "Beaverhall$FractionWalk" "overs" "[I") (by decide +kernel)) (fun _ h9 => h9) rfl hin rfl (by decide +kernel) rfl rfl (Nat.le_of_ble_eq_true rfl) dX1_init_29 (fun H locs hP hD hS => ?_)
  have hP : va_P (dC, dI) vwCl [(ra, .inr (6, [.int 0, .int 0, .int 0, .long 0, .ref q_2, .null])), (q_2, .inl (cI, 10, .inl (fun _ => 0)))] H := hP
  have hD : va_D A [(ra, .inr (6, [.int 0, .int 0, .int 0, .long 0, .ref q_2, .null])), (q_2, .inl (cI, 10, .inl (fun _ => 0)))] := hD
  refine lv_aload_n hx hb dX1_init_32 rfl (lv_at hl 0 rfl) ?_
  refine lv_bipush (v := 10) hx hb dX1_init_33 (by decide) ?_
  refine va_newa (atype := .int) (ty := .int) (a0 := (10, .inl (fun _ => 0))) (N' := 10) hx hb (hts (.arrayClass .int) (by decide +kernel)) rfl hK hP hD hS hA (fun _ => rfl) (by decide) (by decide) (Nat.le_of_ble_eq_true rfl) (Nat.le_of_ble_eq_true rfl) (Nat.le_of_ble_eq_true rfl) dX1_init_35 (fun q_4 cA_3 H hK hP hD hS => ?_)
  have ecA_3 : cI = cA_3 := cA_one hK (i := 0) (j := 1) rfl rfl
  subst ecA_3
  have hK := hK.sub (tys' := [(cI, .int)]) [0] rfl
  have hP : va_P (dC, dI) vwCl [(ra, .inr (6, [.int 0, .int 0, .int 0, .long 0, .ref q_2, .null])), (q_2, .inl (cI, 10, .inl (fun _ => 0))), (q_4, .inl (cI, 10, .inl (fun _ => 0)))] H := hP
  have hD : va_D A [(ra, .inr (6, [.int 0, .int 0, .int 0, .long 0, .ref q_2, .null])), (q_2, .inl (cI, 10, .inl (fun _ => 0))), (q_4, .inl (cI, 10, .inl (fun _ => 0)))] := hD
  refine W.widen (k := 2) (n := 20) (Nat.le_of_ble_eq_true rfl) (Nat.le_of_ble_eq_true rfl) ?_
  refine va_putF (D := (dC, dI)) (ci := 6) (v := .ref q_4) (ty := .array .int) (C := RX1) (T := TX1) (N := 6) hx hb hts iWX1 tyX1 tyX1_ok nmX1 hown hK hP hD hS 0 rfl rfl 5 (by decide) (hts (.fieldLink RX1 28 "Beaverhall$FractionWalk" "unders" "[I") (by decide +kernel)) (fun _ h9 => h9) rfl hin rfl (by decide +kernel) rfl rfl (Nat.le_of_ble_eq_true rfl) dX1_init_37 (fun H locs hP hD hS => ?_)
  have hP : va_P (dC, dI) vwCl [(ra, .inr (6, [.int 0, .int 0, .int 0, .long 0, .ref q_2, .ref q_4])), (q_2, .inl (cI, 10, .inl (fun _ => 0))), (q_4, .inl (cI, 10, .inl (fun _ => 0)))] H := hP
  have hD : va_D A [(ra, .inr (6, [.int 0, .int 0, .int 0, .long 0, .ref q_2, .ref q_4])), (q_2, .inl (cI, 10, .inl (fun _ => 0))), (q_4, .inl (cI, 10, .inl (fun _ => 0)))] := hD
  have hP9 := hP.sub (ws' := [(ra, .inr (6, [.int 0, .int 0, .int 0, .long 0, .ref q_2, .ref q_4])), (q_2, .inl (cI, 10, .inl (fun _ => 0))), (q_4, .inl (cI, 10, .inl (fun _ => 0)))]) [0, 1, 2] rfl
  have hD9 := hD.sub (ws' := [(ra, .inr (6, [.int 0, .int 0, .int 0, .long 0, .ref q_2, .ref q_4])), (q_2, .inl (cI, 10, .inl (fun _ => 0))), (q_4, .inl (cI, 10, .inl (fun _ => 0)))]) [0, 1, 2] (by decide) rfl
  have hK9 := hK.sub (tys' := [(cI, .int)]) [0] rfl
  exact W.vret hx hb hr (fun t ht hW => ⟨⟨(q_2, q_4), rfl, trivial, ⟨by rw [ht]; exact hP9, va_K.moved hW.alike hK9, hD9⟩⟩, hS.F ht⟩) hS.2.2 dX1_init_40

set_option maxHeartbeats 4000000 in
set_option maxRecDepth 100000 in
/-- X3_init -/
theorem c_X3_init (l : Launch) (dC : Nat → ClassId) (dI : Nat → Nat → Nat) (cI : ClassId) (ra : Nat) (sz : Nat) : Met l yX3_init wsX3_init ({ frames := 3, cells := 10, slots := 2094, locals := 67 }) (va_Pc [.ref ra] (cPC dC dI [(ra, .inr (8, [.null, .int 0, .int 0, .int 0, .int 0, .int 0, .int 0, .int 0, .null]))] [(cI, .int)] sz)) (va_Qv (fun (u : Nat × Nat × Nat × Nat × Nat × Nat × Nat × Nat × Nat × Nat) => True) (fun (u : Nat × Nat × Nat × Nat × Nat × Nat × Nat × Nat × Nat × Nat) t => cQB dC dI [(ra, .inr (8, [.ref u.1, .int 0, .int 0, .int 0, .int 0, .int 0, .int 0, .int 0, .ref u.2.2.2.2.2.1])), (u.1, .inr (10, [.int 0, .int 2, .int 2, .ref u.2.1, .int 0, .int 0, .int 63, .int 0, .int 0, .ref u.2.2.2.1, .ref u.2.2.2.2.1])), (u.2.1, .inr (12, [.int 0, .int 0, .int 0, .int 0, .int 0, .int 0, .ref u.2.2.1])), (u.2.2.1, .inl (cI, 1001, .inl (fun _ => 0))), (u.2.2.2.1, .inl (cI, 24, .inl (fun _ => 0))), (u.2.2.2.2.1, .inl (cI, 4, .inl (fun _ => 0))), (u.2.2.2.2.2.1, .inr (10, [.int 0, .int 2, .int 2, .ref u.2.2.2.2.2.2.1, .int 0, .int 0, .int 63, .int 0, .int 0, .ref u.2.2.2.2.2.2.2.2.1, .ref u.2.2.2.2.2.2.2.2.2])), (u.2.2.2.2.2.2.1, .inr (12, [.int 0, .int 0, .int 0, .int 0, .int 0, .int 0, .ref u.2.2.2.2.2.2.2.1])), (u.2.2.2.2.2.2.2.1, .inl (cI, 1001, .inl (fun _ => 0))), (u.2.2.2.2.2.2.2.2.1, .inl (cI, 24, .inl (fun _ => 0))), (u.2.2.2.2.2.2.2.2.2, .inl (cI, 4, .inl (fun _ => 0)))] [(cI, .int)] (va_A [(ra, .inr (8, [.null, .int 0, .int 0, .int 0, .int 0, .int 0, .int 0, .int 0, .null]))] sz) t) (va_A [(ra, .inr (8, [.null, .int 0, .int 0, .int 0, .int 0, .int 0, .int 0, .int 0, .null]))] sz)) 10 2094 (va_A [(ra, .inr (8, [.null, .int 0, .int 0, .int 0, .int 0, .int 0, .int 0, .int 0, .null]))] sz) := by
  refine Met.ofW (cc := cX3_init) (maxL := 1) (ret := none) (by decide) rfl ?_
  intro p e s m args below meth c s₁ B hml hv
  obtain ⟨rfl, hsz, hP, hK, hD0, hN⟩ := hv
  have hx := B.exec
  have hb := B.bytes
  have hr := B.returns
  have hts := atoms_spec (ws := wsX3_init) B.pre
  have hown : s.vm.findClass RX3 = some m.cls := findClass_of_methodNamed B.named
  have hlocks := B.notSynchronized
  have hin : meth.name = "<init>" := (name_of_methodNamed B.named B.method).1
  subst hsz
  have hD := hD0.self (sz := s.heap.size)
  generalize hAe : va_A [(ra, .inr (8, [.null, .int 0, .int 0, .int 0, .int 0, .int 0, .int 0, .int 0, .null]))] s.heap.size = A at hD ⊢
  have hA : ∀ q : Nat, s.heap.size ≤ q → A q := fun q h => by rw [← hAe]; exact Or.inr h
  have hS : va_S A s.heap s.heap [] := va_S.rf
  have hP : va_P (dC, dI) vwCl [(ra, .inr (8, [.null, .int 0, .int 0, .int 0, .int 0, .int 0, .int 0, .int 0, .null]))] s.heap := hP
  have hD : va_D A [(ra, .inr (8, [.null, .int 0, .int 0, .int 0, .int 0, .int 0, .int 0, .int 0, .null]))] := hD
  have hl := lv_entry ([.ref ra]) (n := 1) (Nat.le_of_ble_eq_true rfl)
  rw [lg_entry_eq]
  generalize (lg_sl ([.ref ra]) ++ List.replicate (1 - (lg_sl ([.ref ra])).length) Slot.unset).toArray = ls at hl ⊢
  have hl : lv_has ls 1 [(0, .ref ra)] := hl
  have iWX3 : ∀ w ∈ u_ws RX3 TX3 9, w ∈ wsX3_init := by decide +kernel
  have iWX5 : ∀ w ∈ u_ws RX5 TX5 11, w ∈ wsX3_init := by decide +kernel
  refine lv_aload_n hx hb dX3_init_0 rfl (lv_at hl 0 rfl) ?_
  refine W.objInit hx hb hown (hts (.methodLink RX3 3 Lib.objectInit) (by decide +kernel)) (hts (.instanceMethod Lib.objectInit) (by decide +kernel)) (hts (.code Lib.objectInit ⟨#[0xb1]⟩ 1 none) (by decide +kernel)) rfl (by rw [hml]; exact hl.1) rfl dX3_init_1 (Nat.le_of_ble_eq_true rfl) (Nat.le_of_ble_eq_true rfl) ?_
  refine W.eq (g2 := F0 m 4 ls []) rfl ?_
  refine lv_aload_n hx hb dX3_init_4 rfl (lv_at hl 0 rfl) ?_
  refine va_new (ci := 10) (fs := [.int 0, .int 0, .int 0, .null, .int 0, .int 0, .int 0, .int 0, .int 0, .null, .null]) (C := RX5) (T := TX5) (N := 11) hx hb hts iWX5 tyX5 tyX5_ok hown (hts (.classLink RX3 9 RX5) (by decide +kernel)) (hts (.instantiable RX5 11) (by decide +kernel)) (hts (.initialized RX5) (by decide +kernel)) hK hP hD hS hA rfl (fun j hj => by rcases (show j = 0 ∨ j = 1 ∨ j = 2 ∨ j = 3 ∨ j = 4 ∨ j = 5 ∨ j = 6 ∨ j = 7 ∨ j = 8 ∨ j = 9 ∨ j = 10 by omega) with rfl | rfl | rfl | rfl | rfl | rfl | rfl | rfl | rfl | rfl | rfl <;> rfl) (Nat.le_of_ble_eq_true rfl) (Nat.le_of_ble_eq_true rfl) dX3_init_5 (fun q_1 H hP hD hS => ?_)
  have hP : va_P (dC, dI) vwCl [(ra, .inr (8, [.null, .int 0, .int 0, .int 0, .int 0, .int 0, .int 0, .int 0, .null])), (q_1, .inr (10, [.int 0, .int 0, .int 0, .null, .int 0, .int 0, .int 0, .int 0, .int 0, .null, .null]))] H := hP
  have hD : va_D A [(ra, .inr (8, [.null, .int 0, .int 0, .int 0, .int 0, .int 0, .int 0, .int 0, .null])), (q_1, .inr (10, [.int 0, .int 0, .int 0, .null, .int 0, .int 0, .int 0, .int 0, .int 0, .null, .null]))] := hD
  refine W.widen (k := 1) (n := 11) (Nat.le_of_ble_eq_true rfl) (Nat.le_of_ble_eq_true rfl) ?_
  refine lv_dup hx hb dX3_init_8 rfl ?_
  refine lv_iconst (v := 0) hx hb dX3_init_9 (by decide) ?_
  refine lv_iconst (v := 2) hx hb dX3_init_10 (by decide) ?_
  refine lv_iconst (v := 2) hx hb dX3_init_11 (by decide) ?_
  have hPc := hP.sub (ws' := [(q_1, .inr (10, [.int 0, .int 0, .int 0, .null, .int 0, .int 0, .int 0, .int 0, .int 0, .null, .null]))]) [1] rfl
  have hDc := hD.sub (ws' := [(q_1, .inr (10, [.int 0, .int 0, .int 0, .null, .int 0, .int 0, .int 0, .int 0, .int 0, .null, .null]))]) [1] (by decide) rfl
  have hKc := hK.sub (tys' := [(cI, .int)]) [0] rfl
  have hFc := va_free (wc := [(q_1, .inr (10, [.int 0, .int 0, .int 0, .null, .int 0, .int 0, .int 0, .int 0, .int 0, .null, .null]))]) hD hS hA [1] rfl
  refine va_callv (va_runI (As := [.int 0, .int 2, .int 2]) (rest := [.ref q_1, .ref ra]) ⟨hx, hb, hml, hown, hts⟩ (c_X5_init l dC dI cI q_1 0 2 2 (by decide) H.size) (cwI 3 hts gX3_init_X5_init rfl rfl rfl (hts (.initialized RX5) (by decide +kernel)) (hts (.methodLink RX3 13 yX5_init) (by decide +kernel)) (hts (.instanceMethod yX5_init) (by decide +kernel)) rfl (by decide +kernel) ⟨Nat.le_of_ble_eq_true rfl, Nat.le_of_ble_eq_true rfl⟩) (pcS hPc hDc hKc hN) rfl rfl hl.1 rfl (lv_room (Nat.le_of_ble_eq_true rfl)) dX3_init_12 ⟨Nat.le_of_ble_eq_true rfl, Nat.le_of_ble_eq_true rfl⟩) hS (fun q _ h => hFc q h) hFc (fun u t H1 locs ht hvm hw_6 hB hz1 hk1 hS => ?_)
  obtain ⟨q_2, q_3, q_4, q_5⟩ := u
  obtain ⟨hP1, hK1, hD1⟩ := hB
  rw [ht] at hP1
  try dsimp only at hw_6
  obtain ⟨hP, hD⟩ := va_join (wr := [(ra, .inr (8, [.null, .int 0, .int 0, .int 0, .int 0, .int 0, .int 0, .int 0, .null]))]) (w1 := [(q_1, .inr (10, [.int 0, .int 2, .int 2, .ref q_2, .int 0, .int 0, .int 63, .int 0, .int 0, .ref q_4, .ref q_5])), (q_2, .inr (12, [.int 0, .int 0, .int 0, .int 0, .int 0, .int 0, .ref q_3])), (q_3, .inl (cI, 1001, .inl (fun _ => 0))), (q_4, .inl (cI, 24, .inl (fun _ => 0))), (q_5, .inl (cI, 4, .inl (fun _ => 0)))]) hP hD [1] [0] rfl rfl (by decide) (by decide) hk1 hFc hP1 hD1
  generalize H1 = H at hP hS ⊢
  have hP : va_P (dC, dI) vwCl [(ra, .inr (8, [.null, .int 0, .int 0, .int 0, .int 0, .int 0, .int 0, .int 0, .null])), (q_1, .inr (10, [.int 0, .int 2, .int 2, .ref q_2, .int 0, .int 0, .int 63, .int 0, .int 0, .ref q_4, .ref q_5])), (q_2, .inr (12, [.int 0, .int 0, .int 0, .int 0, .int 0, .int 0, .ref q_3])), (q_3, .inl (cI, 1001, .inl (fun _ => 0))), (q_4, .inl (cI, 24, .inl (fun _ => 0))), (q_5, .inl (cI, 4, .inl (fun _ => 0)))] H := hP
  have hD : va_D A [(ra, .inr (8, [.null, .int 0, .int 0, .int 0, .int 0, .int 0, .int 0, .int 0, .null])), (q_1, .inr (10, [.int 0, .int 2, .int 2, .ref q_2, .int 0, .int 0, .int 63, .int 0, .int 0, .ref q_4, .ref q_5])), (q_2, .inr (12, [.int 0, .int 0, .int 0, .int 0, .int 0, .int 0, .ref q_3])), (q_3, .inl (cI, 1001, .inl (fun _ => 0))), (q_4, .inl (cI, 24, .inl (fun _ => 0))), (q_5, .inl (cI, 4, .inl (fun _ => 0)))] := hD
  refine W.widen (k := 5) (n := 1047) (Nat.le_of_ble_eq_true rfl) (Nat.le_of_ble_eq_true rfl) ?_
  refine va_putF (D := (dC, dI)) (ci := 8) (v := .ref q_1) (ty := .object "Beaverhall$Machine") (C := RX3) (T := TX3) (N := 9) hx hb hts iWX3 tyX3 tyX3_ok nmX3 hown hK hP hD hS 0 rfl rfl 0 (by decide) (hts (.fieldLink RX3 16 "Beaverhall$Listing" "best" "LBeaverhall$Machine;") (by decide +kernel)) (fun _ h9 => h9) rfl hin rfl (by decide +kernel) rfl rfl (Nat.le_of_ble_eq_true rfl) dX3_init_15 (fun H locs hP hD hS => ?_)
  have hP : va_P (dC, dI) vwCl [(ra, .inr (8, [.ref q_1, .int 0, .int 0, .int 0, .int 0, .int 0, .int 0, .int 0, .null])), (q_1, .inr (10, [.int 0, .int 2, .int 2, .ref q_2, .int 0, .int 0, .int 63, .int 0, .int 0, .ref q_4, .ref q_5])), (q_2, .inr (12, [.int 0, .int 0, .int 0, .int 0, .int 0, .int 0, .ref q_3])), (q_3, .inl (cI, 1001, .inl (fun _ => 0))), (q_4, .inl (cI, 24, .inl (fun _ => 0))), (q_5, .inl (cI, 4, .inl (fun _ => 0)))] H := hP
  have hD : va_D A [(ra, .inr (8, [.ref q_1, .int 0, .int 0, .int 0, .int 0, .int 0, .int 0, .int 0, .null])), (q_1, .inr (10, [.int 0, .int 2, .int 2, .ref q_2, .int 0, .int 0, .int 63, .int 0, .int 0, .ref q_4, .ref q_5])), (q_2, .inr (12, [.int 0, .int 0, .int 0, .int 0, .int 0, .int 0, .ref q_3])), (q_3, .inl (cI, 1001, .inl (fun _ => 0))), (q_4, .inl (cI, 24, .inl (fun _ => 0))), (q_5, .inl (cI, 4, .inl (fun _ => 0)))] := hD
  refine lv_aload_n hx hb dX3_init_18 rfl (lv_at hl 0 rfl) ?_
  refine lv_iconst (v := 0) hx hb dX3_init_19 (by decide) ?_
  refine va_put (D := (dC, dI)) (ci := 8) (v := .int 0) (ty := .int) (C := RX3) (T := TX3) (N := 9) hx hb hts iWX3 tyX3 tyX3_ok nmX3 hown hK hP hD hS 0 rfl rfl 1 (by decide) (hts (.fieldLink RX3 20 "Beaverhall$Listing" "halting" "I") (by decide +kernel)) (fun _ h9 => h9) rfl (by decide +kernel) rfl rfl (Nat.le_of_ble_eq_true rfl) dX3_init_20 (fun H locs hP hD hS => ?_)
  have hP : va_P (dC, dI) vwCl [(ra, .inr (8, [.ref q_1, .int 0, .int 0, .int 0, .int 0, .int 0, .int 0, .int 0, .null])), (q_1, .inr (10, [.int 0, .int 2, .int 2, .ref q_2, .int 0, .int 0, .int 63, .int 0, .int 0, .ref q_4, .ref q_5])), (q_2, .inr (12, [.int 0, .int 0, .int 0, .int 0, .int 0, .int 0, .ref q_3])), (q_3, .inl (cI, 1001, .inl (fun _ => 0))), (q_4, .inl (cI, 24, .inl (fun _ => 0))), (q_5, .inl (cI, 4, .inl (fun _ => 0)))] H := hP
  have hD : va_D A [(ra, .inr (8, [.ref q_1, .int 0, .int 0, .int 0, .int 0, .int 0, .int 0, .int 0, .null])), (q_1, .inr (10, [.int 0, .int 2, .int 2, .ref q_2, .int 0, .int 0, .int 63, .int 0, .int 0, .ref q_4, .ref q_5])), (q_2, .inr (12, [.int 0, .int 0, .int 0, .int 0, .int 0, .int 0, .ref q_3])), (q_3, .inl (cI, 1001, .inl (fun _ => 0))), (q_4, .inl (cI, 24, .inl (fun _ => 0))), (q_5, .inl (cI, 4, .inl (fun _ => 0)))] := hD
  refine lv_aload_n hx hb dX3_init_23 rfl (lv_at hl 0 rfl) ?_
  refine lv_iconst (v := 0) hx hb dX3_init_24 (by decide) ?_
  refine va_put (D := (dC, dI)) (ci := 8) (v := .int 0) (ty := .int) (C := RX3) (T := TX3) (N := 9) hx hb hts iWX3 tyX3 tyX3_ok nmX3 hown hK hP hD hS 0 rfl rfl 2 (by decide) (hts (.fieldLink RX3 24 "Beaverhall$Listing" "endless" "I") (by decide +kernel)) (fun _ h9 => h9) rfl (by decide +kernel) rfl rfl (Nat.le_of_ble_eq_true rfl) dX3_init_25 (fun H locs hP hD hS => ?_)
  have hP : va_P (dC, dI) vwCl [(ra, .inr (8, [.ref q_1, .int 0, .int 0, .int 0, .int 0, .int 0, .int 0, .int 0, .null])), (q_1, .inr (10, [.int 0, .int 2, .int 2, .ref q_2, .int 0, .int 0, .int 63, .int 0, .int 0, .ref q_4, .ref q_5])), (q_2, .inr (12, [.int 0, .int 0, .int 0, .int 0, .int 0, .int 0, .ref q_3])), (q_3, .inl (cI, 1001, .inl (fun _ => 0))), (q_4, .inl (cI, 24, .inl (fun _ => 0))), (q_5, .inl (cI, 4, .inl (fun _ => 0)))] H := hP
  have hD : va_D A [(ra, .inr (8, [.ref q_1, .int 0, .int 0, .int 0, .int 0, .int 0, .int 0, .int 0, .null])), (q_1, .inr (10, [.int 0, .int 2, .int 2, .ref q_2, .int 0, .int 0, .int 63, .int 0, .int 0, .ref q_4, .ref q_5])), (q_2, .inr (12, [.int 0, .int 0, .int 0, .int 0, .int 0, .int 0, .ref q_3])), (q_3, .inl (cI, 1001, .inl (fun _ => 0))), (q_4, .inl (cI, 24, .inl (fun _ => 0))), (q_5, .inl (cI, 4, .inl (fun _ => 0)))] := hD
  refine lv_aload_n hx hb dX3_init_28 rfl (lv_at hl 0 rfl) ?_
  refine lv_iconst (v := 0) hx hb dX3_init_29 (by decide) ?_
  refine va_put (D := (dC, dI)) (ci := 8) (v := .int 0) (ty := .int) (C := RX3) (T := TX3) (N := 9) hx hb hts iWX3 tyX3 tyX3_ok nmX3 hown hK hP hD hS 0 rfl rfl 3 (by decide) (hts (.fieldLink RX3 27 "Beaverhall$Listing" "open" "I") (by decide +kernel)) (fun _ h9 => h9) rfl (by decide +kernel) rfl rfl (Nat.le_of_ble_eq_true rfl) dX3_init_30 (fun H locs hP hD hS => ?_)
  have hP : va_P (dC, dI) vwCl [(ra, .inr (8, [.ref q_1, .int 0, .int 0, .int 0, .int 0, .int 0, .int 0, .int 0, .null])), (q_1, .inr (10, [.int 0, .int 2, .int 2, .ref q_2, .int 0, .int 0, .int 63, .int 0, .int 0, .ref q_4, .ref q_5])), (q_2, .inr (12, [.int 0, .int 0, .int 0, .int 0, .int 0, .int 0, .ref q_3])), (q_3, .inl (cI, 1001, .inl (fun _ => 0))), (q_4, .inl (cI, 24, .inl (fun _ => 0))), (q_5, .inl (cI, 4, .inl (fun _ => 0)))] H := hP
  have hD : va_D A [(ra, .inr (8, [.ref q_1, .int 0, .int 0, .int 0, .int 0, .int 0, .int 0, .int 0, .null])), (q_1, .inr (10, [.int 0, .int 2, .int 2, .ref q_2, .int 0, .int 0, .int 63, .int 0, .int 0, .ref q_4, .ref q_5])), (q_2, .inr (12, [.int 0, .int 0, .int 0, .int 0, .int 0, .int 0, .ref q_3])), (q_3, .inl (cI, 1001, .inl (fun _ => 0))), (q_4, .inl (cI, 24, .inl (fun _ => 0))), (q_5, .inl (cI, 4, .inl (fun _ => 0)))] := hD
  refine lv_aload_n hx hb dX3_init_33 rfl (lv_at hl 0 rfl) ?_
  refine lv_iconst (v := 0) hx hb dX3_init_34 (by decide) ?_
  refine va_put (D := (dC, dI)) (ci := 8) (v := .int 0) (ty := .int) (C := RX3) (T := TX3) (N := 9) hx hb hts iWX3 tyX3 tyX3_ok nmX3 hown hK hP hD hS 0 rfl rfl 4 (by decide) (hts (.fieldLink RX3 30 "Beaverhall$Listing" "mostSteps" "I") (by decide +kernel)) (fun _ h9 => h9) rfl (by decide +kernel) rfl rfl (Nat.le_of_ble_eq_true rfl) dX3_init_35 (fun H locs hP hD hS => ?_)
  have hP : va_P (dC, dI) vwCl [(ra, .inr (8, [.ref q_1, .int 0, .int 0, .int 0, .int 0, .int 0, .int 0, .int 0, .null])), (q_1, .inr (10, [.int 0, .int 2, .int 2, .ref q_2, .int 0, .int 0, .int 63, .int 0, .int 0, .ref q_4, .ref q_5])), (q_2, .inr (12, [.int 0, .int 0, .int 0, .int 0, .int 0, .int 0, .ref q_3])), (q_3, .inl (cI, 1001, .inl (fun _ => 0))), (q_4, .inl (cI, 24, .inl (fun _ => 0))), (q_5, .inl (cI, 4, .inl (fun _ => 0)))] H := hP
  have hD : va_D A [(ra, .inr (8, [.ref q_1, .int 0, .int 0, .int 0, .int 0, .int 0, .int 0, .int 0, .null])), (q_1, .inr (10, [.int 0, .int 2, .int 2, .ref q_2, .int 0, .int 0, .int 63, .int 0, .int 0, .ref q_4, .ref q_5])), (q_2, .inr (12, [.int 0, .int 0, .int 0, .int 0, .int 0, .int 0, .ref q_3])), (q_3, .inl (cI, 1001, .inl (fun _ => 0))), (q_4, .inl (cI, 24, .inl (fun _ => 0))), (q_5, .inl (cI, 4, .inl (fun _ => 0)))] := hD
  refine lv_aload_n hx hb dX3_init_38 rfl (lv_at hl 0 rfl) ?_
  refine lv_iconst (v := 0) hx hb dX3_init_39 (by decide) ?_
  refine va_put (D := (dC, dI)) (ci := 8) (v := .int 0) (ty := .int) (C := RX3) (T := TX3) (N := 9) hx hb hts iWX3 tyX3 tyX3_ok nmX3 hown hK hP hD hS 0 rfl rfl 5 (by decide) (hts (.fieldLink RX3 33 "Beaverhall$Listing" "mostMarks" "I") (by decide +kernel)) (fun _ h9 => h9) rfl (by decide +kernel) rfl rfl (Nat.le_of_ble_eq_true rfl) dX3_init_40 (fun H locs hP hD hS => ?_)
  have hP : va_P (dC, dI) vwCl [(ra, .inr (8, [.ref q_1, .int 0, .int 0, .int 0, .int 0, .int 0, .int 0, .int 0, .null])), (q_1, .inr (10, [.int 0, .int 2, .int 2, .ref q_2, .int 0, .int 0, .int 63, .int 0, .int 0, .ref q_4, .ref q_5])), (q_2, .inr (12, [.int 0, .int 0, .int 0, .int 0, .int 0, .int 0, .ref q_3])), (q_3, .inl (cI, 1001, .inl (fun _ => 0))), (q_4, .inl (cI, 24, .inl (fun _ => 0))), (q_5, .inl (cI, 4, .inl (fun _ => 0)))] H := hP
  have hD : va_D A [(ra, .inr (8, [.ref q_1, .int 0, .int 0, .int 0, .int 0, .int 0, .int 0, .int 0, .null])), (q_1, .inr (10, [.int 0, .int 2, .int 2, .ref q_2, .int 0, .int 0, .int 63, .int 0, .int 0, .ref q_4, .ref q_5])), (q_2, .inr (12, [.int 0, .int 0, .int 0, .int 0, .int 0, .int 0, .ref q_3])), (q_3, .inl (cI, 1001, .inl (fun _ => 0))), (q_4, .inl (cI, 24, .inl (fun _ => 0))), (q_5, .inl (cI, 4, .inl (fun _ => 0)))] := hD
  refine lv_aload_n hx hb dX3_init_43 rfl (lv_at hl 0 rfl) ?_
  refine lv_iconst (v := 0) hx hb dX3_init_44 (by decide) ?_
  refine va_put (D := (dC, dI)) (ci := 8) (v := .int 0) (ty := .int) (C := RX3) (T := TX3) (N := 9) hx hb hts iWX3 tyX3 tyX3_ok nmX3 hown hK hP hD hS 0 rfl rfl 6 (by decide) (hts (.fieldLink RX3 36 "Beaverhall$Listing" "states" "I") (by decide +kernel)) (fun _ h9 => h9) rfl (by decide +kernel) rfl rfl (Nat.le_of_ble_eq_true rfl) dX3_init_45 (fun H locs hP hD hS => ?_)
  have hP : va_P (dC, dI) vwCl [(ra, .inr (8, [.ref q_1, .int 0, .int 0, .int 0, .int 0, .int 0, .int 0, .int 0, .null])), (q_1, .inr (10, [.int 0, .int 2, .int 2, .ref q_2, .int 0, .int 0, .int 63, .int 0, .int 0, .ref q_4, .ref q_5])), (q_2, .inr (12, [.int 0, .int 0, .int 0, .int 0, .int 0, .int 0, .ref q_3])), (q_3, .inl (cI, 1001, .inl (fun _ => 0))), (q_4, .inl (cI, 24, .inl (fun _ => 0))), (q_5, .inl (cI, 4, .inl (fun _ => 0)))] H := hP
  have hD : va_D A [(ra, .inr (8, [.ref q_1, .int 0, .int 0, .int 0, .int 0, .int 0, .int 0, .int 0, .null])), (q_1, .inr (10, [.int 0, .int 2, .int 2, .ref q_2, .int 0, .int 0, .int 63, .int 0, .int 0, .ref q_4, .ref q_5])), (q_2, .inr (12, [.int 0, .int 0, .int 0, .int 0, .int 0, .int 0, .ref q_3])), (q_3, .inl (cI, 1001, .inl (fun _ => 0))), (q_4, .inl (cI, 24, .inl (fun _ => 0))), (q_5, .inl (cI, 4, .inl (fun _ => 0)))] := hD
  refine lv_aload_n hx hb dX3_init_48 rfl (lv_at hl 0 rfl) ?_
  refine lv_iconst (v := 0) hx hb dX3_init_49 (by decide) ?_
  refine va_put (D := (dC, dI)) (ci := 8) (v := .int 0) (ty := .int) (C := RX3) (T := TX3) (N := 9) hx hb hts iWX3 tyX3 tyX3_ok nmX3 hown hK hP hD hS 0 rfl rfl 7 (by decide) (hts (.fieldLink RX3 39 "Beaverhall$Listing" "steps" "I") (by decide +kernel)) (fun _ h9 => h9) rfl (by decide +kernel) rfl rfl (Nat.le_of_ble_eq_true rfl) dX3_init_50 (fun H locs hP hD hS => ?_)
  have hP : va_P (dC, dI) vwCl [(ra, .inr (8, [.ref q_1, .int 0, .int 0, .int 0, .int 0, .int 0, .int 0, .int 0, .null])), (q_1, .inr (10, [.int 0, .int 2, .int 2, .ref q_2, .int 0, .int 0, .int 63, .int 0, .int 0, .ref q_4, .ref q_5])), (q_2, .inr (12, [.int 0, .int 0, .int 0, .int 0, .int 0, .int 0, .ref q_3])), (q_3, .inl (cI, 1001, .inl (fun _ => 0))), (q_4, .inl (cI, 24, .inl (fun _ => 0))), (q_5, .inl (cI, 4, .inl (fun _ => 0)))] H := hP
  have hD : va_D A [(ra, .inr (8, [.ref q_1, .int 0, .int 0, .int 0, .int 0, .int 0, .int 0, .int 0, .null])), (q_1, .inr (10, [.int 0, .int 2, .int 2, .ref q_2, .int 0, .int 0, .int 63, .int 0, .int 0, .ref q_4, .ref q_5])), (q_2, .inr (12, [.int 0, .int 0, .int 0, .int 0, .int 0, .int 0, .ref q_3])), (q_3, .inl (cI, 1001, .inl (fun _ => 0))), (q_4, .inl (cI, 24, .inl (fun _ => 0))), (q_5, .inl (cI, 4, .inl (fun _ => 0)))] := hD
  refine lv_aload_n hx hb dX3_init_53 rfl (lv_at hl 0 rfl) ?_
  refine va_new (ci := 10) (fs := [.int 0, .int 0, .int 0, .null, .int 0, .int 0, .int 0, .int 0, .int 0, .null, .null]) (C := RX5) (T := TX5) (N := 11) hx hb hts iWX5 tyX5 tyX5_ok hown (hts (.classLink RX3 9 RX5) (by decide +kernel)) (hts (.instantiable RX5 11) (by decide +kernel)) (hts (.initialized RX5) (by decide +kernel)) hK hP hD hS hA rfl (fun j hj => by rcases (show j = 0 ∨ j = 1 ∨ j = 2 ∨ j = 3 ∨ j = 4 ∨ j = 5 ∨ j = 6 ∨ j = 7 ∨ j = 8 ∨ j = 9 ∨ j = 10 by omega) with rfl | rfl | rfl | rfl | rfl | rfl | rfl | rfl | rfl | rfl | rfl <;> rfl) (Nat.le_of_ble_eq_true rfl) (Nat.le_of_ble_eq_true rfl) dX3_init_54 (fun q_7 H hP hD hS => ?_)
  have hP : va_P (dC, dI) vwCl [(ra, .inr (8, [.ref q_1, .int 0, .int 0, .int 0, .int 0, .int 0, .int 0, .int 0, .null])), (q_1, .inr (10, [.int 0, .int 2, .int 2, .ref q_2, .int 0, .int 0, .int 63, .int 0, .int 0, .ref q_4, .ref q_5])), (q_2, .inr (12, [.int 0, .int 0, .int 0, .int 0, .int 0, .int 0, .ref q_3])), (q_3, .inl (cI, 1001, .inl (fun _ => 0))), (q_4, .inl (cI, 24, .inl (fun _ => 0))), (q_5, .inl (cI, 4, .inl (fun _ => 0))), (q_7, .inr (10, [.int 0, .int 0, .int 0, .null, .int 0, .int 0, .int 0, .int 0, .int 0, .null, .null]))] H := hP
  have hD : va_D A [(ra, .inr (8, [.ref q_1, .int 0, .int 0, .int 0, .int 0, .int 0, .int 0, .int 0, .null])), (q_1, .inr (10, [.int 0, .int 2, .int 2, .ref q_2, .int 0, .int 0, .int 63, .int 0, .int 0, .ref q_4, .ref q_5])), (q_2, .inr (12, [.int 0, .int 0, .int 0, .int 0, .int 0, .int 0, .ref q_3])), (q_3, .inl (cI, 1001, .inl (fun _ => 0))), (q_4, .inl (cI, 24, .inl (fun _ => 0))), (q_5, .inl (cI, 4, .inl (fun _ => 0))), (q_7, .inr (10, [.int 0, .int 0, .int 0, .null, .int 0, .int 0, .int 0, .int 0, .int 0, .null, .null]))] := hD
  refine W.widen (k := 6) (n := 1058) (Nat.le_of_ble_eq_true rfl) (Nat.le_of_ble_eq_true rfl) ?_
  refine lv_dup hx hb dX3_init_57 rfl ?_
  refine lv_iconst (v := 0) hx hb dX3_init_58 (by decide) ?_
  refine lv_iconst (v := 2) hx hb dX3_init_59 (by decide) ?_
  refine lv_iconst (v := 2) hx hb dX3_init_60 (by decide) ?_
  have hPc := hP.sub (ws' := [(q_7, .inr (10, [.int 0, .int 0, .int 0, .null, .int 0, .int 0, .int 0, .int 0, .int 0, .null, .null]))]) [6] rfl
  have hDc := hD.sub (ws' := [(q_7, .inr (10, [.int 0, .int 0, .int 0, .null, .int 0, .int 0, .int 0, .int 0, .int 0, .null, .null]))]) [6] (by decide) rfl
  have hKc := hK.sub (tys' := [(cI, .int)]) [0] rfl
  have hFc := va_free (wc := [(q_7, .inr (10, [.int 0, .int 0, .int 0, .null, .int 0, .int 0, .int 0, .int 0, .int 0, .null, .null]))]) hD hS hA [6] rfl
  refine va_callv (va_runI (As := [.int 0, .int 2, .int 2]) (rest := [.ref q_7, .ref ra]) ⟨hx, hb, hml, hown, hts⟩ (c_X5_init l dC dI cI q_7 0 2 2 (by decide) H.size) (cwI 3 hts gX3_init_X5_init rfl rfl rfl (hts (.initialized RX5) (by decide +kernel)) (hts (.methodLink RX3 13 yX5_init) (by decide +kernel)) (hts (.instanceMethod yX5_init) (by decide +kernel)) rfl (by decide +kernel) ⟨Nat.le_of_ble_eq_true rfl, Nat.le_of_ble_eq_true rfl⟩) (pcS hPc hDc hKc hN) rfl rfl hl.1 rfl (lv_room (Nat.le_of_ble_eq_true rfl)) dX3_init_61 ⟨Nat.le_of_ble_eq_true rfl, Nat.le_of_ble_eq_true rfl⟩) hS (fun q _ h => hFc q h) hFc (fun u t H1 locs ht hvm hw_12 hB hz1 hk1 hS => ?_)
  obtain ⟨q_8, q_9, q_10, q_11⟩ := u
  obtain ⟨hP1, hK1, hD1⟩ := hB
  rw [ht] at hP1
  try dsimp only at hw_12
  obtain ⟨hP, hD⟩ := va_join (wr := [(ra, .inr (8, [.ref q_1, .int 0, .int 0, .int 0, .int 0, .int 0, .int 0, .int 0, .null])), (q_1, .inr (10, [.int 0, .int 2, .int 2, .ref q_2, .int 0, .int 0, .int 63, .int 0, .int 0, .ref q_4, .ref q_5])), (q_2, .inr (12, [.int 0, .int 0, .int 0, .int 0, .int 0, .int 0, .ref q_3])), (q_3, .inl (cI, 1001, .inl (fun _ => 0))), (q_4, .inl (cI, 24, .inl (fun _ => 0))), (q_5, .inl (cI, 4, .inl (fun _ => 0)))]) (w1 := [(q_7, .inr (10, [.int 0, .int 2, .int 2, .ref q_8, .int 0, .int 0, .int 63, .int 0, .int 0, .ref q_10, .ref q_11])), (q_8, .inr (12, [.int 0, .int 0, .int 0, .int 0, .int 0, .int 0, .ref q_9])), (q_9, .inl (cI, 1001, .inl (fun _ => 0))), (q_10, .inl (cI, 24, .inl (fun _ => 0))), (q_11, .inl (cI, 4, .inl (fun _ => 0)))]) hP hD [6] [0, 1, 2, 3, 4, 5] rfl rfl (by decide) (by decide) hk1 hFc hP1 hD1
  generalize H1 = H at hP hS ⊢
  have hP : va_P (dC, dI) vwCl [(ra, .inr (8, [.ref q_1, .int 0, .int 0, .int 0, .int 0, .int 0, .int 0, .int 0, .null])), (q_1, .inr (10, [.int 0, .int 2, .int 2, .ref q_2, .int 0, .int 0, .int 63, .int 0, .int 0, .ref q_4, .ref q_5])), (q_2, .inr (12, [.int 0, .int 0, .int 0, .int 0, .int 0, .int 0, .ref q_3])), (q_3, .inl (cI, 1001, .inl (fun _ => 0))), (q_4, .inl (cI, 24, .inl (fun _ => 0))), (q_5, .inl (cI, 4, .inl (fun _ => 0))), (q_7, .inr (10, [.int 0, .int 2, .int 2, .ref q_8, .int 0, .int 0, .int 63, .int 0, .int 0, .ref q_10, .ref q_11])), (q_8, .inr (12, [.int 0, .int 0, .int 0, .int 0, .int 0, .int 0, .ref q_9])), (q_9, .inl (cI, 1001, .inl (fun _ => 0))), (q_10, .inl (cI, 24, .inl (fun _ => 0))), (q_11, .inl (cI, 4, .inl (fun _ => 0)))] H := hP
  have hD : va_D A [(ra, .inr (8, [.ref q_1, .int 0, .int 0, .int 0, .int 0, .int 0, .int 0, .int 0, .null])), (q_1, .inr (10, [.int 0, .int 2, .int 2, .ref q_2, .int 0, .int 0, .int 63, .int 0, .int 0, .ref q_4, .ref q_5])), (q_2, .inr (12, [.int 0, .int 0, .int 0, .int 0, .int 0, .int 0, .ref q_3])), (q_3, .inl (cI, 1001, .inl (fun _ => 0))), (q_4, .inl (cI, 24, .inl (fun _ => 0))), (q_5, .inl (cI, 4, .inl (fun _ => 0))), (q_7, .inr (10, [.int 0, .int 2, .int 2, .ref q_8, .int 0, .int 0, .int 63, .int 0, .int 0, .ref q_10, .ref q_11])), (q_8, .inr (12, [.int 0, .int 0, .int 0, .int 0, .int 0, .int 0, .ref q_9])), (q_9, .inl (cI, 1001, .inl (fun _ => 0))), (q_10, .inl (cI, 24, .inl (fun _ => 0))), (q_11, .inl (cI, 4, .inl (fun _ => 0)))] := hD
  refine W.widen (k := 10) (n := 2094) (Nat.le_of_ble_eq_true rfl) (Nat.le_of_ble_eq_true rfl) ?_
  refine va_putF (D := (dC, dI)) (ci := 8) (v := .ref q_7) (ty := .object "Beaverhall$Machine") (C := RX3) (T := TX3) (N := 9) hx hb hts iWX3 tyX3 tyX3_ok nmX3 hown hK hP hD hS 0 rfl rfl 8 (by decide) (hts (.fieldLink RX3 42 "Beaverhall$Listing" "grown" "LBeaverhall$Machine;") (by decide +kernel)) (fun _ h9 => h9) rfl hin rfl (by decide +kernel) rfl rfl (Nat.le_of_ble_eq_true rfl) dX3_init_64 (fun H locs hP hD hS => ?_)
  have hP : va_P (dC, dI) vwCl [(ra, .inr (8, [.ref q_1, .int 0, .int 0, .int 0, .int 0, .int 0, .int 0, .int 0, .ref q_7])), (q_1, .inr (10, [.int 0, .int 2, .int 2, .ref q_2, .int 0, .int 0, .int 63, .int 0, .int 0, .ref q_4, .ref q_5])), (q_2, .inr (12, [.int 0, .int 0, .int 0, .int 0, .int 0, .int 0, .ref q_3])), (q_3, .inl (cI, 1001, .inl (fun _ => 0))), (q_4, .inl (cI, 24, .inl (fun _ => 0))), (q_5, .inl (cI, 4, .inl (fun _ => 0))), (q_7, .inr (10, [.int 0, .int 2, .int 2, .ref q_8, .int 0, .int 0, .int 63, .int 0, .int 0, .ref q_10, .ref q_11])), (q_8, .inr (12, [.int 0, .int 0, .int 0, .int 0, .int 0, .int 0, .ref q_9])), (q_9, .inl (cI, 1001, .inl (fun _ => 0))), (q_10, .inl (cI, 24, .inl (fun _ => 0))), (q_11, .inl (cI, 4, .inl (fun _ => 0)))] H := hP
  have hD : va_D A [(ra, .inr (8, [.ref q_1, .int 0, .int 0, .int 0, .int 0, .int 0, .int 0, .int 0, .ref q_7])), (q_1, .inr (10, [.int 0, .int 2, .int 2, .ref q_2, .int 0, .int 0, .int 63, .int 0, .int 0, .ref q_4, .ref q_5])), (q_2, .inr (12, [.int 0, .int 0, .int 0, .int 0, .int 0, .int 0, .ref q_3])), (q_3, .inl (cI, 1001, .inl (fun _ => 0))), (q_4, .inl (cI, 24, .inl (fun _ => 0))), (q_5, .inl (cI, 4, .inl (fun _ => 0))), (q_7, .inr (10, [.int 0, .int 2, .int 2, .ref q_8, .int 0, .int 0, .int 63, .int 0, .int 0, .ref q_10, .ref q_11])), (q_8, .inr (12, [.int 0, .int 0, .int 0, .int 0, .int 0, .int 0, .ref q_9])), (q_9, .inl (cI, 1001, .inl (fun _ => 0))), (q_10, .inl (cI, 24, .inl (fun _ => 0))), (q_11, .inl (cI, 4, .inl (fun _ => 0)))] := hD
  have hP9 := hP.sub (ws' := [(ra, .inr (8, [.ref q_1, .int 0, .int 0, .int 0, .int 0, .int 0, .int 0, .int 0, .ref q_7])), (q_1, .inr (10, [.int 0, .int 2, .int 2, .ref q_2, .int 0, .int 0, .int 63, .int 0, .int 0, .ref q_4, .ref q_5])), (q_2, .inr (12, [.int 0, .int 0, .int 0, .int 0, .int 0, .int 0, .ref q_3])), (q_3, .inl (cI, 1001, .inl (fun _ => 0))), (q_4, .inl (cI, 24, .inl (fun _ => 0))), (q_5, .inl (cI, 4, .inl (fun _ => 0))), (q_7, .inr (10, [.int 0, .int 2, .int 2, .ref q_8, .int 0, .int 0, .int 63, .int 0, .int 0, .ref q_10, .ref q_11])), (q_8, .inr (12, [.int 0, .int 0, .int 0, .int 0, .int 0, .int 0, .ref q_9])), (q_9, .inl (cI, 1001, .inl (fun _ => 0))), (q_10, .inl (cI, 24, .inl (fun _ => 0))), (q_11, .inl (cI, 4, .inl (fun _ => 0)))]) [0, 1, 2, 3, 4, 5, 6, 7, 8, 9, 10] rfl
  have hD9 := hD.sub (ws' := [(ra, .inr (8, [.ref q_1, .int 0, .int 0, .int 0, .int 0, .int 0, .int 0, .int 0, .ref q_7])), (q_1, .inr (10, [.int 0, .int 2, .int 2, .ref q_2, .int 0, .int 0, .int 63, .int 0, .int 0, .ref q_4, .ref q_5])), (q_2, .inr (12, [.int 0, .int 0, .int 0, .int 0, .int 0, .int 0, .ref q_3])), (q_3, .inl (cI, 1001, .inl (fun _ => 0))), (q_4, .inl (cI, 24, .inl (fun _ => 0))), (q_5, .inl (cI, 4, .inl (fun _ => 0))), (q_7, .inr (10, [.int 0, .int 2, .int 2, .ref q_8, .int 0, .int 0, .int 63, .int 0, .int 0, .ref q_10, .ref q_11])), (q_8, .inr (12, [.int 0, .int 0, .int 0, .int 0, .int 0, .int 0, .ref q_9])), (q_9, .inl (cI, 1001, .inl (fun _ => 0))), (q_10, .inl (cI, 24, .inl (fun _ => 0))), (q_11, .inl (cI, 4, .inl (fun _ => 0)))]) [0, 1, 2, 3, 4, 5, 6, 7, 8, 9, 10] (by decide) rfl
  have hK9 := hK.sub (tys' := [(cI, .int)]) [0] rfl
  exact W.vret hx hb hr (fun t ht hW => ⟨⟨(q_1, q_2, q_3, q_4, q_5, q_7, q_8, q_9, q_10, q_11), rfl, trivial, ⟨by rw [ht]; exact hP9, va_K.moved hW.alike hK9, hD9⟩⟩, hS.F ht⟩) hS.2.2 dX3_init_67

set_option maxHeartbeats 4000000 in
set_option maxRecDepth 100000 in
/-- X2_init -/
theorem c_X2_init (l : Launch) (dC : Nat → ClassId) (dI : Nat → Nat → Nat) (cI : ClassId) (ra : Nat) (sz : Nat) : Met l yX2_init wsX2_init ({ frames := 3, cells := 23, slots := 15172, locals := 64 }) (va_Pc [.ref ra] (cPC dC dI [(ra, .inr (7, [.null, .null, .null, .null, .null, .null]))] [(cI, .int)] sz)) (va_Qv (fun (u : Nat × Nat × Nat × Nat × Nat × Nat × Nat × Nat × Nat × Nat × Nat × Nat × Nat × Nat × Nat × Nat × Nat × Nat × Nat × Nat × Nat × Nat × Nat) => True) (fun (u : Nat × Nat × Nat × Nat × Nat × Nat × Nat × Nat × Nat × Nat × Nat × Nat × Nat × Nat × Nat × Nat × Nat × Nat × Nat × Nat × Nat × Nat × Nat) t => cQB dC dI [(ra, .inr (7, [.ref u.1, .ref u.2.2.1, .ref u.2.2.2.2.2.2.2.2.2.2.2.1, .ref u.2.2.2.2.2.2.2.2.2.2.2.2.2.2.1, .ref u.2.2.2.2.2.2.2.2.2.2.2.2.2.2.2.2.1, .ref u.2.2.2.2.2.2.2.2.2.2.2.2.2.2.2.2.2.2.2.2.1])), (u.1, .inr (12, [.int 0, .int 0, .int 0, .int 0, .int 0, .int 0, .ref u.2.1])), (u.2.1, .inl (cI, 1001, .inl (fun _ => 0))), (u.2.2.1, .inr (11, [.int 0, .int 0, .ref u.2.2.2.1, .ref u.2.2.2.2.2.1, .int 0, .ref u.2.2.2.2.2.2.2.1, .ref u.2.2.2.2.2.2.2.2.1, .ref u.2.2.2.2.2.2.2.2.2.1, .ref u.2.2.2.2.2.2.2.2.2.2.1])), (u.2.2.2.1, .inr (12, [.int 0, .int 0, .int 0, .int 0, .int 0, .int 0, .ref u.2.2.2.2.1])), (u.2.2.2.2.1, .inl (cI, 1001, .inl (fun _ => 0))), (u.2.2.2.2.2.1, .inr (12, [.int 0, .int 0, .int 0, .int 0, .int 0, .int 0, .ref u.2.2.2.2.2.2.1])), (u.2.2.2.2.2.2.1, .inl (cI, 1001, .inl (fun _ => 0))), (u.2.2.2.2.2.2.2.1, .inl (cI, 501, .inl (fun _ => 0))), (u.2.2.2.2.2.2.2.2.1, .inl (cI, 501, .inl (fun _ => 0))), (u.2.2.2.2.2.2.2.2.2.1, .inl (cI, 501, .inl (fun _ => 0))), (u.2.2.2.2.2.2.2.2.2.2.1, .inl (cI, 501, .inl (fun _ => 0))), (u.2.2.2.2.2.2.2.2.2.2.2.1, .inr (15, [.int 0, .int 0, .int 0, .ref u.2.2.2.2.2.2.2.2.2.2.2.2.1, .ref u.2.2.2.2.2.2.2.2.2.2.2.2.2.1])), (u.2.2.2.2.2.2.2.2.2.2.2.2.1, .inl (cI, 19, .inl (fun _ => 0))), (u.2.2.2.2.2.2.2.2.2.2.2.2.2.1, .inl (cI, 9, .inl (fun _ => 0))), (u.2.2.2.2.2.2.2.2.2.2.2.2.2.2.1, .inr (12, [.int 0, .int 0, .int 0, .int 0, .int 0, .int 0, .ref u.2.2.2.2.2.2.2.2.2.2.2.2.2.2.2.1])), (u.2.2.2.2.2.2.2.2.2.2.2.2.2.2.2.1, .inl (cI, 1001, .inl (fun _ => 0))), (u.2.2.2.2.2.2.2.2.2.2.2.2.2.2.2.2.1, .inr (13, [.int 0, .int 0, .int 0, .int 0, .int 0, .ref u.2.2.2.2.2.2.2.2.2.2.2.2.2.2.2.2.2.1, .ref u.2.2.2.2.2.2.2.2.2.2.2.2.2.2.2.2.2.2.1, .ref u.2.2.2.2.2.2.2.2.2.2.2.2.2.2.2.2.2.2.2.1])), (u.2.2.2.2.2.2.2.2.2.2.2.2.2.2.2.2.2.1, .inl (cI, 2002, .inl (fun _ => 0))), (u.2.2.2.2.2.2.2.2.2.2.2.2.2.2.2.2.2.2.1, .inl (cI, 2002, .inl (fun _ => 0))), (u.2.2.2.2.2.2.2.2.2.2.2.2.2.2.2.2.2.2.2.1, .inl (cI, 2, .inl (fun _ => 0))), (u.2.2.2.2.2.2.2.2.2.2.2.2.2.2.2.2.2.2.2.2.1, .inr (9, [.int 0, .int 1, .int 0, .long 0, .long 0, .ref u.2.2.2.2.2.2.2.2.2.2.2.2.2.2.2.2.2.2.2.2.2.1, .ref u.2.2.2.2.2.2.2.2.2.2.2.2.2.2.2.2.2.2.2.2.2.2])), (u.2.2.2.2.2.2.2.2.2.2.2.2.2.2.2.2.2.2.2.2.2.1, .inl (cI, 2001, .inl (fun _ => 0))), (u.2.2.2.2.2.2.2.2.2.2.2.2.2.2.2.2.2.2.2.2.2.2, .inl (cI, 3072, .inl (fun _ => 0)))] [(cI, .int)] (va_A [(ra, .inr (7, [.null, .null, .null, .null, .null, .null]))] sz) t) (va_A [(ra, .inr (7, [.null, .null, .null, .null, .null, .null]))] sz)) 23 15172 (va_A [(ra, .inr (7, [.null, .null, .null, .null, .null, .null]))] sz) := by
  refine Met.ofW (cc := cX2_init) (maxL := 1) (ret := none) (by decide) rfl ?_
  intro p e s m args below meth c s₁ B hml hv
  obtain ⟨rfl, hsz, hP, hK, hD0, hN⟩ := hv
  have hx := B.exec
  have hb := B.bytes
  have hr := B.returns
  have hts := atoms_spec (ws := wsX2_init) B.pre
  have hown : s.vm.findClass RX2 = some m.cls := findClass_of_methodNamed B.named
  have hlocks := B.notSynchronized
  have hin : meth.name = "<init>" := (name_of_methodNamed B.named B.method).1
  subst hsz
  have hD := hD0.self (sz := s.heap.size)
  generalize hAe : va_A [(ra, .inr (7, [.null, .null, .null, .null, .null, .null]))] s.heap.size = A at hD ⊢
  have hA : ∀ q : Nat, s.heap.size ≤ q → A q := fun q h => by rw [← hAe]; exact Or.inr h
  have hS : va_S A s.heap s.heap [] := va_S.rf
  have hP : va_P (dC, dI) vwCl [(ra, .inr (7, [.null, .null, .null, .null, .null, .null]))] s.heap := hP
  have hD : va_D A [(ra, .inr (7, [.null, .null, .null, .null, .null, .null]))] := hD
  have hl := lv_entry ([.ref ra]) (n := 1) (Nat.le_of_ble_eq_true rfl)
  rw [lg_entry_eq]
  generalize (lg_sl ([.ref ra]) ++ List.replicate (1 - (lg_sl ([.ref ra])).length) Slot.unset).toArray = ls at hl ⊢
  have hl : lv_has ls 1 [(0, .ref ra)] := hl
  have iWX10 : ∀ w ∈ u_ws RX10 TX10 5, w ∈ wsX2_init := by decide +kernel
  have iWX2 : ∀ w ∈ u_ws RX2 TX2 6, w ∈ wsX2_init := by decide +kernel
  have iWX4 : ∀ w ∈ u_ws RX4 TX4 7, w ∈ wsX2_init := by decide +kernel
  have iWX6 : ∀ w ∈ u_ws RX6 TX6 9, w ∈ wsX2_init := by decide +kernel
  have iWX7 : ∀ w ∈ u_ws RX7 TX7 7, w ∈ wsX2_init := by decide +kernel
  have iWX8 : ∀ w ∈ u_ws RX8 TX8 8, w ∈ wsX2_init := by decide +kernel
  refine lv_aload_n hx hb dX2_init_0 rfl (lv_at hl 0 rfl) ?_
  refine W.objInit hx hb hown (hts (.methodLink RX2 3 Lib.objectInit) (by decide +kernel)) (hts (.instanceMethod Lib.objectInit) (by decide +kernel)) (hts (.code Lib.objectInit ⟨#[0xb1]⟩ 1 none) (by decide +kernel)) rfl (by rw [hml]; exact hl.1) rfl dX2_init_1 (Nat.le_of_ble_eq_true rfl) (Nat.le_of_ble_eq_true rfl) ?_
  refine W.eq (g2 := F0 m 4 ls []) rfl ?_
  refine lv_aload_n hx hb dX2_init_4 rfl (lv_at hl 0 rfl) ?_
  refine va_new (ci := 12) (fs := [.int 0, .int 0, .int 0, .int 0, .int 0, .int 0, .null]) (C := RX7) (T := TX7) (N := 7) hx hb hts iWX7 tyX7 tyX7_ok hown (hts (.classLink RX2 9 RX7) (by decide +kernel)) (hts (.instantiable RX7 7) (by decide +kernel)) (hts (.initialized RX7) (by decide +kernel)) hK hP hD hS hA rfl (fun j hj => by rcases (show j = 0 ∨ j = 1 ∨ j = 2 ∨ j = 3 ∨ j = 4 ∨ j = 5 ∨ j = 6 by omega) with rfl | rfl | rfl | rfl | rfl | rfl | rfl <;> rfl) (Nat.le_of_ble_eq_true rfl) (Nat.le_of_ble_eq_true rfl) dX2_init_5 (fun q_1 H hP hD hS => ?_)
  have hP : va_P (dC, dI) vwCl [(ra, .inr (7, [.null, .null, .null, .null, .null, .null])), (q_1, .inr (12, [.int 0, .int 0, .int 0, .int 0, .int 0, .int 0, .null]))] H := hP
  have hD : va_D A [(ra, .inr (7, [.null, .null, .null, .null, .null, .null])), (q_1, .inr (12, [.int 0, .int 0, .int 0, .int 0, .int 0, .int 0, .null]))] := hD
  refine W.widen (k := 1) (n := 7) (Nat.le_of_ble_eq_true rfl) (Nat.le_of_ble_eq_true rfl) ?_
  refine lv_dup hx hb dX2_init_8 rfl ?_
  have hPc := hP.sub (ws' := [(q_1, .inr (12, [.int 0, .int 0, .int 0, .int 0, .int 0, .int 0, .null]))]) [1] rfl
  have hDc := hD.sub (ws' := [(q_1, .inr (12, [.int 0, .int 0, .int 0, .int 0, .int 0, .int 0, .null]))]) [1] (by decide) rfl
  have hKc := hK.sub (tys' := [(cI, .int)]) [0] rfl
  have hFc := va_free (wc := [(q_1, .inr (12, [.int 0, .int 0, .int 0, .int 0, .int 0, .int 0, .null]))]) hD hS hA [1] rfl
  refine va_callv (va_runIN (As := []) (rest := [.ref q_1, .ref ra]) ⟨hx, hb, hml, hown, hts⟩ (c_X7_init l dC dI cI q_1 H.size) ⟨va_cnB 0 hts gX2_init_X7_init_n11 rfl rfl rfl (hN (.methodLinkNest RX2 11 yX7_init "Beaverhall") (by decide +kernel)) (hts (.initialized RX7) (by decide +kernel)) (by decide +kernel) ⟨Nat.le_of_ble_eq_true rfl, Nat.le_of_ble_eq_true rfl⟩, rfl, hts (.instanceMethod yX7_init) (by decide +kernel)⟩ (pcS hPc hDc hKc hN) rfl rfl hl.1 rfl (lv_room (Nat.le_of_ble_eq_true rfl)) dX2_init_9 ⟨Nat.le_of_ble_eq_true rfl, Nat.le_of_ble_eq_true rfl⟩) hS (fun q _ h => hFc q h) hFc (fun u t H1 locs ht hvm hw_3 hB hz1 hk1 hS => ?_)
  obtain ⟨hP1, hK1, hD1⟩ := hB
  rw [ht] at hP1
  try dsimp only at hw_3
  obtain ⟨hP, hD⟩ := va_join (wr := [(ra, .inr (7, [.null, .null, .null, .null, .null, .null]))]) (w1 := [(q_1, .inr (12, [.int 0, .int 0, .int 0, .int 0, .int 0, .int 0, .ref u])), (u, .inl (cI, 1001, .inl (fun _ => 0)))]) hP hD [1] [0] rfl rfl (by decide) (by decide) hk1 hFc hP1 hD1
  generalize H1 = H at hP hS ⊢
  have hP : va_P (dC, dI) vwCl [(ra, .inr (7, [.null, .null, .null, .null, .null, .null])), (q_1, .inr (12, [.int 0, .int 0, .int 0, .int 0, .int 0, .int 0, .ref u])), (u, .inl (cI, 1001, .inl (fun _ => 0)))] H := hP
  have hD : va_D A [(ra, .inr (7, [.null, .null, .null, .null, .null, .null])), (q_1, .inr (12, [.int 0, .int 0, .int 0, .int 0, .int 0, .int 0, .ref u])), (u, .inl (cI, 1001, .inl (fun _ => 0)))] := hD
  refine W.widen (k := 2) (n := 1008) (Nat.le_of_ble_eq_true rfl) (Nat.le_of_ble_eq_true rfl) ?_
  obtain ⟨q_2, eq_2⟩ : ∃ z, z = u := ⟨_, rfl⟩
  subst eq_2
  refine va_putF (D := (dC, dI)) (ci := 7) (v := .ref q_1) (ty := .object "Beaverhall$Run") (C := RX2) (T := TX2) (N := 6) hx hb hts iWX2 tyX2 tyX2_ok nmX2 hown hK hP hD hS 0 rfl rfl 0 (by decide) (hts (.fieldLink RX2 12 "Beaverhall$Judge" "now" "LBeaverhall$Run;") (by decide +kernel)) (fun _ h9 => h9) rfl hin rfl (by decide +kernel) rfl rfl (Nat.le_of_ble_eq_true rfl) dX2_init_12 (fun H locs hP hD hS => ?_)
  have hP : va_P (dC, dI) vwCl [(ra, .inr (7, [.ref q_1, .null, .null, .null, .null, .null])), (q_1, .inr (12, [.int 0, .int 0, .int 0, .int 0, .int 0, .int 0, .ref q_2])), (q_2, .inl (cI, 1001, .inl (fun _ => 0)))] H := hP
  have hD : va_D A [(ra, .inr (7, [.ref q_1, .null, .null, .null, .null, .null])), (q_1, .inr (12, [.int 0, .int 0, .int 0, .int 0, .int 0, .int 0, .ref q_2])), (q_2, .inl (cI, 1001, .inl (fun _ => 0)))] := hD
  refine lv_aload_n hx hb dX2_init_15 rfl (lv_at hl 0 rfl) ?_
  refine va_new (ci := 11) (fs := [.int 0, .int 0, .null, .null, .int 0, .null, .null, .null, .null]) (C := RX6) (T := TX6) (N := 9) hx hb hts iWX6 tyX6 tyX6_ok hown (hts (.classLink RX2 18 RX6) (by decide +kernel)) (hts (.instantiable RX6 9) (by decide +kernel)) (hts (.initialized RX6) (by decide +kernel)) hK hP hD hS hA rfl (fun j hj => by rcases (show j = 0 ∨ j = 1 ∨ j = 2 ∨ j = 3 ∨ j = 4 ∨ j = 5 ∨ j = 6 ∨ j = 7 ∨ j = 8 by omega) with rfl | rfl | rfl | rfl | rfl | rfl | rfl | rfl | rfl <;> rfl) (Nat.le_of_ble_eq_true rfl) (Nat.le_of_ble_eq_true rfl) dX2_init_16 (fun q_4 H hP hD hS => ?_)
  have hP : va_P (dC, dI) vwCl [(ra, .inr (7, [.ref q_1, .null, .null, .null, .null, .null])), (q_1, .inr (12, [.int 0, .int 0, .int 0, .int 0, .int 0, .int 0, .ref q_2])), (q_2, .inl (cI, 1001, .inl (fun _ => 0))), (q_4, .inr (11, [.int 0, .int 0, .null, .null, .int 0, .null, .null, .null, .null]))] H := hP
  have hD : va_D A [(ra, .inr (7, [.ref q_1, .null, .null, .null, .null, .null])), (q_1, .inr (12, [.int 0, .int 0, .int 0, .int 0, .int 0, .int 0, .ref q_2])), (q_2, .inl (cI, 1001, .inl (fun _ => 0))), (q_4, .inr (11, [.int 0, .int 0, .null, .null, .int 0, .null, .null, .null, .null]))] := hD
  refine W.widen (k := 3) (n := 1017) (Nat.le_of_ble_eq_true rfl) (Nat.le_of_ble_eq_true rfl) ?_
  refine lv_dup hx hb dX2_init_19 rfl ?_
  have hPc := hP.sub (ws' := [(q_4, .inr (11, [.int 0, .int 0, .null, .null, .int 0, .null, .null, .null, .null]))]) [3] rfl
  have hDc := hD.sub (ws' := [(q_4, .inr (11, [.int 0, .int 0, .null, .null, .int 0, .null, .null, .null, .null]))]) [3] (by decide) rfl
  have hKc := hK.sub (tys' := [(cI, .int)]) [0] rfl
  have hFc := va_free (wc := [(q_4, .inr (11, [.int 0, .int 0, .null, .null, .int 0, .null, .null, .null, .null]))]) hD hS hA [3] rfl
  refine va_callv (va_runIN (As := []) (rest := [.ref q_4, .ref ra]) ⟨hx, hb, hml, hown, hts⟩ (c_X6_init l dC dI cI q_4 H.size) ⟨va_cnB 0 hts gX2_init_X6_init_n20 rfl rfl rfl (hN (.methodLinkNest RX2 20 yX6_init "Beaverhall") (by decide +kernel)) (hts (.initialized RX6) (by decide +kernel)) (by decide +kernel) ⟨Nat.le_of_ble_eq_true rfl, Nat.le_of_ble_eq_true rfl⟩, rfl, hts (.instanceMethod yX6_init) (by decide +kernel)⟩ (pcS hPc hDc hKc hN) rfl rfl hl.1 rfl (lv_room (Nat.le_of_ble_eq_true rfl)) dX2_init_20 ⟨Nat.le_of_ble_eq_true rfl, Nat.le_of_ble_eq_true rfl⟩) hS (fun q _ h => hFc q h) hFc (fun u t H1 locs ht hvm hw_13 hB hz1 hk1 hS => ?_)
  obtain ⟨q_5, q_6, q_7, q_8, q_9, q_10, q_11, q_12⟩ := u
  obtain ⟨hP1, hK1, hD1⟩ := hB
  rw [ht] at hP1
  try dsimp only at hw_13
  obtain ⟨hP, hD⟩ := va_join (wr := [(ra, .inr (7, [.ref q_1, .null, .null, .null, .null, .null])), (q_1, .inr (12, [.int 0, .int 0, .int 0, .int 0, .int 0, .int 0, .ref q_2])), (q_2, .inl (cI, 1001, .inl (fun _ => 0)))]) (w1 := [(q_4, .inr (11, [.int 0, .int 0, .ref q_5, .ref q_7, .int 0, .ref q_9, .ref q_10, .ref q_11, .ref q_12])), (q_5, .inr (12, [.int 0, .int 0, .int 0, .int 0, .int 0, .int 0, .ref q_6])), (q_6, .inl (cI, 1001, .inl (fun _ => 0))), (q_7, .inr (12, [.int 0, .int 0, .int 0, .int 0, .int 0, .int 0, .ref q_8])), (q_8, .inl (cI, 1001, .inl (fun _ => 0))), (q_9, .inl (cI, 501, .inl (fun _ => 0))), (q_10, .inl (cI, 501, .inl (fun _ => 0))), (q_11, .inl (cI, 501, .inl (fun _ => 0))), (q_12, .inl (cI, 501, .inl (fun _ => 0)))]) hP hD [3] [0, 1, 2] rfl rfl (by decide) (by decide) hk1 hFc hP1 hD1
  generalize H1 = H at hP hS ⊢
  have hP : va_P (dC, dI) vwCl [(ra, .inr (7, [.ref q_1, .null, .null, .null, .null, .null])), (q_1, .inr (12, [.int 0, .int 0, .int 0, .int 0, .int 0, .int 0, .ref q_2])), (q_2, .inl (cI, 1001, .inl (fun _ => 0))), (q_4, .inr (11, [.int 0, .int 0, .ref q_5, .ref q_7, .int 0, .ref q_9, .ref q_10, .ref q_11, .ref q_12])), (q_5, .inr (12, [.int 0, .int 0, .int 0, .int 0, .int 0, .int 0, .ref q_6])), (q_6, .inl (cI, 1001, .inl (fun _ => 0))), (q_7, .inr (12, [.int 0, .int 0, .int 0, .int 0, .int 0, .int 0, .ref q_8])), (q_8, .inl (cI, 1001, .inl (fun _ => 0))), (q_9, .inl (cI, 501, .inl (fun _ => 0))), (q_10, .inl (cI, 501, .inl (fun _ => 0))), (q_11, .inl (cI, 501, .inl (fun _ => 0))), (q_12, .inl (cI, 501, .inl (fun _ => 0)))] H := hP
  have hD : va_D A [(ra, .inr (7, [.ref q_1, .null, .null, .null, .null, .null])), (q_1, .inr (12, [.int 0, .int 0, .int 0, .int 0, .int 0, .int 0, .ref q_2])), (q_2, .inl (cI, 1001, .inl (fun _ => 0))), (q_4, .inr (11, [.int 0, .int 0, .ref q_5, .ref q_7, .int 0, .ref q_9, .ref q_10, .ref q_11, .ref q_12])), (q_5, .inr (12, [.int 0, .int 0, .int 0, .int 0, .int 0, .int 0, .ref q_6])), (q_6, .inl (cI, 1001, .inl (fun _ => 0))), (q_7, .inr (12, [.int 0, .int 0, .int 0, .int 0, .int 0, .int 0, .ref q_8])), (q_8, .inl (cI, 1001, .inl (fun _ => 0))), (q_9, .inl (cI, 501, .inl (fun _ => 0))), (q_10, .inl (cI, 501, .inl (fun _ => 0))), (q_11, .inl (cI, 501, .inl (fun _ => 0))), (q_12, .inl (cI, 501, .inl (fun _ => 0)))] := hD
  refine W.widen (k := 11) (n := 5037) (Nat.le_of_ble_eq_true rfl) (Nat.le_of_ble_eq_true rfl) ?_
  refine va_putF (D := (dC, dI)) (ci := 7) (v := .ref q_4) (ty := .object "Beaverhall$Returns") (C := RX2) (T := TX2) (N := 6) hx hb hts iWX2 tyX2 tyX2_ok nmX2 hown hK hP hD hS 0 rfl rfl 1 (by decide) (hts (.fieldLink RX2 21 "Beaverhall$Judge" "returns" "LBeaverhall$Returns;") (by decide +kernel)) (fun _ h9 => h9) rfl hin rfl (by decide +kernel) rfl rfl (Nat.le_of_ble_eq_true rfl) dX2_init_23 (fun H locs hP hD hS => ?_)
  have hP : va_P (dC, dI) vwCl [(ra, .inr (7, [.ref q_1, .ref q_4, .null, .null, .null, .null])), (q_1, .inr (12, [.int 0, .int 0, .int 0, .int 0, .int 0, .int 0, .ref q_2])), (q_2, .inl (cI, 1001, .inl (fun _ => 0))), (q_4, .inr (11, [.int 0, .int 0, .ref q_5, .ref q_7, .int 0, .ref q_9, .ref q_10, .ref q_11, .ref q_12])), (q_5, .inr (12, [.int 0, .int 0, .int 0, .int 0, .int 0, .int 0, .ref q_6])), (q_6, .inl (cI, 1001, .inl (fun _ => 0))), (q_7, .inr (12, [.int 0, .int 0, .int 0, .int 0, .int 0, .int 0, .ref q_8])), (q_8, .inl (cI, 1001, .inl (fun _ => 0))), (q_9, .inl (cI, 501, .inl (fun _ => 0))), (q_10, .inl (cI, 501, .inl (fun _ => 0))), (q_11, .inl (cI, 501, .inl (fun _ => 0))), (q_12, .inl (cI, 501, .inl (fun _ => 0)))] H := hP
  have hD : va_D A [(ra, .inr (7, [.ref q_1, .ref q_4, .null, .null, .null, .null])), (q_1, .inr (12, [.int 0, .int 0, .int 0, .int 0, .int 0, .int 0, .ref q_2])), (q_2, .inl (cI, 1001, .inl (fun _ => 0))), (q_4, .inr (11, [.int 0, .int 0, .ref q_5, .ref q_7, .int 0, .ref q_9, .ref q_10, .ref q_11, .ref q_12])), (q_5, .inr (12, [.int 0, .int 0, .int 0, .int 0, .int 0, .int 0, .ref q_6])), (q_6, .inl (cI, 1001, .inl (fun _ => 0))), (q_7, .inr (12, [.int 0, .int 0, .int 0, .int 0, .int 0, .int 0, .ref q_8])), (q_8, .inl (cI, 1001, .inl (fun _ => 0))), (q_9, .inl (cI, 501, .inl (fun _ => 0))), (q_10, .inl (cI, 501, .inl (fun _ => 0))), (q_11, .inl (cI, 501, .inl (fun _ => 0))), (q_12, .inl (cI, 501, .inl (fun _ => 0)))] := hD
  refine lv_aload_n hx hb dX2_init_26 rfl (lv_at hl 0 rfl) ?_
  refine va_new (ci := 15) (fs := [.int 0, .int 0, .int 0, .null, .null]) (C := RX10) (T := TX10) (N := 5) hx hb hts iWX10 tyX10 tyX10_ok hown (hts (.classLink RX2 25 RX10) (by decide +kernel)) (hts (.instantiable RX10 5) (by decide +kernel)) (hts (.initialized RX10) (by decide +kernel)) hK hP hD hS hA rfl (fun j hj => by rcases (show j = 0 ∨ j = 1 ∨ j = 2 ∨ j = 3 ∨ j = 4 by omega) with rfl | rfl | rfl | rfl | rfl <;> rfl) (Nat.le_of_ble_eq_true rfl) (Nat.le_of_ble_eq_true rfl) dX2_init_27 (fun q_14 H hP hD hS => ?_)
  have hP : va_P (dC, dI) vwCl [(ra, .inr (7, [.ref q_1, .ref q_4, .null, .null, .null, .null])), (q_1, .inr (12, [.int 0, .int 0, .int 0, .int 0, .int 0, .int 0, .ref q_2])), (q_2, .inl (cI, 1001, .inl (fun _ => 0))), (q_4, .inr (11, [.int 0, .int 0, .ref q_5, .ref q_7, .int 0, .ref q_9, .ref q_10, .ref q_11, .ref q_12])), (q_5, .inr (12, [.int 0, .int 0, .int 0, .int 0, .int 0, .int 0, .ref q_6])), (q_6, .inl (cI, 1001, .inl (fun _ => 0))), (q_7, .inr (12, [.int 0, .int 0, .int 0, .int 0, .int 0, .int 0, .ref q_8])), (q_8, .inl (cI, 1001, .inl (fun _ => 0))), (q_9, .inl (cI, 501, .inl (fun _ => 0))), (q_10, .inl (cI, 501, .inl (fun _ => 0))), (q_11, .inl (cI, 501, .inl (fun _ => 0))), (q_12, .inl (cI, 501, .inl (fun _ => 0))), (q_14, .inr (15, [.int 0, .int 0, .int 0, .null, .null]))] H := hP
  have hD : va_D A [(ra, .inr (7, [.ref q_1, .ref q_4, .null, .null, .null, .null])), (q_1, .inr (12, [.int 0, .int 0, .int 0, .int 0, .int 0, .int 0, .ref q_2])), (q_2, .inl (cI, 1001, .inl (fun _ => 0))), (q_4, .inr (11, [.int 0, .int 0, .ref q_5, .ref q_7, .int 0, .ref q_9, .ref q_10, .ref q_11, .ref q_12])), (q_5, .inr (12, [.int 0, .int 0, .int 0, .int 0, .int 0, .int 0, .ref q_6])), (q_6, .inl (cI, 1001, .inl (fun _ => 0))), (q_7, .inr (12, [.int 0, .int 0, .int 0, .int 0, .int 0, .int 0, .ref q_8])), (q_8, .inl (cI, 1001, .inl (fun _ => 0))), (q_9, .inl (cI, 501, .inl (fun _ => 0))), (q_10, .inl (cI, 501, .inl (fun _ => 0))), (q_11, .inl (cI, 501, .inl (fun _ => 0))), (q_12, .inl (cI, 501, .inl (fun _ => 0))), (q_14, .inr (15, [.int 0, .int 0, .int 0, .null, .null]))] := hD
  refine W.widen (k := 12) (n := 5042) (Nat.le_of_ble_eq_true rfl) (Nat.le_of_ble_eq_true rfl) ?_
  refine lv_dup hx hb dX2_init_30 rfl ?_
  have hPc := hP.sub (ws' := [(q_14, .inr (15, [.int 0, .int 0, .int 0, .null, .null]))]) [12] rfl
  have hDc := hD.sub (ws' := [(q_14, .inr (15, [.int 0, .int 0, .int 0, .null, .null]))]) [12] (by decide) rfl
  have hKc := hK.sub (tys' := [(cI, .int)]) [0] rfl
  have hFc := va_free (wc := [(q_14, .inr (15, [.int 0, .int 0, .int 0, .null, .null]))]) hD hS hA [12] rfl
  refine va_callv (va_runIN (As := []) (rest := [.ref q_14, .ref ra]) ⟨hx, hb, hml, hown, hts⟩ (c_X10_init l dC dI cI q_14 H.size) ⟨va_cnB 0 hts gX2_init_X10_init_n27 rfl rfl rfl (hN (.methodLinkNest RX2 27 yX10_init "Beaverhall") (by decide +kernel)) (hts (.initialized RX10) (by decide +kernel)) (by decide +kernel) ⟨Nat.le_of_ble_eq_true rfl, Nat.le_of_ble_eq_true rfl⟩, rfl, hts (.instanceMethod yX10_init) (by decide +kernel)⟩ (pcS hPc hDc hKc hN) rfl rfl hl.1 rfl (lv_room (Nat.le_of_ble_eq_true rfl)) dX2_init_31 ⟨Nat.le_of_ble_eq_true rfl, Nat.le_of_ble_eq_true rfl⟩) hS (fun q _ h => hFc q h) hFc (fun u t H1 locs ht hvm hw_17 hB hz1 hk1 hS => ?_)
  obtain ⟨q_15, q_16⟩ := u
  obtain ⟨hP1, hK1, hD1⟩ := hB
  rw [ht] at hP1
  try dsimp only at hw_17
  obtain ⟨hP, hD⟩ := va_join (wr := [(ra, .inr (7, [.ref q_1, .ref q_4, .null, .null, .null, .null])), (q_1, .inr (12, [.int 0, .int 0, .int 0, .int 0, .int 0, .int 0, .ref q_2])), (q_2, .inl (cI, 1001, .inl (fun _ => 0))), (q_4, .inr (11, [.int 0, .int 0, .ref q_5, .ref q_7, .int 0, .ref q_9, .ref q_10, .ref q_11, .ref q_12])), (q_5, .inr (12, [.int 0, .int 0, .int 0, .int 0, .int 0, .int 0, .ref q_6])), (q_6, .inl (cI, 1001, .inl (fun _ => 0))), (q_7, .inr (12, [.int 0, .int 0, .int 0, .int 0, .int 0, .int 0, .ref q_8])), (q_8, .inl (cI, 1001, .inl (fun _ => 0))), (q_9, .inl (cI, 501, .inl (fun _ => 0))), (q_10, .inl (cI, 501, .inl (fun _ => 0))), (q_11, .inl (cI, 501, .inl (fun _ => 0))), (q_12, .inl (cI, 501, .inl (fun _ => 0)))]) (w1 := [(q_14, .inr (15, [.int 0, .int 0, .int 0, .ref q_15, .ref q_16])), (q_15, .inl (cI, 19, .inl (fun _ => 0))), (q_16, .inl (cI, 9, .inl (fun _ => 0)))]) hP hD [12] [0, 1, 2, 3, 4, 5, 6, 7, 8, 9, 10, 11] rfl rfl (by decide) (by decide) hk1 hFc hP1 hD1
  generalize H1 = H at hP hS ⊢
  have hP : va_P (dC, dI) vwCl [(ra, .inr (7, [.ref q_1, .ref q_4, .null, .null, .null, .null])), (q_1, .inr (12, [.int 0, .int 0, .int 0, .int 0, .int 0, .int 0, .ref q_2])), (q_2, .inl (cI, 1001, .inl (fun _ => 0))), (q_4, .inr (11, [.int 0, .int 0, .ref q_5, .ref q_7, .int 0, .ref q_9, .ref q_10, .ref q_11, .ref q_12])), (q_5, .inr (12, [.int 0, .int 0, .int 0, .int 0, .int 0, .int 0, .ref q_6])), (q_6, .inl (cI, 1001, .inl (fun _ => 0))), (q_7, .inr (12, [.int 0, .int 0, .int 0, .int 0, .int 0, .int 0, .ref q_8])), (q_8, .inl (cI, 1001, .inl (fun _ => 0))), (q_9, .inl (cI, 501, .inl (fun _ => 0))), (q_10, .inl (cI, 501, .inl (fun _ => 0))), (q_11, .inl (cI, 501, .inl (fun _ => 0))), (q_12, .inl (cI, 501, .inl (fun _ => 0))), (q_14, .inr (15, [.int 0, .int 0, .int 0, .ref q_15, .ref q_16])), (q_15, .inl (cI, 19, .inl (fun _ => 0))), (q_16, .inl (cI, 9, .inl (fun _ => 0)))] H := hP
  have hD : va_D A [(ra, .inr (7, [.ref q_1, .ref q_4, .null, .null, .null, .null])), (q_1, .inr (12, [.int 0, .int 0, .int 0, .int 0, .int 0, .int 0, .ref q_2])), (q_2, .inl (cI, 1001, .inl (fun _ => 0))), (q_4, .inr (11, [.int 0, .int 0, .ref q_5, .ref q_7, .int 0, .ref q_9, .ref q_10, .ref q_11, .ref q_12])), (q_5, .inr (12, [.int 0, .int 0, .int 0, .int 0, .int 0, .int 0, .ref q_6])), (q_6, .inl (cI, 1001, .inl (fun _ => 0))), (q_7, .inr (12, [.int 0, .int 0, .int 0, .int 0, .int 0, .int 0, .ref q_8])), (q_8, .inl (cI, 1001, .inl (fun _ => 0))), (q_9, .inl (cI, 501, .inl (fun _ => 0))), (q_10, .inl (cI, 501, .inl (fun _ => 0))), (q_11, .inl (cI, 501, .inl (fun _ => 0))), (q_12, .inl (cI, 501, .inl (fun _ => 0))), (q_14, .inr (15, [.int 0, .int 0, .int 0, .ref q_15, .ref q_16])), (q_15, .inl (cI, 19, .inl (fun _ => 0))), (q_16, .inl (cI, 9, .inl (fun _ => 0)))] := hD
  refine W.widen (k := 14) (n := 5070) (Nat.le_of_ble_eq_true rfl) (Nat.le_of_ble_eq_true rfl) ?_
  refine va_putF (D := (dC, dI)) (ci := 7) (v := .ref q_14) (ty := .object "Beaverhall$WaysBack") (C := RX2) (T := TX2) (N := 6) hx hb hts iWX2 tyX2 tyX2_ok nmX2 hown hK hP hD hS 0 rfl rfl 2 (by decide) (hts (.fieldLink RX2 28 "Beaverhall$Judge" "waysBack" "LBeaverhall$WaysBack;") (by decide +kernel)) (fun _ h9 => h9) rfl hin rfl (by decide +kernel) rfl rfl (Nat.le_of_ble_eq_true rfl) dX2_init_34 (fun H locs hP hD hS => ?_)
  have hP : va_P (dC, dI) vwCl [(ra, .inr (7, [.ref q_1, .ref q_4, .ref q_14, .null, .null, .null])), (q_1, .inr (12, [.int 0, .int 0, .int 0, .int 0, .int 0, .int 0, .ref q_2])), (q_2, .inl (cI, 1001, .inl (fun _ => 0))), (q_4, .inr (11, [.int 0, .int 0, .ref q_5, .ref q_7, .int 0, .ref q_9, .ref q_10, .ref q_11, .ref q_12])), (q_5, .inr (12, [.int 0, .int 0, .int 0, .int 0, .int 0, .int 0, .ref q_6])), (q_6, .inl (cI, 1001, .inl (fun _ => 0))), (q_7, .inr (12, [.int 0, .int 0, .int 0, .int 0, .int 0, .int 0, .ref q_8])), (q_8, .inl (cI, 1001, .inl (fun _ => 0))), (q_9, .inl (cI, 501, .inl (fun _ => 0))), (q_10, .inl (cI, 501, .inl (fun _ => 0))), (q_11, .inl (cI, 501, .inl (fun _ => 0))), (q_12, .inl (cI, 501, .inl (fun _ => 0))), (q_14, .inr (15, [.int 0, .int 0, .int 0, .ref q_15, .ref q_16])), (q_15, .inl (cI, 19, .inl (fun _ => 0))), (q_16, .inl (cI, 9, .inl (fun _ => 0)))] H := hP
  have hD : va_D A [(ra, .inr (7, [.ref q_1, .ref q_4, .ref q_14, .null, .null, .null])), (q_1, .inr (12, [.int 0, .int 0, .int 0, .int 0, .int 0, .int 0, .ref q_2])), (q_2, .inl (cI, 1001, .inl (fun _ => 0))), (q_4, .inr (11, [.int 0, .int 0, .ref q_5, .ref q_7, .int 0, .ref q_9, .ref q_10, .ref q_11, .ref q_12])), (q_5, .inr (12, [.int 0, .int 0, .int 0, .int 0, .int 0, .int 0, .ref q_6])), (q_6, .inl (cI, 1001, .inl (fun _ => 0))), (q_7, .inr (12, [.int 0, .int 0, .int 0, .int 0, .int 0, .int 0, .ref q_8])), (q_8, .inl (cI, 1001, .inl (fun _ => 0))), (q_9, .inl (cI, 501, .inl (fun _ => 0))), (q_10, .inl (cI, 501, .inl (fun _ => 0))), (q_11, .inl (cI, 501, .inl (fun _ => 0))), (q_12, .inl (cI, 501, .inl (fun _ => 0))), (q_14, .inr (15, [.int 0, .int 0, .int 0, .ref q_15, .ref q_16])), (q_15, .inl (cI, 19, .inl (fun _ => 0))), (q_16, .inl (cI, 9, .inl (fun _ => 0)))] := hD
  refine lv_aload_n hx hb dX2_init_37 rfl (lv_at hl 0 rfl) ?_
  refine va_new (ci := 12) (fs := [.int 0, .int 0, .int 0, .int 0, .int 0, .int 0, .null]) (C := RX7) (T := TX7) (N := 7) hx hb hts iWX7 tyX7 tyX7_ok hown (hts (.classLink RX2 9 RX7) (by decide +kernel)) (hts (.instantiable RX7 7) (by decide +kernel)) (hts (.initialized RX7) (by decide +kernel)) hK hP hD hS hA rfl (fun j hj => by rcases (show j = 0 ∨ j = 1 ∨ j = 2 ∨ j = 3 ∨ j = 4 ∨ j = 5 ∨ j = 6 by omega) with rfl | rfl | rfl | rfl | rfl | rfl | rfl <;> rfl) (Nat.le_of_ble_eq_true rfl) (Nat.le_of_ble_eq_true rfl) dX2_init_38 (fun q_18 H hP hD hS => ?_)
  have hP : va_P (dC, dI) vwCl [(ra, .inr (7, [.ref q_1, .ref q_4, .ref q_14, .null, .null, .null])), (q_1, .inr (12, [.int 0, .int 0, .int 0, .int 0, .int 0, .int 0, .ref q_2])), (q_2, .inl (cI, 1001, .inl (fun _ => 0))), (q_4, .inr (11, [.int 0, .int 0, .ref q_5, .ref q_7, .int 0, .ref q_9, .ref q_10, .ref q_11, .ref q_12])), (q_5, .inr (12, [.int 0, .int 0, .int 0, .int 0, .int 0, .int 0, .ref q_6])), (q_6, .inl (cI, 1001, .inl (fun _ => 0))), (q_7, .inr (12, [.int 0, .int 0, .int 0, .int 0, .int 0, .int 0, .ref q_8])), (q_8, .inl (cI, 1001, .inl (fun _ => 0))), (q_9, .inl (cI, 501, .inl (fun _ => 0))), (q_10, .inl (cI, 501, .inl (fun _ => 0))), (q_11, .inl (cI, 501, .inl (fun _ => 0))), (q_12, .inl (cI, 501, .inl (fun _ => 0))), (q_14, .inr (15, [.int 0, .int 0, .int 0, .ref q_15, .ref q_16])), (q_15, .inl (cI, 19, .inl (fun _ => 0))), (q_16, .inl (cI, 9, .inl (fun _ => 0))), (q_18, .inr (12, [.int 0, .int 0, .int 0, .int 0, .int 0, .int 0, .null]))] H := hP
  have hD : va_D A [(ra, .inr (7, [.ref q_1, .ref q_4, .ref q_14, .null, .null, .null])), (q_1, .inr (12, [.int 0, .int 0, .int 0, .int 0, .int 0, .int 0, .ref q_2])), (q_2, .inl (cI, 1001, .inl (fun _ => 0))), (q_4, .inr (11, [.int 0, .int 0, .ref q_5, .ref q_7, .int 0, .ref q_9, .ref q_10, .ref q_11, .ref q_12])), (q_5, .inr (12, [.int 0, .int 0, .int 0, .int 0, .int 0, .int 0, .ref q_6])), (q_6, .inl (cI, 1001, .inl (fun _ => 0))), (q_7, .inr (12, [.int 0, .int 0, .int 0, .int 0, .int 0, .int 0, .ref q_8])), (q_8, .inl (cI, 1001, .inl (fun _ => 0))), (q_9, .inl (cI, 501, .inl (fun _ => 0))), (q_10, .inl (cI, 501, .inl (fun _ => 0))), (q_11, .inl (cI, 501, .inl (fun _ => 0))), (q_12, .inl (cI, 501, .inl (fun _ => 0))), (q_14, .inr (15, [.int 0, .int 0, .int 0, .ref q_15, .ref q_16])), (q_15, .inl (cI, 19, .inl (fun _ => 0))), (q_16, .inl (cI, 9, .inl (fun _ => 0))), (q_18, .inr (12, [.int 0, .int 0, .int 0, .int 0, .int 0, .int 0, .null]))] := hD
  refine W.widen (k := 15) (n := 5077) (Nat.le_of_ble_eq_true rfl) (Nat.le_of_ble_eq_true rfl) ?_
  refine lv_dup hx hb dX2_init_41 rfl ?_
  have hPc := hP.sub (ws' := [(q_18, .inr (12, [.int 0, .int 0, .int 0, .int 0, .int 0, .int 0, .null]))]) [15] rfl
  have hDc := hD.sub (ws' := [(q_18, .inr (12, [.int 0, .int 0, .int 0, .int 0, .int 0, .int 0, .null]))]) [15] (by decide) rfl
  have hKc := hK.sub (tys' := [(cI, .int)]) [0] rfl
  have hFc := va_free (wc := [(q_18, .inr (12, [.int 0, .int 0, .int 0, .int 0, .int 0, .int 0, .null]))]) hD hS hA [15] rfl
  refine va_callv (va_runIN (As := []) (rest := [.ref q_18, .ref ra]) ⟨hx, hb, hml, hown, hts⟩ (c_X7_init l dC dI cI q_18 H.size) ⟨va_cnB 0 hts gX2_init_X7_init_n11 rfl rfl rfl (hN (.methodLinkNest RX2 11 yX7_init "Beaverhall") (by decide +kernel)) (hts (.initialized RX7) (by decide +kernel)) (by decide +kernel) ⟨Nat.le_of_ble_eq_true rfl, Nat.le_of_ble_eq_true rfl⟩, rfl, hts (.instanceMethod yX7_init) (by decide +kernel)⟩ (pcS hPc hDc hKc hN) rfl rfl hl.1 rfl (lv_room (Nat.le_of_ble_eq_true rfl)) dX2_init_42 ⟨Nat.le_of_ble_eq_true rfl, Nat.le_of_ble_eq_true rfl⟩) hS (fun q _ h => hFc q h) hFc (fun u t H1 locs ht hvm hw_20 hB hz1 hk1 hS => ?_)
  obtain ⟨hP1, hK1, hD1⟩ := hB
  rw [ht] at hP1
  try dsimp only at hw_20
  obtain ⟨hP, hD⟩ := va_join (wr := [(ra, .inr (7, [.ref q_1, .ref q_4, .ref q_14, .null, .null, .null])), (q_1, .inr (12, [.int 0, .int 0, .int 0, .int 0, .int 0, .int 0, .ref q_2])), (q_2, .inl (cI, 1001, .inl (fun _ => 0))), (q_4, .inr (11, [.int 0, .int 0, .ref q_5, .ref q_7, .int 0, .ref q_9, .ref q_10, .ref q_11, .ref q_12])), (q_5, .inr (12, [.int 0, .int 0, .int 0, .int 0, .int 0, .int 0, .ref q_6])), (q_6, .inl (cI, 1001, .inl (fun _ => 0))), (q_7, .inr (12, [.int 0, .int 0, .int 0, .int 0, .int 0, .int 0, .ref q_8])), (q_8, .inl (cI, 1001, .inl (fun _ => 0))), (q_9, .inl (cI, 501, .inl (fun _ => 0))), (q_10, .inl (cI, 501, .inl (fun _ => 0))), (q_11, .inl (cI, 501, .inl (fun _ => 0))), (q_12, .inl (cI, 501, .inl (fun _ => 0))), (q_14, .inr (15, [.int 0, .int 0, .int 0, .ref q_15, .ref q_16])), (q_15, .inl (cI, 19, .inl (fun _ => 0))), (q_16, .inl (cI, 9, .inl (fun _ => 0)))]) (w1 := [(q_18, .inr (12, [.int 0, .int 0, .int 0, .int 0, .int 0, .int 0, .ref u])), (u, .inl (cI, 1001, .inl (fun _ => 0)))]) hP hD [15] [0, 1, 2, 3, 4, 5, 6, 7, 8, 9, 10, 11, 12, 13, 14] rfl rfl (by decide) (by decide) hk1 hFc hP1 hD1
  generalize H1 = H at hP hS ⊢
  have hP : va_P (dC, dI) vwCl [(ra, .inr (7, [.ref q_1, .ref q_4, .ref q_14, .null, .null, .null])), (q_1, .inr (12, [.int 0, .int 0, .int 0, .int 0, .int 0, .int 0, .ref q_2])), (q_2, .inl (cI, 1001, .inl (fun _ => 0))), (q_4, .inr (11, [.int 0, .int 0, .ref q_5, .ref q_7, .int 0, .ref q_9, .ref q_10, .ref q_11, .ref q_12])), (q_5, .inr (12, [.int 0, .int 0, .int 0, .int 0, .int 0, .int 0, .ref q_6])), (q_6, .inl (cI, 1001, .inl (fun _ => 0))), (q_7, .inr (12, [.int 0, .int 0, .int 0, .int 0, .int 0, .int 0, .ref q_8])), (q_8, .inl (cI, 1001, .inl (fun _ => 0))), (q_9, .inl (cI, 501, .inl (fun _ => 0))), (q_10, .inl (cI, 501, .inl (fun _ => 0))), (q_11, .inl (cI, 501, .inl (fun _ => 0))), (q_12, .inl (cI, 501, .inl (fun _ => 0))), (q_14, .inr (15, [.int 0, .int 0, .int 0, .ref q_15, .ref q_16])), (q_15, .inl (cI, 19, .inl (fun _ => 0))), (q_16, .inl (cI, 9, .inl (fun _ => 0))), (q_18, .inr (12, [.int 0, .int 0, .int 0, .int 0, .int 0, .int 0, .ref u])), (u, .inl (cI, 1001, .inl (fun _ => 0)))] H := hP
  have hD : va_D A [(ra, .inr (7, [.ref q_1, .ref q_4, .ref q_14, .null, .null, .null])), (q_1, .inr (12, [.int 0, .int 0, .int 0, .int 0, .int 0, .int 0, .ref q_2])), (q_2, .inl (cI, 1001, .inl (fun _ => 0))), (q_4, .inr (11, [.int 0, .int 0, .ref q_5, .ref q_7, .int 0, .ref q_9, .ref q_10, .ref q_11, .ref q_12])), (q_5, .inr (12, [.int 0, .int 0, .int 0, .int 0, .int 0, .int 0, .ref q_6])), (q_6, .inl (cI, 1001, .inl (fun _ => 0))), (q_7, .inr (12, [.int 0, .int 0, .int 0, .int 0, .int 0, .int 0, .ref q_8])), (q_8, .inl (cI, 1001, .inl (fun _ => 0))), (q_9, .inl (cI, 501, .inl (fun _ => 0))), (q_10, .inl (cI, 501, .inl (fun _ => 0))), (q_11, .inl (cI, 501, .inl (fun _ => 0))), (q_12, .inl (cI, 501, .inl (fun _ => 0))), (q_14, .inr (15, [.int 0, .int 0, .int 0, .ref q_15, .ref q_16])), (q_15, .inl (cI, 19, .inl (fun _ => 0))), (q_16, .inl (cI, 9, .inl (fun _ => 0))), (q_18, .inr (12, [.int 0, .int 0, .int 0, .int 0, .int 0, .int 0, .ref u])), (u, .inl (cI, 1001, .inl (fun _ => 0)))] := hD
  refine W.widen (k := 16) (n := 6078) (Nat.le_of_ble_eq_true rfl) (Nat.le_of_ble_eq_true rfl) ?_
  obtain ⟨q_19, eq_19⟩ : ∃ z, z = u := ⟨_, rfl⟩
  subst eq_19
  refine va_putF (D := (dC, dI)) (ci := 7) (v := .ref q_18) (ty := .object "Beaverhall$Run") (C := RX2) (T := TX2) (N := 6) hx hb hts iWX2 tyX2 tyX2_ok nmX2 hown hK hP hD hS 0 rfl rfl 3 (by decide) (hts (.fieldLink RX2 32 "Beaverhall$Judge" "then" "LBeaverhall$Run;") (by decide +kernel)) (fun _ h9 => h9) rfl hin rfl (by decide +kernel) rfl rfl (Nat.le_of_ble_eq_true rfl) dX2_init_45 (fun H locs hP hD hS => ?_)
  have hP : va_P (dC, dI) vwCl [(ra, .inr (7, [.ref q_1, .ref q_4, .ref q_14, .ref q_18, .null, .null])), (q_1, .inr (12, [.int 0, .int 0, .int 0, .int 0, .int 0, .int 0, .ref q_2])), (q_2, .inl (cI, 1001, .inl (fun _ => 0))), (q_4, .inr (11, [.int 0, .int 0, .ref q_5, .ref q_7, .int 0, .ref q_9, .ref q_10, .ref q_11, .ref q_12])), (q_5, .inr (12, [.int 0, .int 0, .int 0, .int 0, .int 0, .int 0, .ref q_6])), (q_6, .inl (cI, 1001, .inl (fun _ => 0))), (q_7, .inr (12, [.int 0, .int 0, .int 0, .int 0, .int 0, .int 0, .ref q_8])), (q_8, .inl (cI, 1001, .inl (fun _ => 0))), (q_9, .inl (cI, 501, .inl (fun _ => 0))), (q_10, .inl (cI, 501, .inl (fun _ => 0))), (q_11, .inl (cI, 501, .inl (fun _ => 0))), (q_12, .inl (cI, 501, .inl (fun _ => 0))), (q_14, .inr (15, [.int 0, .int 0, .int 0, .ref q_15, .ref q_16])), (q_15, .inl (cI, 19, .inl (fun _ => 0))), (q_16, .inl (cI, 9, .inl (fun _ => 0))), (q_18, .inr (12, [.int 0, .int 0, .int 0, .int 0, .int 0, .int 0, .ref q_19])), (q_19, .inl (cI, 1001, .inl (fun _ => 0)))] H := hP
  have hD : va_D A [(ra, .inr (7, [.ref q_1, .ref q_4, .ref q_14, .ref q_18, .null, .null])), (q_1, .inr (12, [.int 0, .int 0, .int 0, .int 0, .int 0, .int 0, .ref q_2])), (q_2, .inl (cI, 1001, .inl (fun _ => 0))), (q_4, .inr (11, [.int 0, .int 0, .ref q_5, .ref q_7, .int 0, .ref q_9, .ref q_10, .ref q_11, .ref q_12])), (q_5, .inr (12, [.int 0, .int 0, .int 0, .int 0, .int 0, .int 0, .ref q_6])), (q_6, .inl (cI, 1001, .inl (fun _ => 0))), (q_7, .inr (12, [.int 0, .int 0, .int 0, .int 0, .int 0, .int 0, .ref q_8])), (q_8, .inl (cI, 1001, .inl (fun _ => 0))), (q_9, .inl (cI, 501, .inl (fun _ => 0))), (q_10, .inl (cI, 501, .inl (fun _ => 0))), (q_11, .inl (cI, 501, .inl (fun _ => 0))), (q_12, .inl (cI, 501, .inl (fun _ => 0))), (q_14, .inr (15, [.int 0, .int 0, .int 0, .ref q_15, .ref q_16])), (q_15, .inl (cI, 19, .inl (fun _ => 0))), (q_16, .inl (cI, 9, .inl (fun _ => 0))), (q_18, .inr (12, [.int 0, .int 0, .int 0, .int 0, .int 0, .int 0, .ref q_19])), (q_19, .inl (cI, 1001, .inl (fun _ => 0)))] := hD
  refine lv_aload_n hx hb dX2_init_48 rfl (lv_at hl 0 rfl) ?_
  refine va_new (ci := 13) (fs := [.int 0, .int 0, .int 0, .int 0, .int 0, .null, .null, .null]) (C := RX8) (T := TX8) (N := 8) hx hb hts iWX8 tyX8 tyX8_ok hown (hts (.classLink RX2 35 RX8) (by decide +kernel)) (hts (.instantiable RX8 8) (by decide +kernel)) (hts (.initialized RX8) (by decide +kernel)) hK hP hD hS hA rfl (fun j hj => by rcases (show j = 0 ∨ j = 1 ∨ j = 2 ∨ j = 3 ∨ j = 4 ∨ j = 5 ∨ j = 6 ∨ j = 7 by omega) with rfl | rfl | rfl | rfl | rfl | rfl | rfl | rfl <;> rfl) (Nat.le_of_ble_eq_true rfl) (Nat.le_of_ble_eq_true rfl) dX2_init_49 (fun q_21 H hP hD hS => ?_)
  have hP : va_P (dC, dI) vwCl [(ra, .inr (7, [.ref q_1, .ref q_4, .ref q_14, .ref q_18, .null, .null])), (q_1, .inr (12, [.int 0, .int 0, .int 0, .int 0, .int 0, .int 0, .ref q_2])), (q_2, .inl (cI, 1001, .inl (fun _ => 0))), (q_4, .inr (11, [.int 0, .int 0, .ref q_5, .ref q_7, .int 0, .ref q_9, .ref q_10, .ref q_11, .ref q_12])), (q_5, .inr (12, [.int 0, .int 0, .int 0, .int 0, .int 0, .int 0, .ref q_6])), (q_6, .inl (cI, 1001, .inl (fun _ => 0))), (q_7, .inr (12, [.int 0, .int 0, .int 0, .int 0, .int 0, .int 0, .ref q_8])), (q_8, .inl (cI, 1001, .inl (fun _ => 0))), (q_9, .inl (cI, 501, .inl (fun _ => 0))), (q_10, .inl (cI, 501, .inl (fun _ => 0))), (q_11, .inl (cI, 501, .inl (fun _ => 0))), (q_12, .inl (cI, 501, .inl (fun _ => 0))), (q_14, .inr (15, [.int 0, .int 0, .int 0, .ref q_15, .ref q_16])), (q_15, .inl (cI, 19, .inl (fun _ => 0))), (q_16, .inl (cI, 9, .inl (fun _ => 0))), (q_18, .inr (12, [.int 0, .int 0, .int 0, .int 0, .int 0, .int 0, .ref q_19])), (q_19, .inl (cI, 1001, .inl (fun _ => 0))), (q_21, .inr (13, [.int 0, .int 0, .int 0, .int 0, .int 0, .null, .null, .null]))] H := hP
  have hD : va_D A [(ra, .inr (7, [.ref q_1, .ref q_4, .ref q_14, .ref q_18, .null, .null])), (q_1, .inr (12, [.int 0, .int 0, .int 0, .int 0, .int 0, .int 0, .ref q_2])), (q_2, .inl (cI, 1001, .inl (fun _ => 0))), (q_4, .inr (11, [.int 0, .int 0, .ref q_5, .ref q_7, .int 0, .ref q_9, .ref q_10, .ref q_11, .ref q_12])), (q_5, .inr (12, [.int 0, .int 0, .int 0, .int 0, .int 0, .int 0, .ref q_6])), (q_6, .inl (cI, 1001, .inl (fun _ => 0))), (q_7, .inr (12, [.int 0, .int 0, .int 0, .int 0, .int 0, .int 0, .ref q_8])), (q_8, .inl (cI, 1001, .inl (fun _ => 0))), (q_9, .inl (cI, 501, .inl (fun _ => 0))), (q_10, .inl (cI, 501, .inl (fun _ => 0))), (q_11, .inl (cI, 501, .inl (fun _ => 0))), (q_12, .inl (cI, 501, .inl (fun _ => 0))), (q_14, .inr (15, [.int 0, .int 0, .int 0, .ref q_15, .ref q_16])), (q_15, .inl (cI, 19, .inl (fun _ => 0))), (q_16, .inl (cI, 9, .inl (fun _ => 0))), (q_18, .inr (12, [.int 0, .int 0, .int 0, .int 0, .int 0, .int 0, .ref q_19])), (q_19, .inl (cI, 1001, .inl (fun _ => 0))), (q_21, .inr (13, [.int 0, .int 0, .int 0, .int 0, .int 0, .null, .null, .null]))] := hD
  refine W.widen (k := 17) (n := 6086) (Nat.le_of_ble_eq_true rfl) (Nat.le_of_ble_eq_true rfl) ?_
  refine lv_dup hx hb dX2_init_52 rfl ?_
  have hPc := hP.sub (ws' := [(q_21, .inr (13, [.int 0, .int 0, .int 0, .int 0, .int 0, .null, .null, .null]))]) [17] rfl
  have hDc := hD.sub (ws' := [(q_21, .inr (13, [.int 0, .int 0, .int 0, .int 0, .int 0, .null, .null, .null]))]) [17] (by decide) rfl
  have hKc := hK.sub (tys' := [(cI, .int)]) [0] rfl
  have hFc := va_free (wc := [(q_21, .inr (13, [.int 0, .int 0, .int 0, .int 0, .int 0, .null, .null, .null]))]) hD hS hA [17] rfl
  refine va_callv (va_runIN (As := []) (rest := [.ref q_21, .ref ra]) ⟨hx, hb, hml, hown, hts⟩ (c_X8_init l dC dI cI q_21 H.size) ⟨va_cnB 0 hts gX2_init_X8_init_n37 rfl rfl rfl (hN (.methodLinkNest RX2 37 yX8_init "Beaverhall") (by decide +kernel)) (hts (.initialized RX8) (by decide +kernel)) (by decide +kernel) ⟨Nat.le_of_ble_eq_true rfl, Nat.le_of_ble_eq_true rfl⟩, rfl, hts (.instanceMethod yX8_init) (by decide +kernel)⟩ (pcS hPc hDc hKc hN) rfl rfl hl.1 rfl (lv_room (Nat.le_of_ble_eq_true rfl)) dX2_init_53 ⟨Nat.le_of_ble_eq_true rfl, Nat.le_of_ble_eq_true rfl⟩) hS (fun q _ h => hFc q h) hFc (fun u t H1 locs ht hvm hw_25 hB hz1 hk1 hS => ?_)
  obtain ⟨q_22, q_23, q_24⟩ := u
  obtain ⟨hP1, hK1, hD1⟩ := hB
  rw [ht] at hP1
  try dsimp only at hw_25
  obtain ⟨hP, hD⟩ := va_join (wr := [(ra, .inr (7, [.ref q_1, .ref q_4, .ref q_14, .ref q_18, .null, .null])), (q_1, .inr (12, [.int 0, .int 0, .int 0, .int 0, .int 0, .int 0, .ref q_2])), (q_2, .inl (cI, 1001, .inl (fun _ => 0))), (q_4, .inr (11, [.int 0, .int 0, .ref q_5, .ref q_7, .int 0, .ref q_9, .ref q_10, .ref q_11, .ref q_12])), (q_5, .inr (12, [.int 0, .int 0, .int 0, .int 0, .int 0, .int 0, .ref q_6])), (q_6, .inl (cI, 1001, .inl (fun _ => 0))), (q_7, .inr (12, [.int 0, .int 0, .int 0, .int 0, .int 0, .int 0, .ref q_8])), (q_8, .inl (cI, 1001, .inl (fun _ => 0))), (q_9, .inl (cI, 501, .inl (fun _ => 0))), (q_10, .inl (cI, 501, .inl (fun _ => 0))), (q_11, .inl (cI, 501, .inl (fun _ => 0))), (q_12, .inl (cI, 501, .inl (fun _ => 0))), (q_14, .inr (15, [.int 0, .int 0, .int 0, .ref q_15, .ref q_16])), (q_15, .inl (cI, 19, .inl (fun _ => 0))), (q_16, .inl (cI, 9, .inl (fun _ => 0))), (q_18, .inr (12, [.int 0, .int 0, .int 0, .int 0, .int 0, .int 0, .ref q_19])), (q_19, .inl (cI, 1001, .inl (fun _ => 0)))]) (w1 := [(q_21, .inr (13, [.int 0, .int 0, .int 0, .int 0, .int 0, .ref q_22, .ref q_23, .ref q_24])), (q_22, .inl (cI, 2002, .inl (fun _ => 0))), (q_23, .inl (cI, 2002, .inl (fun _ => 0))), (q_24, .inl (cI, 2, .inl (fun _ => 0)))]) hP hD [17] [0, 1, 2, 3, 4, 5, 6, 7, 8, 9, 10, 11, 12, 13, 14, 15, 16] rfl rfl (by decide) (by decide) hk1 hFc hP1 hD1
  generalize H1 = H at hP hS ⊢
  have hP : va_P (dC, dI) vwCl [(ra, .inr (7, [.ref q_1, .ref q_4, .ref q_14, .ref q_18, .null, .null])), (q_1, .inr (12, [.int 0, .int 0, .int 0, .int 0, .int 0, .int 0, .ref q_2])), (q_2, .inl (cI, 1001, .inl (fun _ => 0))), (q_4, .inr (11, [.int 0, .int 0, .ref q_5, .ref q_7, .int 0, .ref q_9, .ref q_10, .ref q_11, .ref q_12])), (q_5, .inr (12, [.int 0, .int 0, .int 0, .int 0, .int 0, .int 0, .ref q_6])), (q_6, .inl (cI, 1001, .inl (fun _ => 0))), (q_7, .inr (12, [.int 0, .int 0, .int 0, .int 0, .int 0, .int 0, .ref q_8])), (q_8, .inl (cI, 1001, .inl (fun _ => 0))), (q_9, .inl (cI, 501, .inl (fun _ => 0))), (q_10, .inl (cI, 501, .inl (fun _ => 0))), (q_11, .inl (cI, 501, .inl (fun _ => 0))), (q_12, .inl (cI, 501, .inl (fun _ => 0))), (q_14, .inr (15, [.int 0, .int 0, .int 0, .ref q_15, .ref q_16])), (q_15, .inl (cI, 19, .inl (fun _ => 0))), (q_16, .inl (cI, 9, .inl (fun _ => 0))), (q_18, .inr (12, [.int 0, .int 0, .int 0, .int 0, .int 0, .int 0, .ref q_19])), (q_19, .inl (cI, 1001, .inl (fun _ => 0))), (q_21, .inr (13, [.int 0, .int 0, .int 0, .int 0, .int 0, .ref q_22, .ref q_23, .ref q_24])), (q_22, .inl (cI, 2002, .inl (fun _ => 0))), (q_23, .inl (cI, 2002, .inl (fun _ => 0))), (q_24, .inl (cI, 2, .inl (fun _ => 0)))] H := hP
  have hD : va_D A [(ra, .inr (7, [.ref q_1, .ref q_4, .ref q_14, .ref q_18, .null, .null])), (q_1, .inr (12, [.int 0, .int 0, .int 0, .int 0, .int 0, .int 0, .ref q_2])), (q_2, .inl (cI, 1001, .inl (fun _ => 0))), (q_4, .inr (11, [.int 0, .int 0, .ref q_5, .ref q_7, .int 0, .ref q_9, .ref q_10, .ref q_11, .ref q_12])), (q_5, .inr (12, [.int 0, .int 0, .int 0, .int 0, .int 0, .int 0, .ref q_6])), (q_6, .inl (cI, 1001, .inl (fun _ => 0))), (q_7, .inr (12, [.int 0, .int 0, .int 0, .int 0, .int 0, .int 0, .ref q_8])), (q_8, .inl (cI, 1001, .inl (fun _ => 0))), (q_9, .inl (cI, 501, .inl (fun _ => 0))), (q_10, .inl (cI, 501, .inl (fun _ => 0))), (q_11, .inl (cI, 501, .inl (fun _ => 0))), (q_12, .inl (cI, 501, .inl (fun _ => 0))), (q_14, .inr (15, [.int 0, .int 0, .int 0, .ref q_15, .ref q_16])), (q_15, .inl (cI, 19, .inl (fun _ => 0))), (q_16, .inl (cI, 9, .inl (fun _ => 0))), (q_18, .inr (12, [.int 0, .int 0, .int 0, .int 0, .int 0, .int 0, .ref q_19])), (q_19, .inl (cI, 1001, .inl (fun _ => 0))), (q_21, .inr (13, [.int 0, .int 0, .int 0, .int 0, .int 0, .ref q_22, .ref q_23, .ref q_24])), (q_22, .inl (cI, 2002, .inl (fun _ => 0))), (q_23, .inl (cI, 2002, .inl (fun _ => 0))), (q_24, .inl (cI, 2, .inl (fun _ => 0)))] := hD
  refine W.widen (k := 20) (n := 10092) (Nat.le_of_ble_eq_true rfl) (Nat.le_of_ble_eq_true rfl) ?_
  refine va_putF (D := (dC, dI)) (ci := 7) (v := .ref q_21) (ty := .object "Beaverhall$RunByRows") (C := RX2) (T := TX2) (N := 6) hx hb hts iWX2 tyX2 tyX2_ok nmX2 hown hK hP hD hS 0 rfl rfl 4 (by decide) (hts (.fieldLink RX2 38 "Beaverhall$Judge" "byRows" "LBeaverhall$RunByRows;") (by decide +kernel)) (fun _ h9 => h9) rfl hin rfl (by decide +kernel) rfl rfl (Nat.le_of_ble_eq_true rfl) dX2_init_56 (fun H locs hP hD hS => ?_)
  have hP : va_P (dC, dI) vwCl [(ra, .inr (7, [.ref q_1, .ref q_4, .ref q_14, .ref q_18, .ref q_21, .null])), (q_1, .inr (12, [.int 0, .int 0, .int 0, .int 0, .int 0, .int 0, .ref q_2])), (q_2, .inl (cI, 1001, .inl (fun _ => 0))), (q_4, .inr (11, [.int 0, .int 0, .ref q_5, .ref q_7, .int 0, .ref q_9, .ref q_10, .ref q_11, .ref q_12])), (q_5, .inr (12, [.int 0, .int 0, .int 0, .int 0, .int 0, .int 0, .ref q_6])), (q_6, .inl (cI, 1001, .inl (fun _ => 0))), (q_7, .inr (12, [.int 0, .int 0, .int 0, .int 0, .int 0, .int 0, .ref q_8])), (q_8, .inl (cI, 1001, .inl (fun _ => 0))), (q_9, .inl (cI, 501, .inl (fun _ => 0))), (q_10, .inl (cI, 501, .inl (fun _ => 0))), (q_11, .inl (cI, 501, .inl (fun _ => 0))), (q_12, .inl (cI, 501, .inl (fun _ => 0))), (q_14, .inr (15, [.int 0, .int 0, .int 0, .ref q_15, .ref q_16])), (q_15, .inl (cI, 19, .inl (fun _ => 0))), (q_16, .inl (cI, 9, .inl (fun _ => 0))), (q_18, .inr (12, [.int 0, .int 0, .int 0, .int 0, .int 0, .int 0, .ref q_19])), (q_19, .inl (cI, 1001, .inl (fun _ => 0))), (q_21, .inr (13, [.int 0, .int 0, .int 0, .int 0, .int 0, .ref q_22, .ref q_23, .ref q_24])), (q_22, .inl (cI, 2002, .inl (fun _ => 0))), (q_23, .inl (cI, 2002, .inl (fun _ => 0))), (q_24, .inl (cI, 2, .inl (fun _ => 0)))] H := hP
  have hD : va_D A [(ra, .inr (7, [.ref q_1, .ref q_4, .ref q_14, .ref q_18, .ref q_21, .null])), (q_1, .inr (12, [.int 0, .int 0, .int 0, .int 0, .int 0, .int 0, .ref q_2])), (q_2, .inl (cI, 1001, .inl (fun _ => 0))), (q_4, .inr (11, [.int 0, .int 0, .ref q_5, .ref q_7, .int 0, .ref q_9, .ref q_10, .ref q_11, .ref q_12])), (q_5, .inr (12, [.int 0, .int 0, .int 0, .int 0, .int 0, .int 0, .ref q_6])), (q_6, .inl (cI, 1001, .inl (fun _ => 0))), (q_7, .inr (12, [.int 0, .int 0, .int 0, .int 0, .int 0, .int 0, .ref q_8])), (q_8, .inl (cI, 1001, .inl (fun _ => 0))), (q_9, .inl (cI, 501, .inl (fun _ => 0))), (q_10, .inl (cI, 501, .inl (fun _ => 0))), (q_11, .inl (cI, 501, .inl (fun _ => 0))), (q_12, .inl (cI, 501, .inl (fun _ => 0))), (q_14, .inr (15, [.int 0, .int 0, .int 0, .ref q_15, .ref q_16])), (q_15, .inl (cI, 19, .inl (fun _ => 0))), (q_16, .inl (cI, 9, .inl (fun _ => 0))), (q_18, .inr (12, [.int 0, .int 0, .int 0, .int 0, .int 0, .int 0, .ref q_19])), (q_19, .inl (cI, 1001, .inl (fun _ => 0))), (q_21, .inr (13, [.int 0, .int 0, .int 0, .int 0, .int 0, .ref q_22, .ref q_23, .ref q_24])), (q_22, .inl (cI, 2002, .inl (fun _ => 0))), (q_23, .inl (cI, 2002, .inl (fun _ => 0))), (q_24, .inl (cI, 2, .inl (fun _ => 0)))] := hD
  refine lv_aload_n hx hb dX2_init_59 rfl (lv_at hl 0 rfl) ?_
  refine va_new (ci := 9) (fs := [.int 0, .int 0, .int 0, .long 0, .long 0, .null, .null]) (C := RX4) (T := TX4) (N := 7) hx hb hts iWX4 tyX4 tyX4_ok hown (hts (.classLink RX2 42 RX4) (by decide +kernel)) (hts (.instantiable RX4 7) (by decide +kernel)) (hts (.initialized RX4) (by decide +kernel)) hK hP hD hS hA rfl (fun j hj => by rcases (show j = 0 ∨ j = 1 ∨ j = 2 ∨ j = 3 ∨ j = 4 ∨ j = 5 ∨ j = 6 by omega) with rfl | rfl | rfl | rfl | rfl | rfl | rfl <;> rfl) (Nat.le_of_ble_eq_true rfl) (Nat.le_of_ble_eq_true rfl) dX2_init_60 (fun q_26 H hP hD hS => ?_)
  have hP : va_P (dC, dI) vwCl [(ra, .inr (7, [.ref q_1, .ref q_4, .ref q_14, .ref q_18, .ref q_21, .null])), (q_1, .inr (12, [.int 0, .int 0, .int 0, .int 0, .int 0, .int 0, .ref q_2])), (q_2, .inl (cI, 1001, .inl (fun _ => 0))), (q_4, .inr (11, [.int 0, .int 0, .ref q_5, .ref q_7, .int 0, .ref q_9, .ref q_10, .ref q_11, .ref q_12])), (q_5, .inr (12, [.int 0, .int 0, .int 0, .int 0, .int 0, .int 0, .ref q_6])), (q_6, .inl (cI, 1001, .inl (fun _ => 0))), (q_7, .inr (12, [.int 0, .int 0, .int 0, .int 0, .int 0, .int 0, .ref q_8])), (q_8, .inl (cI, 1001, .inl (fun _ => 0))), (q_9, .inl (cI, 501, .inl (fun _ => 0))), (q_10, .inl (cI, 501, .inl (fun _ => 0))), (q_11, .inl (cI, 501, .inl (fun _ => 0))), (q_12, .inl (cI, 501, .inl (fun _ => 0))), (q_14, .inr (15, [.int 0, .int 0, .int 0, .ref q_15, .ref q_16])), (q_15, .inl (cI, 19, .inl (fun _ => 0))), (q_16, .inl (cI, 9, .inl (fun _ => 0))), (q_18, .inr (12, [.int 0, .int 0, .int 0, .int 0, .int 0, .int 0, .ref q_19])), (q_19, .inl (cI, 1001, .inl (fun _ => 0))), (q_21, .inr (13, [.int 0, .int 0, .int 0, .int 0, .int 0, .ref q_22, .ref q_23, .ref q_24])), (q_22, .inl (cI, 2002, .inl (fun _ => 0))), (q_23, .inl (cI, 2002, .inl (fun _ => 0))), (q_24, .inl (cI, 2, .inl (fun _ => 0))), (q_26, .inr (9, [.int 0, .int 0, .int 0, .long 0, .long 0, .null, .null]))] H := hP
  have hD : va_D A [(ra, .inr (7, [.ref q_1, .ref q_4, .ref q_14, .ref q_18, .ref q_21, .null])), (q_1, .inr (12, [.int 0, .int 0, .int 0, .int 0, .int 0, .int 0, .ref q_2])), (q_2, .inl (cI, 1001, .inl (fun _ => 0))), (q_4, .inr (11, [.int 0, .int 0, .ref q_5, .ref q_7, .int 0, .ref q_9, .ref q_10, .ref q_11, .ref q_12])), (q_5, .inr (12, [.int 0, .int 0, .int 0, .int 0, .int 0, .int 0, .ref q_6])), (q_6, .inl (cI, 1001, .inl (fun _ => 0))), (q_7, .inr (12, [.int 0, .int 0, .int 0, .int 0, .int 0, .int 0, .ref q_8])), (q_8, .inl (cI, 1001, .inl (fun _ => 0))), (q_9, .inl (cI, 501, .inl (fun _ => 0))), (q_10, .inl (cI, 501, .inl (fun _ => 0))), (q_11, .inl (cI, 501, .inl (fun _ => 0))), (q_12, .inl (cI, 501, .inl (fun _ => 0))), (q_14, .inr (15, [.int 0, .int 0, .int 0, .ref q_15, .ref q_16])), (q_15, .inl (cI, 19, .inl (fun _ => 0))), (q_16, .inl (cI, 9, .inl (fun _ => 0))), (q_18, .inr (12, [.int 0, .int 0, .int 0, .int 0, .int 0, .int 0, .ref q_19])), (q_19, .inl (cI, 1001, .inl (fun _ => 0))), (q_21, .inr (13, [.int 0, .int 0, .int 0, .int 0, .int 0, .ref q_22, .ref q_23, .ref q_24])), (q_22, .inl (cI, 2002, .inl (fun _ => 0))), (q_23, .inl (cI, 2002, .inl (fun _ => 0))), (q_24, .inl (cI, 2, .inl (fun _ => 0))), (q_26, .inr (9, [.int 0, .int 0, .int 0, .long 0, .long 0, .null, .null]))] := hD
  refine W.widen (k := 21) (n := 10099) (Nat.le_of_ble_eq_true rfl) (Nat.le_of_ble_eq_true rfl) ?_
  refine lv_dup hx hb dX2_init_63 rfl ?_
  have hPc := hP.sub (ws' := [(q_26, .inr (9, [.int 0, .int 0, .int 0, .long 0, .long 0, .null, .null]))]) [21] rfl
  have hDc := hD.sub (ws' := [(q_26, .inr (9, [.int 0, .int 0, .int 0, .long 0, .long 0, .null, .null]))]) [21] (by decide) rfl
  have hKc := hK.sub (tys' := [(cI, .int)]) [0] rfl
  have hFc := va_free (wc := [(q_26, .inr (9, [.int 0, .int 0, .int 0, .long 0, .long 0, .null, .null]))]) hD hS hA [21] rfl
  refine va_callv (va_runIN (As := []) (rest := [.ref q_26, .ref ra]) ⟨hx, hb, hml, hown, hts⟩ (c_X4_init l dC dI cI q_26 H.size) ⟨va_cnB 0 hts gX2_init_X4_init_n44 rfl rfl rfl (hN (.methodLinkNest RX2 44 yX4_init "Beaverhall") (by decide +kernel)) (hts (.initialized RX4) (by decide +kernel)) (by decide +kernel) ⟨Nat.le_of_ble_eq_true rfl, Nat.le_of_ble_eq_true rfl⟩, rfl, hts (.instanceMethod yX4_init) (by decide +kernel)⟩ (pcS hPc hDc hKc hN) rfl rfl hl.1 rfl (lv_room (Nat.le_of_ble_eq_true rfl)) dX2_init_64 ⟨Nat.le_of_ble_eq_true rfl, Nat.le_of_ble_eq_true rfl⟩) hS (fun q _ h => hFc q h) hFc (fun u t H1 locs ht hvm hw_29 hB hz1 hk1 hS => ?_)
  obtain ⟨q_27, q_28⟩ := u
  obtain ⟨hP1, hK1, hD1⟩ := hB
  rw [ht] at hP1
  try dsimp only at hw_29
  obtain ⟨hP, hD⟩ := va_join (wr := [(ra, .inr (7, [.ref q_1, .ref q_4, .ref q_14, .ref q_18, .ref q_21, .null])), (q_1, .inr (12, [.int 0, .int 0, .int 0, .int 0, .int 0, .int 0, .ref q_2])), (q_2, .inl (cI, 1001, .inl (fun _ => 0))), (q_4, .inr (11, [.int 0, .int 0, .ref q_5, .ref q_7, .int 0, .ref q_9, .ref q_10, .ref q_11, .ref q_12])), (q_5, .inr (12, [.int 0, .int 0, .int 0, .int 0, .int 0, .int 0, .ref q_6])), (q_6, .inl (cI, 1001, .inl (fun _ => 0))), (q_7, .inr (12, [.int 0, .int 0, .int 0, .int 0, .int 0, .int 0, .ref q_8])), (q_8, .inl (cI, 1001, .inl (fun _ => 0))), (q_9, .inl (cI, 501, .inl (fun _ => 0))), (q_10, .inl (cI, 501, .inl (fun _ => 0))), (q_11, .inl (cI, 501, .inl (fun _ => 0))), (q_12, .inl (cI, 501, .inl (fun _ => 0))), (q_14, .inr (15, [.int 0, .int 0, .int 0, .ref q_15, .ref q_16])), (q_15, .inl (cI, 19, .inl (fun _ => 0))), (q_16, .inl (cI, 9, .inl (fun _ => 0))), (q_18, .inr (12, [.int 0, .int 0, .int 0, .int 0, .int 0, .int 0, .ref q_19])), (q_19, .inl (cI, 1001, .inl (fun _ => 0))), (q_21, .inr (13, [.int 0, .int 0, .int 0, .int 0, .int 0, .ref q_22, .ref q_23, .ref q_24])), (q_22, .inl (cI, 2002, .inl (fun _ => 0))), (q_23, .inl (cI, 2002, .inl (fun _ => 0))), (q_24, .inl (cI, 2, .inl (fun _ => 0)))]) (w1 := [(q_26, .inr (9, [.int 0, .int 1, .int 0, .long 0, .long 0, .ref q_27, .ref q_28])), (q_27, .inl (cI, 2001, .inl (fun _ => 0))), (q_28, .inl (cI, 3072, .inl (fun _ => 0)))]) hP hD [21] [0, 1, 2, 3, 4, 5, 6, 7, 8, 9, 10, 11, 12, 13, 14, 15, 16, 17, 18, 19, 20] rfl rfl (by decide) (by decide) hk1 hFc hP1 hD1
  generalize H1 = H at hP hS ⊢
  have hP : va_P (dC, dI) vwCl [(ra, .inr (7, [.ref q_1, .ref q_4, .ref q_14, .ref q_18, .ref q_21, .null])), (q_1, .inr (12, [.int 0, .int 0, .int 0, .int 0, .int 0, .int 0, .ref q_2])), (q_2, .inl (cI, 1001, .inl (fun _ => 0))), (q_4, .inr (11, [.int 0, .int 0, .ref q_5, .ref q_7, .int 0, .ref q_9, .ref q_10, .ref q_11, .ref q_12])), (q_5, .inr (12, [.int 0, .int 0, .int 0, .int 0, .int 0, .int 0, .ref q_6])), (q_6, .inl (cI, 1001, .inl (fun _ => 0))), (q_7, .inr (12, [.int 0, .int 0, .int 0, .int 0, .int 0, .int 0, .ref q_8])), (q_8, .inl (cI, 1001, .inl (fun _ => 0))), (q_9, .inl (cI, 501, .inl (fun _ => 0))), (q_10, .inl (cI, 501, .inl (fun _ => 0))), (q_11, .inl (cI, 501, .inl (fun _ => 0))), (q_12, .inl (cI, 501, .inl (fun _ => 0))), (q_14, .inr (15, [.int 0, .int 0, .int 0, .ref q_15, .ref q_16])), (q_15, .inl (cI, 19, .inl (fun _ => 0))), (q_16, .inl (cI, 9, .inl (fun _ => 0))), (q_18, .inr (12, [.int 0, .int 0, .int 0, .int 0, .int 0, .int 0, .ref q_19])), (q_19, .inl (cI, 1001, .inl (fun _ => 0))), (q_21, .inr (13, [.int 0, .int 0, .int 0, .int 0, .int 0, .ref q_22, .ref q_23, .ref q_24])), (q_22, .inl (cI, 2002, .inl (fun _ => 0))), (q_23, .inl (cI, 2002, .inl (fun _ => 0))), (q_24, .inl (cI, 2, .inl (fun _ => 0))), (q_26, .inr (9, [.int 0, .int 1, .int 0, .long 0, .long 0, .ref q_27, .ref q_28])), (q_27, .inl (cI, 2001, .inl (fun _ => 0))), (q_28, .inl (cI, 3072, .inl (fun _ => 0)))] H := hP
  have hD : va_D A [(ra, .inr (7, [.ref q_1, .ref q_4, .ref q_14, .ref q_18, .ref q_21, .null])), (q_1, .inr (12, [.int 0, .int 0, .int 0, .int 0, .int 0, .int 0, .ref q_2])), (q_2, .inl (cI, 1001, .inl (fun _ => 0))), (q_4, .inr (11, [.int 0, .int 0, .ref q_5, .ref q_7, .int 0, .ref q_9, .ref q_10, .ref q_11, .ref q_12])), (q_5, .inr (12, [.int 0, .int 0, .int 0, .int 0, .int 0, .int 0, .ref q_6])), (q_6, .inl (cI, 1001, .inl (fun _ => 0))), (q_7, .inr (12, [.int 0, .int 0, .int 0, .int 0, .int 0, .int 0, .ref q_8])), (q_8, .inl (cI, 1001, .inl (fun _ => 0))), (q_9, .inl (cI, 501, .inl (fun _ => 0))), (q_10, .inl (cI, 501, .inl (fun _ => 0))), (q_11, .inl (cI, 501, .inl (fun _ => 0))), (q_12, .inl (cI, 501, .inl (fun _ => 0))), (q_14, .inr (15, [.int 0, .int 0, .int 0, .ref q_15, .ref q_16])), (q_15, .inl (cI, 19, .inl (fun _ => 0))), (q_16, .inl (cI, 9, .inl (fun _ => 0))), (q_18, .inr (12, [.int 0, .int 0, .int 0, .int 0, .int 0, .int 0, .ref q_19])), (q_19, .inl (cI, 1001, .inl (fun _ => 0))), (q_21, .inr (13, [.int 0, .int 0, .int 0, .int 0, .int 0, .ref q_22, .ref q_23, .ref q_24])), (q_22, .inl (cI, 2002, .inl (fun _ => 0))), (q_23, .inl (cI, 2002, .inl (fun _ => 0))), (q_24, .inl (cI, 2, .inl (fun _ => 0))), (q_26, .inr (9, [.int 0, .int 1, .int 0, .long 0, .long 0, .ref q_27, .ref q_28])), (q_27, .inl (cI, 2001, .inl (fun _ => 0))), (q_28, .inl (cI, 3072, .inl (fun _ => 0)))] := hD
  refine W.widen (k := 23) (n := 15172) (Nat.le_of_ble_eq_true rfl) (Nat.le_of_ble_eq_true rfl) ?_
  refine va_putF (D := (dC, dI)) (ci := 7) (v := .ref q_26) (ty := .object "Beaverhall$Looks") (C := RX2) (T := TX2) (N := 6) hx hb hts iWX2 tyX2 tyX2_ok nmX2 hown hK hP hD hS 0 rfl rfl 5 (by decide) (hts (.fieldLink RX2 45 "Beaverhall$Judge" "looks" "LBeaverhall$Looks;") (by decide +kernel)) (fun _ h9 => h9) rfl hin rfl (by decide +kernel) rfl rfl (Nat.le_of_ble_eq_true rfl) dX2_init_67 (fun H locs hP hD hS => ?_)
  have hP : va_P (dC, dI) vwCl [(ra, .inr (7, [.ref q_1, .ref q_4, .ref q_14, .ref q_18, .ref q_21, .ref q_26])), (q_1, .inr (12, [.int 0, .int 0, .int 0, .int 0, .int 0, .int 0, .ref q_2])), (q_2, .inl (cI, 1001, .inl (fun _ => 0))), (q_4, .inr (11, [.int 0, .int 0, .ref q_5, .ref q_7, .int 0, .ref q_9, .ref q_10, .ref q_11, .ref q_12])), (q_5, .inr (12, [.int 0, .int 0, .int 0, .int 0, .int 0, .int 0, .ref q_6])), (q_6, .inl (cI, 1001, .inl (fun _ => 0))), (q_7, .inr (12, [.int 0, .int 0, .int 0, .int 0, .int 0, .int 0, .ref q_8])), (q_8, .inl (cI, 1001, .inl (fun _ => 0))), (q_9, .inl (cI, 501, .inl (fun _ => 0))), (q_10, .inl (cI, 501, .inl (fun _ => 0))), (q_11, .inl (cI, 501, .inl (fun _ => 0))), (q_12, .inl (cI, 501, .inl (fun _ => 0))), (q_14, .inr (15, [.int 0, .int 0, .int 0, .ref q_15, .ref q_16])), (q_15, .inl (cI, 19, .inl (fun _ => 0))), (q_16, .inl (cI, 9, .inl (fun _ => 0))), (q_18, .inr (12, [.int 0, .int 0, .int 0, .int 0, .int 0, .int 0, .ref q_19])), (q_19, .inl (cI, 1001, .inl (fun _ => 0))), (q_21, .inr (13, [.int 0, .int 0, .int 0, .int 0, .int 0, .ref q_22, .ref q_23, .ref q_24])), (q_22, .inl (cI, 2002, .inl (fun _ => 0))), (q_23, .inl (cI, 2002, .inl (fun _ => 0))), (q_24, .inl (cI, 2, .inl (fun _ => 0))), (q_26, .inr (9, [.int 0, .int 1, .int 0, .long 0, .long 0, .ref q_27, .ref q_28])), (q_27, .inl (cI, 2001, .inl (fun _ => 0))), (q_28, .inl (cI, 3072, .inl (fun _ => 0)))] H := hP
  have hD : va_D A [(ra, .inr (7, [.ref q_1, .ref q_4, .ref q_14, .ref q_18, .ref q_21, .ref q_26])), (q_1, .inr (12, [.int 0, .int 0, .int 0, .int 0, .int 0, .int 0, .ref q_2])), (q_2, .inl (cI, 1001, .inl (fun _ => 0))), (q_4, .inr (11, [.int 0, .int 0, .ref q_5, .ref q_7, .int 0, .ref q_9, .ref q_10, .ref q_11, .ref q_12])), (q_5, .inr (12, [.int 0, .int 0, .int 0, .int 0, .int 0, .int 0, .ref q_6])), (q_6, .inl (cI, 1001, .inl (fun _ => 0))), (q_7, .inr (12, [.int 0, .int 0, .int 0, .int 0, .int 0, .int 0, .ref q_8])), (q_8, .inl (cI, 1001, .inl (fun _ => 0))), (q_9, .inl (cI, 501, .inl (fun _ => 0))), (q_10, .inl (cI, 501, .inl (fun _ => 0))), (q_11, .inl (cI, 501, .inl (fun _ => 0))), (q_12, .inl (cI, 501, .inl (fun _ => 0))), (q_14, .inr (15, [.int 0, .int 0, .int 0, .ref q_15, .ref q_16])), (q_15, .inl (cI, 19, .inl (fun _ => 0))), (q_16, .inl (cI, 9, .inl (fun _ => 0))), (q_18, .inr (12, [.int 0, .int 0, .int 0, .int 0, .int 0, .int 0, .ref q_19])), (q_19, .inl (cI, 1001, .inl (fun _ => 0))), (q_21, .inr (13, [.int 0, .int 0, .int 0, .int 0, .int 0, .ref q_22, .ref q_23, .ref q_24])), (q_22, .inl (cI, 2002, .inl (fun _ => 0))), (q_23, .inl (cI, 2002, .inl (fun _ => 0))), (q_24, .inl (cI, 2, .inl (fun _ => 0))), (q_26, .inr (9, [.int 0, .int 1, .int 0, .long 0, .long 0, .ref q_27, .ref q_28])), (q_27, .inl (cI, 2001, .inl (fun _ => 0))), (q_28, .inl (cI, 3072, .inl (fun _ => 0)))] := hD
  have hP9 := hP.sub (ws' := [(ra, .inr (7, [.ref q_1, .ref q_4, .ref q_14, .ref q_18, .ref q_21, .ref q_26])), (q_1, .inr (12, [.int 0, .int 0, .int 0, .int 0, .int 0, .int 0, .ref q_2])), (q_2, .inl (cI, 1001, .inl (fun _ => 0))), (q_4, .inr (11, [.int 0, .int 0, .ref q_5, .ref q_7, .int 0, .ref q_9, .ref q_10, .ref q_11, .ref q_12])), (q_5, .inr (12, [.int 0, .int 0, .int 0, .int 0, .int 0, .int 0, .ref q_6])), (q_6, .inl (cI, 1001, .inl (fun _ => 0))), (q_7, .inr (12, [.int 0, .int 0, .int 0, .int 0, .int 0, .int 0, .ref q_8])), (q_8, .inl (cI, 1001, .inl (fun _ => 0))), (q_9, .inl (cI, 501, .inl (fun _ => 0))), (q_10, .inl (cI, 501, .inl (fun _ => 0))), (q_11, .inl (cI, 501, .inl (fun _ => 0))), (q_12, .inl (cI, 501, .inl (fun _ => 0))), (q_14, .inr (15, [.int 0, .int 0, .int 0, .ref q_15, .ref q_16])), (q_15, .inl (cI, 19, .inl (fun _ => 0))), (q_16, .inl (cI, 9, .inl (fun _ => 0))), (q_18, .inr (12, [.int 0, .int 0, .int 0, .int 0, .int 0, .int 0, .ref q_19])), (q_19, .inl (cI, 1001, .inl (fun _ => 0))), (q_21, .inr (13, [.int 0, .int 0, .int 0, .int 0, .int 0, .ref q_22, .ref q_23, .ref q_24])), (q_22, .inl (cI, 2002, .inl (fun _ => 0))), (q_23, .inl (cI, 2002, .inl (fun _ => 0))), (q_24, .inl (cI, 2, .inl (fun _ => 0))), (q_26, .inr (9, [.int 0, .int 1, .int 0, .long 0, .long 0, .ref q_27, .ref q_28])), (q_27, .inl (cI, 2001, .inl (fun _ => 0))), (q_28, .inl (cI, 3072, .inl (fun _ => 0)))]) [0, 1, 2, 3, 4, 5, 6, 7, 8, 9, 10, 11, 12, 13, 14, 15, 16, 17, 18, 19, 20, 21, 22, 23] rfl
  have hD9 := hD.sub (ws' := [(ra, .inr (7, [.ref q_1, .ref q_4, .ref q_14, .ref q_18, .ref q_21, .ref q_26])), (q_1, .inr (12, [.int 0, .int 0, .int 0, .int 0, .int 0, .int 0, .ref q_2])), (q_2, .inl (cI, 1001, .inl (fun _ => 0))), (q_4, .inr (11, [.int 0, .int 0, .ref q_5, .ref q_7, .int 0, .ref q_9, .ref q_10, .ref q_11, .ref q_12])), (q_5, .inr (12, [.int 0, .int 0, .int 0, .int 0, .int 0, .int 0, .ref q_6])), (q_6, .inl (cI, 1001, .inl (fun _ => 0))), (q_7, .inr (12, [.int 0, .int 0, .int 0, .int 0, .int 0, .int 0, .ref q_8])), (q_8, .inl (cI, 1001, .inl (fun _ => 0))), (q_9, .inl (cI, 501, .inl (fun _ => 0))), (q_10, .inl (cI, 501, .inl (fun _ => 0))), (q_11, .inl (cI, 501, .inl (fun _ => 0))), (q_12, .inl (cI, 501, .inl (fun _ => 0))), (q_14, .inr (15, [.int 0, .int 0, .int 0, .ref q_15, .ref q_16])), (q_15, .inl (cI, 19, .inl (fun _ => 0))), (q_16, .inl (cI, 9, .inl (fun _ => 0))), (q_18, .inr (12, [.int 0, .int 0, .int 0, .int 0, .int 0, .int 0, .ref q_19])), (q_19, .inl (cI, 1001, .inl (fun _ => 0))), (q_21, .inr (13, [.int 0, .int 0, .int 0, .int 0, .int 0, .ref q_22, .ref q_23, .ref q_24])), (q_22, .inl (cI, 2002, .inl (fun _ => 0))), (q_23, .inl (cI, 2002, .inl (fun _ => 0))), (q_24, .inl (cI, 2, .inl (fun _ => 0))), (q_26, .inr (9, [.int 0, .int 1, .int 0, .long 0, .long 0, .ref q_27, .ref q_28])), (q_27, .inl (cI, 2001, .inl (fun _ => 0))), (q_28, .inl (cI, 3072, .inl (fun _ => 0)))]) [0, 1, 2, 3, 4, 5, 6, 7, 8, 9, 10, 11, 12, 13, 14, 15, 16, 17, 18, 19, 20, 21, 22, 23] (by decide) rfl
  have hK9 := hK.sub (tys' := [(cI, .int)]) [0] rfl
  exact W.vret hx hb hr (fun t ht hW => ⟨⟨(q_1, q_2, q_4, q_5, q_6, q_7, q_8, q_9, q_10, q_11, q_12, q_14, q_15, q_16, q_18, q_19, q_21, q_22, q_23, q_24, q_26, q_27, q_28), rfl, trivial, ⟨by rw [ht]; exact hP9, va_K.moved hW.alike hK9, hD9⟩⟩, hS.F ht⟩) hS.2.2 dX2_init_70
