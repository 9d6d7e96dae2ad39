theorem dX15_machine_0 : decode cX15_machine 0 = .ok (.iload_n 1, 1) := by decide +kernel
theorem dX15_machine_1 : decode cX15_machine 1 = .ok (.bipush 98, 2) := by decide +kernel
theorem dX15_machine_3 : decode cX15_machine 3 = .ok (.if_icmp .eq 9, 3) := by decide +kernel
theorem dX15_machine_12 : decode cX15_machine 12 = .ok (.iload_n 2, 1) := by decide +kernel
theorem dX15_machine_13 : decode cX15_machine 13 = .ok (.i2l, 1) := by decide +kernel
theorem dX15_machine_14 : decode cX15_machine 14 = .ok (.lconst 1, 1) := by decide +kernel
theorem dX15_machine_15 : decode cX15_machine 15 = .ok (.ldc2_w 215, 3) := by decide +kernel
set_option maxRecDepth 20000 in
theorem ggX15_machine_X15_in : GoodIn wsX15_machine wsX15_in := goodIn_r _ [12] rfl (by decide +kernel)
set_option maxRecDepth 20000 in
theorem gX15_machine_X15_in : GoodIn wsX15_machine (va_wsS RX15 170 yX15_in wsX15_in) := goodIn_app (goodIn_of _ (by decide +kernel)) ggX15_machine_X15_in
theorem dX15_machine_18 : decode cX15_machine 18 = .ok (.invokestatic 170, 3) := by decide +kernel
theorem dX15_machine_21 : decode cX15_machine 21 = .ok (.ifCond .eq 21, 3) := by decide +kernel
theorem dX15_machine_42 : decode cX15_machine 42 = .ok (.iconst 0, 1) := by decide +kernel
theorem dX15_machine_43 : decode cX15_machine 43 = .ok (.istore 4, 2) := by decide +kernel
theorem dX15_machine_45 : decode cX15_machine 45 = .ok (.aload_n 0, 1) := by decide +kernel
theorem dX15_machine_46 : decode cX15_machine 46 = .ok (.iload 4, 2) := by decide +kernel
theorem dX15_machine_48 : decode cX15_machine 48 = .ok (.ifCond .ne 7, 3) := by decide +kernel
theorem dX15_machine_51 : decode cX15_machine 51 = .ok (.iconst 1, 1) := by decide +kernel
theorem dX15_machine_52 : decode cX15_machine 52 = .ok (.goto 20, 3) := by decide +kernel
theorem dX15_machine_72 : decode cX15_machine 72 = .ok (.putfield 209, 3) := by decide +kernel
theorem dX15_machine_75 : decode cX15_machine 75 = .ok (.aload_n 0, 1) := by decide +kernel
theorem dX15_machine_76 : decode cX15_machine 76 = .ok (.getfield 209, 3) := by decide +kernel
theorem dX15_machine_79 : decode cX15_machine 79 = .ok (.ifCond .le 5, 3) := by decide +kernel
theorem dX15_machine_82 : decode cX15_machine 82 = .ok (.iconst 0, 1) := by decide +kernel
theorem dX15_machine_83 : decode cX15_machine 83 = .ok (.ireturn, 1) := by decide +kernel
theorem dX15_machine_24 : decode cX15_machine 24 = .ok (.iload_n 3, 1) := by decide +kernel
theorem dX15_machine_25 : decode cX15_machine 25 = .ok (.i2l, 1) := by decide +kernel
theorem dX15_machine_26 : decode cX15_machine 26 = .ok (.ldc2_w 217, 3) := by decide +kernel
theorem dX15_machine_29 : decode cX15_machine 29 = .ok (.ldc2_w 219, 3) := by decide +kernel
theorem dX15_machine_32 : decode cX15_machine 32 = .ok (.invokestatic 170, 3) := by decide +kernel
theorem dX15_machine_35 : decode cX15_machine 35 = .ok (.ifCond .eq 7, 3) := by decide +kernel
theorem dX15_machine_38 : decode cX15_machine 38 = .ok (.iconst 1, 1) := by decide +kernel
theorem dX15_machine_39 : decode cX15_machine 39 = .ok (.goto 4, 3) := by decide +kernel
theorem dX15_machine_55 : decode cX15_machine 55 = .ok (.aload_n 0, 1) := by decide +kernel
theorem dX15_machine_56 : decode cX15_machine 56 = .ok (.getfield 181, 3) := by decide +kernel
set_option maxRecDepth 20000 in
theorem ggX15_machine_Jx4a65c_size_8abf5 : GoodIn wsX15_machine wsJx4a65c_size_8abf5 := goodIn_r _ [17, 18, 122, 123, 124] rfl (by decide +kernel)
set_option maxRecDepth 20000 in
theorem gX15_machine_Jx4a65c_size_8abf5 : GoodIn wsX15_machine (wsV RX15 212 RJx4a65c yJx4a65c_size_8abf5 wsJx4a65c_size_8abf5) := goodIn_app (goodIn_of _ (by decide +kernel)) ggX15_machine_Jx4a65c_size_8abf5
theorem dX15_machine_59 : decode cX15_machine 59 = .ok (.invokevirtual 212, 3) := by decide +kernel
theorem dX15_machine_62 : decode cX15_machine 62 = .ok (.bipush 16, 2) := by decide +kernel
theorem dX15_machine_64 : decode cX15_machine 64 = .ok (.if_icmp .ne 7, 3) := by decide +kernel
theorem dX15_machine_71 : decode cX15_machine 71 = .ok (.iconst 0, 1) := by decide +kernel
theorem dX15_machine_84 : decode cX15_machine 84 = .ok (.aload_n 0, 1) := by decide +kernel
theorem dX15_machine_85 : decode cX15_machine 85 = .ok (.getfield 181, 3) := by decide +kernel
theorem dX15_machine_88 : decode cX15_machine 88 = .ok (.new 83, 3) := by decide +kernel
theorem dX15_machine_91 : decode cX15_machine 91 = .ok (.dup, 1) := by decide +kernel
theorem dX15_machine_92 : decode cX15_machine 92 = .ok (.iload_n 1, 1) := by decide +kernel
theorem dX15_machine_93 : decode cX15_machine 93 = .ok (.bipush 111, 2) := by decide +kernel
theorem dX15_machine_95 : decode cX15_machine 95 = .ok (.if_icmp .ne 7, 3) := by decide +kernel
theorem dX15_machine_102 : decode cX15_machine 102 = .ok (.iconst 0, 1) := by decide +kernel
theorem dX15_machine_103 : decode cX15_machine 103 = .ok (.iload_n 2, 1) := by decide +kernel
theorem dX15_machine_104 : decode cX15_machine 104 = .ok (.iload_n 3, 1) := by decide +kernel
set_option maxRecDepth 20000 in
theorem ggX15_machine_X13_init : GoodIn wsX15_machine wsX13_init := goodIn_ca (goodIn_r _ [21, 22, 23, 24, 25, 26, 27, 28, 29, 30, 31, 32, 33, 34, 110, 111, 112, 113, 114, 115, 116, 117, 118, 119, 120, 121] rfl (by decide +kernel)) (goodIn_sub (fun _ h => List.mem_cons_of_mem _ (List.mem_append_right _ h)) (by decide +kernel))
set_option maxRecDepth 20000 in
theorem gX15_machine_X13_init : GoodIn wsX15_machine (wsX13_init) := ggX15_machine_X13_init
theorem dX15_machine_105 : decode cX15_machine 105 = .ok (.invokespecial 221, 3) := by decide +kernel
set_option maxRecDepth 20000 in
theorem ggX15_machine_Jx4a65c_add_9ea2d : GoodIn wsX15_machine wsJx4a65c_add_9ea2d := goodIn_r _ [38, 39, 40, 41, 18, 42, 43, 44, 16, 45, 46, 47, 48, 49, 50, 51, 52, 53, 54, 55, 56, 57, 58, 59, 60, 61, 62, 63, 64, 65, 66, 67, 68, 69, 70, 71, 72, 73, 74, 75, 76, 77, 78, 79, 80, 81, 82, 83, 84, 85, 86, 87, 88, 122, 123, 124] rfl (by decide +kernel)
set_option maxRecDepth 20000 in
theorem gX15_machine_Jx4a65c_add_9ea2d : GoodIn wsX15_machine (wsV RX15 224 RJx4a65c yJx4a65c_add_9ea2d wsJx4a65c_add_9ea2d) := goodIn_app (goodIn_of _ (by decide +kernel)) ggX15_machine_Jx4a65c_add_9ea2d
theorem dX15_machine_108 : decode cX15_machine 108 = .ok (.invokevirtual 224, 3) := by decide +kernel
theorem dX15_machine_111 : decode cX15_machine 111 = .ok (.pop, 1) := by decide +kernel
theorem dX15_machine_112 : decode cX15_machine 112 = .ok (.aload_n 0, 1) := by decide +kernel
theorem dX15_machine_113 : decode cX15_machine 113 = .ok (.getfield 181, 3) := by decide +kernel
theorem dX15_machine_116 : decode cX15_machine 116 = .ok (.invokevirtual 212, 3) := by decide +kernel
theorem dX15_machine_119 : decode cX15_machine 119 = .ok (.iconst 1, 1) := by decide +kernel
theorem dX15_machine_120 : decode cX15_machine 120 = .ok (.isub, 1) := by decide +kernel
theorem dX15_machine_121 : decode cX15_machine 121 = .ok (.ireturn, 1) := by decide +kernel
theorem dX15_machine_98 : decode cX15_machine 98 = .ok (.iconst 1, 1) := by decide +kernel
theorem dX15_machine_99 : decode cX15_machine 99 = .ok (.goto 4, 3) := by decide +kernel
theorem dX15_machine_6 : decode cX15_machine 6 = .ok (.iload_n 1, 1) := by decide +kernel
theorem dX15_machine_7 : decode cX15_machine 7 = .ok (.bipush 111, 2) := by decide +kernel
theorem dX15_machine_9 : decode cX15_machine 9 = .ok (.if_icmp .ne 33, 3) := by decide +kernel
theorem dX15_count_0 : decode cX15_count 0 = .ok (.iload_n 1, 1) := by decide +kernel
theorem dX15_count_1 : decode cX15_count 1 = .ok (.bipush 43, 2) := by decide +kernel
theorem dX15_count_3 : decode cX15_count 3 = .ok (.if_icmp .eq 9, 3) := by decide +kernel
theorem dX15_count_12 : decode cX15_count 12 = .ok (.iload_n 2, 1) := by decide +kernel
theorem dX15_count_13 : decode cX15_count 13 = .ok (.i2l, 1) := by decide +kernel
theorem dX15_count_14 : decode cX15_count 14 = .ok (.lconst 0, 1) := by decide +kernel
theorem dX15_count_15 : decode cX15_count 15 = .ok (.ldc2_w 337, 3) := by decide +kernel
set_option maxRecDepth 20000 in
theorem ggX15_count_X15_in : GoodIn wsX15_count wsX15_in := goodIn_r _ [9] rfl (by decide +kernel)
set_option maxRecDepth 20000 in
theorem gX15_count_X15_in : GoodIn wsX15_count (va_wsS RX15 170 yX15_in wsX15_in) := goodIn_app (goodIn_of _ (by decide +kernel)) ggX15_count_X15_in
theorem dX15_count_18 : decode cX15_count 18 = .ok (.invokestatic 170, 3) := by decide +kernel
theorem dX15_count_21 : decode cX15_count 21 = .ok (.ifCond .eq 38, 3) := by decide +kernel
theorem dX15_count_59 : decode cX15_count 59 = .ok (.iconst 0, 1) := by decide +kernel
theorem dX15_count_60 : decode cX15_count 60 = .ok (.istore 5, 2) := by decide +kernel
theorem dX15_count_62 : decode cX15_count 62 = .ok (.aload_n 0, 1) := by decide +kernel
theorem dX15_count_63 : decode cX15_count 63 = .ok (.iload 5, 2) := by decide +kernel
theorem dX15_count_65 : decode cX15_count 65 = .ok (.ifCond .ne 7, 3) := by decide +kernel
theorem dX15_count_68 : decode cX15_count 68 = .ok (.iconst 1, 1) := by decide +kernel
theorem dX15_count_69 : decode cX15_count 69 = .ok (.goto 20, 3) := by decide +kernel
theorem dX15_count_89 : decode cX15_count 89 = .ok (.putfield 209, 3) := by decide +kernel
theorem dX15_count_92 : decode cX15_count 92 = .ok (.aload_n 0, 1) := by decide +kernel
theorem dX15_count_93 : decode cX15_count 93 = .ok (.getfield 209, 3) := by decide +kernel
theorem dX15_count_96 : decode cX15_count 96 = .ok (.ifCond .le 5, 3) := by decide +kernel
theorem dX15_count_99 : decode cX15_count 99 = .ok (.iconst 0, 1) := by decide +kernel
theorem dX15_count_100 : decode cX15_count 100 = .ok (.ireturn, 1) := by decide +kernel
theorem dX15_count_24 : decode cX15_count 24 = .ok (.iload_n 3, 1) := by decide +kernel
theorem dX15_count_25 : decode cX15_count 25 = .ok (.i2l, 1) := by decide +kernel
theorem dX15_count_26 : decode cX15_count 26 = .ok (.lconst 0, 1) := by decide +kernel
theorem dX15_count_27 : decode cX15_count 27 = .ok (.ldc2_w 356, 3) := by decide +kernel
theorem dX15_count_30 : decode cX15_count 30 = .ok (.invokestatic 170, 3) := by decide +kernel
theorem dX15_count_33 : decode cX15_count 33 = .ok (.ifCond .eq 26, 3) := by decide +kernel
theorem dX15_count_36 : decode cX15_count 36 = .ok (.iload_n 1, 1) := by decide +kernel
theorem dX15_count_37 : decode cX15_count 37 = .ok (.bipush 43, 2) := by decide +kernel
theorem dX15_count_39 : decode cX15_count 39 = .ok (.if_icmp .eq 16, 3) := by decide +kernel
theorem dX15_count_55 : decode cX15_count 55 = .ok (.iconst 1, 1) := by decide +kernel
theorem dX15_count_56 : decode cX15_count 56 = .ok (.goto 4, 3) := by decide +kernel
theorem dX15_count_72 : decode cX15_count 72 = .ok (.aload_n 0, 1) := by decide +kernel
theorem dX15_count_73 : decode cX15_count 73 = .ok (.getfield 185, 3) := by decide +kernel
set_option maxRecDepth 20000 in
theorem ggX15_count_Jx4a65c_size_8abf5 : GoodIn wsX15_count wsJx4a65c_size_8abf5 := goodIn_r _ [14, 15, 91, 92, 93] rfl (by decide +kernel)
set_option maxRecDepth 20000 in
theorem gX15_count_Jx4a65c_size_8abf5 : GoodIn wsX15_count (wsV RX15 212 RJx4a65c yJx4a65c_size_8abf5 wsJx4a65c_size_8abf5) := goodIn_app (goodIn_of _ (by decide +kernel)) ggX15_count_Jx4a65c_size_8abf5
theorem dX15_count_76 : decode cX15_count 76 = .ok (.invokevirtual 212, 3) := by decide +kernel
theorem dX15_count_79 : decode cX15_count 79 = .ok (.bipush 12, 2) := by decide +kernel
theorem dX15_count_81 : decode cX15_count 81 = .ok (.if_icmp .ne 7, 3) := by decide +kernel
theorem dX15_count_88 : decode cX15_count 88 = .ok (.iconst 0, 1) := by decide +kernel
theorem dX15_count_101 : decode cX15_count 101 = .ok (.aload_n 0, 1) := by decide +kernel
theorem dX15_count_102 : decode cX15_count 102 = .ok (.getfield 185, 3) := by decide +kernel
theorem dX15_count_105 : decode cX15_count 105 = .ok (.iconst 4, 1) := by decide +kernel
theorem dX15_count_106 : decode cX15_count 106 = .ok (.newarray .int, 2) := by decide +kernel
theorem dX15_count_108 : decode cX15_count 108 = .ok (.dup, 1) := by decide +kernel
theorem dX15_count_109 : decode cX15_count 109 = .ok (.iconst 0, 1) := by decide +kernel
theorem dX15_count_110 : decode cX15_count 110 = .ok (.iload_n 1, 1) := by decide +kernel
theorem dX15_count_111 : decode cX15_count 111 = .ok (.iastore, 1) := by decide +kernel
theorem dX15_count_112 : decode cX15_count 112 = .ok (.dup, 1) := by decide +kernel
theorem dX15_count_113 : decode cX15_count 113 = .ok (.iconst 1, 1) := by decide +kernel
theorem dX15_count_114 : decode cX15_count 114 = .ok (.iload_n 2, 1) := by decide +kernel
theorem dX15_count_115 : decode cX15_count 115 = .ok (.iastore, 1) := by decide +kernel
theorem dX15_count_116 : decode cX15_count 116 = .ok (.dup, 1) := by decide +kernel
theorem dX15_count_117 : decode cX15_count 117 = .ok (.iconst 2, 1) := by decide +kernel
theorem dX15_count_118 : decode cX15_count 118 = .ok (.iload_n 3, 1) := by decide +kernel
theorem dX15_count_119 : decode cX15_count 119 = .ok (.iastore, 1) := by decide +kernel
theorem dX15_count_120 : decode cX15_count 120 = .ok (.dup, 1) := by decide +kernel
theorem dX15_count_121 : decode cX15_count 121 = .ok (.iconst 3, 1) := by decide +kernel
theorem dX15_count_122 : decode cX15_count 122 = .ok (.iload 4, 2) := by decide +kernel
theorem dX15_count_124 : decode cX15_count 124 = .ok (.iastore, 1) := by decide +kernel
set_option maxRecDepth 20000 in
theorem ggX15_count_Jx4a65c_add_9ea2d : GoodIn wsX15_count wsJx4a65c_add_9ea2d := goodIn_r _ [19, 20, 21, 22, 15, 23, 24, 25, 13, 26, 27, 28, 29, 30, 31, 32, 33, 34, 35, 36, 37, 38, 39, 40, 41, 42, 43, 44, 45, 46, 47, 48, 49, 50, 51, 52, 53, 54, 55, 56, 57, 58, 59, 60, 61, 62, 63, 64, 65, 66, 67, 68, 69, 91, 92, 93] rfl (by decide +kernel)
set_option maxRecDepth 20000 in
theorem gX15_count_Jx4a65c_add_9ea2d : GoodIn wsX15_count (wsV RX15 224 RJx4a65c yJx4a65c_add_9ea2d wsJx4a65c_add_9ea2d) := goodIn_app (goodIn_of _ (by decide +kernel)) ggX15_count_Jx4a65c_add_9ea2d
theorem dX15_count_125 : decode cX15_count 125 = .ok (.invokevirtual 224, 3) := by decide +kernel
theorem dX15_count_128 : decode cX15_count 128 = .ok (.pop, 1) := by decide +kernel
theorem dX15_count_129 : decode cX15_count 129 = .ok (.aload_n 0, 1) := by decide +kernel
theorem dX15_count_130 : decode cX15_count 130 = .ok (.getfield 185, 3) := by decide +kernel
theorem dX15_count_133 : decode cX15_count 133 = .ok (.invokevirtual 212, 3) := by decide +kernel
theorem dX15_count_136 : decode cX15_count 136 = .ok (.ireturn, 1) := by decide +kernel
theorem dX15_count_42 : decode cX15_count 42 = .ok (.iload 4, 2) := by decide +kernel
theorem dX15_count_44 : decode cX15_count 44 = .ok (.i2l, 1) := by decide +kernel
theorem dX15_count_45 : decode cX15_count 45 = .ok (.lconst 0, 1) := by decide +kernel
theorem dX15_count_46 : decode cX15_count 46 = .ok (.ldc2_w 356, 3) := by decide +kernel
theorem dX15_count_49 : decode cX15_count 49 = .ok (.invokestatic 170, 3) := by decide +kernel
theorem dX15_count_52 : decode cX15_count 52 = .ok (.ifCond .eq 7, 3) := by decide +kernel
theorem dX15_count_6 : decode cX15_count 6 = .ok (.iload_n 1, 1) := by decide +kernel
theorem dX15_count_7 : decode cX15_count 7 = .ok (.bipush 45, 2) := by decide +kernel
theorem dX15_count_9 : decode cX15_count 9 = .ok (.if_icmp .ne 50, 3) := by decide +kernel
theorem dX15_register_0 : decode cX15_register 0 = .ok (.aload_n 0, 1) := by decide +kernel
theorem dX15_register_1 : decode cX15_register 1 = .ok (.iload_n 1, 1) := by decide +kernel
theorem dX15_register_2 : decode cX15_register 2 = .ok (.i2l, 1) := by decide +kernel
theorem dX15_register_3 : decode cX15_register 3 = .ok (.lconst 0, 1) := by decide +kernel
theorem dX15_register_4 : decode cX15_register 4 = .ok (.ldc2_w 337, 3) := by decide +kernel
set_option maxRecDepth 20000 in
theorem ggX15_register_X15_in : GoodIn wsX15_register wsX15_in := goodIn_r _ [7] rfl (by decide +kernel)
set_option maxRecDepth 20000 in
theorem gX15_register_X15_in : GoodIn wsX15_register (va_wsS RX15 170 yX15_in wsX15_in) := goodIn_app (goodIn_of _ (by decide +kernel)) ggX15_register_X15_in
theorem dX15_register_7 : decode cX15_register 7 = .ok (.invokestatic 170, 3) := by decide +kernel
theorem dX15_register_10 : decode cX15_register 10 = .ok (.ifCond .eq 7, 3) := by decide +kernel
theorem dX15_register_17 : decode cX15_register 17 = .ok (.iconst 1, 1) := by decide +kernel
theorem dX15_register_18 : decode cX15_register 18 = .ok (.putfield 209, 3) := by decide +kernel
theorem dX15_register_21 : decode cX15_register 21 = .ok (.aload_n 0, 1) := by decide +kernel
theorem dX15_register_22 : decode cX15_register 22 = .ok (.getfield 209, 3) := by decide +kernel
theorem dX15_register_25 : decode cX15_register 25 = .ok (.ifCond .le 7, 3) := by decide +kernel
theorem dX15_register_28 : decode cX15_register 28 = .ok (.iconst 0, 1) := by decide +kernel
theorem dX15_register_29 : decode cX15_register 29 = .ok (.goto 9, 3) := by decide +kernel
theorem dX15_register_38 : decode cX15_register 38 = .ok (.ireturn, 1) := by decide +kernel
theorem dX15_register_13 : decode cX15_register 13 = .ok (.iconst 0, 1) := by decide +kernel
theorem dX15_register_14 : decode cX15_register 14 = .ok (.goto 4, 3) := by decide +kernel
theorem dX15_register_32 : decode cX15_register 32 = .ok (.aload_n 0, 1) := by decide +kernel
theorem dX15_register_33 : decode cX15_register 33 = .ok (.getfield 188, 3) := by decide +kernel
theorem dX15_register_36 : decode cX15_register 36 = .ok (.iload_n 1, 1) := by decide +kernel
theorem dX15_register_37 : decode cX15_register 37 = .ok (.iaload, 1) := by decide +kernel
theorem dX15_runCounters_0 : decode cX15_runCounters 0 = .ok (.aload_n 0, 1) := by decide +kernel
theorem dX15_runCounters_1 : decode cX15_runCounters 1 = .ok (.iload_n 1, 1) := by decide +kernel
theorem dX15_runCounters_2 : decode cX15_runCounters 2 = .ok (.i2l, 1) := by decide +kernel
theorem dX15_runCounters_3 : decode cX15_runCounters 3 = .ok (.lconst 0, 1) := by decide +kernel
theorem dX15_runCounters_4 : decode cX15_runCounters 4 = .ok (.ldc2_w 361, 3) := by decide +kernel
set_option maxRecDepth 20000 in
theorem ggX15_runCounters_X15_in : GoodIn wsX15_runCounters wsX15_in := goodIn_r _ [10] rfl (by decide +kernel)
set_option maxRecDepth 20000 in
theorem gX15_runCounters_X15_in : GoodIn wsX15_runCounters (va_wsS RX15 170 yX15_in wsX15_in) := goodIn_app (goodIn_of _ (by decide +kernel)) ggX15_runCounters_X15_in
theorem dX15_runCounters_7 : decode cX15_runCounters 7 = .ok (.invokestatic 170, 3) := by decide +kernel
theorem dX15_runCounters_10 : decode cX15_runCounters 10 = .ok (.ifCond .eq 31, 3) := by decide +kernel
theorem dX15_runCounters_41 : decode cX15_runCounters 41 = .ok (.iconst 1, 1) := by decide +kernel
theorem dX15_runCounters_42 : decode cX15_runCounters 42 = .ok (.putfield 209, 3) := by decide +kernel
theorem dX15_runCounters_45 : decode cX15_runCounters 45 = .ok (.aload_n 0, 1) := by decide +kernel
theorem dX15_runCounters_46 : decode cX15_runCounters 46 = .ok (.getfield 209, 3) := by decide +kernel
theorem dX15_runCounters_49 : decode cX15_runCounters 49 = .ok (.ifCond .le 5, 3) := by decide +kernel
theorem dX15_runCounters_52 : decode cX15_runCounters 52 = .ok (.iconst 0, 1) := by decide +kernel
theorem dX15_runCounters_53 : decode cX15_runCounters 53 = .ok (.ireturn, 1) := by decide +kernel
theorem dX15_runCounters_13 : decode cX15_runCounters 13 = .ok (.iload_n 2, 1) := by decide +kernel
theorem dX15_runCounters_14 : decode cX15_runCounters 14 = .ok (.i2l, 1) := by decide +kernel
theorem dX15_runCounters_15 : decode cX15_runCounters 15 = .ok (.lconst 0, 1) := by decide +kernel
theorem dX15_runCounters_16 : decode cX15_runCounters 16 = .ok (.ldc2_w 361, 3) := by decide +kernel
theorem dX15_runCounters_19 : decode cX15_runCounters 19 = .ok (.invokestatic 170, 3) := by decide +kernel
theorem dX15_runCounters_22 : decode cX15_runCounters 22 = .ok (.ifCond .eq 19, 3) := by decide +kernel
theorem dX15_runCounters_25 : decode cX15_runCounters 25 = .ok (.iload_n 3, 1) := by decide +kernel
theorem dX15_runCounters_26 : decode cX15_runCounters 26 = .ok (.i2l, 1) := by decide +kernel
theorem dX15_runCounters_27 : decode cX15_runCounters 27 = .ok (.lconst 0, 1) := by decide +kernel
theorem dX15_runCounters_28 : decode cX15_runCounters 28 = .ok (.ldc2_w 253, 3) := by decide +kernel
theorem dX15_runCounters_31 : decode cX15_runCounters 31 = .ok (.invokestatic 170, 3) := by decide +kernel
theorem dX15_runCounters_34 : decode cX15_runCounters 34 = .ok (.ifCond .eq 7, 3) := by decide +kernel
theorem dX15_runCounters_37 : decode cX15_runCounters 37 = .ok (.iconst 0, 1) := by decide +kernel
theorem dX15_runCounters_38 : decode cX15_runCounters 38 = .ok (.goto 4, 3) := by decide +kernel
theorem dX15_runCounters_54 : decode cX15_runCounters 54 = .ok (.aload_n 0, 1) := by decide +kernel
theorem dX15_runCounters_55 : decode cX15_runCounters 55 = .ok (.getfield 188, 3) := by decide +kernel
theorem dX15_runCounters_58 : decode cX15_runCounters 58 = .ok (.iconst 0, 1) := by decide +kernel
theorem dX15_runCounters_59 : decode cX15_runCounters 59 = .ok (.iload_n 1, 1) := by decide +kernel
theorem dX15_runCounters_60 : decode cX15_runCounters 60 = .ok (.iastore, 1) := by decide +kernel
theorem dX15_runCounters_61 : decode cX15_runCounters 61 = .ok (.aload_n 0, 1) := by decide +kernel
theorem dX15_runCounters_62 : decode cX15_runCounters 62 = .ok (.getfield 188, 3) := by decide +kernel
theorem dX15_runCounters_65 : decode cX15_runCounters 65 = .ok (.iconst 1, 1) := by decide +kernel
theorem dX15_runCounters_66 : decode cX15_runCounters 66 = .ok (.iload_n 2, 1) := by decide +kernel
theorem dX15_runCounters_67 : decode cX15_runCounters 67 = .ok (.iastore, 1) := by decide +kernel
theorem dX15_runCounters_68 : decode cX15_runCounters 68 = .ok (.aload_n 0, 1) := by decide +kernel
theorem dX15_runCounters_69 : decode cX15_runCounters 69 = .ok (.getfield 188, 3) := by decide +kernel
theorem dX15_runCounters_72 : decode cX15_runCounters 72 = .ok (.iconst 2, 1) := by decide +kernel
theorem dX15_runCounters_73 : decode cX15_runCounters 73 = .ok (.iconst 0, 1) := by decide +kernel
theorem dX15_runCounters_74 : decode cX15_runCounters 74 = .ok (.iastore, 1) := by decide +kernel
theorem dX15_runCounters_75 : decode cX15_runCounters 75 = .ok (.aload_n 0, 1) := by decide +kernel
theorem dX15_runCounters_76 : decode cX15_runCounters 76 = .ok (.getfield 188, 3) := by decide +kernel
theorem dX15_runCounters_79 : decode cX15_runCounters 79 = .ok (.iconst 3, 1) := by decide +kernel
theorem dX15_runCounters_80 : decode cX15_runCounters 80 = .ok (.iconst 0, 1) := by decide +kernel
theorem dX15_runCounters_81 : decode cX15_runCounters 81 = .ok (.iastore, 1) := by decide +kernel
theorem dX15_runCounters_82 : decode cX15_runCounters 82 = .ok (.iconst 0, 1) := by decide +kernel
theorem dX15_runCounters_83 : decode cX15_runCounters 83 = .ok (.istore 4, 2) := by decide +kernel
theorem dX15_runCounters_85 : decode cX15_runCounters 85 = .ok (.iconst 0, 1) := by decide +kernel
theorem dX15_runCounters_86 : decode cX15_runCounters 86 = .ok (.istore 5, 2) := by decide +kernel
theorem dX15_runCounters_88 : decode cX15_runCounters 88 = .ok (.iload 5, 2) := by decide +kernel
theorem dX15_runCounters_90 : decode cX15_runCounters 90 = .ok (.iload_n 3, 1) := by decide +kernel
theorem dX15_runCounters_91 : decode cX15_runCounters 91 = .ok (.if_icmp .ge 124, 3) := by decide +kernel
theorem dX15_runCounters_215 : decode cX15_runCounters 215 = .ok (.iload 5, 2) := by decide +kernel
theorem dX15_runCounters_217 : decode cX15_runCounters 217 = .ok (.ireturn, 1) := by decide +kernel
theorem dX15_runCounters_94 : decode cX15_runCounters 94 = .ok (.iload 4, 2) := by decide +kernel
theorem dX15_runCounters_96 : decode cX15_runCounters 96 = .ok (.aload_n 0, 1) := by decide +kernel
theorem dX15_runCounters_97 : decode cX15_runCounters 97 = .ok (.getfield 185, 3) := by decide +kernel
set_option maxRecDepth 20000 in
theorem ggX15_runCounters_Jx4a65c_size_8abf5 : GoodIn wsX15_runCounters wsJx4a65c_size_8abf5 := goodIn_r _ [15, 16, 55, 56, 57] rfl (by decide +kernel)
set_option maxRecDepth 20000 in
theorem gX15_runCounters_Jx4a65c_size_8abf5 : GoodIn wsX15_runCounters (wsV RX15 212 RJx4a65c yJx4a65c_size_8abf5 wsJx4a65c_size_8abf5) := goodIn_app (goodIn_of _ (by decide +kernel)) ggX15_runCounters_Jx4a65c_size_8abf5
theorem dX15_runCounters_100 : decode cX15_runCounters 100 = .ok (.invokevirtual 212, 3) := by decide +kernel
theorem dX15_runCounters_103 : decode cX15_runCounters 103 = .ok (.if_icmp .ge 112, 3) := by decide +kernel
theorem dX15_fraction_0 : decode cX15_fraction 0 = .ok (.aload_n 0, 1) := by decide +kernel
theorem dX15_fraction_1 : decode cX15_fraction 1 = .ok (.iload_n 1, 1) := by decide +kernel
theorem dX15_fraction_2 : decode cX15_fraction 2 = .ok (.i2l, 1) := by decide +kernel
theorem dX15_fraction_3 : decode cX15_fraction 3 = .ok (.lconst 1, 1) := by decide +kernel
theorem dX15_fraction_4 : decode cX15_fraction 4 = .ok (.ldc2_w 398, 3) := by decide +kernel
set_option maxRecDepth 20000 in
theorem ggX15_fraction_X15_in : GoodIn wsX15_fraction wsX15_in := goodIn_r _ [8] rfl (by decide +kernel)
set_option maxRecDepth 20000 in
theorem gX15_fraction_X15_in : GoodIn wsX15_fraction (va_wsS RX15 170 yX15_in wsX15_in) := goodIn_app (goodIn_of _ (by decide +kernel)) ggX15_fraction_X15_in
theorem dX15_fraction_7 : decode cX15_fraction 7 = .ok (.invokestatic 170, 3) := by decide +kernel
theorem dX15_fraction_10 : decode cX15_fraction 10 = .ok (.ifCond .eq 15, 3) := by decide +kernel
theorem dX15_fraction_25 : decode cX15_fraction 25 = .ok (.iconst 1, 1) := by decide +kernel
theorem dX15_fraction_26 : decode cX15_fraction 26 = .ok (.goto 20, 3) := by decide +kernel
theorem dX15_fraction_46 : decode cX15_fraction 46 = .ok (.putfield 209, 3) := by decide +kernel
theorem dX15_fraction_49 : decode cX15_fraction 49 = .ok (.aload_n 0, 1) := by decide +kernel
theorem dX15_fraction_50 : decode cX15_fraction 50 = .ok (.getfield 209, 3) := by decide +kernel
theorem dX15_fraction_53 : decode cX15_fraction 53 = .ok (.ifCond .le 5, 3) := by decide +kernel
theorem dX15_fraction_56 : decode cX15_fraction 56 = .ok (.iconst 0, 1) := by decide +kernel
theorem dX15_fraction_57 : decode cX15_fraction 57 = .ok (.ireturn, 1) := by decide +kernel
theorem dX15_fraction_13 : decode cX15_fraction 13 = .ok (.iload_n 2, 1) := by decide +kernel
theorem dX15_fraction_14 : decode cX15_fraction 14 = .ok (.i2l, 1) := by decide +kernel
theorem dX15_fraction_15 : decode cX15_fraction 15 = .ok (.lconst 1, 1) := by decide +kernel
theorem dX15_fraction_16 : decode cX15_fraction 16 = .ok (.ldc2_w 398, 3) := by decide +kernel
theorem dX15_fraction_19 : decode cX15_fraction 19 = .ok (.invokestatic 170, 3) := by decide +kernel
theorem dX15_fraction_22 : decode cX15_fraction 22 = .ok (.ifCond .ne 7, 3) := by decide +kernel
theorem dX15_fraction_29 : decode cX15_fraction 29 = .ok (.aload_n 0, 1) := by decide +kernel
theorem dX15_fraction_30 : decode cX15_fraction 30 = .ok (.getfield 206, 3) := by decide +kernel
set_option maxRecDepth 20000 in
theorem ggX15_fraction_Jx4a65c_size_8abf5 : GoodIn wsX15_fraction wsJx4a65c_size_8abf5 := goodIn_r _ [13, 14, 90, 91, 92] rfl (by decide +kernel)
set_option maxRecDepth 20000 in
theorem gX15_fraction_Jx4a65c_size_8abf5 : GoodIn wsX15_fraction (wsV RX15 212 RJx4a65c yJx4a65c_size_8abf5 wsJx4a65c_size_8abf5) := goodIn_app (goodIn_of _ (by decide +kernel)) ggX15_fraction_Jx4a65c_size_8abf5
theorem dX15_fraction_33 : decode cX15_fraction 33 = .ok (.invokevirtual 212, 3) := by decide +kernel
theorem dX15_fraction_36 : decode cX15_fraction 36 = .ok (.bipush 10, 2) := by decide +kernel
theorem dX15_fraction_38 : decode cX15_fraction 38 = .ok (.if_icmp .ne 7, 3) := by decide +kernel
theorem dX15_fraction_45 : decode cX15_fraction 45 = .ok (.iconst 0, 1) := by decide +kernel
theorem dX15_fraction_58 : decode cX15_fraction 58 = .ok (.aload_n 0, 1) := by decide +kernel
theorem dX15_fraction_59 : decode cX15_fraction 59 = .ok (.getfield 206, 3) := by decide +kernel
theorem dX15_fraction_62 : decode cX15_fraction 62 = .ok (.iconst 2, 1) := by decide +kernel
theorem dX15_fraction_63 : decode cX15_fraction 63 = .ok (.newarray .int, 2) := by decide +kernel
theorem dX15_fraction_65 : decode cX15_fraction 65 = .ok (.dup, 1) := by decide +kernel
theorem dX15_fraction_66 : decode cX15_fraction 66 = .ok (.iconst 0, 1) := by decide +kernel
theorem dX15_fraction_67 : decode cX15_fraction 67 = .ok (.iload_n 1, 1) := by decide +kernel
theorem dX15_fraction_68 : decode cX15_fraction 68 = .ok (.iastore, 1) := by decide +kernel
theorem dX15_fraction_69 : decode cX15_fraction 69 = .ok (.dup, 1) := by decide +kernel
theorem dX15_fraction_70 : decode cX15_fraction 70 = .ok (.iconst 1, 1) := by decide +kernel
theorem dX15_fraction_71 : decode cX15_fraction 71 = .ok (.iload_n 2, 1) := by decide +kernel
theorem dX15_fraction_72 : decode cX15_fraction 72 = .ok (.iastore, 1) := by decide +kernel
set_option maxRecDepth 20000 in
theorem ggX15_fraction_Jx4a65c_add_9ea2d : GoodIn wsX15_fraction wsJx4a65c_add_9ea2d := goodIn_r _ [18, 19, 20, 21, 14, 22, 23, 24, 12, 25, 26, 27, 28, 29, 30, 31, 32, 33, 34, 35, 36, 37, 38, 39, 40, 41, 42, 43, 44, 45, 46, 47, 48, 49, 50, 51, 52, 53, 54, 55, 56, 57, 58, 59, 60, 61, 62, 63, 64, 65, 66, 67, 68, 90, 91, 92] rfl (by decide +kernel)
set_option maxRecDepth 20000 in
theorem gX15_fraction_Jx4a65c_add_9ea2d : GoodIn wsX15_fraction (wsV RX15 224 RJx4a65c yJx4a65c_add_9ea2d wsJx4a65c_add_9ea2d) := goodIn_app (goodIn_of _ (by decide +kernel)) ggX15_fraction_Jx4a65c_add_9ea2d
theorem dX15_fraction_73 : decode cX15_fraction 73 = .ok (.invokevirtual 224, 3) := by decide +kernel
theorem dX15_fraction_76 : decode cX15_fraction 76 = .ok (.pop, 1) := by decide +kernel
theorem dX15_fraction_77 : decode cX15_fraction 77 = .ok (.aload_n 0, 1) := by decide +kernel
theorem dX15_fraction_78 : decode cX15_fraction 78 = .ok (.getfield 206, 3) := by decide +kernel
theorem dX15_fraction_81 : decode cX15_fraction 81 = .ok (.invokevirtual 212, 3) := by decide +kernel
theorem dX15_fraction_84 : decode cX15_fraction 84 = .ok (.ireturn, 1) := by decide +kernel
theorem dX15_walk_0 : decode cX15_walk 0 = .ok (.aload_n 0, 1) := by decide +kernel
theorem dX15_walk_1 : decode cX15_walk 1 = .ok (.lload_n 1, 1) := by decide +kernel
theorem dX15_walk_2 : decode cX15_walk 2 = .ok (.lconst 1, 1) := by decide +kernel
theorem dX15_walk_3 : decode cX15_walk 3 = .ok (.ldc2_w 404, 3) := by decide +kernel
set_option maxRecDepth 20000 in
theorem ggX15_walk_X15_in : GoodIn wsX15_walk wsX15_in := goodIn_r _ [10] rfl (by decide +kernel)
set_option maxRecDepth 20000 in
theorem gX15_walk_X15_in : GoodIn wsX15_walk (va_wsS RX15 170 yX15_in wsX15_in) := goodIn_app (goodIn_of _ (by decide +kernel)) ggX15_walk_X15_in
theorem dX15_walk_6 : decode cX15_walk 6 = .ok (.invokestatic 170, 3) := by decide +kernel
theorem dX15_walk_9 : decode cX15_walk 9 = .ok (.ifCond .eq 19, 3) := by decide +kernel
theorem dX15_walk_28 : decode cX15_walk 28 = .ok (.iconst 1, 1) := by decide +kernel
theorem dX15_walk_29 : decode cX15_walk 29 = .ok (.putfield 209, 3) := by decide +kernel
theorem dX15_walk_32 : decode cX15_walk 32 = .ok (.aload_n 0, 1) := by decide +kernel
theorem dX15_walk_33 : decode cX15_walk 33 = .ok (.getfield 209, 3) := by decide +kernel
theorem dX15_walk_36 : decode cX15_walk 36 = .ok (.ifCond .le 5, 3) := by decide +kernel
theorem dX15_walk_39 : decode cX15_walk 39 = .ok (.lconst 0, 1) := by decide +kernel
theorem dX15_walk_40 : decode cX15_walk 40 = .ok (.lreturn, 1) := by decide +kernel
theorem dX15_walk_12 : decode cX15_walk 12 = .ok (.iload_n 3, 1) := by decide +kernel
theorem dX15_walk_13 : decode cX15_walk 13 = .ok (.i2l, 1) := by decide +kernel
theorem dX15_walk_14 : decode cX15_walk 14 = .ok (.lconst 0, 1) := by decide +kernel
theorem dX15_walk_15 : decode cX15_walk 15 = .ok (.ldc2_w 253, 3) := by decide +kernel
theorem dX15_walk_18 : decode cX15_walk 18 = .ok (.invokestatic 170, 3) := by decide +kernel
theorem dX15_walk_21 : decode cX15_walk 21 = .ok (.ifCond .eq 7, 3) := by decide +kernel
theorem dX15_walk_24 : decode cX15_walk 24 = .ok (.iconst 0, 1) := by decide +kernel
theorem dX15_walk_25 : decode cX15_walk 25 = .ok (.goto 4, 3) := by decide +kernel
theorem dX15_walk_41 : decode cX15_walk 41 = .ok (.lload_n 1, 1) := by decide +kernel
theorem dX15_walk_42 : decode cX15_walk 42 = .ok (.lstore 4, 2) := by decide +kernel
theorem dX15_walk_44 : decode cX15_walk 44 = .ok (.aload_n 0, 1) := by decide +kernel
theorem dX15_walk_45 : decode cX15_walk 45 = .ok (.iconst 0, 1) := by decide +kernel
theorem dX15_walk_46 : decode cX15_walk 46 = .ok (.putfield 406, 3) := by decide +kernel
theorem dX15_walk_49 : decode cX15_walk 49 = .ok (.aload_n 0, 1) := by decide +kernel
theorem dX15_walk_50 : decode cX15_walk 50 = .ok (.lload 4, 2) := by decide +kernel
set_option maxRecDepth 20000 in
theorem ggX15_walk_X15_fitting : GoodIn wsX15_walk wsX15_fitting := goodIn_ca (goodIn_ca (goodIn_r _ [14, 15, 16, 17, 18, 19, 20, 21, 22, 23, 24, 25, 26, 27, 28, 29, 30, 31, 32, 33, 34, 35, 36, 37, 38, 39, 40, 41, 42, 43, 44, 45, 46, 47, 48, 49, 50, 51, 9, 52, 53, 54, 55, 56, 57, 58, 59, 60, 61, 62, 63, 64, 65, 66, 67, 68, 69, 70, 71, 72, 73, 74, 75, 76, 77, 78, 79, 80] rfl (by decide +kernel)) (goodIn_sub (fun _ h => List.mem_cons_of_mem _ (List.mem_append_left _ (List.mem_append_right _ h))) (by decide +kernel))) (goodIn_sub (fun _ h => List.mem_cons_of_mem _ (List.mem_append_right _ h)) (by decide +kernel))
set_option maxRecDepth 20000 in
theorem gX15_walk_X15_fitting : GoodIn wsX15_walk (wsV RX15 409 RX15 yX15_fitting wsX15_fitting) := goodIn_app (goodIn_of _ (by decide +kernel)) ggX15_walk_X15_fitting
theorem dX15_walk_52 : decode cX15_walk 52 = .ok (.invokevirtual 409, 3) := by decide +kernel
theorem dX15_walk_55 : decode cX15_walk 55 = .ok (.astore 6, 2) := by decide +kernel
theorem dX15_walk_57 : decode cX15_walk 57 = .ok (.iconst 0, 1) := by decide +kernel
theorem dX15_walk_58 : decode cX15_walk 58 = .ok (.istore 7, 2) := by decide +kernel
theorem dX15_walk_60 : decode cX15_walk 60 = .ok (.aload 6, 2) := by decide +kernel
theorem dX15_walk_62 : decode cX15_walk 62 = .ok (.ifnull 102, 3) := by decide +kernel
theorem dX15_walk_164 : decode cX15_walk 164 = .ok (.aload_n 0, 1) := by decide +kernel
theorem dX15_walk_165 : decode cX15_walk 165 = .ok (.aload 6, 2) := by decide +kernel
theorem dX15_walk_167 : decode cX15_walk 167 = .ok (.ifnonnull 7, 3) := by decide +kernel
theorem dX15_walk_170 : decode cX15_walk 170 = .ok (.iconst 1, 1) := by decide +kernel
theorem dX15_walk_171 : decode cX15_walk 171 = .ok (.goto 4, 3) := by decide +kernel
theorem dX15_walk_175 : decode cX15_walk 175 = .ok (.putfield 415, 3) := by decide +kernel
theorem dX15_walk_178 : decode cX15_walk 178 = .ok (.lload 4, 2) := by decide +kernel
theorem dX15_walk_180 : decode cX15_walk 180 = .ok (.lreturn, 1) := by decide +kernel
theorem dX15_record_0 : decode cX15_record 0 = .ok (.iload_n 1, 1) := by decide +kernel
theorem dX15_record_1 : decode cX15_record 1 = .ok (.bipush 115, 2) := by decide +kernel
theorem dX15_record_3 : decode cX15_record 3 = .ok (.if_icmp .eq 15, 3) := by decide +kernel
theorem dX15_record_18 : decode cX15_record 18 = .ok (.iconst (-1), 1) := by decide +kernel
theorem dX15_record_19 : decode cX15_record 19 = .ok (.istore_n 2, 1) := by decide +kernel
theorem dX15_record_20 : decode cX15_record 20 = .ok (.iconst (-1), 1) := by decide +kernel
theorem dX15_record_21 : decode cX15_record 21 = .ok (.istore_n 3, 1) := by decide +kernel
theorem dX15_record_22 : decode cX15_record 22 = .ok (.iconst 0, 1) := by decide +kernel
theorem dX15_record_23 : decode cX15_record 23 = .ok (.istore 4, 2) := by decide +kernel
theorem dX15_record_25 : decode cX15_record 25 = .ok (.iload 4, 2) := by decide +kernel
theorem dX15_record_27 : decode cX15_record 27 = .ok (.aload_n 0, 1) := by decide +kernel
theorem dX15_record_28 : decode cX15_record 28 = .ok (.getfield 181, 3) := by decide +kernel
set_option maxRecDepth 20000 in
theorem ggX15_record_Jx4a65c_size_8abf5 : GoodIn wsX15_record wsJx4a65c_size_8abf5 := goodIn_r _ [17, 18, 236, 237, 238] rfl (by decide +kernel)
set_option maxRecDepth 20000 in
theorem gX15_record_Jx4a65c_size_8abf5 : GoodIn wsX15_record (wsV RX15 212 RJx4a65c yJx4a65c_size_8abf5 wsJx4a65c_size_8abf5) := goodIn_app (goodIn_of _ (by decide +kernel)) ggX15_record_Jx4a65c_size_8abf5
theorem dX15_record_31 : decode cX15_record 31 = .ok (.invokevirtual 212, 3) := by decide +kernel
theorem dX15_record_34 : decode cX15_record 34 = .ok (.if_icmp .ge 83, 3) := by decide +kernel
theorem dX15_record_117 : decode cX15_record 117 = .ok (.aload_n 0, 1) := by decide +kernel
theorem dX15_record_118 : decode cX15_record 118 = .ok (.iload_n 2, 1) := by decide +kernel
theorem dX15_record_119 : decode cX15_record 119 = .ok (.iconst (-1), 1) := by decide +kernel
theorem dX15_record_120 : decode cX15_record 120 = .ok (.if_icmp .ne 7, 3) := by decide +kernel
theorem dX15_record_123 : decode cX15_record 123 = .ok (.iconst 2, 1) := by decide +kernel
theorem dX15_record_124 : decode cX15_record 124 = .ok (.goto 4, 3) := by decide +kernel
theorem dX15_record_128 : decode cX15_record 128 = .ok (.putfield 209, 3) := by decide +kernel
theorem dX15_record_131 : decode cX15_record 131 = .ok (.aload_n 0, 1) := by decide +kernel
theorem dX15_record_132 : decode cX15_record 132 = .ok (.getfield 209, 3) := by decide +kernel
theorem dX15_record_135 : decode cX15_record 135 = .ok (.ifCond .le 7, 3) := by decide +kernel
theorem dX15_record_138 : decode cX15_record 138 = .ok (.iconst 0, 1) := by decide +kernel
theorem dX15_record_139 : decode cX15_record 139 = .ok (.goto 4, 3) := by decide +kernel
theorem dX15_record_143 : decode cX15_record 143 = .ok (.ireturn, 1) := by decide +kernel
theorem dX15_record_6 : decode cX15_record 6 = .ok (.iload_n 1, 1) := by decide +kernel
theorem dX15_record_7 : decode cX15_record 7 = .ok (.bipush 109, 2) := by decide +kernel
theorem dX15_record_9 : decode cX15_record 9 = .ok (.if_icmp .eq 9, 3) := by decide +kernel
theorem dX15_record_12 : decode cX15_record 12 = .ok (.aload_n 0, 1) := by decide +kernel
theorem dX15_record_13 : decode cX15_record 13 = .ok (.iconst 1, 1) := by decide +kernel
set_option maxRecDepth 20000 in
theorem ggX15_record_X15_raises : GoodIn wsX15_record wsX15_raises := goodIn_r _ [12, 7, 203, 204, 205, 206, 207, 208, 209, 210, 211, 212, 213, 214, 215, 216, 217, 218, 219, 220, 221, 222, 223] rfl (by decide +kernel)
set_option maxRecDepth 20000 in
theorem gX15_record_X15_raises : GoodIn wsX15_record (wsV RX15 238 RX15 yX15_raises wsX15_raises) := goodIn_app (goodIn_of _ (by decide +kernel)) ggX15_record_X15_raises
theorem dX15_record_14 : decode cX15_record 14 = .ok (.invokevirtual 238, 3) := by decide +kernel
theorem dX15_record_17 : decode cX15_record 17 = .ok (.ireturn, 1) := by decide +kernel
set_option maxHeartbeats 4000000 in
set_option maxRecDepth 100000 in
/-- X13_init -/
theorem c_X13_initE (l : Launch) (dC : Nat → ClassId) (dI : Nat → Nat → Nat) (cI : ClassId) (ma S G : Nat) (he : Int32) (hhe : he = 0 ∨ he = 1) (hSG : S * G ≤ 24) (sz : Nat) : Met l yX13_init wsX13_init ({ frames := 1, cells := 4, slots := 76, locals := 12 }) (va_Pc [.ref ma, .int he, .int (nI S), .int (nI G)] (cPC dC dI [(ma, .inr (18, [.int 0, .int 0, .int 0, .null, .null, .null, .int 0, .null, .int 0, .int 0, .int 0, .null]))] [(cI, .int)] sz)) (va_Qv (fun (u : Nat × Nat × Nat × Nat × List Value) => True) (fun (u : Nat × Nat × Nat × Nat × List Value) t => cQB dC dI [(ma, .inr (18, u.2.2.2.2))] [(cI, .int)] (va_A [(ma, .inr (18, [.int 0, .int 0, .int 0, .null, .null, .null, .int 0, .null, .int 0, .int 0, .int 0, .null]))] sz) t) (va_A [(ma, .inr (18, [.int 0, .int 0, .int 0, .null, .null, .null, .int 0, .null, .int 0, .int 0, .int 0, .null]))] sz)) 4 76 (va_A [(ma, .inr (18, [.int 0, .int 0, .int 0, .null, .null, .null, .int 0, .null, .int 0, .int 0, .int 0, .null]))] sz) := by
  refine Met.ofW (cc := cX13_init) (maxL := 5) (ret := none) (by decide) rfl ?_
  intro p e s m args below meth c s₁ B hml hv
  obtain ⟨rfl, hsz, hP, hK, hD0, hN⟩ := hv
  have hx := B.exec
  have hb := B.bytes
  have hr := B.returns
  have hts := atoms_spec (ws := wsX13_init) B.pre
  have hown : s.vm.findClass RX13 = some m.cls := findClass_of_methodNamed B.named
  have hlocks := B.notSynchronized
  have hin : meth.name = "<init>" := (name_of_methodNamed B.named B.method).1
  subst hsz
  have hD := hD0.self (sz := s.heap.size)
  generalize hAe : va_A [(ma, .inr (18, [.int 0, .int 0, .int 0, .null, .null, .null, .int 0, .null, .int 0, .int 0, .int 0, .null]))] s.heap.size = A at hD ⊢
  have hA : ∀ q : Nat, s.heap.size ≤ q → A q := fun q h => by rw [← hAe]; exact Or.inr h
  have hS : va_S A s.heap s.heap [] := va_S.rf
  have hP : va_P (dC, dI) vwCl [(ma, .inr (18, [.int 0, .int 0, .int 0, .null, .null, .null, .int 0, .null, .int 0, .int 0, .int 0, .null]))] s.heap := hP
  have hD : va_D A [(ma, .inr (18, [.int 0, .int 0, .int 0, .null, .null, .null, .int 0, .null, .int 0, .int 0, .int 0, .null]))] := hD
  have hl := lv_entry ([.ref ma, .int he, .int (nI S), .int (nI G)]) (n := 5) (Nat.le_of_ble_eq_true rfl)
  rw [lg_entry_eq]
  generalize (lg_sl ([.ref ma, .int he, .int (nI S), .int (nI G)]) ++ List.replicate (5 - (lg_sl ([.ref ma, .int he, .int (nI S), .int (nI G)])).length) Slot.unset).toArray = ls at hl ⊢
  have hl : lv_has ls 5 [(0, .ref ma), (1, .int he), (2, .int (nI S)), (3, .int (nI G))] := hl
  have iWX13 : ∀ w ∈ u_ws RX13 TX13 12, w ∈ wsX13_init := by decide +kernel
  refine lv_aload_n hx hb dX13_init_0 rfl (lv_at hl 0 rfl) ?_
  refine W.objInit hx hb hown (hts (.methodLink RX13 3 Lib.objectInit) (by decide +kernel)) (hts (.instanceMethod Lib.objectInit) (by decide +kernel)) (hts (.code Lib.objectInit ⟨#[0xb1]⟩ 1 none) (by decide +kernel)) rfl (by rw [hml]; exact hl.1) rfl dX13_init_1 (Nat.le_of_ble_eq_true rfl) (Nat.le_of_ble_eq_true rfl) ?_
  refine W.eq (g2 := F0 m 4 ls []) rfl ?_
  refine lv_aload_n hx hb dX13_init_4 rfl (lv_at hl 0 rfl) ?_
  refine lv_bipush (v := 63) hx hb dX13_init_5 (by decide) ?_
  refine va_put (D := (dC, dI)) (ci := 18) (v := .int 63) (ty := .char) (C := RX13) (T := TX13) (N := 12) hx hb hts iWX13 tyX13 tyX13_ok nmX13 hown hK hP hD hS 0 rfl rfl 8 (by decide) (hts (.fieldLink RX13 9 "BeaverhallModel$Machine" "decider" "C") (by decide +kernel)) (fun _ h9 => h9) rfl (by decide +kernel) rfl rfl (Nat.le_of_ble_eq_true rfl) dX13_init_7 (fun H locs hP hD hS => ?_)
  have hP : va_P (dC, dI) vwCl [(ma, .inr (18, [.int 0, .int 0, .int 0, .null, .null, .null, .int 0, .null, .int 63, .int 0, .int 0, .null]))] H := hP
  have hD : va_D A [(ma, .inr (18, [.int 0, .int 0, .int 0, .null, .null, .null, .int 0, .null, .int 63, .int 0, .int 0, .null]))] := hD
  refine lv_aload_n hx hb dX13_init_10 rfl (lv_at hl 0 rfl) ?_
  refine lv_iconst (v := 4) hx hb dX13_init_11 (by decide) ?_
  refine va_newa (atype := .char) (ty := .char) (a0 := (4, .inl (fun _ => 0))) (N' := 4) hx hb (hts (.arrayClass .char) (by decide +kernel)) rfl hK hP hD hS hA (fun _ => rfl) (by decide) (by decide) (Nat.le_of_ble_eq_true rfl) (Nat.le_of_ble_eq_true rfl) (Nat.le_of_ble_eq_true rfl) dX13_init_12 (fun q_2 cA_1 H hK hP hD hS => ?_)
  have hK : va_K (dC, dI) vwCl [(cI, .int), (cA_1, .char)] s := hK
  have hP : va_P (dC, dI) vwCl [(ma, .inr (18, [.int 0, .int 0, .int 0, .null, .null, .null, .int 0, .null, .int 63, .int 0, .int 0, .null])), (q_2, .inl (cA_1, 4, .inl (fun _ => 0)))] H := hP
  have hD : va_D A [(ma, .inr (18, [.int 0, .int 0, .int 0, .null, .null, .null, .int 0, .null, .int 63, .int 0, .int 0, .null])), (q_2, .inl (cA_1, 4, .inl (fun _ => 0)))] := hD
  refine W.widen (k := 1) (n := 4) (Nat.le_of_ble_eq_true rfl) (Nat.le_of_ble_eq_true rfl) ?_
  refine lv_dup hx hb dX13_init_14 rfl ?_
  refine lv_iconst (v := 0) hx hb dX13_init_15 (by decide) ?_
  refine lv_bipush (v := 63) hx hb dX13_init_16 (by decide) ?_
  refine va_cast hx hb hK hP hD hS 1 1 rfl rfl (show vp_in (nI 0) 4 from vp_in_nI (by decide) (by decide)) dX13_init_18 (fun H locs hP hD hS => ?_)
  obtain ⟨f_3, ef_3⟩ : ∃ z, z = (upd (fun _ => 0) ((0 : Int32)).toNatClampNeg (vp_nar .char 63)) := ⟨_, rfl⟩
  have hP : va_P (dC, dI) vwCl [(ma, .inr (18, [.int 0, .int 0, .int 0, .null, .null, .null, .int 0, .null, .int 63, .int 0, .int 0, .null])), (q_2, .inl (cA_1, 4, .inl f_3))] H := by rw [ef_3]; exact hP
  have hD : va_D A [(ma, .inr (18, [.int 0, .int 0, .int 0, .null, .null, .null, .int 0, .null, .int 63, .int 0, .int 0, .null])), (q_2, .inl (cA_1, 4, .inl f_3))] := by rw [ef_3]; exact hD
  refine lv_dup hx hb dX13_init_19 rfl ?_
  refine lv_iconst (v := 1) hx hb dX13_init_20 (by decide) ?_
  refine lv_bipush (v := 63) hx hb dX13_init_21 (by decide) ?_
  refine va_cast hx hb hK hP hD hS 1 1 rfl rfl (show vp_in (nI 1) 4 from vp_in_nI (by decide) (by decide)) dX13_init_23 (fun H locs hP hD hS => ?_)
  obtain ⟨f_4, ef_4⟩ : ∃ z, z = (upd f_3 ((1 : Int32)).toNatClampNeg (vp_nar .char 63)) := ⟨_, rfl⟩
  have hP : va_P (dC, dI) vwCl [(ma, .inr (18, [.int 0, .int 0, .int 0, .null, .null, .null, .int 0, .null, .int 63, .int 0, .int 0, .null])), (q_2, .inl (cA_1, 4, .inl f_4))] H := by rw [ef_4]; exact hP
  have hD : va_D A [(ma, .inr (18, [.int 0, .int 0, .int 0, .null, .null, .null, .int 0, .null, .int 63, .int 0, .int 0, .null])), (q_2, .inl (cA_1, 4, .inl f_4))] := by rw [ef_4]; exact hD
  refine lv_dup hx hb dX13_init_24 rfl ?_
  refine lv_iconst (v := 2) hx hb dX13_init_25 (by decide) ?_
  refine lv_bipush (v := 63) hx hb dX13_init_26 (by decide) ?_
  refine va_cast hx hb hK hP hD hS 1 1 rfl rfl (show vp_in (nI 2) 4 from vp_in_nI (by decide) (by decide)) dX13_init_28 (fun H locs hP hD hS => ?_)
  obtain ⟨f_5, ef_5⟩ : ∃ z, z = (upd f_4 ((2 : Int32)).toNatClampNeg (vp_nar .char 63)) := ⟨_, rfl⟩
  have hP : va_P (dC, dI) vwCl [(ma, .inr (18, [.int 0, .int 0, .int 0, .null, .null, .null, .int 0, .null, .int 63, .int 0, .int 0, .null])), (q_2, .inl (cA_1, 4, .inl f_5))] H := by rw [ef_5]; exact hP
  have hD : va_D A [(ma, .inr (18, [.int 0, .int 0, .int 0, .null, .null, .null, .int 0, .null, .int 63, .int 0, .int 0, .null])), (q_2, .inl (cA_1, 4, .inl f_5))] := by rw [ef_5]; exact hD
  refine lv_dup hx hb dX13_init_29 rfl ?_
  refine lv_iconst (v := 3) hx hb dX13_init_30 (by decide) ?_
  refine lv_bipush (v := 63) hx hb dX13_init_31 (by decide) ?_
  refine va_cast hx hb hK hP hD hS 1 1 rfl rfl (show vp_in (nI 3) 4 from vp_in_nI (by decide) (by decide)) dX13_init_33 (fun H locs hP hD hS => ?_)
  obtain ⟨f_6, ef_6⟩ : ∃ z, z = (upd f_5 ((3 : Int32)).toNatClampNeg (vp_nar .char 63)) := ⟨_, rfl⟩
  have hP : va_P (dC, dI) vwCl [(ma, .inr (18, [.int 0, .int 0, .int 0, .null, .null, .null, .int 0, .null, .int 63, .int 0, .int 0, .null])), (q_2, .inl (cA_1, 4, .inl f_6))] H := by rw [ef_6]; exact hP
  have hD : va_D A [(ma, .inr (18, [.int 0, .int 0, .int 0, .null, .null, .null, .int 0, .null, .int 63, .int 0, .int 0, .null])), (q_2, .inl (cA_1, 4, .inl f_6))] := by rw [ef_6]; exact hD
  refine va_putF (D := (dC, dI)) (ci := 18) (v := .ref q_2) (ty := .array .char) (C := RX13) (T := TX13) (N := 12) hx hb hts iWX13 tyX13 tyX13_ok nmX13 hown hK hP hD hS 0 rfl rfl 11 (by decide) (hts (.fieldLink RX13 15 "BeaverhallModel$Machine" "tells" "[C") (by decide +kernel)) (fun _ h9 => h9) rfl hin rfl (by decide +kernel) rfl rfl (Nat.le_of_ble_eq_true rfl) dX13_init_34 (fun H locs hP hD hS => ?_)
  have hP : va_P (dC, dI) vwCl [(ma, .inr (18, [.int 0, .int 0, .int 0, .null, .null, .null, .int 0, .null, .int 63, .int 0, .int 0, .ref q_2])), (q_2, .inl (cA_1, 4, .inl f_6))] H := hP
  have hD : va_D A [(ma, .inr (18, [.int 0, .int 0, .int 0, .null, .null, .null, .int 0, .null, .int 63, .int 0, .int 0, .ref q_2])), (q_2, .inl (cA_1, 4, .inl f_6))] := hD
  refine lv_aload_n hx hb dX13_init_37 rfl (lv_at hl 0 rfl) ?_
  refine lv_iload_n hx hb dX13_init_38 rfl (lv_at hl 1 rfl) ?_
  refine va_putF (D := (dC, dI)) (ci := 18) (v := .int he) (ty := .boolean) (C := RX13) (T := TX13) (N := 12) hx hb hts iWX13 tyX13 tyX13_ok nmX13 hown hK hP hD hS 0 rfl rfl 0 (by decide) (hts (.fieldLink RX13 19 "BeaverhallModel$Machine" "hasEnd" "Z") (by decide +kernel)) (fun _ h9 => h9) rfl hin rfl (by decide +kernel) (nar01 hhe) (fit01 hhe) (Nat.le_of_ble_eq_true rfl) dX13_init_39 (fun H locs hP hD hS => ?_)
  have hP : va_P (dC, dI) vwCl [(ma, .inr (18, [.int he, .int 0, .int 0, .null, .null, .null, .int 0, .null, .int 63, .int 0, .int 0, .ref q_2])), (q_2, .inl (cA_1, 4, .inl f_6))] H := hP
  have hD : va_D A [(ma, .inr (18, [.int he, .int 0, .int 0, .null, .null, .null, .int 0, .null, .int 63, .int 0, .int 0, .ref q_2])), (q_2, .inl (cA_1, 4, .inl f_6))] := hD
  refine lv_aload_n hx hb dX13_init_42 rfl (lv_at hl 0 rfl) ?_
  refine lv_iload_n hx hb dX13_init_43 rfl (lv_at hl 2 rfl) ?_
  refine va_putF (D := (dC, dI)) (ci := 18) (v := .int (nI S)) (ty := .int) (C := RX13) (T := TX13) (N := 12) hx hb hts iWX13 tyX13 tyX13_ok nmX13 hown hK hP hD hS 0 rfl rfl 1 (by decide) (hts (.fieldLink RX13 23 "BeaverhallModel$Machine" "states" "I") (by decide +kernel)) (fun _ h9 => h9) rfl hin rfl (by decide +kernel) rfl rfl (Nat.le_of_ble_eq_true rfl) dX13_init_44 (fun H locs hP hD hS => ?_)
  have hP : va_P (dC, dI) vwCl [(ma, .inr (18, [.int he, .int (nI S), .int 0, .null, .null, .null, .int 0, .null, .int 63, .int 0, .int 0, .ref q_2])), (q_2, .inl (cA_1, 4, .inl f_6))] H := hP
  have hD : va_D A [(ma, .inr (18, [.int he, .int (nI S), .int 0, .null, .null, .null, .int 0, .null, .int 63, .int 0, .int 0, .ref q_2])), (q_2, .inl (cA_1, 4, .inl f_6))] := hD
  refine lv_aload_n hx hb dX13_init_47 rfl (lv_at hl 0 rfl) ?_
  refine lv_iload_n hx hb dX13_init_48 rfl (lv_at hl 3 rfl) ?_
  refine va_putF (D := (dC, dI)) (ci := 18) (v := .int (nI G)) (ty := .int) (C := RX13) (T := TX13) (N := 12) hx hb hts iWX13 tyX13 tyX13_ok nmX13 hown hK hP hD hS 0 rfl rfl 2 (by decide) (hts (.fieldLink RX13 27 "BeaverhallModel$Machine" "signs" "I") (by decide +kernel)) (fun _ h9 => h9) rfl hin rfl (by decide +kernel) rfl rfl (Nat.le_of_ble_eq_true rfl) dX13_init_49 (fun H locs hP hD hS => ?_)
  have hP : va_P (dC, dI) vwCl [(ma, .inr (18, [.int he, .int (nI S), .int (nI G), .null, .null, .null, .int 0, .null, .int 63, .int 0, .int 0, .ref q_2])), (q_2, .inl (cA_1, 4, .inl f_6))] H := hP
  have hD : va_D A [(ma, .inr (18, [.int he, .int (nI S), .int (nI G), .null, .null, .null, .int 0, .null, .int 63, .int 0, .int 0, .ref q_2])), (q_2, .inl (cA_1, 4, .inl f_6))] := hD
  refine lv_aload_n hx hb dX13_init_52 rfl (lv_at hl 0 rfl) ?_
  refine lv_iload_n hx hb dX13_init_53 rfl (lv_at hl 2 rfl) ?_
  refine lv_iload_n hx hb dX13_init_54 rfl (lv_at hl 3 rfl) ?_
  refine lv_imul hx hb dX13_init_55 ?_
  refine va_newa (atype := .int) (ty := .int) (a0 := ((S * G), .inl (fun _ => 0))) (N' := (S * G)) hx hb (hts (.arrayClass .int) (by decide +kernel)) rfl hK hP hD hS hA (fun _ => rfl) (nI_mulneg hSG) (nI_mulcl hSG) (Nat.le_trans (Nat.mul_le_mul_right _ hSG) (Nat.le_of_ble_eq_true rfl)) (Nat.le_of_ble_eq_true rfl) (Nat.le_trans (Nat.add_le_add_left hSG _) (Nat.le_of_ble_eq_true rfl)) dX13_init_56 (fun q_8 cA_7 H hK hP hD hS => ?_)
  have ecA_7 : cI = cA_7 := cA_one hK (i := 0) (j := 2) rfl rfl
  subst ecA_7
  have hK := hK.sub (tys' := [(cI, .int), (cA_1, .char)]) [0, 1] rfl
  have hP : va_P (dC, dI) vwCl [(ma, .inr (18, [.int he, .int (nI S), .int (nI G), .null, .null, .null, .int 0, .null, .int 63, .int 0, .int 0, .ref q_2])), (q_2, .inl (cA_1, 4, .inl f_6)), (q_8, .inl (cI, (S * G), .inl (fun _ => 0)))] H := hP
  have hD : va_D A [(ma, .inr (18, [.int he, .int (nI S), .int (nI G), .null, .null, .null, .int 0, .null, .int 63, .int 0, .int 0, .ref q_2])), (q_2, .inl (cA_1, 4, .inl f_6)), (q_8, .inl (cI, (S * G), .inl (fun _ => 0)))] := hD
  refine W.widen (k := 2) (n := 28) (Nat.le_of_ble_eq_true rfl) (Nat.add_le_add_left hSG _) ?_
  refine va_putF (D := (dC, dI)) (ci := 18) (v := .ref q_8) (ty := .array .int) (C := RX13) (T := TX13) (N := 12) hx hb hts iWX13 tyX13 tyX13_ok nmX13 hown hK hP hD hS 0 rfl rfl 3 (by decide) (hts (.fieldLink RX13 30 "BeaverhallModel$Machine" "writes" "[I") (by decide +kernel)) (fun _ h9 => h9) rfl hin rfl (by decide +kernel) rfl rfl (Nat.le_of_ble_eq_true rfl) dX13_init_58 (fun H locs hP hD hS => ?_)
  have hP : va_P (dC, dI) vwCl [(ma, .inr (18, [.int he, .int (nI S), .int (nI G), .ref q_8, .null, .null, .int 0, .null, .int 63, .int 0, .int 0, .ref q_2])), (q_2, .inl (cA_1, 4, .inl f_6)), (q_8, .inl (cI, (S * G), .inl (fun _ => 0)))] H := hP
  have hD : va_D A [(ma, .inr (18, [.int he, .int (nI S), .int (nI G), .ref q_8, .null, .null, .int 0, .null, .int 63, .int 0, .int 0, .ref q_2])), (q_2, .inl (cA_1, 4, .inl f_6)), (q_8, .inl (cI, (S * G), .inl (fun _ => 0)))] := hD
  refine lv_aload_n hx hb dX13_init_61 rfl (lv_at hl 0 rfl) ?_
  refine lv_iload_n hx hb dX13_init_62 rfl (lv_at hl 2 rfl) ?_
  refine lv_iload_n hx hb dX13_init_63 rfl (lv_at hl 3 rfl) ?_
  refine lv_imul hx hb dX13_init_64 ?_
  refine va_newa (atype := .int) (ty := .int) (a0 := ((S * G), .inl (fun _ => 0))) (N' := (S * G)) hx hb (hts (.arrayClass .int) (by decide +kernel)) rfl hK hP hD hS hA (fun _ => rfl) (nI_mulneg hSG) (nI_mulcl hSG) (Nat.le_trans (Nat.mul_le_mul_right _ hSG) (Nat.le_of_ble_eq_true rfl)) (Nat.le_of_ble_eq_true rfl) (Nat.le_trans (Nat.add_le_add_left hSG _) (Nat.le_of_ble_eq_true rfl)) dX13_init_65 (fun q_10 cA_9 H hK hP hD hS => ?_)
  have ecA_9 : cI = cA_9 := cA_one hK (i := 0) (j := 2) rfl rfl
  subst ecA_9
  have hK := hK.sub (tys' := [(cI, .int), (cA_1, .char)]) [0, 1] rfl
  have hP : va_P (dC, dI) vwCl [(ma, .inr (18, [.int he, .int (nI S), .int (nI G), .ref q_8, .null, .null, .int 0, .null, .int 63, .int 0, .int 0, .ref q_2])), (q_2, .inl (cA_1, 4, .inl f_6)), (q_8, .inl (cI, (S * G), .inl (fun _ => 0))), (q_10, .inl (cI, (S * G), .inl (fun _ => 0)))] H := hP
  have hD : va_D A [(ma, .inr (18, [.int he, .int (nI S), .int (nI G), .ref q_8, .null, .null, .int 0, .null, .int 63, .int 0, .int 0, .ref q_2])), (q_2, .inl (cA_1, 4, .inl f_6)), (q_8, .inl (cI, (S * G), .inl (fun _ => 0))), (q_10, .inl (cI, (S * G), .inl (fun _ => 0)))] := hD
  refine W.widen (k := 3) (n := 52) (Nat.le_of_ble_eq_true rfl) (Nat.add_le_add_left hSG _) ?_
  refine va_putF (D := (dC, dI)) (ci := 18) (v := .ref q_10) (ty := .array .int) (C := RX13) (T := TX13) (N := 12) hx hb hts iWX13 tyX13 tyX13_ok nmX13 hown hK hP hD hS 0 rfl rfl 4 (by decide) (hts (.fieldLink RX13 34 "BeaverhallModel$Machine" "moves" "[I") (by decide +kernel)) (fun _ h9 => h9) rfl hin rfl (by decide +kernel) rfl rfl (Nat.le_of_ble_eq_true rfl) dX13_init_67 (fun H locs hP hD hS => ?_)
  have hP : va_P (dC, dI) vwCl [(ma, .inr (18, [.int he, .int (nI S), .int (nI G), .ref q_8, .ref q_10, .null, .int 0, .null, .int 63, .int 0, .int 0, .ref q_2])), (q_2, .inl (cA_1, 4, .inl f_6)), (q_8, .inl (cI, (S * G), .inl (fun _ => 0))), (q_10, .inl (cI, (S * G), .inl (fun _ => 0)))] H := hP
  have hD : va_D A [(ma, .inr (18, [.int he, .int (nI S), .int (nI G), .ref q_8, .ref q_10, .null, .int 0, .null, .int 63, .int 0, .int 0, .ref q_2])), (q_2, .inl (cA_1, 4, .inl f_6)), (q_8, .inl (cI, (S * G), .inl (fun _ => 0))), (q_10, .inl (cI, (S * G), .inl (fun _ => 0)))] := hD
  refine lv_aload_n hx hb dX13_init_70 rfl (lv_at hl 0 rfl) ?_
  refine lv_iload_n hx hb dX13_init_71 rfl (lv_at hl 2 rfl) ?_
  refine lv_iload_n hx hb dX13_init_72 rfl (lv_at hl 3 rfl) ?_
  refine lv_imul hx hb dX13_init_73 ?_
  refine va_newa (atype := .int) (ty := .int) (a0 := ((S * G), .inl (fun _ => 0))) (N' := (S * G)) hx hb (hts (.arrayClass .int) (by decide +kernel)) rfl hK hP hD hS hA (fun _ => rfl) (nI_mulneg hSG) (nI_mulcl hSG) (Nat.le_trans (Nat.mul_le_mul_right _ hSG) (Nat.le_of_ble_eq_true rfl)) (Nat.le_of_ble_eq_true rfl) (Nat.le_trans (Nat.add_le_add_left hSG _) (Nat.le_of_ble_eq_true rfl)) dX13_init_74 (fun q_12 cA_11 H hK hP hD hS => ?_)
  have ecA_11 : cI = cA_11 := cA_one hK (i := 0) (j := 2) rfl rfl
  subst ecA_11
  have hK := hK.sub (tys' := [(cI, .int), (cA_1, .char)]) [0, 1] rfl
  have hP : va_P (dC, dI) vwCl [(ma, .inr (18, [.int he, .int (nI S), .int (nI G), .ref q_8, .ref q_10, .null, .int 0, .null, .int 63, .int 0, .int 0, .ref q_2])), (q_2, .inl (cA_1, 4, .inl f_6)), (q_8, .inl (cI, (S * G), .inl (fun _ => 0))), (q_10, .inl (cI, (S * G), .inl (fun _ => 0))), (q_12, .inl (cI, (S * G), .inl (fun _ => 0)))] H := hP
  have hD : va_D A [(ma, .inr (18, [.int he, .int (nI S), .int (nI G), .ref q_8, .ref q_10, .null, .int 0, .null, .int 63, .int 0, .int 0, .ref q_2])), (q_2, .inl (cA_1, 4, .inl f_6)), (q_8, .inl (cI, (S * G), .inl (fun _ => 0))), (q_10, .inl (cI, (S * G), .inl (fun _ => 0))), (q_12, .inl (cI, (S * G), .inl (fun _ => 0)))] := hD
  refine W.widen (k := 4) (n := 76) (Nat.le_of_ble_eq_true rfl) (Nat.add_le_add_left hSG _) ?_
  refine va_putF (D := (dC, dI)) (ci := 18) (v := .ref q_12) (ty := .array .int) (C := RX13) (T := TX13) (N := 12) hx hb hts iWX13 tyX13 tyX13_ok nmX13 hown hK hP hD hS 0 rfl rfl 5 (by decide) (hts (.fieldLink RX13 37 "BeaverhallModel$Machine" "nexts" "[I") (by decide +kernel)) (fun _ h9 => h9) rfl hin rfl (by decide +kernel) rfl rfl (Nat.le_of_ble_eq_true rfl) dX13_init_76 (fun H locs hP hD hS => ?_)
  have hP : va_P (dC, dI) vwCl [(ma, .inr (18, [.int he, .int (nI S), .int (nI G), .ref q_8, .ref q_10, .ref q_12, .int 0, .null, .int 63, .int 0, .int 0, .ref q_2])), (q_2, .inl (cA_1, 4, .inl f_6)), (q_8, .inl (cI, (S * G), .inl (fun _ => 0))), (q_10, .inl (cI, (S * G), .inl (fun _ => 0))), (q_12, .inl (cI, (S * G), .inl (fun _ => 0)))] H := hP
  have hD : va_D A [(ma, .inr (18, [.int he, .int (nI S), .int (nI G), .ref q_8, .ref q_10, .ref q_12, .int 0, .null, .int 63, .int 0, .int 0, .ref q_2])), (q_2, .inl (cA_1, 4, .inl f_6)), (q_8, .inl (cI, (S * G), .inl (fun _ => 0))), (q_10, .inl (cI, (S * G), .inl (fun _ => 0))), (q_12, .inl (cI, (S * G), .inl (fun _ => 0)))] := hD
  refine lv_iconst (v := 0) hx hb dX13_init_79 (by decide) ?_
  refine lv_istore (lv' := [(4, .int 0), (0, .ref ma), (1, .int he), (2, .int (nI S)), (3, .int (nI G))]) hx hb dX13_init_80 hl (by decide) rfl (fun ls hl => ?_)
  refine lp_go (σ := Nat × (Nat → Int32)) (fun x => match x with | (j_82, g_82) => j_82 ≤ S * G ∧ g_82 = (fun q => if q < j_82 then -1 else 0)) (fun x => match x with | (j_82, g_82) => S * G - j_82) (fun x => [(ma, .inr (18, [.int he, .int (nI S), .int (nI G), .ref q_8, .ref q_10, .ref q_12, .int 0, .null, .int 63, .int 0, .int 0, .ref q_2])), (q_8, .inl (cI, (S * G), .inl x.2)), (q_10, .inl (cI, (S * G), .inl (fun _ => 0))), (q_12, .inl (cI, (S * G), .inl (fun _ => 0)))]) (fun x => [(0, .ref ma), (4, .int (nI x.1))]) (fun _ => []) (fun x hI ih82 H locs hP hD hS ls hl => ?_) (0, (fun _ => 0)) ⟨Nat.zero_le _, by funext q; rw [if_neg (Nat.not_lt_zero q)]⟩ (hP.sub [0, 2, 3, 4] rfl) (hD.sub [0, 2, 3, 4] (by decide) rfl) hS (lv_sub hl [1, 0] rfl)
  obtain ⟨j_82, g_82⟩ := x
  have hP : va_P (dC, dI) vwCl [(ma, .inr (18, [.int he, .int (nI S), .int (nI G), .ref q_8, .ref q_10, .ref q_12, .int 0, .null, .int 63, .int 0, .int 0, .ref q_2])), (q_8, .inl (cI, (S * G), .inl g_82)), (q_10, .inl (cI, (S * G), .inl (fun _ => 0))), (q_12, .inl (cI, (S * G), .inl (fun _ => 0)))] H := hP
  have hD : va_D A [(ma, .inr (18, [.int he, .int (nI S), .int (nI G), .ref q_8, .ref q_10, .ref q_12, .int 0, .null, .int 63, .int 0, .int 0, .ref q_2])), (q_8, .inl (cI, (S * G), .inl g_82)), (q_10, .inl (cI, (S * G), .inl (fun _ => 0))), (q_12, .inl (cI, (S * G), .inl (fun _ => 0)))] := hD
  have hl : lv_has ls 5 [(0, .ref ma), (4, .int (nI j_82))] := hl
  try dsimp only at hI
  have ih82 := ih82
  refine lv_iload hx hb dX13_init_82 (lv_at hl 1 rfl) ?_
  refine lv_aload_n hx hb dX13_init_84 rfl (lv_at hl 0 rfl) ?_
  refine va_get (D := (dC, dI)) (ci := 18) (v := .ref q_8) (C := RX13) (T := TX13) (N := 12) hx hb hts iWX13 hown hK hP 0 rfl rfl 3 (by decide) (hts (.fieldLink RX13 30 "BeaverhallModel$Machine" "writes" "[I") (by decide +kernel)) (fun _ h9 => h9) rfl dX13_init_85 ?_
  refine va_alen hx hb hK hP 1 0 rfl rfl (v := Int32.ofNat (S * G)) (by rfl) dX13_init_88 ?_
  refine lv_icmp_ge (tgt := 106) hx hb dX13_init_89 (by decide) (fun c89_13 => ?_) (fun c89_13 => ?_)
  · have hj : j_82 = S * G := nI_end (by omega) hI.1 c89_13
    have hg := hI.2
    rw [hj] at hg
    rw [hg] at hP hD
    have hP : va_P (dC, dI) vwCl [(ma, .inr (18, [.int he, .int (nI S), .int (nI G), .ref q_8, .ref q_10, .ref q_12, .int 0, .null, .int 63, .int 0, .int 0, .ref q_2])), (q_8, .inl (cI, (S * G), .inl (fun q => if q < S * G then -1 else 0))), (q_10, .inl (cI, (S * G), .inl (fun _ => 0))), (q_12, .inl (cI, (S * G), .inl (fun _ => 0)))] H := hP
    have hD : va_D A [(ma, .inr (18, [.int he, .int (nI S), .int (nI G), .ref q_8, .ref q_10, .ref q_12, .int 0, .null, .int 63, .int 0, .int 0, .ref q_2])), (q_8, .inl (cI, (S * G), .inl (fun q => if q < S * G then -1 else 0))), (q_10, .inl (cI, (S * G), .inl (fun _ => 0))), (q_12, .inl (cI, (S * G), .inl (fun _ => 0)))] := hD
    have hP9 := hP.sub (ws' := [(ma, .inr (18, [.int he, .int (nI S), .int (nI G), .ref q_8, .ref q_10, .ref q_12, .int 0, .null, .int 63, .int 0, .int 0, .ref q_2]))]) [0] rfl
    have hD9 := hD.sub (ws' := [(ma, .inr (18, [.int he, .int (nI S), .int (nI G), .ref q_8, .ref q_10, .ref q_12, .int 0, .null, .int 63, .int 0, .int 0, .ref q_2]))]) [0] (by decide) rfl
    have hK9 := hK.sub (tys' := [(cI, .int)]) [0] rfl
    exact W.vret hx hb hr (fun t ht hW => ⟨⟨(q_8, q_10, q_12, q_2, [.int he, .int (nI S), .int (nI G), .ref q_8, .ref q_10, .ref q_12, .int 0, .null, .int 63, .int 0, .int 0, .ref q_2]), rfl, trivial, ⟨by rw [ht]; exact hP9, va_K.moved hW.alike hK9, hD9⟩⟩, hS.F ht⟩) hS.2.2 dX13_init_106
  · refine lv_aload_n hx hb dX13_init_92 rfl (lv_at hl 0 rfl) ?_
    refine va_get (D := (dC, dI)) (ci := 18) (v := .ref q_8) (C := RX13) (T := TX13) (N := 12) hx hb hts iWX13 hown hK hP 0 rfl rfl 3 (by decide) (hts (.fieldLink RX13 30 "BeaverhallModel$Machine" "writes" "[I") (by decide +kernel)) (fun _ h9 => h9) rfl dX13_init_93 ?_
    refine lv_iload hx hb dX13_init_96 (lv_at hl 1 rfl) ?_
    refine lv_iconst (v := (-1)) hx hb dX13_init_98 (by decide) ?_
    refine va_iast hx hb hK hP hD hS 1 0 rfl rfl (vp_in_nI (nI_step (k := S * G) (by omega) hI.1 c89_13) (by omega)) dX13_init_99 (fun H locs hP hD hS => ?_)
    obtain ⟨f_14, ef_14⟩ : ∃ z, z = (upd g_82 (nI j_82).toNatClampNeg (-1)) := ⟨_, rfl⟩
    have hP : va_P (dC, dI) vwCl [(ma, .inr (18, [.int he, .int (nI S), .int (nI G), .ref q_8, .ref q_10, .ref q_12, .int 0, .null, .int 63, .int 0, .int 0, .ref q_2])), (q_8, .inl (cI, (S * G), .inl f_14)), (q_10, .inl (cI, (S * G), .inl (fun _ => 0))), (q_12, .inl (cI, (S * G), .inl (fun _ => 0)))] H := by rw [ef_14]; exact hP
    have hD : va_D A [(ma, .inr (18, [.int he, .int (nI S), .int (nI G), .ref q_8, .ref q_10, .ref q_12, .int 0, .null, .int 63, .int 0, .int 0, .ref q_2])), (q_8, .inl (cI, (S * G), .inl f_14)), (q_10, .inl (cI, (S * G), .inl (fun _ => 0))), (q_12, .inl (cI, (S * G), .inl (fun _ => 0)))] := by rw [ef_14]; exact hD
    obtain ⟨y_15, ey_15⟩ : ∃ y : Int32, y = (nI j_82) + 1 := ⟨_, rfl⟩
    refine lv_iinc (v := y_15) (lv' := [(4, .int y_15), (0, .ref ma)]) hx hb dX13_init_100 hl (k := 1) rfl (by rw [ey_15]; rfl) (by decide) rfl (fun ls hl => ?_)
    obtain rfl : y_15 = nI (j_82 + 1) := by rw [ey_15]; exact nI_1 _
    refine lv_goto (tgt := 82) hx hb dX13_init_103 (by decide) ?_
    exact ih82 ((j_82 + 1), f_14) ⟨nI_step (by omega) hI.1 c89_13, by have h3 := nI_step (k := S * G) (by omega) hI.1 c89_13; rw [ef_14, hI.2, nI_clamp (by omega)]; exact fill_upd⟩ (by have := nI_step (k := S * G) (by omega) hI.1 c89_13; show S * G - (j_82 + 1) < S * G - j_82; omega) _ _ (hP.sub [0, 1, 2, 3] rfl) (hD.sub [0, 1, 2, 3] (by decide) rfl) hS ls (lv_sub hl [1, 0] rfl)

set_option maxHeartbeats 4000000 in
set_option maxRecDepth 100000 in
/-- X15_machine -/
theorem c_X15_machine (l : Launch) (dC : Nat → ClassId) (dI : Nat → Nat → Nat) (xm ml cl fl kn rg tr : Nat) (e0 : Nat) (aK aV : Nat → Nat) (cI : ClassId) (p0 p1 p2 : Int32) (sz : Nat) : Met l yX15_machine wsX15_machine ({ frames := 6, cells := 6, slots := 98, locals := 150 }) (va_Pc [.ref xm, .int p0, .int p1, .int p2] (cPCz (zM e0 aK aV) dC dI [(xm, .inr (20, [.int 0, .int 0, .ref kn, .int 0, .int 0, .int 0, .ref ml, .ref cl, .ref rg, .ref tr, .ref (aK 0), .ref (aK 0), .ref fl, .int 0, .int 0, .int 0, .int 0, .int 0, .int 0, .int 0, .null])), (ml, .inr (4, [.int 0, .ref e0, .int 0]))] [(cI, .int)] sz)) (va_Qi (fun (r : Int32) (u : List Value) => (pMachine p0 p1 p2 ∧ u[5]? = some (.int 0) ∧ r = 0) ∨ (¬ pMachine p0 p1 p2 ∧ u[5]? = some (.int 1))) (fun (u : List Value) t => cQB dC dI [(xm, .inr (20, u))] [(cI, .int)] (va_A [(xm, .inr (20, [.int 0, .int 0, .ref kn, .int 0, .int 0, .int 0, .ref ml, .ref cl, .ref rg, .ref tr, .ref (aK 0), .ref (aK 0), .ref fl, .int 0, .int 0, .int 0, .int 0, .int 0, .int 0, .int 0, .null])), (ml, .inr (4, [.int 0, .ref e0, .int 0]))] sz) t) (va_A [(xm, .inr (20, [.int 0, .int 0, .ref kn, .int 0, .int 0, .int 0, .ref ml, .ref cl, .ref rg, .ref tr, .ref (aK 0), .ref (aK 0), .ref fl, .int 0, .int 0, .int 0, .int 0, .int 0, .int 0, .int 0, .null])), (ml, .inr (4, [.int 0, .ref e0, .int 0]))] sz)) 6 98 (va_A [(xm, .inr (20, [.int 0, .int 0, .ref kn, .int 0, .int 0, .int 0, .ref ml, .ref cl, .ref rg, .ref tr, .ref (aK 0), .ref (aK 0), .ref fl, .int 0, .int 0, .int 0, .int 0, .int 0, .int 0, .int 0, .null])), (ml, .inr (4, [.int 0, .ref e0, .int 0]))] sz) := by
  refine Met.ofW (cc := cX15_machine) (maxL := 5) (ret := (some .int)) (by decide) rfl ?_
  intro p e s m args below meth c s₁ B hml hv
  obtain ⟨rfl, ⟨hsz, hP, hK, hD0, hN⟩, hZ⟩ := hv
  have hx := B.exec
  have hb := B.bytes
  have hr := B.returns
  have hts := atoms_spec (ws := wsX15_machine) B.pre
  have hown : s.vm.findClass RX15 = some m.cls := findClass_of_methodNamed B.named
  have hlocks := B.notSynchronized
  subst hsz
  have hD := hD0.self (sz := s.heap.size)
  generalize hAe : va_A [(xm, .inr (20, [.int 0, .int 0, .ref kn, .int 0, .int 0, .int 0, .ref ml, .ref cl, .ref rg, .ref tr, .ref (aK 0), .ref (aK 0), .ref fl, .int 0, .int 0, .int 0, .int 0, .int 0, .int 0, .int 0, .null])), (ml, .inr (4, [.int 0, .ref e0, .int 0]))] s.heap.size = A at hD hZ ⊢
  have hA : ∀ q : Nat, s.heap.size ≤ q → A q := fun q h => by rw [← hAe]; exact Or.inr h
  have hS : va_S A s.heap s.heap [] := va_S.rf
  have hP : va_P (dC, dI) vwCl [(xm, .inr (20, [.int 0, .int 0, .ref kn, .int 0, .int 0, .int 0, .ref ml, .ref cl, .ref rg, .ref tr, .ref (aK 0), .ref (aK 0), .ref fl, .int 0, .int 0, .int 0, .int 0, .int 0, .int 0, .int 0, .null])), (ml, .inr (4, [.int 0, .ref e0, .int 0]))] s.heap := hP
  have hD : va_D A [(xm, .inr (20, [.int 0, .int 0, .ref kn, .int 0, .int 0, .int 0, .ref ml, .ref cl, .ref rg, .ref tr, .ref (aK 0), .ref (aK 0), .ref fl, .int 0, .int 0, .int 0, .int 0, .int 0, .int 0, .int 0, .null])), (ml, .inr (4, [.int 0, .ref e0, .int 0]))] := hD
  have hl := lv_entry ([.ref xm, .int p0, .int p1, .int p2]) (n := 5) (Nat.le_of_ble_eq_true rfl)
  rw [lg_entry_eq]
  generalize (lg_sl ([.ref xm, .int p0, .int p1, .int p2]) ++ List.replicate (5 - (lg_sl ([.ref xm, .int p0, .int p1, .int p2])).length) Slot.unset).toArray = ls at hl ⊢
  have hl : lv_has ls 5 [(0, .ref xm), (1, .int p0), (2, .int p1), (3, .int p2)] := hl
  have iWX13 : ∀ w ∈ u_ws RX13 TX13 12, w ∈ wsX15_machine := by decide +kernel
  have iWX15 : ∀ w ∈ u_ws RX15 TX15 21, w ∈ wsX15_machine := by decide +kernel
  refine lv_iload_n hx hb dX15_machine_0 rfl (lv_at hl 1 rfl) ?_
  refine lv_bipush (v := 98) hx hb dX15_machine_1 (by decide) ?_
  refine lv_icmp_eq (tgt := 12) hx hb dX15_machine_3 (by decide) (fun c3_1 => ?_) (fun c3_1 => ?_)
  · refine lv_iload_n hx hb dX15_machine_12 rfl (lv_at hl 2 rfl) ?_
    refine lv_i2l hx hb dX15_machine_13 rfl ?_
    refine lv_lconst (v := 1) hx hb dX15_machine_14 (by decide) ?_
    refine lv_ldc2 (v := (6)) hx hb hown (hts (.constantLong RX15 215 (6)) (by decide +kernel)) dX15_machine_15 ?_
    have hPc := hP.sub (ws' := []) [] rfl
    have hDc := hD.sub (ws' := []) [] (by decide) rfl
    have hKc := hK.sub (tys' := []) [] rfl
    have hFc := va_free (wc := []) hD hS hA [] rfl
    refine va_calli (va_runS (As := [.long p1.toInt64, .long 1, .long (6)]) (rest := []) ⟨hx, hb, hml, hown, hts⟩ (c_X15_in l dC dI p1.toInt64 1 (6) s.heap.size) (va_cwS 3 hts gX15_machine_X15_in rfl rfl rfl (by decide +kernel) ⟨Nat.le_of_ble_eq_true rfl, Nat.le_of_ble_eq_true rfl⟩) (pcS hPc hDc hKc hN) rfl rfl hl.1 rfl (lv_room (Nat.le_of_ble_eq_true rfl)) dX15_machine_18 ⟨Nat.le_of_ble_eq_true rfl, Nat.le_of_ble_eq_true rfl⟩) hS (fun q _ h => hFc q h) hFc (fun r_2 u t H1 locs ht hvm hw_3 hB hz1 hk1 hS => ?_)
    obtain ⟨hP1, hK1, hD1⟩ := hB
    rw [ht] at hP1
    try dsimp only at hw_3
    obtain ⟨hP, hD⟩ := va_join (wr := [(xm, .inr (20, [.int 0, .int 0, .ref kn, .int 0, .int 0, .int 0, .ref ml, .ref cl, .ref rg, .ref tr, .ref (aK 0), .ref (aK 0), .ref fl, .int 0, .int 0, .int 0, .int 0, .int 0, .int 0, .int 0, .null])), (ml, .inr (4, [.int 0, .ref e0, .int 0]))]) (w1 := []) hP hD [] [0, 1] rfl rfl (by decide) (by decide) hk1 hFc hP1 hD1
    generalize H1 = H at hP hS ⊢
    have hP : va_P (dC, dI) vwCl [(xm, .inr (20, [.int 0, .int 0, .ref kn, .int 0, .int 0, .int 0, .ref ml, .ref cl, .ref rg, .ref tr, .ref (aK 0), .ref (aK 0), .ref fl, .int 0, .int 0, .int 0, .int 0, .int 0, .int 0, .int 0, .null])), (ml, .inr (4, [.int 0, .ref e0, .int 0]))] H := hP
    have hD : va_D A [(xm, .inr (20, [.int 0, .int 0, .ref kn, .int 0, .int 0, .int 0, .ref ml, .ref cl, .ref rg, .ref tr, .ref (aK 0), .ref (aK 0), .ref fl, .int 0, .int 0, .int 0, .int 0, .int 0, .int 0, .int 0, .null])), (ml, .inr (4, [.int 0, .ref e0, .int 0]))] := hD
    have hi_4 := in32 (1) (6) (by decide) (by decide) hw_3
    refine lv_if_eq (tgt := 42) hx hb dX15_machine_21 (by decide) (fun c21_5 => ?_) (fun c21_5 => ?_)
    · have hn_6 := (hi_4).elim (fun h => absurd (h.1.symm.trans c21_5) (by decide)) (fun h => h.2)
      refine lv_iconst (v := 0) hx hb dX15_machine_42 (by decide) ?_
      refine lv_istore (lv' := [(4, .int 0), (0, .ref xm), (1, .int p0), (2, .int p1), (3, .int p2)]) hx hb dX15_machine_43 hl (by decide) rfl (fun ls hl => ?_)
      refine lv_aload_n hx hb dX15_machine_45 rfl (lv_at hl 1 rfl) ?_
      refine lv_iload hx hb dX15_machine_46 (lv_at hl 0 rfl) ?_
      refine lv_if_ne (tgt := 55) hx hb dX15_machine_48 (by decide) (fun c48_7 => ?_) (fun c48_7 => ?_)
      · exact (c48_7 (by decide)).elim
      · refine lv_iconst (v := 1) hx hb dX15_machine_51 (by decide) ?_
        refine lv_goto (tgt := 72) hx hb dX15_machine_52 (by decide) ?_
        refine va_put (D := (dC, dI)) (ci := 20) (v := .int 1) (ty := .int) (C := RX15) (T := TX15) (N := 21) hx hb hts iWX15 tyX15 tyX15_ok nmX15 hown hK hP hD hS 0 rfl rfl 5 (by decide) (hts (.fieldLink RX15 209 "BeaverhallModel" "thrown" "I") (by decide +kernel)) (fun _ h9 => h9) rfl (by decide +kernel) rfl rfl (Nat.le_of_ble_eq_true rfl) dX15_machine_72 (fun H locs hP hD hS => ?_)
        have hP : va_P (dC, dI) vwCl [(xm, .inr (20, [.int 0, .int 0, .ref kn, .int 0, .int 0, .int 1, .ref ml, .ref cl, .ref rg, .ref tr, .ref (aK 0), .ref (aK 0), .ref fl, .int 0, .int 0, .int 0, .int 0, .int 0, .int 0, .int 0, .null])), (ml, .inr (4, [.int 0, .ref e0, .int 0]))] H := hP
        have hD : va_D A [(xm, .inr (20, [.int 0, .int 0, .ref kn, .int 0, .int 0, .int 1, .ref ml, .ref cl, .ref rg, .ref tr, .ref (aK 0), .ref (aK 0), .ref fl, .int 0, .int 0, .int 0, .int 0, .int 0, .int 0, .int 0, .null])), (ml, .inr (4, [.int 0, .ref e0, .int 0]))] := hD
        refine lv_aload_n hx hb dX15_machine_75 rfl (lv_at hl 1 rfl) ?_
        refine va_get (D := (dC, dI)) (ci := 20) (v := .int 1) (C := RX15) (T := TX15) (N := 21) hx hb hts iWX15 hown hK hP 0 rfl rfl 5 (by decide) (hts (.fieldLink RX15 209 "BeaverhallModel" "thrown" "I") (by decide +kernel)) (fun _ h9 => h9) rfl dX15_machine_76 ?_
        refine lv_if_le (tgt := 84) hx hb dX15_machine_79 (by decide) (fun c79_8 => ?_) (fun c79_8 => ?_)
        · exact absurd c79_8 (by decide)
        · refine lv_iconst (v := 0) hx hb dX15_machine_82 (by decide) ?_
          have hP9 := hP.sub (ws' := [(xm, .inr (20, [.int 0, .int 0, .ref kn, .int 0, .int 0, .int 1, .ref ml, .ref cl, .ref rg, .ref tr, .ref (aK 0), .ref (aK 0), .ref fl, .int 0, .int 0, .int 0, .int 0, .int 0, .int 0, .int 0, .null]))]) [0] rfl
          have hD9 := hD.sub (ws' := [(xm, .inr (20, [.int 0, .int 0, .ref kn, .int 0, .int 0, .int 1, .ref ml, .ref cl, .ref rg, .ref tr, .ref (aK 0), .ref (aK 0), .ref fl, .int 0, .int 0, .int 0, .int 0, .int 0, .int 0, .int 0, .null]))]) [0] (by decide) rfl
          have hK9 := hK.sub (tys' := [(cI, .int)]) [0] rfl
          refine W.widen (k := 6) (n := 98) (Nat.le_of_ble_eq_true rfl) (Nat.le_of_ble_eq_true rfl) ?_
          exact W.iret (v := 0) hx hb hr (fun t ht hW => ⟨⟨0, [.int 0, .int 0, .ref kn, .int 0, .int 0, .int 1, .ref ml, .ref cl, .ref rg, .ref tr, .ref (aK 0), .ref (aK 0), .ref fl, .int 0, .int 0, .int 0, .int 0, .int 0, .int 0, .int 0, .null], rfl, (Or.inr ⟨(fun h9 => hn_6 h9.2.1), rfl⟩), ⟨by rw [ht]; exact hP9, va_K.moved hW.alike hK9, hD9⟩⟩, hS.F ht⟩) hS.2.2 dX15_machine_83
    · have hn_9 := (hi_4).elim (fun h => h.2) (fun h => absurd h.1 c21_5)
      refine lv_iload_n hx hb dX15_machine_24 rfl (lv_at hl 3 rfl) ?_
      refine lv_i2l hx hb dX15_machine_25 rfl ?_
      refine lv_ldc2 (v := (2)) hx hb hown (hts (.constantLong RX15 217 (2)) (by decide +kernel)) dX15_machine_26 ?_
      refine lv_ldc2 (v := (4)) hx hb hown (hts (.constantLong RX15 219 (4)) (by decide +kernel)) dX15_machine_29 ?_
      have hPc := hP.sub (ws' := []) [] rfl
      have hDc := hD.sub (ws' := []) [] (by decide) rfl
      have hKc := hK.sub (tys' := []) [] rfl
      have hFc := va_free (wc := []) hD hS hA [] rfl
      refine va_calli (va_runS (As := [.long p2.toInt64, .long (2), .long (4)]) (rest := []) ⟨hx, hb, hml, hown, hts⟩ (c_X15_in l dC dI p2.toInt64 (2) (4) H.size) (va_cwS 3 hts gX15_machine_X15_in rfl rfl rfl (by decide +kernel) ⟨Nat.le_of_ble_eq_true rfl, Nat.le_of_ble_eq_true rfl⟩) (pcS hPc hDc hKc hN) rfl rfl hl.1 rfl (lv_room (Nat.le_of_ble_eq_true rfl)) dX15_machine_32 ⟨Nat.le_of_ble_eq_true rfl, Nat.le_of_ble_eq_true rfl⟩) hS (fun q _ h => hFc q h) hFc (fun r_10 u t H1 locs ht hvm hw_11 hB hz1 hk1 hS => ?_)
      obtain ⟨hP1, hK1, hD1⟩ := hB
      rw [ht] at hP1
      try dsimp only at hw_11
      obtain ⟨hP, hD⟩ := va_join (wr := [(xm, .inr (20, [.int 0, .int 0, .ref kn, .int 0, .int 0, .int 0, .ref ml, .ref cl, .ref rg, .ref tr, .ref (aK 0), .ref (aK 0), .ref fl, .int 0, .int 0, .int 0, .int 0, .int 0, .int 0, .int 0, .null])), (ml, .inr (4, [.int 0, .ref e0, .int 0]))]) (w1 := []) hP hD [] [0, 1] rfl rfl (by decide) (by decide) hk1 hFc hP1 hD1
      generalize H1 = H at hP hS ⊢
      have hP : va_P (dC, dI) vwCl [(xm, .inr (20, [.int 0, .int 0, .ref kn, .int 0, .int 0, .int 0, .ref ml, .ref cl, .ref rg, .ref tr, .ref (aK 0), .ref (aK 0), .ref fl, .int 0, .int 0, .int 0, .int 0, .int 0, .int 0, .int 0, .null])), (ml, .inr (4, [.int 0, .ref e0, .int 0]))] H := hP
      have hD : va_D A [(xm, .inr (20, [.int 0, .int 0, .ref kn, .int 0, .int 0, .int 0, .ref ml, .ref cl, .ref rg, .ref tr, .ref (aK 0), .ref (aK 0), .ref fl, .int 0, .int 0, .int 0, .int 0, .int 0, .int 0, .int 0, .null])), (ml, .inr (4, [.int 0, .ref e0, .int 0]))] := hD
      have hi_12 := in32 (2) (4) (by decide) (by decide) hw_11
      refine lv_if_eq (tgt := 42) hx hb dX15_machine_35 (by decide) (fun c35_13 => ?_) (fun c35_13 => ?_)
      · have hn_14 := (hi_12).elim (fun h => absurd (h.1.symm.trans c35_13) (by decide)) (fun h => h.2)
        refine lv_iconst (v := 0) hx hb dX15_machine_42 (by decide) ?_
        refine lv_istore (lv' := [(4, .int 0), (0, .ref xm), (1, .int p0), (2, .int p1), (3, .int p2)]) hx hb dX15_machine_43 hl (by decide) rfl (fun ls hl => ?_)
        refine lv_aload_n hx hb dX15_machine_45 rfl (lv_at hl 1 rfl) ?_
        refine lv_iload hx hb dX15_machine_46 (lv_at hl 0 rfl) ?_
        refine lv_if_ne (tgt := 55) hx hb dX15_machine_48 (by decide) (fun c48_15 => ?_) (fun c48_15 => ?_)
        · exact (c48_15 (by decide)).elim
        · refine lv_iconst (v := 1) hx hb dX15_machine_51 (by decide) ?_
          refine lv_goto (tgt := 72) hx hb dX15_machine_52 (by decide) ?_
          refine va_put (D := (dC, dI)) (ci := 20) (v := .int 1) (ty := .int) (C := RX15) (T := TX15) (N := 21) hx hb hts iWX15 tyX15 tyX15_ok nmX15 hown hK hP hD hS 0 rfl rfl 5 (by decide) (hts (.fieldLink RX15 209 "BeaverhallModel" "thrown" "I") (by decide +kernel)) (fun _ h9 => h9) rfl (by decide +kernel) rfl rfl (Nat.le_of_ble_eq_true rfl) dX15_machine_72 (fun H locs hP hD hS => ?_)
          have hP : va_P (dC, dI) vwCl [(xm, .inr (20, [.int 0, .int 0, .ref kn, .int 0, .int 0, .int 1, .ref ml, .ref cl, .ref rg, .ref tr, .ref (aK 0), .ref (aK 0), .ref fl, .int 0, .int 0, .int 0, .int 0, .int 0, .int 0, .int 0, .null])), (ml, .inr (4, [.int 0, .ref e0, .int 0]))] H := hP
          have hD : va_D A [(xm, .inr (20, [.int 0, .int 0, .ref kn, .int 0, .int 0, .int 1, .ref ml, .ref cl, .ref rg, .ref tr, .ref (aK 0), .ref (aK 0), .ref fl, .int 0, .int 0, .int 0, .int 0, .int 0, .int 0, .int 0, .null])), (ml, .inr (4, [.int 0, .ref e0, .int 0]))] := hD
          refine lv_aload_n hx hb dX15_machine_75 rfl (lv_at hl 1 rfl) ?_
          refine va_get (D := (dC, dI)) (ci := 20) (v := .int 1) (C := RX15) (T := TX15) (N := 21) hx hb hts iWX15 hown hK hP 0 rfl rfl 5 (by decide) (hts (.fieldLink RX15 209 "BeaverhallModel" "thrown" "I") (by decide +kernel)) (fun _ h9 => h9) rfl dX15_machine_76 ?_
          refine lv_if_le (tgt := 84) hx hb dX15_machine_79 (by decide) (fun c79_16 => ?_) (fun c79_16 => ?_)
          · exact absurd c79_16 (by decide)
          · refine lv_iconst (v := 0) hx hb dX15_machine_82 (by decide) ?_
            have hP9 := hP.sub (ws' := [(xm, .inr (20, [.int 0, .int 0, .ref kn, .int 0, .int 0, .int 1, .ref ml, .ref cl, .ref rg, .ref tr, .ref (aK 0), .ref (aK 0), .ref fl, .int 0, .int 0, .int 0, .int 0, .int 0, .int 0, .int 0, .null]))]) [0] rfl
            have hD9 := hD.sub (ws' := [(xm, .inr (20, [.int 0, .int 0, .ref kn, .int 0, .int 0, .int 1, .ref ml, .ref cl, .ref rg, .ref tr, .ref (aK 0), .ref (aK 0), .ref fl, .int 0, .int 0, .int 0, .int 0, .int 0, .int 0, .int 0, .null]))]) [0] (by decide) rfl
            have hK9 := hK.sub (tys' := [(cI, .int)]) [0] rfl
            refine W.widen (k := 6) (n := 98) (Nat.le_of_ble_eq_true rfl) (Nat.le_of_ble_eq_true rfl) ?_
            exact W.iret (v := 0) hx hb hr (fun t ht hW => ⟨⟨0, [.int 0, .int 0, .ref kn, .int 0, .int 0, .int 1, .ref ml, .ref cl, .ref rg, .ref tr, .ref (aK 0), .ref (aK 0), .ref fl, .int 0, .int 0, .int 0, .int 0, .int 0, .int 0, .int 0, .null], rfl, (Or.inr ⟨(fun h9 => hn_14 h9.2.2), rfl⟩), ⟨by rw [ht]; exact hP9, va_K.moved hW.alike hK9, hD9⟩⟩, hS.F ht⟩) hS.2.2 dX15_machine_83
      · have hn_17 := (hi_12).elim (fun h => h.2) (fun h => absurd h.1 c35_13)
        refine lv_iconst (v := 1) hx hb dX15_machine_38 (by decide) ?_
        refine lv_goto (tgt := 43) hx hb dX15_machine_39 (by decide) ?_
        refine lv_istore (lv' := [(4, .int 1), (0, .ref xm), (1, .int p0), (2, .int p1), (3, .int p2)]) hx hb dX15_machine_43 hl (by decide) rfl (fun ls hl => ?_)
        refine lv_aload_n hx hb dX15_machine_45 rfl (lv_at hl 1 rfl) ?_
        refine lv_iload hx hb dX15_machine_46 (lv_at hl 0 rfl) ?_
        refine lv_if_ne (tgt := 55) hx hb dX15_machine_48 (by decide) (fun c48_18 => ?_) (fun c48_18 => ?_)
        · refine lv_aload_n hx hb dX15_machine_55 rfl (lv_at hl 1 rfl) ?_
          refine va_get (D := (dC, dI)) (ci := 20) (v := .ref ml) (C := RX15) (T := TX15) (N := 21) hx hb hts iWX15 hown hK hP 0 rfl rfl 6 (by decide) (hts (.fieldLink RX15 181 "BeaverhallModel" "machines" "Ljava/util/ArrayList;") (by decide +kernel)) (fun _ h9 => h9) rfl dX15_machine_56 ?_
          have hPc := hP.sub (ws' := [(ml, .inr (4, [.int 0, .ref e0, .int 0]))]) [1] rfl
          have hDc := hD.sub (ws' := [(ml, .inr (4, [.int 0, .ref e0, .int 0]))]) [1] (by decide) rfl
          have hKc := hK.sub (tys' := []) [] rfl
          have hFc := va_free (wc := [(ml, .inr (4, [.int 0, .ref e0, .int 0]))]) hD hS hA [1] rfl
          refine va_calli (va_runV (As := []) (rest := [.ref xm]) ⟨hx, hb, hml, hown, hts⟩ (c_Jx4a65c_size_8abf5 l dC dI ml e0 0 0 H.size) (cwV 0 hts gX15_machine_Jx4a65c_size_8abf5 rfl rfl rfl (by decide +kernel) ⟨Nat.le_of_ble_eq_true rfl, Nat.le_of_ble_eq_true rfl⟩) (pcV hPc hDc hKc hN (ci := 4) (q0 := 0) rfl rfl) rfl rfl hl.1 rfl (lv_room (Nat.le_of_ble_eq_true rfl)) dX15_machine_59 ⟨Nat.le_of_ble_eq_true rfl, Nat.le_of_ble_eq_true rfl⟩) hS (fun q _ h => hFc q h) hFc (fun r_19 u t H1 locs ht hvm hw_20 hB hz1 hk1 hS => ?_)
          obtain ⟨hP1, hK1, hD1⟩ := hB
          rw [ht] at hP1
          try dsimp only at hw_20
          obtain ⟨hP, hD⟩ := va_join (wr := [(xm, .inr (20, [.int 0, .int 0, .ref kn, .int 0, .int 0, .int 0, .ref ml, .ref cl, .ref rg, .ref tr, .ref (aK 0), .ref (aK 0), .ref fl, .int 0, .int 0, .int 0, .int 0, .int 0, .int 0, .int 0, .null]))]) (w1 := [(ml, .inr (4, [.int 0, .ref e0, .int 0]))]) hP hD [1] [0] rfl rfl (by decide) (by decide) hk1 hFc hP1 hD1
          generalize H1 = H at hP hS ⊢
          have hP : va_P (dC, dI) vwCl [(xm, .inr (20, [.int 0, .int 0, .ref kn, .int 0, .int 0, .int 0, .ref ml, .ref cl, .ref rg, .ref tr, .ref (aK 0), .ref (aK 0), .ref fl, .int 0, .int 0, .int 0, .int 0, .int 0, .int 0, .int 0, .null])), (ml, .inr (4, [.int 0, .ref e0, .int 0]))] H := hP
          have hD : va_D A [(xm, .inr (20, [.int 0, .int 0, .ref kn, .int 0, .int 0, .int 0, .ref ml, .ref cl, .ref rg, .ref tr, .ref (aK 0), .ref (aK 0), .ref fl, .int 0, .int 0, .int 0, .int 0, .int 0, .int 0, .int 0, .null])), (ml, .inr (4, [.int 0, .ref e0, .int 0]))] := hD
          subst hw_20
          refine lv_bipush (v := 16) hx hb dX15_machine_62 (by decide) ?_
          refine lv_icmp_ne (tgt := 71) hx hb dX15_machine_64 (by decide) (fun c64_21 => ?_) (fun c64_21 => ?_)
          · refine lv_iconst (v := 0) hx hb dX15_machine_71 (by decide) ?_
            refine va_put (D := (dC, dI)) (ci := 20) (v := .int 0) (ty := .int) (C := RX15) (T := TX15) (N := 21) hx hb hts iWX15 tyX15 tyX15_ok nmX15 hown hK hP hD hS 0 rfl rfl 5 (by decide) (hts (.fieldLink RX15 209 "BeaverhallModel" "thrown" "I") (by decide +kernel)) (fun _ h9 => h9) rfl (by decide +kernel) rfl rfl (Nat.le_of_ble_eq_true rfl) dX15_machine_72 (fun H locs hP hD hS => ?_)
            have hP : va_P (dC, dI) vwCl [(xm, .inr (20, [.int 0, .int 0, .ref kn, .int 0, .int 0, .int 0, .ref ml, .ref cl, .ref rg, .ref tr, .ref (aK 0), .ref (aK 0), .ref fl, .int 0, .int 0, .int 0, .int 0, .int 0, .int 0, .int 0, .null])), (ml, .inr (4, [.int 0, .ref e0, .int 0]))] H := hP
            have hD : va_D A [(xm, .inr (20, [.int 0, .int 0, .ref kn, .int 0, .int 0, .int 0, .ref ml, .ref cl, .ref rg, .ref tr, .ref (aK 0), .ref (aK 0), .ref fl, .int 0, .int 0, .int 0, .int 0, .int 0, .int 0, .int 0, .null])), (ml, .inr (4, [.int 0, .ref e0, .int 0]))] := hD
            refine lv_aload_n hx hb dX15_machine_75 rfl (lv_at hl 1 rfl) ?_
            refine va_get (D := (dC, dI)) (ci := 20) (v := .int 0) (C := RX15) (T := TX15) (N := 21) hx hb hts iWX15 hown hK hP 0 rfl rfl 5 (by decide) (hts (.fieldLink RX15 209 "BeaverhallModel" "thrown" "I") (by decide +kernel)) (fun _ h9 => h9) rfl dX15_machine_76 ?_
            refine lv_if_le (tgt := 84) hx hb dX15_machine_79 (by decide) (fun c79_22 => ?_) (fun c79_22 => ?_)
            · obtain ⟨S9, hS9, eS9⟩ := nI_of2 (M := 6) (n := 6) (by decide) (Int32.not_lt.mpr (Int32.le_trans (by decide) hn_9.1)) hn_9.2
              obtain ⟨G9, hG9, eG9⟩ := nI_of2 (M := 4) (n := 4) (by decide) (Int32.not_lt.mpr (Int32.le_trans (by decide) hn_17.1)) hn_17.2
              have hSG9 : S9 * G9 ≤ 24 := Nat.mul_le_mul hS9 hG9
              have hpm : pMachine p0 p1 p2 := ⟨(Or.inl c3_1), hn_9, hn_17⟩
              rw [eS9, eG9] at hpm
              subst eS9
              subst eG9
              have hl : lv_has ls 5 [(4, .int 1), (0, .ref xm), (1, .int p0), (2, .int (nI S9)), (3, .int (nI G9))] := hl
              refine lv_aload_n hx hb dX15_machine_84 rfl (lv_at hl 1 rfl) ?_
              refine va_get (D := (dC, dI)) (ci := 20) (v := .ref ml) (C := RX15) (T := TX15) (N := 21) hx hb hts iWX15 hown hK hP 0 rfl rfl 6 (by decide) (hts (.fieldLink RX15 181 "BeaverhallModel" "machines" "Ljava/util/ArrayList;") (by decide +kernel)) (fun _ h9 => h9) rfl dX15_machine_85 ?_
              refine va_new (ci := 18) (fs := [.int 0, .int 0, .int 0, .null, .null, .null, .int 0, .null, .int 0, .int 0, .int 0, .null]) (C := RX13) (T := TX13) (N := 12) hx hb hts iWX13 tyX13 tyX13_ok hown (hts (.classLink RX15 83 RX13) (by decide +kernel)) (hts (.instantiable RX13 12) (by decide +kernel)) (hts (.initialized RX13) (by decide +kernel)) hK hP hD hS hA rfl (fun j hj => by rcases (show j = 0 ∨ j = 1 ∨ j = 2 ∨ j = 3 ∨ j = 4 ∨ j = 5 ∨ j = 6 ∨ j = 7 ∨ j = 8 ∨ j = 9 ∨ j = 10 ∨ j = 11 by omega) with rfl | rfl | rfl | rfl | rfl | rfl | rfl | rfl | rfl | rfl | rfl | rfl <;> rfl) (Nat.le_of_ble_eq_true rfl) (Nat.le_of_ble_eq_true rfl) dX15_machine_88 (fun q_23 H hP hD hS => ?_)
              have hP : va_P (dC, dI) vwCl [(xm, .inr (20, [.int 0, .int 0, .ref kn, .int 0, .int 0, .int 0, .ref ml, .ref cl, .ref rg, .ref tr, .ref (aK 0), .ref (aK 0), .ref fl, .int 0, .int 0, .int 0, .int 0, .int 0, .int 0, .int 0, .null])), (ml, .inr (4, [.int 0, .ref e0, .int 0])), (q_23, .inr (18, [.int 0, .int 0, .int 0, .null, .null, .null, .int 0, .null, .int 0, .int 0, .int 0, .null]))] H := hP
              have hD : va_D A [(xm, .inr (20, [.int 0, .int 0, .ref kn, .int 0, .int 0, .int 0, .ref ml, .ref cl, .ref rg, .ref tr, .ref (aK 0), .ref (aK 0), .ref fl, .int 0, .int 0, .int 0, .int 0, .int 0, .int 0, .int 0, .null])), (ml, .inr (4, [.int 0, .ref e0, .int 0])), (q_23, .inr (18, [.int 0, .int 0, .int 0, .null, .null, .null, .int 0, .null, .int 0, .int 0, .int 0, .null]))] := hD
              refine W.widen (k := 1) (n := 12) (Nat.le_of_ble_eq_true rfl) (Nat.le_of_ble_eq_true rfl) ?_
              refine lv_dup hx hb dX15_machine_91 rfl ?_
              refine lv_iload_n hx hb dX15_machine_92 rfl (lv_at hl 2 rfl) ?_
              refine lv_bipush (v := 111) hx hb dX15_machine_93 (by decide) ?_
              refine lv_icmp_ne (tgt := 102) hx hb dX15_machine_95 (by decide) (fun c95_24 => ?_) (fun c95_24 => ?_)
              · refine lv_iconst (v := 0) hx hb dX15_machine_102 (by decide) ?_
                refine lv_iload_n hx hb dX15_machine_103 rfl (lv_at hl 3 rfl) ?_
                refine lv_iload_n hx hb dX15_machine_104 rfl (lv_at hl 4 rfl) ?_
                have hPc := hP.sub (ws' := [(q_23, .inr (18, [.int 0, .int 0, .int 0, .null, .null, .null, .int 0, .null, .int 0, .int 0, .int 0, .null]))]) [2] rfl
                have hDc := hD.sub (ws' := [(q_23, .inr (18, [.int 0, .int 0, .int 0, .null, .null, .null, .int 0, .null, .int 0, .int 0, .int 0, .null]))]) [2] (by decide) rfl
                have hKc := hK.sub (tys' := [(cI, .int)]) [0] rfl
                have hFc := va_free (wc := [(q_23, .inr (18, [.int 0, .int 0, .int 0, .null, .null, .null, .int 0, .null, .int 0, .int 0, .int 0, .null]))]) hD hS hA [2] rfl
                refine va_callv (va_runI (As := [.int 0, .int (nI S9), .int (nI G9)]) (rest := [.ref q_23, .ref ml]) ⟨hx, hb, hml, hown, hts⟩ (c_X13_initE l dC dI cI q_23 S9 G9 0 (by decide) hSG9 H.size) (cwI 3 hts gX15_machine_X13_init rfl rfl rfl (hts (.initialized RX13) (by decide +kernel)) (hts (.methodLink RX15 221 yX13_init) (by decide +kernel)) (hts (.instanceMethod yX13_init) (by decide +kernel)) rfl (by decide +kernel) ⟨Nat.le_of_ble_eq_true rfl, Nat.le_of_ble_eq_true rfl⟩) (pcS hPc hDc hKc hN) rfl rfl hl.1 rfl (lv_room (Nat.le_of_ble_eq_true rfl)) dX15_machine_105 ⟨Nat.le_of_ble_eq_true rfl, Nat.le_of_ble_eq_true rfl⟩) hS (fun q _ h => hFc q h) hFc (fun u t H1 locs ht hvm hw_30 hB hz1 hk1 hS => ?_)
                obtain ⟨wa_25, va_26, na_27, tz_28, fs_29⟩ := u
                obtain ⟨hP1, hK1, hD1⟩ := hB
                rw [ht] at hP1
                try dsimp only at hw_30
                obtain ⟨hP, hD⟩ := va_join (wr := [(xm, .inr (20, [.int 0, .int 0, .ref kn, .int 0, .int 0, .int 0, .ref ml, .ref cl, .ref rg, .ref tr, .ref (aK 0), .ref (aK 0), .ref fl, .int 0, .int 0, .int 0, .int 0, .int 0, .int 0, .int 0, .null])), (ml, .inr (4, [.int 0, .ref e0, .int 0]))]) (w1 := [(q_23, .inr (18, fs_29))]) hP hD [2] [0, 1] rfl rfl (by decide) (by decide) hk1 hFc hP1 hD1
                generalize H1 = H at hP hS ⊢
                have hP : va_P (dC, dI) vwCl [(xm, .inr (20, [.int 0, .int 0, .ref kn, .int 0, .int 0, .int 0, .ref ml, .ref cl, .ref rg, .ref tr, .ref (aK 0), .ref (aK 0), .ref fl, .int 0, .int 0, .int 0, .int 0, .int 0, .int 0, .int 0, .null])), (ml, .inr (4, [.int 0, .ref e0, .int 0])), (q_23, .inr (18, fs_29))] H := hP
                have hD : va_D A [(xm, .inr (20, [.int 0, .int 0, .ref kn, .int 0, .int 0, .int 0, .ref ml, .ref cl, .ref rg, .ref tr, .ref (aK 0), .ref (aK 0), .ref fl, .int 0, .int 0, .int 0, .int 0, .int 0, .int 0, .int 0, .null])), (ml, .inr (4, [.int 0, .ref e0, .int 0])), (q_23, .inr (18, fs_29))] := hD
                refine W.widen (k := 5) (n := 88) (Nat.le_of_ble_eq_true rfl) (Nat.le_of_ble_eq_true rfl) ?_
                have hPc := hP.sub (ws' := [(ml, .inr (4, [.int 0, .ref e0, .int 0])), (q_23, .inr (18, fs_29))]) [1, 2] rfl
                have hDc := hD.sub (ws' := [(ml, .inr (4, [.int 0, .ref e0, .int 0])), (q_23, .inr (18, fs_29))]) [1, 2] (by decide) rfl
                have hKc := hK.sub (tys' := [(cI, .int)]) [0] rfl
                have hFc := va_free (wc := [(ml, .inr (4, [.int 0, .ref e0, .int 0])), (q_23, .inr (18, fs_29))]) hD hS hA [1, 2] rfl
                refine va_calli (va_runV (As := [.ref q_23]) (rest := []) ⟨hx, hb, hml, hown, hts⟩ (c_Jx4a65c_add_9ea2d l dC dI e0 aK aV cI ml q_23 (.inr (18, fs_29)) RX13 ooH_obj 0 H.size) (cwV 1 hts gX15_machine_Jx4a65c_add_9ea2d rfl rfl rfl (by decide +kernel) ⟨Nat.le_of_ble_eq_true rfl, Nat.le_of_ble_eq_true rfl⟩) (pcVz (zM_ok e0 aK aV) hPc hDc hKc hN hZ hS hFc (ci := 4) (q0 := 0) rfl rfl) rfl rfl hl.1 rfl (lv_room (Nat.le_of_ble_eq_true rfl)) dX15_machine_108 ⟨Nat.le_of_ble_eq_true rfl, Nat.le_of_ble_eq_true rfl⟩) hS (fun q _ h => hFc q h) hFc (fun r_33 u t H1 locs ht hvm hw_34 hB hz1 hk1 hS => ?_)
                obtain ⟨q_31, m_32⟩ := u
                obtain ⟨hP1, hK1, hD1⟩ := hB
                rw [ht] at hP1
                try dsimp only at hw_34
                obtain ⟨hP, hD⟩ := va_join (wr := [(xm, .inr (20, [.int 0, .int 0, .ref kn, .int 0, .int 0, .int 0, .ref ml, .ref cl, .ref rg, .ref tr, .ref (aK 0), .ref (aK 0), .ref fl, .int 0, .int 0, .int 0, .int 0, .int 0, .int 0, .int 0, .null]))]) (w1 := [(ml, .inr (4, [.int m_32, .ref q_31, .int 1])), (q_23, .inr (18, fs_29))]) hP hD [1, 2] [0] rfl rfl (by decide) (by decide) hk1 hFc hP1 hD1
                generalize H1 = H at hP hS ⊢
                have hP : va_P (dC, dI) vwCl [(xm, .inr (20, [.int 0, .int 0, .ref kn, .int 0, .int 0, .int 0, .ref ml, .ref cl, .ref rg, .ref tr, .ref (aK 0), .ref (aK 0), .ref fl, .int 0, .int 0, .int 0, .int 0, .int 0, .int 0, .int 0, .null])), (ml, .inr (4, [.int m_32, .ref q_31, .int 1])), (q_23, .inr (18, fs_29))] H := hP
                have hD : va_D A [(xm, .inr (20, [.int 0, .int 0, .ref kn, .int 0, .int 0, .int 0, .ref ml, .ref cl, .ref rg, .ref tr, .ref (aK 0), .ref (aK 0), .ref fl, .int 0, .int 0, .int 0, .int 0, .int 0, .int 0, .int 0, .null])), (ml, .inr (4, [.int m_32, .ref q_31, .int 1])), (q_23, .inr (18, fs_29))] := hD
                refine W.widen (k := 6) (n := 98) (Nat.le_of_ble_eq_true rfl) (Nat.le_of_ble_eq_true rfl) ?_
                refine lv_pop hx hb dX15_machine_111 rfl ?_
                refine lv_aload_n hx hb dX15_machine_112 rfl (lv_at hl 1 rfl) ?_
                refine va_get (D := (dC, dI)) (ci := 20) (v := .ref ml) (C := RX15) (T := TX15) (N := 21) hx hb hts iWX15 hown hK hP 0 rfl rfl 6 (by decide) (hts (.fieldLink RX15 181 "BeaverhallModel" "machines" "Ljava/util/ArrayList;") (by decide +kernel)) (fun _ h9 => h9) rfl dX15_machine_113 ?_
                have hPc := hP.sub (ws' := [(ml, .inr (4, [.int m_32, .ref q_31, .int 1]))]) [1] rfl
                have hDc := hD.sub (ws' := [(ml, .inr (4, [.int m_32, .ref q_31, .int 1]))]) [1] (by decide) rfl
                have hKc := hK.sub (tys' := []) [] rfl
                have hFc := va_free (wc := [(ml, .inr (4, [.int m_32, .ref q_31, .int 1]))]) hD hS hA [1] rfl
                refine va_calli (va_runV (As := []) (rest := []) ⟨hx, hb, hml, hown, hts⟩ (c_Jx4a65c_size_8abf5 l dC dI ml q_31 m_32 1 H.size) (cwV 0 hts gX15_machine_Jx4a65c_size_8abf5 rfl rfl rfl (by decide +kernel) ⟨Nat.le_of_ble_eq_true rfl, Nat.le_of_ble_eq_true rfl⟩) (pcV hPc hDc hKc hN (ci := 4) (q0 := 0) rfl rfl) rfl rfl hl.1 rfl (lv_room (Nat.le_of_ble_eq_true rfl)) dX15_machine_116 ⟨Nat.le_of_ble_eq_true rfl, Nat.le_of_ble_eq_true rfl⟩) hS (fun q _ h => hFc q h) hFc (fun r_35 u t H1 locs ht hvm hw_36 hB hz1 hk1 hS => ?_)
                obtain ⟨hP1, hK1, hD1⟩ := hB
                rw [ht] at hP1
                try dsimp only at hw_36
                obtain ⟨hP, hD⟩ := va_join (wr := [(xm, .inr (20, [.int 0, .int 0, .ref kn, .int 0, .int 0, .int 0, .ref ml, .ref cl, .ref rg, .ref tr, .ref (aK 0), .ref (aK 0), .ref fl, .int 0, .int 0, .int 0, .int 0, .int 0, .int 0, .int 0, .null])), (q_23, .inr (18, fs_29))]) (w1 := [(ml, .inr (4, [.int m_32, .ref q_31, .int 1]))]) hP hD [1] [0, 2] rfl rfl (by decide) (by decide) hk1 hFc hP1 hD1
                generalize H1 = H at hP hS ⊢
                have hP : va_P (dC, dI) vwCl [(xm, .inr (20, [.int 0, .int 0, .ref kn, .int 0, .int 0, .int 0, .ref ml, .ref cl, .ref rg, .ref tr, .ref (aK 0), .ref (aK 0), .ref fl, .int 0, .int 0, .int 0, .int 0, .int 0, .int 0, .int 0, .null])), (q_23, .inr (18, fs_29)), (ml, .inr (4, [.int m_32, .ref q_31, .int 1]))] H := hP
                have hD : va_D A [(xm, .inr (20, [.int 0, .int 0, .ref kn, .int 0, .int 0, .int 0, .ref ml, .ref cl, .ref rg, .ref tr, .ref (aK 0), .ref (aK 0), .ref fl, .int 0, .int 0, .int 0, .int 0, .int 0, .int 0, .int 0, .null])), (q_23, .inr (18, fs_29)), (ml, .inr (4, [.int m_32, .ref q_31, .int 1]))] := hD
                subst hw_36
                refine lv_iconst (v := 1) hx hb dX15_machine_119 (by decide) ?_
                refine lv_isub hx hb dX15_machine_120 ?_
                have hP9 := hP.sub (ws' := [(xm, .inr (20, [.int 0, .int 0, .ref kn, .int 0, .int 0, .int 0, .ref ml, .ref cl, .ref rg, .ref tr, .ref (aK 0), .ref (aK 0), .ref fl, .int 0, .int 0, .int 0, .int 0, .int 0, .int 0, .int 0, .null]))]) [0] rfl
                have hD9 := hD.sub (ws' := [(xm, .inr (20, [.int 0, .int 0, .ref kn, .int 0, .int 0, .int 0, .ref ml, .ref cl, .ref rg, .ref tr, .ref (aK 0), .ref (aK 0), .ref fl, .int 0, .int 0, .int 0, .int 0, .int 0, .int 0, .int 0, .null]))]) [0] (by decide) rfl
                have hK9 := hK.sub (tys' := [(cI, .int)]) [0] rfl
                exact W.iret (v := ((1 : Int32) - 1)) hx hb hr (fun t ht hW => ⟨⟨((1 : Int32) - 1), [.int 0, .int 0, .ref kn, .int 0, .int 0, .int 0, .ref ml, .ref cl, .ref rg, .ref tr, .ref (aK 0), .ref (aK 0), .ref fl, .int 0, .int 0, .int 0, .int 0, .int 0, .int 0, .int 0, .null], rfl, (Or.inl ⟨hpm, rfl, by decide⟩), ⟨by rw [ht]; exact hP9, va_K.moved hW.alike hK9, hD9⟩⟩, hS.F ht⟩) hS.2.2 dX15_machine_121
              · refine lv_iconst (v := 1) hx hb dX15_machine_98 (by decide) ?_
                refine lv_goto (tgt := 103) hx hb dX15_machine_99 (by decide) ?_
                refine lv_iload_n hx hb dX15_machine_103 rfl (lv_at hl 3 rfl) ?_
                refine lv_iload_n hx hb dX15_machine_104 rfl (lv_at hl 4 rfl) ?_
                have hPc := hP.sub (ws' := [(q_23, .inr (18, [.int 0, .int 0, .int 0, .null, .null, .null, .int 0, .null, .int 0, .int 0, .int 0, .null]))]) [2] rfl
                have hDc := hD.sub (ws' := [(q_23, .inr (18, [.int 0, .int 0, .int 0, .null, .null, .null, .int 0, .null, .int 0, .int 0, .int 0, .null]))]) [2] (by decide) rfl
                have hKc := hK.sub (tys' := [(cI, .int)]) [0] rfl
                have hFc := va_free (wc := [(q_23, .inr (18, [.int 0, .int 0, .int 0, .null, .null, .null, .int 0, .null, .int 0, .int 0, .int 0, .null]))]) hD hS hA [2] rfl
                refine va_callv (va_runI (As := [.int 1, .int (nI S9), .int (nI G9)]) (rest := [.ref q_23, .ref ml]) ⟨hx, hb, hml, hown, hts⟩ (c_X13_initE l dC dI cI q_23 S9 G9 1 (by decide) hSG9 H.size) (cwI 3 hts gX15_machine_X13_init rfl rfl rfl (hts (.initialized RX13) (by decide +kernel)) (hts (.methodLink RX15 221 yX13_init) (by decide +kernel)) (hts (.instanceMethod yX13_init) (by decide +kernel)) rfl (by decide +kernel) ⟨Nat.le_of_ble_eq_true rfl, Nat.le_of_ble_eq_true rfl⟩) (pcS hPc hDc hKc hN) rfl rfl hl.1 rfl (lv_room (Nat.le_of_ble_eq_true rfl)) dX15_machine_105 ⟨Nat.le_of_ble_eq_true rfl, Nat.le_of_ble_eq_true rfl⟩) hS (fun q _ h => hFc q h) hFc (fun u t H1 locs ht hvm hw_42 hB hz1 hk1 hS => ?_)
                obtain ⟨wa_37, va_38, na_39, tz_40, fs_41⟩ := u
                obtain ⟨hP1, hK1, hD1⟩ := hB
                rw [ht] at hP1
                try dsimp only at hw_42
                obtain ⟨hP, hD⟩ := va_join (wr := [(xm, .inr (20, [.int 0, .int 0, .ref kn, .int 0, .int 0, .int 0, .ref ml, .ref cl, .ref rg, .ref tr, .ref (aK 0), .ref (aK 0), .ref fl, .int 0, .int 0, .int 0, .int 0, .int 0, .int 0, .int 0, .null])), (ml, .inr (4, [.int 0, .ref e0, .int 0]))]) (w1 := [(q_23, .inr (18, fs_41))]) hP hD [2] [0, 1] rfl rfl (by decide) (by decide) hk1 hFc hP1 hD1
                generalize H1 = H at hP hS ⊢
                have hP : va_P (dC, dI) vwCl [(xm, .inr (20, [.int 0, .int 0, .ref kn, .int 0, .int 0, .int 0, .ref ml, .ref cl, .ref rg, .ref tr, .ref (aK 0), .ref (aK 0), .ref fl, .int 0, .int 0, .int 0, .int 0, .int 0, .int 0, .int 0, .null])), (ml, .inr (4, [.int 0, .ref e0, .int 0])), (q_23, .inr (18, fs_41))] H := hP
                have hD : va_D A [(xm, .inr (20, [.int 0, .int 0, .ref kn, .int 0, .int 0, .int 0, .ref ml, .ref cl, .ref rg, .ref tr, .ref (aK 0), .ref (aK 0), .ref fl, .int 0, .int 0, .int 0, .int 0, .int 0, .int 0, .int 0, .null])), (ml, .inr (4, [.int 0, .ref e0, .int 0])), (q_23, .inr (18, fs_41))] := hD
                refine W.widen (k := 5) (n := 88) (Nat.le_of_ble_eq_true rfl) (Nat.le_of_ble_eq_true rfl) ?_
                have hPc := hP.sub (ws' := [(ml, .inr (4, [.int 0, .ref e0, .int 0])), (q_23, .inr (18, fs_41))]) [1, 2] rfl
                have hDc := hD.sub (ws' := [(ml, .inr (4, [.int 0, .ref e0, .int 0])), (q_23, .inr (18, fs_41))]) [1, 2] (by decide) rfl
                have hKc := hK.sub (tys' := [(cI, .int)]) [0] rfl
                have hFc := va_free (wc := [(ml, .inr (4, [.int 0, .ref e0, .int 0])), (q_23, .inr (18, fs_41))]) hD hS hA [1, 2] rfl
                refine va_calli (va_runV (As := [.ref q_23]) (rest := []) ⟨hx, hb, hml, hown, hts⟩ (c_Jx4a65c_add_9ea2d l dC dI e0 aK aV cI ml q_23 (.inr (18, fs_41)) RX13 ooH_obj 0 H.size) (cwV 1 hts gX15_machine_Jx4a65c_add_9ea2d rfl rfl rfl (by decide +kernel) ⟨Nat.le_of_ble_eq_true rfl, Nat.le_of_ble_eq_true rfl⟩) (pcVz (zM_ok e0 aK aV) hPc hDc hKc hN hZ hS hFc (ci := 4) (q0 := 0) rfl rfl) rfl rfl hl.1 rfl (lv_room (Nat.le_of_ble_eq_true rfl)) dX15_machine_108 ⟨Nat.le_of_ble_eq_true rfl, Nat.le_of_ble_eq_true rfl⟩) hS (fun q _ h => hFc q h) hFc (fun r_45 u t H1 locs ht hvm hw_46 hB hz1 hk1 hS => ?_)
                obtain ⟨q_43, m_44⟩ := u
                obtain ⟨hP1, hK1, hD1⟩ := hB
                rw [ht] at hP1
                try dsimp only at hw_46
                obtain ⟨hP, hD⟩ := va_join (wr := [(xm, .inr (20, [.int 0, .int 0, .ref kn, .int 0, .int 0, .int 0, .ref ml, .ref cl, .ref rg, .ref tr, .ref (aK 0), .ref (aK 0), .ref fl, .int 0, .int 0, .int 0, .int 0, .int 0, .int 0, .int 0, .null]))]) (w1 := [(ml, .inr (4, [.int m_44, .ref q_43, .int 1])), (q_23, .inr (18, fs_41))]) hP hD [1, 2] [0] rfl rfl (by decide) (by decide) hk1 hFc hP1 hD1
                generalize H1 = H at hP hS ⊢
                have hP : va_P (dC, dI) vwCl [(xm, .inr (20, [.int 0, .int 0, .ref kn, .int 0, .int 0, .int 0, .ref ml, .ref cl, .ref rg, .ref tr, .ref (aK 0), .ref (aK 0), .ref fl, .int 0, .int 0, .int 0, .int 0, .int 0, .int 0, .int 0, .null])), (ml, .inr (4, [.int m_44, .ref q_43, .int 1])), (q_23, .inr (18, fs_41))] H := hP
                have hD : va_D A [(xm, .inr (20, [.int 0, .int 0, .ref kn, .int 0, .int 0, .int 0, .ref ml, .ref cl, .ref rg, .ref tr, .ref (aK 0), .ref (aK 0), .ref fl, .int 0, .int 0, .int 0, .int 0, .int 0, .int 0, .int 0, .null])), (ml, .inr (4, [.int m_44, .ref q_43, .int 1])), (q_23, .inr (18, fs_41))] := hD
                refine W.widen (k := 6) (n := 98) (Nat.le_of_ble_eq_true rfl) (Nat.le_of_ble_eq_true rfl) ?_
                refine lv_pop hx hb dX15_machine_111 rfl ?_
                refine lv_aload_n hx hb dX15_machine_112 rfl (lv_at hl 1 rfl) ?_
                refine va_get (D := (dC, dI)) (ci := 20) (v := .ref ml) (C := RX15) (T := TX15) (N := 21) hx hb hts iWX15 hown hK hP 0 rfl rfl 6 (by decide) (hts (.fieldLink RX15 181 "BeaverhallModel" "machines" "Ljava/util/ArrayList;") (by decide +kernel)) (fun _ h9 => h9) rfl dX15_machine_113 ?_
                have hPc := hP.sub (ws' := [(ml, .inr (4, [.int m_44, .ref q_43, .int 1]))]) [1] rfl
                have hDc := hD.sub (ws' := [(ml, .inr (4, [.int m_44, .ref q_43, .int 1]))]) [1] (by decide) rfl
                have hKc := hK.sub (tys' := []) [] rfl
                have hFc := va_free (wc := [(ml, .inr (4, [.int m_44, .ref q_43, .int 1]))]) hD hS hA [1] rfl
                refine va_calli (va_runV (As := []) (rest := []) ⟨hx, hb, hml, hown, hts⟩ (c_Jx4a65c_size_8abf5 l dC dI ml q_43 m_44 1 H.size) (cwV 0 hts gX15_machine_Jx4a65c_size_8abf5 rfl rfl rfl (by decide +kernel) ⟨Nat.le_of_ble_eq_true rfl, Nat.le_of_ble_eq_true rfl⟩) (pcV hPc hDc hKc hN (ci := 4) (q0 := 0) rfl rfl) rfl rfl hl.1 rfl (lv_room (Nat.le_of_ble_eq_true rfl)) dX15_machine_116 ⟨Nat.le_of_ble_eq_true rfl, Nat.le_of_ble_eq_true rfl⟩) hS (fun q _ h => hFc q h) hFc (fun r_47 u t H1 locs ht hvm hw_48 hB hz1 hk1 hS => ?_)
                obtain ⟨hP1, hK1, hD1⟩ := hB
                rw [ht] at hP1
                try dsimp only at hw_48
                obtain ⟨hP, hD⟩ := va_join (wr := [(xm, .inr (20, [.int 0, .int 0, .ref kn, .int 0, .int 0, .int 0, .ref ml, .ref cl, .ref rg, .ref tr, .ref (aK 0), .ref (aK 0), .ref fl, .int 0, .int 0, .int 0, .int 0, .int 0, .int 0, .int 0, .null])), (q_23, .inr (18, fs_41))]) (w1 := [(ml, .inr (4, [.int m_44, .ref q_43, .int 1]))]) hP hD [1] [0, 2] rfl rfl (by decide) (by decide) hk1 hFc hP1 hD1
                generalize H1 = H at hP hS ⊢
                have hP : va_P (dC, dI) vwCl [(xm, .inr (20, [.int 0, .int 0, .ref kn, .int 0, .int 0, .int 0, .ref ml, .ref cl, .ref rg, .ref tr, .ref (aK 0), .ref (aK 0), .ref fl, .int 0, .int 0, .int 0, .int 0, .int 0, .int 0, .int 0, .null])), (q_23, .inr (18, fs_41)), (ml, .inr (4, [.int m_44, .ref q_43, .int 1]))] H := hP
                have hD : va_D A [(xm, .inr (20, [.int 0, .int 0, .ref kn, .int 0, .int 0, .int 0, .ref ml, .ref cl, .ref rg, .ref tr, .ref (aK 0), .ref (aK 0), .ref fl, .int 0, .int 0, .int 0, .int 0, .int 0, .int 0, .int 0, .null])), (q_23, .inr (18, fs_41)), (ml, .inr (4, [.int m_44, .ref q_43, .int 1]))] := hD
                subst hw_48
                refine lv_iconst (v := 1) hx hb dX15_machine_119 (by decide) ?_
                refine lv_isub hx hb dX15_machine_120 ?_
                have hP9 := hP.sub (ws' := [(xm, .inr (20, [.int 0, .int 0, .ref kn, .int 0, .int 0, .int 0, .ref ml, .ref cl, .ref rg, .ref tr, .ref (aK 0), .ref (aK 0), .ref fl, .int 0, .int 0, .int 0, .int 0, .int 0, .int 0, .int 0, .null]))]) [0] rfl
                have hD9 := hD.sub (ws' := [(xm, .inr (20, [.int 0, .int 0, .ref kn, .int 0, .int 0, .int 0, .ref ml, .ref cl, .ref rg, .ref tr, .ref (aK 0), .ref (aK 0), .ref fl, .int 0, .int 0, .int 0, .int 0, .int 0, .int 0, .int 0, .null]))]) [0] (by decide) rfl
                have hK9 := hK.sub (tys' := [(cI, .int)]) [0] rfl
                exact W.iret (v := ((1 : Int32) - 1)) hx hb hr (fun t ht hW => ⟨⟨((1 : Int32) - 1), [.int 0, .int 0, .ref kn, .int 0, .int 0, .int 0, .ref ml, .ref cl, .ref rg, .ref tr, .ref (aK 0), .ref (aK 0), .ref fl, .int 0, .int 0, .int 0, .int 0, .int 0, .int 0, .int 0, .null], rfl, (Or.inl ⟨hpm, rfl, by decide⟩), ⟨by rw [ht]; exact hP9, va_K.moved hW.alike hK9, hD9⟩⟩, hS.F ht⟩) hS.2.2 dX15_machine_121
            · exact (c79_22 (by decide)).elim
          · exact absurd c64_21 (by decide)
        · exact absurd c48_18 (by decide)
  · refine lv_iload_n hx hb dX15_machine_6 rfl (lv_at hl 1 rfl) ?_
    refine lv_bipush (v := 111) hx hb dX15_machine_7 (by decide) ?_
    refine lv_icmp_ne (tgt := 42) hx hb dX15_machine_9 (by decide) (fun c9_49 => ?_) (fun c9_49 => ?_)
    · refine lv_iconst (v := 0) hx hb dX15_machine_42 (by decide) ?_
      refine lv_istore (lv' := [(4, .int 0), (0, .ref xm), (1, .int p0), (2, .int p1), (3, .int p2)]) hx hb dX15_machine_43 hl (by decide) rfl (fun ls hl => ?_)
      refine lv_aload_n hx hb dX15_machine_45 rfl (lv_at hl 1 rfl) ?_
      refine lv_iload hx hb dX15_machine_46 (lv_at hl 0 rfl) ?_
      refine lv_if_ne (tgt := 55) hx hb dX15_machine_48 (by decide) (fun c48_50 => ?_) (fun c48_50 => ?_)
      · exact (c48_50 (by decide)).elim
      · refine lv_iconst (v := 1) hx hb dX15_machine_51 (by decide) ?_
        refine lv_goto (tgt := 72) hx hb dX15_machine_52 (by decide) ?_
        refine va_put (D := (dC, dI)) (ci := 20) (v := .int 1) (ty := .int) (C := RX15) (T := TX15) (N := 21) hx hb hts iWX15 tyX15 tyX15_ok nmX15 hown hK hP hD hS 0 rfl rfl 5 (by decide) (hts (.fieldLink RX15 209 "BeaverhallModel" "thrown" "I") (by decide +kernel)) (fun _ h9 => h9) rfl (by decide +kernel) rfl rfl (Nat.le_of_ble_eq_true rfl) dX15_machine_72 (fun H locs hP hD hS => ?_)
        have hP : va_P (dC, dI) vwCl [(xm, .inr (20, [.int 0, .int 0, .ref kn, .int 0, .int 0, .int 1, .ref ml, .ref cl, .ref rg, .ref tr, .ref (aK 0), .ref (aK 0), .ref fl, .int 0, .int 0, .int 0, .int 0, .int 0, .int 0, .int 0, .null])), (ml, .inr (4, [.int 0, .ref e0, .int 0]))] H := hP
        have hD : va_D A [(xm, .inr (20, [.int 0, .int 0, .ref kn, .int 0, .int 0, .int 1, .ref ml, .ref cl, .ref rg, .ref tr, .ref (aK 0), .ref (aK 0), .ref fl, .int 0, .int 0, .int 0, .int 0, .int 0, .int 0, .int 0, .null])), (ml, .inr (4, [.int 0, .ref e0, .int 0]))] := hD
        refine lv_aload_n hx hb dX15_machine_75 rfl (lv_at hl 1 rfl) ?_
        refine va_get (D := (dC, dI)) (ci := 20) (v := .int 1) (C := RX15) (T := TX15) (N := 21) hx hb hts iWX15 hown hK hP 0 rfl rfl 5 (by decide) (hts (.fieldLink RX15 209 "BeaverhallModel" "thrown" "I") (by decide +kernel)) (fun _ h9 => h9) rfl dX15_machine_76 ?_
        refine lv_if_le (tgt := 84) hx hb dX15_machine_79 (by decide) (fun c79_51 => ?_) (fun c79_51 => ?_)
        · exact absurd c79_51 (by decide)
        · refine lv_iconst (v := 0) hx hb dX15_machine_82 (by decide) ?_
          have hP9 := hP.sub (ws' := [(xm, .inr (20, [.int 0, .int 0, .ref kn, .int 0, .int 0, .int 1, .ref ml, .ref cl, .ref rg, .ref tr, .ref (aK 0), .ref (aK 0), .ref fl, .int 0, .int 0, .int 0, .int 0, .int 0, .int 0, .int 0, .null]))]) [0] rfl
          have hD9 := hD.sub (ws' := [(xm, .inr (20, [.int 0, .int 0, .ref kn, .int 0, .int 0, .int 1, .ref ml, .ref cl, .ref rg, .ref tr, .ref (aK 0), .ref (aK 0), .ref fl, .int 0, .int 0, .int 0, .int 0, .int 0, .int 0, .int 0, .null]))]) [0] (by decide) rfl
          have hK9 := hK.sub (tys' := [(cI, .int)]) [0] rfl
          refine W.widen (k := 6) (n := 98) (Nat.le_of_ble_eq_true rfl) (Nat.le_of_ble_eq_true rfl) ?_
          exact W.iret (v := 0) hx hb hr (fun t ht hW => ⟨⟨0, [.int 0, .int 0, .ref kn, .int 0, .int 0, .int 1, .ref ml, .ref cl, .ref rg, .ref tr, .ref (aK 0), .ref (aK 0), .ref fl, .int 0, .int 0, .int 0, .int 0, .int 0, .int 0, .int 0, .null], rfl, (Or.inr ⟨(fun h9 => (fun h9 => h9.elim c3_1 c9_49) h9.1), rfl⟩), ⟨by rw [ht]; exact hP9, va_K.moved hW.alike hK9, hD9⟩⟩, hS.F ht⟩) hS.2.2 dX15_machine_83
    · refine lv_iload_n hx hb dX15_machine_12 rfl (lv_at hl 2 rfl) ?_
      refine lv_i2l hx hb dX15_machine_13 rfl ?_
      refine lv_lconst (v := 1) hx hb dX15_machine_14 (by decide) ?_
      refine lv_ldc2 (v := (6)) hx hb hown (hts (.constantLong RX15 215 (6)) (by decide +kernel)) dX15_machine_15 ?_
      have hPc := hP.sub (ws' := []) [] rfl
      have hDc := hD.sub (ws' := []) [] (by decide) rfl
      have hKc := hK.sub (tys' := []) [] rfl
      have hFc := va_free (wc := []) hD hS hA [] rfl
      refine va_calli (va_runS (As := [.long p1.toInt64, .long 1, .long (6)]) (rest := []) ⟨hx, hb, hml, hown, hts⟩ (c_X15_in l dC dI p1.toInt64 1 (6) s.heap.size) (va_cwS 3 hts gX15_machine_X15_in rfl rfl rfl (by decide +kernel) ⟨Nat.le_of_ble_eq_true rfl, Nat.le_of_ble_eq_true rfl⟩) (pcS hPc hDc hKc hN) rfl rfl hl.1 rfl (lv_room (Nat.le_of_ble_eq_true rfl)) dX15_machine_18 ⟨Nat.le_of_ble_eq_true rfl, Nat.le_of_ble_eq_true rfl⟩) hS (fun q _ h => hFc q h) hFc (fun r_52 u t H1 locs ht hvm hw_53 hB hz1 hk1 hS => ?_)
      obtain ⟨hP1, hK1, hD1⟩ := hB
      rw [ht] at hP1
      try dsimp only at hw_53
      obtain ⟨hP, hD⟩ := va_join (wr := [(xm, .inr (20, [.int 0, .int 0, .ref kn, .int 0, .int 0, .int 0, .ref ml, .ref cl, .ref rg, .ref tr, .ref (aK 0), .ref (aK 0), .ref fl, .int 0, .int 0, .int 0, .int 0, .int 0, .int 0, .int 0, .null])), (ml, .inr (4, [.int 0, .ref e0, .int 0]))]) (w1 := []) hP hD [] [0, 1] rfl rfl (by decide) (by decide) hk1 hFc hP1 hD1
      generalize H1 = H at hP hS ⊢
      have hP : va_P (dC, dI) vwCl [(xm, .inr (20, [.int 0, .int 0, .ref kn, .int 0, .int 0, .int 0, .ref ml, .ref cl, .ref rg, .ref tr, .ref (aK 0), .ref (aK 0), .ref fl, .int 0, .int 0, .int 0, .int 0, .int 0, .int 0, .int 0, .null])), (ml, .inr (4, [.int 0, .ref e0, .int 0]))] H := hP
      have hD : va_D A [(xm, .inr (20, [.int 0, .int 0, .ref kn, .int 0, .int 0, .int 0, .ref ml, .ref cl, .ref rg, .ref tr, .ref (aK 0), .ref (aK 0), .ref fl, .int 0, .int 0, .int 0, .int 0, .int 0, .int 0, .int 0, .null])), (ml, .inr (4, [.int 0, .ref e0, .int 0]))] := hD
      have hi_54 := in32 (1) (6) (by decide) (by decide) hw_53
      refine lv_if_eq (tgt := 42) hx hb dX15_machine_21 (by decide) (fun c21_55 => ?_) (fun c21_55 => ?_)
      · have hn_56 := (hi_54).elim (fun h => absurd (h.1.symm.trans c21_55) (by decide)) (fun h => h.2)
        refine lv_iconst (v := 0) hx hb dX15_machine_42 (by decide) ?_
        refine lv_istore (lv' := [(4, .int 0), (0, .ref xm), (1, .int p0), (2, .int p1), (3, .int p2)]) hx hb dX15_machine_43 hl (by decide) rfl (fun ls hl => ?_)
        refine lv_aload_n hx hb dX15_machine_45 rfl (lv_at hl 1 rfl) ?_
        refine lv_iload hx hb dX15_machine_46 (lv_at hl 0 rfl) ?_
        refine lv_if_ne (tgt := 55) hx hb dX15_machine_48 (by decide) (fun c48_57 => ?_) (fun c48_57 => ?_)
        · exact (c48_57 (by decide)).elim
        · refine lv_iconst (v := 1) hx hb dX15_machine_51 (by decide) ?_
          refine lv_goto (tgt := 72) hx hb dX15_machine_52 (by decide) ?_
          refine va_put (D := (dC, dI)) (ci := 20) (v := .int 1) (ty := .int) (C := RX15) (T := TX15) (N := 21) hx hb hts iWX15 tyX15 tyX15_ok nmX15 hown hK hP hD hS 0 rfl rfl 5 (by decide) (hts (.fieldLink RX15 209 "BeaverhallModel" "thrown" "I") (by decide +kernel)) (fun _ h9 => h9) rfl (by decide +kernel) rfl rfl (Nat.le_of_ble_eq_true rfl) dX15_machine_72 (fun H locs hP hD hS => ?_)
          have hP : va_P (dC, dI) vwCl [(xm, .inr (20, [.int 0, .int 0, .ref kn, .int 0, .int 0, .int 1, .ref ml, .ref cl, .ref rg, .ref tr, .ref (aK 0), .ref (aK 0), .ref fl, .int 0, .int 0, .int 0, .int 0, .int 0, .int 0, .int 0, .null])), (ml, .inr (4, [.int 0, .ref e0, .int 0]))] H := hP
          have hD : va_D A [(xm, .inr (20, [.int 0, .int 0, .ref kn, .int 0, .int 0, .int 1, .ref ml, .ref cl, .ref rg, .ref tr, .ref (aK 0), .ref (aK 0), .ref fl, .int 0, .int 0, .int 0, .int 0, .int 0, .int 0, .int 0, .null])), (ml, .inr (4, [.int 0, .ref e0, .int 0]))] := hD
          refine lv_aload_n hx hb dX15_machine_75 rfl (lv_at hl 1 rfl) ?_
          refine va_get (D := (dC, dI)) (ci := 20) (v := .int 1) (C := RX15) (T := TX15) (N := 21) hx hb hts iWX15 hown hK hP 0 rfl rfl 5 (by decide) (hts (.fieldLink RX15 209 "BeaverhallModel" "thrown" "I") (by decide +kernel)) (fun _ h9 => h9) rfl dX15_machine_76 ?_
          refine lv_if_le (tgt := 84) hx hb dX15_machine_79 (by decide) (fun c79_58 => ?_) (fun c79_58 => ?_)
          · exact absurd c79_58 (by decide)
          · refine lv_iconst (v := 0) hx hb dX15_machine_82 (by decide) ?_
            have hP9 := hP.sub (ws' := [(xm, .inr (20, [.int 0, .int 0, .ref kn, .int 0, .int 0, .int 1, .ref ml, .ref cl, .ref rg, .ref tr, .ref (aK 0), .ref (aK 0), .ref fl, .int 0, .int 0, .int 0, .int 0, .int 0, .int 0, .int 0, .null]))]) [0] rfl
            have hD9 := hD.sub (ws' := [(xm, .inr (20, [.int 0, .int 0, .ref kn, .int 0, .int 0, .int 1, .ref ml, .ref cl, .ref rg, .ref tr, .ref (aK 0), .ref (aK 0), .ref fl, .int 0, .int 0, .int 0, .int 0, .int 0, .int 0, .int 0, .null]))]) [0] (by decide) rfl
            have hK9 := hK.sub (tys' := [(cI, .int)]) [0] rfl
            refine W.widen (k := 6) (n := 98) (Nat.le_of_ble_eq_true rfl) (Nat.le_of_ble_eq_true rfl) ?_
            exact W.iret (v := 0) hx hb hr (fun t ht hW => ⟨⟨0, [.int 0, .int 0, .ref kn, .int 0, .int 0, .int 1, .ref ml, .ref cl, .ref rg, .ref tr, .ref (aK 0), .ref (aK 0), .ref fl, .int 0, .int 0, .int 0, .int 0, .int 0, .int 0, .int 0, .null], rfl, (Or.inr ⟨(fun h9 => hn_56 h9.2.1), rfl⟩), ⟨by rw [ht]; exact hP9, va_K.moved hW.alike hK9, hD9⟩⟩, hS.F ht⟩) hS.2.2 dX15_machine_83
      · have hn_59 := (hi_54).elim (fun h => h.2) (fun h => absurd h.1 c21_55)
        refine lv_iload_n hx hb dX15_machine_24 rfl (lv_at hl 3 rfl) ?_
        refine lv_i2l hx hb dX15_machine_25 rfl ?_
        refine lv_ldc2 (v := (2)) hx hb hown (hts (.constantLong RX15 217 (2)) (by decide +kernel)) dX15_machine_26 ?_
        refine lv_ldc2 (v := (4)) hx hb hown (hts (.constantLong RX15 219 (4)) (by decide +kernel)) dX15_machine_29 ?_
        have hPc := hP.sub (ws' := []) [] rfl
        have hDc := hD.sub (ws' := []) [] (by decide) rfl
        have hKc := hK.sub (tys' := []) [] rfl
        have hFc := va_free (wc := []) hD hS hA [] rfl
        refine va_calli (va_runS (As := [.long p2.toInt64, .long (2), .long (4)]) (rest := []) ⟨hx, hb, hml, hown, hts⟩ (c_X15_in l dC dI p2.toInt64 (2) (4) H.size) (va_cwS 3 hts gX15_machine_X15_in rfl rfl rfl (by decide +kernel) ⟨Nat.le_of_ble_eq_true rfl, Nat.le_of_ble_eq_true rfl⟩) (pcS hPc hDc hKc hN) rfl rfl hl.1 rfl (lv_room (Nat.le_of_ble_eq_true rfl)) dX15_machine_32 ⟨Nat.le_of_ble_eq_true rfl, Nat.le_of_ble_eq_true rfl⟩) hS (fun q _ h => hFc q h) hFc (fun r_60 u t H1 locs ht hvm hw_61 hB hz1 hk1 hS => ?_)
        obtain ⟨hP1, hK1, hD1⟩ := hB
        rw [ht] at hP1
        try dsimp only at hw_61
        obtain ⟨hP, hD⟩ := va_join (wr := [(xm, .inr (20, [.int 0, .int 0, .ref kn, .int 0, .int 0, .int 0, .ref ml, .ref cl, .ref rg, .ref tr, .ref (aK 0), .ref (aK 0), .ref fl, .int 0, .int 0, .int 0, .int 0, .int 0, .int 0, .int 0, .null])), (ml, .inr (4, [.int 0, .ref e0, .int 0]))]) (w1 := []) hP hD [] [0, 1] rfl rfl (by decide) (by decide) hk1 hFc hP1 hD1
        generalize H1 = H at hP hS ⊢
        have hP : va_P (dC, dI) vwCl [(xm, .inr (20, [.int 0, .int 0, .ref kn, .int 0, .int 0, .int 0, .ref ml, .ref cl, .ref rg, .ref tr, .ref (aK 0), .ref (aK 0), .ref fl, .int 0, .int 0, .int 0, .int 0, .int 0, .int 0, .int 0, .null])), (ml, .inr (4, [.int 0, .ref e0, .int 0]))] H := hP
        have hD : va_D A [(xm, .inr (20, [.int 0, .int 0, .ref kn, .int 0, .int 0, .int 0, .ref ml, .ref cl, .ref rg, .ref tr, .ref (aK 0), .ref (aK 0), .ref fl, .int 0, .int 0, .int 0, .int 0, .int 0, .int 0, .int 0, .null])), (ml, .inr (4, [.int 0, .ref e0, .int 0]))] := hD
        have hi_62 := in32 (2) (4) (by decide) (by decide) hw_61
        refine lv_if_eq (tgt := 42) hx hb dX15_machine_35 (by decide) (fun c35_63 => ?_) (fun c35_63 => ?_)
        · have hn_64 := (hi_62).elim (fun h => absurd (h.1.symm.trans c35_63) (by decide)) (fun h => h.2)
          refine lv_iconst (v := 0) hx hb dX15_machine_42 (by decide) ?_
          refine lv_istore (lv' := [(4, .int 0), (0, .ref xm), (1, .int p0), (2, .int p1), (3, .int p2)]) hx hb dX15_machine_43 hl (by decide) rfl (fun ls hl => ?_)
          refine lv_aload_n hx hb dX15_machine_45 rfl (lv_at hl 1 rfl) ?_
          refine lv_iload hx hb dX15_machine_46 (lv_at hl 0 rfl) ?_
          refine lv_if_ne (tgt := 55) hx hb dX15_machine_48 (by decide) (fun c48_65 => ?_) (fun c48_65 => ?_)
          · exact (c48_65 (by decide)).elim
          · refine lv_iconst (v := 1) hx hb dX15_machine_51 (by decide) ?_
            refine lv_goto (tgt := 72) hx hb dX15_machine_52 (by decide) ?_
            refine va_put (D := (dC, dI)) (ci := 20) (v := .int 1) (ty := .int) (C := RX15) (T := TX15) (N := 21) hx hb hts iWX15 tyX15 tyX15_ok nmX15 hown hK hP hD hS 0 rfl rfl 5 (by decide) (hts (.fieldLink RX15 209 "BeaverhallModel" "thrown" "I") (by decide +kernel)) (fun _ h9 => h9) rfl (by decide +kernel) rfl rfl (Nat.le_of_ble_eq_true rfl) dX15_machine_72 (fun H locs hP hD hS => ?_)
            have hP : va_P (dC, dI) vwCl [(xm, .inr (20, [.int 0, .int 0, .ref kn, .int 0, .int 0, .int 1, .ref ml, .ref cl, .ref rg, .ref tr, .ref (aK 0), .ref (aK 0), .ref fl, .int 0, .int 0, .int 0, .int 0, .int 0, .int 0, .int 0, .null])), (ml, .inr (4, [.int 0, .ref e0, .int 0]))] H := hP
            have hD : va_D A [(xm, .inr (20, [.int 0, .int 0, .ref kn, .int 0, .int 0, .int 1, .ref ml, .ref cl, .ref rg, .ref tr, .ref (aK 0), .ref (aK 0), .ref fl, .int 0, .int 0, .int 0, .int 0, .int 0, .int 0, .int 0, .null])), (ml, .inr (4, [.int 0, .ref e0, .int 0]))] := hD
            refine lv_aload_n hx hb dX15_machine_75 rfl (lv_at hl 1 rfl) ?_
            refine va_get (D := (dC, dI)) (ci := 20) (v := .int 1) (C := RX15) (T := TX15) (N := 21) hx hb hts iWX15 hown hK hP 0 rfl rfl 5 (by decide) (hts (.fieldLink RX15 209 "BeaverhallModel" "thrown" "I") (by decide +kernel)) (fun _ h9 => h9) rfl dX15_machine_76 ?_
            refine lv_if_le (tgt := 84) hx hb dX15_machine_79 (by decide) (fun c79_66 => ?_) (fun c79_66 => ?_)
            · exact absurd c79_66 (by decide)
            · refine lv_iconst (v := 0) hx hb dX15_machine_82 (by decide) ?_
              have hP9 := hP.sub (ws' := [(xm, .inr (20, [.int 0, .int 0, .ref kn, .int 0, .int 0, .int 1, .ref ml, .ref cl, .ref rg, .ref tr, .ref (aK 0), .ref (aK 0), .ref fl, .int 0, .int 0, .int 0, .int 0, .int 0, .int 0, .int 0, .null]))]) [0] rfl
              have hD9 := hD.sub (ws' := [(xm, .inr (20, [.int 0, .int 0, .ref kn, .int 0, .int 0, .int 1, .ref ml, .ref cl, .ref rg, .ref tr, .ref (aK 0), .ref (aK 0), .ref fl, .int 0, .int 0, .int 0, .int 0, .int 0, .int 0, .int 0, .null]))]) [0] (by decide) rfl
              have hK9 := hK.sub (tys' := [(cI, .int)]) [0] rfl
              refine W.widen (k := 6) (n := 98) (Nat.le_of_ble_eq_true rfl) (Nat.le_of_ble_eq_true rfl) ?_
              exact W.iret (v := 0) hx hb hr (fun t ht hW => ⟨⟨0, [.int 0, .int 0, .ref kn, .int 0, .int 0, .int 1, .ref ml, .ref cl, .ref rg, .ref tr, .ref (aK 0), .ref (aK 0), .ref fl, .int 0, .int 0, .int 0, .int 0, .int 0, .int 0, .int 0, .null], rfl, (Or.inr ⟨(fun h9 => hn_64 h9.2.2), rfl⟩), ⟨by rw [ht]; exact hP9, va_K.moved hW.alike hK9, hD9⟩⟩, hS.F ht⟩) hS.2.2 dX15_machine_83
        · have hn_67 := (hi_62).elim (fun h => h.2) (fun h => absurd h.1 c35_63)
          refine lv_iconst (v := 1) hx hb dX15_machine_38 (by decide) ?_
          refine lv_goto (tgt := 43) hx hb dX15_machine_39 (by decide) ?_
          refine lv_istore (lv' := [(4, .int 1), (0, .ref xm), (1, .int p0), (2, .int p1), (3, .int p2)]) hx hb dX15_machine_43 hl (by decide) rfl (fun ls hl => ?_)
          refine lv_aload_n hx hb dX15_machine_45 rfl (lv_at hl 1 rfl) ?_
          refine lv_iload hx hb dX15_machine_46 (lv_at hl 0 rfl) ?_
          refine lv_if_ne (tgt := 55) hx hb dX15_machine_48 (by decide) (fun c48_68 => ?_) (fun c48_68 => ?_)
          · refine lv_aload_n hx hb dX15_machine_55 rfl (lv_at hl 1 rfl) ?_
            refine va_get (D := (dC, dI)) (ci := 20) (v := .ref ml) (C := RX15) (T := TX15) (N := 21) hx hb hts iWX15 hown hK hP 0 rfl rfl 6 (by decide) (hts (.fieldLink RX15 181 "BeaverhallModel" "machines" "Ljava/util/ArrayList;") (by decide +kernel)) (fun _ h9 => h9) rfl dX15_machine_56 ?_
            have hPc := hP.sub (ws' := [(ml, .inr (4, [.int 0, .ref e0, .int 0]))]) [1] rfl
            have hDc := hD.sub (ws' := [(ml, .inr (4, [.int 0, .ref e0, .int 0]))]) [1] (by decide) rfl
            have hKc := hK.sub (tys' := []) [] rfl
            have hFc := va_free (wc := [(ml, .inr (4, [.int 0, .ref e0, .int 0]))]) hD hS hA [1] rfl
            refine va_calli (va_runV (As := []) (rest := [.ref xm]) ⟨hx, hb, hml, hown, hts⟩ (c_Jx4a65c_size_8abf5 l dC dI ml e0 0 0 H.size) (cwV 0 hts gX15_machine_Jx4a65c_size_8abf5 rfl rfl rfl (by decide +kernel) ⟨Nat.le_of_ble_eq_true rfl, Nat.le_of_ble_eq_true rfl⟩) (pcV hPc hDc hKc hN (ci := 4) (q0 := 0) rfl rfl) rfl rfl hl.1 rfl (lv_room (Nat.le_of_ble_eq_true rfl)) dX15_machine_59 ⟨Nat.le_of_ble_eq_true rfl, Nat.le_of_ble_eq_true rfl⟩) hS (fun q _ h => hFc q h) hFc (fun r_69 u t H1 locs ht hvm hw_70 hB hz1 hk1 hS => ?_)
            obtain ⟨hP1, hK1, hD1⟩ := hB
            rw [ht] at hP1
            try dsimp only at hw_70
            obtain ⟨hP, hD⟩ := va_join (wr := [(xm, .inr (20, [.int 0, .int 0, .ref kn, .int 0, .int 0, .int 0, .ref ml, .ref cl, .ref rg, .ref tr, .ref (aK 0), .ref (aK 0), .ref fl, .int 0, .int 0, .int 0, .int 0, .int 0, .int 0, .int 0, .null]))]) (w1 := [(ml, .inr (4, [.int 0, .ref e0, .int 0]))]) hP hD [1] [0] rfl rfl (by decide) (by decide) hk1 hFc hP1 hD1
            generalize H1 = H at hP hS ⊢
            have hP : va_P (dC, dI) vwCl [(xm, .inr (20, [.int 0, .int 0, .ref kn, .int 0, .int 0, .int 0, .ref ml, .ref cl, .ref rg, .ref tr, .ref (aK 0), .ref (aK 0), .ref fl, .int 0, .int 0, .int 0, .int 0, .int 0, .int 0, .int 0, .null])), (ml, .inr (4, [.int 0, .ref e0, .int 0]))] H := hP
            have hD : va_D A [(xm, .inr (20, [.int 0, .int 0, .ref kn, .int 0, .int 0, .int 0, .ref ml, .ref cl, .ref rg, .ref tr, .ref (aK 0), .ref (aK 0), .ref fl, .int 0, .int 0, .int 0, .int 0, .int 0, .int 0, .int 0, .null])), (ml, .inr (4, [.int 0, .ref e0, .int 0]))] := hD
            subst hw_70
            refine lv_bipush (v := 16) hx hb dX15_machine_62 (by decide) ?_
            refine lv_icmp_ne (tgt := 71) hx hb dX15_machine_64 (by decide) (fun c64_71 => ?_) (fun c64_71 => ?_)
            · refine lv_iconst (v := 0) hx hb dX15_machine_71 (by decide) ?_
              refine va_put (D := (dC, dI)) (ci := 20) (v := .int 0) (ty := .int) (C := RX15) (T := TX15) (N := 21) hx hb hts iWX15 tyX15 tyX15_ok nmX15 hown hK hP hD hS 0 rfl rfl 5 (by decide) (hts (.fieldLink RX15 209 "BeaverhallModel" "thrown" "I") (by decide +kernel)) (fun _ h9 => h9) rfl (by decide +kernel) rfl rfl (Nat.le_of_ble_eq_true rfl) dX15_machine_72 (fun H locs hP hD hS => ?_)
              have hP : va_P (dC, dI) vwCl [(xm, .inr (20, [.int 0, .int 0, .ref kn, .int 0, .int 0, .int 0, .ref ml, .ref cl, .ref rg, .ref tr, .ref (aK 0), .ref (aK 0), .ref fl, .int 0, .int 0, .int 0, .int 0, .int 0, .int 0, .int 0, .null])), (ml, .inr (4, [.int 0, .ref e0, .int 0]))] H := hP
              have hD : va_D A [(xm, .inr (20, [.int 0, .int 0, .ref kn, .int 0, .int 0, .int 0, .ref ml, .ref cl, .ref rg, .ref tr, .ref (aK 0), .ref (aK 0), .ref fl, .int 0, .int 0, .int 0, .int 0, .int 0, .int 0, .int 0, .null])), (ml, .inr (4, [.int 0, .ref e0, .int 0]))] := hD
              refine lv_aload_n hx hb dX15_machine_75 rfl (lv_at hl 1 rfl) ?_
              refine va_get (D := (dC, dI)) (ci := 20) (v := .int 0) (C := RX15) (T := TX15) (N := 21) hx hb hts iWX15 hown hK hP 0 rfl rfl 5 (by decide) (hts (.fieldLink RX15 209 "BeaverhallModel" "thrown" "I") (by decide +kernel)) (fun _ h9 => h9) rfl dX15_machine_76 ?_
              refine lv_if_le (tgt := 84) hx hb dX15_machine_79 (by decide) (fun c79_72 => ?_) (fun c79_72 => ?_)
              · obtain ⟨S9, hS9, eS9⟩ := nI_of2 (M := 6) (n := 6) (by decide) (Int32.not_lt.mpr (Int32.le_trans (by decide) hn_59.1)) hn_59.2
                obtain ⟨G9, hG9, eG9⟩ := nI_of2 (M := 4) (n := 4) (by decide) (Int32.not_lt.mpr (Int32.le_trans (by decide) hn_67.1)) hn_67.2
                have hSG9 : S9 * G9 ≤ 24 := Nat.mul_le_mul hS9 hG9
                have hpm : pMachine p0 p1 p2 := ⟨(Or.inr c9_49), hn_59, hn_67⟩
                rw [eS9, eG9] at hpm
                subst eS9
                subst eG9
                have hl : lv_has ls 5 [(4, .int 1), (0, .ref xm), (1, .int p0), (2, .int (nI S9)), (3, .int (nI G9))] := hl
                refine lv_aload_n hx hb dX15_machine_84 rfl (lv_at hl 1 rfl) ?_
                refine va_get (D := (dC, dI)) (ci := 20) (v := .ref ml) (C := RX15) (T := TX15) (N := 21) hx hb hts iWX15 hown hK hP 0 rfl rfl 6 (by decide) (hts (.fieldLink RX15 181 "BeaverhallModel" "machines" "Ljava/util/ArrayList;") (by decide +kernel)) (fun _ h9 => h9) rfl dX15_machine_85 ?_
                refine va_new (ci := 18) (fs := [.int 0, .int 0, .int 0, .null, .null, .null, .int 0, .null, .int 0, .int 0, .int 0, .null]) (C := RX13) (T := TX13) (N := 12) hx hb hts iWX13 tyX13 tyX13_ok hown (hts (.classLink RX15 83 RX13) (by decide +kernel)) (hts (.instantiable RX13 12) (by decide +kernel)) (hts (.initialized RX13) (by decide +kernel)) hK hP hD hS hA rfl (fun j hj => by rcases (show j = 0 ∨ j = 1 ∨ j = 2 ∨ j = 3 ∨ j = 4 ∨ j = 5 ∨ j = 6 ∨ j = 7 ∨ j = 8 ∨ j = 9 ∨ j = 10 ∨ j = 11 by omega) with rfl | rfl | rfl | rfl | rfl | rfl | rfl | rfl | rfl | rfl | rfl | rfl <;> rfl) (Nat.le_of_ble_eq_true rfl) (Nat.le_of_ble_eq_true rfl) dX15_machine_88 (fun q_73 H hP hD hS => ?_)
                have hP : va_P (dC, dI) vwCl [(xm, .inr (20, [.int 0, .int 0, .ref kn, .int 0, .int 0, .int 0, .ref ml, .ref cl, .ref rg, .ref tr, .ref (aK 0), .ref (aK 0), .ref fl, .int 0, .int 0, .int 0, .int 0, .int 0, .int 0, .int 0, .null])), (ml, .inr (4, [.int 0, .ref e0, .int 0])), (q_73, .inr (18, [.int 0, .int 0, .int 0, .null, .null, .null, .int 0, .null, .int 0, .int 0, .int 0, .null]))] H := hP
                have hD : va_D A [(xm, .inr (20, [.int 0, .int 0, .ref kn, .int 0, .int 0, .int 0, .ref ml, .ref cl, .ref rg, .ref tr, .ref (aK 0), .ref (aK 0), .ref fl, .int 0, .int 0, .int 0, .int 0, .int 0, .int 0, .int 0, .null])), (ml, .inr (4, [.int 0, .ref e0, .int 0])), (q_73, .inr (18, [.int 0, .int 0, .int 0, .null, .null, .null, .int 0, .null, .int 0, .int 0, .int 0, .null]))] := hD
                refine W.widen (k := 1) (n := 12) (Nat.le_of_ble_eq_true rfl) (Nat.le_of_ble_eq_true rfl) ?_
                refine lv_dup hx hb dX15_machine_91 rfl ?_
                refine lv_iload_n hx hb dX15_machine_92 rfl (lv_at hl 2 rfl) ?_
                refine lv_bipush (v := 111) hx hb dX15_machine_93 (by decide) ?_
                refine lv_icmp_ne (tgt := 102) hx hb dX15_machine_95 (by decide) (fun c95_74 => ?_) (fun c95_74 => ?_)
                · refine lv_iconst (v := 0) hx hb dX15_machine_102 (by decide) ?_
                  refine lv_iload_n hx hb dX15_machine_103 rfl (lv_at hl 3 rfl) ?_
                  refine lv_iload_n hx hb dX15_machine_104 rfl (lv_at hl 4 rfl) ?_
                  have hPc := hP.sub (ws' := [(q_73, .inr (18, [.int 0, .int 0, .int 0, .null, .null, .null, .int 0, .null, .int 0, .int 0, .int 0, .null]))]) [2] rfl
                  have hDc := hD.sub (ws' := [(q_73, .inr (18, [.int 0, .int 0, .int 0, .null, .null, .null, .int 0, .null, .int 0, .int 0, .int 0, .null]))]) [2] (by decide) rfl
                  have hKc := hK.sub (tys' := [(cI, .int)]) [0] rfl
                  have hFc := va_free (wc := [(q_73, .inr (18, [.int 0, .int 0, .int 0, .null, .null, .null, .int 0, .null, .int 0, .int 0, .int 0, .null]))]) hD hS hA [2] rfl
                  refine va_callv (va_runI (As := [.int 0, .int (nI S9), .int (nI G9)]) (rest := [.ref q_73, .ref ml]) ⟨hx, hb, hml, hown, hts⟩ (c_X13_initE l dC dI cI q_73 S9 G9 0 (by decide) hSG9 H.size) (cwI 3 hts gX15_machine_X13_init rfl rfl rfl (hts (.initialized RX13) (by decide +kernel)) (hts (.methodLink RX15 221 yX13_init) (by decide +kernel)) (hts (.instanceMethod yX13_init) (by decide +kernel)) rfl (by decide +kernel) ⟨Nat.le_of_ble_eq_true rfl, Nat.le_of_ble_eq_true rfl⟩) (pcS hPc hDc hKc hN) rfl rfl hl.1 rfl (lv_room (Nat.le_of_ble_eq_true rfl)) dX15_machine_105 ⟨Nat.le_of_ble_eq_true rfl, Nat.le_of_ble_eq_true rfl⟩) hS (fun q _ h => hFc q h) hFc (fun u t H1 locs ht hvm hw_80 hB hz1 hk1 hS => ?_)
                  obtain ⟨wa_75, va_76, na_77, tz_78, fs_79⟩ := u
                  obtain ⟨hP1, hK1, hD1⟩ := hB
                  rw [ht] at hP1
                  try dsimp only at hw_80
                  obtain ⟨hP, hD⟩ := va_join (wr := [(xm, .inr (20, [.int 0, .int 0, .ref kn, .int 0, .int 0, .int 0, .ref ml, .ref cl, .ref rg, .ref tr, .ref (aK 0), .ref (aK 0), .ref fl, .int 0, .int 0, .int 0, .int 0, .int 0, .int 0, .int 0, .null])), (ml, .inr (4, [.int 0, .ref e0, .int 0]))]) (w1 := [(q_73, .inr (18, fs_79))]) hP hD [2] [0, 1] rfl rfl (by decide) (by decide) hk1 hFc hP1 hD1
                  generalize H1 = H at hP hS ⊢
                  have hP : va_P (dC, dI) vwCl [(xm, .inr (20, [.int 0, .int 0, .ref kn, .int 0, .int 0, .int 0, .ref ml, .ref cl, .ref rg, .ref tr, .ref (aK 0), .ref (aK 0), .ref fl, .int 0, .int 0, .int 0, .int 0, .int 0, .int 0, .int 0, .null])), (ml, .inr (4, [.int 0, .ref e0, .int 0])), (q_73, .inr (18, fs_79))] H := hP
                  have hD : va_D A [(xm, .inr (20, [.int 0, .int 0, .ref kn, .int 0, .int 0, .int 0, .ref ml, .ref cl, .ref rg, .ref tr, .ref (aK 0), .ref (aK 0), .ref fl, .int 0, .int 0, .int 0, .int 0, .int 0, .int 0, .int 0, .null])), (ml, .inr (4, [.int 0, .ref e0, .int 0])), (q_73, .inr (18, fs_79))] := hD
                  refine W.widen (k := 5) (n := 88) (Nat.le_of_ble_eq_true rfl) (Nat.le_of_ble_eq_true rfl) ?_
                  have hPc := hP.sub (ws' := [(ml, .inr (4, [.int 0, .ref e0, .int 0])), (q_73, .inr (18, fs_79))]) [1, 2] rfl
                  have hDc := hD.sub (ws' := [(ml, .inr (4, [.int 0, .ref e0, .int 0])), (q_73, .inr (18, fs_79))]) [1, 2] (by decide) rfl
                  have hKc := hK.sub (tys' := [(cI, .int)]) [0] rfl
                  have hFc := va_free (wc := [(ml, .inr (4, [.int 0, .ref e0, .int 0])), (q_73, .inr (18, fs_79))]) hD hS hA [1, 2] rfl
                  refine va_calli (va_runV (As := [.ref q_73]) (rest := []) ⟨hx, hb, hml, hown, hts⟩ (c_Jx4a65c_add_9ea2d l dC dI e0 aK aV cI ml q_73 (.inr (18, fs_79)) RX13 ooH_obj 0 H.size) (cwV 1 hts gX15_machine_Jx4a65c_add_9ea2d rfl rfl rfl (by decide +kernel) ⟨Nat.le_of_ble_eq_true rfl, Nat.le_of_ble_eq_true rfl⟩) (pcVz (zM_ok e0 aK aV) hPc hDc hKc hN hZ hS hFc (ci := 4) (q0 := 0) rfl rfl) rfl rfl hl.1 rfl (lv_room (Nat.le_of_ble_eq_true rfl)) dX15_machine_108 ⟨Nat.le_of_ble_eq_true rfl, Nat.le_of_ble_eq_true rfl⟩) hS (fun q _ h => hFc q h) hFc (fun r_83 u t H1 locs ht hvm hw_84 hB hz1 hk1 hS => ?_)
                  obtain ⟨q_81, m_82⟩ := u
                  obtain ⟨hP1, hK1, hD1⟩ := hB
                  rw [ht] at hP1
                  try dsimp only at hw_84
                  obtain ⟨hP, hD⟩ := va_join (wr := [(xm, .inr (20, [.int 0, .int 0, .ref kn, .int 0, .int 0, .int 0, .ref ml, .ref cl, .ref rg, .ref tr, .ref (aK 0), .ref (aK 0), .ref fl, .int 0, .int 0, .int 0, .int 0, .int 0, .int 0, .int 0, .null]))]) (w1 := [(ml, .inr (4, [.int m_82, .ref q_81, .int 1])), (q_73, .inr (18, fs_79))]) hP hD [1, 2] [0] rfl rfl (by decide) (by decide) hk1 hFc hP1 hD1
                  generalize H1 = H at hP hS ⊢
                  have hP : va_P (dC, dI) vwCl [(xm, .inr (20, [.int 0, .int 0, .ref kn, .int 0, .int 0, .int 0, .ref ml, .ref cl, .ref rg, .ref tr, .ref (aK 0), .ref (aK 0), .ref fl, .int 0, .int 0, .int 0, .int 0, .int 0, .int 0, .int 0, .null])), (ml, .inr (4, [.int m_82, .ref q_81, .int 1])), (q_73, .inr (18, fs_79))] H := hP
                  have hD : va_D A [(xm, .inr (20, [.int 0, .int 0, .ref kn, .int 0, .int 0, .int 0, .ref ml, .ref cl, .ref rg, .ref tr, .ref (aK 0), .ref (aK 0), .ref fl, .int 0, .int 0, .int 0, .int 0, .int 0, .int 0, .int 0, .null])), (ml, .inr (4, [.int m_82, .ref q_81, .int 1])), (q_73, .inr (18, fs_79))] := hD
                  refine W.widen (k := 6) (n := 98) (Nat.le_of_ble_eq_true rfl) (Nat.le_of_ble_eq_true rfl) ?_
                  refine lv_pop hx hb dX15_machine_111 rfl ?_
                  refine lv_aload_n hx hb dX15_machine_112 rfl (lv_at hl 1 rfl) ?_
                  refine va_get (D := (dC, dI)) (ci := 20) (v := .ref ml) (C := RX15) (T := TX15) (N := 21) hx hb hts iWX15 hown hK hP 0 rfl rfl 6 (by decide) (hts (.fieldLink RX15 181 "BeaverhallModel" "machines" "Ljava/util/ArrayList;") (by decide +kernel)) (fun _ h9 => h9) rfl dX15_machine_113 ?_
                  have hPc := hP.sub (ws' := [(ml, .inr (4, [.int m_82, .ref q_81, .int 1]))]) [1] rfl
                  have hDc := hD.sub (ws' := [(ml, .inr (4, [.int m_82, .ref q_81, .int 1]))]) [1] (by decide) rfl
                  have hKc := hK.sub (tys' := []) [] rfl
                  have hFc := va_free (wc := [(ml, .inr (4, [.int m_82, .ref q_81, .int 1]))]) hD hS hA [1] rfl
                  refine va_calli (va_runV (As := []) (rest := []) ⟨hx, hb, hml, hown, hts⟩ (c_Jx4a65c_size_8abf5 l dC dI ml q_81 m_82 1 H.size) (cwV 0 hts gX15_machine_Jx4a65c_size_8abf5 rfl rfl rfl (by decide +kernel) ⟨Nat.le_of_ble_eq_true rfl, Nat.le_of_ble_eq_true rfl⟩) (pcV hPc hDc hKc hN (ci := 4) (q0 := 0) rfl rfl) rfl rfl hl.1 rfl (lv_room (Nat.le_of_ble_eq_true rfl)) dX15_machine_116 ⟨Nat.le_of_ble_eq_true rfl, Nat.le_of_ble_eq_true rfl⟩) hS (fun q _ h => hFc q h) hFc (fun r_85 u t H1 locs ht hvm hw_86 hB hz1 hk1 hS => ?_)
                  obtain ⟨hP1, hK1, hD1⟩ := hB
                  rw [ht] at hP1
                  try dsimp only at hw_86
                  obtain ⟨hP, hD⟩ := va_join (wr := [(xm, .inr (20, [.int 0, .int 0, .ref kn, .int 0, .int 0, .int 0, .ref ml, .ref cl, .ref rg, .ref tr, .ref (aK 0), .ref (aK 0), .ref fl, .int 0, .int 0, .int 0, .int 0, .int 0, .int 0, .int 0, .null])), (q_73, .inr (18, fs_79))]) (w1 := [(ml, .inr (4, [.int m_82, .ref q_81, .int 1]))]) hP hD [1] [0, 2] rfl rfl (by decide) (by decide) hk1 hFc hP1 hD1
                  generalize H1 = H at hP hS ⊢
                  have hP : va_P (dC, dI) vwCl [(xm, .inr (20, [.int 0, .int 0, .ref kn, .int 0, .int 0, .int 0, .ref ml, .ref cl, .ref rg, .ref tr, .ref (aK 0), .ref (aK 0), .ref fl, .int 0, .int 0, .int 0, .int 0, .int 0, .int 0, .int 0, .null])), (q_73, .inr (18, fs_79)), (ml, .inr (4, [.int m_82, .ref q_81, .int 1]))] H := hP
                  have hD : va_D A [(xm, .inr (20, [.int 0, .int 0, .ref kn, .int 0, .int 0, .int 0, .ref ml, .ref cl, .ref rg, .ref tr, .ref (aK 0), .ref (aK 0), .ref fl, .int 0, .int 0, .int 0, .int 0, .int 0, .int 0, .int 0, .null])), (q_73, .inr (18, fs_79)), (ml, .inr (4, [.int m_82, .ref q_81, .int 1]))] := hD
                  subst hw_86
                  refine lv_iconst (v := 1) hx hb dX15_machine_119 (by decide) ?_
                  refine lv_isub hx hb dX15_machine_120 ?_
                  have hP9 := hP.sub (ws' := [(xm, .inr (20, [.int 0, .int 0, .ref kn, .int 0, .int 0, .int 0, .ref ml, .ref cl, .ref rg, .ref tr, .ref (aK 0), .ref (aK 0), .ref fl, .int 0, .int 0, .int 0, .int 0, .int 0, .int 0, .int 0, .null]))]) [0] rfl
                  have hD9 := hD.sub (ws' := [(xm, .inr (20, [.int 0, .int 0, .ref kn, .int 0, .int 0, .int 0, .ref ml, .ref cl, .ref rg, .ref tr, .ref (aK 0), .ref (aK 0), .ref fl, .int 0, .int 0, .int 0, .int 0, .int 0, .int 0, .int 0, .null]))]) [0] (by decide) rfl
                  have hK9 := hK.sub (tys' := [(cI, .int)]) [0] rfl
                  exact W.iret (v := ((1 : Int32) - 1)) hx hb hr (fun t ht hW => ⟨⟨((1 : Int32) - 1), [.int 0, .int 0, .ref kn, .int 0, .int 0, .int 0, .ref ml, .ref cl, .ref rg, .ref tr, .ref (aK 0), .ref (aK 0), .ref fl, .int 0, .int 0, .int 0, .int 0, .int 0, .int 0, .int 0, .null], rfl, (Or.inl ⟨hpm, rfl, by decide⟩), ⟨by rw [ht]; exact hP9, va_K.moved hW.alike hK9, hD9⟩⟩, hS.F ht⟩) hS.2.2 dX15_machine_121
                · refine lv_iconst (v := 1) hx hb dX15_machine_98 (by decide) ?_
                  refine lv_goto (tgt := 103) hx hb dX15_machine_99 (by decide) ?_
                  refine lv_iload_n hx hb dX15_machine_103 rfl (lv_at hl 3 rfl) ?_
                  refine lv_iload_n hx hb dX15_machine_104 rfl (lv_at hl 4 rfl) ?_
                  have hPc := hP.sub (ws' := [(q_73, .inr (18, [.int 0, .int 0, .int 0, .null, .null, .null, .int 0, .null, .int 0, .int 0, .int 0, .null]))]) [2] rfl
                  have hDc := hD.sub (ws' := [(q_73, .inr (18, [.int 0, .int 0, .int 0, .null, .null, .null, .int 0, .null, .int 0, .int 0, .int 0, .null]))]) [2] (by decide) rfl
                  have hKc := hK.sub (tys' := [(cI, .int)]) [0] rfl
                  have hFc := va_free (wc := [(q_73, .inr (18, [.int 0, .int 0, .int 0, .null, .null, .null, .int 0, .null, .int 0, .int 0, .int 0, .null]))]) hD hS hA [2] rfl
                  refine va_callv (va_runI (As := [.int 1, .int (nI S9), .int (nI G9)]) (rest := [.ref q_73, .ref ml]) ⟨hx, hb, hml, hown, hts⟩ (c_X13_initE l dC dI cI q_73 S9 G9 1 (by decide) hSG9 H.size) (cwI 3 hts gX15_machine_X13_init rfl rfl rfl (hts (.initialized RX13) (by decide +kernel)) (hts (.methodLink RX15 221 yX13_init) (by decide +kernel)) (hts (.instanceMethod yX13_init) (by decide +kernel)) rfl (by decide +kernel) ⟨Nat.le_of_ble_eq_true rfl, Nat.le_of_ble_eq_true rfl⟩) (pcS hPc hDc hKc hN) rfl rfl hl.1 rfl (lv_room (Nat.le_of_ble_eq_true rfl)) dX15_machine_105 ⟨Nat.le_of_ble_eq_true rfl, Nat.le_of_ble_eq_true rfl⟩) hS (fun q _ h => hFc q h) hFc (fun u t H1 locs ht hvm hw_92 hB hz1 hk1 hS => ?_)
                  obtain ⟨wa_87, va_88, na_89, tz_90, fs_91⟩ := u
                  obtain ⟨hP1, hK1, hD1⟩ := hB
                  rw [ht] at hP1
                  try dsimp only at hw_92
                  obtain ⟨hP, hD⟩ := va_join (wr := [(xm, .inr (20, [.int 0, .int 0, .ref kn, .int 0, .int 0, .int 0, .ref ml, .ref cl, .ref rg, .ref tr, .ref (aK 0), .ref (aK 0), .ref fl, .int 0, .int 0, .int 0, .int 0, .int 0, .int 0, .int 0, .null])), (ml, .inr (4, [.int 0, .ref e0, .int 0]))]) (w1 := [(q_73, .inr (18, fs_91))]) hP hD [2] [0, 1] rfl rfl (by decide) (by decide) hk1 hFc hP1 hD1
                  generalize H1 = H at hP hS ⊢
                  have hP : va_P (dC, dI) vwCl [(xm, .inr (20, [.int 0, .int 0, .ref kn, .int 0, .int 0, .int 0, .ref ml, .ref cl, .ref rg, .ref tr, .ref (aK 0), .ref (aK 0), .ref fl, .int 0, .int 0, .int 0, .int 0, .int 0, .int 0, .int 0, .null])), (ml, .inr (4, [.int 0, .ref e0, .int 0])), (q_73, .inr (18, fs_91))] H := hP
                  have hD : va_D A [(xm, .inr (20, [.int 0, .int 0, .ref kn, .int 0, .int 0, .int 0, .ref ml, .ref cl, .ref rg, .ref tr, .ref (aK 0), .ref (aK 0), .ref fl, .int 0, .int 0, .int 0, .int 0, .int 0, .int 0, .int 0, .null])), (ml, .inr (4, [.int 0, .ref e0, .int 0])), (q_73, .inr (18, fs_91))] := hD
                  refine W.widen (k := 5) (n := 88) (Nat.le_of_ble_eq_true rfl) (Nat.le_of_ble_eq_true rfl) ?_
                  have hPc := hP.sub (ws' := [(ml, .inr (4, [.int 0, .ref e0, .int 0])), (q_73, .inr (18, fs_91))]) [1, 2] rfl
                  have hDc := hD.sub (ws' := [(ml, .inr (4, [.int 0, .ref e0, .int 0])), (q_73, .inr (18, fs_91))]) [1, 2] (by decide) rfl
                  have hKc := hK.sub (tys' := [(cI, .int)]) [0] rfl
                  have hFc := va_free (wc := [(ml, .inr (4, [.int 0, .ref e0, .int 0])), (q_73, .inr (18, fs_91))]) hD hS hA [1, 2] rfl
                  refine va_calli (va_runV (As := [.ref q_73]) (rest := []) ⟨hx, hb, hml, hown, hts⟩ (c_Jx4a65c_add_9ea2d l dC dI e0 aK aV cI ml q_73 (.inr (18, fs_91)) RX13 ooH_obj 0 H.size) (cwV 1 hts gX15_machine_Jx4a65c_add_9ea2d rfl rfl rfl (by decide +kernel) ⟨Nat.le_of_ble_eq_true rfl, Nat.le_of_ble_eq_true rfl⟩) (pcVz (zM_ok e0 aK aV) hPc hDc hKc hN hZ hS hFc (ci := 4) (q0 := 0) rfl rfl) rfl rfl hl.1 rfl (lv_room (Nat.le_of_ble_eq_true rfl)) dX15_machine_108 ⟨Nat.le_of_ble_eq_true rfl, Nat.le_of_ble_eq_true rfl⟩) hS (fun q _ h => hFc q h) hFc (fun r_95 u t H1 locs ht hvm hw_96 hB hz1 hk1 hS => ?_)
                  obtain ⟨q_93, m_94⟩ := u
                  obtain ⟨hP1, hK1, hD1⟩ := hB
                  rw [ht] at hP1
                  try dsimp only at hw_96
                  obtain ⟨hP, hD⟩ := va_join (wr := [(xm, .inr (20, [.int 0, .int 0, .ref kn, .int 0, .int 0, .int 0, .ref ml, .ref cl, .ref rg, .ref tr, .ref (aK 0), .ref (aK 0), .ref fl, .int 0, .int 0, .int 0, .int 0, .int 0, .int 0, .int 0, .null]))]) (w1 := [(ml, .inr (4, [.int m_94, .ref q_93, .int 1])), (q_73, .inr (18, fs_91))]) hP hD [1, 2] [0] rfl rfl (by decide) (by decide) hk1 hFc hP1 hD1
                  generalize H1 = H at hP hS ⊢
                  have hP : va_P (dC, dI) vwCl [(xm, .inr (20, [.int 0, .int 0, .ref kn, .int 0, .int 0, .int 0, .ref ml, .ref cl, .ref rg, .ref tr, .ref (aK 0), .ref (aK 0), .ref fl, .int 0, .int 0, .int 0, .int 0, .int 0, .int 0, .int 0, .null])), (ml, .inr (4, [.int m_94, .ref q_93, .int 1])), (q_73, .inr (18, fs_91))] H := hP
                  have hD : va_D A [(xm, .inr (20, [.int 0, .int 0, .ref kn, .int 0, .int 0, .int 0, .ref ml, .ref cl, .ref rg, .ref tr, .ref (aK 0), .ref (aK 0), .ref fl, .int 0, .int 0, .int 0, .int 0, .int 0, .int 0, .int 0, .null])), (ml, .inr (4, [.int m_94, .ref q_93, .int 1])), (q_73, .inr (18, fs_91))] := hD
                  refine W.widen (k := 6) (n := 98) (Nat.le_of_ble_eq_true rfl) (Nat.le_of_ble_eq_true rfl) ?_
                  refine lv_pop hx hb dX15_machine_111 rfl ?_
                  refine lv_aload_n hx hb dX15_machine_112 rfl (lv_at hl 1 rfl) ?_
                  refine va_get (D := (dC, dI)) (ci := 20) (v := .ref ml) (C := RX15) (T := TX15) (N := 21) hx hb hts iWX15 hown hK hP 0 rfl rfl 6 (by decide) (hts (.fieldLink RX15 181 "BeaverhallModel" "machines" "Ljava/util/ArrayList;") (by decide +kernel)) (fun _ h9 => h9) rfl dX15_machine_113 ?_
                  have hPc := hP.sub (ws' := [(ml, .inr (4, [.int m_94, .ref q_93, .int 1]))]) [1] rfl
                  have hDc := hD.sub (ws' := [(ml, .inr (4, [.int m_94, .ref q_93, .int 1]))]) [1] (by decide) rfl
                  have hKc := hK.sub (tys' := []) [] rfl
                  have hFc := va_free (wc := [(ml, .inr (4, [.int m_94, .ref q_93, .int 1]))]) hD hS hA [1] rfl
                  refine va_calli (va_runV (As := []) (rest := []) ⟨hx, hb, hml, hown, hts⟩ (c_Jx4a65c_size_8abf5 l dC dI ml q_93 m_94 1 H.size) (cwV 0 hts gX15_machine_Jx4a65c_size_8abf5 rfl rfl rfl (by decide +kernel) ⟨Nat.le_of_ble_eq_true rfl, Nat.le_of_ble_eq_true rfl⟩) (pcV hPc hDc hKc hN (ci := 4) (q0 := 0) rfl rfl) rfl rfl hl.1 rfl (lv_room (Nat.le_of_ble_eq_true rfl)) dX15_machine_116 ⟨Nat.le_of_ble_eq_true rfl, Nat.le_of_ble_eq_true rfl⟩) hS (fun q _ h => hFc q h) hFc (fun r_97 u t H1 locs ht hvm hw_98 hB hz1 hk1 hS => ?_)
                  obtain ⟨hP1, hK1, hD1⟩ := hB
                  rw [ht] at hP1
                  try dsimp only at hw_98
                  obtain ⟨hP, hD⟩ := va_join (wr := [(xm, .inr (20, [.int 0, .int 0, .ref kn, .int 0, .int 0, .int 0, .ref ml, .ref cl, .ref rg, .ref tr, .ref (aK 0), .ref (aK 0), .ref fl, .int 0, .int 0, .int 0, .int 0, .int 0, .int 0, .int 0, .null])), (q_73, .inr (18, fs_91))]) (w1 := [(ml, .inr (4, [.int m_94, .ref q_93, .int 1]))]) hP hD [1] [0, 2] rfl rfl (by decide) (by decide) hk1 hFc hP1 hD1
                  generalize H1 = H at hP hS ⊢
                  have hP : va_P (dC, dI) vwCl [(xm, .inr (20, [.int 0, .int 0, .ref kn, .int 0, .int 0, .int 0, .ref ml, .ref cl, .ref rg, .ref tr, .ref (aK 0), .ref (aK 0), .ref fl, .int 0, .int 0, .int 0, .int 0, .int 0, .int 0, .int 0, .null])), (q_73, .inr (18, fs_91)), (ml, .inr (4, [.int m_94, .ref q_93, .int 1]))] H := hP
                  have hD : va_D A [(xm, .inr (20, [.int 0, .int 0, .ref kn, .int 0, .int 0, .int 0, .ref ml, .ref cl, .ref rg, .ref tr, .ref (aK 0), .ref (aK 0), .ref fl, .int 0, .int 0, .int 0, .int 0, .int 0, .int 0, .int 0, .null])), (q_73, .inr (18, fs_91)), (ml, .inr (4, [.int m_94, .ref q_93, .int 1]))] := hD
                  subst hw_98
                  refine lv_iconst (v := 1) hx hb dX15_machine_119 (by decide) ?_
                  refine lv_isub hx hb dX15_machine_120 ?_
                  have hP9 := hP.sub (ws' := [(xm, .inr (20, [.int 0, .int 0, .ref kn, .int 0, .int 0, .int 0, .ref ml, .ref cl, .ref rg, .ref tr, .ref (aK 0), .ref (aK 0), .ref fl, .int 0, .int 0, .int 0, .int 0, .int 0, .int 0, .int 0, .null]))]) [0] rfl
                  have hD9 := hD.sub (ws' := [(xm, .inr (20, [.int 0, .int 0, .ref kn, .int 0, .int 0, .int 0, .ref ml, .ref cl, .ref rg, .ref tr, .ref (aK 0), .ref (aK 0), .ref fl, .int 0, .int 0, .int 0, .int 0, .int 0, .int 0, .int 0, .null]))]) [0] (by decide) rfl
                  have hK9 := hK.sub (tys' := [(cI, .int)]) [0] rfl
                  exact W.iret (v := ((1 : Int32) - 1)) hx hb hr (fun t ht hW => ⟨⟨((1 : Int32) - 1), [.int 0, .int 0, .ref kn, .int 0, .int 0, .int 0, .ref ml, .ref cl, .ref rg, .ref tr, .ref (aK 0), .ref (aK 0), .ref fl, .int 0, .int 0, .int 0, .int 0, .int 0, .int 0, .int 0, .null], rfl, (Or.inl ⟨hpm, rfl, by decide⟩), ⟨by rw [ht]; exact hP9, va_K.moved hW.alike hK9, hD9⟩⟩, hS.F ht⟩) hS.2.2 dX15_machine_121
              · exact (c79_72 (by decide)).elim
            · exact absurd c64_71 (by decide)
          · exact absurd c48_68 (by decide)

set_option maxHeartbeats 4000000 in
set_option maxRecDepth 100000 in
/-- X15_count -/
theorem c_X15_count (l : Launch) (dC : Nat → ClassId) (dI : Nat → Nat → Nat) (xm ml cl fl kn rg tr : Nat) (e0 : Nat) (aK aV : Nat → Nat) (cI : ClassId) (p0 p1 p2 p3 : Int32) (sz : Nat) : Met l yX15_count wsX15_count ({ frames := 6, cells := 2, slots := 14, locals := 150 }) (va_Pc [.ref xm, .int p0, .int p1, .int p2, .int p3] (cPCz (zM e0 aK aV) dC dI [(xm, .inr (20, [.int 0, .int 0, .ref kn, .int 0, .int 0, .int 0, .ref ml, .ref cl, .ref rg, .ref tr, .ref (aK 0), .ref (aK 0), .ref fl, .int 0, .int 0, .int 0, .int 0, .int 0, .int 0, .int 0, .null])), (cl, .inr (4, [.int 0, .ref e0, .int 0]))] [(cI, .int)] sz)) (va_Qi (fun (r : Int32) (u : List Value) => (pCount p0 p1 p2 p3 ∧ u[5]? = some (.int 0) ∧ r = 1) ∨ (¬ pCount p0 p1 p2 p3 ∧ u[5]? = some (.int 1))) (fun (u : List Value) t => cQB dC dI [(xm, .inr (20, u))] [(cI, .int)] (va_A [(xm, .inr (20, [.int 0, .int 0, .ref kn, .int 0, .int 0, .int 0, .ref ml, .ref cl, .ref rg, .ref tr, .ref (aK 0), .ref (aK 0), .ref fl, .int 0, .int 0, .int 0, .int 0, .int 0, .int 0, .int 0, .null])), (cl, .inr (4, [.int 0, .ref e0, .int 0]))] sz) t) (va_A [(xm, .inr (20, [.int 0, .int 0, .ref kn, .int 0, .int 0, .int 0, .ref ml, .ref cl, .ref rg, .ref tr, .ref (aK 0), .ref (aK 0), .ref fl, .int 0, .int 0, .int 0, .int 0, .int 0, .int 0, .int 0, .null])), (cl, .inr (4, [.int 0, .ref e0, .int 0]))] sz)) 2 14 (va_A [(xm, .inr (20, [.int 0, .int 0, .ref kn, .int 0, .int 0, .int 0, .ref ml, .ref cl, .ref rg, .ref tr, .ref (aK 0), .ref (aK 0), .ref fl, .int 0, .int 0, .int 0, .int 0, .int 0, .int 0, .int 0, .null])), (cl, .inr (4, [.int 0, .ref e0, .int 0]))] sz) := by
  refine Met.ofW (cc := cX15_count) (maxL := 6) (ret := (some .int)) (by decide) rfl ?_
  intro p e s m args below meth c s₁ B hml hv
  obtain ⟨rfl, ⟨hsz, hP, hK, hD0, hN⟩, hZ⟩ := hv
  have hx := B.exec
  have hb := B.bytes
  have hr := B.returns
  have hts := atoms_spec (ws := wsX15_count) B.pre
  have hown : s.vm.findClass RX15 = some m.cls := findClass_of_methodNamed B.named
  have hlocks := B.notSynchronized
  subst hsz
  have hD := hD0.self (sz := s.heap.size)
  generalize hAe : va_A [(xm, .inr (20, [.int 0, .int 0, .ref kn, .int 0, .int 0, .int 0, .ref ml, .ref cl, .ref rg, .ref tr, .ref (aK 0), .ref (aK 0), .ref fl, .int 0, .int 0, .int 0, .int 0, .int 0, .int 0, .int 0, .null])), (cl, .inr (4, [.int 0, .ref e0, .int 0]))] s.heap.size = A at hD hZ ⊢
  have hA : ∀ q : Nat, s.heap.size ≤ q → A q := fun q h => by rw [← hAe]; exact Or.inr h
  have hS : va_S A s.heap s.heap [] := va_S.rf
  have hP : va_P (dC, dI) vwCl [(xm, .inr (20, [.int 0, .int 0, .ref kn, .int 0, .int 0, .int 0, .ref ml, .ref cl, .ref rg, .ref tr, .ref (aK 0), .ref (aK 0), .ref fl, .int 0, .int 0, .int 0, .int 0, .int 0, .int 0, .int 0, .null])), (cl, .inr (4, [.int 0, .ref e0, .int 0]))] s.heap := hP
  have hD : va_D A [(xm, .inr (20, [.int 0, .int 0, .ref kn, .int 0, .int 0, .int 0, .ref ml, .ref cl, .ref rg, .ref tr, .ref (aK 0), .ref (aK 0), .ref fl, .int 0, .int 0, .int 0, .int 0, .int 0, .int 0, .int 0, .null])), (cl, .inr (4, [.int 0, .ref e0, .int 0]))] := hD
  have hl := lv_entry ([.ref xm, .int p0, .int p1, .int p2, .int p3]) (n := 6) (Nat.le_of_ble_eq_true rfl)
  rw [lg_entry_eq]
  generalize (lg_sl ([.ref xm, .int p0, .int p1, .int p2, .int p3]) ++ List.replicate (6 - (lg_sl ([.ref xm, .int p0, .int p1, .int p2, .int p3])).length) Slot.unset).toArray = ls at hl ⊢
  have hl : lv_has ls 6 [(0, .ref xm), (1, .int p0), (2, .int p1), (3, .int p2), (4, .int p3)] := hl
  have iWX15 : ∀ w ∈ u_ws RX15 TX15 21, w ∈ wsX15_count := by decide +kernel
  refine lv_iload_n hx hb dX15_count_0 rfl (lv_at hl 1 rfl) ?_
  refine lv_bipush (v := 43) hx hb dX15_count_1 (by decide) ?_
  refine lv_icmp_eq (tgt := 12) hx hb dX15_count_3 (by decide) (fun c3_1 => ?_) (fun c3_1 => ?_)
  · refine lv_iload_n hx hb dX15_count_12 rfl (lv_at hl 2 rfl) ?_
    refine lv_i2l hx hb dX15_count_13 rfl ?_
    refine lv_lconst (v := 0) hx hb dX15_count_14 (by decide) ?_
    refine lv_ldc2 (v := (3)) hx hb hown (hts (.constantLong RX15 337 (3)) (by decide +kernel)) dX15_count_15 ?_
    have hPc := hP.sub (ws' := []) [] rfl
    have hDc := hD.sub (ws' := []) [] (by decide) rfl
    have hKc := hK.sub (tys' := []) [] rfl
    have hFc := va_free (wc := []) hD hS hA [] rfl
    refine va_calli (va_runS (As := [.long p1.toInt64, .long 0, .long (3)]) (rest := []) ⟨hx, hb, hml, hown, hts⟩ (c_X15_in l dC dI p1.toInt64 0 (3) s.heap.size) (va_cwS 3 hts gX15_count_X15_in rfl rfl rfl (by decide +kernel) ⟨Nat.le_of_ble_eq_true rfl, Nat.le_of_ble_eq_true rfl⟩) (pcS hPc hDc hKc hN) rfl rfl hl.1 rfl (lv_room (Nat.le_of_ble_eq_true rfl)) dX15_count_18 ⟨Nat.le_of_ble_eq_true rfl, Nat.le_of_ble_eq_true rfl⟩) hS (fun q _ h => hFc q h) hFc (fun r_2 u t H1 locs ht hvm hw_3 hB hz1 hk1 hS => ?_)
    obtain ⟨hP1, hK1, hD1⟩ := hB
    rw [ht] at hP1
    try dsimp only at hw_3
    obtain ⟨hP, hD⟩ := va_join (wr := [(xm, .inr (20, [.int 0, .int 0, .ref kn, .int 0, .int 0, .int 0, .ref ml, .ref cl, .ref rg, .ref tr, .ref (aK 0), .ref (aK 0), .ref fl, .int 0, .int 0, .int 0, .int 0, .int 0, .int 0, .int 0, .null])), (cl, .inr (4, [.int 0, .ref e0, .int 0]))]) (w1 := []) hP hD [] [0, 1] rfl rfl (by decide) (by decide) hk1 hFc hP1 hD1
    generalize H1 = H at hP hS ⊢
    have hP : va_P (dC, dI) vwCl [(xm, .inr (20, [.int 0, .int 0, .ref kn, .int 0, .int 0, .int 0, .ref ml, .ref cl, .ref rg, .ref tr, .ref (aK 0), .ref (aK 0), .ref fl, .int 0, .int 0, .int 0, .int 0, .int 0, .int 0, .int 0, .null])), (cl, .inr (4, [.int 0, .ref e0, .int 0]))] H := hP
    have hD : va_D A [(xm, .inr (20, [.int 0, .int 0, .ref kn, .int 0, .int 0, .int 0, .ref ml, .ref cl, .ref rg, .ref tr, .ref (aK 0), .ref (aK 0), .ref fl, .int 0, .int 0, .int 0, .int 0, .int 0, .int 0, .int 0, .null])), (cl, .inr (4, [.int 0, .ref e0, .int 0]))] := hD
    have hi_4 := in32 (0) (3) (by decide) (by decide) hw_3
    refine lv_if_eq (tgt := 59) hx hb dX15_count_21 (by decide) (fun c21_5 => ?_) (fun c21_5 => ?_)
    · have hn_6 := (hi_4).elim (fun h => absurd (h.1.symm.trans c21_5) (by decide)) (fun h => h.2)
      refine lv_iconst (v := 0) hx hb dX15_count_59 (by decide) ?_
      refine lv_istore (lv' := [(5, .int 0), (0, .ref xm), (1, .int p0), (2, .int p1), (3, .int p2), (4, .int p3)]) hx hb dX15_count_60 hl (by decide) rfl (fun ls hl => ?_)
      refine lv_aload_n hx hb dX15_count_62 rfl (lv_at hl 1 rfl) ?_
      refine lv_iload hx hb dX15_count_63 (lv_at hl 0 rfl) ?_
      refine lv_if_ne (tgt := 72) hx hb dX15_count_65 (by decide) (fun c65_7 => ?_) (fun c65_7 => ?_)
      · exact (c65_7 (by decide)).elim
      · refine lv_iconst (v := 1) hx hb dX15_count_68 (by decide) ?_
        refine lv_goto (tgt := 89) hx hb dX15_count_69 (by decide) ?_
        refine va_put (D := (dC, dI)) (ci := 20) (v := .int 1) (ty := .int) (C := RX15) (T := TX15) (N := 21) hx hb hts iWX15 tyX15 tyX15_ok nmX15 hown hK hP hD hS 0 rfl rfl 5 (by decide) (hts (.fieldLink RX15 209 "BeaverhallModel" "thrown" "I") (by decide +kernel)) (fun _ h9 => h9) rfl (by decide +kernel) rfl rfl (Nat.le_of_ble_eq_true rfl) dX15_count_89 (fun H locs hP hD hS => ?_)
        have hP : va_P (dC, dI) vwCl [(xm, .inr (20, [.int 0, .int 0, .ref kn, .int 0, .int 0, .int 1, .ref ml, .ref cl, .ref rg, .ref tr, .ref (aK 0), .ref (aK 0), .ref fl, .int 0, .int 0, .int 0, .int 0, .int 0, .int 0, .int 0, .null])), (cl, .inr (4, [.int 0, .ref e0, .int 0]))] H := hP
        have hD : va_D A [(xm, .inr (20, [.int 0, .int 0, .ref kn, .int 0, .int 0, .int 1, .ref ml, .ref cl, .ref rg, .ref tr, .ref (aK 0), .ref (aK 0), .ref fl, .int 0, .int 0, .int 0, .int 0, .int 0, .int 0, .int 0, .null])), (cl, .inr (4, [.int 0, .ref e0, .int 0]))] := hD
        refine lv_aload_n hx hb dX15_count_92 rfl (lv_at hl 1 rfl) ?_
        refine va_get (D := (dC, dI)) (ci := 20) (v := .int 1) (C := RX15) (T := TX15) (N := 21) hx hb hts iWX15 hown hK hP 0 rfl rfl 5 (by decide) (hts (.fieldLink RX15 209 "BeaverhallModel" "thrown" "I") (by decide +kernel)) (fun _ h9 => h9) rfl dX15_count_93 ?_
        refine lv_if_le (tgt := 101) hx hb dX15_count_96 (by decide) (fun c96_8 => ?_) (fun c96_8 => ?_)
        · exact absurd c96_8 (by decide)
        · refine lv_iconst (v := 0) hx hb dX15_count_99 (by decide) ?_
          have hP9 := hP.sub (ws' := [(xm, .inr (20, [.int 0, .int 0, .ref kn, .int 0, .int 0, .int 1, .ref ml, .ref cl, .ref rg, .ref tr, .ref (aK 0), .ref (aK 0), .ref fl, .int 0, .int 0, .int 0, .int 0, .int 0, .int 0, .int 0, .null]))]) [0] rfl
          have hD9 := hD.sub (ws' := [(xm, .inr (20, [.int 0, .int 0, .ref kn, .int 0, .int 0, .int 1, .ref ml, .ref cl, .ref rg, .ref tr, .ref (aK 0), .ref (aK 0), .ref fl, .int 0, .int 0, .int 0, .int 0, .int 0, .int 0, .int 0, .null]))]) [0] (by decide) rfl
          have hK9 := hK.sub (tys' := [(cI, .int)]) [0] rfl
          refine W.widen (k := 2) (n := 14) (Nat.le_of_ble_eq_true rfl) (Nat.le_of_ble_eq_true rfl) ?_
          exact W.iret (v := 0) hx hb hr (fun t ht hW => ⟨⟨0, [.int 0, .int 0, .ref kn, .int 0, .int 0, .int 1, .ref ml, .ref cl, .ref rg, .ref tr, .ref (aK 0), .ref (aK 0), .ref fl, .int 0, .int 0, .int 0, .int 0, .int 0, .int 0, .int 0, .null], rfl, (Or.inr ⟨(fun h9 => hn_6 h9.2.1), rfl⟩), ⟨by rw [ht]; exact hP9, va_K.moved hW.alike hK9, hD9⟩⟩, hS.F ht⟩) hS.2.2 dX15_count_100
    · have hn_9 := (hi_4).elim (fun h => h.2) (fun h => absurd h.1 c21_5)
      refine lv_iload_n hx hb dX15_count_24 rfl (lv_at hl 3 rfl) ?_
      refine lv_i2l hx hb dX15_count_25 rfl ?_
      refine lv_lconst (v := 0) hx hb dX15_count_26 (by decide) ?_
      refine lv_ldc2 (v := (12)) hx hb hown (hts (.constantLong RX15 356 (12)) (by decide +kernel)) dX15_count_27 ?_
      have hPc := hP.sub (ws' := []) [] rfl
      have hDc := hD.sub (ws' := []) [] (by decide) rfl
      have hKc := hK.sub (tys' := []) [] rfl
      have hFc := va_free (wc := []) hD hS hA [] rfl
      refine va_calli (va_runS (As := [.long p2.toInt64, .long 0, .long (12)]) (rest := []) ⟨hx, hb, hml, hown, hts⟩ (c_X15_in l dC dI p2.toInt64 0 (12) H.size) (va_cwS 3 hts gX15_count_X15_in rfl rfl rfl (by decide +kernel) ⟨Nat.le_of_ble_eq_true rfl, Nat.le_of_ble_eq_true rfl⟩) (pcS hPc hDc hKc hN) rfl rfl hl.1 rfl (lv_room (Nat.le_of_ble_eq_true rfl)) dX15_count_30 ⟨Nat.le_of_ble_eq_true rfl, Nat.le_of_ble_eq_true rfl⟩) hS (fun q _ h => hFc q h) hFc (fun r_10 u t H1 locs ht hvm hw_11 hB hz1 hk1 hS => ?_)
      obtain ⟨hP1, hK1, hD1⟩ := hB
      rw [ht] at hP1
      try dsimp only at hw_11
      obtain ⟨hP, hD⟩ := va_join (wr := [(xm, .inr (20, [.int 0, .int 0, .ref kn, .int 0, .int 0, .int 0, .ref ml, .ref cl, .ref rg, .ref tr, .ref (aK 0), .ref (aK 0), .ref fl, .int 0, .int 0, .int 0, .int 0, .int 0, .int 0, .int 0, .null])), (cl, .inr (4, [.int 0, .ref e0, .int 0]))]) (w1 := []) hP hD [] [0, 1] rfl rfl (by decide) (by decide) hk1 hFc hP1 hD1
      generalize H1 = H at hP hS ⊢
      have hP : va_P (dC, dI) vwCl [(xm, .inr (20, [.int 0, .int 0, .ref kn, .int 0, .int 0, .int 0, .ref ml, .ref cl, .ref rg, .ref tr, .ref (aK 0), .ref (aK 0), .ref fl, .int 0, .int 0, .int 0, .int 0, .int 0, .int 0, .int 0, .null])), (cl, .inr (4, [.int 0, .ref e0, .int 0]))] H := hP
      have hD : va_D A [(xm, .inr (20, [.int 0, .int 0, .ref kn, .int 0, .int 0, .int 0, .ref ml, .ref cl, .ref rg, .ref tr, .ref (aK 0), .ref (aK 0), .ref fl, .int 0, .int 0, .int 0, .int 0, .int 0, .int 0, .int 0, .null])), (cl, .inr (4, [.int 0, .ref e0, .int 0]))] := hD
      have hi_12 := in32 (0) (12) (by decide) (by decide) hw_11
      refine lv_if_eq (tgt := 59) hx hb dX15_count_33 (by decide) (fun c33_13 => ?_) (fun c33_13 => ?_)
      · have hn_14 := (hi_12).elim (fun h => absurd (h.1.symm.trans c33_13) (by decide)) (fun h => h.2)
        refine lv_iconst (v := 0) hx hb dX15_count_59 (by decide) ?_
        refine lv_istore (lv' := [(5, .int 0), (0, .ref xm), (1, .int p0), (2, .int p1), (3, .int p2), (4, .int p3)]) hx hb dX15_count_60 hl (by decide) rfl (fun ls hl => ?_)
        refine lv_aload_n hx hb dX15_count_62 rfl (lv_at hl 1 rfl) ?_
        refine lv_iload hx hb dX15_count_63 (lv_at hl 0 rfl) ?_
        refine lv_if_ne (tgt := 72) hx hb dX15_count_65 (by decide) (fun c65_15 => ?_) (fun c65_15 => ?_)
        · exact (c65_15 (by decide)).elim
        · refine lv_iconst (v := 1) hx hb dX15_count_68 (by decide) ?_
          refine lv_goto (tgt := 89) hx hb dX15_count_69 (by decide) ?_
          refine va_put (D := (dC, dI)) (ci := 20) (v := .int 1) (ty := .int) (C := RX15) (T := TX15) (N := 21) hx hb hts iWX15 tyX15 tyX15_ok nmX15 hown hK hP hD hS 0 rfl rfl 5 (by decide) (hts (.fieldLink RX15 209 "BeaverhallModel" "thrown" "I") (by decide +kernel)) (fun _ h9 => h9) rfl (by decide +kernel) rfl rfl (Nat.le_of_ble_eq_true rfl) dX15_count_89 (fun H locs hP hD hS => ?_)
          have hP : va_P (dC, dI) vwCl [(xm, .inr (20, [.int 0, .int 0, .ref kn, .int 0, .int 0, .int 1, .ref ml, .ref cl, .ref rg, .ref tr, .ref (aK 0), .ref (aK 0), .ref fl, .int 0, .int 0, .int 0, .int 0, .int 0, .int 0, .int 0, .null])), (cl, .inr (4, [.int 0, .ref e0, .int 0]))] H := hP
          have hD : va_D A [(xm, .inr (20, [.int 0, .int 0, .ref kn, .int 0, .int 0, .int 1, .ref ml, .ref cl, .ref rg, .ref tr, .ref (aK 0), .ref (aK 0), .ref fl, .int 0, .int 0, .int 0, .int 0, .int 0, .int 0, .int 0, .null])), (cl, .inr (4, [.int 0, .ref e0, .int 0]))] := hD
          refine lv_aload_n hx hb dX15_count_92 rfl (lv_at hl 1 rfl) ?_
          refine va_get (D := (dC, dI)) (ci := 20) (v := .int 1) (C := RX15) (T := TX15) (N := 21) hx hb hts iWX15 hown hK hP 0 rfl rfl 5 (by decide) (hts (.fieldLink RX15 209 "BeaverhallModel" "thrown" "I") (by decide +kernel)) (fun _ h9 => h9) rfl dX15_count_93 ?_
          refine lv_if_le (tgt := 101) hx hb dX15_count_96 (by decide) (fun c96_16 => ?_) (fun c96_16 => ?_)
          · exact absurd c96_16 (by decide)
          · refine lv_iconst (v := 0) hx hb dX15_count_99 (by decide) ?_
            have hP9 := hP.sub (ws' := [(xm, .inr (20, [.int 0, .int 0, .ref kn, .int 0, .int 0, .int 1, .ref ml, .ref cl, .ref rg, .ref tr, .ref (aK 0), .ref (aK 0), .ref fl, .int 0, .int 0, .int 0, .int 0, .int 0, .int 0, .int 0, .null]))]) [0] rfl
            have hD9 := hD.sub (ws' := [(xm, .inr (20, [.int 0, .int 0, .ref kn, .int 0, .int 0, .int 1, .ref ml, .ref cl, .ref rg, .ref tr, .ref (aK 0), .ref (aK 0), .ref fl, .int 0, .int 0, .int 0, .int 0, .int 0, .int 0, .int 0, .null]))]) [0] (by decide) rfl
            have hK9 := hK.sub (tys' := [(cI, .int)]) [0] rfl
            refine W.widen (k := 2) (n := 14) (Nat.le_of_ble_eq_true rfl) (Nat.le_of_ble_eq_true rfl) ?_
            exact W.iret (v := 0) hx hb hr (fun t ht hW => ⟨⟨0, [.int 0, .int 0, .ref kn, .int 0, .int 0, .int 1, .ref ml, .ref cl, .ref rg, .ref tr, .ref (aK 0), .ref (aK 0), .ref fl, .int 0, .int 0, .int 0, .int 0, .int 0, .int 0, .int 0, .null], rfl, (Or.inr ⟨(fun h9 => hn_14 h9.2.2.1), rfl⟩), ⟨by rw [ht]; exact hP9, va_K.moved hW.alike hK9, hD9⟩⟩, hS.F ht⟩) hS.2.2 dX15_count_100
      · have hn_17 := (hi_12).elim (fun h => h.2) (fun h => absurd h.1 c33_13)
        refine lv_iload_n hx hb dX15_count_36 rfl (lv_at hl 1 rfl) ?_
        refine lv_bipush (v := 43) hx hb dX15_count_37 (by decide) ?_
        refine lv_icmp_eq (tgt := 55) hx hb dX15_count_39 (by decide) (fun c39_18 => ?_) (fun c39_18 => ?_)
        · refine lv_iconst (v := 1) hx hb dX15_count_55 (by decide) ?_
          refine lv_goto (tgt := 60) hx hb dX15_count_56 (by decide) ?_
          refine lv_istore (lv' := [(5, .int 1), (0, .ref xm), (1, .int p0), (2, .int p1), (3, .int p2), (4, .int p3)]) hx hb dX15_count_60 hl (by decide) rfl (fun ls hl => ?_)
          refine lv_aload_n hx hb dX15_count_62 rfl (lv_at hl 1 rfl) ?_
          refine lv_iload hx hb dX15_count_63 (lv_at hl 0 rfl) ?_
          refine lv_if_ne (tgt := 72) hx hb dX15_count_65 (by decide) (fun c65_19 => ?_) (fun c65_19 => ?_)
          · refine lv_aload_n hx hb dX15_count_72 rfl (lv_at hl 1 rfl) ?_
            refine va_get (D := (dC, dI)) (ci := 20) (v := .ref cl) (C := RX15) (T := TX15) (N := 21) hx hb hts iWX15 hown hK hP 0 rfl rfl 7 (by decide) (hts (.fieldLink RX15 185 "BeaverhallModel" "counters" "Ljava/util/ArrayList;") (by decide +kernel)) (fun _ h9 => h9) rfl dX15_count_73 ?_
            have hPc := hP.sub (ws' := [(cl, .inr (4, [.int 0, .ref e0, .int 0]))]) [1] rfl
            have hDc := hD.sub (ws' := [(cl, .inr (4, [.int 0, .ref e0, .int 0]))]) [1] (by decide) rfl
            have hKc := hK.sub (tys' := []) [] rfl
            have hFc := va_free (wc := [(cl, .inr (4, [.int 0, .ref e0, .int 0]))]) hD hS hA [1] rfl
            refine va_calli (va_runV (As := []) (rest := [.ref xm]) ⟨hx, hb, hml, hown, hts⟩ (c_Jx4a65c_size_8abf5 l dC dI cl e0 0 0 H.size) (cwV 0 hts gX15_count_Jx4a65c_size_8abf5 rfl rfl rfl (by decide +kernel) ⟨Nat.le_of_ble_eq_true rfl, Nat.le_of_ble_eq_true rfl⟩) (pcV hPc hDc hKc hN (ci := 4) (q0 := 0) rfl rfl) rfl rfl hl.1 rfl (lv_room (Nat.le_of_ble_eq_true rfl)) dX15_count_76 ⟨Nat.le_of_ble_eq_true rfl, Nat.le_of_ble_eq_true rfl⟩) hS (fun q _ h => hFc q h) hFc (fun r_20 u t H1 locs ht hvm hw_21 hB hz1 hk1 hS => ?_)
            obtain ⟨hP1, hK1, hD1⟩ := hB
            rw [ht] at hP1
            try dsimp only at hw_21
            obtain ⟨hP, hD⟩ := va_join (wr := [(xm, .inr (20, [.int 0, .int 0, .ref kn, .int 0, .int 0, .int 0, .ref ml, .ref cl, .ref rg, .ref tr, .ref (aK 0), .ref (aK 0), .ref fl, .int 0, .int 0, .int 0, .int 0, .int 0, .int 0, .int 0, .null]))]) (w1 := [(cl, .inr (4, [.int 0, .ref e0, .int 0]))]) hP hD [1] [0] rfl rfl (by decide) (by decide) hk1 hFc hP1 hD1
            generalize H1 = H at hP hS ⊢
            have hP : va_P (dC, dI) vwCl [(xm, .inr (20, [.int 0, .int 0, .ref kn, .int 0, .int 0, .int 0, .ref ml, .ref cl, .ref rg, .ref tr, .ref (aK 0), .ref (aK 0), .ref fl, .int 0, .int 0, .int 0, .int 0, .int 0, .int 0, .int 0, .null])), (cl, .inr (4, [.int 0, .ref e0, .int 0]))] H := hP
            have hD : va_D A [(xm, .inr (20, [.int 0, .int 0, .ref kn, .int 0, .int 0, .int 0, .ref ml, .ref cl, .ref rg, .ref tr, .ref (aK 0), .ref (aK 0), .ref fl, .int 0, .int 0, .int 0, .int 0, .int 0, .int 0, .int 0, .null])), (cl, .inr (4, [.int 0, .ref e0, .int 0]))] := hD
            subst hw_21
            refine lv_bipush (v := 12) hx hb dX15_count_79 (by decide) ?_
            refine lv_icmp_ne (tgt := 88) hx hb dX15_count_81 (by decide) (fun c81_22 => ?_) (fun c81_22 => ?_)
            · refine lv_iconst (v := 0) hx hb dX15_count_88 (by decide) ?_
              refine va_put (D := (dC, dI)) (ci := 20) (v := .int 0) (ty := .int) (C := RX15) (T := TX15) (N := 21) hx hb hts iWX15 tyX15 tyX15_ok nmX15 hown hK hP hD hS 0 rfl rfl 5 (by decide) (hts (.fieldLink RX15 209 "BeaverhallModel" "thrown" "I") (by decide +kernel)) (fun _ h9 => h9) rfl (by decide +kernel) rfl rfl (Nat.le_of_ble_eq_true rfl) dX15_count_89 (fun H locs hP hD hS => ?_)
              have hP : va_P (dC, dI) vwCl [(xm, .inr (20, [.int 0, .int 0, .ref kn, .int 0, .int 0, .int 0, .ref ml, .ref cl, .ref rg, .ref tr, .ref (aK 0), .ref (aK 0), .ref fl, .int 0, .int 0, .int 0, .int 0, .int 0, .int 0, .int 0, .null])), (cl, .inr (4, [.int 0, .ref e0, .int 0]))] H := hP
              have hD : va_D A [(xm, .inr (20, [.int 0, .int 0, .ref kn, .int 0, .int 0, .int 0, .ref ml, .ref cl, .ref rg, .ref tr, .ref (aK 0), .ref (aK 0), .ref fl, .int 0, .int 0, .int 0, .int 0, .int 0, .int 0, .int 0, .null])), (cl, .inr (4, [.int 0, .ref e0, .int 0]))] := hD
              refine lv_aload_n hx hb dX15_count_92 rfl (lv_at hl 1 rfl) ?_
              refine va_get (D := (dC, dI)) (ci := 20) (v := .int 0) (C := RX15) (T := TX15) (N := 21) hx hb hts iWX15 hown hK hP 0 rfl rfl 5 (by decide) (hts (.fieldLink RX15 209 "BeaverhallModel" "thrown" "I") (by decide +kernel)) (fun _ h9 => h9) rfl dX15_count_93 ?_
              refine lv_if_le (tgt := 101) hx hb dX15_count_96 (by decide) (fun c96_23 => ?_) (fun c96_23 => ?_)
              · refine lv_aload_n hx hb dX15_count_101 rfl (lv_at hl 1 rfl) ?_
                refine va_get (D := (dC, dI)) (ci := 20) (v := .ref cl) (C := RX15) (T := TX15) (N := 21) hx hb hts iWX15 hown hK hP 0 rfl rfl 7 (by decide) (hts (.fieldLink RX15 185 "BeaverhallModel" "counters" "Ljava/util/ArrayList;") (by decide +kernel)) (fun _ h9 => h9) rfl dX15_count_102 ?_
                refine lv_iconst (v := 4) hx hb dX15_count_105 (by decide) ?_
                refine va_newa (atype := .int) (ty := .int) (a0 := (4, .inl (fun _ => 0))) (N' := 4) hx hb (hts (.arrayClass .int) (by decide +kernel)) rfl hK hP hD hS hA (fun _ => rfl) (by decide) (by decide) (Nat.le_of_ble_eq_true rfl) (Nat.le_of_ble_eq_true rfl) (Nat.le_of_ble_eq_true rfl) dX15_count_106 (fun q_25 cA_24 H hK hP hD hS => ?_)
                have ecA_24 : cI = cA_24 := cA_one hK (i := 0) (j := 1) rfl rfl
                subst ecA_24
                have hK := hK.sub (tys' := [(cI, .int)]) [0] rfl
                have hP : va_P (dC, dI) vwCl [(xm, .inr (20, [.int 0, .int 0, .ref kn, .int 0, .int 0, .int 0, .ref ml, .ref cl, .ref rg, .ref tr, .ref (aK 0), .ref (aK 0), .ref fl, .int 0, .int 0, .int 0, .int 0, .int 0, .int 0, .int 0, .null])), (cl, .inr (4, [.int 0, .ref e0, .int 0])), (q_25, .inl (cI, 4, .inl (fun _ => 0)))] H := hP
                have hD : va_D A [(xm, .inr (20, [.int 0, .int 0, .ref kn, .int 0, .int 0, .int 0, .ref ml, .ref cl, .ref rg, .ref tr, .ref (aK 0), .ref (aK 0), .ref fl, .int 0, .int 0, .int 0, .int 0, .int 0, .int 0, .int 0, .null])), (cl, .inr (4, [.int 0, .ref e0, .int 0])), (q_25, .inl (cI, 4, .inl (fun _ => 0)))] := hD
                refine W.widen (k := 1) (n := 4) (Nat.le_of_ble_eq_true rfl) (Nat.le_of_ble_eq_true rfl) ?_
                refine lv_dup hx hb dX15_count_108 rfl ?_
                refine lv_iconst (v := 0) hx hb dX15_count_109 (by decide) ?_
                refine lv_iload_n hx hb dX15_count_110 rfl (lv_at hl 2 rfl) ?_
                refine va_iast hx hb hK hP hD hS 2 0 rfl rfl (show vp_in (nI 0) 4 from vp_in_nI (by decide) (by decide)) dX15_count_111 (fun H locs hP hD hS => ?_)
                obtain ⟨f_26, ef_26⟩ : ∃ z, z = (upd (fun _ => 0) ((0 : Int32)).toNatClampNeg p0) := ⟨_, rfl⟩
                have hP : va_P (dC, dI) vwCl [(xm, .inr (20, [.int 0, .int 0, .ref kn, .int 0, .int 0, .int 0, .ref ml, .ref cl, .ref rg, .ref tr, .ref (aK 0), .ref (aK 0), .ref fl, .int 0, .int 0, .int 0, .int 0, .int 0, .int 0, .int 0, .null])), (cl, .inr (4, [.int 0, .ref e0, .int 0])), (q_25, .inl (cI, 4, .inl f_26))] H := by rw [ef_26]; exact hP
                have hD : va_D A [(xm, .inr (20, [.int 0, .int 0, .ref kn, .int 0, .int 0, .int 0, .ref ml, .ref cl, .ref rg, .ref tr, .ref (aK 0), .ref (aK 0), .ref fl, .int 0, .int 0, .int 0, .int 0, .int 0, .int 0, .int 0, .null])), (cl, .inr (4, [.int 0, .ref e0, .int 0])), (q_25, .inl (cI, 4, .inl f_26))] := by rw [ef_26]; exact hD
                refine lv_dup hx hb dX15_count_112 rfl ?_
                refine lv_iconst (v := 1) hx hb dX15_count_113 (by decide) ?_
                refine lv_iload_n hx hb dX15_count_114 rfl (lv_at hl 3 rfl) ?_
                refine va_iast hx hb hK hP hD hS 2 0 rfl rfl (show vp_in (nI 1) 4 from vp_in_nI (by decide) (by decide)) dX15_count_115 (fun H locs hP hD hS => ?_)
                obtain ⟨f_27, ef_27⟩ : ∃ z, z = (upd f_26 ((1 : Int32)).toNatClampNeg p1) := ⟨_, rfl⟩
                have hP : va_P (dC, dI) vwCl [(xm, .inr (20, [.int 0, .int 0, .ref kn, .int 0, .int 0, .int 0, .ref ml, .ref cl, .ref rg, .ref tr, .ref (aK 0), .ref (aK 0), .ref fl, .int 0, .int 0, .int 0, .int 0, .int 0, .int 0, .int 0, .null])), (cl, .inr (4, [.int 0, .ref e0, .int 0])), (q_25, .inl (cI, 4, .inl f_27))] H := by rw [ef_27]; exact hP
                have hD : va_D A [(xm, .inr (20, [.int 0, .int 0, .ref kn, .int 0, .int 0, .int 0, .ref ml, .ref cl, .ref rg, .ref tr, .ref (aK 0), .ref (aK 0), .ref fl, .int 0, .int 0, .int 0, .int 0, .int 0, .int 0, .int 0, .null])), (cl, .inr (4, [.int 0, .ref e0, .int 0])), (q_25, .inl (cI, 4, .inl f_27))] := by rw [ef_27]; exact hD
                refine lv_dup hx hb dX15_count_116 rfl ?_
                refine lv_iconst (v := 2) hx hb dX15_count_117 (by decide) ?_
                refine lv_iload_n hx hb dX15_count_118 rfl (lv_at hl 4 rfl) ?_
                refine va_iast hx hb hK hP hD hS 2 0 rfl rfl (show vp_in (nI 2) 4 from vp_in_nI (by decide) (by decide)) dX15_count_119 (fun H locs hP hD hS => ?_)
                obtain ⟨f_28, ef_28⟩ : ∃ z, z = (upd f_27 ((2 : Int32)).toNatClampNeg p2) := ⟨_, rfl⟩
                have hP : va_P (dC, dI) vwCl [(xm, .inr (20, [.int 0, .int 0, .ref kn, .int 0, .int 0, .int 0, .ref ml, .ref cl, .ref rg, .ref tr, .ref (aK 0), .ref (aK 0), .ref fl, .int 0, .int 0, .int 0, .int 0, .int 0, .int 0, .int 0, .null])), (cl, .inr (4, [.int 0, .ref e0, .int 0])), (q_25, .inl (cI, 4, .inl f_28))] H := by rw [ef_28]; exact hP
                have hD : va_D A [(xm, .inr (20, [.int 0, .int 0, .ref kn, .int 0, .int 0, .int 0, .ref ml, .ref cl, .ref rg, .ref tr, .ref (aK 0), .ref (aK 0), .ref fl, .int 0, .int 0, .int 0, .int 0, .int 0, .int 0, .int 0, .null])), (cl, .inr (4, [.int 0, .ref e0, .int 0])), (q_25, .inl (cI, 4, .inl f_28))] := by rw [ef_28]; exact hD
                refine lv_dup hx hb dX15_count_120 rfl ?_
                refine lv_iconst (v := 3) hx hb dX15_count_121 (by decide) ?_
                refine lv_iload hx hb dX15_count_122 (lv_at hl 5 rfl) ?_
                refine va_iast hx hb hK hP hD hS 2 0 rfl rfl (show vp_in (nI 3) 4 from vp_in_nI (by decide) (by decide)) dX15_count_124 (fun H locs hP hD hS => ?_)
                obtain ⟨f_29, ef_29⟩ : ∃ z, z = (upd f_28 ((3 : Int32)).toNatClampNeg p3) := ⟨_, rfl⟩
                have hP : va_P (dC, dI) vwCl [(xm, .inr (20, [.int 0, .int 0, .ref kn, .int 0, .int 0, .int 0, .ref ml, .ref cl, .ref rg, .ref tr, .ref (aK 0), .ref (aK 0), .ref fl, .int 0, .int 0, .int 0, .int 0, .int 0, .int 0, .int 0, .null])), (cl, .inr (4, [.int 0, .ref e0, .int 0])), (q_25, .inl (cI, 4, .inl f_29))] H := by rw [ef_29]; exact hP
                have hD : va_D A [(xm, .inr (20, [.int 0, .int 0, .ref kn, .int 0, .int 0, .int 0, .ref ml, .ref cl, .ref rg, .ref tr, .ref (aK 0), .ref (aK 0), .ref fl, .int 0, .int 0, .int 0, .int 0, .int 0, .int 0, .int 0, .null])), (cl, .inr (4, [.int 0, .ref e0, .int 0])), (q_25, .inl (cI, 4, .inl f_29))] := by rw [ef_29]; exact hD
                have hPc := hP.sub (ws' := [(cl, .inr (4, [.int 0, .ref e0, .int 0])), (q_25, .inl (cI, 4, .inl f_29))]) [1, 2] rfl
                have hDc := hD.sub (ws' := [(cl, .inr (4, [.int 0, .ref e0, .int 0])), (q_25, .inl (cI, 4, .inl f_29))]) [1, 2] (by decide) rfl
                have hKc := hK.sub (tys' := [(cI, .int)]) [0] rfl
                have hFc := va_free (wc := [(cl, .inr (4, [.int 0, .ref e0, .int 0])), (q_25, .inl (cI, 4, .inl f_29))]) hD hS hA [1, 2] rfl
                refine va_calli (va_runV (As := [.ref q_25]) (rest := []) ⟨hx, hb, hml, hown, hts⟩ (c_Jx4a65c_add_9ea2d l dC dI e0 aK aV cI cl q_25 (.inl (cI, 4, .inl f_29)) "[I" ooH_ints 0 H.size) (cwV 1 hts gX15_count_Jx4a65c_add_9ea2d rfl rfl rfl (by decide +kernel) ⟨Nat.le_of_ble_eq_true rfl, Nat.le_of_ble_eq_true rfl⟩) (pcVz (zM_ok e0 aK aV) hPc hDc hKc hN hZ hS hFc (ci := 4) (q0 := 0) rfl rfl) rfl rfl hl.1 rfl (lv_room (Nat.le_of_ble_eq_true rfl)) dX15_count_125 ⟨Nat.le_of_ble_eq_true rfl, Nat.le_of_ble_eq_true rfl⟩) hS (fun q _ h => hFc q h) hFc (fun r_32 u t H1 locs ht hvm hw_33 hB hz1 hk1 hS => ?_)
                obtain ⟨q_30, m_31⟩ := u
                obtain ⟨hP1, hK1, hD1⟩ := hB
                rw [ht] at hP1
                try dsimp only at hw_33
                obtain ⟨hP, hD⟩ := va_join (wr := [(xm, .inr (20, [.int 0, .int 0, .ref kn, .int 0, .int 0, .int 0, .ref ml, .ref cl, .ref rg, .ref tr, .ref (aK 0), .ref (aK 0), .ref fl, .int 0, .int 0, .int 0, .int 0, .int 0, .int 0, .int 0, .null]))]) (w1 := [(cl, .inr (4, [.int m_31, .ref q_30, .int 1])), (q_25, .inl (cI, 4, .inl f_29))]) hP hD [1, 2] [0] rfl rfl (by decide) (by decide) hk1 hFc hP1 hD1
                generalize H1 = H at hP hS ⊢
                have hP : va_P (dC, dI) vwCl [(xm, .inr (20, [.int 0, .int 0, .ref kn, .int 0, .int 0, .int 0, .ref ml, .ref cl, .ref rg, .ref tr, .ref (aK 0), .ref (aK 0), .ref fl, .int 0, .int 0, .int 0, .int 0, .int 0, .int 0, .int 0, .null])), (cl, .inr (4, [.int m_31, .ref q_30, .int 1])), (q_25, .inl (cI, 4, .inl f_29))] H := hP
                have hD : va_D A [(xm, .inr (20, [.int 0, .int 0, .ref kn, .int 0, .int 0, .int 0, .ref ml, .ref cl, .ref rg, .ref tr, .ref (aK 0), .ref (aK 0), .ref fl, .int 0, .int 0, .int 0, .int 0, .int 0, .int 0, .int 0, .null])), (cl, .inr (4, [.int m_31, .ref q_30, .int 1])), (q_25, .inl (cI, 4, .inl f_29))] := hD
                refine W.widen (k := 2) (n := 14) (Nat.le_of_ble_eq_true rfl) (Nat.le_of_ble_eq_true rfl) ?_
                refine lv_pop hx hb dX15_count_128 rfl ?_
                refine lv_aload_n hx hb dX15_count_129 rfl (lv_at hl 1 rfl) ?_
                refine va_get (D := (dC, dI)) (ci := 20) (v := .ref cl) (C := RX15) (T := TX15) (N := 21) hx hb hts iWX15 hown hK hP 0 rfl rfl 7 (by decide) (hts (.fieldLink RX15 185 "BeaverhallModel" "counters" "Ljava/util/ArrayList;") (by decide +kernel)) (fun _ h9 => h9) rfl dX15_count_130 ?_
                have hPc := hP.sub (ws' := [(cl, .inr (4, [.int m_31, .ref q_30, .int 1]))]) [1] rfl
                have hDc := hD.sub (ws' := [(cl, .inr (4, [.int m_31, .ref q_30, .int 1]))]) [1] (by decide) rfl
                have hKc := hK.sub (tys' := []) [] rfl
                have hFc := va_free (wc := [(cl, .inr (4, [.int m_31, .ref q_30, .int 1]))]) hD hS hA [1] rfl
                refine va_calli (va_runV (As := []) (rest := []) ⟨hx, hb, hml, hown, hts⟩ (c_Jx4a65c_size_8abf5 l dC dI cl q_30 m_31 1 H.size) (cwV 0 hts gX15_count_Jx4a65c_size_8abf5 rfl rfl rfl (by decide +kernel) ⟨Nat.le_of_ble_eq_true rfl, Nat.le_of_ble_eq_true rfl⟩) (pcV hPc hDc hKc hN (ci := 4) (q0 := 0) rfl rfl) rfl rfl hl.1 rfl (lv_room (Nat.le_of_ble_eq_true rfl)) dX15_count_133 ⟨Nat.le_of_ble_eq_true rfl, Nat.le_of_ble_eq_true rfl⟩) hS (fun q _ h => hFc q h) hFc (fun r_34 u t H1 locs ht hvm hw_35 hB hz1 hk1 hS => ?_)
                obtain ⟨hP1, hK1, hD1⟩ := hB
                rw [ht] at hP1
                try dsimp only at hw_35
                obtain ⟨hP, hD⟩ := va_join (wr := [(xm, .inr (20, [.int 0, .int 0, .ref kn, .int 0, .int 0, .int 0, .ref ml, .ref cl, .ref rg, .ref tr, .ref (aK 0), .ref (aK 0), .ref fl, .int 0, .int 0, .int 0, .int 0, .int 0, .int 0, .int 0, .null])), (q_25, .inl (cI, 4, .inl f_29))]) (w1 := [(cl, .inr (4, [.int m_31, .ref q_30, .int 1]))]) hP hD [1] [0, 2] rfl rfl (by decide) (by decide) hk1 hFc hP1 hD1
                generalize H1 = H at hP hS ⊢
                have hP : va_P (dC, dI) vwCl [(xm, .inr (20, [.int 0, .int 0, .ref kn, .int 0, .int 0, .int 0, .ref ml, .ref cl, .ref rg, .ref tr, .ref (aK 0), .ref (aK 0), .ref fl, .int 0, .int 0, .int 0, .int 0, .int 0, .int 0, .int 0, .null])), (q_25, .inl (cI, 4, .inl f_29)), (cl, .inr (4, [.int m_31, .ref q_30, .int 1]))] H := hP
                have hD : va_D A [(xm, .inr (20, [.int 0, .int 0, .ref kn, .int 0, .int 0, .int 0, .ref ml, .ref cl, .ref rg, .ref tr, .ref (aK 0), .ref (aK 0), .ref fl, .int 0, .int 0, .int 0, .int 0, .int 0, .int 0, .int 0, .null])), (q_25, .inl (cI, 4, .inl f_29)), (cl, .inr (4, [.int m_31, .ref q_30, .int 1]))] := hD
                subst hw_35
                have hP9 := hP.sub (ws' := [(xm, .inr (20, [.int 0, .int 0, .ref kn, .int 0, .int 0, .int 0, .ref ml, .ref cl, .ref rg, .ref tr, .ref (aK 0), .ref (aK 0), .ref fl, .int 0, .int 0, .int 0, .int 0, .int 0, .int 0, .int 0, .null]))]) [0] rfl
                have hD9 := hD.sub (ws' := [(xm, .inr (20, [.int 0, .int 0, .ref kn, .int 0, .int 0, .int 0, .ref ml, .ref cl, .ref rg, .ref tr, .ref (aK 0), .ref (aK 0), .ref fl, .int 0, .int 0, .int 0, .int 0, .int 0, .int 0, .int 0, .null]))]) [0] (by decide) rfl
                have hK9 := hK.sub (tys' := [(cI, .int)]) [0] rfl
                exact W.iret (v := 1) hx hb hr (fun t ht hW => ⟨⟨1, [.int 0, .int 0, .ref kn, .int 0, .int 0, .int 0, .ref ml, .ref cl, .ref rg, .ref tr, .ref (aK 0), .ref (aK 0), .ref fl, .int 0, .int 0, .int 0, .int 0, .int 0, .int 0, .int 0, .null], rfl, (Or.inl ⟨⟨(Or.inl c3_1), hn_9, hn_17, (Or.inl c39_18)⟩, rfl, rfl⟩), ⟨by rw [ht]; exact hP9, va_K.moved hW.alike hK9, hD9⟩⟩, hS.F ht⟩) hS.2.2 dX15_count_136
              · exact (c96_23 (by decide)).elim
            · exact absurd c81_22 (by decide)
          · exact absurd c65_19 (by decide)
        · refine lv_iload hx hb dX15_count_42 (lv_at hl 4 rfl) ?_
          refine lv_i2l hx hb dX15_count_44 rfl ?_
          refine lv_lconst (v := 0) hx hb dX15_count_45 (by decide) ?_
          refine lv_ldc2 (v := (12)) hx hb hown (hts (.constantLong RX15 356 (12)) (by decide +kernel)) dX15_count_46 ?_
          have hPc := hP.sub (ws' := []) [] rfl
          have hDc := hD.sub (ws' := []) [] (by decide) rfl
          have hKc := hK.sub (tys' := []) [] rfl
          have hFc := va_free (wc := []) hD hS hA [] rfl
          refine va_calli (va_runS (As := [.long p3.toInt64, .long 0, .long (12)]) (rest := []) ⟨hx, hb, hml, hown, hts⟩ (c_X15_in l dC dI p3.toInt64 0 (12) H.size) (va_cwS 3 hts gX15_count_X15_in rfl rfl rfl (by decide +kernel) ⟨Nat.le_of_ble_eq_true rfl, Nat.le_of_ble_eq_true rfl⟩) (pcS hPc hDc hKc hN) rfl rfl hl.1 rfl (lv_room (Nat.le_of_ble_eq_true rfl)) dX15_count_49 ⟨Nat.le_of_ble_eq_true rfl, Nat.le_of_ble_eq_true rfl⟩) hS (fun q _ h => hFc q h) hFc (fun r_36 u t H1 locs ht hvm hw_37 hB hz1 hk1 hS => ?_)
          obtain ⟨hP1, hK1, hD1⟩ := hB
          rw [ht] at hP1
          try dsimp only at hw_37
          obtain ⟨hP, hD⟩ := va_join (wr := [(xm, .inr (20, [.int 0, .int 0, .ref kn, .int 0, .int 0, .int 0, .ref ml, .ref cl, .ref rg, .ref tr, .ref (aK 0), .ref (aK 0), .ref fl, .int 0, .int 0, .int 0, .int 0, .int 0, .int 0, .int 0, .null])), (cl, .inr (4, [.int 0, .ref e0, .int 0]))]) (w1 := []) hP hD [] [0, 1] rfl rfl (by decide) (by decide) hk1 hFc hP1 hD1
          generalize H1 = H at hP hS ⊢
          have hP : va_P (dC, dI) vwCl [(xm, .inr (20, [.int 0, .int 0, .ref kn, .int 0, .int 0, .int 0, .ref ml, .ref cl, .ref rg, .ref tr, .ref (aK 0), .ref (aK 0), .ref fl, .int 0, .int 0, .int 0, .int 0, .int 0, .int 0, .int 0, .null])), (cl, .inr (4, [.int 0, .ref e0, .int 0]))] H := hP
          have hD : va_D A [(xm, .inr (20, [.int 0, .int 0, .ref kn, .int 0, .int 0, .int 0, .ref ml, .ref cl, .ref rg, .ref tr, .ref (aK 0), .ref (aK 0), .ref fl, .int 0, .int 0, .int 0, .int 0, .int 0, .int 0, .int 0, .null])), (cl, .inr (4, [.int 0, .ref e0, .int 0]))] := hD
          have hi_38 := in32 (0) (12) (by decide) (by decide) hw_37
          refine lv_if_eq (tgt := 59) hx hb dX15_count_52 (by decide) (fun c52_39 => ?_) (fun c52_39 => ?_)
          · have hn_40 := (hi_38).elim (fun h => absurd (h.1.symm.trans c52_39) (by decide)) (fun h => h.2)
            refine lv_iconst (v := 0) hx hb dX15_count_59 (by decide) ?_
            refine lv_istore (lv' := [(5, .int 0), (0, .ref xm), (1, .int p0), (2, .int p1), (3, .int p2), (4, .int p3)]) hx hb dX15_count_60 hl (by decide) rfl (fun ls hl => ?_)
            refine lv_aload_n hx hb dX15_count_62 rfl (lv_at hl 1 rfl) ?_
            refine lv_iload hx hb dX15_count_63 (lv_at hl 0 rfl) ?_
            refine lv_if_ne (tgt := 72) hx hb dX15_count_65 (by decide) (fun c65_41 => ?_) (fun c65_41 => ?_)
            · exact (c65_41 (by decide)).elim
            · refine lv_iconst (v := 1) hx hb dX15_count_68 (by decide) ?_
              refine lv_goto (tgt := 89) hx hb dX15_count_69 (by decide) ?_
              refine va_put (D := (dC, dI)) (ci := 20) (v := .int 1) (ty := .int) (C := RX15) (T := TX15) (N := 21) hx hb hts iWX15 tyX15 tyX15_ok nmX15 hown hK hP hD hS 0 rfl rfl 5 (by decide) (hts (.fieldLink RX15 209 "BeaverhallModel" "thrown" "I") (by decide +kernel)) (fun _ h9 => h9) rfl (by decide +kernel) rfl rfl (Nat.le_of_ble_eq_true rfl) dX15_count_89 (fun H locs hP hD hS => ?_)
              have hP : va_P (dC, dI) vwCl [(xm, .inr (20, [.int 0, .int 0, .ref kn, .int 0, .int 0, .int 1, .ref ml, .ref cl, .ref rg, .ref tr, .ref (aK 0), .ref (aK 0), .ref fl, .int 0, .int 0, .int 0, .int 0, .int 0, .int 0, .int 0, .null])), (cl, .inr (4, [.int 0, .ref e0, .int 0]))] H := hP
              have hD : va_D A [(xm, .inr (20, [.int 0, .int 0, .ref kn, .int 0, .int 0, .int 1, .ref ml, .ref cl, .ref rg, .ref tr, .ref (aK 0), .ref (aK 0), .ref fl, .int 0, .int 0, .int 0, .int 0, .int 0, .int 0, .int 0, .null])), (cl, .inr (4, [.int 0, .ref e0, .int 0]))] := hD
              refine lv_aload_n hx hb dX15_count_92 rfl (lv_at hl 1 rfl) ?_
              refine va_get (D := (dC, dI)) (ci := 20) (v := .int 1) (C := RX15) (T := TX15) (N := 21) hx hb hts iWX15 hown hK hP 0 rfl rfl 5 (by decide) (hts (.fieldLink RX15 209 "BeaverhallModel" "thrown" "I") (by decide +kernel)) (fun _ h9 => h9) rfl dX15_count_93 ?_
              refine lv_if_le (tgt := 101) hx hb dX15_count_96 (by decide) (fun c96_42 => ?_) (fun c96_42 => ?_)
              · exact absurd c96_42 (by decide)
              · refine lv_iconst (v := 0) hx hb dX15_count_99 (by decide) ?_
                have hP9 := hP.sub (ws' := [(xm, .inr (20, [.int 0, .int 0, .ref kn, .int 0, .int 0, .int 1, .ref ml, .ref cl, .ref rg, .ref tr, .ref (aK 0), .ref (aK 0), .ref fl, .int 0, .int 0, .int 0, .int 0, .int 0, .int 0, .int 0, .null]))]) [0] rfl
                have hD9 := hD.sub (ws' := [(xm, .inr (20, [.int 0, .int 0, .ref kn, .int 0, .int 0, .int 1, .ref ml, .ref cl, .ref rg, .ref tr, .ref (aK 0), .ref (aK 0), .ref fl, .int 0, .int 0, .int 0, .int 0, .int 0, .int 0, .int 0, .null]))]) [0] (by decide) rfl
                have hK9 := hK.sub (tys' := [(cI, .int)]) [0] rfl
                refine W.widen (k := 2) (n := 14) (Nat.le_of_ble_eq_true rfl) (Nat.le_of_ble_eq_true rfl) ?_
                exact W.iret (v := 0) hx hb hr (fun t ht hW => ⟨⟨0, [.int 0, .int 0, .ref kn, .int 0, .int 0, .int 1, .ref ml, .ref cl, .ref rg, .ref tr, .ref (aK 0), .ref (aK 0), .ref fl, .int 0, .int 0, .int 0, .int 0, .int 0, .int 0, .int 0, .null], rfl, (Or.inr ⟨(fun h9 => (fun h9 => h9.elim c39_18 hn_40) h9.2.2.2), rfl⟩), ⟨by rw [ht]; exact hP9, va_K.moved hW.alike hK9, hD9⟩⟩, hS.F ht⟩) hS.2.2 dX15_count_100
          · have hn_43 := (hi_38).elim (fun h => h.2) (fun h => absurd h.1 c52_39)
            refine lv_iconst (v := 1) hx hb dX15_count_55 (by decide) ?_
            refine lv_goto (tgt := 60) hx hb dX15_count_56 (by decide) ?_
            refine lv_istore (lv' := [(5, .int 1), (0, .ref xm), (1, .int p0), (2, .int p1), (3, .int p2), (4, .int p3)]) hx hb dX15_count_60 hl (by decide) rfl (fun ls hl => ?_)
            refine lv_aload_n hx hb dX15_count_62 rfl (lv_at hl 1 rfl) ?_
            refine lv_iload hx hb dX15_count_63 (lv_at hl 0 rfl) ?_
            refine lv_if_ne (tgt := 72) hx hb dX15_count_65 (by decide) (fun c65_44 => ?_) (fun c65_44 => ?_)
            · refine lv_aload_n hx hb dX15_count_72 rfl (lv_at hl 1 rfl) ?_
              refine va_get (D := (dC, dI)) (ci := 20) (v := .ref cl) (C := RX15) (T := TX15) (N := 21) hx hb hts iWX15 hown hK hP 0 rfl rfl 7 (by decide) (hts (.fieldLink RX15 185 "BeaverhallModel" "counters" "Ljava/util/ArrayList;") (by decide +kernel)) (fun _ h9 => h9) rfl dX15_count_73 ?_
              have hPc := hP.sub (ws' := [(cl, .inr (4, [.int 0, .ref e0, .int 0]))]) [1] rfl
              have hDc := hD.sub (ws' := [(cl, .inr (4, [.int 0, .ref e0, .int 0]))]) [1] (by decide) rfl
              have hKc := hK.sub (tys' := []) [] rfl
              have hFc := va_free (wc := [(cl, .inr (4, [.int 0, .ref e0, .int 0]))]) hD hS hA [1] rfl
              refine va_calli (va_runV (As := []) (rest := [.ref xm]) ⟨hx, hb, hml, hown, hts⟩ (c_Jx4a65c_size_8abf5 l dC dI cl e0 0 0 H.size) (cwV 0 hts gX15_count_Jx4a65c_size_8abf5 rfl rfl rfl (by decide +kernel) ⟨Nat.le_of_ble_eq_true rfl, Nat.le_of_ble_eq_true rfl⟩) (pcV hPc hDc hKc hN (ci := 4) (q0 := 0) rfl rfl) rfl rfl hl.1 rfl (lv_room (Nat.le_of_ble_eq_true rfl)) dX15_count_76 ⟨Nat.le_of_ble_eq_true rfl, Nat.le_of_ble_eq_true rfl⟩) hS (fun q _ h => hFc q h) hFc (fun r_45 u t H1 locs ht hvm hw_46 hB hz1 hk1 hS => ?_)
              obtain ⟨hP1, hK1, hD1⟩ := hB
              rw [ht] at hP1
              try dsimp only at hw_46
              obtain ⟨hP, hD⟩ := va_join (wr := [(xm, .inr (20, [.int 0, .int 0, .ref kn, .int 0, .int 0, .int 0, .ref ml, .ref cl, .ref rg, .ref tr, .ref (aK 0), .ref (aK 0), .ref fl, .int 0, .int 0, .int 0, .int 0, .int 0, .int 0, .int 0, .null]))]) (w1 := [(cl, .inr (4, [.int 0, .ref e0, .int 0]))]) hP hD [1] [0] rfl rfl (by decide) (by decide) hk1 hFc hP1 hD1
              generalize H1 = H at hP hS ⊢
              have hP : va_P (dC, dI) vwCl [(xm, .inr (20, [.int 0, .int 0, .ref kn, .int 0, .int 0, .int 0, .ref ml, .ref cl, .ref rg, .ref tr, .ref (aK 0), .ref (aK 0), .ref fl, .int 0, .int 0, .int 0, .int 0, .int 0, .int 0, .int 0, .null])), (cl, .inr (4, [.int 0, .ref e0, .int 0]))] H := hP
              have hD : va_D A [(xm, .inr (20, [.int 0, .int 0, .ref kn, .int 0, .int 0, .int 0, .ref ml, .ref cl, .ref rg, .ref tr, .ref (aK 0), .ref (aK 0), .ref fl, .int 0, .int 0, .int 0, .int 0, .int 0, .int 0, .int 0, .null])), (cl, .inr (4, [.int 0, .ref e0, .int 0]))] := hD
              subst hw_46
              refine lv_bipush (v := 12) hx hb dX15_count_79 (by decide) ?_
              refine lv_icmp_ne (tgt := 88) hx hb dX15_count_81 (by decide) (fun c81_47 => ?_) (fun c81_47 => ?_)
              · refine lv_iconst (v := 0) hx hb dX15_count_88 (by decide) ?_
                refine va_put (D := (dC, dI)) (ci := 20) (v := .int 0) (ty := .int) (C := RX15) (T := TX15) (N := 21) hx hb hts iWX15 tyX15 tyX15_ok nmX15 hown hK hP hD hS 0 rfl rfl 5 (by decide) (hts (.fieldLink RX15 209 "BeaverhallModel" "thrown" "I") (by decide +kernel)) (fun _ h9 => h9) rfl (by decide +kernel) rfl rfl (Nat.le_of_ble_eq_true rfl) dX15_count_89 (fun H locs hP hD hS => ?_)
                have hP : va_P (dC, dI) vwCl [(xm, .inr (20, [.int 0, .int 0, .ref kn, .int 0, .int 0, .int 0, .ref ml, .ref cl, .ref rg, .ref tr, .ref (aK 0), .ref (aK 0), .ref fl, .int 0, .int 0, .int 0, .int 0, .int 0, .int 0, .int 0, .null])), (cl, .inr (4, [.int 0, .ref e0, .int 0]))] H := hP
                have hD : va_D A [(xm, .inr (20, [.int 0, .int 0, .ref kn, .int 0, .int 0, .int 0, .ref ml, .ref cl, .ref rg, .ref tr, .ref (aK 0), .ref (aK 0), .ref fl, .int 0, .int 0, .int 0, .int 0, .int 0, .int 0, .int 0, .null])), (cl, .inr (4, [.int 0, .ref e0, .int 0]))] := hD
                refine lv_aload_n hx hb dX15_count_92 rfl (lv_at hl 1 rfl) ?_
                refine va_get (D := (dC, dI)) (ci := 20) (v := .int 0) (C := RX15) (T := TX15) (N := 21) hx hb hts iWX15 hown hK hP 0 rfl rfl 5 (by decide) (hts (.fieldLink RX15 209 "BeaverhallModel" "thrown" "I") (by decide +kernel)) (fun _ h9 => h9) rfl dX15_count_93 ?_
                refine lv_if_le (tgt := 101) hx hb dX15_count_96 (by decide) (fun c96_48 => ?_) (fun c96_48 => ?_)
                · refine lv_aload_n hx hb dX15_count_101 rfl (lv_at hl 1 rfl) ?_
                  refine va_get (D := (dC, dI)) (ci := 20) (v := .ref cl) (C := RX15) (T := TX15) (N := 21) hx hb hts iWX15 hown hK hP 0 rfl rfl 7 (by decide) (hts (.fieldLink RX15 185 "BeaverhallModel" "counters" "Ljava/util/ArrayList;") (by decide +kernel)) (fun _ h9 => h9) rfl dX15_count_102 ?_
                  refine lv_iconst (v := 4) hx hb dX15_count_105 (by decide) ?_
                  refine va_newa (atype := .int) (ty := .int) (a0 := (4, .inl (fun _ => 0))) (N' := 4) hx hb (hts (.arrayClass .int) (by decide +kernel)) rfl hK hP hD hS hA (fun _ => rfl) (by decide) (by decide) (Nat.le_of_ble_eq_true rfl) (Nat.le_of_ble_eq_true rfl) (Nat.le_of_ble_eq_true rfl) dX15_count_106 (fun q_50 cA_49 H hK hP hD hS => ?_)
                  have ecA_49 : cI = cA_49 := cA_one hK (i := 0) (j := 1) rfl rfl
                  subst ecA_49
                  have hK := hK.sub (tys' := [(cI, .int)]) [0] rfl
                  have hP : va_P (dC, dI) vwCl [(xm, .inr (20, [.int 0, .int 0, .ref kn, .int 0, .int 0, .int 0, .ref ml, .ref cl, .ref rg, .ref tr, .ref (aK 0), .ref (aK 0), .ref fl, .int 0, .int 0, .int 0, .int 0, .int 0, .int 0, .int 0, .null])), (cl, .inr (4, [.int 0, .ref e0, .int 0])), (q_50, .inl (cI, 4, .inl (fun _ => 0)))] H := hP
                  have hD : va_D A [(xm, .inr (20, [.int 0, .int 0, .ref kn, .int 0, .int 0, .int 0, .ref ml, .ref cl, .ref rg, .ref tr, .ref (aK 0), .ref (aK 0), .ref fl, .int 0, .int 0, .int 0, .int 0, .int 0, .int 0, .int 0, .null])), (cl, .inr (4, [.int 0, .ref e0, .int 0])), (q_50, .inl (cI, 4, .inl (fun _ => 0)))] := hD
                  refine W.widen (k := 1) (n := 4) (Nat.le_of_ble_eq_true rfl) (Nat.le_of_ble_eq_true rfl) ?_
                  refine lv_dup hx hb dX15_count_108 rfl ?_
                  refine lv_iconst (v := 0) hx hb dX15_count_109 (by decide) ?_
                  refine lv_iload_n hx hb dX15_count_110 rfl (lv_at hl 2 rfl) ?_
                  refine va_iast hx hb hK hP hD hS 2 0 rfl rfl (show vp_in (nI 0) 4 from vp_in_nI (by decide) (by decide)) dX15_count_111 (fun H locs hP hD hS => ?_)
                  obtain ⟨f_51, ef_51⟩ : ∃ z, z = (upd (fun _ => 0) ((0 : Int32)).toNatClampNeg p0) := ⟨_, rfl⟩
                  have hP : va_P (dC, dI) vwCl [(xm, .inr (20, [.int 0, .int 0, .ref kn, .int 0, .int 0, .int 0, .ref ml, .ref cl, .ref rg, .ref tr, .ref (aK 0), .ref (aK 0), .ref fl, .int 0, .int 0, .int 0, .int 0, .int 0, .int 0, .int 0, .null])), (cl, .inr (4, [.int 0, .ref e0, .int 0])), (q_50, .inl (cI, 4, .inl f_51))] H := by rw [ef_51]; exact hP
                  have hD : va_D A [(xm, .inr (20, [.int 0, .int 0, .ref kn, .int 0, .int 0, .int 0, .ref ml, .ref cl, .ref rg, .ref tr, .ref (aK 0), .ref (aK 0), .ref fl, .int 0, .int 0, .int 0, .int 0, .int 0, .int 0, .int 0, .null])), (cl, .inr (4, [.int 0, .ref e0, .int 0])), (q_50, .inl (cI, 4, .inl f_51))] := by rw [ef_51]; exact hD
                  refine lv_dup hx hb dX15_count_112 rfl ?_
                  refine lv_iconst (v := 1) hx hb dX15_count_113 (by decide) ?_
                  refine lv_iload_n hx hb dX15_count_114 rfl (lv_at hl 3 rfl) ?_
                  refine va_iast hx hb hK hP hD hS 2 0 rfl rfl (show vp_in (nI 1) 4 from vp_in_nI (by decide) (by decide)) dX15_count_115 (fun H locs hP hD hS => ?_)
                  obtain ⟨f_52, ef_52⟩ : ∃ z, z = (upd f_51 ((1 : Int32)).toNatClampNeg p1) := ⟨_, rfl⟩
                  have hP : va_P (dC, dI) vwCl [(xm, .inr (20, [.int 0, .int 0, .ref kn, .int 0, .int 0, .int 0, .ref ml, .ref cl, .ref rg, .ref tr, .ref (aK 0), .ref (aK 0), .ref fl, .int 0, .int 0, .int 0, .int 0, .int 0, .int 0, .int 0, .null])), (cl, .inr (4, [.int 0, .ref e0, .int 0])), (q_50, .inl (cI, 4, .inl f_52))] H := by rw [ef_52]; exact hP
                  have hD : va_D A [(xm, .inr (20, [.int 0, .int 0, .ref kn, .int 0, .int 0, .int 0, .ref ml, .ref cl, .ref rg, .ref tr, .ref (aK 0), .ref (aK 0), .ref fl, .int 0, .int 0, .int 0, .int 0, .int 0, .int 0, .int 0, .null])), (cl, .inr (4, [.int 0, .ref e0, .int 0])), (q_50, .inl (cI, 4, .inl f_52))] := by rw [ef_52]; exact hD
                  refine lv_dup hx hb dX15_count_116 rfl ?_
                  refine lv_iconst (v := 2) hx hb dX15_count_117 (by decide) ?_
                  refine lv_iload_n hx hb dX15_count_118 rfl (lv_at hl 4 rfl) ?_
                  refine va_iast hx hb hK hP hD hS 2 0 rfl rfl (show vp_in (nI 2) 4 from vp_in_nI (by decide) (by decide)) dX15_count_119 (fun H locs hP hD hS => ?_)
                  obtain ⟨f_53, ef_53⟩ : ∃ z, z = (upd f_52 ((2 : Int32)).toNatClampNeg p2) := ⟨_, rfl⟩
                  have hP : va_P (dC, dI) vwCl [(xm, .inr (20, [.int 0, .int 0, .ref kn, .int 0, .int 0, .int 0, .ref ml, .ref cl, .ref rg, .ref tr, .ref (aK 0), .ref (aK 0), .ref fl, .int 0, .int 0, .int 0, .int 0, .int 0, .int 0, .int 0, .null])), (cl, .inr (4, [.int 0, .ref e0, .int 0])), (q_50, .inl (cI, 4, .inl f_53))] H := by rw [ef_53]; exact hP
                  have hD : va_D A [(xm, .inr (20, [.int 0, .int 0, .ref kn, .int 0, .int 0, .int 0, .ref ml, .ref cl, .ref rg, .ref tr, .ref (aK 0), .ref (aK 0), .ref fl, .int 0, .int 0, .int 0, .int 0, .int 0, .int 0, .int 0, .null])), (cl, .inr (4, [.int 0, .ref e0, .int 0])), (q_50, .inl (cI, 4, .inl f_53))] := by rw [ef_53]; exact hD
                  refine lv_dup hx hb dX15_count_120 rfl ?_
                  refine lv_iconst (v := 3) hx hb dX15_count_121 (by decide) ?_
                  refine lv_iload hx hb dX15_count_122 (lv_at hl 5 rfl) ?_
                  refine va_iast hx hb hK hP hD hS 2 0 rfl rfl (show vp_in (nI 3) 4 from vp_in_nI (by decide) (by decide)) dX15_count_124 (fun H locs hP hD hS => ?_)
                  obtain ⟨f_54, ef_54⟩ : ∃ z, z = (upd f_53 ((3 : Int32)).toNatClampNeg p3) := ⟨_, rfl⟩
                  have hP : va_P (dC, dI) vwCl [(xm, .inr (20, [.int 0, .int 0, .ref kn, .int 0, .int 0, .int 0, .ref ml, .ref cl, .ref rg, .ref tr, .ref (aK 0), .ref (aK 0), .ref fl, .int 0, .int 0, .int 0, .int 0, .int 0, .int 0, .int 0, .null])), (cl, .inr (4, [.int 0, .ref e0, .int 0])), (q_50, .inl (cI, 4, .inl f_54))] H := by rw [ef_54]; exact hP
                  have hD : va_D A [(xm, .inr (20, [.int 0, .int 0, .ref kn, .int 0, .int 0, .int 0, .ref ml, .ref cl, .ref rg, .ref tr, .ref (aK 0), .ref (aK 0), .ref fl, .int 0, .int 0, .int 0, .int 0, .int 0, .int 0, .int 0, .null])), (cl, .inr (4, [.int 0, .ref e0, .int 0])), (q_50, .inl (cI, 4, .inl f_54))] := by rw [ef_54]; exact hD
                  have hPc := hP.sub (ws' := [(cl, .inr (4, [.int 0, .ref e0, .int 0])), (q_50, .inl (cI, 4, .inl f_54))]) [1, 2] rfl
                  have hDc := hD.sub (ws' := [(cl, .inr (4, [.int 0, .ref e0, .int 0])), (q_50, .inl (cI, 4, .inl f_54))]) [1, 2] (by decide) rfl
                  have hKc := hK.sub (tys' := [(cI, .int)]) [0] rfl
                  have hFc := va_free (wc := [(cl, .inr (4, [.int 0, .ref e0, .int 0])), (q_50, .inl (cI, 4, .inl f_54))]) hD hS hA [1, 2] rfl
                  refine va_calli (va_runV (As := [.ref q_50]) (rest := []) ⟨hx, hb, hml, hown, hts⟩ (c_Jx4a65c_add_9ea2d l dC dI e0 aK aV cI cl q_50 (.inl (cI, 4, .inl f_54)) "[I" ooH_ints 0 H.size) (cwV 1 hts gX15_count_Jx4a65c_add_9ea2d rfl rfl rfl (by decide +kernel) ⟨Nat.le_of_ble_eq_true rfl, Nat.le_of_ble_eq_true rfl⟩) (pcVz (zM_ok e0 aK aV) hPc hDc hKc hN hZ hS hFc (ci := 4) (q0 := 0) rfl rfl) rfl rfl hl.1 rfl (lv_room (Nat.le_of_ble_eq_true rfl)) dX15_count_125 ⟨Nat.le_of_ble_eq_true rfl, Nat.le_of_ble_eq_true rfl⟩) hS (fun q _ h => hFc q h) hFc (fun r_57 u t H1 locs ht hvm hw_58 hB hz1 hk1 hS => ?_)
                  obtain ⟨q_55, m_56⟩ := u
                  obtain ⟨hP1, hK1, hD1⟩ := hB
                  rw [ht] at hP1
                  try dsimp only at hw_58
                  obtain ⟨hP, hD⟩ := va_join (wr := [(xm, .inr (20, [.int 0, .int 0, .ref kn, .int 0, .int 0, .int 0, .ref ml, .ref cl, .ref rg, .ref tr, .ref (aK 0), .ref (aK 0), .ref fl, .int 0, .int 0, .int 0, .int 0, .int 0, .int 0, .int 0, .null]))]) (w1 := [(cl, .inr (4, [.int m_56, .ref q_55, .int 1])), (q_50, .inl (cI, 4, .inl f_54))]) hP hD [1, 2] [0] rfl rfl (by decide) (by decide) hk1 hFc hP1 hD1
                  generalize H1 = H at hP hS ⊢
                  have hP : va_P (dC, dI) vwCl [(xm, .inr (20, [.int 0, .int 0, .ref kn, .int 0, .int 0, .int 0, .ref ml, .ref cl, .ref rg, .ref tr, .ref (aK 0), .ref (aK 0), .ref fl, .int 0, .int 0, .int 0, .int 0, .int 0, .int 0, .int 0, .null])), (cl, .inr (4, [.int m_56, .ref q_55, .int 1])), (q_50, .inl (cI, 4, .inl f_54))] H := hP
                  have hD : va_D A [(xm, .inr (20, [.int 0, .int 0, .ref kn, .int 0, .int 0, .int 0, .ref ml, .ref cl, .ref rg, .ref tr, .ref (aK 0), .ref (aK 0), .ref fl, .int 0, .int 0, .int 0, .int 0, .int 0, .int 0, .int 0, .null])), (cl, .inr (4, [.int m_56, .ref q_55, .int 1])), (q_50, .inl (cI, 4, .inl f_54))] := hD
                  refine W.widen (k := 2) (n := 14) (Nat.le_of_ble_eq_true rfl) (Nat.le_of_ble_eq_true rfl) ?_
                  refine lv_pop hx hb dX15_count_128 rfl ?_
                  refine lv_aload_n hx hb dX15_count_129 rfl (lv_at hl 1 rfl) ?_
                  refine va_get (D := (dC, dI)) (ci := 20) (v := .ref cl) (C := RX15) (T := TX15) (N := 21) hx hb hts iWX15 hown hK hP 0 rfl rfl 7 (by decide) (hts (.fieldLink RX15 185 "BeaverhallModel" "counters" "Ljava/util/ArrayList;") (by decide +kernel)) (fun _ h9 => h9) rfl dX15_count_130 ?_
                  have hPc := hP.sub (ws' := [(cl, .inr (4, [.int m_56, .ref q_55, .int 1]))]) [1] rfl
                  have hDc := hD.sub (ws' := [(cl, .inr (4, [.int m_56, .ref q_55, .int 1]))]) [1] (by decide) rfl
                  have hKc := hK.sub (tys' := []) [] rfl
                  have hFc := va_free (wc := [(cl, .inr (4, [.int m_56, .ref q_55, .int 1]))]) hD hS hA [1] rfl
                  refine va_calli (va_runV (As := []) (rest := []) ⟨hx, hb, hml, hown, hts⟩ (c_Jx4a65c_size_8abf5 l dC dI cl q_55 m_56 1 H.size) (cwV 0 hts gX15_count_Jx4a65c_size_8abf5 rfl rfl rfl (by decide +kernel) ⟨Nat.le_of_ble_eq_true rfl, Nat.le_of_ble_eq_true rfl⟩) (pcV hPc hDc hKc hN (ci := 4) (q0 := 0) rfl rfl) rfl rfl hl.1 rfl (lv_room (Nat.le_of_ble_eq_true rfl)) dX15_count_133 ⟨Nat.le_of_ble_eq_true rfl, Nat.le_of_ble_eq_true rfl⟩) hS (fun q _ h => hFc q h) hFc (fun r_59 u t H1 locs ht hvm hw_60 hB hz1 hk1 hS => ?_)
                  obtain ⟨hP1, hK1, hD1⟩ := hB
                  rw [ht] at hP1
                  try dsimp only at hw_60
                  obtain ⟨hP, hD⟩ := va_join (wr := [(xm, .inr (20, [.int 0, .int 0, .ref kn, .int 0, .int 0, .int 0, .ref ml, .ref cl, .ref rg, .ref tr, .ref (aK 0), .ref (aK 0), .ref fl, .int 0, .int 0, .int 0, .int 0, .int 0, .int 0, .int 0, .null])), (q_50, .inl (cI, 4, .inl f_54))]) (w1 := [(cl, .inr (4, [.int m_56, .ref q_55, .int 1]))]) hP hD [1] [0, 2] rfl rfl (by decide) (by decide) hk1 hFc hP1 hD1
                  generalize H1 = H at hP hS ⊢
                  have hP : va_P (dC, dI) vwCl [(xm, .inr (20, [.int 0, .int 0, .ref kn, .int 0, .int 0, .int 0, .ref ml, .ref cl, .ref rg, .ref tr, .ref (aK 0), .ref (aK 0), .ref fl, .int 0, .int 0, .int 0, .int 0, .int 0, .int 0, .int 0, .null])), (q_50, .inl (cI, 4, .inl f_54)), (cl, .inr (4, [.int m_56, .ref q_55, .int 1]))] H := hP
                  have hD : va_D A [(xm, .inr (20, [.int 0, .int 0, .ref kn, .int 0, .int 0, .int 0, .ref ml, .ref cl, .ref rg, .ref tr, .ref (aK 0), .ref (aK 0), .ref fl, .int 0, .int 0, .int 0, .int 0, .int 0, .int 0, .int 0, .null])), (q_50, .inl (cI, 4, .inl f_54)), (cl, .inr (4, [.int m_56, .ref q_55, .int 1]))] := hD
                  subst hw_60
                  have hP9 := hP.sub (ws' := [(xm, .inr (20, [.int 0, .int 0, .ref kn, .int 0, .int 0, .int 0, .ref ml, .ref cl, .ref rg, .ref tr, .ref (aK 0), .ref (aK 0), .ref fl, .int 0, .int 0, .int 0, .int 0, .int 0, .int 0, .int 0, .null]))]) [0] rfl
                  have hD9 := hD.sub (ws' := [(xm, .inr (20, [.int 0, .int 0, .ref kn, .int 0, .int 0, .int 0, .ref ml, .ref cl, .ref rg, .ref tr, .ref (aK 0), .ref (aK 0), .ref fl, .int 0, .int 0, .int 0, .int 0, .int 0, .int 0, .int 0, .null]))]) [0] (by decide) rfl
                  have hK9 := hK.sub (tys' := [(cI, .int)]) [0] rfl
                  exact W.iret (v := 1) hx hb hr (fun t ht hW => ⟨⟨1, [.int 0, .int 0, .ref kn, .int 0, .int 0, .int 0, .ref ml, .ref cl, .ref rg, .ref tr, .ref (aK 0), .ref (aK 0), .ref fl, .int 0, .int 0, .int 0, .int 0, .int 0, .int 0, .int 0, .null], rfl, (Or.inl ⟨⟨(Or.inl c3_1), hn_9, hn_17, (Or.inr hn_43)⟩, rfl, rfl⟩), ⟨by rw [ht]; exact hP9, va_K.moved hW.alike hK9, hD9⟩⟩, hS.F ht⟩) hS.2.2 dX15_count_136
                · exact (c96_48 (by decide)).elim
              · exact absurd c81_47 (by decide)
            · exact absurd c65_44 (by decide)
  · refine lv_iload_n hx hb dX15_count_6 rfl (lv_at hl 1 rfl) ?_
    refine lv_bipush (v := 45) hx hb dX15_count_7 (by decide) ?_
    refine lv_icmp_ne (tgt := 59) hx hb dX15_count_9 (by decide) (fun c9_61 => ?_) (fun c9_61 => ?_)
    · refine lv_iconst (v := 0) hx hb dX15_count_59 (by decide) ?_
      refine lv_istore (lv' := [(5, .int 0), (0, .ref xm), (1, .int p0), (2, .int p1), (3, .int p2), (4, .int p3)]) hx hb dX15_count_60 hl (by decide) rfl (fun ls hl => ?_)
      refine lv_aload_n hx hb dX15_count_62 rfl (lv_at hl 1 rfl) ?_
      refine lv_iload hx hb dX15_count_63 (lv_at hl 0 rfl) ?_
      refine lv_if_ne (tgt := 72) hx hb dX15_count_65 (by decide) (fun c65_62 => ?_) (fun c65_62 => ?_)
      · exact (c65_62 (by decide)).elim
      · refine lv_iconst (v := 1) hx hb dX15_count_68 (by decide) ?_
        refine lv_goto (tgt := 89) hx hb dX15_count_69 (by decide) ?_
        refine va_put (D := (dC, dI)) (ci := 20) (v := .int 1) (ty := .int) (C := RX15) (T := TX15) (N := 21) hx hb hts iWX15 tyX15 tyX15_ok nmX15 hown hK hP hD hS 0 rfl rfl 5 (by decide) (hts (.fieldLink RX15 209 "BeaverhallModel" "thrown" "I") (by decide +kernel)) (fun _ h9 => h9) rfl (by decide +kernel) rfl rfl (Nat.le_of_ble_eq_true rfl) dX15_count_89 (fun H locs hP hD hS => ?_)
        have hP : va_P (dC, dI) vwCl [(xm, .inr (20, [.int 0, .int 0, .ref kn, .int 0, .int 0, .int 1, .ref ml, .ref cl, .ref rg, .ref tr, .ref (aK 0), .ref (aK 0), .ref fl, .int 0, .int 0, .int 0, .int 0, .int 0, .int 0, .int 0, .null])), (cl, .inr (4, [.int 0, .ref e0, .int 0]))] H := hP
        have hD : va_D A [(xm, .inr (20, [.int 0, .int 0, .ref kn, .int 0, .int 0, .int 1, .ref ml, .ref cl, .ref rg, .ref tr, .ref (aK 0), .ref (aK 0), .ref fl, .int 0, .int 0, .int 0, .int 0, .int 0, .int 0, .int 0, .null])), (cl, .inr (4, [.int 0, .ref e0, .int 0]))] := hD
        refine lv_aload_n hx hb dX15_count_92 rfl (lv_at hl 1 rfl) ?_
        refine va_get (D := (dC, dI)) (ci := 20) (v := .int 1) (C := RX15) (T := TX15) (N := 21) hx hb hts iWX15 hown hK hP 0 rfl rfl 5 (by decide) (hts (.fieldLink RX15 209 "BeaverhallModel" "thrown" "I") (by decide +kernel)) (fun _ h9 => h9) rfl dX15_count_93 ?_
        refine lv_if_le (tgt := 101) hx hb dX15_count_96 (by decide) (fun c96_63 => ?_) (fun c96_63 => ?_)
        · exact absurd c96_63 (by decide)
        · refine lv_iconst (v := 0) hx hb dX15_count_99 (by decide) ?_
          have hP9 := hP.sub (ws' := [(xm, .inr (20, [.int 0, .int 0, .ref kn, .int 0, .int 0, .int 1, .ref ml, .ref cl, .ref rg, .ref tr, .ref (aK 0), .ref (aK 0), .ref fl, .int 0, .int 0, .int 0, .int 0, .int 0, .int 0, .int 0, .null]))]) [0] rfl
          have hD9 := hD.sub (ws' := [(xm, .inr (20, [.int 0, .int 0, .ref kn, .int 0, .int 0, .int 1, .ref ml, .ref cl, .ref rg, .ref tr, .ref (aK 0), .ref (aK 0), .ref fl, .int 0, .int 0, .int 0, .int 0, .int 0, .int 0, .int 0, .null]))]) [0] (by decide) rfl
          have hK9 := hK.sub (tys' := [(cI, .int)]) [0] rfl
          refine W.widen (k := 2) (n := 14) (Nat.le_of_ble_eq_true rfl) (Nat.le_of_ble_eq_true rfl) ?_
          exact W.iret (v := 0) hx hb hr (fun t ht hW => ⟨⟨0, [.int 0, .int 0, .ref kn, .int 0, .int 0, .int 1, .ref ml, .ref cl, .ref rg, .ref tr, .ref (aK 0), .ref (aK 0), .ref fl, .int 0, .int 0, .int 0, .int 0, .int 0, .int 0, .int 0, .null], rfl, (Or.inr ⟨(fun h9 => (fun h9 => h9.elim c3_1 c9_61) h9.1), rfl⟩), ⟨by rw [ht]; exact hP9, va_K.moved hW.alike hK9, hD9⟩⟩, hS.F ht⟩) hS.2.2 dX15_count_100
    · refine lv_iload_n hx hb dX15_count_12 rfl (lv_at hl 2 rfl) ?_
      refine lv_i2l hx hb dX15_count_13 rfl ?_
      refine lv_lconst (v := 0) hx hb dX15_count_14 (by decide) ?_
      refine lv_ldc2 (v := (3)) hx hb hown (hts (.constantLong RX15 337 (3)) (by decide +kernel)) dX15_count_15 ?_
      have hPc := hP.sub (ws' := []) [] rfl
      have hDc := hD.sub (ws' := []) [] (by decide) rfl
      have hKc := hK.sub (tys' := []) [] rfl
      have hFc := va_free (wc := []) hD hS hA [] rfl
      refine va_calli (va_runS (As := [.long p1.toInt64, .long 0, .long (3)]) (rest := []) ⟨hx, hb, hml, hown, hts⟩ (c_X15_in l dC dI p1.toInt64 0 (3) s.heap.size) (va_cwS 3 hts gX15_count_X15_in rfl rfl rfl (by decide +kernel) ⟨Nat.le_of_ble_eq_true rfl, Nat.le_of_ble_eq_true rfl⟩) (pcS hPc hDc hKc hN) rfl rfl hl.1 rfl (lv_room (Nat.le_of_ble_eq_true rfl)) dX15_count_18 ⟨Nat.le_of_ble_eq_true rfl, Nat.le_of_ble_eq_true rfl⟩) hS (fun q _ h => hFc q h) hFc (fun r_64 u t H1 locs ht hvm hw_65 hB hz1 hk1 hS => ?_)
      obtain ⟨hP1, hK1, hD1⟩ := hB
      rw [ht] at hP1
      try dsimp only at hw_65
      obtain ⟨hP, hD⟩ := va_join (wr := [(xm, .inr (20, [.int 0, .int 0, .ref kn, .int 0, .int 0, .int 0, .ref ml, .ref cl, .ref rg, .ref tr, .ref (aK 0), .ref (aK 0), .ref fl, .int 0, .int 0, .int 0, .int 0, .int 0, .int 0, .int 0, .null])), (cl, .inr (4, [.int 0, .ref e0, .int 0]))]) (w1 := []) hP hD [] [0, 1] rfl rfl (by decide) (by decide) hk1 hFc hP1 hD1
      generalize H1 = H at hP hS ⊢
      have hP : va_P (dC, dI) vwCl [(xm, .inr (20, [.int 0, .int 0, .ref kn, .int 0, .int 0, .int 0, .ref ml, .ref cl, .ref rg, .ref tr, .ref (aK 0), .ref (aK 0), .ref fl, .int 0, .int 0, .int 0, .int 0, .int 0, .int 0, .int 0, .null])), (cl, .inr (4, [.int 0, .ref e0, .int 0]))] H := hP
      have hD : va_D A [(xm, .inr (20, [.int 0, .int 0, .ref kn, .int 0, .int 0, .int 0, .ref ml, .ref cl, .ref rg, .ref tr, .ref (aK 0), .ref (aK 0), .ref fl, .int 0, .int 0, .int 0, .int 0, .int 0, .int 0, .int 0, .null])), (cl, .inr (4, [.int 0, .ref e0, .int 0]))] := hD
      have hi_66 := in32 (0) (3) (by decide) (by decide) hw_65
      refine lv_if_eq (tgt := 59) hx hb dX15_count_21 (by decide) (fun c21_67 => ?_) (fun c21_67 => ?_)
      · have hn_68 := (hi_66).elim (fun h => absurd (h.1.symm.trans c21_67) (by decide)) (fun h => h.2)
        refine lv_iconst (v := 0) hx hb dX15_count_59 (by decide) ?_
        refine lv_istore (lv' := [(5, .int 0), (0, .ref xm), (1, .int p0), (2, .int p1), (3, .int p2), (4, .int p3)]) hx hb dX15_count_60 hl (by decide) rfl (fun ls hl => ?_)
        refine lv_aload_n hx hb dX15_count_62 rfl (lv_at hl 1 rfl) ?_
        refine lv_iload hx hb dX15_count_63 (lv_at hl 0 rfl) ?_
        refine lv_if_ne (tgt := 72) hx hb dX15_count_65 (by decide) (fun c65_69 => ?_) (fun c65_69 => ?_)
        · exact (c65_69 (by decide)).elim
        · refine lv_iconst (v := 1) hx hb dX15_count_68 (by decide) ?_
          refine lv_goto (tgt := 89) hx hb dX15_count_69 (by decide) ?_
          refine va_put (D := (dC, dI)) (ci := 20) (v := .int 1) (ty := .int) (C := RX15) (T := TX15) (N := 21) hx hb hts iWX15 tyX15 tyX15_ok nmX15 hown hK hP hD hS 0 rfl rfl 5 (by decide) (hts (.fieldLink RX15 209 "BeaverhallModel" "thrown" "I") (by decide +kernel)) (fun _ h9 => h9) rfl (by decide +kernel) rfl rfl (Nat.le_of_ble_eq_true rfl) dX15_count_89 (fun H locs hP hD hS => ?_)
          have hP : va_P (dC, dI) vwCl [(xm, .inr (20, [.int 0, .int 0, .ref kn, .int 0, .int 0, .int 1, .ref ml, .ref cl, .ref rg, .ref tr, .ref (aK 0), .ref (aK 0), .ref fl, .int 0, .int 0, .int 0, .int 0, .int 0, .int 0, .int 0, .null])), (cl, .inr (4, [.int 0, .ref e0, .int 0]))] H := hP
          have hD : va_D A [(xm, .inr (20, [.int 0, .int 0, .ref kn, .int 0, .int 0, .int 1, .ref ml, .ref cl, .ref rg, .ref tr, .ref (aK 0), .ref (aK 0), .ref fl, .int 0, .int 0, .int 0, .int 0, .int 0, .int 0, .int 0, .null])), (cl, .inr (4, [.int 0, .ref e0, .int 0]))] := hD
          refine lv_aload_n hx hb dX15_count_92 rfl (lv_at hl 1 rfl) ?_
          refine va_get (D := (dC, dI)) (ci := 20) (v := .int 1) (C := RX15) (T := TX15) (N := 21) hx hb hts iWX15 hown hK hP 0 rfl rfl 5 (by decide) (hts (.fieldLink RX15 209 "BeaverhallModel" "thrown" "I") (by decide +kernel)) (fun _ h9 => h9) rfl dX15_count_93 ?_
          refine lv_if_le (tgt := 101) hx hb dX15_count_96 (by decide) (fun c96_70 => ?_) (fun c96_70 => ?_)
          · exact absurd c96_70 (by decide)
          · refine lv_iconst (v := 0) hx hb dX15_count_99 (by decide) ?_
            have hP9 := hP.sub (ws' := [(xm, .inr (20, [.int 0, .int 0, .ref kn, .int 0, .int 0, .int 1, .ref ml, .ref cl, .ref rg, .ref tr, .ref (aK 0), .ref (aK 0), .ref fl, .int 0, .int 0, .int 0, .int 0, .int 0, .int 0, .int 0, .null]))]) [0] rfl
            have hD9 := hD.sub (ws' := [(xm, .inr (20, [.int 0, .int 0, .ref kn, .int 0, .int 0, .int 1, .ref ml, .ref cl, .ref rg, .ref tr, .ref (aK 0), .ref (aK 0), .ref fl, .int 0, .int 0, .int 0, .int 0, .int 0, .int 0, .int 0, .null]))]) [0] (by decide) rfl
            have hK9 := hK.sub (tys' := [(cI, .int)]) [0] rfl
            refine W.widen (k := 2) (n := 14) (Nat.le_of_ble_eq_true rfl) (Nat.le_of_ble_eq_true rfl) ?_
            exact W.iret (v := 0) hx hb hr (fun t ht hW => ⟨⟨0, [.int 0, .int 0, .ref kn, .int 0, .int 0, .int 1, .ref ml, .ref cl, .ref rg, .ref tr, .ref (aK 0), .ref (aK 0), .ref fl, .int 0, .int 0, .int 0, .int 0, .int 0, .int 0, .int 0, .null], rfl, (Or.inr ⟨(fun h9 => hn_68 h9.2.1), rfl⟩), ⟨by rw [ht]; exact hP9, va_K.moved hW.alike hK9, hD9⟩⟩, hS.F ht⟩) hS.2.2 dX15_count_100
      · have hn_71 := (hi_66).elim (fun h => h.2) (fun h => absurd h.1 c21_67)
        refine lv_iload_n hx hb dX15_count_24 rfl (lv_at hl 3 rfl) ?_
        refine lv_i2l hx hb dX15_count_25 rfl ?_
        refine lv_lconst (v := 0) hx hb dX15_count_26 (by decide) ?_
        refine lv_ldc2 (v := (12)) hx hb hown (hts (.constantLong RX15 356 (12)) (by decide +kernel)) dX15_count_27 ?_
        have hPc := hP.sub (ws' := []) [] rfl
        have hDc := hD.sub (ws' := []) [] (by decide) rfl
        have hKc := hK.sub (tys' := []) [] rfl
        have hFc := va_free (wc := []) hD hS hA [] rfl
        refine va_calli (va_runS (As := [.long p2.toInt64, .long 0, .long (12)]) (rest := []) ⟨hx, hb, hml, hown, hts⟩ (c_X15_in l dC dI p2.toInt64 0 (12) H.size) (va_cwS 3 hts gX15_count_X15_in rfl rfl rfl (by decide +kernel) ⟨Nat.le_of_ble_eq_true rfl, Nat.le_of_ble_eq_true rfl⟩) (pcS hPc hDc hKc hN) rfl rfl hl.1 rfl (lv_room (Nat.le_of_ble_eq_true rfl)) dX15_count_30 ⟨Nat.le_of_ble_eq_true rfl, Nat.le_of_ble_eq_true rfl⟩) hS (fun q _ h => hFc q h) hFc (fun r_72 u t H1 locs ht hvm hw_73 hB hz1 hk1 hS => ?_)
        obtain ⟨hP1, hK1, hD1⟩ := hB
        rw [ht] at hP1
        try dsimp only at hw_73
        obtain ⟨hP, hD⟩ := va_join (wr := [(xm, .inr (20, [.int 0, .int 0, .ref kn, .int 0, .int 0, .int 0, .ref ml, .ref cl, .ref rg, .ref tr, .ref (aK 0), .ref (aK 0), .ref fl, .int 0, .int 0, .int 0, .int 0, .int 0, .int 0, .int 0, .null])), (cl, .inr (4, [.int 0, .ref e0, .int 0]))]) (w1 := []) hP hD [] [0, 1] rfl rfl (by decide) (by decide) hk1 hFc hP1 hD1
        generalize H1 = H at hP hS ⊢
        have hP : va_P (dC, dI) vwCl [(xm, .inr (20, [.int 0, .int 0, .ref kn, .int 0, .int 0, .int 0, .ref ml, .ref cl, .ref rg, .ref tr, .ref (aK 0), .ref (aK 0), .ref fl, .int 0, .int 0, .int 0, .int 0, .int 0, .int 0, .int 0, .null])), (cl, .inr (4, [.int 0, .ref e0, .int 0]))] H := hP
        have hD : va_D A [(xm, .inr (20, [.int 0, .int 0, .ref kn, .int 0, .int 0, .int 0, .ref ml, .ref cl, .ref rg, .ref tr, .ref (aK 0), .ref (aK 0), .ref fl, .int 0, .int 0, .int 0, .int 0, .int 0, .int 0, .int 0, .null])), (cl, .inr (4, [.int 0, .ref e0, .int 0]))] := hD
        have hi_74 := in32 (0) (12) (by decide) (by decide) hw_73
        refine lv_if_eq (tgt := 59) hx hb dX15_count_33 (by decide) (fun c33_75 => ?_) (fun c33_75 => ?_)
        · have hn_76 := (hi_74).elim (fun h => absurd (h.1.symm.trans c33_75) (by decide)) (fun h => h.2)
          refine lv_iconst (v := 0) hx hb dX15_count_59 (by decide) ?_
          refine lv_istore (lv' := [(5, .int 0), (0, .ref xm), (1, .int p0), (2, .int p1), (3, .int p2), (4, .int p3)]) hx hb dX15_count_60 hl (by decide) rfl (fun ls hl => ?_)
          refine lv_aload_n hx hb dX15_count_62 rfl (lv_at hl 1 rfl) ?_
          refine lv_iload hx hb dX15_count_63 (lv_at hl 0 rfl) ?_
          refine lv_if_ne (tgt := 72) hx hb dX15_count_65 (by decide) (fun c65_77 => ?_) (fun c65_77 => ?_)
          · exact (c65_77 (by decide)).elim
          · refine lv_iconst (v := 1) hx hb dX15_count_68 (by decide) ?_
            refine lv_goto (tgt := 89) hx hb dX15_count_69 (by decide) ?_
            refine va_put (D := (dC, dI)) (ci := 20) (v := .int 1) (ty := .int) (C := RX15) (T := TX15) (N := 21) hx hb hts iWX15 tyX15 tyX15_ok nmX15 hown hK hP hD hS 0 rfl rfl 5 (by decide) (hts (.fieldLink RX15 209 "BeaverhallModel" "thrown" "I") (by decide +kernel)) (fun _ h9 => h9) rfl (by decide +kernel) rfl rfl (Nat.le_of_ble_eq_true rfl) dX15_count_89 (fun H locs hP hD hS => ?_)
            have hP : va_P (dC, dI) vwCl [(xm, .inr (20, [.int 0, .int 0, .ref kn, .int 0, .int 0, .int 1, .ref ml, .ref cl, .ref rg, .ref tr, .ref (aK 0), .ref (aK 0), .ref fl, .int 0, .int 0, .int 0, .int 0, .int 0, .int 0, .int 0, .null])), (cl, .inr (4, [.int 0, .ref e0, .int 0]))] H := hP
            have hD : va_D A [(xm, .inr (20, [.int 0, .int 0, .ref kn, .int 0, .int 0, .int 1, .ref ml, .ref cl, .ref rg, .ref tr, .ref (aK 0), .ref (aK 0), .ref fl, .int 0, .int 0, .int 0, .int 0, .int 0, .int 0, .int 0, .null])), (cl, .inr (4, [.int 0, .ref e0, .int 0]))] := hD
            refine lv_aload_n hx hb dX15_count_92 rfl (lv_at hl 1 rfl) ?_
            refine va_get (D := (dC, dI)) (ci := 20) (v := .int 1) (C := RX15) (T := TX15) (N := 21) hx hb hts iWX15 hown hK hP 0 rfl rfl 5 (by decide) (hts (.fieldLink RX15 209 "BeaverhallModel" "thrown" "I") (by decide +kernel)) (fun _ h9 => h9) rfl dX15_count_93 ?_
            refine lv_if_le (tgt := 101) hx hb dX15_count_96 (by decide) (fun c96_78 => ?_) (fun c96_78 => ?_)
            · exact absurd c96_78 (by decide)
            · refine lv_iconst (v := 0) hx hb dX15_count_99 (by decide) ?_
              have hP9 := hP.sub (ws' := [(xm, .inr (20, [.int 0, .int 0, .ref kn, .int 0, .int 0, .int 1, .ref ml, .ref cl, .ref rg, .ref tr, .ref (aK 0), .ref (aK 0), .ref fl, .int 0, .int 0, .int 0, .int 0, .int 0, .int 0, .int 0, .null]))]) [0] rfl
              have hD9 := hD.sub (ws' := [(xm, .inr (20, [.int 0, .int 0, .ref kn, .int 0, .int 0, .int 1, .ref ml, .ref cl, .ref rg, .ref tr, .ref (aK 0), .ref (aK 0), .ref fl, .int 0, .int 0, .int 0, .int 0, .int 0, .int 0, .int 0, .null]))]) [0] (by decide) rfl
              have hK9 := hK.sub (tys' := [(cI, .int)]) [0] rfl
              refine W.widen (k := 2) (n := 14) (Nat.le_of_ble_eq_true rfl) (Nat.le_of_ble_eq_true rfl) ?_
              exact W.iret (v := 0) hx hb hr (fun t ht hW => ⟨⟨0, [.int 0, .int 0, .ref kn, .int 0, .int 0, .int 1, .ref ml, .ref cl, .ref rg, .ref tr, .ref (aK 0), .ref (aK 0), .ref fl, .int 0, .int 0, .int 0, .int 0, .int 0, .int 0, .int 0, .null], rfl, (Or.inr ⟨(fun h9 => hn_76 h9.2.2.1), rfl⟩), ⟨by rw [ht]; exact hP9, va_K.moved hW.alike hK9, hD9⟩⟩, hS.F ht⟩) hS.2.2 dX15_count_100
        · have hn_79 := (hi_74).elim (fun h => h.2) (fun h => absurd h.1 c33_75)
          refine lv_iload_n hx hb dX15_count_36 rfl (lv_at hl 1 rfl) ?_
          refine lv_bipush (v := 43) hx hb dX15_count_37 (by decide) ?_
          refine lv_icmp_eq (tgt := 55) hx hb dX15_count_39 (by decide) (fun c39_80 => ?_) (fun c39_80 => ?_)
          · refine lv_iconst (v := 1) hx hb dX15_count_55 (by decide) ?_
            refine lv_goto (tgt := 60) hx hb dX15_count_56 (by decide) ?_
            refine lv_istore (lv' := [(5, .int 1), (0, .ref xm), (1, .int p0), (2, .int p1), (3, .int p2), (4, .int p3)]) hx hb dX15_count_60 hl (by decide) rfl (fun ls hl => ?_)
            refine lv_aload_n hx hb dX15_count_62 rfl (lv_at hl 1 rfl) ?_
            refine lv_iload hx hb dX15_count_63 (lv_at hl 0 rfl) ?_
            refine lv_if_ne (tgt := 72) hx hb dX15_count_65 (by decide) (fun c65_81 => ?_) (fun c65_81 => ?_)
            · refine lv_aload_n hx hb dX15_count_72 rfl (lv_at hl 1 rfl) ?_
              refine va_get (D := (dC, dI)) (ci := 20) (v := .ref cl) (C := RX15) (T := TX15) (N := 21) hx hb hts iWX15 hown hK hP 0 rfl rfl 7 (by decide) (hts (.fieldLink RX15 185 "BeaverhallModel" "counters" "Ljava/util/ArrayList;") (by decide +kernel)) (fun _ h9 => h9) rfl dX15_count_73 ?_
              have hPc := hP.sub (ws' := [(cl, .inr (4, [.int 0, .ref e0, .int 0]))]) [1] rfl
              have hDc := hD.sub (ws' := [(cl, .inr (4, [.int 0, .ref e0, .int 0]))]) [1] (by decide) rfl
              have hKc := hK.sub (tys' := []) [] rfl
              have hFc := va_free (wc := [(cl, .inr (4, [.int 0, .ref e0, .int 0]))]) hD hS hA [1] rfl
              refine va_calli (va_runV (As := []) (rest := [.ref xm]) ⟨hx, hb, hml, hown, hts⟩ (c_Jx4a65c_size_8abf5 l dC dI cl e0 0 0 H.size) (cwV 0 hts gX15_count_Jx4a65c_size_8abf5 rfl rfl rfl (by decide +kernel) ⟨Nat.le_of_ble_eq_true rfl, Nat.le_of_ble_eq_true rfl⟩) (pcV hPc hDc hKc hN (ci := 4) (q0 := 0) rfl rfl) rfl rfl hl.1 rfl (lv_room (Nat.le_of_ble_eq_true rfl)) dX15_count_76 ⟨Nat.le_of_ble_eq_true rfl, Nat.le_of_ble_eq_true rfl⟩) hS (fun q _ h => hFc q h) hFc (fun r_82 u t H1 locs ht hvm hw_83 hB hz1 hk1 hS => ?_)
              obtain ⟨hP1, hK1, hD1⟩ := hB
              rw [ht] at hP1
              try dsimp only at hw_83
              obtain ⟨hP, hD⟩ := va_join (wr := [(xm, .inr (20, [.int 0, .int 0, .ref kn, .int 0, .int 0, .int 0, .ref ml, .ref cl, .ref rg, .ref tr, .ref (aK 0), .ref (aK 0), .ref fl, .int 0, .int 0, .int 0, .int 0, .int 0, .int 0, .int 0, .null]))]) (w1 := [(cl, .inr (4, [.int 0, .ref e0, .int 0]))]) hP hD [1] [0] rfl rfl (by decide) (by decide) hk1 hFc hP1 hD1
              generalize H1 = H at hP hS ⊢
              have hP : va_P (dC, dI) vwCl [(xm, .inr (20, [.int 0, .int 0, .ref kn, .int 0, .int 0, .int 0, .ref ml, .ref cl, .ref rg, .ref tr, .ref (aK 0), .ref (aK 0), .ref fl, .int 0, .int 0, .int 0, .int 0, .int 0, .int 0, .int 0, .null])), (cl, .inr (4, [.int 0, .ref e0, .int 0]))] H := hP
              have hD : va_D A [(xm, .inr (20, [.int 0, .int 0, .ref kn, .int 0, .int 0, .int 0, .ref ml, .ref cl, .ref rg, .ref tr, .ref (aK 0), .ref (aK 0), .ref fl, .int 0, .int 0, .int 0, .int 0, .int 0, .int 0, .int 0, .null])), (cl, .inr (4, [.int 0, .ref e0, .int 0]))] := hD
              subst hw_83
              refine lv_bipush (v := 12) hx hb dX15_count_79 (by decide) ?_
              refine lv_icmp_ne (tgt := 88) hx hb dX15_count_81 (by decide) (fun c81_84 => ?_) (fun c81_84 => ?_)
              · refine lv_iconst (v := 0) hx hb dX15_count_88 (by decide) ?_
                refine va_put (D := (dC, dI)) (ci := 20) (v := .int 0) (ty := .int) (C := RX15) (T := TX15) (N := 21) hx hb hts iWX15 tyX15 tyX15_ok nmX15 hown hK hP hD hS 0 rfl rfl 5 (by decide) (hts (.fieldLink RX15 209 "BeaverhallModel" "thrown" "I") (by decide +kernel)) (fun _ h9 => h9) rfl (by decide +kernel) rfl rfl (Nat.le_of_ble_eq_true rfl) dX15_count_89 (fun H locs hP hD hS => ?_)
                have hP : va_P (dC, dI) vwCl [(xm, .inr (20, [.int 0, .int 0, .ref kn, .int 0, .int 0, .int 0, .ref ml, .ref cl, .ref rg, .ref tr, .ref (aK 0), .ref (aK 0), .ref fl, .int 0, .int 0, .int 0, .int 0, .int 0, .int 0, .int 0, .null])), (cl, .inr (4, [.int 0, .ref e0, .int 0]))] H := hP
                have hD : va_D A [(xm, .inr (20, [.int 0, .int 0, .ref kn, .int 0, .int 0, .int 0, .ref ml, .ref cl, .ref rg, .ref tr, .ref (aK 0), .ref (aK 0), .ref fl, .int 0, .int 0, .int 0, .int 0, .int 0, .int 0, .int 0, .null])), (cl, .inr (4, [.int 0, .ref e0, .int 0]))] := hD
                refine lv_aload_n hx hb dX15_count_92 rfl (lv_at hl 1 rfl) ?_
                refine va_get (D := (dC, dI)) (ci := 20) (v := .int 0) (C := RX15) (T := TX15) (N := 21) hx hb hts iWX15 hown hK hP 0 rfl rfl 5 (by decide) (hts (.fieldLink RX15 209 "BeaverhallModel" "thrown" "I") (by decide +kernel)) (fun _ h9 => h9) rfl dX15_count_93 ?_
                refine lv_if_le (tgt := 101) hx hb dX15_count_96 (by decide) (fun c96_85 => ?_) (fun c96_85 => ?_)
                · refine lv_aload_n hx hb dX15_count_101 rfl (lv_at hl 1 rfl) ?_
                  refine va_get (D := (dC, dI)) (ci := 20) (v := .ref cl) (C := RX15) (T := TX15) (N := 21) hx hb hts iWX15 hown hK hP 0 rfl rfl 7 (by decide) (hts (.fieldLink RX15 185 "BeaverhallModel" "counters" "Ljava/util/ArrayList;") (by decide +kernel)) (fun _ h9 => h9) rfl dX15_count_102 ?_
                  refine lv_iconst (v := 4) hx hb dX15_count_105 (by decide) ?_
                  refine va_newa (atype := .int) (ty := .int) (a0 := (4, .inl (fun _ => 0))) (N' := 4) hx hb (hts (.arrayClass .int) (by decide +kernel)) rfl hK hP hD hS hA (fun _ => rfl) (by decide) (by decide) (Nat.le_of_ble_eq_true rfl) (Nat.le_of_ble_eq_true rfl) (Nat.le_of_ble_eq_true rfl) dX15_count_106 (fun q_87 cA_86 H hK hP hD hS => ?_)
                  have ecA_86 : cI = cA_86 := cA_one hK (i := 0) (j := 1) rfl rfl
                  subst ecA_86
                  have hK := hK.sub (tys' := [(cI, .int)]) [0] rfl
                  have hP : va_P (dC, dI) vwCl [(xm, .inr (20, [.int 0, .int 0, .ref kn, .int 0, .int 0, .int 0, .ref ml, .ref cl, .ref rg, .ref tr, .ref (aK 0), .ref (aK 0), .ref fl, .int 0, .int 0, .int 0, .int 0, .int 0, .int 0, .int 0, .null])), (cl, .inr (4, [.int 0, .ref e0, .int 0])), (q_87, .inl (cI, 4, .inl (fun _ => 0)))] H := hP
                  have hD : va_D A [(xm, .inr (20, [.int 0, .int 0, .ref kn, .int 0, .int 0, .int 0, .ref ml, .ref cl, .ref rg, .ref tr, .ref (aK 0), .ref (aK 0), .ref fl, .int 0, .int 0, .int 0, .int 0, .int 0, .int 0, .int 0, .null])), (cl, .inr (4, [.int 0, .ref e0, .int 0])), (q_87, .inl (cI, 4, .inl (fun _ => 0)))] := hD
                  refine W.widen (k := 1) (n := 4) (Nat.le_of_ble_eq_true rfl) (Nat.le_of_ble_eq_true rfl) ?_
                  refine lv_dup hx hb dX15_count_108 rfl ?_
                  refine lv_iconst (v := 0) hx hb dX15_count_109 (by decide) ?_
                  refine lv_iload_n hx hb dX15_count_110 rfl (lv_at hl 2 rfl) ?_
                  refine va_iast hx hb hK hP hD hS 2 0 rfl rfl (show vp_in (nI 0) 4 from vp_in_nI (by decide) (by decide)) dX15_count_111 (fun H locs hP hD hS => ?_)
                  obtain ⟨f_88, ef_88⟩ : ∃ z, z = (upd (fun _ => 0) ((0 : Int32)).toNatClampNeg p0) := ⟨_, rfl⟩
                  have hP : va_P (dC, dI) vwCl [(xm, .inr (20, [.int 0, .int 0, .ref kn, .int 0, .int 0, .int 0, .ref ml, .ref cl, .ref rg, .ref tr, .ref (aK 0), .ref (aK 0), .ref fl, .int 0, .int 0, .int 0, .int 0, .int 0, .int 0, .int 0, .null])), (cl, .inr (4, [.int 0, .ref e0, .int 0])), (q_87, .inl (cI, 4, .inl f_88))] H := by rw [ef_88]; exact hP
                  have hD : va_D A [(xm, .inr (20, [.int 0, .int 0, .ref kn, .int 0, .int 0, .int 0, .ref ml, .ref cl, .ref rg, .ref tr, .ref (aK 0), .ref (aK 0), .ref fl, .int 0, .int 0, .int 0, .int 0, .int 0, .int 0, .int 0, .null])), (cl, .inr (4, [.int 0, .ref e0, .int 0])), (q_87, .inl (cI, 4, .inl f_88))] := by rw [ef_88]; exact hD
                  refine lv_dup hx hb dX15_count_112 rfl ?_
                  refine lv_iconst (v := 1) hx hb dX15_count_113 (by decide) ?_
                  refine lv_iload_n hx hb dX15_count_114 rfl (lv_at hl 3 rfl) ?_
                  refine va_iast hx hb hK hP hD hS 2 0 rfl rfl (show vp_in (nI 1) 4 from vp_in_nI (by decide) (by decide)) dX15_count_115 (fun H locs hP hD hS => ?_)
                  obtain ⟨f_89, ef_89⟩ : ∃ z, z = (upd f_88 ((1 : Int32)).toNatClampNeg p1) := ⟨_, rfl⟩
                  have hP : va_P (dC, dI) vwCl [(xm, .inr (20, [.int 0, .int 0, .ref kn, .int 0, .int 0, .int 0, .ref ml, .ref cl, .ref rg, .ref tr, .ref (aK 0), .ref (aK 0), .ref fl, .int 0, .int 0, .int 0, .int 0, .int 0, .int 0, .int 0, .null])), (cl, .inr (4, [.int 0, .ref e0, .int 0])), (q_87, .inl (cI, 4, .inl f_89))] H := by rw [ef_89]; exact hP
                  have hD : va_D A [(xm, .inr (20, [.int 0, .int 0, .ref kn, .int 0, .int 0, .int 0, .ref ml, .ref cl, .ref rg, .ref tr, .ref (aK 0), .ref (aK 0), .ref fl, .int 0, .int 0, .int 0, .int 0, .int 0, .int 0, .int 0, .null])), (cl, .inr (4, [.int 0, .ref e0, .int 0])), (q_87, .inl (cI, 4, .inl f_89))] := by rw [ef_89]; exact hD
                  refine lv_dup hx hb dX15_count_116 rfl ?_
                  refine lv_iconst (v := 2) hx hb dX15_count_117 (by decide) ?_
                  refine lv_iload_n hx hb dX15_count_118 rfl (lv_at hl 4 rfl) ?_
                  refine va_iast hx hb hK hP hD hS 2 0 rfl rfl (show vp_in (nI 2) 4 from vp_in_nI (by decide) (by decide)) dX15_count_119 (fun H locs hP hD hS => ?_)
                  obtain ⟨f_90, ef_90⟩ : ∃ z, z = (upd f_89 ((2 : Int32)).toNatClampNeg p2) := ⟨_, rfl⟩
                  have hP : va_P (dC, dI) vwCl [(xm, .inr (20, [.int 0, .int 0, .ref kn, .int 0, .int 0, .int 0, .ref ml, .ref cl, .ref rg, .ref tr, .ref (aK 0), .ref (aK 0), .ref fl, .int 0, .int 0, .int 0, .int 0, .int 0, .int 0, .int 0, .null])), (cl, .inr (4, [.int 0, .ref e0, .int 0])), (q_87, .inl (cI, 4, .inl f_90))] H := by rw [ef_90]; exact hP
                  have hD : va_D A [(xm, .inr (20, [.int 0, .int 0, .ref kn, .int 0, .int 0, .int 0, .ref ml, .ref cl, .ref rg, .ref tr, .ref (aK 0), .ref (aK 0), .ref fl, .int 0, .int 0, .int 0, .int 0, .int 0, .int 0, .int 0, .null])), (cl, .inr (4, [.int 0, .ref e0, .int 0])), (q_87, .inl (cI, 4, .inl f_90))] := by rw [ef_90]; exact hD
                  refine lv_dup hx hb dX15_count_120 rfl ?_
                  refine lv_iconst (v := 3) hx hb dX15_count_121 (by decide) ?_
                  refine lv_iload hx hb dX15_count_122 (lv_at hl 5 rfl) ?_
                  refine va_iast hx hb hK hP hD hS 2 0 rfl rfl (show vp_in (nI 3) 4 from vp_in_nI (by decide) (by decide)) dX15_count_124 (fun H locs hP hD hS => ?_)
                  obtain ⟨f_91, ef_91⟩ : ∃ z, z = (upd f_90 ((3 : Int32)).toNatClampNeg p3) := ⟨_, rfl⟩
                  have hP : va_P (dC, dI) vwCl [(xm, .inr (20, [.int 0, .int 0, .ref kn, .int 0, .int 0, .int 0, .ref ml, .ref cl, .ref rg, .ref tr, .ref (aK 0), .ref (aK 0), .ref fl, .int 0, .int 0, .int 0, .int 0, .int 0, .int 0, .int 0, .null])), (cl, .inr (4, [.int 0, .ref e0, .int 0])), (q_87, .inl (cI, 4, .inl f_91))] H := by rw [ef_91]; exact hP
                  have hD : va_D A [(xm, .inr (20, [.int 0, .int 0, .ref kn, .int 0, .int 0, .int 0, .ref ml, .ref cl, .ref rg, .ref tr, .ref (aK 0), .ref (aK 0), .ref fl, .int 0, .int 0, .int 0, .int 0, .int 0, .int 0, .int 0, .null])), (cl, .inr (4, [.int 0, .ref e0, .int 0])), (q_87, .inl (cI, 4, .inl f_91))] := by rw [ef_91]; exact hD
                  have hPc := hP.sub (ws' := [(cl, .inr (4, [.int 0, .ref e0, .int 0])), (q_87, .inl (cI, 4, .inl f_91))]) [1, 2] rfl
                  have hDc := hD.sub (ws' := [(cl, .inr (4, [.int 0, .ref e0, .int 0])), (q_87, .inl (cI, 4, .inl f_91))]) [1, 2] (by decide) rfl
                  have hKc := hK.sub (tys' := [(cI, .int)]) [0] rfl
                  have hFc := va_free (wc := [(cl, .inr (4, [.int 0, .ref e0, .int 0])), (q_87, .inl (cI, 4, .inl f_91))]) hD hS hA [1, 2] rfl
                  refine va_calli (va_runV (As := [.ref q_87]) (rest := []) ⟨hx, hb, hml, hown, hts⟩ (c_Jx4a65c_add_9ea2d l dC dI e0 aK aV cI cl q_87 (.inl (cI, 4, .inl f_91)) "[I" ooH_ints 0 H.size) (cwV 1 hts gX15_count_Jx4a65c_add_9ea2d rfl rfl rfl (by decide +kernel) ⟨Nat.le_of_ble_eq_true rfl, Nat.le_of_ble_eq_true rfl⟩) (pcVz (zM_ok e0 aK aV) hPc hDc hKc hN hZ hS hFc (ci := 4) (q0 := 0) rfl rfl) rfl rfl hl.1 rfl (lv_room (Nat.le_of_ble_eq_true rfl)) dX15_count_125 ⟨Nat.le_of_ble_eq_true rfl, Nat.le_of_ble_eq_true rfl⟩) hS (fun q _ h => hFc q h) hFc (fun r_94 u t H1 locs ht hvm hw_95 hB hz1 hk1 hS => ?_)
                  obtain ⟨q_92, m_93⟩ := u
                  obtain ⟨hP1, hK1, hD1⟩ := hB
                  rw [ht] at hP1
                  try dsimp only at hw_95
                  obtain ⟨hP, hD⟩ := va_join (wr := [(xm, .inr (20, [.int 0, .int 0, .ref kn, .int 0, .int 0, .int 0, .ref ml, .ref cl, .ref rg, .ref tr, .ref (aK 0), .ref (aK 0), .ref fl, .int 0, .int 0, .int 0, .int 0, .int 0, .int 0, .int 0, .null]))]) (w1 := [(cl, .inr (4, [.int m_93, .ref q_92, .int 1])), (q_87, .inl (cI, 4, .inl f_91))]) hP hD [1, 2] [0] rfl rfl (by decide) (by decide) hk1 hFc hP1 hD1
                  generalize H1 = H at hP hS ⊢
                  have hP : va_P (dC, dI) vwCl [(xm, .inr (20, [.int 0, .int 0, .ref kn, .int 0, .int 0, .int 0, .ref ml, .ref cl, .ref rg, .ref tr, .ref (aK 0), .ref (aK 0), .ref fl, .int 0, .int 0, .int 0, .int 0, .int 0, .int 0, .int 0, .null])), (cl, .inr (4, [.int m_93, .ref q_92, .int 1])), (q_87, .inl (cI, 4, .inl f_91))] H := hP
                  have hD : va_D A [(xm, .inr (20, [.int 0, .int 0, .ref kn, .int 0, .int 0, .int 0, .ref ml, .ref cl, .ref rg, .ref tr, .ref (aK 0), .ref (aK 0), .ref fl, .int 0, .int 0, .int 0, .int 0, .int 0, .int 0, .int 0, .null])), (cl, .inr (4, [.int m_93, .ref q_92, .int 1])), (q_87, .inl (cI, 4, .inl f_91))] := hD
                  refine W.widen (k := 2) (n := 14) (Nat.le_of_ble_eq_true rfl) (Nat.le_of_ble_eq_true rfl) ?_
                  refine lv_pop hx hb dX15_count_128 rfl ?_
                  refine lv_aload_n hx hb dX15_count_129 rfl (lv_at hl 1 rfl) ?_
                  refine va_get (D := (dC, dI)) (ci := 20) (v := .ref cl) (C := RX15) (T := TX15) (N := 21) hx hb hts iWX15 hown hK hP 0 rfl rfl 7 (by decide) (hts (.fieldLink RX15 185 "BeaverhallModel" "counters" "Ljava/util/ArrayList;") (by decide +kernel)) (fun _ h9 => h9) rfl dX15_count_130 ?_
                  have hPc := hP.sub (ws' := [(cl, .inr (4, [.int m_93, .ref q_92, .int 1]))]) [1] rfl
                  have hDc := hD.sub (ws' := [(cl, .inr (4, [.int m_93, .ref q_92, .int 1]))]) [1] (by decide) rfl
                  have hKc := hK.sub (tys' := []) [] rfl
                  have hFc := va_free (wc := [(cl, .inr (4, [.int m_93, .ref q_92, .int 1]))]) hD hS hA [1] rfl
                  refine va_calli (va_runV (As := []) (rest := []) ⟨hx, hb, hml, hown, hts⟩ (c_Jx4a65c_size_8abf5 l dC dI cl q_92 m_93 1 H.size) (cwV 0 hts gX15_count_Jx4a65c_size_8abf5 rfl rfl rfl (by decide +kernel) ⟨Nat.le_of_ble_eq_true rfl, Nat.le_of_ble_eq_true rfl⟩) (pcV hPc hDc hKc hN (ci := 4) (q0 := 0) rfl rfl) rfl rfl hl.1 rfl (lv_room (Nat.le_of_ble_eq_true rfl)) dX15_count_133 ⟨Nat.le_of_ble_eq_true rfl, Nat.le_of_ble_eq_true rfl⟩) hS (fun q _ h => hFc q h) hFc (fun r_96 u t H1 locs ht hvm hw_97 hB hz1 hk1 hS => ?_)
                  obtain ⟨hP1, hK1, hD1⟩ := hB
                  rw [ht] at hP1
                  try dsimp only at hw_97
                  obtain ⟨hP, hD⟩ := va_join (wr := [(xm, .inr (20, [.int 0, .int 0, .ref kn, .int 0, .int 0, .int 0, .ref ml, .ref cl, .ref rg, .ref tr, .ref (aK 0), .ref (aK 0), .ref fl, .int 0, .int 0, .int 0, .int 0, .int 0, .int 0, .int 0, .null])), (q_87, .inl (cI, 4, .inl f_91))]) (w1 := [(cl, .inr (4, [.int m_93, .ref q_92, .int 1]))]) hP hD [1] [0, 2] rfl rfl (by decide) (by decide) hk1 hFc hP1 hD1
                  generalize H1 = H at hP hS ⊢
                  have hP : va_P (dC, dI) vwCl [(xm, .inr (20, [.int 0, .int 0, .ref kn, .int 0, .int 0, .int 0, .ref ml, .ref cl, .ref rg, .ref tr, .ref (aK 0), .ref (aK 0), .ref fl, .int 0, .int 0, .int 0, .int 0, .int 0, .int 0, .int 0, .null])), (q_87, .inl (cI, 4, .inl f_91)), (cl, .inr (4, [.int m_93, .ref q_92, .int 1]))] H := hP
                  have hD : va_D A [(xm, .inr (20, [.int 0, .int 0, .ref kn, .int 0, .int 0, .int 0, .ref ml, .ref cl, .ref rg, .ref tr, .ref (aK 0), .ref (aK 0), .ref fl, .int 0, .int 0, .int 0, .int 0, .int 0, .int 0, .int 0, .null])), (q_87, .inl (cI, 4, .inl f_91)), (cl, .inr (4, [.int m_93, .ref q_92, .int 1]))] := hD
                  subst hw_97
                  have hP9 := hP.sub (ws' := [(xm, .inr (20, [.int 0, .int 0, .ref kn, .int 0, .int 0, .int 0, .ref ml, .ref cl, .ref rg, .ref tr, .ref (aK 0), .ref (aK 0), .ref fl, .int 0, .int 0, .int 0, .int 0, .int 0, .int 0, .int 0, .null]))]) [0] rfl
                  have hD9 := hD.sub (ws' := [(xm, .inr (20, [.int 0, .int 0, .ref kn, .int 0, .int 0, .int 0, .ref ml, .ref cl, .ref rg, .ref tr, .ref (aK 0), .ref (aK 0), .ref fl, .int 0, .int 0, .int 0, .int 0, .int 0, .int 0, .int 0, .null]))]) [0] (by decide) rfl
                  have hK9 := hK.sub (tys' := [(cI, .int)]) [0] rfl
                  exact W.iret (v := 1) hx hb hr (fun t ht hW => ⟨⟨1, [.int 0, .int 0, .ref kn, .int 0, .int 0, .int 0, .ref ml, .ref cl, .ref rg, .ref tr, .ref (aK 0), .ref (aK 0), .ref fl, .int 0, .int 0, .int 0, .int 0, .int 0, .int 0, .int 0, .null], rfl, (Or.inl ⟨⟨(Or.inr c9_61), hn_71, hn_79, (Or.inl c39_80)⟩, rfl, rfl⟩), ⟨by rw [ht]; exact hP9, va_K.moved hW.alike hK9, hD9⟩⟩, hS.F ht⟩) hS.2.2 dX15_count_136
                · exact (c96_85 (by decide)).elim
              · exact absurd c81_84 (by decide)
            · exact absurd c65_81 (by decide)
          · refine lv_iload hx hb dX15_count_42 (lv_at hl 4 rfl) ?_
            refine lv_i2l hx hb dX15_count_44 rfl ?_
            refine lv_lconst (v := 0) hx hb dX15_count_45 (by decide) ?_
            refine lv_ldc2 (v := (12)) hx hb hown (hts (.constantLong RX15 356 (12)) (by decide +kernel)) dX15_count_46 ?_
            have hPc := hP.sub (ws' := []) [] rfl
            have hDc := hD.sub (ws' := []) [] (by decide) rfl
            have hKc := hK.sub (tys' := []) [] rfl
            have hFc := va_free (wc := []) hD hS hA [] rfl
            refine va_calli (va_runS (As := [.long p3.toInt64, .long 0, .long (12)]) (rest := []) ⟨hx, hb, hml, hown, hts⟩ (c_X15_in l dC dI p3.toInt64 0 (12) H.size) (va_cwS 3 hts gX15_count_X15_in rfl rfl rfl (by decide +kernel) ⟨Nat.le_of_ble_eq_true rfl, Nat.le_of_ble_eq_true rfl⟩) (pcS hPc hDc hKc hN) rfl rfl hl.1 rfl (lv_room (Nat.le_of_ble_eq_true rfl)) dX15_count_49 ⟨Nat.le_of_ble_eq_true rfl, Nat.le_of_ble_eq_true rfl⟩) hS (fun q _ h => hFc q h) hFc (fun r_98 u t H1 locs ht hvm hw_99 hB hz1 hk1 hS => ?_)
            obtain ⟨hP1, hK1, hD1⟩ := hB
            rw [ht] at hP1
            try dsimp only at hw_99
            obtain ⟨hP, hD⟩ := va_join (wr := [(xm, .inr (20, [.int 0, .int 0, .ref kn, .int 0, .int 0, .int 0, .ref ml, .ref cl, .ref rg, .ref tr, .ref (aK 0), .ref (aK 0), .ref fl, .int 0, .int 0, .int 0, .int 0, .int 0, .int 0, .int 0, .null])), (cl, .inr (4, [.int 0, .ref e0, .int 0]))]) (w1 := []) hP hD [] [0, 1] rfl rfl (by decide) (by decide) hk1 hFc hP1 hD1
            generalize H1 = H at hP hS ⊢
            have hP : va_P (dC, dI) vwCl [(xm, .inr (20, [.int 0, .int 0, .ref kn, .int 0, .int 0, .int 0, .ref ml, .ref cl, .ref rg, .ref tr, .ref (aK 0), .ref (aK 0), .ref fl, .int 0, .int 0, .int 0, .int 0, .int 0, .int 0, .int 0, .null])), (cl, .inr (4, [.int 0, .ref e0, .int 0]))] H := hP
            have hD : va_D A [(xm, .inr (20, [.int 0, .int 0, .ref kn, .int 0, .int 0, .int 0, .ref ml, .ref cl, .ref rg, .ref tr, .ref (aK 0), .ref (aK 0), .ref fl, .int 0, .int 0, .int 0, .int 0, .int 0, .int 0, .int 0, .null])), (cl, .inr (4, [.int 0, .ref e0, .int 0]))] := hD
            have hi_100 := in32 (0) (12) (by decide) (by decide) hw_99
            refine lv_if_eq (tgt := 59) hx hb dX15_count_52 (by decide) (fun c52_101 => ?_) (fun c52_101 => ?_)
            · have hn_102 := (hi_100).elim (fun h => absurd (h.1.symm.trans c52_101) (by decide)) (fun h => h.2)
              refine lv_iconst (v := 0) hx hb dX15_count_59 (by decide) ?_
              refine lv_istore (lv' := [(5, .int 0), (0, .ref xm), (1, .int p0), (2, .int p1), (3, .int p2), (4, .int p3)]) hx hb dX15_count_60 hl (by decide) rfl (fun ls hl => ?_)
              refine lv_aload_n hx hb dX15_count_62 rfl (lv_at hl 1 rfl) ?_
              refine lv_iload hx hb dX15_count_63 (lv_at hl 0 rfl) ?_
              refine lv_if_ne (tgt := 72) hx hb dX15_count_65 (by decide) (fun c65_103 => ?_) (fun c65_103 => ?_)
              · exact (c65_103 (by decide)).elim
              · refine lv_iconst (v := 1) hx hb dX15_count_68 (by decide) ?_
                refine lv_goto (tgt := 89) hx hb dX15_count_69 (by decide) ?_
                refine va_put (D := (dC, dI)) (ci := 20) (v := .int 1) (ty := .int) (C := RX15) (T := TX15) (N := 21) hx hb hts iWX15 tyX15 tyX15_ok nmX15 hown hK hP hD hS 0 rfl rfl 5 (by decide) (hts (.fieldLink RX15 209 "BeaverhallModel" "thrown" "I") (by decide +kernel)) (fun _ h9 => h9) rfl (by decide +kernel) rfl rfl (Nat.le_of_ble_eq_true rfl) dX15_count_89 (fun H locs hP hD hS => ?_)
                have hP : va_P (dC, dI) vwCl [(xm, .inr (20, [.int 0, .int 0, .ref kn, .int 0, .int 0, .int 1, .ref ml, .ref cl, .ref rg, .ref tr, .ref (aK 0), .ref (aK 0), .ref fl, .int 0, .int 0, .int 0, .int 0, .int 0, .int 0, .int 0, .null])), (cl, .inr (4, [.int 0, .ref e0, .int 0]))] H := hP
                have hD : va_D A [(xm, .inr (20, [.int 0, .int 0, .ref kn, .int 0, .int 0, .int 1, .ref ml, .ref cl, .ref rg, .ref tr, .ref (aK 0), .ref (aK 0), .ref fl, .int 0, .int 0, .int 0, .int 0, .int 0, .int 0, .int 0, .null])), (cl, .inr (4, [.int 0, .ref e0, .int 0]))] := hD
                refine lv_aload_n hx hb dX15_count_92 rfl (lv_at hl 1 rfl) ?_
                refine va_get (D := (dC, dI)) (ci := 20) (v := .int 1) (C := RX15) (T := TX15) (N := 21) hx hb hts iWX15 hown hK hP 0 rfl rfl 5 (by decide) (hts (.fieldLink RX15 209 "BeaverhallModel" "thrown" "I") (by decide +kernel)) (fun _ h9 => h9) rfl dX15_count_93 ?_
                refine lv_if_le (tgt := 101) hx hb dX15_count_96 (by decide) (fun c96_104 => ?_) (fun c96_104 => ?_)
                · exact absurd c96_104 (by decide)
                · refine lv_iconst (v := 0) hx hb dX15_count_99 (by decide) ?_
                  have hP9 := hP.sub (ws' := [(xm, .inr (20, [.int 0, .int 0, .ref kn, .int 0, .int 0, .int 1, .ref ml, .ref cl, .ref rg, .ref tr, .ref (aK 0), .ref (aK 0), .ref fl, .int 0, .int 0, .int 0, .int 0, .int 0, .int 0, .int 0, .null]))]) [0] rfl
                  have hD9 := hD.sub (ws' := [(xm, .inr (20, [.int 0, .int 0, .ref kn, .int 0, .int 0, .int 1, .ref ml, .ref cl, .ref rg, .ref tr, .ref (aK 0), .ref (aK 0), .ref fl, .int 0, .int 0, .int 0, .int 0, .int 0, .int 0, .int 0, .null]))]) [0] (by decide) rfl
                  have hK9 := hK.sub (tys' := [(cI, .int)]) [0] rfl
                  refine W.widen (k := 2) (n := 14) (Nat.le_of_ble_eq_true rfl) (Nat.le_of_ble_eq_true rfl) ?_
                  exact W.iret (v := 0) hx hb hr (fun t ht hW => ⟨⟨0, [.int 0, .int 0, .ref kn, .int 0, .int 0, .int 1, .ref ml, .ref cl, .ref rg, .ref tr, .ref (aK 0), .ref (aK 0), .ref fl, .int 0, .int 0, .int 0, .int 0, .int 0, .int 0, .int 0, .null], rfl, (Or.inr ⟨(fun h9 => (fun h9 => h9.elim c39_80 hn_102) h9.2.2.2), rfl⟩), ⟨by rw [ht]; exact hP9, va_K.moved hW.alike hK9, hD9⟩⟩, hS.F ht⟩) hS.2.2 dX15_count_100
            · have hn_105 := (hi_100).elim (fun h => h.2) (fun h => absurd h.1 c52_101)
              refine lv_iconst (v := 1) hx hb dX15_count_55 (by decide) ?_
              refine lv_goto (tgt := 60) hx hb dX15_count_56 (by decide) ?_
              refine lv_istore (lv' := [(5, .int 1), (0, .ref xm), (1, .int p0), (2, .int p1), (3, .int p2), (4, .int p3)]) hx hb dX15_count_60 hl (by decide) rfl (fun ls hl => ?_)
              refine lv_aload_n hx hb dX15_count_62 rfl (lv_at hl 1 rfl) ?_
              refine lv_iload hx hb dX15_count_63 (lv_at hl 0 rfl) ?_
              refine lv_if_ne (tgt := 72) hx hb dX15_count_65 (by decide) (fun c65_106 => ?_) (fun c65_106 => ?_)
              · refine lv_aload_n hx hb dX15_count_72 rfl (lv_at hl 1 rfl) ?_
                refine va_get (D := (dC, dI)) (ci := 20) (v := .ref cl) (C := RX15) (T := TX15) (N := 21) hx hb hts iWX15 hown hK hP 0 rfl rfl 7 (by decide) (hts (.fieldLink RX15 185 "BeaverhallModel" "counters" "Ljava/util/ArrayList;") (by decide +kernel)) (fun _ h9 => h9) rfl dX15_count_73 ?_
                have hPc := hP.sub (ws' := [(cl, .inr (4, [.int 0, .ref e0, .int 0]))]) [1] rfl
                have hDc := hD.sub (ws' := [(cl, .inr (4, [.int 0, .ref e0, .int 0]))]) [1] (by decide) rfl
                have hKc := hK.sub (tys' := []) [] rfl
                have hFc := va_free (wc := [(cl, .inr (4, [.int 0, .ref e0, .int 0]))]) hD hS hA [1] rfl
                refine va_calli (va_runV (As := []) (rest := [.ref xm]) ⟨hx, hb, hml, hown, hts⟩ (c_Jx4a65c_size_8abf5 l dC dI cl e0 0 0 H.size) (cwV 0 hts gX15_count_Jx4a65c_size_8abf5 rfl rfl rfl (by decide +kernel) ⟨Nat.le_of_ble_eq_true rfl, Nat.le_of_ble_eq_true rfl⟩) (pcV hPc hDc hKc hN (ci := 4) (q0 := 0) rfl rfl) rfl rfl hl.1 rfl (lv_room (Nat.le_of_ble_eq_true rfl)) dX15_count_76 ⟨Nat.le_of_ble_eq_true rfl, Nat.le_of_ble_eq_true rfl⟩) hS (fun q _ h => hFc q h) hFc (fun r_107 u t H1 locs ht hvm hw_108 hB hz1 hk1 hS => ?_)
                obtain ⟨hP1, hK1, hD1⟩ := hB
                rw [ht] at hP1
                try dsimp only at hw_108
                obtain ⟨hP, hD⟩ := va_join (wr := [(xm, .inr (20, [.int 0, .int 0, .ref kn, .int 0, .int 0, .int 0, .ref ml, .ref cl, .ref rg, .ref tr, .ref (aK 0), .ref (aK 0), .ref fl, .int 0, .int 0, .int 0, .int 0, .int 0, .int 0, .int 0, .null]))]) (w1 := [(cl, .inr (4, [.int 0, .ref e0, .int 0]))]) hP hD [1] [0] rfl rfl (by decide) (by decide) hk1 hFc hP1 hD1
                generalize H1 = H at hP hS ⊢
                have hP : va_P (dC, dI) vwCl [(xm, .inr (20, [.int 0, .int 0, .ref kn, .int 0, .int 0, .int 0, .ref ml, .ref cl, .ref rg, .ref tr, .ref (aK 0), .ref (aK 0), .ref fl, .int 0, .int 0, .int 0, .int 0, .int 0, .int 0, .int 0, .null])), (cl, .inr (4, [.int 0, .ref e0, .int 0]))] H := hP
                have hD : va_D A [(xm, .inr (20, [.int 0, .int 0, .ref kn, .int 0, .int 0, .int 0, .ref ml, .ref cl, .ref rg, .ref tr, .ref (aK 0), .ref (aK 0), .ref fl, .int 0, .int 0, .int 0, .int 0, .int 0, .int 0, .int 0, .null])), (cl, .inr (4, [.int 0, .ref e0, .int 0]))] := hD
                subst hw_108
                refine lv_bipush (v := 12) hx hb dX15_count_79 (by decide) ?_
                refine lv_icmp_ne (tgt := 88) hx hb dX15_count_81 (by decide) (fun c81_109 => ?_) (fun c81_109 => ?_)
                · refine lv_iconst (v := 0) hx hb dX15_count_88 (by decide) ?_
                  refine va_put (D := (dC, dI)) (ci := 20) (v := .int 0) (ty := .int) (C := RX15) (T := TX15) (N := 21) hx hb hts iWX15 tyX15 tyX15_ok nmX15 hown hK hP hD hS 0 rfl rfl 5 (by decide) (hts (.fieldLink RX15 209 "BeaverhallModel" "thrown" "I") (by decide +kernel)) (fun _ h9 => h9) rfl (by decide +kernel) rfl rfl (Nat.le_of_ble_eq_true rfl) dX15_count_89 (fun H locs hP hD hS => ?_)
                  have hP : va_P (dC, dI) vwCl [(xm, .inr (20, [.int 0, .int 0, .ref kn, .int 0, .int 0, .int 0, .ref ml, .ref cl, .ref rg, .ref tr, .ref (aK 0), .ref (aK 0), .ref fl, .int 0, .int 0, .int 0, .int 0, .int 0, .int 0, .int 0, .null])), (cl, .inr (4, [.int 0, .ref e0, .int 0]))] H := hP
                  have hD : va_D A [(xm, .inr (20, [.int 0, .int 0, .ref kn, .int 0, .int 0, .int 0, .ref ml, .ref cl, .ref rg, .ref tr, .ref (aK 0), .ref (aK 0), .ref fl, .int 0, .int 0, .int 0, .int 0, .int 0, .int 0, .int 0, .null])), (cl, .inr (4, [.int 0, .ref e0, .int 0]))] := hD
                  refine lv_aload_n hx hb dX15_count_92 rfl (lv_at hl 1 rfl) ?_
                  refine va_get (D := (dC, dI)) (ci := 20) (v := .int 0) (C := RX15) (T := TX15) (N := 21) hx hb hts iWX15 hown hK hP 0 rfl rfl 5 (by decide) (hts (.fieldLink RX15 209 "BeaverhallModel" "thrown" "I") (by decide +kernel)) (fun _ h9 => h9) rfl dX15_count_93 ?_
                  refine lv_if_le (tgt := 101) hx hb dX15_count_96 (by decide) (fun c96_110 => ?_) (fun c96_110 => ?_)
                  · refine lv_aload_n hx hb dX15_count_101 rfl (lv_at hl 1 rfl) ?_
                    refine va_get (D := (dC, dI)) (ci := 20) (v := .ref cl) (C := RX15) (T := TX15) (N := 21) hx hb hts iWX15 hown hK hP 0 rfl rfl 7 (by decide) (hts (.fieldLink RX15 185 "BeaverhallModel" "counters" "Ljava/util/ArrayList;") (by decide +kernel)) (fun _ h9 => h9) rfl dX15_count_102 ?_
                    refine lv_iconst (v := 4) hx hb dX15_count_105 (by decide) ?_
                    refine va_newa (atype := .int) (ty := .int) (a0 := (4, .inl (fun _ => 0))) (N' := 4) hx hb (hts (.arrayClass .int) (by decide +kernel)) rfl hK hP hD hS hA (fun _ => rfl) (by decide) (by decide) (Nat.le_of_ble_eq_true rfl) (Nat.le_of_ble_eq_true rfl) (Nat.le_of_ble_eq_true rfl) dX15_count_106 (fun q_112 cA_111 H hK hP hD hS => ?_)
                    have ecA_111 : cI = cA_111 := cA_one hK (i := 0) (j := 1) rfl rfl
                    subst ecA_111
                    have hK := hK.sub (tys' := [(cI, .int)]) [0] rfl
                    have hP : va_P (dC, dI) vwCl [(xm, .inr (20, [.int 0, .int 0, .ref kn, .int 0, .int 0, .int 0, .ref ml, .ref cl, .ref rg, .ref tr, .ref (aK 0), .ref (aK 0), .ref fl, .int 0, .int 0, .int 0, .int 0, .int 0, .int 0, .int 0, .null])), (cl, .inr (4, [.int 0, .ref e0, .int 0])), (q_112, .inl (cI, 4, .inl (fun _ => 0)))] H := hP
                    have hD : va_D A [(xm, .inr (20, [.int 0, .int 0, .ref kn, .int 0, .int 0, .int 0, .ref ml, .ref cl, .ref rg, .ref tr, .ref (aK 0), .ref (aK 0), .ref fl, .int 0, .int 0, .int 0, .int 0, .int 0, .int 0, .int 0, .null])), (cl, .inr (4, [.int 0, .ref e0, .int 0])), (q_112, .inl (cI, 4, .inl (fun _ => 0)))] := hD
                    refine W.widen (k := 1) (n := 4) (Nat.le_of_ble_eq_true rfl) (Nat.le_of_ble_eq_true rfl) ?_
                    refine lv_dup hx hb dX15_count_108 rfl ?_
                    refine lv_iconst (v := 0) hx hb dX15_count_109 (by decide) ?_
                    refine lv_iload_n hx hb dX15_count_110 rfl (lv_at hl 2 rfl) ?_
                    refine va_iast hx hb hK hP hD hS 2 0 rfl rfl (show vp_in (nI 0) 4 from vp_in_nI (by decide) (by decide)) dX15_count_111 (fun H locs hP hD hS => ?_)
                    obtain ⟨f_113, ef_113⟩ : ∃ z, z = (upd (fun _ => 0) ((0 : Int32)).toNatClampNeg p0) := ⟨_, rfl⟩
                    have hP : va_P (dC, dI) vwCl [(xm, .inr (20, [.int 0, .int 0, .ref kn, .int 0, .int 0, .int 0, .ref ml, .ref cl, .ref rg, .ref tr, .ref (aK 0), .ref (aK 0), .ref fl, .int 0, .int 0, .int 0, .int 0, .int 0, .int 0, .int 0, .null])), (cl, .inr (4, [.int 0, .ref e0, .int 0])), (q_112, .inl (cI, 4, .inl f_113))] H := by rw [ef_113]; exact hP
                    have hD : va_D A [(xm, .inr (20, [.int 0, .int 0, .ref kn, .int 0, .int 0, .int 0, .ref ml, .ref cl, .ref rg, .ref tr, .ref (aK 0), .ref (aK 0), .ref fl, .int 0, .int 0, .int 0, .int 0, .int 0, .int 0, .int 0, .null])), (cl, .inr (4, [.int 0, .ref e0, .int 0])), (q_112, .inl (cI, 4, .inl f_113))] := by rw [ef_113]; exact hD
                    refine lv_dup hx hb dX15_count_112 rfl ?_
                    refine lv_iconst (v := 1) hx hb dX15_count_113 (by decide) ?_
                    refine lv_iload_n hx hb dX15_count_114 rfl (lv_at hl 3 rfl) ?_
                    refine va_iast hx hb hK hP hD hS 2 0 rfl rfl (show vp_in (nI 1) 4 from vp_in_nI (by decide) (by decide)) dX15_count_115 (fun H locs hP hD hS => ?_)
                    obtain ⟨f_114, ef_114⟩ : ∃ z, z = (upd f_113 ((1 : Int32)).toNatClampNeg p1) := ⟨_, rfl⟩
                    have hP : va_P (dC, dI) vwCl [(xm, .inr (20, [.int 0, .int 0, .ref kn, .int 0, .int 0, .int 0, .ref ml, .ref cl, .ref rg, .ref tr, .ref (aK 0), .ref (aK 0), .ref fl, .int 0, .int 0, .int 0, .int 0, .int 0, .int 0, .int 0, .null])), (cl, .inr (4, [.int 0, .ref e0, .int 0])), (q_112, .inl (cI, 4, .inl f_114))] H := by rw [ef_114]; exact hP
                    have hD : va_D A [(xm, .inr (20, [.int 0, .int 0, .ref kn, .int 0, .int 0, .int 0, .ref ml, .ref cl, .ref rg, .ref tr, .ref (aK 0), .ref (aK 0), .ref fl, .int 0, .int 0, .int 0, .int 0, .int 0, .int 0, .int 0, .null])), (cl, .inr (4, [.int 0, .ref e0, .int 0])), (q_112, .inl (cI, 4, .inl f_114))] := by rw [ef_114]; exact hD
                    refine lv_dup hx hb dX15_count_116 rfl ?_
                    refine lv_iconst (v := 2) hx hb dX15_count_117 (by decide) ?_
                    refine lv_iload_n hx hb dX15_count_118 rfl (lv_at hl 4 rfl) ?_
                    refine va_iast hx hb hK hP hD hS 2 0 rfl rfl (show vp_in (nI 2) 4 from vp_in_nI (by decide) (by decide)) dX15_count_119 (fun H locs hP hD hS => ?_)
                    obtain ⟨f_115, ef_115⟩ : ∃ z, z = (upd f_114 ((2 : Int32)).toNatClampNeg p2) := ⟨_, rfl⟩
                    have hP : va_P (dC, dI) vwCl [(xm, .inr (20, [.int 0, .int 0, .ref kn, .int 0, .int 0, .int 0, .ref ml, .ref cl, .ref rg, .ref tr, .ref (aK 0), .ref (aK 0), .ref fl, .int 0, .int 0, .int 0, .int 0, .int 0, .int 0, .int 0, .null])), (cl, .inr (4, [.int 0, .ref e0, .int 0])), (q_112, .inl (cI, 4, .inl f_115))] H := by rw [ef_115]; exact hP
                    have hD : va_D A [(xm, .inr (20, [.int 0, .int 0, .ref kn, .int 0, .int 0, .int 0, .ref ml, .ref cl, .ref rg, .ref tr, .ref (aK 0), .ref (aK 0), .ref fl, .int 0, .int 0, .int 0, .int 0, .int 0, .int 0, .int 0, .null])), (cl, .inr (4, [.int 0, .ref e0, .int 0])), (q_112, .inl (cI, 4, .inl f_115))] := by rw [ef_115]; exact hD
                    refine lv_dup hx hb dX15_count_120 rfl ?_
                    refine lv_iconst (v := 3) hx hb dX15_count_121 (by decide) ?_
                    refine lv_iload hx hb dX15_count_122 (lv_at hl 5 rfl) ?_
                    refine va_iast hx hb hK hP hD hS 2 0 rfl rfl (show vp_in (nI 3) 4 from vp_in_nI (by decide) (by decide)) dX15_count_124 (fun H locs hP hD hS => ?_)
                    obtain ⟨f_116, ef_116⟩ : ∃ z, z = (upd f_115 ((3 : Int32)).toNatClampNeg p3) := ⟨_, rfl⟩
                    have hP : va_P (dC, dI) vwCl [(xm, .inr (20, [.int 0, .int 0, .ref kn, .int 0, .int 0, .int 0, .ref ml, .ref cl, .ref rg, .ref tr, .ref (aK 0), .ref (aK 0), .ref fl, .int 0, .int 0, .int 0, .int 0, .int 0, .int 0, .int 0, .null])), (cl, .inr (4, [.int 0, .ref e0, .int 0])), (q_112, .inl (cI, 4, .inl f_116))] H := by rw [ef_116]; exact hP
                    have hD : va_D A [(xm, .inr (20, [.int 0, .int 0, .ref kn, .int 0, .int 0, .int 0, .ref ml, .ref cl, .ref rg, .ref tr, .ref (aK 0), .ref (aK 0), .ref fl, .int 0, .int 0, .int 0, .int 0, .int 0, .int 0, .int 0, .null])), (cl, .inr (4, [.int 0, .ref e0, .int 0])), (q_112, .inl (cI, 4, .inl f_116))] := by rw [ef_116]; exact hD
                    have hPc := hP.sub (ws' := [(cl, .inr (4, [.int 0, .ref e0, .int 0])), (q_112, .inl (cI, 4, .inl f_116))]) [1, 2] rfl
                    have hDc := hD.sub (ws' := [(cl, .inr (4, [.int 0, .ref e0, .int 0])), (q_112, .inl (cI, 4, .inl f_116))]) [1, 2] (by decide) rfl
                    have hKc := hK.sub (tys' := [(cI, .int)]) [0] rfl
                    have hFc := va_free (wc := [(cl, .inr (4, [.int 0, .ref e0, .int 0])), (q_112, .inl (cI, 4, .inl f_116))]) hD hS hA [1, 2] rfl
                    refine va_calli (va_runV (As := [.ref q_112]) (rest := []) ⟨hx, hb, hml, hown, hts⟩ (c_Jx4a65c_add_9ea2d l dC dI e0 aK aV cI cl q_112 (.inl (cI, 4, .inl f_116)) "[I" ooH_ints 0 H.size) (cwV 1 hts gX15_count_Jx4a65c_add_9ea2d rfl rfl rfl (by decide +kernel) ⟨Nat.le_of_ble_eq_true rfl, Nat.le_of_ble_eq_true rfl⟩) (pcVz (zM_ok e0 aK aV) hPc hDc hKc hN hZ hS hFc (ci := 4) (q0 := 0) rfl rfl) rfl rfl hl.1 rfl (lv_room (Nat.le_of_ble_eq_true rfl)) dX15_count_125 ⟨Nat.le_of_ble_eq_true rfl, Nat.le_of_ble_eq_true rfl⟩) hS (fun q _ h => hFc q h) hFc (fun r_119 u t H1 locs ht hvm hw_120 hB hz1 hk1 hS => ?_)
                    obtain ⟨q_117, m_118⟩ := u
                    obtain ⟨hP1, hK1, hD1⟩ := hB
                    rw [ht] at hP1
                    try dsimp only at hw_120
                    obtain ⟨hP, hD⟩ := va_join (wr := [(xm, .inr (20, [.int 0, .int 0, .ref kn, .int 0, .int 0, .int 0, .ref ml, .ref cl, .ref rg, .ref tr, .ref (aK 0), .ref (aK 0), .ref fl, .int 0, .int 0, .int 0, .int 0, .int 0, .int 0, .int 0, .null]))]) (w1 := [(cl, .inr (4, [.int m_118, .ref q_117, .int 1])), (q_112, .inl (cI, 4, .inl f_116))]) hP hD [1, 2] [0] rfl rfl (by decide) (by decide) hk1 hFc hP1 hD1
                    generalize H1 = H at hP hS ⊢
                    have hP : va_P (dC, dI) vwCl [(xm, .inr (20, [.int 0, .int 0, .ref kn, .int 0, .int 0, .int 0, .ref ml, .ref cl, .ref rg, .ref tr, .ref (aK 0), .ref (aK 0), .ref fl, .int 0, .int 0, .int 0, .int 0, .int 0, .int 0, .int 0, .null])), (cl, .inr (4, [.int m_118, .ref q_117, .int 1])), (q_112, .inl (cI, 4, .inl f_116))] H := hP
                    have hD : va_D A [(xm, .inr (20, [.int 0, .int 0, .ref kn, .int 0, .int 0, .int 0, .ref ml, .ref cl, .ref rg, .ref tr, .ref (aK 0), .ref (aK 0), .ref fl, .int 0, .int 0, .int 0, .int 0, .int 0, .int 0, .int 0, .null])), (cl, .inr (4, [.int m_118, .ref q_117, .int 1])), (q_112, .inl (cI, 4, .inl f_116))] := hD
                    refine W.widen (k := 2) (n := 14) (Nat.le_of_ble_eq_true rfl) (Nat.le_of_ble_eq_true rfl) ?_
                    refine lv_pop hx hb dX15_count_128 rfl ?_
                    refine lv_aload_n hx hb dX15_count_129 rfl (lv_at hl 1 rfl) ?_
                    refine va_get (D := (dC, dI)) (ci := 20) (v := .ref cl) (C := RX15) (T := TX15) (N := 21) hx hb hts iWX15 hown hK hP 0 rfl rfl 7 (by decide) (hts (.fieldLink RX15 185 "BeaverhallModel" "counters" "Ljava/util/ArrayList;") (by decide +kernel)) (fun _ h9 => h9) rfl dX15_count_130 ?_
                    have hPc := hP.sub (ws' := [(cl, .inr (4, [.int m_118, .ref q_117, .int 1]))]) [1] rfl
                    have hDc := hD.sub (ws' := [(cl, .inr (4, [.int m_118, .ref q_117, .int 1]))]) [1] (by decide) rfl
                    have hKc := hK.sub (tys' := []) [] rfl
                    have hFc := va_free (wc := [(cl, .inr (4, [.int m_118, .ref q_117, .int 1]))]) hD hS hA [1] rfl
                    refine va_calli (va_runV (As := []) (rest := []) ⟨hx, hb, hml, hown, hts⟩ (c_Jx4a65c_size_8abf5 l dC dI cl q_117 m_118 1 H.size) (cwV 0 hts gX15_count_Jx4a65c_size_8abf5 rfl rfl rfl (by decide +kernel) ⟨Nat.le_of_ble_eq_true rfl, Nat.le_of_ble_eq_true rfl⟩) (pcV hPc hDc hKc hN (ci := 4) (q0 := 0) rfl rfl) rfl rfl hl.1 rfl (lv_room (Nat.le_of_ble_eq_true rfl)) dX15_count_133 ⟨Nat.le_of_ble_eq_true rfl, Nat.le_of_ble_eq_true rfl⟩) hS (fun q _ h => hFc q h) hFc (fun r_121 u t H1 locs ht hvm hw_122 hB hz1 hk1 hS => ?_)
                    obtain ⟨hP1, hK1, hD1⟩ := hB
                    rw [ht] at hP1
                    try dsimp only at hw_122
                    obtain ⟨hP, hD⟩ := va_join (wr := [(xm, .inr (20, [.int 0, .int 0, .ref kn, .int 0, .int 0, .int 0, .ref ml, .ref cl, .ref rg, .ref tr, .ref (aK 0), .ref (aK 0), .ref fl, .int 0, .int 0, .int 0, .int 0, .int 0, .int 0, .int 0, .null])), (q_112, .inl (cI, 4, .inl f_116))]) (w1 := [(cl, .inr (4, [.int m_118, .ref q_117, .int 1]))]) hP hD [1] [0, 2] rfl rfl (by decide) (by decide) hk1 hFc hP1 hD1
                    generalize H1 = H at hP hS ⊢
                    have hP : va_P (dC, dI) vwCl [(xm, .inr (20, [.int 0, .int 0, .ref kn, .int 0, .int 0, .int 0, .ref ml, .ref cl, .ref rg, .ref tr, .ref (aK 0), .ref (aK 0), .ref fl, .int 0, .int 0, .int 0, .int 0, .int 0, .int 0, .int 0, .null])), (q_112, .inl (cI, 4, .inl f_116)), (cl, .inr (4, [.int m_118, .ref q_117, .int 1]))] H := hP
                    have hD : va_D A [(xm, .inr (20, [.int 0, .int 0, .ref kn, .int 0, .int 0, .int 0, .ref ml, .ref cl, .ref rg, .ref tr, .ref (aK 0), .ref (aK 0), .ref fl, .int 0, .int 0, .int 0, .int 0, .int 0, .int 0, .int 0, .null])), (q_112, .inl (cI, 4, .inl f_116)), (cl, .inr (4, [.int m_118, .ref q_117, .int 1]))] := hD
                    subst hw_122
                    have hP9 := hP.sub (ws' := [(xm, .inr (20, [.int 0, .int 0, .ref kn, .int 0, .int 0, .int 0, .ref ml, .ref cl, .ref rg, .ref tr, .ref (aK 0), .ref (aK 0), .ref fl, .int 0, .int 0, .int 0, .int 0, .int 0, .int 0, .int 0, .null]))]) [0] rfl
                    have hD9 := hD.sub (ws' := [(xm, .inr (20, [.int 0, .int 0, .ref kn, .int 0, .int 0, .int 0, .ref ml, .ref cl, .ref rg, .ref tr, .ref (aK 0), .ref (aK 0), .ref fl, .int 0, .int 0, .int 0, .int 0, .int 0, .int 0, .int 0, .null]))]) [0] (by decide) rfl
                    have hK9 := hK.sub (tys' := [(cI, .int)]) [0] rfl
                    exact W.iret (v := 1) hx hb hr (fun t ht hW => ⟨⟨1, [.int 0, .int 0, .ref kn, .int 0, .int 0, .int 0, .ref ml, .ref cl, .ref rg, .ref tr, .ref (aK 0), .ref (aK 0), .ref fl, .int 0, .int 0, .int 0, .int 0, .int 0, .int 0, .int 0, .null], rfl, (Or.inl ⟨⟨(Or.inr c9_61), hn_71, hn_79, (Or.inr hn_105)⟩, rfl, rfl⟩), ⟨by rw [ht]; exact hP9, va_K.moved hW.alike hK9, hD9⟩⟩, hS.F ht⟩) hS.2.2 dX15_count_136
                  · exact (c96_110 (by decide)).elim
                · exact absurd c81_109 (by decide)
              · exact absurd c65_106 (by decide)

set_option maxHeartbeats 4000000 in
set_option maxRecDepth 100000 in
/-- X15_register -/
theorem c_X15_register (l : Launch) (dC : Nat → ClassId) (dI : Nat → Nat → Nat) (xm ml cl fl kn rg tr : Nat) (e0 : Nat) (aK aV : Nat → Nat) (cI : ClassId) (p0 : Int32) (sz : Nat) : Met l yX15_register wsX15_register ({ frames := 1, cells := 0, slots := 0, locals := 40 }) (va_Pc [.ref xm, .int p0] (cPC dC dI [(xm, .inr (20, [.int 0, .int 0, .ref kn, .int 0, .int 0, .int 0, .ref ml, .ref cl, .ref rg, .ref tr, .ref (aK 0), .ref (aK 0), .ref fl, .int 0, .int 0, .int 0, .int 0, .int 0, .int 0, .int 0, .null])), (rg, .inl (cI, 4, .inl (fun _ => 0)))] [(cI, .int)] sz)) (va_Qi (fun (r : Int32) (u : List Value) => (pReg p0 ∧ u[5]? = some (.int 0) ∧ r = 0) ∨ (¬ pReg p0 ∧ u[5]? = some (.int 1))) (fun (u : List Value) t => cQB dC dI [(xm, .inr (20, u))] [(cI, .int)] (va_A [(xm, .inr (20, [.int 0, .int 0, .ref kn, .int 0, .int 0, .int 0, .ref ml, .ref cl, .ref rg, .ref tr, .ref (aK 0), .ref (aK 0), .ref fl, .int 0, .int 0, .int 0, .int 0, .int 0, .int 0, .int 0, .null])), (rg, .inl (cI, 4, .inl (fun _ => 0)))] sz) t) (va_A [(xm, .inr (20, [.int 0, .int 0, .ref kn, .int 0, .int 0, .int 0, .ref ml, .ref cl, .ref rg, .ref tr, .ref (aK 0), .ref (aK 0), .ref fl, .int 0, .int 0, .int 0, .int 0, .int 0, .int 0, .int 0, .null])), (rg, .inl (cI, 4, .inl (fun _ => 0)))] sz)) 0 0 (va_A [(xm, .inr (20, [.int 0, .int 0, .ref kn, .int 0, .int 0, .int 0, .ref ml, .ref cl, .ref rg, .ref tr, .ref (aK 0), .ref (aK 0), .ref fl, .int 0, .int 0, .int 0, .int 0, .int 0, .int 0, .int 0, .null])), (rg, .inl (cI, 4, .inl (fun _ => 0)))] sz) := by
  refine Met.ofW (cc := cX15_register) (maxL := 2) (ret := (some .int)) (by decide) rfl ?_
  intro p e s m args below meth c s₁ B hml hv
  obtain ⟨rfl, hsz, hP, hK, hD0, hN⟩ := hv
  have hx := B.exec
  have hb := B.bytes
  have hr := B.returns
  have hts := atoms_spec (ws := wsX15_register) B.pre
  have hown : s.vm.findClass RX15 = some m.cls := findClass_of_methodNamed B.named
  have hlocks := B.notSynchronized
  subst hsz
  have hD := hD0.self (sz := s.heap.size)
  generalize hAe : va_A [(xm, .inr (20, [.int 0, .int 0, .ref kn, .int 0, .int 0, .int 0, .ref ml, .ref cl, .ref rg, .ref tr, .ref (aK 0), .ref (aK 0), .ref fl, .int 0, .int 0, .int 0, .int 0, .int 0, .int 0, .int 0, .null])), (rg, .inl (cI, 4, .inl (fun _ => 0)))] s.heap.size = A at hD ⊢
  have hA : ∀ q : Nat, s.heap.size ≤ q → A q := fun q h => by rw [← hAe]; exact Or.inr h
  have hS : va_S A s.heap s.heap [] := va_S.rf
  have hP : va_P (dC, dI) vwCl [(xm, .inr (20, [.int 0, .int 0, .ref kn, .int 0, .int 0, .int 0, .ref ml, .ref cl, .ref rg, .ref tr, .ref (aK 0), .ref (aK 0), .ref fl, .int 0, .int 0, .int 0, .int 0, .int 0, .int 0, .int 0, .null])), (rg, .inl (cI, 4, .inl (fun _ => 0)))] s.heap := hP
  have hD : va_D A [(xm, .inr (20, [.int 0, .int 0, .ref kn, .int 0, .int 0, .int 0, .ref ml, .ref cl, .ref rg, .ref tr, .ref (aK 0), .ref (aK 0), .ref fl, .int 0, .int 0, .int 0, .int 0, .int 0, .int 0, .int 0, .null])), (rg, .inl (cI, 4, .inl (fun _ => 0)))] := hD
  have hl := lv_entry ([.ref xm, .int p0]) (n := 2) (Nat.le_of_ble_eq_true rfl)
  rw [lg_entry_eq]
  generalize (lg_sl ([.ref xm, .int p0]) ++ List.replicate (2 - (lg_sl ([.ref xm, .int p0])).length) Slot.unset).toArray = ls at hl ⊢
  have hl : lv_has ls 2 [(0, .ref xm), (1, .int p0)] := hl
  have iWX15 : ∀ w ∈ u_ws RX15 TX15 21, w ∈ wsX15_register := by decide +kernel
  refine lv_aload_n hx hb dX15_register_0 rfl (lv_at hl 0 rfl) ?_
  refine lv_iload_n hx hb dX15_register_1 rfl (lv_at hl 1 rfl) ?_
  refine lv_i2l hx hb dX15_register_2 rfl ?_
  refine lv_lconst (v := 0) hx hb dX15_register_3 (by decide) ?_
  refine lv_ldc2 (v := (3)) hx hb hown (hts (.constantLong RX15 337 (3)) (by decide +kernel)) dX15_register_4 ?_
  have hPc := hP.sub (ws' := []) [] rfl
  have hDc := hD.sub (ws' := []) [] (by decide) rfl
  have hKc := hK.sub (tys' := []) [] rfl
  have hFc := va_free (wc := []) hD hS hA [] rfl
  refine va_calli (va_runS (As := [.long p0.toInt64, .long 0, .long (3)]) (rest := [.ref xm]) ⟨hx, hb, hml, hown, hts⟩ (c_X15_in l dC dI p0.toInt64 0 (3) s.heap.size) (va_cwS 3 hts gX15_register_X15_in rfl rfl rfl (by decide +kernel) ⟨Nat.le_of_ble_eq_true rfl, Nat.le_of_ble_eq_true rfl⟩) (pcS hPc hDc hKc hN) rfl rfl hl.1 rfl (lv_room (Nat.le_of_ble_eq_true rfl)) dX15_register_7 ⟨Nat.le_of_ble_eq_true rfl, Nat.le_of_ble_eq_true rfl⟩) hS (fun q _ h => hFc q h) hFc (fun r_1 u t H1 locs ht hvm hw_2 hB hz1 hk1 hS => ?_)
  obtain ⟨hP1, hK1, hD1⟩ := hB
  rw [ht] at hP1
  try dsimp only at hw_2
  obtain ⟨hP, hD⟩ := va_join (wr := [(xm, .inr (20, [.int 0, .int 0, .ref kn, .int 0, .int 0, .int 0, .ref ml, .ref cl, .ref rg, .ref tr, .ref (aK 0), .ref (aK 0), .ref fl, .int 0, .int 0, .int 0, .int 0, .int 0, .int 0, .int 0, .null])), (rg, .inl (cI, 4, .inl (fun _ => 0)))]) (w1 := []) hP hD [] [0, 1] rfl rfl (by decide) (by decide) hk1 hFc hP1 hD1
  generalize H1 = H at hP hS ⊢
  have hP : va_P (dC, dI) vwCl [(xm, .inr (20, [.int 0, .int 0, .ref kn, .int 0, .int 0, .int 0, .ref ml, .ref cl, .ref rg, .ref tr, .ref (aK 0), .ref (aK 0), .ref fl, .int 0, .int 0, .int 0, .int 0, .int 0, .int 0, .int 0, .null])), (rg, .inl (cI, 4, .inl (fun _ => 0)))] H := hP
  have hD : va_D A [(xm, .inr (20, [.int 0, .int 0, .ref kn, .int 0, .int 0, .int 0, .ref ml, .ref cl, .ref rg, .ref tr, .ref (aK 0), .ref (aK 0), .ref fl, .int 0, .int 0, .int 0, .int 0, .int 0, .int 0, .int 0, .null])), (rg, .inl (cI, 4, .inl (fun _ => 0)))] := hD
  have hi_3 := in32 (0) (3) (by decide) (by decide) hw_2
  refine lv_if_eq (tgt := 17) hx hb dX15_register_10 (by decide) (fun c10_4 => ?_) (fun c10_4 => ?_)
  · have hn_5 := (hi_3).elim (fun h => absurd (h.1.symm.trans c10_4) (by decide)) (fun h => h.2)
    refine lv_iconst (v := 1) hx hb dX15_register_17 (by decide) ?_
    refine va_put (D := (dC, dI)) (ci := 20) (v := .int 1) (ty := .int) (C := RX15) (T := TX15) (N := 21) hx hb hts iWX15 tyX15 tyX15_ok nmX15 hown hK hP hD hS 0 rfl rfl 5 (by decide) (hts (.fieldLink RX15 209 "BeaverhallModel" "thrown" "I") (by decide +kernel)) (fun _ h9 => h9) rfl (by decide +kernel) rfl rfl (Nat.le_of_ble_eq_true rfl) dX15_register_18 (fun H locs hP hD hS => ?_)
    have hP : va_P (dC, dI) vwCl [(xm, .inr (20, [.int 0, .int 0, .ref kn, .int 0, .int 0, .int 1, .ref ml, .ref cl, .ref rg, .ref tr, .ref (aK 0), .ref (aK 0), .ref fl, .int 0, .int 0, .int 0, .int 0, .int 0, .int 0, .int 0, .null])), (rg, .inl (cI, 4, .inl (fun _ => 0)))] H := hP
    have hD : va_D A [(xm, .inr (20, [.int 0, .int 0, .ref kn, .int 0, .int 0, .int 1, .ref ml, .ref cl, .ref rg, .ref tr, .ref (aK 0), .ref (aK 0), .ref fl, .int 0, .int 0, .int 0, .int 0, .int 0, .int 0, .int 0, .null])), (rg, .inl (cI, 4, .inl (fun _ => 0)))] := hD
    refine lv_aload_n hx hb dX15_register_21 rfl (lv_at hl 0 rfl) ?_
    refine va_get (D := (dC, dI)) (ci := 20) (v := .int 1) (C := RX15) (T := TX15) (N := 21) hx hb hts iWX15 hown hK hP 0 rfl rfl 5 (by decide) (hts (.fieldLink RX15 209 "BeaverhallModel" "thrown" "I") (by decide +kernel)) (fun _ h9 => h9) rfl dX15_register_22 ?_
    refine lv_if_le (tgt := 32) hx hb dX15_register_25 (by decide) (fun c25_6 => ?_) (fun c25_6 => ?_)
    · exact absurd c25_6 (by decide)
    · refine lv_iconst (v := 0) hx hb dX15_register_28 (by decide) ?_
      refine lv_goto (tgt := 38) hx hb dX15_register_29 (by decide) ?_
      have hP9 := hP.sub (ws' := [(xm, .inr (20, [.int 0, .int 0, .ref kn, .int 0, .int 0, .int 1, .ref ml, .ref cl, .ref rg, .ref tr, .ref (aK 0), .ref (aK 0), .ref fl, .int 0, .int 0, .int 0, .int 0, .int 0, .int 0, .int 0, .null]))]) [0] rfl
      have hD9 := hD.sub (ws' := [(xm, .inr (20, [.int 0, .int 0, .ref kn, .int 0, .int 0, .int 1, .ref ml, .ref cl, .ref rg, .ref tr, .ref (aK 0), .ref (aK 0), .ref fl, .int 0, .int 0, .int 0, .int 0, .int 0, .int 0, .int 0, .null]))]) [0] (by decide) rfl
      have hK9 := hK.sub (tys' := [(cI, .int)]) [0] rfl
      exact W.iret (v := 0) hx hb hr (fun t ht hW => ⟨⟨0, [.int 0, .int 0, .ref kn, .int 0, .int 0, .int 1, .ref ml, .ref cl, .ref rg, .ref tr, .ref (aK 0), .ref (aK 0), .ref fl, .int 0, .int 0, .int 0, .int 0, .int 0, .int 0, .int 0, .null], rfl, (Or.inr ⟨(fun h9 => hn_5 h9), rfl⟩), ⟨by rw [ht]; exact hP9, va_K.moved hW.alike hK9, hD9⟩⟩, hS.F ht⟩) hS.2.2 dX15_register_38
  · have hn_7 := (hi_3).elim (fun h => h.2) (fun h => absurd h.1 c10_4)
    refine lv_iconst (v := 0) hx hb dX15_register_13 (by decide) ?_
    refine lv_goto (tgt := 18) hx hb dX15_register_14 (by decide) ?_
    refine va_put (D := (dC, dI)) (ci := 20) (v := .int 0) (ty := .int) (C := RX15) (T := TX15) (N := 21) hx hb hts iWX15 tyX15 tyX15_ok nmX15 hown hK hP hD hS 0 rfl rfl 5 (by decide) (hts (.fieldLink RX15 209 "BeaverhallModel" "thrown" "I") (by decide +kernel)) (fun _ h9 => h9) rfl (by decide +kernel) rfl rfl (Nat.le_of_ble_eq_true rfl) dX15_register_18 (fun H locs hP hD hS => ?_)
    have hP : va_P (dC, dI) vwCl [(xm, .inr (20, [.int 0, .int 0, .ref kn, .int 0, .int 0, .int 0, .ref ml, .ref cl, .ref rg, .ref tr, .ref (aK 0), .ref (aK 0), .ref fl, .int 0, .int 0, .int 0, .int 0, .int 0, .int 0, .int 0, .null])), (rg, .inl (cI, 4, .inl (fun _ => 0)))] H := hP
    have hD : va_D A [(xm, .inr (20, [.int 0, .int 0, .ref kn, .int 0, .int 0, .int 0, .ref ml, .ref cl, .ref rg, .ref tr, .ref (aK 0), .ref (aK 0), .ref fl, .int 0, .int 0, .int 0, .int 0, .int 0, .int 0, .int 0, .null])), (rg, .inl (cI, 4, .inl (fun _ => 0)))] := hD
    refine lv_aload_n hx hb dX15_register_21 rfl (lv_at hl 0 rfl) ?_
    refine va_get (D := (dC, dI)) (ci := 20) (v := .int 0) (C := RX15) (T := TX15) (N := 21) hx hb hts iWX15 hown hK hP 0 rfl rfl 5 (by decide) (hts (.fieldLink RX15 209 "BeaverhallModel" "thrown" "I") (by decide +kernel)) (fun _ h9 => h9) rfl dX15_register_22 ?_
    refine lv_if_le (tgt := 32) hx hb dX15_register_25 (by decide) (fun c25_8 => ?_) (fun c25_8 => ?_)
    · refine lv_aload_n hx hb dX15_register_32 rfl (lv_at hl 0 rfl) ?_
      refine va_get (D := (dC, dI)) (ci := 20) (v := .ref rg) (C := RX15) (T := TX15) (N := 21) hx hb hts iWX15 hown hK hP 0 rfl rfl 8 (by decide) (hts (.fieldLink RX15 188 "BeaverhallModel" "registers" "[I") (by decide +kernel)) (fun _ h9 => h9) rfl dX15_register_33 ?_
      refine lv_iload_n hx hb dX15_register_36 rfl (lv_at hl 1 rfl) ?_
      refine va_iald hx hb hK hP 1 0 rfl rfl (vpin_of (by decide) (Int32.not_lt.mpr hn_7.1) (fun h9 => absurd (Int32.le_trans h9 hn_7.2) (by decide))) dX15_register_37 ?_
      have hP9 := hP.sub (ws' := [(xm, .inr (20, [.int 0, .int 0, .ref kn, .int 0, .int 0, .int 0, .ref ml, .ref cl, .ref rg, .ref tr, .ref (aK 0), .ref (aK 0), .ref fl, .int 0, .int 0, .int 0, .int 0, .int 0, .int 0, .int 0, .null]))]) [0] rfl
      have hD9 := hD.sub (ws' := [(xm, .inr (20, [.int 0, .int 0, .ref kn, .int 0, .int 0, .int 0, .ref ml, .ref cl, .ref rg, .ref tr, .ref (aK 0), .ref (aK 0), .ref fl, .int 0, .int 0, .int 0, .int 0, .int 0, .int 0, .int 0, .null]))]) [0] (by decide) rfl
      have hK9 := hK.sub (tys' := [(cI, .int)]) [0] rfl
      exact W.iret (v := (fun _ => 0) (p0).toNatClampNeg) hx hb hr (fun t ht hW => ⟨⟨((fun _ => 0) (p0).toNatClampNeg), [.int 0, .int 0, .ref kn, .int 0, .int 0, .int 0, .ref ml, .ref cl, .ref rg, .ref tr, .ref (aK 0), .ref (aK 0), .ref fl, .int 0, .int 0, .int 0, .int 0, .int 0, .int 0, .int 0, .null], rfl, (Or.inl ⟨hn_7, rfl, rfl⟩), ⟨by rw [ht]; exact hP9, va_K.moved hW.alike hK9, hD9⟩⟩, hS.F ht⟩) hS.2.2 dX15_register_38
    · exact (c25_8 (by decide)).elim

set_option maxHeartbeats 4000000 in
set_option maxRecDepth 100000 in
/-- X15_runCounters -/
theorem c_X15_runCounters (l : Launch) (dC : Nat → ClassId) (dI : Nat → Nat → Nat) (xm ml cl fl kn rg tr : Nat) (e0 : Nat) (aK aV : Nat → Nat) (cI : ClassId) (p0 p1 p2 : Int32) (sz : Nat) : Met l yX15_runCounters wsX15_runCounters ({ frames := 1, cells := 0, slots := 0, locals := 40 }) (va_Pc [.ref xm, .int p0, .int p1, .int p2] (cPC dC dI [(xm, .inr (20, [.int 0, .int 0, .ref kn, .int 0, .int 0, .int 0, .ref ml, .ref cl, .ref rg, .ref tr, .ref (aK 0), .ref (aK 0), .ref fl, .int 0, .int 0, .int 0, .int 0, .int 0, .int 0, .int 0, .null])), (cl, .inr (4, [.int 0, .ref e0, .int 0])), (rg, .inl (cI, 4, .inl (fun _ => 0)))] [(cI, .int)] sz)) (va_Qi (fun (r : Int32) (u : List Value) => (pRunC p0 p1 p2 ∧ u[5]? = some (.int 0) ∧ r = 0) ∨ (¬ pRunC p0 p1 p2 ∧ u[5]? = some (.int 1))) (fun (u : List Value) t => cQB dC dI [(xm, .inr (20, u))] [(cI, .int)] (va_A [(xm, .inr (20, [.int 0, .int 0, .ref kn, .int 0, .int 0, .int 0, .ref ml, .ref cl, .ref rg, .ref tr, .ref (aK 0), .ref (aK 0), .ref fl, .int 0, .int 0, .int 0, .int 0, .int 0, .int 0, .int 0, .null])), (cl, .inr (4, [.int 0, .ref e0, .int 0])), (rg, .inl (cI, 4, .inl (fun _ => 0)))] sz) t) (va_A [(xm, .inr (20, [.int 0, .int 0, .ref kn, .int 0, .int 0, .int 0, .ref ml, .ref cl, .ref rg, .ref tr, .ref (aK 0), .ref (aK 0), .ref fl, .int 0, .int 0, .int 0, .int 0, .int 0, .int 0, .int 0, .null])), (cl, .inr (4, [.int 0, .ref e0, .int 0])), (rg, .inl (cI, 4, .inl (fun _ => 0)))] sz)) 0 0 (va_A [(xm, .inr (20, [.int 0, .int 0, .ref kn, .int 0, .int 0, .int 0, .ref ml, .ref cl, .ref rg, .ref tr, .ref (aK 0), .ref (aK 0), .ref fl, .int 0, .int 0, .int 0, .int 0, .int 0, .int 0, .int 0, .null])), (cl, .inr (4, [.int 0, .ref e0, .int 0])), (rg, .inl (cI, 4, .inl (fun _ => 0)))] sz) := by
  refine Met.ofW (cc := cX15_runCounters) (maxL := 9) (ret := (some .int)) (by decide) rfl ?_
  intro p e s m args below meth c s₁ B hml hv
  obtain ⟨rfl, hsz, hP, hK, hD0, hN⟩ := hv
  have hx := B.exec
  have hb := B.bytes
  have hr := B.returns
  have hts := atoms_spec (ws := wsX15_runCounters) B.pre
  have hown : s.vm.findClass RX15 = some m.cls := findClass_of_methodNamed B.named
  have hlocks := B.notSynchronized
  subst hsz
  have hD := hD0.self (sz := s.heap.size)
  generalize hAe : va_A [(xm, .inr (20, [.int 0, .int 0, .ref kn, .int 0, .int 0, .int 0, .ref ml, .ref cl, .ref rg, .ref tr, .ref (aK 0), .ref (aK 0), .ref fl, .int 0, .int 0, .int 0, .int 0, .int 0, .int 0, .int 0, .null])), (cl, .inr (4, [.int 0, .ref e0, .int 0])), (rg, .inl (cI, 4, .inl (fun _ => 0)))] s.heap.size = A at hD ⊢
  have hA : ∀ q : Nat, s.heap.size ≤ q → A q := fun q h => by rw [← hAe]; exact Or.inr h
  have hS : va_S A s.heap s.heap [] := va_S.rf
  have hP : va_P (dC, dI) vwCl [(xm, .inr (20, [.int 0, .int 0, .ref kn, .int 0, .int 0, .int 0, .ref ml, .ref cl, .ref rg, .ref tr, .ref (aK 0), .ref (aK 0), .ref fl, .int 0, .int 0, .int 0, .int 0, .int 0, .int 0, .int 0, .null])), (cl, .inr (4, [.int 0, .ref e0, .int 0])), (rg, .inl (cI, 4, .inl (fun _ => 0)))] s.heap := hP
  have hD : va_D A [(xm, .inr (20, [.int 0, .int 0, .ref kn, .int 0, .int 0, .int 0, .ref ml, .ref cl, .ref rg, .ref tr, .ref (aK 0), .ref (aK 0), .ref fl, .int 0, .int 0, .int 0, .int 0, .int 0, .int 0, .int 0, .null])), (cl, .inr (4, [.int 0, .ref e0, .int 0])), (rg, .inl (cI, 4, .inl (fun _ => 0)))] := hD
  have hl := lv_entry ([.ref xm, .int p0, .int p1, .int p2]) (n := 9) (Nat.le_of_ble_eq_true rfl)
  rw [lg_entry_eq]
  generalize (lg_sl ([.ref xm, .int p0, .int p1, .int p2]) ++ List.replicate (9 - (lg_sl ([.ref xm, .int p0, .int p1, .int p2])).length) Slot.unset).toArray = ls at hl ⊢
  have hl : lv_has ls 9 [(0, .ref xm), (1, .int p0), (2, .int p1), (3, .int p2)] := hl
  have iWX15 : ∀ w ∈ u_ws RX15 TX15 21, w ∈ wsX15_runCounters := by decide +kernel
  refine lv_aload_n hx hb dX15_runCounters_0 rfl (lv_at hl 0 rfl) ?_
  refine lv_iload_n hx hb dX15_runCounters_1 rfl (lv_at hl 1 rfl) ?_
  refine lv_i2l hx hb dX15_runCounters_2 rfl ?_
  refine lv_lconst (v := 0) hx hb dX15_runCounters_3 (by decide) ?_
  refine lv_ldc2 (v := (1000)) hx hb hown (hts (.constantLong RX15 361 (1000)) (by decide +kernel)) dX15_runCounters_4 ?_
  have hPc := hP.sub (ws' := []) [] rfl
  have hDc := hD.sub (ws' := []) [] (by decide) rfl
  have hKc := hK.sub (tys' := []) [] rfl
  have hFc := va_free (wc := []) hD hS hA [] rfl
  refine va_calli (va_runS (As := [.long p0.toInt64, .long 0, .long (1000)]) (rest := [.ref xm]) ⟨hx, hb, hml, hown, hts⟩ (c_X15_in l dC dI p0.toInt64 0 (1000) s.heap.size) (va_cwS 3 hts gX15_runCounters_X15_in rfl rfl rfl (by decide +kernel) ⟨Nat.le_of_ble_eq_true rfl, Nat.le_of_ble_eq_true rfl⟩) (pcS hPc hDc hKc hN) rfl rfl hl.1 rfl (lv_room (Nat.le_of_ble_eq_true rfl)) dX15_runCounters_7 ⟨Nat.le_of_ble_eq_true rfl, Nat.le_of_ble_eq_true rfl⟩) hS (fun q _ h => hFc q h) hFc (fun r_1 u t H1 locs ht hvm hw_2 hB hz1 hk1 hS => ?_)
  obtain ⟨hP1, hK1, hD1⟩ := hB
  rw [ht] at hP1
  try dsimp only at hw_2
  obtain ⟨hP, hD⟩ := va_join (wr := [(xm, .inr (20, [.int 0, .int 0, .ref kn, .int 0, .int 0, .int 0, .ref ml, .ref cl, .ref rg, .ref tr, .ref (aK 0), .ref (aK 0), .ref fl, .int 0, .int 0, .int 0, .int 0, .int 0, .int 0, .int 0, .null])), (cl, .inr (4, [.int 0, .ref e0, .int 0])), (rg, .inl (cI, 4, .inl (fun _ => 0)))]) (w1 := []) hP hD [] [0, 1, 2] rfl rfl (by decide) (by decide) hk1 hFc hP1 hD1
  generalize H1 = H at hP hS ⊢
  have hP : va_P (dC, dI) vwCl [(xm, .inr (20, [.int 0, .int 0, .ref kn, .int 0, .int 0, .int 0, .ref ml, .ref cl, .ref rg, .ref tr, .ref (aK 0), .ref (aK 0), .ref fl, .int 0, .int 0, .int 0, .int 0, .int 0, .int 0, .int 0, .null])), (cl, .inr (4, [.int 0, .ref e0, .int 0])), (rg, .inl (cI, 4, .inl (fun _ => 0)))] H := hP
  have hD : va_D A [(xm, .inr (20, [.int 0, .int 0, .ref kn, .int 0, .int 0, .int 0, .ref ml, .ref cl, .ref rg, .ref tr, .ref (aK 0), .ref (aK 0), .ref fl, .int 0, .int 0, .int 0, .int 0, .int 0, .int 0, .int 0, .null])), (cl, .inr (4, [.int 0, .ref e0, .int 0])), (rg, .inl (cI, 4, .inl (fun _ => 0)))] := hD
  have hi_3 := in32 (0) (1000) (by decide) (by decide) hw_2
  refine lv_if_eq (tgt := 41) hx hb dX15_runCounters_10 (by decide) (fun c10_4 => ?_) (fun c10_4 => ?_)
  · have hn_5 := (hi_3).elim (fun h => absurd (h.1.symm.trans c10_4) (by decide)) (fun h => h.2)
    refine lv_iconst (v := 1) hx hb dX15_runCounters_41 (by decide) ?_
    refine va_put (D := (dC, dI)) (ci := 20) (v := .int 1) (ty := .int) (C := RX15) (T := TX15) (N := 21) hx hb hts iWX15 tyX15 tyX15_ok nmX15 hown hK hP hD hS 0 rfl rfl 5 (by decide) (hts (.fieldLink RX15 209 "BeaverhallModel" "thrown" "I") (by decide +kernel)) (fun _ h9 => h9) rfl (by decide +kernel) rfl rfl (Nat.le_of_ble_eq_true rfl) dX15_runCounters_42 (fun H locs hP hD hS => ?_)
    have hP : va_P (dC, dI) vwCl [(xm, .inr (20, [.int 0, .int 0, .ref kn, .int 0, .int 0, .int 1, .ref ml, .ref cl, .ref rg, .ref tr, .ref (aK 0), .ref (aK 0), .ref fl, .int 0, .int 0, .int 0, .int 0, .int 0, .int 0, .int 0, .null])), (cl, .inr (4, [.int 0, .ref e0, .int 0])), (rg, .inl (cI, 4, .inl (fun _ => 0)))] H := hP
    have hD : va_D A [(xm, .inr (20, [.int 0, .int 0, .ref kn, .int 0, .int 0, .int 1, .ref ml, .ref cl, .ref rg, .ref tr, .ref (aK 0), .ref (aK 0), .ref fl, .int 0, .int 0, .int 0, .int 0, .int 0, .int 0, .int 0, .null])), (cl, .inr (4, [.int 0, .ref e0, .int 0])), (rg, .inl (cI, 4, .inl (fun _ => 0)))] := hD
    refine lv_aload_n hx hb dX15_runCounters_45 rfl (lv_at hl 0 rfl) ?_
    refine va_get (D := (dC, dI)) (ci := 20) (v := .int 1) (C := RX15) (T := TX15) (N := 21) hx hb hts iWX15 hown hK hP 0 rfl rfl 5 (by decide) (hts (.fieldLink RX15 209 "BeaverhallModel" "thrown" "I") (by decide +kernel)) (fun _ h9 => h9) rfl dX15_runCounters_46 ?_
    refine lv_if_le (tgt := 54) hx hb dX15_runCounters_49 (by decide) (fun c49_6 => ?_) (fun c49_6 => ?_)
    · exact absurd c49_6 (by decide)
    · refine lv_iconst (v := 0) hx hb dX15_runCounters_52 (by decide) ?_
      have hP9 := hP.sub (ws' := [(xm, .inr (20, [.int 0, .int 0, .ref kn, .int 0, .int 0, .int 1, .ref ml, .ref cl, .ref rg, .ref tr, .ref (aK 0), .ref (aK 0), .ref fl, .int 0, .int 0, .int 0, .int 0, .int 0, .int 0, .int 0, .null]))]) [0] rfl
      have hD9 := hD.sub (ws' := [(xm, .inr (20, [.int 0, .int 0, .ref kn, .int 0, .int 0, .int 1, .ref ml, .ref cl, .ref rg, .ref tr, .ref (aK 0), .ref (aK 0), .ref fl, .int 0, .int 0, .int 0, .int 0, .int 0, .int 0, .int 0, .null]))]) [0] (by decide) rfl
      have hK9 := hK.sub (tys' := [(cI, .int)]) [0] rfl
      exact W.iret (v := 0) hx hb hr (fun t ht hW => ⟨⟨0, [.int 0, .int 0, .ref kn, .int 0, .int 0, .int 1, .ref ml, .ref cl, .ref rg, .ref tr, .ref (aK 0), .ref (aK 0), .ref fl, .int 0, .int 0, .int 0, .int 0, .int 0, .int 0, .int 0, .null], rfl, (Or.inr ⟨(fun h9 => hn_5 h9.1), rfl⟩), ⟨by rw [ht]; exact hP9, va_K.moved hW.alike hK9, hD9⟩⟩, hS.F ht⟩) hS.2.2 dX15_runCounters_53
  · have hn_7 := (hi_3).elim (fun h => h.2) (fun h => absurd h.1 c10_4)
    refine lv_iload_n hx hb dX15_runCounters_13 rfl (lv_at hl 2 rfl) ?_
    refine lv_i2l hx hb dX15_runCounters_14 rfl ?_
    refine lv_lconst (v := 0) hx hb dX15_runCounters_15 (by decide) ?_
    refine lv_ldc2 (v := (1000)) hx hb hown (hts (.constantLong RX15 361 (1000)) (by decide +kernel)) dX15_runCounters_16 ?_
    have hPc := hP.sub (ws' := []) [] rfl
    have hDc := hD.sub (ws' := []) [] (by decide) rfl
    have hKc := hK.sub (tys' := []) [] rfl
    have hFc := va_free (wc := []) hD hS hA [] rfl
    refine va_calli (va_runS (As := [.long p1.toInt64, .long 0, .long (1000)]) (rest := [.ref xm]) ⟨hx, hb, hml, hown, hts⟩ (c_X15_in l dC dI p1.toInt64 0 (1000) H.size) (va_cwS 3 hts gX15_runCounters_X15_in rfl rfl rfl (by decide +kernel) ⟨Nat.le_of_ble_eq_true rfl, Nat.le_of_ble_eq_true rfl⟩) (pcS hPc hDc hKc hN) rfl rfl hl.1 rfl (lv_room (Nat.le_of_ble_eq_true rfl)) dX15_runCounters_19 ⟨Nat.le_of_ble_eq_true rfl, Nat.le_of_ble_eq_true rfl⟩) hS (fun q _ h => hFc q h) hFc (fun r_8 u t H1 locs ht hvm hw_9 hB hz1 hk1 hS => ?_)
    obtain ⟨hP1, hK1, hD1⟩ := hB
    rw [ht] at hP1
    try dsimp only at hw_9
    obtain ⟨hP, hD⟩ := va_join (wr := [(xm, .inr (20, [.int 0, .int 0, .ref kn, .int 0, .int 0, .int 0, .ref ml, .ref cl, .ref rg, .ref tr, .ref (aK 0), .ref (aK 0), .ref fl, .int 0, .int 0, .int 0, .int 0, .int 0, .int 0, .int 0, .null])), (cl, .inr (4, [.int 0, .ref e0, .int 0])), (rg, .inl (cI, 4, .inl (fun _ => 0)))]) (w1 := []) hP hD [] [0, 1, 2] rfl rfl (by decide) (by decide) hk1 hFc hP1 hD1
    generalize H1 = H at hP hS ⊢
    have hP : va_P (dC, dI) vwCl [(xm, .inr (20, [.int 0, .int 0, .ref kn, .int 0, .int 0, .int 0, .ref ml, .ref cl, .ref rg, .ref tr, .ref (aK 0), .ref (aK 0), .ref fl, .int 0, .int 0, .int 0, .int 0, .int 0, .int 0, .int 0, .null])), (cl, .inr (4, [.int 0, .ref e0, .int 0])), (rg, .inl (cI, 4, .inl (fun _ => 0)))] H := hP
    have hD : va_D A [(xm, .inr (20, [.int 0, .int 0, .ref kn, .int 0, .int 0, .int 0, .ref ml, .ref cl, .ref rg, .ref tr, .ref (aK 0), .ref (aK 0), .ref fl, .int 0, .int 0, .int 0, .int 0, .int 0, .int 0, .int 0, .null])), (cl, .inr (4, [.int 0, .ref e0, .int 0])), (rg, .inl (cI, 4, .inl (fun _ => 0)))] := hD
    have hi_10 := in32 (0) (1000) (by decide) (by decide) hw_9
    refine lv_if_eq (tgt := 41) hx hb dX15_runCounters_22 (by decide) (fun c22_11 => ?_) (fun c22_11 => ?_)
    · have hn_12 := (hi_10).elim (fun h => absurd (h.1.symm.trans c22_11) (by decide)) (fun h => h.2)
      refine lv_iconst (v := 1) hx hb dX15_runCounters_41 (by decide) ?_
      refine va_put (D := (dC, dI)) (ci := 20) (v := .int 1) (ty := .int) (C := RX15) (T := TX15) (N := 21) hx hb hts iWX15 tyX15 tyX15_ok nmX15 hown hK hP hD hS 0 rfl rfl 5 (by decide) (hts (.fieldLink RX15 209 "BeaverhallModel" "thrown" "I") (by decide +kernel)) (fun _ h9 => h9) rfl (by decide +kernel) rfl rfl (Nat.le_of_ble_eq_true rfl) dX15_runCounters_42 (fun H locs hP hD hS => ?_)
      have hP : va_P (dC, dI) vwCl [(xm, .inr (20, [.int 0, .int 0, .ref kn, .int 0, .int 0, .int 1, .ref ml, .ref cl, .ref rg, .ref tr, .ref (aK 0), .ref (aK 0), .ref fl, .int 0, .int 0, .int 0, .int 0, .int 0, .int 0, .int 0, .null])), (cl, .inr (4, [.int 0, .ref e0, .int 0])), (rg, .inl (cI, 4, .inl (fun _ => 0)))] H := hP
      have hD : va_D A [(xm, .inr (20, [.int 0, .int 0, .ref kn, .int 0, .int 0, .int 1, .ref ml, .ref cl, .ref rg, .ref tr, .ref (aK 0), .ref (aK 0), .ref fl, .int 0, .int 0, .int 0, .int 0, .int 0, .int 0, .int 0, .null])), (cl, .inr (4, [.int 0, .ref e0, .int 0])), (rg, .inl (cI, 4, .inl (fun _ => 0)))] := hD
      refine lv_aload_n hx hb dX15_runCounters_45 rfl (lv_at hl 0 rfl) ?_
      refine va_get (D := (dC, dI)) (ci := 20) (v := .int 1) (C := RX15) (T := TX15) (N := 21) hx hb hts iWX15 hown hK hP 0 rfl rfl 5 (by decide) (hts (.fieldLink RX15 209 "BeaverhallModel" "thrown" "I") (by decide +kernel)) (fun _ h9 => h9) rfl dX15_runCounters_46 ?_
      refine lv_if_le (tgt := 54) hx hb dX15_runCounters_49 (by decide) (fun c49_13 => ?_) (fun c49_13 => ?_)
      · exact absurd c49_13 (by decide)
      · refine lv_iconst (v := 0) hx hb dX15_runCounters_52 (by decide) ?_
        have hP9 := hP.sub (ws' := [(xm, .inr (20, [.int 0, .int 0, .ref kn, .int 0, .int 0, .int 1, .ref ml, .ref cl, .ref rg, .ref tr, .ref (aK 0), .ref (aK 0), .ref fl, .int 0, .int 0, .int 0, .int 0, .int 0, .int 0, .int 0, .null]))]) [0] rfl
        have hD9 := hD.sub (ws' := [(xm, .inr (20, [.int 0, .int 0, .ref kn, .int 0, .int 0, .int 1, .ref ml, .ref cl, .ref rg, .ref tr, .ref (aK 0), .ref (aK 0), .ref fl, .int 0, .int 0, .int 0, .int 0, .int 0, .int 0, .int 0, .null]))]) [0] (by decide) rfl
        have hK9 := hK.sub (tys' := [(cI, .int)]) [0] rfl
        exact W.iret (v := 0) hx hb hr (fun t ht hW => ⟨⟨0, [.int 0, .int 0, .ref kn, .int 0, .int 0, .int 1, .ref ml, .ref cl, .ref rg, .ref tr, .ref (aK 0), .ref (aK 0), .ref fl, .int 0, .int 0, .int 0, .int 0, .int 0, .int 0, .int 0, .null], rfl, (Or.inr ⟨(fun h9 => hn_12 h9.2.1), rfl⟩), ⟨by rw [ht]; exact hP9, va_K.moved hW.alike hK9, hD9⟩⟩, hS.F ht⟩) hS.2.2 dX15_runCounters_53
    · have hn_14 := (hi_10).elim (fun h => h.2) (fun h => absurd h.1 c22_11)
      refine lv_iload_n hx hb dX15_runCounters_25 rfl (lv_at hl 3 rfl) ?_
      refine lv_i2l hx hb dX15_runCounters_26 rfl ?_
      refine lv_lconst (v := 0) hx hb dX15_runCounters_27 (by decide) ?_
      refine lv_ldc2 (v := (5000)) hx hb hown (hts (.constantLong RX15 253 (5000)) (by decide +kernel)) dX15_runCounters_28 ?_
      have hPc := hP.sub (ws' := []) [] rfl
      have hDc := hD.sub (ws' := []) [] (by decide) rfl
      have hKc := hK.sub (tys' := []) [] rfl
      have hFc := va_free (wc := []) hD hS hA [] rfl
      refine va_calli (va_runS (As := [.long p2.toInt64, .long 0, .long (5000)]) (rest := [.ref xm]) ⟨hx, hb, hml, hown, hts⟩ (c_X15_in l dC dI p2.toInt64 0 (5000) H.size) (va_cwS 3 hts gX15_runCounters_X15_in rfl rfl rfl (by decide +kernel) ⟨Nat.le_of_ble_eq_true rfl, Nat.le_of_ble_eq_true rfl⟩) (pcS hPc hDc hKc hN) rfl rfl hl.1 rfl (lv_room (Nat.le_of_ble_eq_true rfl)) dX15_runCounters_31 ⟨Nat.le_of_ble_eq_true rfl, Nat.le_of_ble_eq_true rfl⟩) hS (fun q _ h => hFc q h) hFc (fun r_15 u t H1 locs ht hvm hw_16 hB hz1 hk1 hS => ?_)
      obtain ⟨hP1, hK1, hD1⟩ := hB
      rw [ht] at hP1
      try dsimp only at hw_16
      obtain ⟨hP, hD⟩ := va_join (wr := [(xm, .inr (20, [.int 0, .int 0, .ref kn, .int 0, .int 0, .int 0, .ref ml, .ref cl, .ref rg, .ref tr, .ref (aK 0), .ref (aK 0), .ref fl, .int 0, .int 0, .int 0, .int 0, .int 0, .int 0, .int 0, .null])), (cl, .inr (4, [.int 0, .ref e0, .int 0])), (rg, .inl (cI, 4, .inl (fun _ => 0)))]) (w1 := []) hP hD [] [0, 1, 2] rfl rfl (by decide) (by decide) hk1 hFc hP1 hD1
      generalize H1 = H at hP hS ⊢
      have hP : va_P (dC, dI) vwCl [(xm, .inr (20, [.int 0, .int 0, .ref kn, .int 0, .int 0, .int 0, .ref ml, .ref cl, .ref rg, .ref tr, .ref (aK 0), .ref (aK 0), .ref fl, .int 0, .int 0, .int 0, .int 0, .int 0, .int 0, .int 0, .null])), (cl, .inr (4, [.int 0, .ref e0, .int 0])), (rg, .inl (cI, 4, .inl (fun _ => 0)))] H := hP
      have hD : va_D A [(xm, .inr (20, [.int 0, .int 0, .ref kn, .int 0, .int 0, .int 0, .ref ml, .ref cl, .ref rg, .ref tr, .ref (aK 0), .ref (aK 0), .ref fl, .int 0, .int 0, .int 0, .int 0, .int 0, .int 0, .int 0, .null])), (cl, .inr (4, [.int 0, .ref e0, .int 0])), (rg, .inl (cI, 4, .inl (fun _ => 0)))] := hD
      have hi_17 := in32 (0) (5000) (by decide) (by decide) hw_16
      refine lv_if_eq (tgt := 41) hx hb dX15_runCounters_34 (by decide) (fun c34_18 => ?_) (fun c34_18 => ?_)
      · have hn_19 := (hi_17).elim (fun h => absurd (h.1.symm.trans c34_18) (by decide)) (fun h => h.2)
        refine lv_iconst (v := 1) hx hb dX15_runCounters_41 (by decide) ?_
        refine va_put (D := (dC, dI)) (ci := 20) (v := .int 1) (ty := .int) (C := RX15) (T := TX15) (N := 21) hx hb hts iWX15 tyX15 tyX15_ok nmX15 hown hK hP hD hS 0 rfl rfl 5 (by decide) (hts (.fieldLink RX15 209 "BeaverhallModel" "thrown" "I") (by decide +kernel)) (fun _ h9 => h9) rfl (by decide +kernel) rfl rfl (Nat.le_of_ble_eq_true rfl) dX15_runCounters_42 (fun H locs hP hD hS => ?_)
        have hP : va_P (dC, dI) vwCl [(xm, .inr (20, [.int 0, .int 0, .ref kn, .int 0, .int 0, .int 1, .ref ml, .ref cl, .ref rg, .ref tr, .ref (aK 0), .ref (aK 0), .ref fl, .int 0, .int 0, .int 0, .int 0, .int 0, .int 0, .int 0, .null])), (cl, .inr (4, [.int 0, .ref e0, .int 0])), (rg, .inl (cI, 4, .inl (fun _ => 0)))] H := hP
        have hD : va_D A [(xm, .inr (20, [.int 0, .int 0, .ref kn, .int 0, .int 0, .int 1, .ref ml, .ref cl, .ref rg, .ref tr, .ref (aK 0), .ref (aK 0), .ref fl, .int 0, .int 0, .int 0, .int 0, .int 0, .int 0, .int 0, .null])), (cl, .inr (4, [.int 0, .ref e0, .int 0])), (rg, .inl (cI, 4, .inl (fun _ => 0)))] := hD
        refine lv_aload_n hx hb dX15_runCounters_45 rfl (lv_at hl 0 rfl) ?_
        refine va_get (D := (dC, dI)) (ci := 20) (v := .int 1) (C := RX15) (T := TX15) (N := 21) hx hb hts iWX15 hown hK hP 0 rfl rfl 5 (by decide) (hts (.fieldLink RX15 209 "BeaverhallModel" "thrown" "I") (by decide +kernel)) (fun _ h9 => h9) rfl dX15_runCounters_46 ?_
        refine lv_if_le (tgt := 54) hx hb dX15_runCounters_49 (by decide) (fun c49_20 => ?_) (fun c49_20 => ?_)
        · exact absurd c49_20 (by decide)
        · refine lv_iconst (v := 0) hx hb dX15_runCounters_52 (by decide) ?_
          have hP9 := hP.sub (ws' := [(xm, .inr (20, [.int 0, .int 0, .ref kn, .int 0, .int 0, .int 1, .ref ml, .ref cl, .ref rg, .ref tr, .ref (aK 0), .ref (aK 0), .ref fl, .int 0, .int 0, .int 0, .int 0, .int 0, .int 0, .int 0, .null]))]) [0] rfl
          have hD9 := hD.sub (ws' := [(xm, .inr (20, [.int 0, .int 0, .ref kn, .int 0, .int 0, .int 1, .ref ml, .ref cl, .ref rg, .ref tr, .ref (aK 0), .ref (aK 0), .ref fl, .int 0, .int 0, .int 0, .int 0, .int 0, .int 0, .int 0, .null]))]) [0] (by decide) rfl
          have hK9 := hK.sub (tys' := [(cI, .int)]) [0] rfl
          exact W.iret (v := 0) hx hb hr (fun t ht hW => ⟨⟨0, [.int 0, .int 0, .ref kn, .int 0, .int 0, .int 1, .ref ml, .ref cl, .ref rg, .ref tr, .ref (aK 0), .ref (aK 0), .ref fl, .int 0, .int 0, .int 0, .int 0, .int 0, .int 0, .int 0, .null], rfl, (Or.inr ⟨(fun h9 => hn_19 h9.2.2), rfl⟩), ⟨by rw [ht]; exact hP9, va_K.moved hW.alike hK9, hD9⟩⟩, hS.F ht⟩) hS.2.2 dX15_runCounters_53
      · have hn_21 := (hi_17).elim (fun h => h.2) (fun h => absurd h.1 c34_18)
        refine lv_iconst (v := 0) hx hb dX15_runCounters_37 (by decide) ?_
        refine lv_goto (tgt := 42) hx hb dX15_runCounters_38 (by decide) ?_
        refine va_put (D := (dC, dI)) (ci := 20) (v := .int 0) (ty := .int) (C := RX15) (T := TX15) (N := 21) hx hb hts iWX15 tyX15 tyX15_ok nmX15 hown hK hP hD hS 0 rfl rfl 5 (by decide) (hts (.fieldLink RX15 209 "BeaverhallModel" "thrown" "I") (by decide +kernel)) (fun _ h9 => h9) rfl (by decide +kernel) rfl rfl (Nat.le_of_ble_eq_true rfl) dX15_runCounters_42 (fun H locs hP hD hS => ?_)
        have hP : va_P (dC, dI) vwCl [(xm, .inr (20, [.int 0, .int 0, .ref kn, .int 0, .int 0, .int 0, .ref ml, .ref cl, .ref rg, .ref tr, .ref (aK 0), .ref (aK 0), .ref fl, .int 0, .int 0, .int 0, .int 0, .int 0, .int 0, .int 0, .null])), (cl, .inr (4, [.int 0, .ref e0, .int 0])), (rg, .inl (cI, 4, .inl (fun _ => 0)))] H := hP
        have hD : va_D A [(xm, .inr (20, [.int 0, .int 0, .ref kn, .int 0, .int 0, .int 0, .ref ml, .ref cl, .ref rg, .ref tr, .ref (aK 0), .ref (aK 0), .ref fl, .int 0, .int 0, .int 0, .int 0, .int 0, .int 0, .int 0, .null])), (cl, .inr (4, [.int 0, .ref e0, .int 0])), (rg, .inl (cI, 4, .inl (fun _ => 0)))] := hD
        refine lv_aload_n hx hb dX15_runCounters_45 rfl (lv_at hl 0 rfl) ?_
        refine va_get (D := (dC, dI)) (ci := 20) (v := .int 0) (C := RX15) (T := TX15) (N := 21) hx hb hts iWX15 hown hK hP 0 rfl rfl 5 (by decide) (hts (.fieldLink RX15 209 "BeaverhallModel" "thrown" "I") (by decide +kernel)) (fun _ h9 => h9) rfl dX15_runCounters_46 ?_
        refine lv_if_le (tgt := 54) hx hb dX15_runCounters_49 (by decide) (fun c49_22 => ?_) (fun c49_22 => ?_)
        · refine lv_aload_n hx hb dX15_runCounters_54 rfl (lv_at hl 0 rfl) ?_
          refine va_get (D := (dC, dI)) (ci := 20) (v := .ref rg) (C := RX15) (T := TX15) (N := 21) hx hb hts iWX15 hown hK hP 0 rfl rfl 8 (by decide) (hts (.fieldLink RX15 188 "BeaverhallModel" "registers" "[I") (by decide +kernel)) (fun _ h9 => h9) rfl dX15_runCounters_55 ?_
          refine lv_iconst (v := 0) hx hb dX15_runCounters_58 (by decide) ?_
          refine lv_iload_n hx hb dX15_runCounters_59 rfl (lv_at hl 1 rfl) ?_
          refine va_iast hx hb hK hP hD hS 2 0 rfl rfl (show vp_in (nI 0) 4 from vp_in_nI (by decide) (by decide)) dX15_runCounters_60 (fun H locs hP hD hS => ?_)
          obtain ⟨f_23, ef_23⟩ : ∃ z, z = (upd (fun _ => 0) ((0 : Int32)).toNatClampNeg p0) := ⟨_, rfl⟩
          have hP : va_P (dC, dI) vwCl [(xm, .inr (20, [.int 0, .int 0, .ref kn, .int 0, .int 0, .int 0, .ref ml, .ref cl, .ref rg, .ref tr, .ref (aK 0), .ref (aK 0), .ref fl, .int 0, .int 0, .int 0, .int 0, .int 0, .int 0, .int 0, .null])), (cl, .inr (4, [.int 0, .ref e0, .int 0])), (rg, .inl (cI, 4, .inl f_23))] H := by rw [ef_23]; exact hP
          have hD : va_D A [(xm, .inr (20, [.int 0, .int 0, .ref kn, .int 0, .int 0, .int 0, .ref ml, .ref cl, .ref rg, .ref tr, .ref (aK 0), .ref (aK 0), .ref fl, .int 0, .int 0, .int 0, .int 0, .int 0, .int 0, .int 0, .null])), (cl, .inr (4, [.int 0, .ref e0, .int 0])), (rg, .inl (cI, 4, .inl f_23))] := by rw [ef_23]; exact hD
          refine lv_aload_n hx hb dX15_runCounters_61 rfl (lv_at hl 0 rfl) ?_
          refine va_get (D := (dC, dI)) (ci := 20) (v := .ref rg) (C := RX15) (T := TX15) (N := 21) hx hb hts iWX15 hown hK hP 0 rfl rfl 8 (by decide) (hts (.fieldLink RX15 188 "BeaverhallModel" "registers" "[I") (by decide +kernel)) (fun _ h9 => h9) rfl dX15_runCounters_62 ?_
          refine lv_iconst (v := 1) hx hb dX15_runCounters_65 (by decide) ?_
          refine lv_iload_n hx hb dX15_runCounters_66 rfl (lv_at hl 2 rfl) ?_
          refine va_iast hx hb hK hP hD hS 2 0 rfl rfl (show vp_in (nI 1) 4 from vp_in_nI (by decide) (by decide)) dX15_runCounters_67 (fun H locs hP hD hS => ?_)
          obtain ⟨f_24, ef_24⟩ : ∃ z, z = (upd f_23 ((1 : Int32)).toNatClampNeg p1) := ⟨_, rfl⟩
          have hP : va_P (dC, dI) vwCl [(xm, .inr (20, [.int 0, .int 0, .ref kn, .int 0, .int 0, .int 0, .ref ml, .ref cl, .ref rg, .ref tr, .ref (aK 0), .ref (aK 0), .ref fl, .int 0, .int 0, .int 0, .int 0, .int 0, .int 0, .int 0, .null])), (cl, .inr (4, [.int 0, .ref e0, .int 0])), (rg, .inl (cI, 4, .inl f_24))] H := by rw [ef_24]; exact hP
          have hD : va_D A [(xm, .inr (20, [.int 0, .int 0, .ref kn, .int 0, .int 0, .int 0, .ref ml, .ref cl, .ref rg, .ref tr, .ref (aK 0), .ref (aK 0), .ref fl, .int 0, .int 0, .int 0, .int 0, .int 0, .int 0, .int 0, .null])), (cl, .inr (4, [.int 0, .ref e0, .int 0])), (rg, .inl (cI, 4, .inl f_24))] := by rw [ef_24]; exact hD
          refine lv_aload_n hx hb dX15_runCounters_68 rfl (lv_at hl 0 rfl) ?_
          refine va_get (D := (dC, dI)) (ci := 20) (v := .ref rg) (C := RX15) (T := TX15) (N := 21) hx hb hts iWX15 hown hK hP 0 rfl rfl 8 (by decide) (hts (.fieldLink RX15 188 "BeaverhallModel" "registers" "[I") (by decide +kernel)) (fun _ h9 => h9) rfl dX15_runCounters_69 ?_
          refine lv_iconst (v := 2) hx hb dX15_runCounters_72 (by decide) ?_
          refine lv_iconst (v := 0) hx hb dX15_runCounters_73 (by decide) ?_
          refine va_iast hx hb hK hP hD hS 2 0 rfl rfl (show vp_in (nI 2) 4 from vp_in_nI (by decide) (by decide)) dX15_runCounters_74 (fun H locs hP hD hS => ?_)
          obtain ⟨f_25, ef_25⟩ : ∃ z, z = (upd f_24 ((2 : Int32)).toNatClampNeg 0) := ⟨_, rfl⟩
          have hP : va_P (dC, dI) vwCl [(xm, .inr (20, [.int 0, .int 0, .ref kn, .int 0, .int 0, .int 0, .ref ml, .ref cl, .ref rg, .ref tr, .ref (aK 0), .ref (aK 0), .ref fl, .int 0, .int 0, .int 0, .int 0, .int 0, .int 0, .int 0, .null])), (cl, .inr (4, [.int 0, .ref e0, .int 0])), (rg, .inl (cI, 4, .inl f_25))] H := by rw [ef_25]; exact hP
          have hD : va_D A [(xm, .inr (20, [.int 0, .int 0, .ref kn, .int 0, .int 0, .int 0, .ref ml, .ref cl, .ref rg, .ref tr, .ref (aK 0), .ref (aK 0), .ref fl, .int 0, .int 0, .int 0, .int 0, .int 0, .int 0, .int 0, .null])), (cl, .inr (4, [.int 0, .ref e0, .int 0])), (rg, .inl (cI, 4, .inl f_25))] := by rw [ef_25]; exact hD
          refine lv_aload_n hx hb dX15_runCounters_75 rfl (lv_at hl 0 rfl) ?_
          refine va_get (D := (dC, dI)) (ci := 20) (v := .ref rg) (C := RX15) (T := TX15) (N := 21) hx hb hts iWX15 hown hK hP 0 rfl rfl 8 (by decide) (hts (.fieldLink RX15 188 "BeaverhallModel" "registers" "[I") (by decide +kernel)) (fun _ h9 => h9) rfl dX15_runCounters_76 ?_
          refine lv_iconst (v := 3) hx hb dX15_runCounters_79 (by decide) ?_
          refine lv_iconst (v := 0) hx hb dX15_runCounters_80 (by decide) ?_
          refine va_iast hx hb hK hP hD hS 2 0 rfl rfl (show vp_in (nI 3) 4 from vp_in_nI (by decide) (by decide)) dX15_runCounters_81 (fun H locs hP hD hS => ?_)
          obtain ⟨f_26, ef_26⟩ : ∃ z, z = (upd f_25 ((3 : Int32)).toNatClampNeg 0) := ⟨_, rfl⟩
          have hP : va_P (dC, dI) vwCl [(xm, .inr (20, [.int 0, .int 0, .ref kn, .int 0, .int 0, .int 0, .ref ml, .ref cl, .ref rg, .ref tr, .ref (aK 0), .ref (aK 0), .ref fl, .int 0, .int 0, .int 0, .int 0, .int 0, .int 0, .int 0, .null])), (cl, .inr (4, [.int 0, .ref e0, .int 0])), (rg, .inl (cI, 4, .inl f_26))] H := by rw [ef_26]; exact hP
          have hD : va_D A [(xm, .inr (20, [.int 0, .int 0, .ref kn, .int 0, .int 0, .int 0, .ref ml, .ref cl, .ref rg, .ref tr, .ref (aK 0), .ref (aK 0), .ref fl, .int 0, .int 0, .int 0, .int 0, .int 0, .int 0, .int 0, .null])), (cl, .inr (4, [.int 0, .ref e0, .int 0])), (rg, .inl (cI, 4, .inl f_26))] := by rw [ef_26]; exact hD
          refine lv_iconst (v := 0) hx hb dX15_runCounters_82 (by decide) ?_
          refine lv_istore (lv' := [(4, .int 0), (0, .ref xm), (1, .int p0), (2, .int p1), (3, .int p2)]) hx hb dX15_runCounters_83 hl (by decide) rfl (fun ls hl => ?_)
          refine lv_iconst (v := 0) hx hb dX15_runCounters_85 (by decide) ?_
          refine lv_istore (lv' := [(5, .int 0), (4, .int 0), (0, .ref xm), (1, .int p0), (2, .int p1), (3, .int p2)]) hx hb dX15_runCounters_86 hl (by decide) rfl (fun ls hl => ?_)
          refine lv_iload hx hb dX15_runCounters_88 (lv_at hl 0 rfl) ?_
          refine lv_iload_n hx hb dX15_runCounters_90 rfl (lv_at hl 5 rfl) ?_
          refine lv_icmp_ge (tgt := 215) hx hb dX15_runCounters_91 (by decide) (fun c91_27 => ?_) (fun c91_27 => ?_)
          · refine lv_iload hx hb dX15_runCounters_215 (lv_at hl 0 rfl) ?_
            have hP9 := hP.sub (ws' := [(xm, .inr (20, [.int 0, .int 0, .ref kn, .int 0, .int 0, .int 0, .ref ml, .ref cl, .ref rg, .ref tr, .ref (aK 0), .ref (aK 0), .ref fl, .int 0, .int 0, .int 0, .int 0, .int 0, .int 0, .int 0, .null]))]) [0] rfl
            have hD9 := hD.sub (ws' := [(xm, .inr (20, [.int 0, .int 0, .ref kn, .int 0, .int 0, .int 0, .ref ml, .ref cl, .ref rg, .ref tr, .ref (aK 0), .ref (aK 0), .ref fl, .int 0, .int 0, .int 0, .int 0, .int 0, .int 0, .int 0, .null]))]) [0] (by decide) rfl
            have hK9 := hK.sub (tys' := [(cI, .int)]) [0] rfl
            exact W.iret (v := 0) hx hb hr (fun t ht hW => ⟨⟨0, [.int 0, .int 0, .ref kn, .int 0, .int 0, .int 0, .ref ml, .ref cl, .ref rg, .ref tr, .ref (aK 0), .ref (aK 0), .ref fl, .int 0, .int 0, .int 0, .int 0, .int 0, .int 0, .int 0, .null], rfl, (Or.inl ⟨⟨hn_7, hn_14, hn_21⟩, rfl, rfl⟩), ⟨by rw [ht]; exact hP9, va_K.moved hW.alike hK9, hD9⟩⟩, hS.F ht⟩) hS.2.2 dX15_runCounters_217
          · refine lv_iload hx hb dX15_runCounters_94 (lv_at hl 1 rfl) ?_
            refine lv_aload_n hx hb dX15_runCounters_96 rfl (lv_at hl 2 rfl) ?_
            refine va_get (D := (dC, dI)) (ci := 20) (v := .ref cl) (C := RX15) (T := TX15) (N := 21) hx hb hts iWX15 hown hK hP 0 rfl rfl 7 (by decide) (hts (.fieldLink RX15 185 "BeaverhallModel" "counters" "Ljava/util/ArrayList;") (by decide +kernel)) (fun _ h9 => h9) rfl dX15_runCounters_97 ?_
            have hPc := hP.sub (ws' := [(cl, .inr (4, [.int 0, .ref e0, .int 0]))]) [1] rfl
            have hDc := hD.sub (ws' := [(cl, .inr (4, [.int 0, .ref e0, .int 0]))]) [1] (by decide) rfl
            have hKc := hK.sub (tys' := []) [] rfl
            have hFc := va_free (wc := [(cl, .inr (4, [.int 0, .ref e0, .int 0]))]) hD hS hA [1] rfl
            refine va_calli (va_runV (As := []) (rest := [.int 0]) ⟨hx, hb, hml, hown, hts⟩ (c_Jx4a65c_size_8abf5 l dC dI cl e0 0 0 H.size) (cwV 0 hts gX15_runCounters_Jx4a65c_size_8abf5 rfl rfl rfl (by decide +kernel) ⟨Nat.le_of_ble_eq_true rfl, Nat.le_of_ble_eq_true rfl⟩) (pcV hPc hDc hKc hN (ci := 4) (q0 := 0) rfl rfl) rfl rfl hl.1 rfl (lv_room (Nat.le_of_ble_eq_true rfl)) dX15_runCounters_100 ⟨Nat.le_of_ble_eq_true rfl, Nat.le_of_ble_eq_true rfl⟩) hS (fun q _ h => hFc q h) hFc (fun r_28 u t H1 locs ht hvm hw_29 hB hz1 hk1 hS => ?_)
            obtain ⟨hP1, hK1, hD1⟩ := hB
            rw [ht] at hP1
            try dsimp only at hw_29
            obtain ⟨hP, hD⟩ := va_join (wr := [(xm, .inr (20, [.int 0, .int 0, .ref kn, .int 0, .int 0, .int 0, .ref ml, .ref cl, .ref rg, .ref tr, .ref (aK 0), .ref (aK 0), .ref fl, .int 0, .int 0, .int 0, .int 0, .int 0, .int 0, .int 0, .null])), (rg, .inl (cI, 4, .inl f_26))]) (w1 := [(cl, .inr (4, [.int 0, .ref e0, .int 0]))]) hP hD [1] [0, 2] rfl rfl (by decide) (by decide) hk1 hFc hP1 hD1
            generalize H1 = H at hP hS ⊢
            have hP : va_P (dC, dI) vwCl [(xm, .inr (20, [.int 0, .int 0, .ref kn, .int 0, .int 0, .int 0, .ref ml, .ref cl, .ref rg, .ref tr, .ref (aK 0), .ref (aK 0), .ref fl, .int 0, .int 0, .int 0, .int 0, .int 0, .int 0, .int 0, .null])), (rg, .inl (cI, 4, .inl f_26)), (cl, .inr (4, [.int 0, .ref e0, .int 0]))] H := hP
            have hD : va_D A [(xm, .inr (20, [.int 0, .int 0, .ref kn, .int 0, .int 0, .int 0, .ref ml, .ref cl, .ref rg, .ref tr, .ref (aK 0), .ref (aK 0), .ref fl, .int 0, .int 0, .int 0, .int 0, .int 0, .int 0, .int 0, .null])), (rg, .inl (cI, 4, .inl f_26)), (cl, .inr (4, [.int 0, .ref e0, .int 0]))] := hD
            subst hw_29
            refine lv_icmp_ge (tgt := 215) hx hb dX15_runCounters_103 (by decide) (fun c103_30 => ?_) (fun c103_30 => ?_)
            · refine lv_iload hx hb dX15_runCounters_215 (lv_at hl 0 rfl) ?_
              have hP9 := hP.sub (ws' := [(xm, .inr (20, [.int 0, .int 0, .ref kn, .int 0, .int 0, .int 0, .ref ml, .ref cl, .ref rg, .ref tr, .ref (aK 0), .ref (aK 0), .ref fl, .int 0, .int 0, .int 0, .int 0, .int 0, .int 0, .int 0, .null]))]) [0] rfl
              have hD9 := hD.sub (ws' := [(xm, .inr (20, [.int 0, .int 0, .ref kn, .int 0, .int 0, .int 0, .ref ml, .ref cl, .ref rg, .ref tr, .ref (aK 0), .ref (aK 0), .ref fl, .int 0, .int 0, .int 0, .int 0, .int 0, .int 0, .int 0, .null]))]) [0] (by decide) rfl
              have hK9 := hK.sub (tys' := [(cI, .int)]) [0] rfl
              exact W.iret (v := 0) hx hb hr (fun t ht hW => ⟨⟨0, [.int 0, .int 0, .ref kn, .int 0, .int 0, .int 0, .ref ml, .ref cl, .ref rg, .ref tr, .ref (aK 0), .ref (aK 0), .ref fl, .int 0, .int 0, .int 0, .int 0, .int 0, .int 0, .int 0, .null], rfl, (Or.inl ⟨⟨hn_7, hn_14, hn_21⟩, rfl, rfl⟩), ⟨by rw [ht]; exact hP9, va_K.moved hW.alike hK9, hD9⟩⟩, hS.F ht⟩) hS.2.2 dX15_runCounters_217
            · exact (c103_30 (by decide)).elim
        · exact (c49_22 (by decide)).elim

set_option maxHeartbeats 4000000 in
set_option maxRecDepth 100000 in
/-- X15_fraction -/
theorem c_X15_fraction (l : Launch) (dC : Nat → ClassId) (dI : Nat → Nat → Nat) (xm ml cl fl kn rg tr : Nat) (e0 : Nat) (aK aV : Nat → Nat) (cI : ClassId) (p0 p1 : Int32) (sz : Nat) : Met l yX15_fraction wsX15_fraction ({ frames := 6, cells := 2, slots := 12, locals := 150 }) (va_Pc [.ref xm, .int p0, .int p1] (cPCz (zM e0 aK aV) dC dI [(xm, .inr (20, [.int 0, .int 0, .ref kn, .int 0, .int 0, .int 0, .ref ml, .ref cl, .ref rg, .ref tr, .ref (aK 0), .ref (aK 0), .ref fl, .int 0, .int 0, .int 0, .int 0, .int 0, .int 0, .int 0, .null])), (fl, .inr (4, [.int 0, .ref e0, .int 0]))] [(cI, .int)] sz)) (va_Qi (fun (r : Int32) (u : List Value) => (pFraction p0 p1 ∧ u[5]? = some (.int 0) ∧ r = 1) ∨ (¬ pFraction p0 p1 ∧ u[5]? = some (.int 1))) (fun (u : List Value) t => cQB dC dI [(xm, .inr (20, u))] [(cI, .int)] (va_A [(xm, .inr (20, [.int 0, .int 0, .ref kn, .int 0, .int 0, .int 0, .ref ml, .ref cl, .ref rg, .ref tr, .ref (aK 0), .ref (aK 0), .ref fl, .int 0, .int 0, .int 0, .int 0, .int 0, .int 0, .int 0, .null])), (fl, .inr (4, [.int 0, .ref e0, .int 0]))] sz) t) (va_A [(xm, .inr (20, [.int 0, .int 0, .ref kn, .int 0, .int 0, .int 0, .ref ml, .ref cl, .ref rg, .ref tr, .ref (aK 0), .ref (aK 0), .ref fl, .int 0, .int 0, .int 0, .int 0, .int 0, .int 0, .int 0, .null])), (fl, .inr (4, [.int 0, .ref e0, .int 0]))] sz)) 2 12 (va_A [(xm, .inr (20, [.int 0, .int 0, .ref kn, .int 0, .int 0, .int 0, .ref ml, .ref cl, .ref rg, .ref tr, .ref (aK 0), .ref (aK 0), .ref fl, .int 0, .int 0, .int 0, .int 0, .int 0, .int 0, .int 0, .null])), (fl, .inr (4, [.int 0, .ref e0, .int 0]))] sz) := by
  refine Met.ofW (cc := cX15_fraction) (maxL := 3) (ret := (some .int)) (by decide) rfl ?_
  intro p e s m args below meth c s₁ B hml hv
  obtain ⟨rfl, ⟨hsz, hP, hK, hD0, hN⟩, hZ⟩ := hv
  have hx := B.exec
  have hb := B.bytes
  have hr := B.returns
  have hts := atoms_spec (ws := wsX15_fraction) B.pre
  have hown : s.vm.findClass RX15 = some m.cls := findClass_of_methodNamed B.named
  have hlocks := B.notSynchronized
  subst hsz
  have hD := hD0.self (sz := s.heap.size)
  generalize hAe : va_A [(xm, .inr (20, [.int 0, .int 0, .ref kn, .int 0, .int 0, .int 0, .ref ml, .ref cl, .ref rg, .ref tr, .ref (aK 0), .ref (aK 0), .ref fl, .int 0, .int 0, .int 0, .int 0, .int 0, .int 0, .int 0, .null])), (fl, .inr (4, [.int 0, .ref e0, .int 0]))] s.heap.size = A at hD hZ ⊢
  have hA : ∀ q : Nat, s.heap.size ≤ q → A q := fun q h => by rw [← hAe]; exact Or.inr h
  have hS : va_S A s.heap s.heap [] := va_S.rf
  have hP : va_P (dC, dI) vwCl [(xm, .inr (20, [.int 0, .int 0, .ref kn, .int 0, .int 0, .int 0, .ref ml, .ref cl, .ref rg, .ref tr, .ref (aK 0), .ref (aK 0), .ref fl, .int 0, .int 0, .int 0, .int 0, .int 0, .int 0, .int 0, .null])), (fl, .inr (4, [.int 0, .ref e0, .int 0]))] s.heap := hP
  have hD : va_D A [(xm, .inr (20, [.int 0, .int 0, .ref kn, .int 0, .int 0, .int 0, .ref ml, .ref cl, .ref rg, .ref tr, .ref (aK 0), .ref (aK 0), .ref fl, .int 0, .int 0, .int 0, .int 0, .int 0, .int 0, .int 0, .null])), (fl, .inr (4, [.int 0, .ref e0, .int 0]))] := hD
  have hl := lv_entry ([.ref xm, .int p0, .int p1]) (n := 3) (Nat.le_of_ble_eq_true rfl)
  rw [lg_entry_eq]
  generalize (lg_sl ([.ref xm, .int p0, .int p1]) ++ List.replicate (3 - (lg_sl ([.ref xm, .int p0, .int p1])).length) Slot.unset).toArray = ls at hl ⊢
  have hl : lv_has ls 3 [(0, .ref xm), (1, .int p0), (2, .int p1)] := hl
  have iWX15 : ∀ w ∈ u_ws RX15 TX15 21, w ∈ wsX15_fraction := by decide +kernel
  refine lv_aload_n hx hb dX15_fraction_0 rfl (lv_at hl 0 rfl) ?_
  refine lv_iload_n hx hb dX15_fraction_1 rfl (lv_at hl 1 rfl) ?_
  refine lv_i2l hx hb dX15_fraction_2 rfl ?_
  refine lv_lconst (v := 1) hx hb dX15_fraction_3 (by decide) ?_
  refine lv_ldc2 (v := (10000)) hx hb hown (hts (.constantLong RX15 398 (10000)) (by decide +kernel)) dX15_fraction_4 ?_
  have hPc := hP.sub (ws' := []) [] rfl
  have hDc := hD.sub (ws' := []) [] (by decide) rfl
  have hKc := hK.sub (tys' := []) [] rfl
  have hFc := va_free (wc := []) hD hS hA [] rfl
  refine va_calli (va_runS (As := [.long p0.toInt64, .long 1, .long (10000)]) (rest := [.ref xm]) ⟨hx, hb, hml, hown, hts⟩ (c_X15_in l dC dI p0.toInt64 1 (10000) s.heap.size) (va_cwS 3 hts gX15_fraction_X15_in rfl rfl rfl (by decide +kernel) ⟨Nat.le_of_ble_eq_true rfl, Nat.le_of_ble_eq_true rfl⟩) (pcS hPc hDc hKc hN) rfl rfl hl.1 rfl (lv_room (Nat.le_of_ble_eq_true rfl)) dX15_fraction_7 ⟨Nat.le_of_ble_eq_true rfl, Nat.le_of_ble_eq_true rfl⟩) hS (fun q _ h => hFc q h) hFc (fun r_1 u t H1 locs ht hvm hw_2 hB hz1 hk1 hS => ?_)
  obtain ⟨hP1, hK1, hD1⟩ := hB
  rw [ht] at hP1
  try dsimp only at hw_2
  obtain ⟨hP, hD⟩ := va_join (wr := [(xm, .inr (20, [.int 0, .int 0, .ref kn, .int 0, .int 0, .int 0, .ref ml, .ref cl, .ref rg, .ref tr, .ref (aK 0), .ref (aK 0), .ref fl, .int 0, .int 0, .int 0, .int 0, .int 0, .int 0, .int 0, .null])), (fl, .inr (4, [.int 0, .ref e0, .int 0]))]) (w1 := []) hP hD [] [0, 1] rfl rfl (by decide) (by decide) hk1 hFc hP1 hD1
  generalize H1 = H at hP hS ⊢
  have hP : va_P (dC, dI) vwCl [(xm, .inr (20, [.int 0, .int 0, .ref kn, .int 0, .int 0, .int 0, .ref ml, .ref cl, .ref rg, .ref tr, .ref (aK 0), .ref (aK 0), .ref fl, .int 0, .int 0, .int 0, .int 0, .int 0, .int 0, .int 0, .null])), (fl, .inr (4, [.int 0, .ref e0, .int 0]))] H := hP
  have hD : va_D A [(xm, .inr (20, [.int 0, .int 0, .ref kn, .int 0, .int 0, .int 0, .ref ml, .ref cl, .ref rg, .ref tr, .ref (aK 0), .ref (aK 0), .ref fl, .int 0, .int 0, .int 0, .int 0, .int 0, .int 0, .int 0, .null])), (fl, .inr (4, [.int 0, .ref e0, .int 0]))] := hD
  have hi_3 := in32 (1) (10000) (by decide) (by decide) hw_2
  refine lv_if_eq (tgt := 25) hx hb dX15_fraction_10 (by decide) (fun c10_4 => ?_) (fun c10_4 => ?_)
  · have hn_5 := (hi_3).elim (fun h => absurd (h.1.symm.trans c10_4) (by decide)) (fun h => h.2)
    refine lv_iconst (v := 1) hx hb dX15_fraction_25 (by decide) ?_
    refine lv_goto (tgt := 46) hx hb dX15_fraction_26 (by decide) ?_
    refine va_put (D := (dC, dI)) (ci := 20) (v := .int 1) (ty := .int) (C := RX15) (T := TX15) (N := 21) hx hb hts iWX15 tyX15 tyX15_ok nmX15 hown hK hP hD hS 0 rfl rfl 5 (by decide) (hts (.fieldLink RX15 209 "BeaverhallModel" "thrown" "I") (by decide +kernel)) (fun _ h9 => h9) rfl (by decide +kernel) rfl rfl (Nat.le_of_ble_eq_true rfl) dX15_fraction_46 (fun H locs hP hD hS => ?_)
    have hP : va_P (dC, dI) vwCl [(xm, .inr (20, [.int 0, .int 0, .ref kn, .int 0, .int 0, .int 1, .ref ml, .ref cl, .ref rg, .ref tr, .ref (aK 0), .ref (aK 0), .ref fl, .int 0, .int 0, .int 0, .int 0, .int 0, .int 0, .int 0, .null])), (fl, .inr (4, [.int 0, .ref e0, .int 0]))] H := hP
    have hD : va_D A [(xm, .inr (20, [.int 0, .int 0, .ref kn, .int 0, .int 0, .int 1, .ref ml, .ref cl, .ref rg, .ref tr, .ref (aK 0), .ref (aK 0), .ref fl, .int 0, .int 0, .int 0, .int 0, .int 0, .int 0, .int 0, .null])), (fl, .inr (4, [.int 0, .ref e0, .int 0]))] := hD
    refine lv_aload_n hx hb dX15_fraction_49 rfl (lv_at hl 0 rfl) ?_
    refine va_get (D := (dC, dI)) (ci := 20) (v := .int 1) (C := RX15) (T := TX15) (N := 21) hx hb hts iWX15 hown hK hP 0 rfl rfl 5 (by decide) (hts (.fieldLink RX15 209 "BeaverhallModel" "thrown" "I") (by decide +kernel)) (fun _ h9 => h9) rfl dX15_fraction_50 ?_
    refine lv_if_le (tgt := 58) hx hb dX15_fraction_53 (by decide) (fun c53_6 => ?_) (fun c53_6 => ?_)
    · exact absurd c53_6 (by decide)
    · refine lv_iconst (v := 0) hx hb dX15_fraction_56 (by decide) ?_
      have hP9 := hP.sub (ws' := [(xm, .inr (20, [.int 0, .int 0, .ref kn, .int 0, .int 0, .int 1, .ref ml, .ref cl, .ref rg, .ref tr, .ref (aK 0), .ref (aK 0), .ref fl, .int 0, .int 0, .int 0, .int 0, .int 0, .int 0, .int 0, .null]))]) [0] rfl
      have hD9 := hD.sub (ws' := [(xm, .inr (20, [.int 0, .int 0, .ref kn, .int 0, .int 0, .int 1, .ref ml, .ref cl, .ref rg, .ref tr, .ref (aK 0), .ref (aK 0), .ref fl, .int 0, .int 0, .int 0, .int 0, .int 0, .int 0, .int 0, .null]))]) [0] (by decide) rfl
      have hK9 := hK.sub (tys' := [(cI, .int)]) [0] rfl
      refine W.widen (k := 2) (n := 12) (Nat.le_of_ble_eq_true rfl) (Nat.le_of_ble_eq_true rfl) ?_
      exact W.iret (v := 0) hx hb hr (fun t ht hW => ⟨⟨0, [.int 0, .int 0, .ref kn, .int 0, .int 0, .int 1, .ref ml, .ref cl, .ref rg, .ref tr, .ref (aK 0), .ref (aK 0), .ref fl, .int 0, .int 0, .int 0, .int 0, .int 0, .int 0, .int 0, .null], rfl, (Or.inr ⟨(fun h9 => hn_5 h9.1), rfl⟩), ⟨by rw [ht]; exact hP9, va_K.moved hW.alike hK9, hD9⟩⟩, hS.F ht⟩) hS.2.2 dX15_fraction_57
  · have hn_7 := (hi_3).elim (fun h => h.2) (fun h => absurd h.1 c10_4)
    refine lv_iload_n hx hb dX15_fraction_13 rfl (lv_at hl 2 rfl) ?_
    refine lv_i2l hx hb dX15_fraction_14 rfl ?_
    refine lv_lconst (v := 1) hx hb dX15_fraction_15 (by decide) ?_
    refine lv_ldc2 (v := (10000)) hx hb hown (hts (.constantLong RX15 398 (10000)) (by decide +kernel)) dX15_fraction_16 ?_
    have hPc := hP.sub (ws' := []) [] rfl
    have hDc := hD.sub (ws' := []) [] (by decide) rfl
    have hKc := hK.sub (tys' := []) [] rfl
    have hFc := va_free (wc := []) hD hS hA [] rfl
    refine va_calli (va_runS (As := [.long p1.toInt64, .long 1, .long (10000)]) (rest := [.ref xm]) ⟨hx, hb, hml, hown, hts⟩ (c_X15_in l dC dI p1.toInt64 1 (10000) H.size) (va_cwS 3 hts gX15_fraction_X15_in rfl rfl rfl (by decide +kernel) ⟨Nat.le_of_ble_eq_true rfl, Nat.le_of_ble_eq_true rfl⟩) (pcS hPc hDc hKc hN) rfl rfl hl.1 rfl (lv_room (Nat.le_of_ble_eq_true rfl)) dX15_fraction_19 ⟨Nat.le_of_ble_eq_true rfl, Nat.le_of_ble_eq_true rfl⟩) hS (fun q _ h => hFc q h) hFc (fun r_8 u t H1 locs ht hvm hw_9 hB hz1 hk1 hS => ?_)
    obtain ⟨hP1, hK1, hD1⟩ := hB
    rw [ht] at hP1
    try dsimp only at hw_9
    obtain ⟨hP, hD⟩ := va_join (wr := [(xm, .inr (20, [.int 0, .int 0, .ref kn, .int 0, .int 0, .int 0, .ref ml, .ref cl, .ref rg, .ref tr, .ref (aK 0), .ref (aK 0), .ref fl, .int 0, .int 0, .int 0, .int 0, .int 0, .int 0, .int 0, .null])), (fl, .inr (4, [.int 0, .ref e0, .int 0]))]) (w1 := []) hP hD [] [0, 1] rfl rfl (by decide) (by decide) hk1 hFc hP1 hD1
    generalize H1 = H at hP hS ⊢
    have hP : va_P (dC, dI) vwCl [(xm, .inr (20, [.int 0, .int 0, .ref kn, .int 0, .int 0, .int 0, .ref ml, .ref cl, .ref rg, .ref tr, .ref (aK 0), .ref (aK 0), .ref fl, .int 0, .int 0, .int 0, .int 0, .int 0, .int 0, .int 0, .null])), (fl, .inr (4, [.int 0, .ref e0, .int 0]))] H := hP
    have hD : va_D A [(xm, .inr (20, [.int 0, .int 0, .ref kn, .int 0, .int 0, .int 0, .ref ml, .ref cl, .ref rg, .ref tr, .ref (aK 0), .ref (aK 0), .ref fl, .int 0, .int 0, .int 0, .int 0, .int 0, .int 0, .int 0, .null])), (fl, .inr (4, [.int 0, .ref e0, .int 0]))] := hD
    have hi_10 := in32 (1) (10000) (by decide) (by decide) hw_9
    refine lv_if_ne (tgt := 29) hx hb dX15_fraction_22 (by decide) (fun c22_11 => ?_) (fun c22_11 => ?_)
    · have hn_12 := (hi_10).elim (fun h => h.2) (fun h => absurd h.1 c22_11)
      refine lv_aload_n hx hb dX15_fraction_29 rfl (lv_at hl 0 rfl) ?_
      refine va_get (D := (dC, dI)) (ci := 20) (v := .ref fl) (C := RX15) (T := TX15) (N := 21) hx hb hts iWX15 hown hK hP 0 rfl rfl 12 (by decide) (hts (.fieldLink RX15 206 "BeaverhallModel" "fractions" "Ljava/util/ArrayList;") (by decide +kernel)) (fun _ h9 => h9) rfl dX15_fraction_30 ?_
      have hPc := hP.sub (ws' := [(fl, .inr (4, [.int 0, .ref e0, .int 0]))]) [1] rfl
      have hDc := hD.sub (ws' := [(fl, .inr (4, [.int 0, .ref e0, .int 0]))]) [1] (by decide) rfl
      have hKc := hK.sub (tys' := []) [] rfl
      have hFc := va_free (wc := [(fl, .inr (4, [.int 0, .ref e0, .int 0]))]) hD hS hA [1] rfl
      refine va_calli (va_runV (As := []) (rest := [.ref xm]) ⟨hx, hb, hml, hown, hts⟩ (c_Jx4a65c_size_8abf5 l dC dI fl e0 0 0 H.size) (cwV 0 hts gX15_fraction_Jx4a65c_size_8abf5 rfl rfl rfl (by decide +kernel) ⟨Nat.le_of_ble_eq_true rfl, Nat.le_of_ble_eq_true rfl⟩) (pcV hPc hDc hKc hN (ci := 4) (q0 := 0) rfl rfl) rfl rfl hl.1 rfl (lv_room (Nat.le_of_ble_eq_true rfl)) dX15_fraction_33 ⟨Nat.le_of_ble_eq_true rfl, Nat.le_of_ble_eq_true rfl⟩) hS (fun q _ h => hFc q h) hFc (fun r_13 u t H1 locs ht hvm hw_14 hB hz1 hk1 hS => ?_)
      obtain ⟨hP1, hK1, hD1⟩ := hB
      rw [ht] at hP1
      try dsimp only at hw_14
      obtain ⟨hP, hD⟩ := va_join (wr := [(xm, .inr (20, [.int 0, .int 0, .ref kn, .int 0, .int 0, .int 0, .ref ml, .ref cl, .ref rg, .ref tr, .ref (aK 0), .ref (aK 0), .ref fl, .int 0, .int 0, .int 0, .int 0, .int 0, .int 0, .int 0, .null]))]) (w1 := [(fl, .inr (4, [.int 0, .ref e0, .int 0]))]) hP hD [1] [0] rfl rfl (by decide) (by decide) hk1 hFc hP1 hD1
      generalize H1 = H at hP hS ⊢
      have hP : va_P (dC, dI) vwCl [(xm, .inr (20, [.int 0, .int 0, .ref kn, .int 0, .int 0, .int 0, .ref ml, .ref cl, .ref rg, .ref tr, .ref (aK 0), .ref (aK 0), .ref fl, .int 0, .int 0, .int 0, .int 0, .int 0, .int 0, .int 0, .null])), (fl, .inr (4, [.int 0, .ref e0, .int 0]))] H := hP
      have hD : va_D A [(xm, .inr (20, [.int 0, .int 0, .ref kn, .int 0, .int 0, .int 0, .ref ml, .ref cl, .ref rg, .ref tr, .ref (aK 0), .ref (aK 0), .ref fl, .int 0, .int 0, .int 0, .int 0, .int 0, .int 0, .int 0, .null])), (fl, .inr (4, [.int 0, .ref e0, .int 0]))] := hD
      subst hw_14
      refine lv_bipush (v := 10) hx hb dX15_fraction_36 (by decide) ?_
      refine lv_icmp_ne (tgt := 45) hx hb dX15_fraction_38 (by decide) (fun c38_15 => ?_) (fun c38_15 => ?_)
      · refine lv_iconst (v := 0) hx hb dX15_fraction_45 (by decide) ?_
        refine va_put (D := (dC, dI)) (ci := 20) (v := .int 0) (ty := .int) (C := RX15) (T := TX15) (N := 21) hx hb hts iWX15 tyX15 tyX15_ok nmX15 hown hK hP hD hS 0 rfl rfl 5 (by decide) (hts (.fieldLink RX15 209 "BeaverhallModel" "thrown" "I") (by decide +kernel)) (fun _ h9 => h9) rfl (by decide +kernel) rfl rfl (Nat.le_of_ble_eq_true rfl) dX15_fraction_46 (fun H locs hP hD hS => ?_)
        have hP : va_P (dC, dI) vwCl [(xm, .inr (20, [.int 0, .int 0, .ref kn, .int 0, .int 0, .int 0, .ref ml, .ref cl, .ref rg, .ref tr, .ref (aK 0), .ref (aK 0), .ref fl, .int 0, .int 0, .int 0, .int 0, .int 0, .int 0, .int 0, .null])), (fl, .inr (4, [.int 0, .ref e0, .int 0]))] H := hP
        have hD : va_D A [(xm, .inr (20, [.int 0, .int 0, .ref kn, .int 0, .int 0, .int 0, .ref ml, .ref cl, .ref rg, .ref tr, .ref (aK 0), .ref (aK 0), .ref fl, .int 0, .int 0, .int 0, .int 0, .int 0, .int 0, .int 0, .null])), (fl, .inr (4, [.int 0, .ref e0, .int 0]))] := hD
        refine lv_aload_n hx hb dX15_fraction_49 rfl (lv_at hl 0 rfl) ?_
        refine va_get (D := (dC, dI)) (ci := 20) (v := .int 0) (C := RX15) (T := TX15) (N := 21) hx hb hts iWX15 hown hK hP 0 rfl rfl 5 (by decide) (hts (.fieldLink RX15 209 "BeaverhallModel" "thrown" "I") (by decide +kernel)) (fun _ h9 => h9) rfl dX15_fraction_50 ?_
        refine lv_if_le (tgt := 58) hx hb dX15_fraction_53 (by decide) (fun c53_16 => ?_) (fun c53_16 => ?_)
        · refine lv_aload_n hx hb dX15_fraction_58 rfl (lv_at hl 0 rfl) ?_
          refine va_get (D := (dC, dI)) (ci := 20) (v := .ref fl) (C := RX15) (T := TX15) (N := 21) hx hb hts iWX15 hown hK hP 0 rfl rfl 12 (by decide) (hts (.fieldLink RX15 206 "BeaverhallModel" "fractions" "Ljava/util/ArrayList;") (by decide +kernel)) (fun _ h9 => h9) rfl dX15_fraction_59 ?_
          refine lv_iconst (v := 2) hx hb dX15_fraction_62 (by decide) ?_
          refine va_newa (atype := .int) (ty := .int) (a0 := (2, .inl (fun _ => 0))) (N' := 2) hx hb (hts (.arrayClass .int) (by decide +kernel)) rfl hK hP hD hS hA (fun _ => rfl) (by decide) (by decide) (Nat.le_of_ble_eq_true rfl) (Nat.le_of_ble_eq_true rfl) (Nat.le_of_ble_eq_true rfl) dX15_fraction_63 (fun q_18 cA_17 H hK hP hD hS => ?_)
          have ecA_17 : cI = cA_17 := cA_one hK (i := 0) (j := 1) rfl rfl
          subst ecA_17
          have hK := hK.sub (tys' := [(cI, .int)]) [0] rfl
          have hP : va_P (dC, dI) vwCl [(xm, .inr (20, [.int 0, .int 0, .ref kn, .int 0, .int 0, .int 0, .ref ml, .ref cl, .ref rg, .ref tr, .ref (aK 0), .ref (aK 0), .ref fl, .int 0, .int 0, .int 0, .int 0, .int 0, .int 0, .int 0, .null])), (fl, .inr (4, [.int 0, .ref e0, .int 0])), (q_18, .inl (cI, 2, .inl (fun _ => 0)))] H := hP
          have hD : va_D A [(xm, .inr (20, [.int 0, .int 0, .ref kn, .int 0, .int 0, .int 0, .ref ml, .ref cl, .ref rg, .ref tr, .ref (aK 0), .ref (aK 0), .ref fl, .int 0, .int 0, .int 0, .int 0, .int 0, .int 0, .int 0, .null])), (fl, .inr (4, [.int 0, .ref e0, .int 0])), (q_18, .inl (cI, 2, .inl (fun _ => 0)))] := hD
          refine W.widen (k := 1) (n := 2) (Nat.le_of_ble_eq_true rfl) (Nat.le_of_ble_eq_true rfl) ?_
          refine lv_dup hx hb dX15_fraction_65 rfl ?_
          refine lv_iconst (v := 0) hx hb dX15_fraction_66 (by decide) ?_
          refine lv_iload_n hx hb dX15_fraction_67 rfl (lv_at hl 1 rfl) ?_
          refine va_iast hx hb hK hP hD hS 2 0 rfl rfl (show vp_in (nI 0) 2 from vp_in_nI (by decide) (by decide)) dX15_fraction_68 (fun H locs hP hD hS => ?_)
          obtain ⟨f_19, ef_19⟩ : ∃ z, z = (upd (fun _ => 0) ((0 : Int32)).toNatClampNeg p0) := ⟨_, rfl⟩
          have hP : va_P (dC, dI) vwCl [(xm, .inr (20, [.int 0, .int 0, .ref kn, .int 0, .int 0, .int 0, .ref ml, .ref cl, .ref rg, .ref tr, .ref (aK 0), .ref (aK 0), .ref fl, .int 0, .int 0, .int 0, .int 0, .int 0, .int 0, .int 0, .null])), (fl, .inr (4, [.int 0, .ref e0, .int 0])), (q_18, .inl (cI, 2, .inl f_19))] H := by rw [ef_19]; exact hP
          have hD : va_D A [(xm, .inr (20, [.int 0, .int 0, .ref kn, .int 0, .int 0, .int 0, .ref ml, .ref cl, .ref rg, .ref tr, .ref (aK 0), .ref (aK 0), .ref fl, .int 0, .int 0, .int 0, .int 0, .int 0, .int 0, .int 0, .null])), (fl, .inr (4, [.int 0, .ref e0, .int 0])), (q_18, .inl (cI, 2, .inl f_19))] := by rw [ef_19]; exact hD
          refine lv_dup hx hb dX15_fraction_69 rfl ?_
          refine lv_iconst (v := 1) hx hb dX15_fraction_70 (by decide) ?_
          refine lv_iload_n hx hb dX15_fraction_71 rfl (lv_at hl 2 rfl) ?_
          refine va_iast hx hb hK hP hD hS 2 0 rfl rfl (show vp_in (nI 1) 2 from vp_in_nI (by decide) (by decide)) dX15_fraction_72 (fun H locs hP hD hS => ?_)
          obtain ⟨f_20, ef_20⟩ : ∃ z, z = (upd f_19 ((1 : Int32)).toNatClampNeg p1) := ⟨_, rfl⟩
          have hP : va_P (dC, dI) vwCl [(xm, .inr (20, [.int 0, .int 0, .ref kn, .int 0, .int 0, .int 0, .ref ml, .ref cl, .ref rg, .ref tr, .ref (aK 0), .ref (aK 0), .ref fl, .int 0, .int 0, .int 0, .int 0, .int 0, .int 0, .int 0, .null])), (fl, .inr (4, [.int 0, .ref e0, .int 0])), (q_18, .inl (cI, 2, .inl f_20))] H := by rw [ef_20]; exact hP
          have hD : va_D A [(xm, .inr (20, [.int 0, .int 0, .ref kn, .int 0, .int 0, .int 0, .ref ml, .ref cl, .ref rg, .ref tr, .ref (aK 0), .ref (aK 0), .ref fl, .int 0, .int 0, .int 0, .int 0, .int 0, .int 0, .int 0, .null])), (fl, .inr (4, [.int 0, .ref e0, .int 0])), (q_18, .inl (cI, 2, .inl f_20))] := by rw [ef_20]; exact hD
          have hPc := hP.sub (ws' := [(fl, .inr (4, [.int 0, .ref e0, .int 0])), (q_18, .inl (cI, 2, .inl f_20))]) [1, 2] rfl
          have hDc := hD.sub (ws' := [(fl, .inr (4, [.int 0, .ref e0, .int 0])), (q_18, .inl (cI, 2, .inl f_20))]) [1, 2] (by decide) rfl
          have hKc := hK.sub (tys' := [(cI, .int)]) [0] rfl
          have hFc := va_free (wc := [(fl, .inr (4, [.int 0, .ref e0, .int 0])), (q_18, .inl (cI, 2, .inl f_20))]) hD hS hA [1, 2] rfl
          refine va_calli (va_runV (As := [.ref q_18]) (rest := []) ⟨hx, hb, hml, hown, hts⟩ (c_Jx4a65c_add_9ea2d l dC dI e0 aK aV cI fl q_18 (.inl (cI, 2, .inl f_20)) "[I" ooH_ints 0 H.size) (cwV 1 hts gX15_fraction_Jx4a65c_add_9ea2d rfl rfl rfl (by decide +kernel) ⟨Nat.le_of_ble_eq_true rfl, Nat.le_of_ble_eq_true rfl⟩) (pcVz (zM_ok e0 aK aV) hPc hDc hKc hN hZ hS hFc (ci := 4) (q0 := 0) rfl rfl) rfl rfl hl.1 rfl (lv_room (Nat.le_of_ble_eq_true rfl)) dX15_fraction_73 ⟨Nat.le_of_ble_eq_true rfl, Nat.le_of_ble_eq_true rfl⟩) hS (fun q _ h => hFc q h) hFc (fun r_23 u t H1 locs ht hvm hw_24 hB hz1 hk1 hS => ?_)
          obtain ⟨q_21, m_22⟩ := u
          obtain ⟨hP1, hK1, hD1⟩ := hB
          rw [ht] at hP1
          try dsimp only at hw_24
          obtain ⟨hP, hD⟩ := va_join (wr := [(xm, .inr (20, [.int 0, .int 0, .ref kn, .int 0, .int 0, .int 0, .ref ml, .ref cl, .ref rg, .ref tr, .ref (aK 0), .ref (aK 0), .ref fl, .int 0, .int 0, .int 0, .int 0, .int 0, .int 0, .int 0, .null]))]) (w1 := [(fl, .inr (4, [.int m_22, .ref q_21, .int 1])), (q_18, .inl (cI, 2, .inl f_20))]) hP hD [1, 2] [0] rfl rfl (by decide) (by decide) hk1 hFc hP1 hD1
          generalize H1 = H at hP hS ⊢
          have hP : va_P (dC, dI) vwCl [(xm, .inr (20, [.int 0, .int 0, .ref kn, .int 0, .int 0, .int 0, .ref ml, .ref cl, .ref rg, .ref tr, .ref (aK 0), .ref (aK 0), .ref fl, .int 0, .int 0, .int 0, .int 0, .int 0, .int 0, .int 0, .null])), (fl, .inr (4, [.int m_22, .ref q_21, .int 1])), (q_18, .inl (cI, 2, .inl f_20))] H := hP
          have hD : va_D A [(xm, .inr (20, [.int 0, .int 0, .ref kn, .int 0, .int 0, .int 0, .ref ml, .ref cl, .ref rg, .ref tr, .ref (aK 0), .ref (aK 0), .ref fl, .int 0, .int 0, .int 0, .int 0, .int 0, .int 0, .int 0, .null])), (fl, .inr (4, [.int m_22, .ref q_21, .int 1])), (q_18, .inl (cI, 2, .inl f_20))] := hD
          refine W.widen (k := 2) (n := 12) (Nat.le_of_ble_eq_true rfl) (Nat.le_of_ble_eq_true rfl) ?_
          refine lv_pop hx hb dX15_fraction_76 rfl ?_
          refine lv_aload_n hx hb dX15_fraction_77 rfl (lv_at hl 0 rfl) ?_
          refine va_get (D := (dC, dI)) (ci := 20) (v := .ref fl) (C := RX15) (T := TX15) (N := 21) hx hb hts iWX15 hown hK hP 0 rfl rfl 12 (by decide) (hts (.fieldLink RX15 206 "BeaverhallModel" "fractions" "Ljava/util/ArrayList;") (by decide +kernel)) (fun _ h9 => h9) rfl dX15_fraction_78 ?_
          have hPc := hP.sub (ws' := [(fl, .inr (4, [.int m_22, .ref q_21, .int 1]))]) [1] rfl
          have hDc := hD.sub (ws' := [(fl, .inr (4, [.int m_22, .ref q_21, .int 1]))]) [1] (by decide) rfl
          have hKc := hK.sub (tys' := []) [] rfl
          have hFc := va_free (wc := [(fl, .inr (4, [.int m_22, .ref q_21, .int 1]))]) hD hS hA [1] rfl
          refine va_calli (va_runV (As := []) (rest := []) ⟨hx, hb, hml, hown, hts⟩ (c_Jx4a65c_size_8abf5 l dC dI fl q_21 m_22 1 H.size) (cwV 0 hts gX15_fraction_Jx4a65c_size_8abf5 rfl rfl rfl (by decide +kernel) ⟨Nat.le_of_ble_eq_true rfl, Nat.le_of_ble_eq_true rfl⟩) (pcV hPc hDc hKc hN (ci := 4) (q0 := 0) rfl rfl) rfl rfl hl.1 rfl (lv_room (Nat.le_of_ble_eq_true rfl)) dX15_fraction_81 ⟨Nat.le_of_ble_eq_true rfl, Nat.le_of_ble_eq_true rfl⟩) hS (fun q _ h => hFc q h) hFc (fun r_25 u t H1 locs ht hvm hw_26 hB hz1 hk1 hS => ?_)
          obtain ⟨hP1, hK1, hD1⟩ := hB
          rw [ht] at hP1
          try dsimp only at hw_26
          obtain ⟨hP, hD⟩ := va_join (wr := [(xm, .inr (20, [.int 0, .int 0, .ref kn, .int 0, .int 0, .int 0, .ref ml, .ref cl, .ref rg, .ref tr, .ref (aK 0), .ref (aK 0), .ref fl, .int 0, .int 0, .int 0, .int 0, .int 0, .int 0, .int 0, .null])), (q_18, .inl (cI, 2, .inl f_20))]) (w1 := [(fl, .inr (4, [.int m_22, .ref q_21, .int 1]))]) hP hD [1] [0, 2] rfl rfl (by decide) (by decide) hk1 hFc hP1 hD1
          generalize H1 = H at hP hS ⊢
          have hP : va_P (dC, dI) vwCl [(xm, .inr (20, [.int 0, .int 0, .ref kn, .int 0, .int 0, .int 0, .ref ml, .ref cl, .ref rg, .ref tr, .ref (aK 0), .ref (aK 0), .ref fl, .int 0, .int 0, .int 0, .int 0, .int 0, .int 0, .int 0, .null])), (q_18, .inl (cI, 2, .inl f_20)), (fl, .inr (4, [.int m_22, .ref q_21, .int 1]))] H := hP
          have hD : va_D A [(xm, .inr (20, [.int 0, .int 0, .ref kn, .int 0, .int 0, .int 0, .ref ml, .ref cl, .ref rg, .ref tr, .ref (aK 0), .ref (aK 0), .ref fl, .int 0, .int 0, .int 0, .int 0, .int 0, .int 0, .int 0, .null])), (q_18, .inl (cI, 2, .inl f_20)), (fl, .inr (4, [.int m_22, .ref q_21, .int 1]))] := hD
          subst hw_26
          have hP9 := hP.sub (ws' := [(xm, .inr (20, [.int 0, .int 0, .ref kn, .int 0, .int 0, .int 0, .ref ml, .ref cl, .ref rg, .ref tr, .ref (aK 0), .ref (aK 0), .ref fl, .int 0, .int 0, .int 0, .int 0, .int 0, .int 0, .int 0, .null]))]) [0] rfl
          have hD9 := hD.sub (ws' := [(xm, .inr (20, [.int 0, .int 0, .ref kn, .int 0, .int 0, .int 0, .ref ml, .ref cl, .ref rg, .ref tr, .ref (aK 0), .ref (aK 0), .ref fl, .int 0, .int 0, .int 0, .int 0, .int 0, .int 0, .int 0, .null]))]) [0] (by decide) rfl
          have hK9 := hK.sub (tys' := [(cI, .int)]) [0] rfl
          exact W.iret (v := 1) hx hb hr (fun t ht hW => ⟨⟨1, [.int 0, .int 0, .ref kn, .int 0, .int 0, .int 0, .ref ml, .ref cl, .ref rg, .ref tr, .ref (aK 0), .ref (aK 0), .ref fl, .int 0, .int 0, .int 0, .int 0, .int 0, .int 0, .int 0, .null], rfl, (Or.inl ⟨⟨hn_7, hn_12⟩, rfl, rfl⟩), ⟨by rw [ht]; exact hP9, va_K.moved hW.alike hK9, hD9⟩⟩, hS.F ht⟩) hS.2.2 dX15_fraction_84
        · exact (c53_16 (by decide)).elim
      · exact absurd c38_15 (by decide)
    · have hn_27 := (hi_10).elim (fun h => absurd (h.1.symm.trans c22_11) (by decide)) (fun h => h.2)
      refine lv_iconst (v := 1) hx hb dX15_fraction_25 (by decide) ?_
      refine lv_goto (tgt := 46) hx hb dX15_fraction_26 (by decide) ?_
      refine va_put (D := (dC, dI)) (ci := 20) (v := .int 1) (ty := .int) (C := RX15) (T := TX15) (N := 21) hx hb hts iWX15 tyX15 tyX15_ok nmX15 hown hK hP hD hS 0 rfl rfl 5 (by decide) (hts (.fieldLink RX15 209 "BeaverhallModel" "thrown" "I") (by decide +kernel)) (fun _ h9 => h9) rfl (by decide +kernel) rfl rfl (Nat.le_of_ble_eq_true rfl) dX15_fraction_46 (fun H locs hP hD hS => ?_)
      have hP : va_P (dC, dI) vwCl [(xm, .inr (20, [.int 0, .int 0, .ref kn, .int 0, .int 0, .int 1, .ref ml, .ref cl, .ref rg, .ref tr, .ref (aK 0), .ref (aK 0), .ref fl, .int 0, .int 0, .int 0, .int 0, .int 0, .int 0, .int 0, .null])), (fl, .inr (4, [.int 0, .ref e0, .int 0]))] H := hP
      have hD : va_D A [(xm, .inr (20, [.int 0, .int 0, .ref kn, .int 0, .int 0, .int 1, .ref ml, .ref cl, .ref rg, .ref tr, .ref (aK 0), .ref (aK 0), .ref fl, .int 0, .int 0, .int 0, .int 0, .int 0, .int 0, .int 0, .null])), (fl, .inr (4, [.int 0, .ref e0, .int 0]))] := hD
      refine lv_aload_n hx hb dX15_fraction_49 rfl (lv_at hl 0 rfl) ?_
      refine va_get (D := (dC, dI)) (ci := 20) (v := .int 1) (C := RX15) (T := TX15) (N := 21) hx hb hts iWX15 hown hK hP 0 rfl rfl 5 (by decide) (hts (.fieldLink RX15 209 "BeaverhallModel" "thrown" "I") (by decide +kernel)) (fun _ h9 => h9) rfl dX15_fraction_50 ?_
      refine lv_if_le (tgt := 58) hx hb dX15_fraction_53 (by decide) (fun c53_28 => ?_) (fun c53_28 => ?_)
      · exact absurd c53_28 (by decide)
      · refine lv_iconst (v := 0) hx hb dX15_fraction_56 (by decide) ?_
        have hP9 := hP.sub (ws' := [(xm, .inr (20, [.int 0, .int 0, .ref kn, .int 0, .int 0, .int 1, .ref ml, .ref cl, .ref rg, .ref tr, .ref (aK 0), .ref (aK 0), .ref fl, .int 0, .int 0, .int 0, .int 0, .int 0, .int 0, .int 0, .null]))]) [0] rfl
        have hD9 := hD.sub (ws' := [(xm, .inr (20, [.int 0, .int 0, .ref kn, .int 0, .int 0, .int 1, .ref ml, .ref cl, .ref rg, .ref tr, .ref (aK 0), .ref (aK 0), .ref fl, .int 0, .int 0, .int 0, .int 0, .int 0, .int 0, .int 0, .null]))]) [0] (by decide) rfl
        have hK9 := hK.sub (tys' := [(cI, .int)]) [0] rfl
        refine W.widen (k := 2) (n := 12) (Nat.le_of_ble_eq_true rfl) (Nat.le_of_ble_eq_true rfl) ?_
        exact W.iret (v := 0) hx hb hr (fun t ht hW => ⟨⟨0, [.int 0, .int 0, .ref kn, .int 0, .int 0, .int 1, .ref ml, .ref cl, .ref rg, .ref tr, .ref (aK 0), .ref (aK 0), .ref fl, .int 0, .int 0, .int 0, .int 0, .int 0, .int 0, .int 0, .null], rfl, (Or.inr ⟨(fun h9 => hn_27 h9.2), rfl⟩), ⟨by rw [ht]; exact hP9, va_K.moved hW.alike hK9, hD9⟩⟩, hS.F ht⟩) hS.2.2 dX15_fraction_57

set_option maxHeartbeats 4000000 in
set_option maxRecDepth 100000 in
/-- X15_walk -/
theorem c_X15_walk (l : Launch) (dC : Nat → ClassId) (dI : Nat → Nat → Nat) (xm ml cl fl kn rg tr : Nat) (e0 : Nat) (aK aV : Nat → Nat) (p0 : Int64) (p1 : Int32) (sz : Nat) : Met l yX15_walk wsX15_walk ({ frames := 4, cells := 1, slots := 4, locals := 120 }) (va_Pc [.ref xm, .long p0, .int p1] (cPCz (zM e0 aK aV) dC dI [(xm, .inr (20, [.int 0, .int 0, .ref kn, .int 0, .int 0, .int 0, .ref ml, .ref cl, .ref rg, .ref tr, .ref (aK 0), .ref (aK 0), .ref fl, .int 0, .int 0, .int 0, .int 0, .int 0, .int 0, .int 0, .null])), (fl, .inr (4, [.int 0, .ref e0, .int 0]))] [] sz)) (va_Ql (fun (r : Int64) (u : List Value) => (pWalk p0 p1 ∧ u[5]? = some (.int 0) ∧ r = p0) ∨ (¬ pWalk p0 p1 ∧ u[5]? = some (.int 1))) (fun (u : List Value) t => cQB dC dI [(xm, .inr (20, u))] [] (va_A [(xm, .inr (20, [.int 0, .int 0, .ref kn, .int 0, .int 0, .int 0, .ref ml, .ref cl, .ref rg, .ref tr, .ref (aK 0), .ref (aK 0), .ref fl, .int 0, .int 0, .int 0, .int 0, .int 0, .int 0, .int 0, .null])), (fl, .inr (4, [.int 0, .ref e0, .int 0]))] sz) t) (va_A [(xm, .inr (20, [.int 0, .int 0, .ref kn, .int 0, .int 0, .int 0, .ref ml, .ref cl, .ref rg, .ref tr, .ref (aK 0), .ref (aK 0), .ref fl, .int 0, .int 0, .int 0, .int 0, .int 0, .int 0, .int 0, .null])), (fl, .inr (4, [.int 0, .ref e0, .int 0]))] sz)) 1 4 (va_A [(xm, .inr (20, [.int 0, .int 0, .ref kn, .int 0, .int 0, .int 0, .ref ml, .ref cl, .ref rg, .ref tr, .ref (aK 0), .ref (aK 0), .ref fl, .int 0, .int 0, .int 0, .int 0, .int 0, .int 0, .int 0, .null])), (fl, .inr (4, [.int 0, .ref e0, .int 0]))] sz) := by
  refine Met.ofW (cc := cX15_walk) (maxL := 12) (ret := (some .long)) (by decide) rfl ?_
  intro p e s m args below meth c s₁ B hml hv
  obtain ⟨rfl, ⟨hsz, hP, hK, hD0, hN⟩, hZ⟩ := hv
  have hx := B.exec
  have hb := B.bytes
  have hr := B.returns
  have hts := atoms_spec (ws := wsX15_walk) B.pre
  have hown : s.vm.findClass RX15 = some m.cls := findClass_of_methodNamed B.named
  have hlocks := B.notSynchronized
  subst hsz
  have hD := hD0.self (sz := s.heap.size)
  generalize hAe : va_A [(xm, .inr (20, [.int 0, .int 0, .ref kn, .int 0, .int 0, .int 0, .ref ml, .ref cl, .ref rg, .ref tr, .ref (aK 0), .ref (aK 0), .ref fl, .int 0, .int 0, .int 0, .int 0, .int 0, .int 0, .int 0, .null])), (fl, .inr (4, [.int 0, .ref e0, .int 0]))] s.heap.size = A at hD hZ ⊢
  have hA : ∀ q : Nat, s.heap.size ≤ q → A q := fun q h => by rw [← hAe]; exact Or.inr h
  have hS : va_S A s.heap s.heap [] := va_S.rf
  have hP : va_P (dC, dI) vwCl [(xm, .inr (20, [.int 0, .int 0, .ref kn, .int 0, .int 0, .int 0, .ref ml, .ref cl, .ref rg, .ref tr, .ref (aK 0), .ref (aK 0), .ref fl, .int 0, .int 0, .int 0, .int 0, .int 0, .int 0, .int 0, .null])), (fl, .inr (4, [.int 0, .ref e0, .int 0]))] s.heap := hP
  have hD : va_D A [(xm, .inr (20, [.int 0, .int 0, .ref kn, .int 0, .int 0, .int 0, .ref ml, .ref cl, .ref rg, .ref tr, .ref (aK 0), .ref (aK 0), .ref fl, .int 0, .int 0, .int 0, .int 0, .int 0, .int 0, .int 0, .null])), (fl, .inr (4, [.int 0, .ref e0, .int 0]))] := hD
  have hl := lv_entry ([.ref xm, .long p0, .int p1]) (n := 12) (Nat.le_of_ble_eq_true rfl)
  rw [lg_entry_eq]
  generalize (lg_sl ([.ref xm, .long p0, .int p1]) ++ List.replicate (12 - (lg_sl ([.ref xm, .long p0, .int p1])).length) Slot.unset).toArray = ls at hl ⊢
  have hl : lv_has ls 12 [(0, .ref xm), (1, .long p0), (3, .int p1)] := hl
  have iWX15 : ∀ w ∈ u_ws RX15 TX15 21, w ∈ wsX15_walk := by decide +kernel
  refine lv_aload_n hx hb dX15_walk_0 rfl (lv_at hl 0 rfl) ?_
  refine lv_lload_n hx hb dX15_walk_1 rfl (lv_at hl 1 rfl) ?_
  refine lv_lconst (v := 1) hx hb dX15_walk_2 (by decide) ?_
  refine lv_ldc2 (v := (1000000000)) hx hb hown (hts (.constantLong RX15 404 (1000000000)) (by decide +kernel)) dX15_walk_3 ?_
  have hPc := hP.sub (ws' := []) [] rfl
  have hDc := hD.sub (ws' := []) [] (by decide) rfl
  have hKc := hK.sub (tys' := []) [] rfl
  have hFc := va_free (wc := []) hD hS hA [] rfl
  refine va_calli (va_runS (As := [.long p0, .long 1, .long (1000000000)]) (rest := [.ref xm]) ⟨hx, hb, hml, hown, hts⟩ (c_X15_in l dC dI p0 1 (1000000000) s.heap.size) (va_cwS 3 hts gX15_walk_X15_in rfl rfl rfl (by decide +kernel) ⟨Nat.le_of_ble_eq_true rfl, Nat.le_of_ble_eq_true rfl⟩) (pcS hPc hDc hKc hN) rfl rfl hl.1 rfl (lv_room (Nat.le_of_ble_eq_true rfl)) dX15_walk_6 ⟨Nat.le_of_ble_eq_true rfl, Nat.le_of_ble_eq_true rfl⟩) hS (fun q _ h => hFc q h) hFc (fun r_1 u t H1 locs ht hvm hw_2 hB hz1 hk1 hS => ?_)
  obtain ⟨hP1, hK1, hD1⟩ := hB
  rw [ht] at hP1
  try dsimp only at hw_2
  obtain ⟨hP, hD⟩ := va_join (wr := [(xm, .inr (20, [.int 0, .int 0, .ref kn, .int 0, .int 0, .int 0, .ref ml, .ref cl, .ref rg, .ref tr, .ref (aK 0), .ref (aK 0), .ref fl, .int 0, .int 0, .int 0, .int 0, .int 0, .int 0, .int 0, .null])), (fl, .inr (4, [.int 0, .ref e0, .int 0]))]) (w1 := []) hP hD [] [0, 1] rfl rfl (by decide) (by decide) hk1 hFc hP1 hD1
  generalize H1 = H at hP hS ⊢
  have hP : va_P (dC, dI) vwCl [(xm, .inr (20, [.int 0, .int 0, .ref kn, .int 0, .int 0, .int 0, .ref ml, .ref cl, .ref rg, .ref tr, .ref (aK 0), .ref (aK 0), .ref fl, .int 0, .int 0, .int 0, .int 0, .int 0, .int 0, .int 0, .null])), (fl, .inr (4, [.int 0, .ref e0, .int 0]))] H := hP
  have hD : va_D A [(xm, .inr (20, [.int 0, .int 0, .ref kn, .int 0, .int 0, .int 0, .ref ml, .ref cl, .ref rg, .ref tr, .ref (aK 0), .ref (aK 0), .ref fl, .int 0, .int 0, .int 0, .int 0, .int 0, .int 0, .int 0, .null])), (fl, .inr (4, [.int 0, .ref e0, .int 0]))] := hD
  refine lv_if_eq (tgt := 28) hx hb dX15_walk_9 (by decide) (fun c9_3 => ?_) (fun c9_3 => ?_)
  · have hn_4 := (hw_2).elim (fun h => absurd (h.1.symm.trans c9_3) (by decide)) (fun h => h.2)
    refine lv_iconst (v := 1) hx hb dX15_walk_28 (by decide) ?_
    refine va_put (D := (dC, dI)) (ci := 20) (v := .int 1) (ty := .int) (C := RX15) (T := TX15) (N := 21) hx hb hts iWX15 tyX15 tyX15_ok nmX15 hown hK hP hD hS 0 rfl rfl 5 (by decide) (hts (.fieldLink RX15 209 "BeaverhallModel" "thrown" "I") (by decide +kernel)) (fun _ h9 => h9) rfl (by decide +kernel) rfl rfl (Nat.le_of_ble_eq_true rfl) dX15_walk_29 (fun H locs hP hD hS => ?_)
    have hP : va_P (dC, dI) vwCl [(xm, .inr (20, [.int 0, .int 0, .ref kn, .int 0, .int 0, .int 1, .ref ml, .ref cl, .ref rg, .ref tr, .ref (aK 0), .ref (aK 0), .ref fl, .int 0, .int 0, .int 0, .int 0, .int 0, .int 0, .int 0, .null])), (fl, .inr (4, [.int 0, .ref e0, .int 0]))] H := hP
    have hD : va_D A [(xm, .inr (20, [.int 0, .int 0, .ref kn, .int 0, .int 0, .int 1, .ref ml, .ref cl, .ref rg, .ref tr, .ref (aK 0), .ref (aK 0), .ref fl, .int 0, .int 0, .int 0, .int 0, .int 0, .int 0, .int 0, .null])), (fl, .inr (4, [.int 0, .ref e0, .int 0]))] := hD
    refine lv_aload_n hx hb dX15_walk_32 rfl (lv_at hl 0 rfl) ?_
    refine va_get (D := (dC, dI)) (ci := 20) (v := .int 1) (C := RX15) (T := TX15) (N := 21) hx hb hts iWX15 hown hK hP 0 rfl rfl 5 (by decide) (hts (.fieldLink RX15 209 "BeaverhallModel" "thrown" "I") (by decide +kernel)) (fun _ h9 => h9) rfl dX15_walk_33 ?_
    refine lv_if_le (tgt := 41) hx hb dX15_walk_36 (by decide) (fun c36_5 => ?_) (fun c36_5 => ?_)
    · exact absurd c36_5 (by decide)
    · refine lv_lconst (v := 0) hx hb dX15_walk_39 (by decide) ?_
      have hP9 := hP.sub (ws' := [(xm, .inr (20, [.int 0, .int 0, .ref kn, .int 0, .int 0, .int 1, .ref ml, .ref cl, .ref rg, .ref tr, .ref (aK 0), .ref (aK 0), .ref fl, .int 0, .int 0, .int 0, .int 0, .int 0, .int 0, .int 0, .null]))]) [0] rfl
      have hD9 := hD.sub (ws' := [(xm, .inr (20, [.int 0, .int 0, .ref kn, .int 0, .int 0, .int 1, .ref ml, .ref cl, .ref rg, .ref tr, .ref (aK 0), .ref (aK 0), .ref fl, .int 0, .int 0, .int 0, .int 0, .int 0, .int 0, .int 0, .null]))]) [0] (by decide) rfl
      have hK9 := hK.sub (tys' := []) [] rfl
      refine W.widen (k := 1) (n := 4) (Nat.le_of_ble_eq_true rfl) (Nat.le_of_ble_eq_true rfl) ?_
      exact W.lret (v := 0) hx hb hr (fun t ht hW => ⟨⟨0, [.int 0, .int 0, .ref kn, .int 0, .int 0, .int 1, .ref ml, .ref cl, .ref rg, .ref tr, .ref (aK 0), .ref (aK 0), .ref fl, .int 0, .int 0, .int 0, .int 0, .int 0, .int 0, .int 0, .null], rfl, (Or.inr ⟨(fun h9 => hn_4 h9.1), rfl⟩), ⟨by rw [ht]; exact hP9, va_K.moved hW.alike hK9, hD9⟩⟩, hS.F ht⟩) hS.2.2 dX15_walk_40
  · have hn_6 := (hw_2).elim (fun h => h.2) (fun h => absurd h.1 c9_3)
    refine lv_iload_n hx hb dX15_walk_12 rfl (lv_at hl 2 rfl) ?_
    refine lv_i2l hx hb dX15_walk_13 rfl ?_
    refine lv_lconst (v := 0) hx hb dX15_walk_14 (by decide) ?_
    refine lv_ldc2 (v := (5000)) hx hb hown (hts (.constantLong RX15 253 (5000)) (by decide +kernel)) dX15_walk_15 ?_
    have hPc := hP.sub (ws' := []) [] rfl
    have hDc := hD.sub (ws' := []) [] (by decide) rfl
    have hKc := hK.sub (tys' := []) [] rfl
    have hFc := va_free (wc := []) hD hS hA [] rfl
    refine va_calli (va_runS (As := [.long p1.toInt64, .long 0, .long (5000)]) (rest := [.ref xm]) ⟨hx, hb, hml, hown, hts⟩ (c_X15_in l dC dI p1.toInt64 0 (5000) H.size) (va_cwS 3 hts gX15_walk_X15_in rfl rfl rfl (by decide +kernel) ⟨Nat.le_of_ble_eq_true rfl, Nat.le_of_ble_eq_true rfl⟩) (pcS hPc hDc hKc hN) rfl rfl hl.1 rfl (lv_room (Nat.le_of_ble_eq_true rfl)) dX15_walk_18 ⟨Nat.le_of_ble_eq_true rfl, Nat.le_of_ble_eq_true rfl⟩) hS (fun q _ h => hFc q h) hFc (fun r_7 u t H1 locs ht hvm hw_8 hB hz1 hk1 hS => ?_)
    obtain ⟨hP1, hK1, hD1⟩ := hB
    rw [ht] at hP1
    try dsimp only at hw_8
    obtain ⟨hP, hD⟩ := va_join (wr := [(xm, .inr (20, [.int 0, .int 0, .ref kn, .int 0, .int 0, .int 0, .ref ml, .ref cl, .ref rg, .ref tr, .ref (aK 0), .ref (aK 0), .ref fl, .int 0, .int 0, .int 0, .int 0, .int 0, .int 0, .int 0, .null])), (fl, .inr (4, [.int 0, .ref e0, .int 0]))]) (w1 := []) hP hD [] [0, 1] rfl rfl (by decide) (by decide) hk1 hFc hP1 hD1
    generalize H1 = H at hP hS ⊢
    have hP : va_P (dC, dI) vwCl [(xm, .inr (20, [.int 0, .int 0, .ref kn, .int 0, .int 0, .int 0, .ref ml, .ref cl, .ref rg, .ref tr, .ref (aK 0), .ref (aK 0), .ref fl, .int 0, .int 0, .int 0, .int 0, .int 0, .int 0, .int 0, .null])), (fl, .inr (4, [.int 0, .ref e0, .int 0]))] H := hP
    have hD : va_D A [(xm, .inr (20, [.int 0, .int 0, .ref kn, .int 0, .int 0, .int 0, .ref ml, .ref cl, .ref rg, .ref tr, .ref (aK 0), .ref (aK 0), .ref fl, .int 0, .int 0, .int 0, .int 0, .int 0, .int 0, .int 0, .null])), (fl, .inr (4, [.int 0, .ref e0, .int 0]))] := hD
    have hi_9 := in32 (0) (5000) (by decide) (by decide) hw_8
    refine lv_if_eq (tgt := 28) hx hb dX15_walk_21 (by decide) (fun c21_10 => ?_) (fun c21_10 => ?_)
    · have hn_11 := (hi_9).elim (fun h => absurd (h.1.symm.trans c21_10) (by decide)) (fun h => h.2)
      refine lv_iconst (v := 1) hx hb dX15_walk_28 (by decide) ?_
      refine va_put (D := (dC, dI)) (ci := 20) (v := .int 1) (ty := .int) (C := RX15) (T := TX15) (N := 21) hx hb hts iWX15 tyX15 tyX15_ok nmX15 hown hK hP hD hS 0 rfl rfl 5 (by decide) (hts (.fieldLink RX15 209 "BeaverhallModel" "thrown" "I") (by decide +kernel)) (fun _ h9 => h9) rfl (by decide +kernel) rfl rfl (Nat.le_of_ble_eq_true rfl) dX15_walk_29 (fun H locs hP hD hS => ?_)
      have hP : va_P (dC, dI) vwCl [(xm, .inr (20, [.int 0, .int 0, .ref kn, .int 0, .int 0, .int 1, .ref ml, .ref cl, .ref rg, .ref tr, .ref (aK 0), .ref (aK 0), .ref fl, .int 0, .int 0, .int 0, .int 0, .int 0, .int 0, .int 0, .null])), (fl, .inr (4, [.int 0, .ref e0, .int 0]))] H := hP
      have hD : va_D A [(xm, .inr (20, [.int 0, .int 0, .ref kn, .int 0, .int 0, .int 1, .ref ml, .ref cl, .ref rg, .ref tr, .ref (aK 0), .ref (aK 0), .ref fl, .int 0, .int 0, .int 0, .int 0, .int 0, .int 0, .int 0, .null])), (fl, .inr (4, [.int 0, .ref e0, .int 0]))] := hD
      refine lv_aload_n hx hb dX15_walk_32 rfl (lv_at hl 0 rfl) ?_
      refine va_get (D := (dC, dI)) (ci := 20) (v := .int 1) (C := RX15) (T := TX15) (N := 21) hx hb hts iWX15 hown hK hP 0 rfl rfl 5 (by decide) (hts (.fieldLink RX15 209 "BeaverhallModel" "thrown" "I") (by decide +kernel)) (fun _ h9 => h9) rfl dX15_walk_33 ?_
      refine lv_if_le (tgt := 41) hx hb dX15_walk_36 (by decide) (fun c36_12 => ?_) (fun c36_12 => ?_)
      · exact absurd c36_12 (by decide)
      · refine lv_lconst (v := 0) hx hb dX15_walk_39 (by decide) ?_
        have hP9 := hP.sub (ws' := [(xm, .inr (20, [.int 0, .int 0, .ref kn, .int 0, .int 0, .int 1, .ref ml, .ref cl, .ref rg, .ref tr, .ref (aK 0), .ref (aK 0), .ref fl, .int 0, .int 0, .int 0, .int 0, .int 0, .int 0, .int 0, .null]))]) [0] rfl
        have hD9 := hD.sub (ws' := [(xm, .inr (20, [.int 0, .int 0, .ref kn, .int 0, .int 0, .int 1, .ref ml, .ref cl, .ref rg, .ref tr, .ref (aK 0), .ref (aK 0), .ref fl, .int 0, .int 0, .int 0, .int 0, .int 0, .int 0, .int 0, .null]))]) [0] (by decide) rfl
        have hK9 := hK.sub (tys' := []) [] rfl
        refine W.widen (k := 1) (n := 4) (Nat.le_of_ble_eq_true rfl) (Nat.le_of_ble_eq_true rfl) ?_
        exact W.lret (v := 0) hx hb hr (fun t ht hW => ⟨⟨0, [.int 0, .int 0, .ref kn, .int 0, .int 0, .int 1, .ref ml, .ref cl, .ref rg, .ref tr, .ref (aK 0), .ref (aK 0), .ref fl, .int 0, .int 0, .int 0, .int 0, .int 0, .int 0, .int 0, .null], rfl, (Or.inr ⟨(fun h9 => hn_11 h9.2), rfl⟩), ⟨by rw [ht]; exact hP9, va_K.moved hW.alike hK9, hD9⟩⟩, hS.F ht⟩) hS.2.2 dX15_walk_40
    · have hn_13 := (hi_9).elim (fun h => h.2) (fun h => absurd h.1 c21_10)
      refine lv_iconst (v := 0) hx hb dX15_walk_24 (by decide) ?_
      refine lv_goto (tgt := 29) hx hb dX15_walk_25 (by decide) ?_
      refine va_put (D := (dC, dI)) (ci := 20) (v := .int 0) (ty := .int) (C := RX15) (T := TX15) (N := 21) hx hb hts iWX15 tyX15 tyX15_ok nmX15 hown hK hP hD hS 0 rfl rfl 5 (by decide) (hts (.fieldLink RX15 209 "BeaverhallModel" "thrown" "I") (by decide +kernel)) (fun _ h9 => h9) rfl (by decide +kernel) rfl rfl (Nat.le_of_ble_eq_true rfl) dX15_walk_29 (fun H locs hP hD hS => ?_)
      have hP : va_P (dC, dI) vwCl [(xm, .inr (20, [.int 0, .int 0, .ref kn, .int 0, .int 0, .int 0, .ref ml, .ref cl, .ref rg, .ref tr, .ref (aK 0), .ref (aK 0), .ref fl, .int 0, .int 0, .int 0, .int 0, .int 0, .int 0, .int 0, .null])), (fl, .inr (4, [.int 0, .ref e0, .int 0]))] H := hP
      have hD : va_D A [(xm, .inr (20, [.int 0, .int 0, .ref kn, .int 0, .int 0, .int 0, .ref ml, .ref cl, .ref rg, .ref tr, .ref (aK 0), .ref (aK 0), .ref fl, .int 0, .int 0, .int 0, .int 0, .int 0, .int 0, .int 0, .null])), (fl, .inr (4, [.int 0, .ref e0, .int 0]))] := hD
      refine lv_aload_n hx hb dX15_walk_32 rfl (lv_at hl 0 rfl) ?_
      refine va_get (D := (dC, dI)) (ci := 20) (v := .int 0) (C := RX15) (T := TX15) (N := 21) hx hb hts iWX15 hown hK hP 0 rfl rfl 5 (by decide) (hts (.fieldLink RX15 209 "BeaverhallModel" "thrown" "I") (by decide +kernel)) (fun _ h9 => h9) rfl dX15_walk_33 ?_
      refine lv_if_le (tgt := 41) hx hb dX15_walk_36 (by decide) (fun c36_14 => ?_) (fun c36_14 => ?_)
      · refine lv_lload_n hx hb dX15_walk_41 rfl (lv_at hl 1 rfl) ?_
        refine lv_lstore (lv' := [(4, .long p0), (0, .ref xm), (1, .long p0), (3, .int p1)]) hx hb dX15_walk_42 hl (by decide) rfl (fun ls hl => ?_)
        refine lv_aload_n hx hb dX15_walk_44 rfl (lv_at hl 1 rfl) ?_
        refine lv_iconst (v := 0) hx hb dX15_walk_45 (by decide) ?_
        refine va_put (D := (dC, dI)) (ci := 20) (v := .int 0) (ty := .int) (C := RX15) (T := TX15) (N := 21) hx hb hts iWX15 tyX15 tyX15_ok nmX15 hown hK hP hD hS 0 rfl rfl 13 (by decide) (hts (.fieldLink RX15 406 "BeaverhallModel" "walked" "I") (by decide +kernel)) (fun _ h9 => h9) rfl (by decide +kernel) rfl rfl (Nat.le_of_ble_eq_true rfl) dX15_walk_46 (fun H locs hP hD hS => ?_)
        have hP : va_P (dC, dI) vwCl [(xm, .inr (20, [.int 0, .int 0, .ref kn, .int 0, .int 0, .int 0, .ref ml, .ref cl, .ref rg, .ref tr, .ref (aK 0), .ref (aK 0), .ref fl, .int 0, .int 0, .int 0, .int 0, .int 0, .int 0, .int 0, .null])), (fl, .inr (4, [.int 0, .ref e0, .int 0]))] H := hP
        have hD : va_D A [(xm, .inr (20, [.int 0, .int 0, .ref kn, .int 0, .int 0, .int 0, .ref ml, .ref cl, .ref rg, .ref tr, .ref (aK 0), .ref (aK 0), .ref fl, .int 0, .int 0, .int 0, .int 0, .int 0, .int 0, .int 0, .null])), (fl, .inr (4, [.int 0, .ref e0, .int 0]))] := hD
        refine lv_aload_n hx hb dX15_walk_49 rfl (lv_at hl 1 rfl) ?_
        refine lv_lload hx hb dX15_walk_50 (lv_at hl 0 rfl) ?_
        have hPc := hP.sub (ws' := [(xm, .inr (20, [.int 0, .int 0, .ref kn, .int 0, .int 0, .int 0, .ref ml, .ref cl, .ref rg, .ref tr, .ref (aK 0), .ref (aK 0), .ref fl, .int 0, .int 0, .int 0, .int 0, .int 0, .int 0, .int 0, .null])), (fl, .inr (4, [.int 0, .ref e0, .int 0]))]) [0, 1] rfl
        have hDc := hD.sub (ws' := [(xm, .inr (20, [.int 0, .int 0, .ref kn, .int 0, .int 0, .int 0, .ref ml, .ref cl, .ref rg, .ref tr, .ref (aK 0), .ref (aK 0), .ref fl, .int 0, .int 0, .int 0, .int 0, .int 0, .int 0, .int 0, .null])), (fl, .inr (4, [.int 0, .ref e0, .int 0]))]) [0, 1] (by decide) rfl
        have hKc := hK.sub (tys' := []) [] rfl
        have hFc := va_free (wc := [(xm, .inr (20, [.int 0, .int 0, .ref kn, .int 0, .int 0, .int 0, .ref ml, .ref cl, .ref rg, .ref tr, .ref (aK 0), .ref (aK 0), .ref fl, .int 0, .int 0, .int 0, .int 0, .int 0, .int 0, .int 0, .null])), (fl, .inr (4, [.int 0, .ref e0, .int 0]))]) hD hS hA [0, 1] rfl
        refine va_callq (va_runV (As := [.long p0]) (rest := []) ⟨hx, hb, hml, hown, hts⟩ (c_X15_fitting l dC dI xm ml cl fl kn rg tr e0 aK aV p0 H.size) (cwV 1 hts gX15_walk_X15_fitting rfl rfl rfl (by decide +kernel) ⟨Nat.le_of_ble_eq_true rfl, Nat.le_of_ble_eq_true rfl⟩) (pcVz (zM_ok e0 aK aV) hPc hDc hKc hN hZ hS hFc (ci := 20) (q0 := 0) rfl rfl) rfl rfl hl.1 rfl (lv_room (Nat.le_of_ble_eq_true rfl)) dX15_walk_52 ⟨Nat.le_of_ble_eq_true rfl, Nat.le_of_ble_eq_true rfl⟩) hS (fun q _ h => hFc q h) hFc (fun r_15 u t H1 locs ht hvm hw_16 hB hz1 hk1 hS => ?_)
        obtain ⟨hP1, hK1, hD1⟩ := hB
        rw [ht] at hP1
        try dsimp only at hw_16
        obtain ⟨hP, hD⟩ := va_join (wr := []) (w1 := [(xm, .inr (20, [.int 0, .int 0, .ref kn, .int 0, .int 0, .int 0, .ref ml, .ref cl, .ref rg, .ref tr, .ref (aK 0), .ref (aK 0), .ref fl, .int 0, .int 0, .int 0, .int 0, .int 0, .int 0, .int 0, .null])), (fl, .inr (4, [.int 0, .ref e0, .int 0]))]) hP hD [0, 1] [] rfl rfl (by decide) (by decide) hk1 hFc hP1 hD1
        generalize H1 = H at hP hS ⊢
        have hP : va_P (dC, dI) vwCl [(xm, .inr (20, [.int 0, .int 0, .ref kn, .int 0, .int 0, .int 0, .ref ml, .ref cl, .ref rg, .ref tr, .ref (aK 0), .ref (aK 0), .ref fl, .int 0, .int 0, .int 0, .int 0, .int 0, .int 0, .int 0, .null])), (fl, .inr (4, [.int 0, .ref e0, .int 0]))] H := hP
        have hD : va_D A [(xm, .inr (20, [.int 0, .int 0, .ref kn, .int 0, .int 0, .int 0, .ref ml, .ref cl, .ref rg, .ref tr, .ref (aK 0), .ref (aK 0), .ref fl, .int 0, .int 0, .int 0, .int 0, .int 0, .int 0, .int 0, .null])), (fl, .inr (4, [.int 0, .ref e0, .int 0]))] := hD
        refine W.widen (k := 1) (n := 4) (Nat.le_of_ble_eq_true rfl) (Nat.le_of_ble_eq_true rfl) ?_
        subst hw_16
        refine lv_astoreN (lv' := [(6, .null), (4, .long p0), (0, .ref xm), (1, .long p0), (3, .int p1)]) hx hb dX15_walk_55 hl (by decide) rfl (fun ls hl => ?_)
        refine lv_iconst (v := 0) hx hb dX15_walk_57 (by decide) ?_
        refine lv_istore (lv' := [(7, .int 0), (6, .null), (4, .long p0), (0, .ref xm), (1, .long p0), (3, .int p1)]) hx hb dX15_walk_58 hl (by decide) rfl (fun ls hl => ?_)
        refine lv_aloadN hx hb dX15_walk_60 (lv_at hl 1 rfl) ?_
        refine lv_ifnullN (tgt := 164) hx hb dX15_walk_62 (by decide) ?_
        refine lv_aload_n hx hb dX15_walk_164 rfl (lv_at hl 3 rfl) ?_
        refine lv_aloadN hx hb dX15_walk_165 (lv_at hl 1 rfl) ?_
        refine lv_ifnonnullN hx hb dX15_walk_167 ?_
        refine lv_iconst (v := 1) hx hb dX15_walk_170 (by decide) ?_
        refine lv_goto (tgt := 175) hx hb dX15_walk_171 (by decide) ?_
        refine va_put (D := (dC, dI)) (ci := 20) (v := .int 1) (ty := .boolean) (C := RX15) (T := TX15) (N := 21) hx hb hts iWX15 tyX15 tyX15_ok nmX15 hown hK hP hD hS 0 rfl rfl 14 (by decide) (hts (.fieldLink RX15 415 "BeaverhallModel" "hasWalked" "Z") (by decide +kernel)) (fun _ h9 => h9) rfl (by decide +kernel) rfl rfl (Nat.le_of_ble_eq_true rfl) dX15_walk_175 (fun H locs hP hD hS => ?_)
        have hP : va_P (dC, dI) vwCl [(xm, .inr (20, [.int 0, .int 0, .ref kn, .int 0, .int 0, .int 0, .ref ml, .ref cl, .ref rg, .ref tr, .ref (aK 0), .ref (aK 0), .ref fl, .int 0, .int 1, .int 0, .int 0, .int 0, .int 0, .int 0, .null])), (fl, .inr (4, [.int 0, .ref e0, .int 0]))] H := hP
        have hD : va_D A [(xm, .inr (20, [.int 0, .int 0, .ref kn, .int 0, .int 0, .int 0, .ref ml, .ref cl, .ref rg, .ref tr, .ref (aK 0), .ref (aK 0), .ref fl, .int 0, .int 1, .int 0, .int 0, .int 0, .int 0, .int 0, .null])), (fl, .inr (4, [.int 0, .ref e0, .int 0]))] := hD
        refine lv_lload hx hb dX15_walk_178 (lv_at hl 2 rfl) ?_
        have hP9 := hP.sub (ws' := [(xm, .inr (20, [.int 0, .int 0, .ref kn, .int 0, .int 0, .int 0, .ref ml, .ref cl, .ref rg, .ref tr, .ref (aK 0), .ref (aK 0), .ref fl, .int 0, .int 1, .int 0, .int 0, .int 0, .int 0, .int 0, .null]))]) [0] rfl
        have hD9 := hD.sub (ws' := [(xm, .inr (20, [.int 0, .int 0, .ref kn, .int 0, .int 0, .int 0, .ref ml, .ref cl, .ref rg, .ref tr, .ref (aK 0), .ref (aK 0), .ref fl, .int 0, .int 1, .int 0, .int 0, .int 0, .int 0, .int 0, .null]))]) [0] (by decide) rfl
        have hK9 := hK.sub (tys' := []) [] rfl
        exact W.lret (v := p0) hx hb hr (fun t ht hW => ⟨⟨p0, [.int 0, .int 0, .ref kn, .int 0, .int 0, .int 0, .ref ml, .ref cl, .ref rg, .ref tr, .ref (aK 0), .ref (aK 0), .ref fl, .int 0, .int 1, .int 0, .int 0, .int 0, .int 0, .int 0, .null], rfl, (Or.inl ⟨⟨hn_6, hn_13⟩, rfl, rfl⟩), ⟨by rw [ht]; exact hP9, va_K.moved hW.alike hK9, hD9⟩⟩, hS.F ht⟩) hS.2.2 dX15_walk_180
      · exact (c36_14 (by decide)).elim

set_option maxHeartbeats 4000000 in
set_option maxRecDepth 100000 in
/-- X15_record -/
theorem c_X15_record (l : Launch) (dC : Nat → ClassId) (dI : Nat → Nat → Nat) (xm ml cl fl kn rg tr : Nat) (e0 : Nat) (aK aV : Nat → Nat) (p0 : Int32) (sz : Nat) : Met l yX15_record wsX15_record ({ frames := 1, cells := 0, slots := 0, locals := 40 }) (va_Pc [.ref xm, .int p0] (cPC dC dI [(xm, .inr (20, [.int 0, .int 0, .ref kn, .int 0, .int 0, .int 0, .ref ml, .ref cl, .ref rg, .ref tr, .ref (aK 0), .ref (aK 0), .ref fl, .int 0, .int 0, .int 0, .int 0, .int 0, .int 0, .int 0, .null])), (ml, .inr (4, [.int 0, .ref e0, .int 0]))] [] sz)) (va_Qi (fun (r : Int32) (u : List Value) => (¬ (p0 = 115 ∨ p0 = 109) ∧ u[5]? = some (.int 1)) ∨ ((p0 = 115 ∨ p0 = 109) ∧ u[5]? = some (.int 2))) (fun (u : List Value) t => cQB dC dI [(xm, .inr (20, u))] [] (va_A [(xm, .inr (20, [.int 0, .int 0, .ref kn, .int 0, .int 0, .int 0, .ref ml, .ref cl, .ref rg, .ref tr, .ref (aK 0), .ref (aK 0), .ref fl, .int 0, .int 0, .int 0, .int 0, .int 0, .int 0, .int 0, .null])), (ml, .inr (4, [.int 0, .ref e0, .int 0]))] sz) t) (va_A [(xm, .inr (20, [.int 0, .int 0, .ref kn, .int 0, .int 0, .int 0, .ref ml, .ref cl, .ref rg, .ref tr, .ref (aK 0), .ref (aK 0), .ref fl, .int 0, .int 0, .int 0, .int 0, .int 0, .int 0, .int 0, .null])), (ml, .inr (4, [.int 0, .ref e0, .int 0]))] sz)) 0 0 (va_A [(xm, .inr (20, [.int 0, .int 0, .ref kn, .int 0, .int 0, .int 0, .ref ml, .ref cl, .ref rg, .ref tr, .ref (aK 0), .ref (aK 0), .ref fl, .int 0, .int 0, .int 0, .int 0, .int 0, .int 0, .int 0, .null])), (ml, .inr (4, [.int 0, .ref e0, .int 0]))] sz) := by
  refine Met.ofW (cc := cX15_record) (maxL := 7) (ret := (some .int)) (by decide) rfl ?_
  intro p e s m args below meth c s₁ B hml hv
  obtain ⟨rfl, hsz, hP, hK, hD0, hN⟩ := hv
  have hx := B.exec
  have hb := B.bytes
  have hr := B.returns
  have hts := atoms_spec (ws := wsX15_record) B.pre
  have hown : s.vm.findClass RX15 = some m.cls := findClass_of_methodNamed B.named
  have hlocks := B.notSynchronized
  subst hsz
  have hD := hD0.self (sz := s.heap.size)
  generalize hAe : va_A [(xm, .inr (20, [.int 0, .int 0, .ref kn, .int 0, .int 0, .int 0, .ref ml, .ref cl, .ref rg, .ref tr, .ref (aK 0), .ref (aK 0), .ref fl, .int 0, .int 0, .int 0, .int 0, .int 0, .int 0, .int 0, .null])), (ml, .inr (4, [.int 0, .ref e0, .int 0]))] s.heap.size = A at hD ⊢
  have hA : ∀ q : Nat, s.heap.size ≤ q → A q := fun q h => by rw [← hAe]; exact Or.inr h
  have hS : va_S A s.heap s.heap [] := va_S.rf
  have hP : va_P (dC, dI) vwCl [(xm, .inr (20, [.int 0, .int 0, .ref kn, .int 0, .int 0, .int 0, .ref ml, .ref cl, .ref rg, .ref tr, .ref (aK 0), .ref (aK 0), .ref fl, .int 0, .int 0, .int 0, .int 0, .int 0, .int 0, .int 0, .null])), (ml, .inr (4, [.int 0, .ref e0, .int 0]))] s.heap := hP
  have hD : va_D A [(xm, .inr (20, [.int 0, .int 0, .ref kn, .int 0, .int 0, .int 0, .ref ml, .ref cl, .ref rg, .ref tr, .ref (aK 0), .ref (aK 0), .ref fl, .int 0, .int 0, .int 0, .int 0, .int 0, .int 0, .int 0, .null])), (ml, .inr (4, [.int 0, .ref e0, .int 0]))] := hD
  have hl := lv_entry ([.ref xm, .int p0]) (n := 7) (Nat.le_of_ble_eq_true rfl)
  rw [lg_entry_eq]
  generalize (lg_sl ([.ref xm, .int p0]) ++ List.replicate (7 - (lg_sl ([.ref xm, .int p0])).length) Slot.unset).toArray = ls at hl ⊢
  have hl : lv_has ls 7 [(0, .ref xm), (1, .int p0)] := hl
  have iWX13 : ∀ w ∈ u_ws RX13 TX13 12, w ∈ wsX15_record := by decide +kernel
  have iWX15 : ∀ w ∈ u_ws RX15 TX15 21, w ∈ wsX15_record := by decide +kernel
  refine lv_iload_n hx hb dX15_record_0 rfl (lv_at hl 1 rfl) ?_
  refine lv_bipush (v := 115) hx hb dX15_record_1 (by decide) ?_
  refine lv_icmp_eq (tgt := 18) hx hb dX15_record_3 (by decide) (fun c3_1 => ?_) (fun c3_1 => ?_)
  · refine lv_iconst (v := (-1)) hx hb dX15_record_18 (by decide) ?_
    refine lv_istore_n (lv' := [(2, .int (-1)), (0, .ref xm), (1, .int p0)]) hx hb dX15_record_19 rfl hl (by decide) rfl (fun ls hl => ?_)
    refine lv_iconst (v := (-1)) hx hb dX15_record_20 (by decide) ?_
    refine lv_istore_n (lv' := [(3, .int (-1)), (2, .int (-1)), (0, .ref xm), (1, .int p0)]) hx hb dX15_record_21 rfl hl (by decide) rfl (fun ls hl => ?_)
    refine lv_iconst (v := 0) hx hb dX15_record_22 (by decide) ?_
    refine lv_istore (lv' := [(4, .int 0), (3, .int (-1)), (2, .int (-1)), (0, .ref xm), (1, .int p0)]) hx hb dX15_record_23 hl (by decide) rfl (fun ls hl => ?_)
    refine lv_iload hx hb dX15_record_25 (lv_at hl 0 rfl) ?_
    refine lv_aload_n hx hb dX15_record_27 rfl (lv_at hl 3 rfl) ?_
    refine va_get (D := (dC, dI)) (ci := 20) (v := .ref ml) (C := RX15) (T := TX15) (N := 21) hx hb hts iWX15 hown hK hP 0 rfl rfl 6 (by decide) (hts (.fieldLink RX15 181 "BeaverhallModel" "machines" "Ljava/util/ArrayList;") (by decide +kernel)) (fun _ h9 => h9) rfl dX15_record_28 ?_
    have hPc := hP.sub (ws' := [(ml, .inr (4, [.int 0, .ref e0, .int 0]))]) [1] rfl
    have hDc := hD.sub (ws' := [(ml, .inr (4, [.int 0, .ref e0, .int 0]))]) [1] (by decide) rfl
    have hKc := hK.sub (tys' := []) [] rfl
    have hFc := va_free (wc := [(ml, .inr (4, [.int 0, .ref e0, .int 0]))]) hD hS hA [1] rfl
    refine va_calli (va_runV (As := []) (rest := [.int 0]) ⟨hx, hb, hml, hown, hts⟩ (c_Jx4a65c_size_8abf5 l dC dI ml e0 0 0 s.heap.size) (cwV 0 hts gX15_record_Jx4a65c_size_8abf5 rfl rfl rfl (by decide +kernel) ⟨Nat.le_of_ble_eq_true rfl, Nat.le_of_ble_eq_true rfl⟩) (pcV hPc hDc hKc hN (ci := 4) (q0 := 0) rfl rfl) rfl rfl hl.1 rfl (lv_room (Nat.le_of_ble_eq_true rfl)) dX15_record_31 ⟨Nat.le_of_ble_eq_true rfl, Nat.le_of_ble_eq_true rfl⟩) hS (fun q _ h => hFc q h) hFc (fun r_2 u t H1 locs ht hvm hw_3 hB hz1 hk1 hS => ?_)
    obtain ⟨hP1, hK1, hD1⟩ := hB
    rw [ht] at hP1
    try dsimp only at hw_3
    obtain ⟨hP, hD⟩ := va_join (wr := [(xm, .inr (20, [.int 0, .int 0, .ref kn, .int 0, .int 0, .int 0, .ref ml, .ref cl, .ref rg, .ref tr, .ref (aK 0), .ref (aK 0), .ref fl, .int 0, .int 0, .int 0, .int 0, .int 0, .int 0, .int 0, .null]))]) (w1 := [(ml, .inr (4, [.int 0, .ref e0, .int 0]))]) hP hD [1] [0] rfl rfl (by decide) (by decide) hk1 hFc hP1 hD1
    generalize H1 = H at hP hS ⊢
    have hP : va_P (dC, dI) vwCl [(xm, .inr (20, [.int 0, .int 0, .ref kn, .int 0, .int 0, .int 0, .ref ml, .ref cl, .ref rg, .ref tr, .ref (aK 0), .ref (aK 0), .ref fl, .int 0, .int 0, .int 0, .int 0, .int 0, .int 0, .int 0, .null])), (ml, .inr (4, [.int 0, .ref e0, .int 0]))] H := hP
    have hD : va_D A [(xm, .inr (20, [.int 0, .int 0, .ref kn, .int 0, .int 0, .int 0, .ref ml, .ref cl, .ref rg, .ref tr, .ref (aK 0), .ref (aK 0), .ref fl, .int 0, .int 0, .int 0, .int 0, .int 0, .int 0, .int 0, .null])), (ml, .inr (4, [.int 0, .ref e0, .int 0]))] := hD
    subst hw_3
    refine lv_icmp_ge (tgt := 117) hx hb dX15_record_34 (by decide) (fun c34_4 => ?_) (fun c34_4 => ?_)
    · refine lv_aload_n hx hb dX15_record_117 rfl (lv_at hl 3 rfl) ?_
      refine lv_iload_n hx hb dX15_record_118 rfl (lv_at hl 2 rfl) ?_
      refine lv_iconst (v := (-1)) hx hb dX15_record_119 (by decide) ?_
      refine lv_icmp_ne (tgt := 127) hx hb dX15_record_120 (by decide) (fun c120_5 => ?_) (fun c120_5 => ?_)
      · exact (c120_5 (by decide)).elim
      · refine lv_iconst (v := 2) hx hb dX15_record_123 (by decide) ?_
        refine lv_goto (tgt := 128) hx hb dX15_record_124 (by decide) ?_
        refine va_put (D := (dC, dI)) (ci := 20) (v := .int 2) (ty := .int) (C := RX15) (T := TX15) (N := 21) hx hb hts iWX15 tyX15 tyX15_ok nmX15 hown hK hP hD hS 0 rfl rfl 5 (by decide) (hts (.fieldLink RX15 209 "BeaverhallModel" "thrown" "I") (by decide +kernel)) (fun _ h9 => h9) rfl (by decide +kernel) rfl rfl (Nat.le_of_ble_eq_true rfl) dX15_record_128 (fun H locs hP hD hS => ?_)
        have hP : va_P (dC, dI) vwCl [(xm, .inr (20, [.int 0, .int 0, .ref kn, .int 0, .int 0, .int 2, .ref ml, .ref cl, .ref rg, .ref tr, .ref (aK 0), .ref (aK 0), .ref fl, .int 0, .int 0, .int 0, .int 0, .int 0, .int 0, .int 0, .null])), (ml, .inr (4, [.int 0, .ref e0, .int 0]))] H := hP
        have hD : va_D A [(xm, .inr (20, [.int 0, .int 0, .ref kn, .int 0, .int 0, .int 2, .ref ml, .ref cl, .ref rg, .ref tr, .ref (aK 0), .ref (aK 0), .ref fl, .int 0, .int 0, .int 0, .int 0, .int 0, .int 0, .int 0, .null])), (ml, .inr (4, [.int 0, .ref e0, .int 0]))] := hD
        refine lv_aload_n hx hb dX15_record_131 rfl (lv_at hl 3 rfl) ?_
        refine va_get (D := (dC, dI)) (ci := 20) (v := .int 2) (C := RX15) (T := TX15) (N := 21) hx hb hts iWX15 hown hK hP 0 rfl rfl 5 (by decide) (hts (.fieldLink RX15 209 "BeaverhallModel" "thrown" "I") (by decide +kernel)) (fun _ h9 => h9) rfl dX15_record_132 ?_
        refine lv_if_le (tgt := 142) hx hb dX15_record_135 (by decide) (fun c135_6 => ?_) (fun c135_6 => ?_)
        · exact absurd c135_6 (by decide)
        · refine lv_iconst (v := 0) hx hb dX15_record_138 (by decide) ?_
          refine lv_goto (tgt := 143) hx hb dX15_record_139 (by decide) ?_
          have hP9 := hP.sub (ws' := [(xm, .inr (20, [.int 0, .int 0, .ref kn, .int 0, .int 0, .int 2, .ref ml, .ref cl, .ref rg, .ref tr, .ref (aK 0), .ref (aK 0), .ref fl, .int 0, .int 0, .int 0, .int 0, .int 0, .int 0, .int 0, .null]))]) [0] rfl
          have hD9 := hD.sub (ws' := [(xm, .inr (20, [.int 0, .int 0, .ref kn, .int 0, .int 0, .int 2, .ref ml, .ref cl, .ref rg, .ref tr, .ref (aK 0), .ref (aK 0), .ref fl, .int 0, .int 0, .int 0, .int 0, .int 0, .int 0, .int 0, .null]))]) [0] (by decide) rfl
          have hK9 := hK.sub (tys' := []) [] rfl
          exact W.iret (v := 0) hx hb hr (fun t ht hW => ⟨⟨0, [.int 0, .int 0, .ref kn, .int 0, .int 0, .int 2, .ref ml, .ref cl, .ref rg, .ref tr, .ref (aK 0), .ref (aK 0), .ref fl, .int 0, .int 0, .int 0, .int 0, .int 0, .int 0, .int 0, .null], rfl, (Or.inr ⟨(Or.inl c3_1), rfl⟩), ⟨by rw [ht]; exact hP9, va_K.moved hW.alike hK9, hD9⟩⟩, hS.F ht⟩) hS.2.2 dX15_record_143
    · exact (c34_4 (by decide)).elim
  · refine lv_iload_n hx hb dX15_record_6 rfl (lv_at hl 1 rfl) ?_
    refine lv_bipush (v := 109) hx hb dX15_record_7 (by decide) ?_
    refine lv_icmp_eq (tgt := 18) hx hb dX15_record_9 (by decide) (fun c9_7 => ?_) (fun c9_7 => ?_)
    · refine lv_iconst (v := (-1)) hx hb dX15_record_18 (by decide) ?_
      refine lv_istore_n (lv' := [(2, .int (-1)), (0, .ref xm), (1, .int p0)]) hx hb dX15_record_19 rfl hl (by decide) rfl (fun ls hl => ?_)
      refine lv_iconst (v := (-1)) hx hb dX15_record_20 (by decide) ?_
      refine lv_istore_n (lv' := [(3, .int (-1)), (2, .int (-1)), (0, .ref xm), (1, .int p0)]) hx hb dX15_record_21 rfl hl (by decide) rfl (fun ls hl => ?_)
      refine lv_iconst (v := 0) hx hb dX15_record_22 (by decide) ?_
      refine lv_istore (lv' := [(4, .int 0), (3, .int (-1)), (2, .int (-1)), (0, .ref xm), (1, .int p0)]) hx hb dX15_record_23 hl (by decide) rfl (fun ls hl => ?_)
      refine lv_iload hx hb dX15_record_25 (lv_at hl 0 rfl) ?_
      refine lv_aload_n hx hb dX15_record_27 rfl (lv_at hl 3 rfl) ?_
      refine va_get (D := (dC, dI)) (ci := 20) (v := .ref ml) (C := RX15) (T := TX15) (N := 21) hx hb hts iWX15 hown hK hP 0 rfl rfl 6 (by decide) (hts (.fieldLink RX15 181 "BeaverhallModel" "machines" "Ljava/util/ArrayList;") (by decide +kernel)) (fun _ h9 => h9) rfl dX15_record_28 ?_
      have hPc := hP.sub (ws' := [(ml, .inr (4, [.int 0, .ref e0, .int 0]))]) [1] rfl
      have hDc := hD.sub (ws' := [(ml, .inr (4, [.int 0, .ref e0, .int 0]))]) [1] (by decide) rfl
      have hKc := hK.sub (tys' := []) [] rfl
      have hFc := va_free (wc := [(ml, .inr (4, [.int 0, .ref e0, .int 0]))]) hD hS hA [1] rfl
      refine va_calli (va_runV (As := []) (rest := [.int 0]) ⟨hx, hb, hml, hown, hts⟩ (c_Jx4a65c_size_8abf5 l dC dI ml e0 0 0 s.heap.size) (cwV 0 hts gX15_record_Jx4a65c_size_8abf5 rfl rfl rfl (by decide +kernel) ⟨Nat.le_of_ble_eq_true rfl, Nat.le_of_ble_eq_true rfl⟩) (pcV hPc hDc hKc hN (ci := 4) (q0 := 0) rfl rfl) rfl rfl hl.1 rfl (lv_room (Nat.le_of_ble_eq_true rfl)) dX15_record_31 ⟨Nat.le_of_ble_eq_true rfl, Nat.le_of_ble_eq_true rfl⟩) hS (fun q _ h => hFc q h) hFc (fun r_8 u t H1 locs ht hvm hw_9 hB hz1 hk1 hS => ?_)
      obtain ⟨hP1, hK1, hD1⟩ := hB
      rw [ht] at hP1
      try dsimp only at hw_9
      obtain ⟨hP, hD⟩ := va_join (wr := [(xm, .inr (20, [.int 0, .int 0, .ref kn, .int 0, .int 0, .int 0, .ref ml, .ref cl, .ref rg, .ref tr, .ref (aK 0), .ref (aK 0), .ref fl, .int 0, .int 0, .int 0, .int 0, .int 0, .int 0, .int 0, .null]))]) (w1 := [(ml, .inr (4, [.int 0, .ref e0, .int 0]))]) hP hD [1] [0] rfl rfl (by decide) (by decide) hk1 hFc hP1 hD1
      generalize H1 = H at hP hS ⊢
      have hP : va_P (dC, dI) vwCl [(xm, .inr (20, [.int 0, .int 0, .ref kn, .int 0, .int 0, .int 0, .ref ml, .ref cl, .ref rg, .ref tr, .ref (aK 0), .ref (aK 0), .ref fl, .int 0, .int 0, .int 0, .int 0, .int 0, .int 0, .int 0, .null])), (ml, .inr (4, [.int 0, .ref e0, .int 0]))] H := hP
      have hD : va_D A [(xm, .inr (20, [.int 0, .int 0, .ref kn, .int 0, .int 0, .int 0, .ref ml, .ref cl, .ref rg, .ref tr, .ref (aK 0), .ref (aK 0), .ref fl, .int 0, .int 0, .int 0, .int 0, .int 0, .int 0, .int 0, .null])), (ml, .inr (4, [.int 0, .ref e0, .int 0]))] := hD
      subst hw_9
      refine lv_icmp_ge (tgt := 117) hx hb dX15_record_34 (by decide) (fun c34_10 => ?_) (fun c34_10 => ?_)
      · refine lv_aload_n hx hb dX15_record_117 rfl (lv_at hl 3 rfl) ?_
        refine lv_iload_n hx hb dX15_record_118 rfl (lv_at hl 2 rfl) ?_
        refine lv_iconst (v := (-1)) hx hb dX15_record_119 (by decide) ?_
        refine lv_icmp_ne (tgt := 127) hx hb dX15_record_120 (by decide) (fun c120_11 => ?_) (fun c120_11 => ?_)
        · exact (c120_11 (by decide)).elim
        · refine lv_iconst (v := 2) hx hb dX15_record_123 (by decide) ?_
          refine lv_goto (tgt := 128) hx hb dX15_record_124 (by decide) ?_
          refine va_put (D := (dC, dI)) (ci := 20) (v := .int 2) (ty := .int) (C := RX15) (T := TX15) (N := 21) hx hb hts iWX15 tyX15 tyX15_ok nmX15 hown hK hP hD hS 0 rfl rfl 5 (by decide) (hts (.fieldLink RX15 209 "BeaverhallModel" "thrown" "I") (by decide +kernel)) (fun _ h9 => h9) rfl (by decide +kernel) rfl rfl (Nat.le_of_ble_eq_true rfl) dX15_record_128 (fun H locs hP hD hS => ?_)
          have hP : va_P (dC, dI) vwCl [(xm, .inr (20, [.int 0, .int 0, .ref kn, .int 0, .int 0, .int 2, .ref ml, .ref cl, .ref rg, .ref tr, .ref (aK 0), .ref (aK 0), .ref fl, .int 0, .int 0, .int 0, .int 0, .int 0, .int 0, .int 0, .null])), (ml, .inr (4, [.int 0, .ref e0, .int 0]))] H := hP
          have hD : va_D A [(xm, .inr (20, [.int 0, .int 0, .ref kn, .int 0, .int 0, .int 2, .ref ml, .ref cl, .ref rg, .ref tr, .ref (aK 0), .ref (aK 0), .ref fl, .int 0, .int 0, .int 0, .int 0, .int 0, .int 0, .int 0, .null])), (ml, .inr (4, [.int 0, .ref e0, .int 0]))] := hD
          refine lv_aload_n hx hb dX15_record_131 rfl (lv_at hl 3 rfl) ?_
          refine va_get (D := (dC, dI)) (ci := 20) (v := .int 2) (C := RX15) (T := TX15) (N := 21) hx hb hts iWX15 hown hK hP 0 rfl rfl 5 (by decide) (hts (.fieldLink RX15 209 "BeaverhallModel" "thrown" "I") (by decide +kernel)) (fun _ h9 => h9) rfl dX15_record_132 ?_
          refine lv_if_le (tgt := 142) hx hb dX15_record_135 (by decide) (fun c135_12 => ?_) (fun c135_12 => ?_)
          · exact absurd c135_12 (by decide)
          · refine lv_iconst (v := 0) hx hb dX15_record_138 (by decide) ?_
            refine lv_goto (tgt := 143) hx hb dX15_record_139 (by decide) ?_
            have hP9 := hP.sub (ws' := [(xm, .inr (20, [.int 0, .int 0, .ref kn, .int 0, .int 0, .int 2, .ref ml, .ref cl, .ref rg, .ref tr, .ref (aK 0), .ref (aK 0), .ref fl, .int 0, .int 0, .int 0, .int 0, .int 0, .int 0, .int 0, .null]))]) [0] rfl
            have hD9 := hD.sub (ws' := [(xm, .inr (20, [.int 0, .int 0, .ref kn, .int 0, .int 0, .int 2, .ref ml, .ref cl, .ref rg, .ref tr, .ref (aK 0), .ref (aK 0), .ref fl, .int 0, .int 0, .int 0, .int 0, .int 0, .int 0, .int 0, .null]))]) [0] (by decide) rfl
            have hK9 := hK.sub (tys' := []) [] rfl
            exact W.iret (v := 0) hx hb hr (fun t ht hW => ⟨⟨0, [.int 0, .int 0, .ref kn, .int 0, .int 0, .int 2, .ref ml, .ref cl, .ref rg, .ref tr, .ref (aK 0), .ref (aK 0), .ref fl, .int 0, .int 0, .int 0, .int 0, .int 0, .int 0, .int 0, .null], rfl, (Or.inr ⟨(Or.inr c9_7), rfl⟩), ⟨by rw [ht]; exact hP9, va_K.moved hW.alike hK9, hD9⟩⟩, hS.F ht⟩) hS.2.2 dX15_record_143
      · exact (c34_10 (by decide)).elim
    · refine lv_aload_n hx hb dX15_record_12 rfl (lv_at hl 0 rfl) ?_
      refine lv_iconst (v := 1) hx hb dX15_record_13 (by decide) ?_
      have hPc := hP.sub (ws' := [(xm, .inr (20, [.int 0, .int 0, .ref kn, .int 0, .int 0, .int 0, .ref ml, .ref cl, .ref rg, .ref tr, .ref (aK 0), .ref (aK 0), .ref fl, .int 0, .int 0, .int 0, .int 0, .int 0, .int 0, .int 0, .null]))]) [0] rfl
      have hDc := hD.sub (ws' := [(xm, .inr (20, [.int 0, .int 0, .ref kn, .int 0, .int 0, .int 0, .ref ml, .ref cl, .ref rg, .ref tr, .ref (aK 0), .ref (aK 0), .ref fl, .int 0, .int 0, .int 0, .int 0, .int 0, .int 0, .int 0, .null]))]) [0] (by decide) rfl
      have hKc := hK.sub (tys' := []) [] rfl
      have hFc := va_free (wc := [(xm, .inr (20, [.int 0, .int 0, .ref kn, .int 0, .int 0, .int 0, .ref ml, .ref cl, .ref rg, .ref tr, .ref (aK 0), .ref (aK 0), .ref fl, .int 0, .int 0, .int 0, .int 0, .int 0, .int 0, .int 0, .null]))]) hD hS hA [0] rfl
      refine va_calli (va_runV (As := [.int 1]) (rest := []) ⟨hx, hb, hml, hown, hts⟩ (c_X15_raises l dC dI xm ml cl fl kn rg tr e0 aK aV 1 s.heap.size) (cwV 1 hts gX15_record_X15_raises rfl rfl rfl (by decide +kernel) ⟨Nat.le_of_ble_eq_true rfl, Nat.le_of_ble_eq_true rfl⟩) (pcV hPc hDc hKc hN (ci := 20) (q0 := 0) rfl rfl) rfl rfl hl.1 rfl (lv_room (Nat.le_of_ble_eq_true rfl)) dX15_record_14 ⟨Nat.le_of_ble_eq_true rfl, Nat.le_of_ble_eq_true rfl⟩) hS (fun q _ h => hFc q h) hFc (fun r_13 u t H1 locs ht hvm hw_14 hB hz1 hk1 hS => ?_)
      obtain ⟨hP1, hK1, hD1⟩ := hB
      rw [ht] at hP1
      try dsimp only at hw_14
      obtain ⟨hP, hD⟩ := va_join (wr := [(ml, .inr (4, [.int 0, .ref e0, .int 0]))]) (w1 := [(xm, .inr (20, [.int 0, .int 0, .ref kn, .int 0, .int 0, .int 1, .ref ml, .ref cl, .ref rg, .ref tr, .ref (aK 0), .ref (aK 0), .ref fl, .int 0, .int 0, .int 0, .int 0, .int 0, .int 0, .int 0, .null]))]) hP hD [0] [1] rfl rfl (by decide) (by decide) hk1 hFc hP1 hD1
      generalize H1 = H at hP hS ⊢
      have hP : va_P (dC, dI) vwCl [(ml, .inr (4, [.int 0, .ref e0, .int 0])), (xm, .inr (20, [.int 0, .int 0, .ref kn, .int 0, .int 0, .int 1, .ref ml, .ref cl, .ref rg, .ref tr, .ref (aK 0), .ref (aK 0), .ref fl, .int 0, .int 0, .int 0, .int 0, .int 0, .int 0, .int 0, .null]))] H := hP
      have hD : va_D A [(ml, .inr (4, [.int 0, .ref e0, .int 0])), (xm, .inr (20, [.int 0, .int 0, .ref kn, .int 0, .int 0, .int 1, .ref ml, .ref cl, .ref rg, .ref tr, .ref (aK 0), .ref (aK 0), .ref fl, .int 0, .int 0, .int 0, .int 0, .int 0, .int 0, .int 0, .null]))] := hD
      subst hw_14
      have hP9 := hP.sub (ws' := [(xm, .inr (20, [.int 0, .int 0, .ref kn, .int 0, .int 0, .int 1, .ref ml, .ref cl, .ref rg, .ref tr, .ref (aK 0), .ref (aK 0), .ref fl, .int 0, .int 0, .int 0, .int 0, .int 0, .int 0, .int 0, .null]))]) [1] rfl
      have hD9 := hD.sub (ws' := [(xm, .inr (20, [.int 0, .int 0, .ref kn, .int 0, .int 0, .int 1, .ref ml, .ref cl, .ref rg, .ref tr, .ref (aK 0), .ref (aK 0), .ref fl, .int 0, .int 0, .int 0, .int 0, .int 0, .int 0, .int 0, .null]))]) [1] (by decide) rfl
      have hK9 := hK.sub (tys' := []) [] rfl
      exact W.iret (v := 0) hx hb hr (fun t ht hW => ⟨⟨0, [.int 0, .int 0, .ref kn, .int 0, .int 0, .int 1, .ref ml, .ref cl, .ref rg, .ref tr, .ref (aK 0), .ref (aK 0), .ref fl, .int 0, .int 0, .int 0, .int 0, .int 0, .int 0, .int 0, .null], rfl, (Or.inl ⟨(fun h9 => h9.elim c3_1 c9_7), rfl⟩), ⟨by rw [ht]; exact hP9, va_K.moved hW.alike hK9, hD9⟩⟩, hS.F ht⟩) hS.2.2 dX15_record_17
