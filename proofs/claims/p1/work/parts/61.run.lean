theorem dJ7_fill_53178_0 : decode cJ7_fill_53178 0 = .ok (.iconst 0, 1) := by decide +kernel
theorem dJ7_fill_53178_1 : decode cJ7_fill_53178 1 = .ok (.istore_n 2, 1) := by decide +kernel
theorem dJ7_fill_53178_2 : decode cJ7_fill_53178 2 = .ok (.aload_n 0, 1) := by decide +kernel
theorem dJ7_fill_53178_3 : decode cJ7_fill_53178 3 = .ok (.arraylength, 1) := by decide +kernel
theorem dJ7_fill_53178_4 : decode cJ7_fill_53178 4 = .ok (.istore_n 3, 1) := by decide +kernel
theorem dJ7_fill_53178_5 : decode cJ7_fill_53178 5 = .ok (.iload_n 2, 1) := by decide +kernel
theorem dJ7_fill_53178_6 : decode cJ7_fill_53178 6 = .ok (.iload_n 3, 1) := by decide +kernel
theorem dJ7_fill_53178_7 : decode cJ7_fill_53178 7 = .ok (.if_icmp .ge 13, 3) := by decide +kernel
theorem dJ7_fill_53178_20 : decode cJ7_fill_53178 20 = .ok (.return_, 1) := by decide +kernel
theorem dJ7_fill_53178_10 : decode cJ7_fill_53178 10 = .ok (.aload_n 0, 1) := by decide +kernel
theorem dJ7_fill_53178_11 : decode cJ7_fill_53178 11 = .ok (.iload_n 2, 1) := by decide +kernel
theorem dJ7_fill_53178_12 : decode cJ7_fill_53178 12 = .ok (.iload_n 1, 1) := by decide +kernel
theorem dJ7_fill_53178_13 : decode cJ7_fill_53178 13 = .ok (.iastore, 1) := by decide +kernel
theorem dJ7_fill_53178_14 : decode cJ7_fill_53178 14 = .ok (.iinc 2 1, 3) := by decide +kernel
theorem dJ7_fill_53178_17 : decode cJ7_fill_53178 17 = .ok (.goto (-12), 3) := by decide +kernel
theorem dX7_begin_0 : decode cX7_begin 0 = .ok (.aload_n 0, 1) := by decide +kernel
theorem dX7_begin_1 : decode cX7_begin 1 = .ok (.getfield 31, 3) := by decide +kernel
theorem dX7_begin_4 : decode cX7_begin 4 = .ok (.iconst 0, 1) := by decide +kernel
set_option maxRecDepth 20000 in
theorem ggX7_begin_J7_fill_53178 : GoodIn wsX7_begin wsJ7_fill_53178 := goodIn_r _ [11] rfl (by decide +kernel)
set_option maxRecDepth 20000 in
theorem gX7_begin_J7_fill_53178 : GoodIn wsX7_begin (va_wsS RX7 35 yJ7_fill_53178 wsJ7_fill_53178) := goodIn_app (goodIn_of _ (by decide +kernel)) ggX7_begin_J7_fill_53178
theorem dX7_begin_5 : decode cX7_begin 5 = .ok (.invokestatic 35, 3) := by decide +kernel
theorem dX7_begin_8 : decode cX7_begin 8 = .ok (.aload_n 0, 1) := by decide +kernel
theorem dX7_begin_9 : decode cX7_begin 9 = .ok (.iconst 0, 1) := by decide +kernel
theorem dX7_begin_10 : decode cX7_begin 10 = .ok (.putfield 9, 3) := by decide +kernel
theorem dX7_begin_13 : decode cX7_begin 13 = .ok (.aload_n 0, 1) := by decide +kernel
theorem dX7_begin_14 : decode cX7_begin 14 = .ok (.iconst 0, 1) := by decide +kernel
theorem dX7_begin_15 : decode cX7_begin 15 = .ok (.putfield 15, 3) := by decide +kernel
theorem dX7_begin_18 : decode cX7_begin 18 = .ok (.aload_n 0, 1) := by decide +kernel
theorem dX7_begin_19 : decode cX7_begin 19 = .ok (.iconst 0, 1) := by decide +kernel
theorem dX7_begin_20 : decode cX7_begin 20 = .ok (.putfield 18, 3) := by decide +kernel
theorem dX7_begin_23 : decode cX7_begin 23 = .ok (.aload_n 0, 1) := by decide +kernel
theorem dX7_begin_24 : decode cX7_begin 24 = .ok (.iconst 0, 1) := by decide +kernel
theorem dX7_begin_25 : decode cX7_begin 25 = .ok (.putfield 21, 3) := by decide +kernel
theorem dX7_begin_28 : decode cX7_begin 28 = .ok (.aload_n 0, 1) := by decide +kernel
theorem dX7_begin_29 : decode cX7_begin 29 = .ok (.iconst 0, 1) := by decide +kernel
theorem dX7_begin_30 : decode cX7_begin 30 = .ok (.putfield 24, 3) := by decide +kernel
theorem dX7_begin_33 : decode cX7_begin 33 = .ok (.aload_n 0, 1) := by decide +kernel
theorem dX7_begin_34 : decode cX7_begin 34 = .ok (.iconst 0, 1) := by decide +kernel
theorem dX7_begin_35 : decode cX7_begin 35 = .ok (.putfield 27, 3) := by decide +kernel
theorem dX7_begin_38 : decode cX7_begin 38 = .ok (.return_, 1) := by decide +kernel
theorem dX7_step_0 : decode cX7_step 0 = .ok (.aload_n 0, 1) := by decide +kernel
theorem dX7_step_1 : decode cX7_step 1 = .ok (.getfield 27, 3) := by decide +kernel
theorem dX7_step_4 : decode cX7_step 4 = .ok (.ifCond .eq 7, 3) := by decide +kernel
theorem dX7_step_11 : decode cX7_step 11 = .ok (.aload_n 1, 1) := by decide +kernel
theorem dX7_step_12 : decode cX7_step 12 = .ok (.aload_n 0, 1) := by decide +kernel
theorem dX7_step_13 : decode cX7_step 13 = .ok (.getfield 9, 3) := by decide +kernel
theorem dX7_step_16 : decode cX7_step 16 = .ok (.aload_n 0, 1) := by decide +kernel
theorem dX7_step_17 : decode cX7_step 17 = .ok (.aload_n 0, 1) := by decide +kernel
theorem dX7_step_18 : decode cX7_step 18 = .ok (.getfield 15, 3) := by decide +kernel
set_option maxRecDepth 20000 in
theorem ggX7_step_X7_signOf : GoodIn wsX7_step wsX7_signOf := goodIn_ca (goodIn_r _ [19, 20, 42, 43, 44, 45, 46, 47, 48] rfl (by decide +kernel)) (goodIn_sub (fun _ h => List.mem_cons_of_mem _ (List.mem_append_right _ h)) (by decide +kernel))
set_option maxRecDepth 20000 in
theorem gX7_step_X7_signOf : GoodIn wsX7_step (wsV RX7 41 RX7 yX7_signOf wsX7_signOf) := goodIn_app (goodIn_of _ (by decide +kernel)) ggX7_step_X7_signOf
theorem dX7_step_21 : decode cX7_step 21 = .ok (.invokevirtual 41, 3) := by decide +kernel
set_option maxRecDepth 20000 in
theorem ggX7_step_X5_orderFor : GoodIn wsX7_step wsX5_orderFor := goodIn_ca (goodIn_r _ [25, 26, 27, 28, 49, 50, 51, 52, 53, 54, 55, 56, 57, 58, 59] rfl (by decide +kernel)) (goodIn_sub (fun _ h => List.mem_cons_of_mem _ (List.mem_append_right _ h)) (by decide +kernel))
set_option maxRecDepth 20000 in
theorem gX7_step_X5_orderFor : GoodIn wsX7_step (wsV RX7 45 RX5 yX5_orderFor wsX5_orderFor) := goodIn_app (goodIn_of _ (by decide +kernel)) ggX7_step_X5_orderFor
theorem dX7_step_24 : decode cX7_step 24 = .ok (.invokevirtual 45, 3) := by decide +kernel
theorem dX7_step_27 : decode cX7_step 27 = .ok (.istore_n 2, 1) := by decide +kernel
theorem dX7_step_28 : decode cX7_step 28 = .ok (.iload_n 2, 1) := by decide +kernel
theorem dX7_step_29 : decode cX7_step 29 = .ok (.ifCond .ne 5, 3) := by decide +kernel
theorem dX7_step_34 : decode cX7_step 34 = .ok (.aload_n 0, 1) := by decide +kernel
theorem dX7_step_35 : decode cX7_step 35 = .ok (.getfield 15, 3) := by decide +kernel
theorem dX7_step_38 : decode cX7_step 38 = .ok (.iload_n 2, 1) := by decide +kernel
set_option maxRecDepth 20000 in
theorem ggX7_step_X5_moveOf : GoodIn wsX7_step wsX5_moveOf := goodIn_r _ [31] rfl (by decide +kernel)
set_option maxRecDepth 20000 in
theorem gX7_step_X5_moveOf : GoodIn wsX7_step (va_wsS RX7 51 yX5_moveOf wsX5_moveOf) := goodIn_app (goodIn_of _ (by decide +kernel)) ggX7_step_X5_moveOf
theorem dX7_step_39 : decode cX7_step 39 = .ok (.invokestatic 51, 3) := by decide +kernel
theorem dX7_step_42 : decode cX7_step 42 = .ok (.iadd, 1) := by decide +kernel
theorem dX7_step_43 : decode cX7_step 43 = .ok (.istore_n 3, 1) := by decide +kernel
theorem dX7_step_44 : decode cX7_step 44 = .ok (.aload_n 1, 1) := by decide +kernel
theorem dX7_step_45 : decode cX7_step 45 = .ok (.getfield 54, 3) := by decide +kernel
theorem dX7_step_48 : decode cX7_step 48 = .ok (.ifCond .eq 11, 3) := by decide +kernel
theorem dX7_step_59 : decode cX7_step 59 = .ok (.iconst 0, 1) := by decide +kernel
theorem dX7_step_60 : decode cX7_step 60 = .ok (.istore 4, 2) := by decide +kernel
theorem dX7_step_62 : decode cX7_step 62 = .ok (.iload 4, 2) := by decide +kernel
theorem dX7_step_64 : decode cX7_step 64 = .ok (.ifCond .ne 19, 3) := by decide +kernel
theorem dX7_step_67 : decode cX7_step 67 = .ok (.iload_n 3, 1) := by decide +kernel
theorem dX7_step_68 : decode cX7_step 68 = .ok (.sipush (-500), 3) := by decide +kernel
theorem dX7_step_71 : decode cX7_step 71 = .ok (.if_icmp .lt 10, 3) := by decide +kernel
theorem dX7_step_81 : decode cX7_step 81 = .ok (.iconst 0, 1) := by decide +kernel
theorem dX7_step_82 : decode cX7_step 82 = .ok (.ireturn, 1) := by decide +kernel
theorem dX7_step_74 : decode cX7_step 74 = .ok (.iload_n 3, 1) := by decide +kernel
theorem dX7_step_75 : decode cX7_step 75 = .ok (.sipush 500, 3) := by decide +kernel
theorem dX7_step_78 : decode cX7_step 78 = .ok (.if_icmp .le 5, 3) := by decide +kernel
theorem dX7_step_83 : decode cX7_step 83 = .ok (.aload_n 0, 1) := by decide +kernel
theorem dX7_step_84 : decode cX7_step 84 = .ok (.aload_n 0, 1) := by decide +kernel
theorem dX7_step_85 : decode cX7_step 85 = .ok (.getfield 15, 3) := by decide +kernel
theorem dX7_step_88 : decode cX7_step 88 = .ok (.iload_n 2, 1) := by decide +kernel
set_option maxRecDepth 20000 in
theorem ggX7_step_X5_writeOf : GoodIn wsX7_step wsX5_writeOf := goodIn_r _ [34] rfl (by decide +kernel)
set_option maxRecDepth 20000 in
theorem gX7_step_X5_writeOf : GoodIn wsX7_step (va_wsS RX7 57 yX5_writeOf wsX5_writeOf) := goodIn_app (goodIn_of _ (by decide +kernel)) ggX7_step_X5_writeOf
theorem dX7_step_89 : decode cX7_step 89 = .ok (.invokestatic 57, 3) := by decide +kernel
set_option maxRecDepth 20000 in
theorem ggX7_step_X7_write : GoodIn wsX7_step wsX7_write := goodIn_ca (goodIn_r _ [38, 20, 42, 43, 44, 45, 46, 47, 48] rfl (by decide +kernel)) (goodIn_sub (fun _ h => List.mem_cons_of_mem _ (List.mem_append_right _ h)) (by decide +kernel))
set_option maxRecDepth 20000 in
theorem gX7_step_X7_write : GoodIn wsX7_step (wsV RX7 60 RX7 yX7_write wsX7_write) := goodIn_app (goodIn_of _ (by decide +kernel)) ggX7_step_X7_write
theorem dX7_step_92 : decode cX7_step 92 = .ok (.invokevirtual 60, 3) := by decide +kernel
theorem dX7_step_95 : decode cX7_step 95 = .ok (.aload_n 0, 1) := by decide +kernel
theorem dX7_step_96 : decode cX7_step 96 = .ok (.iload_n 2, 1) := by decide +kernel
set_option maxRecDepth 20000 in
theorem ggX7_step_X5_nextOf : GoodIn wsX7_step wsX5_nextOf := goodIn_r _ [41] rfl (by decide +kernel)
set_option maxRecDepth 20000 in
theorem gX7_step_X5_nextOf : GoodIn wsX7_step (va_wsS RX7 64 yX5_nextOf wsX5_nextOf) := goodIn_app (goodIn_of _ (by decide +kernel)) ggX7_step_X5_nextOf
theorem dX7_step_97 : decode cX7_step 97 = .ok (.invokestatic 64, 3) := by decide +kernel
theorem dX7_step_100 : decode cX7_step 100 = .ok (.putfield 9, 3) := by decide +kernel
theorem dX7_step_103 : decode cX7_step 103 = .ok (.aload_n 0, 1) := by decide +kernel
theorem dX7_step_104 : decode cX7_step 104 = .ok (.iload 4, 2) := by decide +kernel
theorem dX7_step_106 : decode cX7_step 106 = .ok (.putfield 27, 3) := by decide +kernel
theorem dX7_step_109 : decode cX7_step 109 = .ok (.aload_n 0, 1) := by decide +kernel
theorem dX7_step_110 : decode cX7_step 110 = .ok (.iload 4, 2) := by decide +kernel
theorem dX7_step_112 : decode cX7_step 112 = .ok (.ifCond .eq 10, 3) := by decide +kernel
theorem dX7_step_122 : decode cX7_step 122 = .ok (.iload_n 3, 1) := by decide +kernel
theorem dX7_step_123 : decode cX7_step 123 = .ok (.putfield 15, 3) := by decide +kernel
theorem dX7_step_126 : decode cX7_step 126 = .ok (.aload_n 0, 1) := by decide +kernel
theorem dX7_step_127 : decode cX7_step 127 = .ok (.aload_n 0, 1) := by decide +kernel
theorem dX7_step_128 : decode cX7_step 128 = .ok (.getfield 21, 3) := by decide +kernel
theorem dX7_step_131 : decode cX7_step 131 = .ok (.aload_n 0, 1) := by decide +kernel
theorem dX7_step_132 : decode cX7_step 132 = .ok (.getfield 15, 3) := by decide +kernel
theorem dX7_step_135 : decode cX7_step 135 = .ok (.invokestatic 67, 3) := by decide +kernel
theorem dX7_step_138 : decode cX7_step 138 = .ok (.putfield 21, 3) := by decide +kernel
theorem dX7_step_141 : decode cX7_step 141 = .ok (.aload_n 0, 1) := by decide +kernel
theorem dX7_step_142 : decode cX7_step 142 = .ok (.aload_n 0, 1) := by decide +kernel
theorem dX7_step_143 : decode cX7_step 143 = .ok (.getfield 24, 3) := by decide +kernel
theorem dX7_step_146 : decode cX7_step 146 = .ok (.aload_n 0, 1) := by decide +kernel
theorem dX7_step_147 : decode cX7_step 147 = .ok (.getfield 15, 3) := by decide +kernel
theorem dX7_step_150 : decode cX7_step 150 = .ok (.invokestatic 72, 3) := by decide +kernel
theorem dX7_step_153 : decode cX7_step 153 = .ok (.putfield 24, 3) := by decide +kernel
theorem dX7_step_156 : decode cX7_step 156 = .ok (.aload_n 0, 1) := by decide +kernel
theorem dX7_step_157 : decode cX7_step 157 = .ok (.dup, 1) := by decide +kernel
theorem dX7_step_158 : decode cX7_step 158 = .ok (.getfield 18, 3) := by decide +kernel
theorem dX7_step_161 : decode cX7_step 161 = .ok (.iconst 1, 1) := by decide +kernel
theorem dX7_step_162 : decode cX7_step 162 = .ok (.iadd, 1) := by decide +kernel
theorem dX7_step_163 : decode cX7_step 163 = .ok (.putfield 18, 3) := by decide +kernel
theorem dX7_step_166 : decode cX7_step 166 = .ok (.iconst 1, 1) := by decide +kernel
theorem dX7_step_167 : decode cX7_step 167 = .ok (.ireturn, 1) := by decide +kernel
theorem dX7_step_51 : decode cX7_step 51 = .ok (.iload_n 3, 1) := by decide +kernel
theorem dX7_step_52 : decode cX7_step 52 = .ok (.ifCond .ge 7, 3) := by decide +kernel
theorem dX7_step_55 : decode cX7_step 55 = .ok (.iconst 1, 1) := by decide +kernel
theorem dX7_step_56 : decode cX7_step 56 = .ok (.goto 4, 3) := by decide +kernel
theorem dX7_step_115 : decode cX7_step 115 = .ok (.aload_n 0, 1) := by decide +kernel
theorem dX7_step_116 : decode cX7_step 116 = .ok (.getfield 15, 3) := by decide +kernel
theorem dX7_step_119 : decode cX7_step 119 = .ok (.goto 4, 3) := by decide +kernel
theorem dX7_step_32 : decode cX7_step 32 = .ok (.iconst 0, 1) := by decide +kernel
theorem dX7_step_33 : decode cX7_step 33 = .ok (.ireturn, 1) := by decide +kernel
theorem dX7_step_7 : decode cX7_step 7 = .ok (.iconst 0, 1) := by decide +kernel
theorem dX7_step_8 : decode cX7_step 8 = .ok (.goto 19, 3) := by decide +kernel
theorem dX7_isHalted_0 : decode cX7_isHalted 0 = .ok (.aload_n 0, 1) := by decide +kernel
theorem dX7_isHalted_1 : decode cX7_isHalted 1 = .ok (.getfield 27, 3) := by decide +kernel
theorem dX7_isHalted_4 : decode cX7_isHalted 4 = .ok (.ifCond .ne 22, 3) := by decide +kernel
theorem dX7_isHalted_26 : decode cX7_isHalted 26 = .ok (.iconst 1, 1) := by decide +kernel
theorem dX7_isHalted_27 : decode cX7_isHalted 27 = .ok (.goto 4, 3) := by decide +kernel
theorem dX7_isHalted_31 : decode cX7_isHalted 31 = .ok (.ireturn, 1) := by decide +kernel
theorem dX7_isHalted_7 : decode cX7_isHalted 7 = .ok (.aload_n 1, 1) := by decide +kernel
theorem dX7_isHalted_8 : decode cX7_isHalted 8 = .ok (.aload_n 0, 1) := by decide +kernel
theorem dX7_isHalted_9 : decode cX7_isHalted 9 = .ok (.getfield 9, 3) := by decide +kernel
theorem dX7_isHalted_12 : decode cX7_isHalted 12 = .ok (.aload_n 0, 1) := by decide +kernel
theorem dX7_isHalted_13 : decode cX7_isHalted 13 = .ok (.aload_n 0, 1) := by decide +kernel
theorem dX7_isHalted_14 : decode cX7_isHalted 14 = .ok (.getfield 15, 3) := by decide +kernel
set_option maxRecDepth 20000 in
theorem ggX7_isHalted_X7_signOf : GoodIn wsX7_isHalted wsX7_signOf := goodIn_ca (goodIn_r _ [8, 9, 18, 19, 20, 21, 22, 23, 24] rfl (by decide +kernel)) (goodIn_sub (fun _ h => List.mem_cons_of_mem _ (List.mem_append_right _ h)) (by decide +kernel))
set_option maxRecDepth 20000 in
theorem gX7_isHalted_X7_signOf : GoodIn wsX7_isHalted (wsV RX7 41 RX7 yX7_signOf wsX7_signOf) := goodIn_app (goodIn_of _ (by decide +kernel)) ggX7_isHalted_X7_signOf
theorem dX7_isHalted_17 : decode cX7_isHalted 17 = .ok (.invokevirtual 41, 3) := by decide +kernel
set_option maxRecDepth 20000 in
theorem ggX7_isHalted_X5_orderFor : GoodIn wsX7_isHalted wsX5_orderFor := goodIn_ca (goodIn_r _ [14, 15, 16, 17, 25, 26, 27, 28, 29, 30, 31, 32, 33, 34, 35] rfl (by decide +kernel)) (goodIn_sub (fun _ h => List.mem_cons_of_mem _ (List.mem_append_right _ h)) (by decide +kernel))
set_option maxRecDepth 20000 in
theorem gX7_isHalted_X5_orderFor : GoodIn wsX7_isHalted (wsV RX7 45 RX5 yX5_orderFor wsX5_orderFor) := goodIn_app (goodIn_of _ (by decide +kernel)) ggX7_isHalted_X5_orderFor
theorem dX7_isHalted_20 : decode cX7_isHalted 20 = .ok (.invokevirtual 45, 3) := by decide +kernel
theorem dX7_isHalted_23 : decode cX7_isHalted 23 = .ok (.ifCond .ne 7, 3) := by decide +kernel
theorem dX7_isHalted_30 : decode cX7_isHalted 30 = .ok (.iconst 0, 1) := by decide +kernel
theorem dX7_go_0 : decode cX7_go 0 = .ok (.aload_n 0, 1) := by decide +kernel
set_option maxRecDepth 20000 in
theorem ggX7_go_X7_begin : GoodIn wsX7_go wsX7_begin := goodIn_r _ [5, 6, 7, 8, 9, 10, 11, 12, 13, 14, 15, 16, 54, 55, 56, 57, 58, 59, 60] rfl (by decide +kernel)
set_option maxRecDepth 20000 in
theorem gX7_go_X7_begin : GoodIn wsX7_go (wsV RX7 75 RX7 yX7_begin wsX7_begin) := goodIn_app (goodIn_of _ (by decide +kernel)) ggX7_go_X7_begin
theorem dX7_go_1 : decode cX7_go 1 = .ok (.invokevirtual 75, 3) := by decide +kernel
theorem dX7_go_4 : decode cX7_go 4 = .ok (.iconst 0, 1) := by decide +kernel
theorem dX7_go_5 : decode cX7_go 5 = .ok (.istore_n 3, 1) := by decide +kernel
theorem dX7_go_6 : decode cX7_go 6 = .ok (.iload_n 3, 1) := by decide +kernel
theorem dX7_go_7 : decode cX7_go 7 = .ok (.iload_n 2, 1) := by decide +kernel
theorem dX7_go_8 : decode cX7_go 8 = .ok (.if_icmp .ge 20, 3) := by decide +kernel
theorem dX7_go_28 : decode cX7_go 28 = .ok (.return_, 1) := by decide +kernel
theorem dX7_go_11 : decode cX7_go 11 = .ok (.aload_n 0, 1) := by decide +kernel
theorem dX7_go_12 : decode cX7_go 12 = .ok (.aload_n 1, 1) := by decide +kernel
set_option maxRecDepth 20000 in
theorem ggX7_go_X7_step : GoodIn wsX7_go wsX7_step := goodIn_ca (goodIn_r _ [20, 12, 7, 8, 21, 10, 22, 23, 24, 25, 11, 26, 27, 28, 9, 29, 30, 31, 4, 32, 6, 33, 34, 35, 36, 37, 38, 39, 40, 41, 42, 43, 44, 45, 46, 47, 48, 49, 50, 51, 52, 53, 54, 55, 56, 57, 58, 59, 60, 61, 62, 63, 64, 65, 66, 67, 68, 69, 70, 71] rfl (by decide +kernel)) (goodIn_sub (fun _ h => List.mem_cons_of_mem _ (List.mem_append_right _ h)) (by decide +kernel))
set_option maxRecDepth 20000 in
theorem gX7_go_X7_step : GoodIn wsX7_go (wsV RX7 78 RX7 yX7_step wsX7_step) := goodIn_app (goodIn_of _ (by decide +kernel)) ggX7_go_X7_step
theorem dX7_go_13 : decode cX7_go 13 = .ok (.invokevirtual 78, 3) := by decide +kernel
theorem dX7_go_16 : decode cX7_go 16 = .ok (.ifCond .ne 6, 3) := by decide +kernel
theorem dX7_go_22 : decode cX7_go 22 = .ok (.iinc 3 1, 3) := by decide +kernel
theorem dX7_go_25 : decode cX7_go 25 = .ok (.goto (-19), 3) := by decide +kernel
theorem dX7_go_19 : decode cX7_go 19 = .ok (.goto 9, 3) := by decide +kernel
set_option maxHeartbeats 4000000 in
set_option maxRecDepth 100000 in
/-- J7_fill_53178 -/
theorem c_J7_fill_53178 (l : Launch) (dC : Nat → ClassId) (dI : Nat → Nat → Nat) (cI : ClassId) (a n : Nat) (f : Nat → Int32) (v : Int32) (hn : n < 2 ^ 31) (sz : Nat) : Met l yJ7_fill_53178 wsJ7_fill_53178 ({ frames := 0, cells := 0, slots := 0, locals := 0 }) (va_Pc [.ref a, .int v] (cPC dC dI [(a, .inl (cI, n, .inl f))] [(cI, .int)] sz)) (va_Qv (fun (u : Nat → Int32) => u = fillJ f n v) (fun (u : Nat → Int32) t => cQB dC dI [(a, .inl (cI, n, .inl u))] [(cI, .int)] (va_A [(a, .inl (cI, n, .inl f))] sz) t) (va_A [(a, .inl (cI, n, .inl f))] sz)) 0 0 (va_A [(a, .inl (cI, n, .inl f))] sz) := by
  refine Met.ofW (cc := cJ7_fill_53178) (maxL := 4) (ret := none) (by decide) rfl ?_
  intro p e s m args below meth c s₁ B hml hv
  obtain ⟨rfl, hsz, hP, hK, hD0, hN⟩ := hv
  have hx := B.exec
  have hb := B.bytes
  have hr := B.returns
  have hts := atoms_spec (ws := wsJ7_fill_53178) B.pre
  have hown : s.vm.findClass RJ7 = some m.cls := findClass_of_methodNamed B.named
  have hlocks := B.notSynchronized
  subst hsz
  have hD := hD0.self (sz := s.heap.size)
  generalize hAe : va_A [(a, .inl (cI, n, .inl f))] s.heap.size = A at hD ⊢
  have hA : ∀ q : Nat, s.heap.size ≤ q → A q := fun q h => by rw [← hAe]; exact Or.inr h
  have hS : va_S A s.heap s.heap [] := va_S.rf
  have hP : va_P (dC, dI) vwCl [(a, .inl (cI, n, .inl f))] s.heap := hP
  have hD : va_D A [(a, .inl (cI, n, .inl f))] := hD
  have hl := lv_entry ([.ref a, .int v]) (n := 4) (Nat.le_of_ble_eq_true rfl)
  rw [lg_entry_eq]
  generalize (lg_sl ([.ref a, .int v]) ++ List.replicate (4 - (lg_sl ([.ref a, .int v])).length) Slot.unset).toArray = ls at hl ⊢
  have hl : lv_has ls 4 [(0, .ref a), (1, .int v)] := hl
  refine lv_iconst (v := 0) hx hb dJ7_fill_53178_0 (by decide) ?_
  refine lv_istore_n (lv' := [(2, .int 0), (0, .ref a), (1, .int v)]) hx hb dJ7_fill_53178_1 rfl hl (by decide) rfl (fun ls hl => ?_)
  refine lv_aload_n hx hb dJ7_fill_53178_2 rfl (lv_at hl 1 rfl) ?_
  refine va_alen hx hb hK hP 0 0 rfl rfl (v := Int32.ofNat n) (by rfl) dJ7_fill_53178_3 ?_
  refine lv_istore_n (lv' := [(3, .int (Int32.ofNat n)), (2, .int 0), (0, .ref a), (1, .int v)]) hx hb dJ7_fill_53178_4 rfl hl (by decide) rfl (fun ls hl => ?_)
  refine lp_go (σ := Nat × (Nat → Int32)) (fun x => match x with | (j_5, g_5) => j_5 ≤ n ∧ g_5 = (fun q => if q < j_5 then v else f q)) (fun x => match x with | (j_5, g_5) => n - j_5) (fun x => [(a, .inl (cI, n, .inl x.2))]) (fun x => [(0, .ref a), (1, .int v), (2, .int (nI x.1)), (3, .int (Int32.ofNat n))]) (fun _ => []) (fun x hI ih5 H locs hP hD hS ls hl => ?_) (0, f) ⟨Nat.zero_le _, by funext q; simp⟩ (hP.sub [0] rfl) (hD.sub [0] (by decide) rfl) hS (lv_sub hl [2, 3, 1, 0] rfl)
  obtain ⟨j_5, g_5⟩ := x
  have hP : va_P (dC, dI) vwCl [(a, .inl (cI, n, .inl g_5))] H := hP
  have hD : va_D A [(a, .inl (cI, n, .inl g_5))] := hD
  have hl : lv_has ls 4 [(0, .ref a), (1, .int v), (2, .int (nI j_5)), (3, .int (Int32.ofNat n))] := hl
  try dsimp only at hI
  have ih5 := ih5
  refine lv_iload_n hx hb dJ7_fill_53178_5 rfl (lv_at hl 2 rfl) ?_
  refine lv_iload_n hx hb dJ7_fill_53178_6 rfl (lv_at hl 3 rfl) ?_
  refine lv_icmp_ge (tgt := 20) hx hb dJ7_fill_53178_7 (by decide) (fun c7_1 => ?_) (fun c7_1 => ?_)
  · have hP9 := hP.sub (ws' := [(a, .inl (cI, n, .inl g_5))]) [0] rfl
    have hD9 := hD.sub (ws' := [(a, .inl (cI, n, .inl g_5))]) [0] (by decide) rfl
    have hK9 := hK.sub (tys' := [(cI, .int)]) [0] rfl
    exact W.vret hx hb hr (fun t ht hW => ⟨⟨g_5, rfl, (by obtain rfl := nI_end hn hI.1 c7_1; rw [hI.2]; rfl), ⟨by rw [ht]; exact hP9, va_K.moved hW.alike hK9, hD9⟩⟩, hS.F ht⟩) hS.2.2 dJ7_fill_53178_20
  · refine lv_aload_n hx hb dJ7_fill_53178_10 rfl (lv_at hl 0 rfl) ?_
    refine lv_iload_n hx hb dJ7_fill_53178_11 rfl (lv_at hl 2 rfl) ?_
    refine lv_iload_n hx hb dJ7_fill_53178_12 rfl (lv_at hl 1 rfl) ?_
    refine va_iast hx hb hK hP hD hS 0 0 rfl rfl (vp_in_nI (nI_step hn hI.1 c7_1) hn) dJ7_fill_53178_13 (fun H locs hP hD hS => ?_)
    obtain ⟨f_2, ef_2⟩ : ∃ z, z = (upd g_5 (nI j_5).toNatClampNeg v) := ⟨_, rfl⟩
    have hP : va_P (dC, dI) vwCl [(a, .inl (cI, n, .inl f_2))] H := by rw [ef_2]; exact hP
    have hD : va_D A [(a, .inl (cI, n, .inl f_2))] := by rw [ef_2]; exact hD
    obtain ⟨y_3, ey_3⟩ : ∃ y : Int32, y = (nI j_5) + 1 := ⟨_, rfl⟩
    refine lv_iinc (v := y_3) (lv' := [(2, .int y_3), (0, .ref a), (1, .int v), (3, .int (Int32.ofNat n))]) hx hb dJ7_fill_53178_14 hl (k := 2) rfl (by rw [ey_3]; rfl) (by decide) rfl (fun ls hl => ?_)
    obtain rfl : y_3 = nI (j_5 + 1) := by rw [ey_3]; exact nI_1 _
    refine lv_goto (tgt := 5) hx hb dJ7_fill_53178_17 (by decide) ?_
    exact ih5 ((j_5 + 1), f_2) ⟨nI_step hn hI.1 c7_1, by rw [ef_2, hI.2, nI_clamp (Nat.lt_of_lt_of_le (nI_step hn hI.1 c7_1) (Nat.le_of_lt hn))]; exact fill_upd⟩ (by have := nI_step hn hI.1 c7_1; show n - (j_5 + 1) < n - j_5; omega) _ _ (hP.sub [0] rfl) (hD.sub [0] (by decide) rfl) hS ls (lv_sub hl [1, 2, 0, 3] rfl)

set_option maxHeartbeats 4000000 in
set_option maxRecDepth 100000 in
/-- X7_begin -/
theorem c_X7_begin (l : Launch) (dC : Nat → ClassId) (dI : Nat → Nat → Nat) (cI : ClassId) (ra ta : Nat) (st ce sp lm rm fa : Int32) (f : Nat → Int32) (sz : Nat) : Met l yX7_begin wsX7_begin ({ frames := 1, cells := 0, slots := 0, locals := 23 }) (va_Pc [.ref ra] (cPC dC dI [(ra, .inr (12, [.int st, .int ce, .int sp, .int lm, .int rm, .int fa, .ref ta])), (ta, .inl (cI, 1001, .inl f))] [(cI, .int)] sz)) (va_Qv (fun (u : RunS) => u = beginJ f) (fun (u : RunS) t => cQB dC dI [(ra, .inr (12, [.int u.1, .int u.2.1, .int u.2.2.1, .int u.2.2.2.1, .int u.2.2.2.2.1, .int u.2.2.2.2.2.1, .ref ta])), (ta, .inl (cI, 1001, .inl u.2.2.2.2.2.2))] [(cI, .int)] (va_A [(ra, .inr (12, [.int st, .int ce, .int sp, .int lm, .int rm, .int fa, .ref ta])), (ta, .inl (cI, 1001, .inl f))] sz) t) (va_A [(ra, .inr (12, [.int st, .int ce, .int sp, .int lm, .int rm, .int fa, .ref ta])), (ta, .inl (cI, 1001, .inl f))] sz)) 0 0 (va_A [(ra, .inr (12, [.int st, .int ce, .int sp, .int lm, .int rm, .int fa, .ref ta])), (ta, .inl (cI, 1001, .inl f))] sz) := by
  refine Met.ofW (cc := cX7_begin) (maxL := 1) (ret := none) (by decide) rfl ?_
  intro p e s m args below meth c s₁ B hml hv
  obtain ⟨rfl, hsz, hP, hK, hD0, hN⟩ := hv
  have hx := B.exec
  have hb := B.bytes
  have hr := B.returns
  have hts := atoms_spec (ws := wsX7_begin) B.pre
  have hown : s.vm.findClass RX7 = some m.cls := findClass_of_methodNamed B.named
  have hlocks := B.notSynchronized
  subst hsz
  have hD := hD0.self (sz := s.heap.size)
  generalize hAe : va_A [(ra, .inr (12, [.int st, .int ce, .int sp, .int lm, .int rm, .int fa, .ref ta])), (ta, .inl (cI, 1001, .inl f))] s.heap.size = A at hD ⊢
  have hA : ∀ q : Nat, s.heap.size ≤ q → A q := fun q h => by rw [← hAe]; exact Or.inr h
  have hS : va_S A s.heap s.heap [] := va_S.rf
  have hP : va_P (dC, dI) vwCl [(ra, .inr (12, [.int st, .int ce, .int sp, .int lm, .int rm, .int fa, .ref ta])), (ta, .inl (cI, 1001, .inl f))] s.heap := hP
  have hD : va_D A [(ra, .inr (12, [.int st, .int ce, .int sp, .int lm, .int rm, .int fa, .ref ta])), (ta, .inl (cI, 1001, .inl f))] := hD
  have hl := lv_entry ([.ref ra]) (n := 1) (Nat.le_of_ble_eq_true rfl)
  rw [lg_entry_eq]
  generalize (lg_sl ([.ref ra]) ++ List.replicate (1 - (lg_sl ([.ref ra])).length) Slot.unset).toArray = ls at hl ⊢
  have hl : lv_has ls 1 [(0, .ref ra)] := hl
  have iWX7 : ∀ w ∈ u_ws RX7 TX7 7, w ∈ wsX7_begin := by decide +kernel
  refine lv_aload_n hx hb dX7_begin_0 rfl (lv_at hl 0 rfl) ?_
  refine va_get (D := (dC, dI)) (ci := 12) (v := .ref ta) (C := RX7) (T := TX7) (N := 7) hx hb hts iWX7 hown hK hP 0 rfl rfl 6 (by decide) (hts (.fieldLink RX7 31 "Beaverhall$Run" "tape" "[I") (by decide +kernel)) (fun _ h9 => h9) rfl dX7_begin_1 ?_
  refine lv_iconst (v := 0) hx hb dX7_begin_4 (by decide) ?_
  have hPc := hP.sub (ws' := [(ta, .inl (cI, 1001, .inl f))]) [1] rfl
  have hDc := hD.sub (ws' := [(ta, .inl (cI, 1001, .inl f))]) [1] (by decide) rfl
  have hKc := hK.sub (tys' := [(cI, .int)]) [0] rfl
  have hFc := va_free (wc := [(ta, .inl (cI, 1001, .inl f))]) hD hS hA [1] rfl
  refine va_callv (va_runS (As := [.ref ta, .int 0]) (rest := []) ⟨hx, hb, hml, hown, hts⟩ (c_J7_fill_53178 l dC dI cI ta 1001 f 0 (by decide) s.heap.size) (va_cwS 2 hts gX7_begin_J7_fill_53178 rfl rfl rfl (by decide +kernel) ⟨Nat.le_of_ble_eq_true rfl, Nat.le_of_ble_eq_true rfl⟩) (pcS hPc hDc hKc hN) rfl rfl hl.1 rfl (lv_room (Nat.le_of_ble_eq_true rfl)) dX7_begin_5 ⟨Nat.le_of_ble_eq_true rfl, Nat.le_of_ble_eq_true rfl⟩) hS (fun q _ h => hFc q h) hFc (fun u t H1 locs ht hvm hw_2 hB hz1 hk1 hS => ?_)
  obtain ⟨hP1, hK1, hD1⟩ := hB
  rw [ht] at hP1
  try dsimp only at hw_2
  obtain ⟨hP, hD⟩ := va_join (wr := [(ra, .inr (12, [.int st, .int ce, .int sp, .int lm, .int rm, .int fa, .ref ta]))]) (w1 := [(ta, .inl (cI, 1001, .inl u))]) hP hD [1] [0] rfl rfl (by decide) (by decide) hk1 hFc hP1 hD1
  generalize H1 = H at hP hS ⊢
  have hP : va_P (dC, dI) vwCl [(ra, .inr (12, [.int st, .int ce, .int sp, .int lm, .int rm, .int fa, .ref ta])), (ta, .inl (cI, 1001, .inl u))] H := hP
  have hD : va_D A [(ra, .inr (12, [.int st, .int ce, .int sp, .int lm, .int rm, .int fa, .ref ta])), (ta, .inl (cI, 1001, .inl u))] := hD
  obtain ⟨f_1, ef_1⟩ : ∃ z, z = u := ⟨_, rfl⟩
  subst ef_1
  refine lv_aload_n hx hb dX7_begin_8 rfl (lv_at hl 0 rfl) ?_
  refine lv_iconst (v := 0) hx hb dX7_begin_9 (by decide) ?_
  refine va_put (D := (dC, dI)) (ci := 12) (v := .int 0) (ty := .int) (C := RX7) (T := TX7) (N := 7) hx hb hts iWX7 tyX7 tyX7_ok nmX7 hown hK hP hD hS 0 rfl rfl 0 (by decide) (hts (.fieldLink RX7 9 "Beaverhall$Run" "state" "I") (by decide +kernel)) (fun _ h9 => h9) rfl (by decide +kernel) rfl rfl (Nat.le_of_ble_eq_true rfl) dX7_begin_10 (fun H locs hP hD hS => ?_)
  have hP : va_P (dC, dI) vwCl [(ra, .inr (12, [.int 0, .int ce, .int sp, .int lm, .int rm, .int fa, .ref ta])), (ta, .inl (cI, 1001, .inl f_1))] H := hP
  have hD : va_D A [(ra, .inr (12, [.int 0, .int ce, .int sp, .int lm, .int rm, .int fa, .ref ta])), (ta, .inl (cI, 1001, .inl f_1))] := hD
  refine lv_aload_n hx hb dX7_begin_13 rfl (lv_at hl 0 rfl) ?_
  refine lv_iconst (v := 0) hx hb dX7_begin_14 (by decide) ?_
  refine va_put (D := (dC, dI)) (ci := 12) (v := .int 0) (ty := .int) (C := RX7) (T := TX7) (N := 7) hx hb hts iWX7 tyX7 tyX7_ok nmX7 hown hK hP hD hS 0 rfl rfl 1 (by decide) (hts (.fieldLink RX7 15 "Beaverhall$Run" "cell" "I") (by decide +kernel)) (fun _ h9 => h9) rfl (by decide +kernel) rfl rfl (Nat.le_of_ble_eq_true rfl) dX7_begin_15 (fun H locs hP hD hS => ?_)
  have hP : va_P (dC, dI) vwCl [(ra, .inr (12, [.int 0, .int 0, .int sp, .int lm, .int rm, .int fa, .ref ta])), (ta, .inl (cI, 1001, .inl f_1))] H := hP
  have hD : va_D A [(ra, .inr (12, [.int 0, .int 0, .int sp, .int lm, .int rm, .int fa, .ref ta])), (ta, .inl (cI, 1001, .inl f_1))] := hD
  refine lv_aload_n hx hb dX7_begin_18 rfl (lv_at hl 0 rfl) ?_
  refine lv_iconst (v := 0) hx hb dX7_begin_19 (by decide) ?_
  refine va_put (D := (dC, dI)) (ci := 12) (v := .int 0) (ty := .int) (C := RX7) (T := TX7) (N := 7) hx hb hts iWX7 tyX7 tyX7_ok nmX7 hown hK hP hD hS 0 rfl rfl 2 (by decide) (hts (.fieldLink RX7 18 "Beaverhall$Run" "steps" "I") (by decide +kernel)) (fun _ h9 => h9) rfl (by decide +kernel) rfl rfl (Nat.le_of_ble_eq_true rfl) dX7_begin_20 (fun H locs hP hD hS => ?_)
  have hP : va_P (dC, dI) vwCl [(ra, .inr (12, [.int 0, .int 0, .int 0, .int lm, .int rm, .int fa, .ref ta])), (ta, .inl (cI, 1001, .inl f_1))] H := hP
  have hD : va_D A [(ra, .inr (12, [.int 0, .int 0, .int 0, .int lm, .int rm, .int fa, .ref ta])), (ta, .inl (cI, 1001, .inl f_1))] := hD
  refine lv_aload_n hx hb dX7_begin_23 rfl (lv_at hl 0 rfl) ?_
  refine lv_iconst (v := 0) hx hb dX7_begin_24 (by decide) ?_
  refine va_put (D := (dC, dI)) (ci := 12) (v := .int 0) (ty := .int) (C := RX7) (T := TX7) (N := 7) hx hb hts iWX7 tyX7 tyX7_ok nmX7 hown hK hP hD hS 0 rfl rfl 3 (by decide) (hts (.fieldLink RX7 21 "Beaverhall$Run" "leftmost" "I") (by decide +kernel)) (fun _ h9 => h9) rfl (by decide +kernel) rfl rfl (Nat.le_of_ble_eq_true rfl) dX7_begin_25 (fun H locs hP hD hS => ?_)
  have hP : va_P (dC, dI) vwCl [(ra, .inr (12, [.int 0, .int 0, .int 0, .int 0, .int rm, .int fa, .ref ta])), (ta, .inl (cI, 1001, .inl f_1))] H := hP
  have hD : va_D A [(ra, .inr (12, [.int 0, .int 0, .int 0, .int 0, .int rm, .int fa, .ref ta])), (ta, .inl (cI, 1001, .inl f_1))] := hD
  refine lv_aload_n hx hb dX7_begin_28 rfl (lv_at hl 0 rfl) ?_
  refine lv_iconst (v := 0) hx hb dX7_begin_29 (by decide) ?_
  refine va_put (D := (dC, dI)) (ci := 12) (v := .int 0) (ty := .int) (C := RX7) (T := TX7) (N := 7) hx hb hts iWX7 tyX7 tyX7_ok nmX7 hown hK hP hD hS 0 rfl rfl 4 (by decide) (hts (.fieldLink RX7 24 "Beaverhall$Run" "rightmost" "I") (by decide +kernel)) (fun _ h9 => h9) rfl (by decide +kernel) rfl rfl (Nat.le_of_ble_eq_true rfl) dX7_begin_30 (fun H locs hP hD hS => ?_)
  have hP : va_P (dC, dI) vwCl [(ra, .inr (12, [.int 0, .int 0, .int 0, .int 0, .int 0, .int fa, .ref ta])), (ta, .inl (cI, 1001, .inl f_1))] H := hP
  have hD : va_D A [(ra, .inr (12, [.int 0, .int 0, .int 0, .int 0, .int 0, .int fa, .ref ta])), (ta, .inl (cI, 1001, .inl f_1))] := hD
  refine lv_aload_n hx hb dX7_begin_33 rfl (lv_at hl 0 rfl) ?_
  refine lv_iconst (v := 0) hx hb dX7_begin_34 (by decide) ?_
  refine va_put (D := (dC, dI)) (ci := 12) (v := .int 0) (ty := .boolean) (C := RX7) (T := TX7) (N := 7) hx hb hts iWX7 tyX7 tyX7_ok nmX7 hown hK hP hD hS 0 rfl rfl 5 (by decide) (hts (.fieldLink RX7 27 "Beaverhall$Run" "hasFallen" "Z") (by decide +kernel)) (fun _ h9 => h9) rfl (by decide +kernel) rfl rfl (Nat.le_of_ble_eq_true rfl) dX7_begin_35 (fun H locs hP hD hS => ?_)
  have hP : va_P (dC, dI) vwCl [(ra, .inr (12, [.int 0, .int 0, .int 0, .int 0, .int 0, .int 0, .ref ta])), (ta, .inl (cI, 1001, .inl f_1))] H := hP
  have hD : va_D A [(ra, .inr (12, [.int 0, .int 0, .int 0, .int 0, .int 0, .int 0, .ref ta])), (ta, .inl (cI, 1001, .inl f_1))] := hD
  have hP9 := hP.sub (ws' := [(ra, .inr (12, [.int 0, .int 0, .int 0, .int 0, .int 0, .int 0, .ref ta])), (ta, .inl (cI, 1001, .inl f_1))]) [0, 1] rfl
  have hD9 := hD.sub (ws' := [(ra, .inr (12, [.int 0, .int 0, .int 0, .int 0, .int 0, .int 0, .ref ta])), (ta, .inl (cI, 1001, .inl f_1))]) [0, 1] (by decide) rfl
  have hK9 := hK.sub (tys' := [(cI, .int)]) [0] rfl
  exact W.vret hx hb hr (fun t ht hW => ⟨⟨(0, 0, 0, 0, 0, 0, f_1), rfl, (by (try subst hw_2); simp [beginJ]), ⟨by rw [ht]; exact hP9, va_K.moved hW.alike hK9, hD9⟩⟩, hS.F ht⟩) hS.2.2 dX7_begin_38

set_option maxHeartbeats 4000000 in
set_option maxRecDepth 100000 in
/-- X7_step -/
theorem c_X7_step (l : Launch) (dC : Nat → ClassId) (dI : Nat → Nat → Nat) (cI : ClassId) (ra ta : Nat) (st ce sp lm rm fa : Int32) (f : Nat → Int32) (mm oo la hh : Nat) (he ss gg wr tl le fi se : Int32) (o : Nat → Int32) (hss : ss ≤ 6) (hgg : gg ≤ 4) (sz : Nat) : Met l yX7_step wsX7_step ({ frames := 1, cells := 0, slots := 0, locals := 24 }) (va_Pc [.ref ra, .ref mm] (cPC dC dI [(ra, .inr (12, [.int st, .int ce, .int sp, .int lm, .int rm, .int fa, .ref ta])), (ta, .inl (cI, 1001, .inl f)), (mm, .inr (10, [.int he, .int ss, .int gg, .ref la, .int wr, .int tl, .int le, .int fi, .int se, .ref oo, .ref hh])), (oo, .inl (cI, 24, .inl o))] [(cI, .int)] sz)) (va_Qi (fun (r : Int32) (u : RunS) => (r, u) = stepJ he ss gg o (st, ce, sp, lm, rm, fa, f)) (fun (u : RunS) t => cQB dC dI [(ra, .inr (12, [.int u.1, .int u.2.1, .int u.2.2.1, .int u.2.2.2.1, .int u.2.2.2.2.1, .int u.2.2.2.2.2.1, .ref ta])), (ta, .inl (cI, 1001, .inl u.2.2.2.2.2.2)), (mm, .inr (10, [.int he, .int ss, .int gg, .ref la, .int wr, .int tl, .int le, .int fi, .int se, .ref oo, .ref hh])), (oo, .inl (cI, 24, .inl o))] [(cI, .int)] (va_A [(ra, .inr (12, [.int st, .int ce, .int sp, .int lm, .int rm, .int fa, .ref ta])), (ta, .inl (cI, 1001, .inl f)), (mm, .inr (10, [.int he, .int ss, .int gg, .ref la, .int wr, .int tl, .int le, .int fi, .int se, .ref oo, .ref hh])), (oo, .inl (cI, 24, .inl o))] sz) t) (va_A [(ra, .inr (12, [.int st, .int ce, .int sp, .int lm, .int rm, .int fa, .ref ta])), (ta, .inl (cI, 1001, .inl f)), (mm, .inr (10, [.int he, .int ss, .int gg, .ref la, .int wr, .int tl, .int le, .int fi, .int se, .ref oo, .ref hh])), (oo, .inl (cI, 24, .inl o))] sz)) 0 0 (va_A [(ra, .inr (12, [.int st, .int ce, .int sp, .int lm, .int rm, .int fa, .ref ta])), (ta, .inl (cI, 1001, .inl f)), (mm, .inr (10, [.int he, .int ss, .int gg, .ref la, .int wr, .int tl, .int le, .int fi, .int se, .ref oo, .ref hh])), (oo, .inl (cI, 24, .inl o))] sz) := by
  refine Met.ofW (cc := cX7_step) (maxL := 5) (ret := (some .boolean)) (by decide) rfl ?_
  intro p e s m args below meth c s₁ B hml hv
  obtain ⟨rfl, hsz, hP, hK, hD0, hN⟩ := hv
  have hx := B.exec
  have hb := B.bytes
  have hr := B.returns
  have hts := atoms_spec (ws := wsX7_step) B.pre
  have hown : s.vm.findClass RX7 = some m.cls := findClass_of_methodNamed B.named
  have hlocks := B.notSynchronized
  subst hsz
  have hD := hD0.self (sz := s.heap.size)
  generalize hAe : va_A [(ra, .inr (12, [.int st, .int ce, .int sp, .int lm, .int rm, .int fa, .ref ta])), (ta, .inl (cI, 1001, .inl f)), (mm, .inr (10, [.int he, .int ss, .int gg, .ref la, .int wr, .int tl, .int le, .int fi, .int se, .ref oo, .ref hh])), (oo, .inl (cI, 24, .inl o))] s.heap.size = A at hD ⊢
  have hA : ∀ q : Nat, s.heap.size ≤ q → A q := fun q h => by rw [← hAe]; exact Or.inr h
  have hS : va_S A s.heap s.heap [] := va_S.rf
  have hP : va_P (dC, dI) vwCl [(ra, .inr (12, [.int st, .int ce, .int sp, .int lm, .int rm, .int fa, .ref ta])), (ta, .inl (cI, 1001, .inl f)), (mm, .inr (10, [.int he, .int ss, .int gg, .ref la, .int wr, .int tl, .int le, .int fi, .int se, .ref oo, .ref hh])), (oo, .inl (cI, 24, .inl o))] s.heap := hP
  have hD : va_D A [(ra, .inr (12, [.int st, .int ce, .int sp, .int lm, .int rm, .int fa, .ref ta])), (ta, .inl (cI, 1001, .inl f)), (mm, .inr (10, [.int he, .int ss, .int gg, .ref la, .int wr, .int tl, .int le, .int fi, .int se, .ref oo, .ref hh])), (oo, .inl (cI, 24, .inl o))] := hD
  have hl := lv_entry ([.ref ra, .ref mm]) (n := 5) (Nat.le_of_ble_eq_true rfl)
  rw [lg_entry_eq]
  generalize (lg_sl ([.ref ra, .ref mm]) ++ List.replicate (5 - (lg_sl ([.ref ra, .ref mm])).length) Slot.unset).toArray = ls at hl ⊢
  have hl : lv_has ls 5 [(0, .ref ra), (1, .ref mm)] := hl
  have iWX5 : ∀ w ∈ u_ws RX5 TX5 11, w ∈ wsX7_step := by decide +kernel
  have iWX7 : ∀ w ∈ u_ws RX7 TX7 7, w ∈ wsX7_step := by decide +kernel
  refine lv_aload_n hx hb dX7_step_0 rfl (lv_at hl 0 rfl) ?_
  refine va_get (D := (dC, dI)) (ci := 12) (v := .int fa) (C := RX7) (T := TX7) (N := 7) hx hb hts iWX7 hown hK hP 0 rfl rfl 5 (by decide) (hts (.fieldLink RX7 27 "Beaverhall$Run" "hasFallen" "Z") (by decide +kernel)) (fun _ h9 => h9) rfl dX7_step_1 ?_
  refine lv_if_eq (tgt := 11) hx hb dX7_step_4 (by decide) (fun c4_1 => ?_) (fun c4_1 => ?_)
  · refine lv_aload_n hx hb dX7_step_11 rfl (lv_at hl 1 rfl) ?_
    refine lv_aload_n hx hb dX7_step_12 rfl (lv_at hl 0 rfl) ?_
    refine va_get (D := (dC, dI)) (ci := 12) (v := .int st) (C := RX7) (T := TX7) (N := 7) hx hb hts iWX7 hown hK hP 0 rfl rfl 0 (by decide) (hts (.fieldLink RX7 9 "Beaverhall$Run" "state" "I") (by decide +kernel)) (fun _ h9 => h9) rfl dX7_step_13 ?_
    refine lv_aload_n hx hb dX7_step_16 rfl (lv_at hl 0 rfl) ?_
    refine lv_aload_n hx hb dX7_step_17 rfl (lv_at hl 0 rfl) ?_
    refine va_get (D := (dC, dI)) (ci := 12) (v := .int ce) (C := RX7) (T := TX7) (N := 7) hx hb hts iWX7 hown hK hP 0 rfl rfl 1 (by decide) (hts (.fieldLink RX7 15 "Beaverhall$Run" "cell" "I") (by decide +kernel)) (fun _ h9 => h9) rfl dX7_step_18 ?_
    have hPc := hP.sub (ws' := [(ra, .inr (12, [.int st, .int ce, .int sp, .int lm, .int rm, .int fa, .ref ta])), (ta, .inl (cI, 1001, .inl f))]) [0, 1] rfl
    have hDc := hD.sub (ws' := [(ra, .inr (12, [.int st, .int ce, .int sp, .int lm, .int rm, .int fa, .ref ta])), (ta, .inl (cI, 1001, .inl f))]) [0, 1] (by decide) rfl
    have hKc := hK.sub (tys' := [(cI, .int)]) [0] rfl
    have hFc := va_free (wc := [(ra, .inr (12, [.int st, .int ce, .int sp, .int lm, .int rm, .int fa, .ref ta])), (ta, .inl (cI, 1001, .inl f))]) hD hS hA [0, 1] rfl
    refine va_calli (va_runV (As := [.int ce]) (rest := [.int st, .ref mm]) ⟨hx, hb, hml, hown, hts⟩ (c_X7_signOf l dC dI cI ra ta st ce sp lm rm fa f ce s.heap.size) (cwV 1 hts gX7_step_X7_signOf rfl rfl rfl (by decide +kernel) ⟨Nat.le_of_ble_eq_true rfl, Nat.le_of_ble_eq_true rfl⟩) (pcV hPc hDc hKc hN (ci := 12) (q0 := 0) rfl rfl) rfl rfl hl.1 rfl (lv_room (Nat.le_of_ble_eq_true rfl)) dX7_step_21 ⟨Nat.le_of_ble_eq_true rfl, Nat.le_of_ble_eq_true rfl⟩) hS (fun q _ h => hFc q h) hFc (fun r_2 u t H1 locs ht hvm hw_3 hB hz1 hk1 hS => ?_)
    obtain ⟨hP1, hK1, hD1⟩ := hB
    rw [ht] at hP1
    try dsimp only at hw_3
    obtain ⟨hP, hD⟩ := va_join (wr := [(mm, .inr (10, [.int he, .int ss, .int gg, .ref la, .int wr, .int tl, .int le, .int fi, .int se, .ref oo, .ref hh])), (oo, .inl (cI, 24, .inl o))]) (w1 := [(ra, .inr (12, [.int st, .int ce, .int sp, .int lm, .int rm, .int fa, .ref ta])), (ta, .inl (cI, 1001, .inl f))]) hP hD [0, 1] [2, 3] rfl rfl (by decide) (by decide) hk1 hFc hP1 hD1
    generalize H1 = H at hP hS ⊢
    have hP : va_P (dC, dI) vwCl [(mm, .inr (10, [.int he, .int ss, .int gg, .ref la, .int wr, .int tl, .int le, .int fi, .int se, .ref oo, .ref hh])), (oo, .inl (cI, 24, .inl o)), (ra, .inr (12, [.int st, .int ce, .int sp, .int lm, .int rm, .int fa, .ref ta])), (ta, .inl (cI, 1001, .inl f))] H := hP
    have hD : va_D A [(mm, .inr (10, [.int he, .int ss, .int gg, .ref la, .int wr, .int tl, .int le, .int fi, .int se, .ref oo, .ref hh])), (oo, .inl (cI, 24, .inl o)), (ra, .inr (12, [.int st, .int ce, .int sp, .int lm, .int rm, .int fa, .ref ta])), (ta, .inl (cI, 1001, .inl f))] := hD
    have hPc := hP.sub (ws' := [(mm, .inr (10, [.int he, .int ss, .int gg, .ref la, .int wr, .int tl, .int le, .int fi, .int se, .ref oo, .ref hh])), (oo, .inl (cI, 24, .inl o))]) [0, 1] rfl
    have hDc := hD.sub (ws' := [(mm, .inr (10, [.int he, .int ss, .int gg, .ref la, .int wr, .int tl, .int le, .int fi, .int se, .ref oo, .ref hh])), (oo, .inl (cI, 24, .inl o))]) [0, 1] (by decide) rfl
    have hKc := hK.sub (tys' := [(cI, .int)]) [0] rfl
    have hFc := va_free (wc := [(mm, .inr (10, [.int he, .int ss, .int gg, .ref la, .int wr, .int tl, .int le, .int fi, .int se, .ref oo, .ref hh])), (oo, .inl (cI, 24, .inl o))]) hD hS hA [0, 1] rfl
    refine va_calli (va_runV (As := [.int st, .int r_2]) (rest := []) ⟨hx, hb, hml, hown, hts⟩ (c_X5_orderFor l dC dI cI mm oo la hh he ss gg wr tl le fi se o hss hgg st r_2 H.size) (cwV 2 hts gX7_step_X5_orderFor rfl rfl rfl (by decide +kernel) ⟨Nat.le_of_ble_eq_true rfl, Nat.le_of_ble_eq_true rfl⟩) (pcV hPc hDc hKc hN (ci := 10) (q0 := 0) rfl rfl) rfl rfl hl.1 rfl (lv_room (Nat.le_of_ble_eq_true rfl)) dX7_step_24 ⟨Nat.le_of_ble_eq_true rfl, Nat.le_of_ble_eq_true rfl⟩) hS (fun q _ h => hFc q h) hFc (fun r_4 u t H1 locs ht hvm hw_5 hB hz1 hk1 hS => ?_)
    obtain ⟨hP1, hK1, hD1⟩ := hB
    rw [ht] at hP1
    try dsimp only at hw_5
    obtain ⟨hP, hD⟩ := va_join (wr := [(ra, .inr (12, [.int st, .int ce, .int sp, .int lm, .int rm, .int fa, .ref ta])), (ta, .inl (cI, 1001, .inl f))]) (w1 := [(mm, .inr (10, [.int he, .int ss, .int gg, .ref la, .int wr, .int tl, .int le, .int fi, .int se, .ref oo, .ref hh])), (oo, .inl (cI, 24, .inl o))]) hP hD [0, 1] [2, 3] rfl rfl (by decide) (by decide) hk1 hFc hP1 hD1
    generalize H1 = H at hP hS ⊢
    have hP : va_P (dC, dI) vwCl [(ra, .inr (12, [.int st, .int ce, .int sp, .int lm, .int rm, .int fa, .ref ta])), (ta, .inl (cI, 1001, .inl f)), (mm, .inr (10, [.int he, .int ss, .int gg, .ref la, .int wr, .int tl, .int le, .int fi, .int se, .ref oo, .ref hh])), (oo, .inl (cI, 24, .inl o))] H := hP
    have hD : va_D A [(ra, .inr (12, [.int st, .int ce, .int sp, .int lm, .int rm, .int fa, .ref ta])), (ta, .inl (cI, 1001, .inl f)), (mm, .inr (10, [.int he, .int ss, .int gg, .ref la, .int wr, .int tl, .int le, .int fi, .int se, .ref oo, .ref hh])), (oo, .inl (cI, 24, .inl o))] := hD
    refine lv_istore_n (lv' := [(2, .int r_4), (0, .ref ra), (1, .ref mm)]) hx hb dX7_step_27 rfl hl (by decide) rfl (fun ls hl => ?_)
    refine lv_iload_n hx hb dX7_step_28 rfl (lv_at hl 0 rfl) ?_
    refine lv_if_ne (tgt := 34) hx hb dX7_step_29 (by decide) (fun c29_6 => ?_) (fun c29_6 => ?_)
    · refine lv_aload_n hx hb dX7_step_34 rfl (lv_at hl 1 rfl) ?_
      refine va_get (D := (dC, dI)) (ci := 12) (v := .int ce) (C := RX7) (T := TX7) (N := 7) hx hb hts iWX7 hown hK hP 0 rfl rfl 1 (by decide) (hts (.fieldLink RX7 15 "Beaverhall$Run" "cell" "I") (by decide +kernel)) (fun _ h9 => h9) rfl dX7_step_35 ?_
      refine lv_iload_n hx hb dX7_step_38 rfl (lv_at hl 0 rfl) ?_
      have hPc := hP.sub (ws' := []) [] rfl
      have hDc := hD.sub (ws' := []) [] (by decide) rfl
      have hKc := hK.sub (tys' := []) [] rfl
      have hFc := va_free (wc := []) hD hS hA [] rfl
      refine va_calli (va_runS (As := [.int r_4]) (rest := [.int ce]) ⟨hx, hb, hml, hown, hts⟩ (c_X5_moveOf l dC dI r_4 H.size) (va_cwS 1 hts gX7_step_X5_moveOf rfl rfl rfl (by decide +kernel) ⟨Nat.le_of_ble_eq_true rfl, Nat.le_of_ble_eq_true rfl⟩) (pcS hPc hDc hKc hN) rfl rfl hl.1 rfl (lv_room (Nat.le_of_ble_eq_true rfl)) dX7_step_39 ⟨Nat.le_of_ble_eq_true rfl, Nat.le_of_ble_eq_true rfl⟩) hS (fun q _ h => hFc q h) hFc (fun r_7 u t H1 locs ht hvm hw_8 hB hz1 hk1 hS => ?_)
      obtain ⟨hP1, hK1, hD1⟩ := hB
      rw [ht] at hP1
      try dsimp only at hw_8
      obtain ⟨hP, hD⟩ := va_join (wr := [(ra, .inr (12, [.int st, .int ce, .int sp, .int lm, .int rm, .int fa, .ref ta])), (ta, .inl (cI, 1001, .inl f)), (mm, .inr (10, [.int he, .int ss, .int gg, .ref la, .int wr, .int tl, .int le, .int fi, .int se, .ref oo, .ref hh])), (oo, .inl (cI, 24, .inl o))]) (w1 := []) hP hD [] [0, 1, 2, 3] rfl rfl (by decide) (by decide) hk1 hFc hP1 hD1
      generalize H1 = H at hP hS ⊢
      have hP : va_P (dC, dI) vwCl [(ra, .inr (12, [.int st, .int ce, .int sp, .int lm, .int rm, .int fa, .ref ta])), (ta, .inl (cI, 1001, .inl f)), (mm, .inr (10, [.int he, .int ss, .int gg, .ref la, .int wr, .int tl, .int le, .int fi, .int se, .ref oo, .ref hh])), (oo, .inl (cI, 24, .inl o))] H := hP
      have hD : va_D A [(ra, .inr (12, [.int st, .int ce, .int sp, .int lm, .int rm, .int fa, .ref ta])), (ta, .inl (cI, 1001, .inl f)), (mm, .inr (10, [.int he, .int ss, .int gg, .ref la, .int wr, .int tl, .int le, .int fi, .int se, .ref oo, .ref hh])), (oo, .inl (cI, 24, .inl o))] := hD
      refine lv_iadd hx hb dX7_step_42 ?_
      refine lv_topi (fun x_9 ex_9 => ?_)
      refine lv_istore_n (lv' := [(3, .int x_9), (2, .int r_4), (0, .ref ra), (1, .ref mm)]) hx hb dX7_step_43 rfl hl (by decide) rfl (fun ls hl => ?_)
      refine lv_aload_n hx hb dX7_step_44 rfl (lv_at hl 3 rfl) ?_
      refine va_get (D := (dC, dI)) (ci := 10) (v := .int he) (C := RX5) (T := TX5) (N := 11) hx hb hts iWX5 hown hK hP 2 rfl rfl 0 (by decide) (hts (.fieldLink RX7 54 "Beaverhall$Machine" "hasEnd" "Z") (by decide +kernel)) (fun _ h9 => h9) rfl dX7_step_45 ?_
      refine lv_if_eq (tgt := 59) hx hb dX7_step_48 (by decide) (fun c48_10 => ?_) (fun c48_10 => ?_)
      · refine lv_iconst (v := 0) hx hb dX7_step_59 (by decide) ?_
        refine lv_istore (lv' := [(4, .int 0), (3, .int x_9), (2, .int r_4), (0, .ref ra), (1, .ref mm)]) hx hb dX7_step_60 hl (by decide) rfl (fun ls hl => ?_)
        refine lv_iload hx hb dX7_step_62 (lv_at hl 0 rfl) ?_
        refine lv_if_ne (tgt := 83) hx hb dX7_step_64 (by decide) (fun c64_11 => ?_) (fun c64_11 => ?_)
        · exact (c64_11 (by decide)).elim
        · refine lv_iload_n hx hb dX7_step_67 rfl (lv_at hl 1 rfl) ?_
          refine lv_sipush (v := (-500)) hx hb dX7_step_68 (by decide) ?_
          refine lv_icmp_lt (tgt := 81) hx hb dX7_step_71 (by decide) (fun c71_12 => ?_) (fun c71_12 => ?_)
          · refine lv_iconst (v := 0) hx hb dX7_step_81 (by decide) ?_
            have hP9 := hP.sub (ws' := [(ra, .inr (12, [.int st, .int ce, .int sp, .int lm, .int rm, .int fa, .ref ta])), (ta, .inl (cI, 1001, .inl f)), (mm, .inr (10, [.int he, .int ss, .int gg, .ref la, .int wr, .int tl, .int le, .int fi, .int se, .ref oo, .ref hh])), (oo, .inl (cI, 24, .inl o))]) [0, 1, 2, 3] rfl
            have hD9 := hD.sub (ws' := [(ra, .inr (12, [.int st, .int ce, .int sp, .int lm, .int rm, .int fa, .ref ta])), (ta, .inl (cI, 1001, .inl f)), (mm, .inr (10, [.int he, .int ss, .int gg, .ref la, .int wr, .int tl, .int le, .int fi, .int se, .ref oo, .ref hh])), (oo, .inl (cI, 24, .inl o))]) [0, 1, 2, 3] (by decide) rfl
            have hK9 := hK.sub (tys' := [(cI, .int)]) [0] rfl
            exact W.zret (v := 0) hx hb hr (by rfl) (fun t ht hW => ⟨⟨0, (st, ce, sp, lm, rm, fa, f), rfl, (by (try subst ex_9); (try subst hw_8); (try subst hw_5); (try subst hw_3); simp [stepJ, c4_1, c29_6, c48_10, c64_11, c71_12]), ⟨by rw [ht]; exact hP9, va_K.moved hW.alike hK9, hD9⟩⟩, hS.F ht⟩) hS.2.2 dX7_step_82
          · refine lv_iload_n hx hb dX7_step_74 rfl (lv_at hl 1 rfl) ?_
            refine lv_sipush (v := 500) hx hb dX7_step_75 (by decide) ?_
            refine lv_icmp_le (tgt := 83) hx hb dX7_step_78 (by decide) (fun c78_13 => ?_) (fun c78_13 => ?_)
            · refine lv_aload_n hx hb dX7_step_83 rfl (lv_at hl 3 rfl) ?_
              refine lv_aload_n hx hb dX7_step_84 rfl (lv_at hl 3 rfl) ?_
              refine va_get (D := (dC, dI)) (ci := 12) (v := .int ce) (C := RX7) (T := TX7) (N := 7) hx hb hts iWX7 hown hK hP 0 rfl rfl 1 (by decide) (hts (.fieldLink RX7 15 "Beaverhall$Run" "cell" "I") (by decide +kernel)) (fun _ h9 => h9) rfl dX7_step_85 ?_
              refine lv_iload_n hx hb dX7_step_88 rfl (lv_at hl 2 rfl) ?_
              have hPc := hP.sub (ws' := []) [] rfl
              have hDc := hD.sub (ws' := []) [] (by decide) rfl
              have hKc := hK.sub (tys' := []) [] rfl
              have hFc := va_free (wc := []) hD hS hA [] rfl
              refine va_calli (va_runS (As := [.int r_4]) (rest := [.int ce, .ref ra]) ⟨hx, hb, hml, hown, hts⟩ (c_X5_writeOf l dC dI r_4 H.size) (va_cwS 1 hts gX7_step_X5_writeOf rfl rfl rfl (by decide +kernel) ⟨Nat.le_of_ble_eq_true rfl, Nat.le_of_ble_eq_true rfl⟩) (pcS hPc hDc hKc hN) rfl rfl hl.1 rfl (lv_room (Nat.le_of_ble_eq_true rfl)) dX7_step_89 ⟨Nat.le_of_ble_eq_true rfl, Nat.le_of_ble_eq_true rfl⟩) hS (fun q _ h => hFc q h) hFc (fun r_14 u t H1 locs ht hvm hw_15 hB hz1 hk1 hS => ?_)
              obtain ⟨hP1, hK1, hD1⟩ := hB
              rw [ht] at hP1
              try dsimp only at hw_15
              obtain ⟨hP, hD⟩ := va_join (wr := [(ra, .inr (12, [.int st, .int ce, .int sp, .int lm, .int rm, .int fa, .ref ta])), (ta, .inl (cI, 1001, .inl f)), (mm, .inr (10, [.int he, .int ss, .int gg, .ref la, .int wr, .int tl, .int le, .int fi, .int se, .ref oo, .ref hh])), (oo, .inl (cI, 24, .inl o))]) (w1 := []) hP hD [] [0, 1, 2, 3] rfl rfl (by decide) (by decide) hk1 hFc hP1 hD1
              generalize H1 = H at hP hS ⊢
              have hP : va_P (dC, dI) vwCl [(ra, .inr (12, [.int st, .int ce, .int sp, .int lm, .int rm, .int fa, .ref ta])), (ta, .inl (cI, 1001, .inl f)), (mm, .inr (10, [.int he, .int ss, .int gg, .ref la, .int wr, .int tl, .int le, .int fi, .int se, .ref oo, .ref hh])), (oo, .inl (cI, 24, .inl o))] H := hP
              have hD : va_D A [(ra, .inr (12, [.int st, .int ce, .int sp, .int lm, .int rm, .int fa, .ref ta])), (ta, .inl (cI, 1001, .inl f)), (mm, .inr (10, [.int he, .int ss, .int gg, .ref la, .int wr, .int tl, .int le, .int fi, .int se, .ref oo, .ref hh])), (oo, .inl (cI, 24, .inl o))] := hD
              have hPc := hP.sub (ws' := [(ra, .inr (12, [.int st, .int ce, .int sp, .int lm, .int rm, .int fa, .ref ta])), (ta, .inl (cI, 1001, .inl f))]) [0, 1] rfl
              have hDc := hD.sub (ws' := [(ra, .inr (12, [.int st, .int ce, .int sp, .int lm, .int rm, .int fa, .ref ta])), (ta, .inl (cI, 1001, .inl f))]) [0, 1] (by decide) rfl
              have hKc := hK.sub (tys' := [(cI, .int)]) [0] rfl
              have hFc := va_free (wc := [(ra, .inr (12, [.int st, .int ce, .int sp, .int lm, .int rm, .int fa, .ref ta])), (ta, .inl (cI, 1001, .inl f))]) hD hS hA [0, 1] rfl
              refine va_callv (va_runV (As := [.int ce, .int r_14]) (rest := []) ⟨hx, hb, hml, hown, hts⟩ (c_X7_write l dC dI cI ra ta st ce sp lm rm fa f ce r_14 H.size) (cwV 2 hts gX7_step_X7_write rfl rfl rfl (by decide +kernel) ⟨Nat.le_of_ble_eq_true rfl, Nat.le_of_ble_eq_true rfl⟩) (pcV hPc hDc hKc hN (ci := 12) (q0 := 0) rfl rfl) rfl rfl hl.1 rfl (lv_room (Nat.le_of_ble_eq_true rfl)) dX7_step_92 ⟨Nat.le_of_ble_eq_true rfl, Nat.le_of_ble_eq_true rfl⟩) hS (fun q _ h => hFc q h) hFc (fun u t H1 locs ht hvm hw_17 hB hz1 hk1 hS => ?_)
              obtain ⟨hP1, hK1, hD1⟩ := hB
              rw [ht] at hP1
              try dsimp only at hw_17
              obtain ⟨hP, hD⟩ := va_join (wr := [(mm, .inr (10, [.int he, .int ss, .int gg, .ref la, .int wr, .int tl, .int le, .int fi, .int se, .ref oo, .ref hh])), (oo, .inl (cI, 24, .inl o))]) (w1 := [(ra, .inr (12, [.int st, .int ce, .int sp, .int lm, .int rm, .int fa, .ref ta])), (ta, .inl (cI, 1001, .inl u))]) hP hD [0, 1] [2, 3] rfl rfl (by decide) (by decide) hk1 hFc hP1 hD1
              generalize H1 = H at hP hS ⊢
              have hP : va_P (dC, dI) vwCl [(mm, .inr (10, [.int he, .int ss, .int gg, .ref la, .int wr, .int tl, .int le, .int fi, .int se, .ref oo, .ref hh])), (oo, .inl (cI, 24, .inl o)), (ra, .inr (12, [.int st, .int ce, .int sp, .int lm, .int rm, .int fa, .ref ta])), (ta, .inl (cI, 1001, .inl u))] H := hP
              have hD : va_D A [(mm, .inr (10, [.int he, .int ss, .int gg, .ref la, .int wr, .int tl, .int le, .int fi, .int se, .ref oo, .ref hh])), (oo, .inl (cI, 24, .inl o)), (ra, .inr (12, [.int st, .int ce, .int sp, .int lm, .int rm, .int fa, .ref ta])), (ta, .inl (cI, 1001, .inl u))] := hD
              obtain ⟨f_16, ef_16⟩ : ∃ z, z = u := ⟨_, rfl⟩
              subst ef_16
              refine lv_aload_n hx hb dX7_step_95 rfl (lv_at hl 3 rfl) ?_
              refine lv_iload_n hx hb dX7_step_96 rfl (lv_at hl 2 rfl) ?_
              have hPc := hP.sub (ws' := []) [] rfl
              have hDc := hD.sub (ws' := []) [] (by decide) rfl
              have hKc := hK.sub (tys' := []) [] rfl
              have hFc := va_free (wc := []) hD hS hA [] rfl
              refine va_calli (va_runS (As := [.int r_4]) (rest := [.ref ra]) ⟨hx, hb, hml, hown, hts⟩ (c_X5_nextOf l dC dI r_4 H.size) (va_cwS 1 hts gX7_step_X5_nextOf rfl rfl rfl (by decide +kernel) ⟨Nat.le_of_ble_eq_true rfl, Nat.le_of_ble_eq_true rfl⟩) (pcS hPc hDc hKc hN) rfl rfl hl.1 rfl (lv_room (Nat.le_of_ble_eq_true rfl)) dX7_step_97 ⟨Nat.le_of_ble_eq_true rfl, Nat.le_of_ble_eq_true rfl⟩) hS (fun q _ h => hFc q h) hFc (fun r_18 u t H1 locs ht hvm hw_19 hB hz1 hk1 hS => ?_)
              obtain ⟨hP1, hK1, hD1⟩ := hB
              rw [ht] at hP1
              try dsimp only at hw_19
              obtain ⟨hP, hD⟩ := va_join (wr := [(mm, .inr (10, [.int he, .int ss, .int gg, .ref la, .int wr, .int tl, .int le, .int fi, .int se, .ref oo, .ref hh])), (oo, .inl (cI, 24, .inl o)), (ra, .inr (12, [.int st, .int ce, .int sp, .int lm, .int rm, .int fa, .ref ta])), (ta, .inl (cI, 1001, .inl f_16))]) (w1 := []) hP hD [] [0, 1, 2, 3] rfl rfl (by decide) (by decide) hk1 hFc hP1 hD1
              generalize H1 = H at hP hS ⊢
              have hP : va_P (dC, dI) vwCl [(mm, .inr (10, [.int he, .int ss, .int gg, .ref la, .int wr, .int tl, .int le, .int fi, .int se, .ref oo, .ref hh])), (oo, .inl (cI, 24, .inl o)), (ra, .inr (12, [.int st, .int ce, .int sp, .int lm, .int rm, .int fa, .ref ta])), (ta, .inl (cI, 1001, .inl f_16))] H := hP
              have hD : va_D A [(mm, .inr (10, [.int he, .int ss, .int gg, .ref la, .int wr, .int tl, .int le, .int fi, .int se, .ref oo, .ref hh])), (oo, .inl (cI, 24, .inl o)), (ra, .inr (12, [.int st, .int ce, .int sp, .int lm, .int rm, .int fa, .ref ta])), (ta, .inl (cI, 1001, .inl f_16))] := hD
              refine va_put (D := (dC, dI)) (ci := 12) (v := .int r_18) (ty := .int) (C := RX7) (T := TX7) (N := 7) hx hb hts iWX7 tyX7 tyX7_ok nmX7 hown hK hP hD hS 2 rfl rfl 0 (by decide) (hts (.fieldLink RX7 9 "Beaverhall$Run" "state" "I") (by decide +kernel)) (fun _ h9 => h9) rfl (by decide +kernel) rfl rfl (Nat.le_of_ble_eq_true rfl) dX7_step_100 (fun H locs hP hD hS => ?_)
              have hP : va_P (dC, dI) vwCl [(mm, .inr (10, [.int he, .int ss, .int gg, .ref la, .int wr, .int tl, .int le, .int fi, .int se, .ref oo, .ref hh])), (oo, .inl (cI, 24, .inl o)), (ra, .inr (12, [.int r_18, .int ce, .int sp, .int lm, .int rm, .int fa, .ref ta])), (ta, .inl (cI, 1001, .inl f_16))] H := hP
              have hD : va_D A [(mm, .inr (10, [.int he, .int ss, .int gg, .ref la, .int wr, .int tl, .int le, .int fi, .int se, .ref oo, .ref hh])), (oo, .inl (cI, 24, .inl o)), (ra, .inr (12, [.int r_18, .int ce, .int sp, .int lm, .int rm, .int fa, .ref ta])), (ta, .inl (cI, 1001, .inl f_16))] := hD
              refine lv_aload_n hx hb dX7_step_103 rfl (lv_at hl 3 rfl) ?_
              refine lv_iload hx hb dX7_step_104 (lv_at hl 0 rfl) ?_
              refine va_put (D := (dC, dI)) (ci := 12) (v := .int 0) (ty := .boolean) (C := RX7) (T := TX7) (N := 7) hx hb hts iWX7 tyX7 tyX7_ok nmX7 hown hK hP hD hS 2 rfl rfl 5 (by decide) (hts (.fieldLink RX7 27 "Beaverhall$Run" "hasFallen" "Z") (by decide +kernel)) (fun _ h9 => h9) rfl (by decide +kernel) rfl rfl (Nat.le_of_ble_eq_true rfl) dX7_step_106 (fun H locs hP hD hS => ?_)
              have hP : va_P (dC, dI) vwCl [(mm, .inr (10, [.int he, .int ss, .int gg, .ref la, .int wr, .int tl, .int le, .int fi, .int se, .ref oo, .ref hh])), (oo, .inl (cI, 24, .inl o)), (ra, .inr (12, [.int r_18, .int ce, .int sp, .int lm, .int rm, .int 0, .ref ta])), (ta, .inl (cI, 1001, .inl f_16))] H := hP
              have hD : va_D A [(mm, .inr (10, [.int he, .int ss, .int gg, .ref la, .int wr, .int tl, .int le, .int fi, .int se, .ref oo, .ref hh])), (oo, .inl (cI, 24, .inl o)), (ra, .inr (12, [.int r_18, .int ce, .int sp, .int lm, .int rm, .int 0, .ref ta])), (ta, .inl (cI, 1001, .inl f_16))] := hD
              refine lv_aload_n hx hb dX7_step_109 rfl (lv_at hl 3 rfl) ?_
              refine lv_iload hx hb dX7_step_110 (lv_at hl 0 rfl) ?_
              refine lv_if_eq (tgt := 122) hx hb dX7_step_112 (by decide) (fun c112_20 => ?_) (fun c112_20 => ?_)
              · refine lv_iload_n hx hb dX7_step_122 rfl (lv_at hl 1 rfl) ?_
                refine va_put (D := (dC, dI)) (ci := 12) (v := .int x_9) (ty := .int) (C := RX7) (T := TX7) (N := 7) hx hb hts iWX7 tyX7 tyX7_ok nmX7 hown hK hP hD hS 2 rfl rfl 1 (by decide) (hts (.fieldLink RX7 15 "Beaverhall$Run" "cell" "I") (by decide +kernel)) (fun _ h9 => h9) rfl (by decide +kernel) rfl rfl (Nat.le_of_ble_eq_true rfl) dX7_step_123 (fun H locs hP hD hS => ?_)
                have hP : va_P (dC, dI) vwCl [(mm, .inr (10, [.int he, .int ss, .int gg, .ref la, .int wr, .int tl, .int le, .int fi, .int se, .ref oo, .ref hh])), (oo, .inl (cI, 24, .inl o)), (ra, .inr (12, [.int r_18, .int x_9, .int sp, .int lm, .int rm, .int 0, .ref ta])), (ta, .inl (cI, 1001, .inl f_16))] H := hP
                have hD : va_D A [(mm, .inr (10, [.int he, .int ss, .int gg, .ref la, .int wr, .int tl, .int le, .int fi, .int se, .ref oo, .ref hh])), (oo, .inl (cI, 24, .inl o)), (ra, .inr (12, [.int r_18, .int x_9, .int sp, .int lm, .int rm, .int 0, .ref ta])), (ta, .inl (cI, 1001, .inl f_16))] := hD
                refine lv_aload_n hx hb dX7_step_126 rfl (lv_at hl 3 rfl) ?_
                refine lv_aload_n hx hb dX7_step_127 rfl (lv_at hl 3 rfl) ?_
                refine va_get (D := (dC, dI)) (ci := 12) (v := .int lm) (C := RX7) (T := TX7) (N := 7) hx hb hts iWX7 hown hK hP 2 rfl rfl 3 (by decide) (hts (.fieldLink RX7 21 "Beaverhall$Run" "leftmost" "I") (by decide +kernel)) (fun _ h9 => h9) rfl dX7_step_128 ?_
                refine lv_aload_n hx hb dX7_step_131 rfl (lv_at hl 3 rfl) ?_
                refine va_get (D := (dC, dI)) (ci := 12) (v := .int x_9) (C := RX7) (T := TX7) (N := 7) hx hb hts iWX7 hown hK hP 2 rfl rfl 1 (by decide) (hts (.fieldLink RX7 15 "Beaverhall$Run" "cell" "I") (by decide +kernel)) (fun _ h9 => h9) rfl dX7_step_132 ?_
                refine va_mmin hx hb (hml.trans hl.1.symm) hown (hts (.methodLink RX7 67 Lib.Math.min.name) (by decide +kernel)) (hts (.static Lib.Math.min.name) (by decide +kernel)) (hts (.initialized "java/lang/Math") (by decide +kernel)) (hts (.code Lib.Math.min.name Lib.Math.min.code 2 (some .int)) (by decide +kernel)) (Nat.le_of_ble_eq_true rfl) (Nat.le_of_ble_eq_true rfl) (Nat.le_of_ble_eq_true rfl) (Nat.le_of_ble_eq_true rfl) dX7_step_135 ?_
                refine lv_topi (fun x_21 ex_21 => ?_)
                have ex_21 : x_21 = iminJ lm x_9 := ex_21
                refine va_put (D := (dC, dI)) (ci := 12) (v := .int x_21) (ty := .int) (C := RX7) (T := TX7) (N := 7) hx hb hts iWX7 tyX7 tyX7_ok nmX7 hown hK hP hD hS 2 rfl rfl 3 (by decide) (hts (.fieldLink RX7 21 "Beaverhall$Run" "leftmost" "I") (by decide +kernel)) (fun _ h9 => h9) rfl (by decide +kernel) rfl rfl (Nat.le_of_ble_eq_true rfl) dX7_step_138 (fun H locs hP hD hS => ?_)
                have hP : va_P (dC, dI) vwCl [(mm, .inr (10, [.int he, .int ss, .int gg, .ref la, .int wr, .int tl, .int le, .int fi, .int se, .ref oo, .ref hh])), (oo, .inl (cI, 24, .inl o)), (ra, .inr (12, [.int r_18, .int x_9, .int sp, .int x_21, .int rm, .int 0, .ref ta])), (ta, .inl (cI, 1001, .inl f_16))] H := hP
                have hD : va_D A [(mm, .inr (10, [.int he, .int ss, .int gg, .ref la, .int wr, .int tl, .int le, .int fi, .int se, .ref oo, .ref hh])), (oo, .inl (cI, 24, .inl o)), (ra, .inr (12, [.int r_18, .int x_9, .int sp, .int x_21, .int rm, .int 0, .ref ta])), (ta, .inl (cI, 1001, .inl f_16))] := hD
                refine lv_aload_n hx hb dX7_step_141 rfl (lv_at hl 3 rfl) ?_
                refine lv_aload_n hx hb dX7_step_142 rfl (lv_at hl 3 rfl) ?_
                refine va_get (D := (dC, dI)) (ci := 12) (v := .int rm) (C := RX7) (T := TX7) (N := 7) hx hb hts iWX7 hown hK hP 2 rfl rfl 4 (by decide) (hts (.fieldLink RX7 24 "Beaverhall$Run" "rightmost" "I") (by decide +kernel)) (fun _ h9 => h9) rfl dX7_step_143 ?_
                refine lv_aload_n hx hb dX7_step_146 rfl (lv_at hl 3 rfl) ?_
                refine va_get (D := (dC, dI)) (ci := 12) (v := .int x_9) (C := RX7) (T := TX7) (N := 7) hx hb hts iWX7 hown hK hP 2 rfl rfl 1 (by decide) (hts (.fieldLink RX7 15 "Beaverhall$Run" "cell" "I") (by decide +kernel)) (fun _ h9 => h9) rfl dX7_step_147 ?_
                refine va_mmax hx hb (hml.trans hl.1.symm) hown (hts (.methodLink RX7 72 Lib.Math.max.name) (by decide +kernel)) (hts (.static Lib.Math.max.name) (by decide +kernel)) (hts (.initialized "java/lang/Math") (by decide +kernel)) (hts (.code Lib.Math.max.name Lib.Math.max.code 2 (some .int)) (by decide +kernel)) (Nat.le_of_ble_eq_true rfl) (Nat.le_of_ble_eq_true rfl) (Nat.le_of_ble_eq_true rfl) (Nat.le_of_ble_eq_true rfl) dX7_step_150 ?_
                refine lv_topi (fun x_22 ex_22 => ?_)
                have ex_22 : x_22 = imaxJ rm x_9 := ex_22
                refine va_put (D := (dC, dI)) (ci := 12) (v := .int x_22) (ty := .int) (C := RX7) (T := TX7) (N := 7) hx hb hts iWX7 tyX7 tyX7_ok nmX7 hown hK hP hD hS 2 rfl rfl 4 (by decide) (hts (.fieldLink RX7 24 "Beaverhall$Run" "rightmost" "I") (by decide +kernel)) (fun _ h9 => h9) rfl (by decide +kernel) rfl rfl (Nat.le_of_ble_eq_true rfl) dX7_step_153 (fun H locs hP hD hS => ?_)
                have hP : va_P (dC, dI) vwCl [(mm, .inr (10, [.int he, .int ss, .int gg, .ref la, .int wr, .int tl, .int le, .int fi, .int se, .ref oo, .ref hh])), (oo, .inl (cI, 24, .inl o)), (ra, .inr (12, [.int r_18, .int x_9, .int sp, .int x_21, .int x_22, .int 0, .ref ta])), (ta, .inl (cI, 1001, .inl f_16))] H := hP
                have hD : va_D A [(mm, .inr (10, [.int he, .int ss, .int gg, .ref la, .int wr, .int tl, .int le, .int fi, .int se, .ref oo, .ref hh])), (oo, .inl (cI, 24, .inl o)), (ra, .inr (12, [.int r_18, .int x_9, .int sp, .int x_21, .int x_22, .int 0, .ref ta])), (ta, .inl (cI, 1001, .inl f_16))] := hD
                refine lv_aload_n hx hb dX7_step_156 rfl (lv_at hl 3 rfl) ?_
                refine lv_dup hx hb dX7_step_157 rfl ?_
                refine va_get (D := (dC, dI)) (ci := 12) (v := .int sp) (C := RX7) (T := TX7) (N := 7) hx hb hts iWX7 hown hK hP 2 rfl rfl 2 (by decide) (hts (.fieldLink RX7 18 "Beaverhall$Run" "steps" "I") (by decide +kernel)) (fun _ h9 => h9) rfl dX7_step_158 ?_
                refine lv_iconst (v := 1) hx hb dX7_step_161 (by decide) ?_
                refine lv_iadd hx hb dX7_step_162 ?_
                refine lv_topi (fun x_23 ex_23 => ?_)
                refine va_put (D := (dC, dI)) (ci := 12) (v := .int x_23) (ty := .int) (C := RX7) (T := TX7) (N := 7) hx hb hts iWX7 tyX7 tyX7_ok nmX7 hown hK hP hD hS 2 rfl rfl 2 (by decide) (hts (.fieldLink RX7 18 "Beaverhall$Run" "steps" "I") (by decide +kernel)) (fun _ h9 => h9) rfl (by decide +kernel) rfl rfl (Nat.le_of_ble_eq_true rfl) dX7_step_163 (fun H locs hP hD hS => ?_)
                have hP : va_P (dC, dI) vwCl [(mm, .inr (10, [.int he, .int ss, .int gg, .ref la, .int wr, .int tl, .int le, .int fi, .int se, .ref oo, .ref hh])), (oo, .inl (cI, 24, .inl o)), (ra, .inr (12, [.int r_18, .int x_9, .int x_23, .int x_21, .int x_22, .int 0, .ref ta])), (ta, .inl (cI, 1001, .inl f_16))] H := hP
                have hD : va_D A [(mm, .inr (10, [.int he, .int ss, .int gg, .ref la, .int wr, .int tl, .int le, .int fi, .int se, .ref oo, .ref hh])), (oo, .inl (cI, 24, .inl o)), (ra, .inr (12, [.int r_18, .int x_9, .int x_23, .int x_21, .int x_22, .int 0, .ref ta])), (ta, .inl (cI, 1001, .inl f_16))] := hD
                refine lv_iconst (v := 1) hx hb dX7_step_166 (by decide) ?_
                have hP9 := hP.sub (ws' := [(ra, .inr (12, [.int r_18, .int x_9, .int x_23, .int x_21, .int x_22, .int 0, .ref ta])), (ta, .inl (cI, 1001, .inl f_16)), (mm, .inr (10, [.int he, .int ss, .int gg, .ref la, .int wr, .int tl, .int le, .int fi, .int se, .ref oo, .ref hh])), (oo, .inl (cI, 24, .inl o))]) [2, 3, 0, 1] rfl
                have hD9 := hD.sub (ws' := [(ra, .inr (12, [.int r_18, .int x_9, .int x_23, .int x_21, .int x_22, .int 0, .ref ta])), (ta, .inl (cI, 1001, .inl f_16)), (mm, .inr (10, [.int he, .int ss, .int gg, .ref la, .int wr, .int tl, .int le, .int fi, .int se, .ref oo, .ref hh])), (oo, .inl (cI, 24, .inl o))]) [2, 3, 0, 1] (by decide) rfl
                have hK9 := hK.sub (tys' := [(cI, .int)]) [0] rfl
                exact W.zret (v := 1) hx hb hr (by rfl) (fun t ht hW => ⟨⟨1, (r_18, x_9, x_23, x_21, x_22, 0, f_16), rfl, (by (try subst ex_23); (try subst ex_22); (try subst ex_21); (try subst hw_19); (try subst hw_17); (try subst hw_15); (try subst ex_9); (try subst hw_8); (try subst hw_5); (try subst hw_3); simp [stepJ, c4_1, c29_6, c48_10, c64_11, c71_12, c78_13, c112_20]), ⟨by rw [ht]; exact hP9, va_K.moved hW.alike hK9, hD9⟩⟩, hS.F ht⟩) hS.2.2 dX7_step_167
              · exact (c112_20 (by decide)).elim
            · refine lv_iconst (v := 0) hx hb dX7_step_81 (by decide) ?_
              have hP9 := hP.sub (ws' := [(ra, .inr (12, [.int st, .int ce, .int sp, .int lm, .int rm, .int fa, .ref ta])), (ta, .inl (cI, 1001, .inl f)), (mm, .inr (10, [.int he, .int ss, .int gg, .ref la, .int wr, .int tl, .int le, .int fi, .int se, .ref oo, .ref hh])), (oo, .inl (cI, 24, .inl o))]) [0, 1, 2, 3] rfl
              have hD9 := hD.sub (ws' := [(ra, .inr (12, [.int st, .int ce, .int sp, .int lm, .int rm, .int fa, .ref ta])), (ta, .inl (cI, 1001, .inl f)), (mm, .inr (10, [.int he, .int ss, .int gg, .ref la, .int wr, .int tl, .int le, .int fi, .int se, .ref oo, .ref hh])), (oo, .inl (cI, 24, .inl o))]) [0, 1, 2, 3] (by decide) rfl
              have hK9 := hK.sub (tys' := [(cI, .int)]) [0] rfl
              exact W.zret (v := 0) hx hb hr (by rfl) (fun t ht hW => ⟨⟨0, (st, ce, sp, lm, rm, fa, f), rfl, (by (try subst ex_9); (try subst hw_8); (try subst hw_5); (try subst hw_3); simp [stepJ, c4_1, c29_6, c48_10, c64_11, c71_12, c78_13]), ⟨by rw [ht]; exact hP9, va_K.moved hW.alike hK9, hD9⟩⟩, hS.F ht⟩) hS.2.2 dX7_step_82
      · refine lv_iload_n hx hb dX7_step_51 rfl (lv_at hl 0 rfl) ?_
        refine lv_if_ge (tgt := 59) hx hb dX7_step_52 (by decide) (fun c52_24 => ?_) (fun c52_24 => ?_)
        · refine lv_iconst (v := 0) hx hb dX7_step_59 (by decide) ?_
          refine lv_istore (lv' := [(4, .int 0), (3, .int x_9), (2, .int r_4), (0, .ref ra), (1, .ref mm)]) hx hb dX7_step_60 hl (by decide) rfl (fun ls hl => ?_)
          refine lv_iload hx hb dX7_step_62 (lv_at hl 0 rfl) ?_
          refine lv_if_ne (tgt := 83) hx hb dX7_step_64 (by decide) (fun c64_25 => ?_) (fun c64_25 => ?_)
          · exact (c64_25 (by decide)).elim
          · refine lv_iload_n hx hb dX7_step_67 rfl (lv_at hl 1 rfl) ?_
            refine lv_sipush (v := (-500)) hx hb dX7_step_68 (by decide) ?_
            refine lv_icmp_lt (tgt := 81) hx hb dX7_step_71 (by decide) (fun c71_26 => ?_) (fun c71_26 => ?_)
            · refine lv_iconst (v := 0) hx hb dX7_step_81 (by decide) ?_
              have hP9 := hP.sub (ws' := [(ra, .inr (12, [.int st, .int ce, .int sp, .int lm, .int rm, .int fa, .ref ta])), (ta, .inl (cI, 1001, .inl f)), (mm, .inr (10, [.int he, .int ss, .int gg, .ref la, .int wr, .int tl, .int le, .int fi, .int se, .ref oo, .ref hh])), (oo, .inl (cI, 24, .inl o))]) [0, 1, 2, 3] rfl
              have hD9 := hD.sub (ws' := [(ra, .inr (12, [.int st, .int ce, .int sp, .int lm, .int rm, .int fa, .ref ta])), (ta, .inl (cI, 1001, .inl f)), (mm, .inr (10, [.int he, .int ss, .int gg, .ref la, .int wr, .int tl, .int le, .int fi, .int se, .ref oo, .ref hh])), (oo, .inl (cI, 24, .inl o))]) [0, 1, 2, 3] (by decide) rfl
              have hK9 := hK.sub (tys' := [(cI, .int)]) [0] rfl
              exact W.zret (v := 0) hx hb hr (by rfl) (fun t ht hW => ⟨⟨0, (st, ce, sp, lm, rm, fa, f), rfl, (by (try subst ex_9); (try subst hw_8); (try subst hw_5); (try subst hw_3); simp [stepJ, c4_1, c29_6, c48_10, c52_24, c64_25, c71_26]), ⟨by rw [ht]; exact hP9, va_K.moved hW.alike hK9, hD9⟩⟩, hS.F ht⟩) hS.2.2 dX7_step_82
            · refine lv_iload_n hx hb dX7_step_74 rfl (lv_at hl 1 rfl) ?_
              refine lv_sipush (v := 500) hx hb dX7_step_75 (by decide) ?_
              refine lv_icmp_le (tgt := 83) hx hb dX7_step_78 (by decide) (fun c78_27 => ?_) (fun c78_27 => ?_)
              · refine lv_aload_n hx hb dX7_step_83 rfl (lv_at hl 3 rfl) ?_
                refine lv_aload_n hx hb dX7_step_84 rfl (lv_at hl 3 rfl) ?_
                refine va_get (D := (dC, dI)) (ci := 12) (v := .int ce) (C := RX7) (T := TX7) (N := 7) hx hb hts iWX7 hown hK hP 0 rfl rfl 1 (by decide) (hts (.fieldLink RX7 15 "Beaverhall$Run" "cell" "I") (by decide +kernel)) (fun _ h9 => h9) rfl dX7_step_85 ?_
                refine lv_iload_n hx hb dX7_step_88 rfl (lv_at hl 2 rfl) ?_
                have hPc := hP.sub (ws' := []) [] rfl
                have hDc := hD.sub (ws' := []) [] (by decide) rfl
                have hKc := hK.sub (tys' := []) [] rfl
                have hFc := va_free (wc := []) hD hS hA [] rfl
                refine va_calli (va_runS (As := [.int r_4]) (rest := [.int ce, .ref ra]) ⟨hx, hb, hml, hown, hts⟩ (c_X5_writeOf l dC dI r_4 H.size) (va_cwS 1 hts gX7_step_X5_writeOf rfl rfl rfl (by decide +kernel) ⟨Nat.le_of_ble_eq_true rfl, Nat.le_of_ble_eq_true rfl⟩) (pcS hPc hDc hKc hN) rfl rfl hl.1 rfl (lv_room (Nat.le_of_ble_eq_true rfl)) dX7_step_89 ⟨Nat.le_of_ble_eq_true rfl, Nat.le_of_ble_eq_true rfl⟩) hS (fun q _ h => hFc q h) hFc (fun r_28 u t H1 locs ht hvm hw_29 hB hz1 hk1 hS => ?_)
                obtain ⟨hP1, hK1, hD1⟩ := hB
                rw [ht] at hP1
                try dsimp only at hw_29
                obtain ⟨hP, hD⟩ := va_join (wr := [(ra, .inr (12, [.int st, .int ce, .int sp, .int lm, .int rm, .int fa, .ref ta])), (ta, .inl (cI, 1001, .inl f)), (mm, .inr (10, [.int he, .int ss, .int gg, .ref la, .int wr, .int tl, .int le, .int fi, .int se, .ref oo, .ref hh])), (oo, .inl (cI, 24, .inl o))]) (w1 := []) hP hD [] [0, 1, 2, 3] rfl rfl (by decide) (by decide) hk1 hFc hP1 hD1
                generalize H1 = H at hP hS ⊢
                have hP : va_P (dC, dI) vwCl [(ra, .inr (12, [.int st, .int ce, .int sp, .int lm, .int rm, .int fa, .ref ta])), (ta, .inl (cI, 1001, .inl f)), (mm, .inr (10, [.int he, .int ss, .int gg, .ref la, .int wr, .int tl, .int le, .int fi, .int se, .ref oo, .ref hh])), (oo, .inl (cI, 24, .inl o))] H := hP
                have hD : va_D A [(ra, .inr (12, [.int st, .int ce, .int sp, .int lm, .int rm, .int fa, .ref ta])), (ta, .inl (cI, 1001, .inl f)), (mm, .inr (10, [.int he, .int ss, .int gg, .ref la, .int wr, .int tl, .int le, .int fi, .int se, .ref oo, .ref hh])), (oo, .inl (cI, 24, .inl o))] := hD
                have hPc := hP.sub (ws' := [(ra, .inr (12, [.int st, .int ce, .int sp, .int lm, .int rm, .int fa, .ref ta])), (ta, .inl (cI, 1001, .inl f))]) [0, 1] rfl
                have hDc := hD.sub (ws' := [(ra, .inr (12, [.int st, .int ce, .int sp, .int lm, .int rm, .int fa, .ref ta])), (ta, .inl (cI, 1001, .inl f))]) [0, 1] (by decide) rfl
                have hKc := hK.sub (tys' := [(cI, .int)]) [0] rfl
                have hFc := va_free (wc := [(ra, .inr (12, [.int st, .int ce, .int sp, .int lm, .int rm, .int fa, .ref ta])), (ta, .inl (cI, 1001, .inl f))]) hD hS hA [0, 1] rfl
                refine va_callv (va_runV (As := [.int ce, .int r_28]) (rest := []) ⟨hx, hb, hml, hown, hts⟩ (c_X7_write l dC dI cI ra ta st ce sp lm rm fa f ce r_28 H.size) (cwV 2 hts gX7_step_X7_write rfl rfl rfl (by decide +kernel) ⟨Nat.le_of_ble_eq_true rfl, Nat.le_of_ble_eq_true rfl⟩) (pcV hPc hDc hKc hN (ci := 12) (q0 := 0) rfl rfl) rfl rfl hl.1 rfl (lv_room (Nat.le_of_ble_eq_true rfl)) dX7_step_92 ⟨Nat.le_of_ble_eq_true rfl, Nat.le_of_ble_eq_true rfl⟩) hS (fun q _ h => hFc q h) hFc (fun u t H1 locs ht hvm hw_31 hB hz1 hk1 hS => ?_)
                obtain ⟨hP1, hK1, hD1⟩ := hB
                rw [ht] at hP1
                try dsimp only at hw_31
                obtain ⟨hP, hD⟩ := va_join (wr := [(mm, .inr (10, [.int he, .int ss, .int gg, .ref la, .int wr, .int tl, .int le, .int fi, .int se, .ref oo, .ref hh])), (oo, .inl (cI, 24, .inl o))]) (w1 := [(ra, .inr (12, [.int st, .int ce, .int sp, .int lm, .int rm, .int fa, .ref ta])), (ta, .inl (cI, 1001, .inl u))]) hP hD [0, 1] [2, 3] rfl rfl (by decide) (by decide) hk1 hFc hP1 hD1
                generalize H1 = H at hP hS ⊢
                have hP : va_P (dC, dI) vwCl [(mm, .inr (10, [.int he, .int ss, .int gg, .ref la, .int wr, .int tl, .int le, .int fi, .int se, .ref oo, .ref hh])), (oo, .inl (cI, 24, .inl o)), (ra, .inr (12, [.int st, .int ce, .int sp, .int lm, .int rm, .int fa, .ref ta])), (ta, .inl (cI, 1001, .inl u))] H := hP
                have hD : va_D A [(mm, .inr (10, [.int he, .int ss, .int gg, .ref la, .int wr, .int tl, .int le, .int fi, .int se, .ref oo, .ref hh])), (oo, .inl (cI, 24, .inl o)), (ra, .inr (12, [.int st, .int ce, .int sp, .int lm, .int rm, .int fa, .ref ta])), (ta, .inl (cI, 1001, .inl u))] := hD
                obtain ⟨f_30, ef_30⟩ : ∃ z, z = u := ⟨_, rfl⟩
                subst ef_30
                refine lv_aload_n hx hb dX7_step_95 rfl (lv_at hl 3 rfl) ?_
                refine lv_iload_n hx hb dX7_step_96 rfl (lv_at hl 2 rfl) ?_
                have hPc := hP.sub (ws' := []) [] rfl
                have hDc := hD.sub (ws' := []) [] (by decide) rfl
                have hKc := hK.sub (tys' := []) [] rfl
                have hFc := va_free (wc := []) hD hS hA [] rfl
                refine va_calli (va_runS (As := [.int r_4]) (rest := [.ref ra]) ⟨hx, hb, hml, hown, hts⟩ (c_X5_nextOf l dC dI r_4 H.size) (va_cwS 1 hts gX7_step_X5_nextOf rfl rfl rfl (by decide +kernel) ⟨Nat.le_of_ble_eq_true rfl, Nat.le_of_ble_eq_true rfl⟩) (pcS hPc hDc hKc hN) rfl rfl hl.1 rfl (lv_room (Nat.le_of_ble_eq_true rfl)) dX7_step_97 ⟨Nat.le_of_ble_eq_true rfl, Nat.le_of_ble_eq_true rfl⟩) hS (fun q _ h => hFc q h) hFc (fun r_32 u t H1 locs ht hvm hw_33 hB hz1 hk1 hS => ?_)
                obtain ⟨hP1, hK1, hD1⟩ := hB
                rw [ht] at hP1
                try dsimp only at hw_33
                obtain ⟨hP, hD⟩ := va_join (wr := [(mm, .inr (10, [.int he, .int ss, .int gg, .ref la, .int wr, .int tl, .int le, .int fi, .int se, .ref oo, .ref hh])), (oo, .inl (cI, 24, .inl o)), (ra, .inr (12, [.int st, .int ce, .int sp, .int lm, .int rm, .int fa, .ref ta])), (ta, .inl (cI, 1001, .inl f_30))]) (w1 := []) hP hD [] [0, 1, 2, 3] rfl rfl (by decide) (by decide) hk1 hFc hP1 hD1
                generalize H1 = H at hP hS ⊢
                have hP : va_P (dC, dI) vwCl [(mm, .inr (10, [.int he, .int ss, .int gg, .ref la, .int wr, .int tl, .int le, .int fi, .int se, .ref oo, .ref hh])), (oo, .inl (cI, 24, .inl o)), (ra, .inr (12, [.int st, .int ce, .int sp, .int lm, .int rm, .int fa, .ref ta])), (ta, .inl (cI, 1001, .inl f_30))] H := hP
                have hD : va_D A [(mm, .inr (10, [.int he, .int ss, .int gg, .ref la, .int wr, .int tl, .int le, .int fi, .int se, .ref oo, .ref hh])), (oo, .inl (cI, 24, .inl o)), (ra, .inr (12, [.int st, .int ce, .int sp, .int lm, .int rm, .int fa, .ref ta])), (ta, .inl (cI, 1001, .inl f_30))] := hD
                refine va_put (D := (dC, dI)) (ci := 12) (v := .int r_32) (ty := .int) (C := RX7) (T := TX7) (N := 7) hx hb hts iWX7 tyX7 tyX7_ok nmX7 hown hK hP hD hS 2 rfl rfl 0 (by decide) (hts (.fieldLink RX7 9 "Beaverhall$Run" "state" "I") (by decide +kernel)) (fun _ h9 => h9) rfl (by decide +kernel) rfl rfl (Nat.le_of_ble_eq_true rfl) dX7_step_100 (fun H locs hP hD hS => ?_)
                have hP : va_P (dC, dI) vwCl [(mm, .inr (10, [.int he, .int ss, .int gg, .ref la, .int wr, .int tl, .int le, .int fi, .int se, .ref oo, .ref hh])), (oo, .inl (cI, 24, .inl o)), (ra, .inr (12, [.int r_32, .int ce, .int sp, .int lm, .int rm, .int fa, .ref ta])), (ta, .inl (cI, 1001, .inl f_30))] H := hP
                have hD : va_D A [(mm, .inr (10, [.int he, .int ss, .int gg, .ref la, .int wr, .int tl, .int le, .int fi, .int se, .ref oo, .ref hh])), (oo, .inl (cI, 24, .inl o)), (ra, .inr (12, [.int r_32, .int ce, .int sp, .int lm, .int rm, .int fa, .ref ta])), (ta, .inl (cI, 1001, .inl f_30))] := hD
                refine lv_aload_n hx hb dX7_step_103 rfl (lv_at hl 3 rfl) ?_
                refine lv_iload hx hb dX7_step_104 (lv_at hl 0 rfl) ?_
                refine va_put (D := (dC, dI)) (ci := 12) (v := .int 0) (ty := .boolean) (C := RX7) (T := TX7) (N := 7) hx hb hts iWX7 tyX7 tyX7_ok nmX7 hown hK hP hD hS 2 rfl rfl 5 (by decide) (hts (.fieldLink RX7 27 "Beaverhall$Run" "hasFallen" "Z") (by decide +kernel)) (fun _ h9 => h9) rfl (by decide +kernel) rfl rfl (Nat.le_of_ble_eq_true rfl) dX7_step_106 (fun H locs hP hD hS => ?_)
                have hP : va_P (dC, dI) vwCl [(mm, .inr (10, [.int he, .int ss, .int gg, .ref la, .int wr, .int tl, .int le, .int fi, .int se, .ref oo, .ref hh])), (oo, .inl (cI, 24, .inl o)), (ra, .inr (12, [.int r_32, .int ce, .int sp, .int lm, .int rm, .int 0, .ref ta])), (ta, .inl (cI, 1001, .inl f_30))] H := hP
                have hD : va_D A [(mm, .inr (10, [.int he, .int ss, .int gg, .ref la, .int wr, .int tl, .int le, .int fi, .int se, .ref oo, .ref hh])), (oo, .inl (cI, 24, .inl o)), (ra, .inr (12, [.int r_32, .int ce, .int sp, .int lm, .int rm, .int 0, .ref ta])), (ta, .inl (cI, 1001, .inl f_30))] := hD
                refine lv_aload_n hx hb dX7_step_109 rfl (lv_at hl 3 rfl) ?_
                refine lv_iload hx hb dX7_step_110 (lv_at hl 0 rfl) ?_
                refine lv_if_eq (tgt := 122) hx hb dX7_step_112 (by decide) (fun c112_34 => ?_) (fun c112_34 => ?_)
                · refine lv_iload_n hx hb dX7_step_122 rfl (lv_at hl 1 rfl) ?_
                  refine va_put (D := (dC, dI)) (ci := 12) (v := .int x_9) (ty := .int) (C := RX7) (T := TX7) (N := 7) hx hb hts iWX7 tyX7 tyX7_ok nmX7 hown hK hP hD hS 2 rfl rfl 1 (by decide) (hts (.fieldLink RX7 15 "Beaverhall$Run" "cell" "I") (by decide +kernel)) (fun _ h9 => h9) rfl (by decide +kernel) rfl rfl (Nat.le_of_ble_eq_true rfl) dX7_step_123 (fun H locs hP hD hS => ?_)
                  have hP : va_P (dC, dI) vwCl [(mm, .inr (10, [.int he, .int ss, .int gg, .ref la, .int wr, .int tl, .int le, .int fi, .int se, .ref oo, .ref hh])), (oo, .inl (cI, 24, .inl o)), (ra, .inr (12, [.int r_32, .int x_9, .int sp, .int lm, .int rm, .int 0, .ref ta])), (ta, .inl (cI, 1001, .inl f_30))] H := hP
                  have hD : va_D A [(mm, .inr (10, [.int he, .int ss, .int gg, .ref la, .int wr, .int tl, .int le, .int fi, .int se, .ref oo, .ref hh])), (oo, .inl (cI, 24, .inl o)), (ra, .inr (12, [.int r_32, .int x_9, .int sp, .int lm, .int rm, .int 0, .ref ta])), (ta, .inl (cI, 1001, .inl f_30))] := hD
                  refine lv_aload_n hx hb dX7_step_126 rfl (lv_at hl 3 rfl) ?_
                  refine lv_aload_n hx hb dX7_step_127 rfl (lv_at hl 3 rfl) ?_
                  refine va_get (D := (dC, dI)) (ci := 12) (v := .int lm) (C := RX7) (T := TX7) (N := 7) hx hb hts iWX7 hown hK hP 2 rfl rfl 3 (by decide) (hts (.fieldLink RX7 21 "Beaverhall$Run" "leftmost" "I") (by decide +kernel)) (fun _ h9 => h9) rfl dX7_step_128 ?_
                  refine lv_aload_n hx hb dX7_step_131 rfl (lv_at hl 3 rfl) ?_
                  refine va_get (D := (dC, dI)) (ci := 12) (v := .int x_9) (C := RX7) (T := TX7) (N := 7) hx hb hts iWX7 hown hK hP 2 rfl rfl 1 (by decide) (hts (.fieldLink RX7 15 "Beaverhall$Run" "cell" "I") (by decide +kernel)) (fun _ h9 => h9) rfl dX7_step_132 ?_
                  refine va_mmin hx hb (hml.trans hl.1.symm) hown (hts (.methodLink RX7 67 Lib.Math.min.name) (by decide +kernel)) (hts (.static Lib.Math.min.name) (by decide +kernel)) (hts (.initialized "java/lang/Math") (by decide +kernel)) (hts (.code Lib.Math.min.name Lib.Math.min.code 2 (some .int)) (by decide +kernel)) (Nat.le_of_ble_eq_true rfl) (Nat.le_of_ble_eq_true rfl) (Nat.le_of_ble_eq_true rfl) (Nat.le_of_ble_eq_true rfl) dX7_step_135 ?_
                  refine lv_topi (fun x_35 ex_35 => ?_)
                  have ex_35 : x_35 = iminJ lm x_9 := ex_35
                  refine va_put (D := (dC, dI)) (ci := 12) (v := .int x_35) (ty := .int) (C := RX7) (T := TX7) (N := 7) hx hb hts iWX7 tyX7 tyX7_ok nmX7 hown hK hP hD hS 2 rfl rfl 3 (by decide) (hts (.fieldLink RX7 21 "Beaverhall$Run" "leftmost" "I") (by decide +kernel)) (fun _ h9 => h9) rfl (by decide +kernel) rfl rfl (Nat.le_of_ble_eq_true rfl) dX7_step_138 (fun H locs hP hD hS => ?_)
                  have hP : va_P (dC, dI) vwCl [(mm, .inr (10, [.int he, .int ss, .int gg, .ref la, .int wr, .int tl, .int le, .int fi, .int se, .ref oo, .ref hh])), (oo, .inl (cI, 24, .inl o)), (ra, .inr (12, [.int r_32, .int x_9, .int sp, .int x_35, .int rm, .int 0, .ref ta])), (ta, .inl (cI, 1001, .inl f_30))] H := hP
                  have hD : va_D A [(mm, .inr (10, [.int he, .int ss, .int gg, .ref la, .int wr, .int tl, .int le, .int fi, .int se, .ref oo, .ref hh])), (oo, .inl (cI, 24, .inl o)), (ra, .inr (12, [.int r_32, .int x_9, .int sp, .int x_35, .int rm, .int 0, .ref ta])), (ta, .inl (cI, 1001, .inl f_30))] := hD
                  refine lv_aload_n hx hb dX7_step_141 rfl (lv_at hl 3 rfl) ?_
                  refine lv_aload_n hx hb dX7_step_142 rfl (lv_at hl 3 rfl) ?_
                  refine va_get (D := (dC, dI)) (ci := 12) (v := .int rm) (C := RX7) (T := TX7) (N := 7) hx hb hts iWX7 hown hK hP 2 rfl rfl 4 (by decide) (hts (.fieldLink RX7 24 "Beaverhall$Run" "rightmost" "I") (by decide +kernel)) (fun _ h9 => h9) rfl dX7_step_143 ?_
                  refine lv_aload_n hx hb dX7_step_146 rfl (lv_at hl 3 rfl) ?_
                  refine va_get (D := (dC, dI)) (ci := 12) (v := .int x_9) (C := RX7) (T := TX7) (N := 7) hx hb hts iWX7 hown hK hP 2 rfl rfl 1 (by decide) (hts (.fieldLink RX7 15 "Beaverhall$Run" "cell" "I") (by decide +kernel)) (fun _ h9 => h9) rfl dX7_step_147 ?_
                  refine va_mmax hx hb (hml.trans hl.1.symm) hown (hts (.methodLink RX7 72 Lib.Math.max.name) (by decide +kernel)) (hts (.static Lib.Math.max.name) (by decide +kernel)) (hts (.initialized "java/lang/Math") (by decide +kernel)) (hts (.code Lib.Math.max.name Lib.Math.max.code 2 (some .int)) (by decide +kernel)) (Nat.le_of_ble_eq_true rfl) (Nat.le_of_ble_eq_true rfl) (Nat.le_of_ble_eq_true rfl) (Nat.le_of_ble_eq_true rfl) dX7_step_150 ?_
                  refine lv_topi (fun x_36 ex_36 => ?_)
                  have ex_36 : x_36 = imaxJ rm x_9 := ex_36
                  refine va_put (D := (dC, dI)) (ci := 12) (v := .int x_36) (ty := .int) (C := RX7) (T := TX7) (N := 7) hx hb hts iWX7 tyX7 tyX7_ok nmX7 hown hK hP hD hS 2 rfl rfl 4 (by decide) (hts (.fieldLink RX7 24 "Beaverhall$Run" "rightmost" "I") (by decide +kernel)) (fun _ h9 => h9) rfl (by decide +kernel) rfl rfl (Nat.le_of_ble_eq_true rfl) dX7_step_153 (fun H locs hP hD hS => ?_)
                  have hP : va_P (dC, dI) vwCl [(mm, .inr (10, [.int he, .int ss, .int gg, .ref la, .int wr, .int tl, .int le, .int fi, .int se, .ref oo, .ref hh])), (oo, .inl (cI, 24, .inl o)), (ra, .inr (12, [.int r_32, .int x_9, .int sp, .int x_35, .int x_36, .int 0, .ref ta])), (ta, .inl (cI, 1001, .inl f_30))] H := hP
                  have hD : va_D A [(mm, .inr (10, [.int he, .int ss, .int gg, .ref la, .int wr, .int tl, .int le, .int fi, .int se, .ref oo, .ref hh])), (oo, .inl (cI, 24, .inl o)), (ra, .inr (12, [.int r_32, .int x_9, .int sp, .int x_35, .int x_36, .int 0, .ref ta])), (ta, .inl (cI, 1001, .inl f_30))] := hD
                  refine lv_aload_n hx hb dX7_step_156 rfl (lv_at hl 3 rfl) ?_
                  refine lv_dup hx hb dX7_step_157 rfl ?_
                  refine va_get (D := (dC, dI)) (ci := 12) (v := .int sp) (C := RX7) (T := TX7) (N := 7) hx hb hts iWX7 hown hK hP 2 rfl rfl 2 (by decide) (hts (.fieldLink RX7 18 "Beaverhall$Run" "steps" "I") (by decide +kernel)) (fun _ h9 => h9) rfl dX7_step_158 ?_
                  refine lv_iconst (v := 1) hx hb dX7_step_161 (by decide) ?_
                  refine lv_iadd hx hb dX7_step_162 ?_
                  refine lv_topi (fun x_37 ex_37 => ?_)
                  refine va_put (D := (dC, dI)) (ci := 12) (v := .int x_37) (ty := .int) (C := RX7) (T := TX7) (N := 7) hx hb hts iWX7 tyX7 tyX7_ok nmX7 hown hK hP hD hS 2 rfl rfl 2 (by decide) (hts (.fieldLink RX7 18 "Beaverhall$Run" "steps" "I") (by decide +kernel)) (fun _ h9 => h9) rfl (by decide +kernel) rfl rfl (Nat.le_of_ble_eq_true rfl) dX7_step_163 (fun H locs hP hD hS => ?_)
                  have hP : va_P (dC, dI) vwCl [(mm, .inr (10, [.int he, .int ss, .int gg, .ref la, .int wr, .int tl, .int le, .int fi, .int se, .ref oo, .ref hh])), (oo, .inl (cI, 24, .inl o)), (ra, .inr (12, [.int r_32, .int x_9, .int x_37, .int x_35, .int x_36, .int 0, .ref ta])), (ta, .inl (cI, 1001, .inl f_30))] H := hP
                  have hD : va_D A [(mm, .inr (10, [.int he, .int ss, .int gg, .ref la, .int wr, .int tl, .int le, .int fi, .int se, .ref oo, .ref hh])), (oo, .inl (cI, 24, .inl o)), (ra, .inr (12, [.int r_32, .int x_9, .int x_37, .int x_35, .int x_36, .int 0, .ref ta])), (ta, .inl (cI, 1001, .inl f_30))] := hD
                  refine lv_iconst (v := 1) hx hb dX7_step_166 (by decide) ?_
                  have hP9 := hP.sub (ws' := [(ra, .inr (12, [.int r_32, .int x_9, .int x_37, .int x_35, .int x_36, .int 0, .ref ta])), (ta, .inl (cI, 1001, .inl f_30)), (mm, .inr (10, [.int he, .int ss, .int gg, .ref la, .int wr, .int tl, .int le, .int fi, .int se, .ref oo, .ref hh])), (oo, .inl (cI, 24, .inl o))]) [2, 3, 0, 1] rfl
                  have hD9 := hD.sub (ws' := [(ra, .inr (12, [.int r_32, .int x_9, .int x_37, .int x_35, .int x_36, .int 0, .ref ta])), (ta, .inl (cI, 1001, .inl f_30)), (mm, .inr (10, [.int he, .int ss, .int gg, .ref la, .int wr, .int tl, .int le, .int fi, .int se, .ref oo, .ref hh])), (oo, .inl (cI, 24, .inl o))]) [2, 3, 0, 1] (by decide) rfl
                  have hK9 := hK.sub (tys' := [(cI, .int)]) [0] rfl
                  exact W.zret (v := 1) hx hb hr (by rfl) (fun t ht hW => ⟨⟨1, (r_32, x_9, x_37, x_35, x_36, 0, f_30), rfl, (by (try subst ex_37); (try subst ex_36); (try subst ex_35); (try subst hw_33); (try subst hw_31); (try subst hw_29); (try subst ex_9); (try subst hw_8); (try subst hw_5); (try subst hw_3); simp [stepJ, c4_1, c29_6, c48_10, c52_24, c64_25, c71_26, c78_27, c112_34]), ⟨by rw [ht]; exact hP9, va_K.moved hW.alike hK9, hD9⟩⟩, hS.F ht⟩) hS.2.2 dX7_step_167
                · exact (c112_34 (by decide)).elim
              · refine lv_iconst (v := 0) hx hb dX7_step_81 (by decide) ?_
                have hP9 := hP.sub (ws' := [(ra, .inr (12, [.int st, .int ce, .int sp, .int lm, .int rm, .int fa, .ref ta])), (ta, .inl (cI, 1001, .inl f)), (mm, .inr (10, [.int he, .int ss, .int gg, .ref la, .int wr, .int tl, .int le, .int fi, .int se, .ref oo, .ref hh])), (oo, .inl (cI, 24, .inl o))]) [0, 1, 2, 3] rfl
                have hD9 := hD.sub (ws' := [(ra, .inr (12, [.int st, .int ce, .int sp, .int lm, .int rm, .int fa, .ref ta])), (ta, .inl (cI, 1001, .inl f)), (mm, .inr (10, [.int he, .int ss, .int gg, .ref la, .int wr, .int tl, .int le, .int fi, .int se, .ref oo, .ref hh])), (oo, .inl (cI, 24, .inl o))]) [0, 1, 2, 3] (by decide) rfl
                have hK9 := hK.sub (tys' := [(cI, .int)]) [0] rfl
                exact W.zret (v := 0) hx hb hr (by rfl) (fun t ht hW => ⟨⟨0, (st, ce, sp, lm, rm, fa, f), rfl, (by (try subst ex_9); (try subst hw_8); (try subst hw_5); (try subst hw_3); simp [stepJ, c4_1, c29_6, c48_10, c52_24, c64_25, c71_26, c78_27]), ⟨by rw [ht]; exact hP9, va_K.moved hW.alike hK9, hD9⟩⟩, hS.F ht⟩) hS.2.2 dX7_step_82
        · refine lv_iconst (v := 1) hx hb dX7_step_55 (by decide) ?_
          refine lv_goto (tgt := 60) hx hb dX7_step_56 (by decide) ?_
          refine lv_istore (lv' := [(4, .int 1), (3, .int x_9), (2, .int r_4), (0, .ref ra), (1, .ref mm)]) hx hb dX7_step_60 hl (by decide) rfl (fun ls hl => ?_)
          refine lv_iload hx hb dX7_step_62 (lv_at hl 0 rfl) ?_
          refine lv_if_ne (tgt := 83) hx hb dX7_step_64 (by decide) (fun c64_38 => ?_) (fun c64_38 => ?_)
          · refine lv_aload_n hx hb dX7_step_83 rfl (lv_at hl 3 rfl) ?_
            refine lv_aload_n hx hb dX7_step_84 rfl (lv_at hl 3 rfl) ?_
            refine va_get (D := (dC, dI)) (ci := 12) (v := .int ce) (C := RX7) (T := TX7) (N := 7) hx hb hts iWX7 hown hK hP 0 rfl rfl 1 (by decide) (hts (.fieldLink RX7 15 "Beaverhall$Run" "cell" "I") (by decide +kernel)) (fun _ h9 => h9) rfl dX7_step_85 ?_
            refine lv_iload_n hx hb dX7_step_88 rfl (lv_at hl 2 rfl) ?_
            have hPc := hP.sub (ws' := []) [] rfl
            have hDc := hD.sub (ws' := []) [] (by decide) rfl
            have hKc := hK.sub (tys' := []) [] rfl
            have hFc := va_free (wc := []) hD hS hA [] rfl
            refine va_calli (va_runS (As := [.int r_4]) (rest := [.int ce, .ref ra]) ⟨hx, hb, hml, hown, hts⟩ (c_X5_writeOf l dC dI r_4 H.size) (va_cwS 1 hts gX7_step_X5_writeOf rfl rfl rfl (by decide +kernel) ⟨Nat.le_of_ble_eq_true rfl, Nat.le_of_ble_eq_true rfl⟩) (pcS hPc hDc hKc hN) rfl rfl hl.1 rfl (lv_room (Nat.le_of_ble_eq_true rfl)) dX7_step_89 ⟨Nat.le_of_ble_eq_true rfl, Nat.le_of_ble_eq_true rfl⟩) hS (fun q _ h => hFc q h) hFc (fun r_39 u t H1 locs ht hvm hw_40 hB hz1 hk1 hS => ?_)
            obtain ⟨hP1, hK1, hD1⟩ := hB
            rw [ht] at hP1
            try dsimp only at hw_40
            obtain ⟨hP, hD⟩ := va_join (wr := [(ra, .inr (12, [.int st, .int ce, .int sp, .int lm, .int rm, .int fa, .ref ta])), (ta, .inl (cI, 1001, .inl f)), (mm, .inr (10, [.int he, .int ss, .int gg, .ref la, .int wr, .int tl, .int le, .int fi, .int se, .ref oo, .ref hh])), (oo, .inl (cI, 24, .inl o))]) (w1 := []) hP hD [] [0, 1, 2, 3] rfl rfl (by decide) (by decide) hk1 hFc hP1 hD1
            generalize H1 = H at hP hS ⊢
            have hP : va_P (dC, dI) vwCl [(ra, .inr (12, [.int st, .int ce, .int sp, .int lm, .int rm, .int fa, .ref ta])), (ta, .inl (cI, 1001, .inl f)), (mm, .inr (10, [.int he, .int ss, .int gg, .ref la, .int wr, .int tl, .int le, .int fi, .int se, .ref oo, .ref hh])), (oo, .inl (cI, 24, .inl o))] H := hP
            have hD : va_D A [(ra, .inr (12, [.int st, .int ce, .int sp, .int lm, .int rm, .int fa, .ref ta])), (ta, .inl (cI, 1001, .inl f)), (mm, .inr (10, [.int he, .int ss, .int gg, .ref la, .int wr, .int tl, .int le, .int fi, .int se, .ref oo, .ref hh])), (oo, .inl (cI, 24, .inl o))] := hD
            have hPc := hP.sub (ws' := [(ra, .inr (12, [.int st, .int ce, .int sp, .int lm, .int rm, .int fa, .ref ta])), (ta, .inl (cI, 1001, .inl f))]) [0, 1] rfl
            have hDc := hD.sub (ws' := [(ra, .inr (12, [.int st, .int ce, .int sp, .int lm, .int rm, .int fa, .ref ta])), (ta, .inl (cI, 1001, .inl f))]) [0, 1] (by decide) rfl
            have hKc := hK.sub (tys' := [(cI, .int)]) [0] rfl
            have hFc := va_free (wc := [(ra, .inr (12, [.int st, .int ce, .int sp, .int lm, .int rm, .int fa, .ref ta])), (ta, .inl (cI, 1001, .inl f))]) hD hS hA [0, 1] rfl
            refine va_callv (va_runV (As := [.int ce, .int r_39]) (rest := []) ⟨hx, hb, hml, hown, hts⟩ (c_X7_write l dC dI cI ra ta st ce sp lm rm fa f ce r_39 H.size) (cwV 2 hts gX7_step_X7_write rfl rfl rfl (by decide +kernel) ⟨Nat.le_of_ble_eq_true rfl, Nat.le_of_ble_eq_true rfl⟩) (pcV hPc hDc hKc hN (ci := 12) (q0 := 0) rfl rfl) rfl rfl hl.1 rfl (lv_room (Nat.le_of_ble_eq_true rfl)) dX7_step_92 ⟨Nat.le_of_ble_eq_true rfl, Nat.le_of_ble_eq_true rfl⟩) hS (fun q _ h => hFc q h) hFc (fun u t H1 locs ht hvm hw_42 hB hz1 hk1 hS => ?_)
            obtain ⟨hP1, hK1, hD1⟩ := hB
            rw [ht] at hP1
            try dsimp only at hw_42
            obtain ⟨hP, hD⟩ := va_join (wr := [(mm, .inr (10, [.int he, .int ss, .int gg, .ref la, .int wr, .int tl, .int le, .int fi, .int se, .ref oo, .ref hh])), (oo, .inl (cI, 24, .inl o))]) (w1 := [(ra, .inr (12, [.int st, .int ce, .int sp, .int lm, .int rm, .int fa, .ref ta])), (ta, .inl (cI, 1001, .inl u))]) hP hD [0, 1] [2, 3] rfl rfl (by decide) (by decide) hk1 hFc hP1 hD1
            generalize H1 = H at hP hS ⊢
            have hP : va_P (dC, dI) vwCl [(mm, .inr (10, [.int he, .int ss, .int gg, .ref la, .int wr, .int tl, .int le, .int fi, .int se, .ref oo, .ref hh])), (oo, .inl (cI, 24, .inl o)), (ra, .inr (12, [.int st, .int ce, .int sp, .int lm, .int rm, .int fa, .ref ta])), (ta, .inl (cI, 1001, .inl u))] H := hP
            have hD : va_D A [(mm, .inr (10, [.int he, .int ss, .int gg, .ref la, .int wr, .int tl, .int le, .int fi, .int se, .ref oo, .ref hh])), (oo, .inl (cI, 24, .inl o)), (ra, .inr (12, [.int st, .int ce, .int sp, .int lm, .int rm, .int fa, .ref ta])), (ta, .inl (cI, 1001, .inl u))] := hD
            obtain ⟨f_41, ef_41⟩ : ∃ z, z = u := ⟨_, rfl⟩
            subst ef_41
            refine lv_aload_n hx hb dX7_step_95 rfl (lv_at hl 3 rfl) ?_
            refine lv_iload_n hx hb dX7_step_96 rfl (lv_at hl 2 rfl) ?_
            have hPc := hP.sub (ws' := []) [] rfl
            have hDc := hD.sub (ws' := []) [] (by decide) rfl
            have hKc := hK.sub (tys' := []) [] rfl
            have hFc := va_free (wc := []) hD hS hA [] rfl
            refine va_calli (va_runS (As := [.int r_4]) (rest := [.ref ra]) ⟨hx, hb, hml, hown, hts⟩ (c_X5_nextOf l dC dI r_4 H.size) (va_cwS 1 hts gX7_step_X5_nextOf rfl rfl rfl (by decide +kernel) ⟨Nat.le_of_ble_eq_true rfl, Nat.le_of_ble_eq_true rfl⟩) (pcS hPc hDc hKc hN) rfl rfl hl.1 rfl (lv_room (Nat.le_of_ble_eq_true rfl)) dX7_step_97 ⟨Nat.le_of_ble_eq_true rfl, Nat.le_of_ble_eq_true rfl⟩) hS (fun q _ h => hFc q h) hFc (fun r_43 u t H1 locs ht hvm hw_44 hB hz1 hk1 hS => ?_)
            obtain ⟨hP1, hK1, hD1⟩ := hB
            rw [ht] at hP1
            try dsimp only at hw_44
            obtain ⟨hP, hD⟩ := va_join (wr := [(mm, .inr (10, [.int he, .int ss, .int gg, .ref la, .int wr, .int tl, .int le, .int fi, .int se, .ref oo, .ref hh])), (oo, .inl (cI, 24, .inl o)), (ra, .inr (12, [.int st, .int ce, .int sp, .int lm, .int rm, .int fa, .ref ta])), (ta, .inl (cI, 1001, .inl f_41))]) (w1 := []) hP hD [] [0, 1, 2, 3] rfl rfl (by decide) (by decide) hk1 hFc hP1 hD1
            generalize H1 = H at hP hS ⊢
            have hP : va_P (dC, dI) vwCl [(mm, .inr (10, [.int he, .int ss, .int gg, .ref la, .int wr, .int tl, .int le, .int fi, .int se, .ref oo, .ref hh])), (oo, .inl (cI, 24, .inl o)), (ra, .inr (12, [.int st, .int ce, .int sp, .int lm, .int rm, .int fa, .ref ta])), (ta, .inl (cI, 1001, .inl f_41))] H := hP
            have hD : va_D A [(mm, .inr (10, [.int he, .int ss, .int gg, .ref la, .int wr, .int tl, .int le, .int fi, .int se, .ref oo, .ref hh])), (oo, .inl (cI, 24, .inl o)), (ra, .inr (12, [.int st, .int ce, .int sp, .int lm, .int rm, .int fa, .ref ta])), (ta, .inl (cI, 1001, .inl f_41))] := hD
            refine va_put (D := (dC, dI)) (ci := 12) (v := .int r_43) (ty := .int) (C := RX7) (T := TX7) (N := 7) hx hb hts iWX7 tyX7 tyX7_ok nmX7 hown hK hP hD hS 2 rfl rfl 0 (by decide) (hts (.fieldLink RX7 9 "Beaverhall$Run" "state" "I") (by decide +kernel)) (fun _ h9 => h9) rfl (by decide +kernel) rfl rfl (Nat.le_of_ble_eq_true rfl) dX7_step_100 (fun H locs hP hD hS => ?_)
            have hP : va_P (dC, dI) vwCl [(mm, .inr (10, [.int he, .int ss, .int gg, .ref la, .int wr, .int tl, .int le, .int fi, .int se, .ref oo, .ref hh])), (oo, .inl (cI, 24, .inl o)), (ra, .inr (12, [.int r_43, .int ce, .int sp, .int lm, .int rm, .int fa, .ref ta])), (ta, .inl (cI, 1001, .inl f_41))] H := hP
            have hD : va_D A [(mm, .inr (10, [.int he, .int ss, .int gg, .ref la, .int wr, .int tl, .int le, .int fi, .int se, .ref oo, .ref hh])), (oo, .inl (cI, 24, .inl o)), (ra, .inr (12, [.int r_43, .int ce, .int sp, .int lm, .int rm, .int fa, .ref ta])), (ta, .inl (cI, 1001, .inl f_41))] := hD
            refine lv_aload_n hx hb dX7_step_103 rfl (lv_at hl 3 rfl) ?_
            refine lv_iload hx hb dX7_step_104 (lv_at hl 0 rfl) ?_
            refine va_put (D := (dC, dI)) (ci := 12) (v := .int 1) (ty := .boolean) (C := RX7) (T := TX7) (N := 7) hx hb hts iWX7 tyX7 tyX7_ok nmX7 hown hK hP hD hS 2 rfl rfl 5 (by decide) (hts (.fieldLink RX7 27 "Beaverhall$Run" "hasFallen" "Z") (by decide +kernel)) (fun _ h9 => h9) rfl (by decide +kernel) rfl rfl (Nat.le_of_ble_eq_true rfl) dX7_step_106 (fun H locs hP hD hS => ?_)
            have hP : va_P (dC, dI) vwCl [(mm, .inr (10, [.int he, .int ss, .int gg, .ref la, .int wr, .int tl, .int le, .int fi, .int se, .ref oo, .ref hh])), (oo, .inl (cI, 24, .inl o)), (ra, .inr (12, [.int r_43, .int ce, .int sp, .int lm, .int rm, .int 1, .ref ta])), (ta, .inl (cI, 1001, .inl f_41))] H := hP
            have hD : va_D A [(mm, .inr (10, [.int he, .int ss, .int gg, .ref la, .int wr, .int tl, .int le, .int fi, .int se, .ref oo, .ref hh])), (oo, .inl (cI, 24, .inl o)), (ra, .inr (12, [.int r_43, .int ce, .int sp, .int lm, .int rm, .int 1, .ref ta])), (ta, .inl (cI, 1001, .inl f_41))] := hD
            refine lv_aload_n hx hb dX7_step_109 rfl (lv_at hl 3 rfl) ?_
            refine lv_iload hx hb dX7_step_110 (lv_at hl 0 rfl) ?_
            refine lv_if_eq (tgt := 122) hx hb dX7_step_112 (by decide) (fun c112_45 => ?_) (fun c112_45 => ?_)
            · exact absurd c112_45 (by decide)
            · refine lv_aload_n hx hb dX7_step_115 rfl (lv_at hl 3 rfl) ?_
              refine va_get (D := (dC, dI)) (ci := 12) (v := .int ce) (C := RX7) (T := TX7) (N := 7) hx hb hts iWX7 hown hK hP 2 rfl rfl 1 (by decide) (hts (.fieldLink RX7 15 "Beaverhall$Run" "cell" "I") (by decide +kernel)) (fun _ h9 => h9) rfl dX7_step_116 ?_
              refine lv_goto (tgt := 123) hx hb dX7_step_119 (by decide) ?_
              refine va_put (D := (dC, dI)) (ci := 12) (v := .int ce) (ty := .int) (C := RX7) (T := TX7) (N := 7) hx hb hts iWX7 tyX7 tyX7_ok nmX7 hown hK hP hD hS 2 rfl rfl 1 (by decide) (hts (.fieldLink RX7 15 "Beaverhall$Run" "cell" "I") (by decide +kernel)) (fun _ h9 => h9) rfl (by decide +kernel) rfl rfl (Nat.le_of_ble_eq_true rfl) dX7_step_123 (fun H locs hP hD hS => ?_)
              have hP : va_P (dC, dI) vwCl [(mm, .inr (10, [.int he, .int ss, .int gg, .ref la, .int wr, .int tl, .int le, .int fi, .int se, .ref oo, .ref hh])), (oo, .inl (cI, 24, .inl o)), (ra, .inr (12, [.int r_43, .int ce, .int sp, .int lm, .int rm, .int 1, .ref ta])), (ta, .inl (cI, 1001, .inl f_41))] H := hP
              have hD : va_D A [(mm, .inr (10, [.int he, .int ss, .int gg, .ref la, .int wr, .int tl, .int le, .int fi, .int se, .ref oo, .ref hh])), (oo, .inl (cI, 24, .inl o)), (ra, .inr (12, [.int r_43, .int ce, .int sp, .int lm, .int rm, .int 1, .ref ta])), (ta, .inl (cI, 1001, .inl f_41))] := hD
              refine lv_aload_n hx hb dX7_step_126 rfl (lv_at hl 3 rfl) ?_
              refine lv_aload_n hx hb dX7_step_127 rfl (lv_at hl 3 rfl) ?_
              refine va_get (D := (dC, dI)) (ci := 12) (v := .int lm) (C := RX7) (T := TX7) (N := 7) hx hb hts iWX7 hown hK hP 2 rfl rfl 3 (by decide) (hts (.fieldLink RX7 21 "Beaverhall$Run" "leftmost" "I") (by decide +kernel)) (fun _ h9 => h9) rfl dX7_step_128 ?_
              refine lv_aload_n hx hb dX7_step_131 rfl (lv_at hl 3 rfl) ?_
              refine va_get (D := (dC, dI)) (ci := 12) (v := .int ce) (C := RX7) (T := TX7) (N := 7) hx hb hts iWX7 hown hK hP 2 rfl rfl 1 (by decide) (hts (.fieldLink RX7 15 "Beaverhall$Run" "cell" "I") (by decide +kernel)) (fun _ h9 => h9) rfl dX7_step_132 ?_
              refine va_mmin hx hb (hml.trans hl.1.symm) hown (hts (.methodLink RX7 67 Lib.Math.min.name) (by decide +kernel)) (hts (.static Lib.Math.min.name) (by decide +kernel)) (hts (.initialized "java/lang/Math") (by decide +kernel)) (hts (.code Lib.Math.min.name Lib.Math.min.code 2 (some .int)) (by decide +kernel)) (Nat.le_of_ble_eq_true rfl) (Nat.le_of_ble_eq_true rfl) (Nat.le_of_ble_eq_true rfl) (Nat.le_of_ble_eq_true rfl) dX7_step_135 ?_
              refine lv_topi (fun x_46 ex_46 => ?_)
              have ex_46 : x_46 = iminJ lm ce := ex_46
              refine va_put (D := (dC, dI)) (ci := 12) (v := .int x_46) (ty := .int) (C := RX7) (T := TX7) (N := 7) hx hb hts iWX7 tyX7 tyX7_ok nmX7 hown hK hP hD hS 2 rfl rfl 3 (by decide) (hts (.fieldLink RX7 21 "Beaverhall$Run" "leftmost" "I") (by decide +kernel)) (fun _ h9 => h9) rfl (by decide +kernel) rfl rfl (Nat.le_of_ble_eq_true rfl) dX7_step_138 (fun H locs hP hD hS => ?_)
              have hP : va_P (dC, dI) vwCl [(mm, .inr (10, [.int he, .int ss, .int gg, .ref la, .int wr, .int tl, .int le, .int fi, .int se, .ref oo, .ref hh])), (oo, .inl (cI, 24, .inl o)), (ra, .inr (12, [.int r_43, .int ce, .int sp, .int x_46, .int rm, .int 1, .ref ta])), (ta, .inl (cI, 1001, .inl f_41))] H := hP
              have hD : va_D A [(mm, .inr (10, [.int he, .int ss, .int gg, .ref la, .int wr, .int tl, .int le, .int fi, .int se, .ref oo, .ref hh])), (oo, .inl (cI, 24, .inl o)), (ra, .inr (12, [.int r_43, .int ce, .int sp, .int x_46, .int rm, .int 1, .ref ta])), (ta, .inl (cI, 1001, .inl f_41))] := hD
              refine lv_aload_n hx hb dX7_step_141 rfl (lv_at hl 3 rfl) ?_
              refine lv_aload_n hx hb dX7_step_142 rfl (lv_at hl 3 rfl) ?_
              refine va_get (D := (dC, dI)) (ci := 12) (v := .int rm) (C := RX7) (T := TX7) (N := 7) hx hb hts iWX7 hown hK hP 2 rfl rfl 4 (by decide) (hts (.fieldLink RX7 24 "Beaverhall$Run" "rightmost" "I") (by decide +kernel)) (fun _ h9 => h9) rfl dX7_step_143 ?_
              refine lv_aload_n hx hb dX7_step_146 rfl (lv_at hl 3 rfl) ?_
              refine va_get (D := (dC, dI)) (ci := 12) (v := .int ce) (C := RX7) (T := TX7) (N := 7) hx hb hts iWX7 hown hK hP 2 rfl rfl 1 (by decide) (hts (.fieldLink RX7 15 "Beaverhall$Run" "cell" "I") (by decide +kernel)) (fun _ h9 => h9) rfl dX7_step_147 ?_
              refine va_mmax hx hb (hml.trans hl.1.symm) hown (hts (.methodLink RX7 72 Lib.Math.max.name) (by decide +kernel)) (hts (.static Lib.Math.max.name) (by decide +kernel)) (hts (.initialized "java/lang/Math") (by decide +kernel)) (hts (.code Lib.Math.max.name Lib.Math.max.code 2 (some .int)) (by decide +kernel)) (Nat.le_of_ble_eq_true rfl) (Nat.le_of_ble_eq_true rfl) (Nat.le_of_ble_eq_true rfl) (Nat.le_of_ble_eq_true rfl) dX7_step_150 ?_
              refine lv_topi (fun x_47 ex_47 => ?_)
              have ex_47 : x_47 = imaxJ rm ce := ex_47
              refine va_put (D := (dC, dI)) (ci := 12) (v := .int x_47) (ty := .int) (C := RX7) (T := TX7) (N := 7) hx hb hts iWX7 tyX7 tyX7_ok nmX7 hown hK hP hD hS 2 rfl rfl 4 (by decide) (hts (.fieldLink RX7 24 "Beaverhall$Run" "rightmost" "I") (by decide +kernel)) (fun _ h9 => h9) rfl (by decide +kernel) rfl rfl (Nat.le_of_ble_eq_true rfl) dX7_step_153 (fun H locs hP hD hS => ?_)
              have hP : va_P (dC, dI) vwCl [(mm, .inr (10, [.int he, .int ss, .int gg, .ref la, .int wr, .int tl, .int le, .int fi, .int se, .ref oo, .ref hh])), (oo, .inl (cI, 24, .inl o)), (ra, .inr (12, [.int r_43, .int ce, .int sp, .int x_46, .int x_47, .int 1, .ref ta])), (ta, .inl (cI, 1001, .inl f_41))] H := hP
              have hD : va_D A [(mm, .inr (10, [.int he, .int ss, .int gg, .ref la, .int wr, .int tl, .int le, .int fi, .int se, .ref oo, .ref hh])), (oo, .inl (cI, 24, .inl o)), (ra, .inr (12, [.int r_43, .int ce, .int sp, .int x_46, .int x_47, .int 1, .ref ta])), (ta, .inl (cI, 1001, .inl f_41))] := hD
              refine lv_aload_n hx hb dX7_step_156 rfl (lv_at hl 3 rfl) ?_
              refine lv_dup hx hb dX7_step_157 rfl ?_
              refine va_get (D := (dC, dI)) (ci := 12) (v := .int sp) (C := RX7) (T := TX7) (N := 7) hx hb hts iWX7 hown hK hP 2 rfl rfl 2 (by decide) (hts (.fieldLink RX7 18 "Beaverhall$Run" "steps" "I") (by decide +kernel)) (fun _ h9 => h9) rfl dX7_step_158 ?_
              refine lv_iconst (v := 1) hx hb dX7_step_161 (by decide) ?_
              refine lv_iadd hx hb dX7_step_162 ?_
              refine lv_topi (fun x_48 ex_48 => ?_)
              refine va_put (D := (dC, dI)) (ci := 12) (v := .int x_48) (ty := .int) (C := RX7) (T := TX7) (N := 7) hx hb hts iWX7 tyX7 tyX7_ok nmX7 hown hK hP hD hS 2 rfl rfl 2 (by decide) (hts (.fieldLink RX7 18 "Beaverhall$Run" "steps" "I") (by decide +kernel)) (fun _ h9 => h9) rfl (by decide +kernel) rfl rfl (Nat.le_of_ble_eq_true rfl) dX7_step_163 (fun H locs hP hD hS => ?_)
              have hP : va_P (dC, dI) vwCl [(mm, .inr (10, [.int he, .int ss, .int gg, .ref la, .int wr, .int tl, .int le, .int fi, .int se, .ref oo, .ref hh])), (oo, .inl (cI, 24, .inl o)), (ra, .inr (12, [.int r_43, .int ce, .int x_48, .int x_46, .int x_47, .int 1, .ref ta])), (ta, .inl (cI, 1001, .inl f_41))] H := hP
              have hD : va_D A [(mm, .inr (10, [.int he, .int ss, .int gg, .ref la, .int wr, .int tl, .int le, .int fi, .int se, .ref oo, .ref hh])), (oo, .inl (cI, 24, .inl o)), (ra, .inr (12, [.int r_43, .int ce, .int x_48, .int x_46, .int x_47, .int 1, .ref ta])), (ta, .inl (cI, 1001, .inl f_41))] := hD
              refine lv_iconst (v := 1) hx hb dX7_step_166 (by decide) ?_
              have hP9 := hP.sub (ws' := [(ra, .inr (12, [.int r_43, .int ce, .int x_48, .int x_46, .int x_47, .int 1, .ref ta])), (ta, .inl (cI, 1001, .inl f_41)), (mm, .inr (10, [.int he, .int ss, .int gg, .ref la, .int wr, .int tl, .int le, .int fi, .int se, .ref oo, .ref hh])), (oo, .inl (cI, 24, .inl o))]) [2, 3, 0, 1] rfl
              have hD9 := hD.sub (ws' := [(ra, .inr (12, [.int r_43, .int ce, .int x_48, .int x_46, .int x_47, .int 1, .ref ta])), (ta, .inl (cI, 1001, .inl f_41)), (mm, .inr (10, [.int he, .int ss, .int gg, .ref la, .int wr, .int tl, .int le, .int fi, .int se, .ref oo, .ref hh])), (oo, .inl (cI, 24, .inl o))]) [2, 3, 0, 1] (by decide) rfl
              have hK9 := hK.sub (tys' := [(cI, .int)]) [0] rfl
              exact W.zret (v := 1) hx hb hr (by rfl) (fun t ht hW => ⟨⟨1, (r_43, ce, x_48, x_46, x_47, 1, f_41), rfl, (by (try subst ex_48); (try subst ex_47); (try subst ex_46); (try subst hw_44); (try subst hw_42); (try subst hw_40); (try subst ex_9); (try subst hw_8); (try subst hw_5); (try subst hw_3); simp [stepJ, c4_1, c29_6, c48_10, c52_24, c64_38, c112_45]), ⟨by rw [ht]; exact hP9, va_K.moved hW.alike hK9, hD9⟩⟩, hS.F ht⟩) hS.2.2 dX7_step_167
          · exact absurd c64_38 (by decide)
    · refine lv_iconst (v := 0) hx hb dX7_step_32 (by decide) ?_
      have hP9 := hP.sub (ws' := [(ra, .inr (12, [.int st, .int ce, .int sp, .int lm, .int rm, .int fa, .ref ta])), (ta, .inl (cI, 1001, .inl f)), (mm, .inr (10, [.int he, .int ss, .int gg, .ref la, .int wr, .int tl, .int le, .int fi, .int se, .ref oo, .ref hh])), (oo, .inl (cI, 24, .inl o))]) [0, 1, 2, 3] rfl
      have hD9 := hD.sub (ws' := [(ra, .inr (12, [.int st, .int ce, .int sp, .int lm, .int rm, .int fa, .ref ta])), (ta, .inl (cI, 1001, .inl f)), (mm, .inr (10, [.int he, .int ss, .int gg, .ref la, .int wr, .int tl, .int le, .int fi, .int se, .ref oo, .ref hh])), (oo, .inl (cI, 24, .inl o))]) [0, 1, 2, 3] (by decide) rfl
      have hK9 := hK.sub (tys' := [(cI, .int)]) [0] rfl
      exact W.zret (v := 0) hx hb hr (by rfl) (fun t ht hW => ⟨⟨0, (st, ce, sp, lm, rm, fa, f), rfl, (by (try subst hw_5); (try subst hw_3); simp [stepJ, c4_1, c29_6]), ⟨by rw [ht]; exact hP9, va_K.moved hW.alike hK9, hD9⟩⟩, hS.F ht⟩) hS.2.2 dX7_step_33
  · refine lv_iconst (v := 0) hx hb dX7_step_7 (by decide) ?_
    refine lv_goto (tgt := 27) hx hb dX7_step_8 (by decide) ?_
    refine lv_istore_n (lv' := [(2, .int 0), (0, .ref ra), (1, .ref mm)]) hx hb dX7_step_27 rfl hl (by decide) rfl (fun ls hl => ?_)
    refine lv_iload_n hx hb dX7_step_28 rfl (lv_at hl 0 rfl) ?_
    refine lv_if_ne (tgt := 34) hx hb dX7_step_29 (by decide) (fun c29_49 => ?_) (fun c29_49 => ?_)
    · exact (c29_49 (by decide)).elim
    · refine lv_iconst (v := 0) hx hb dX7_step_32 (by decide) ?_
      have hP9 := hP.sub (ws' := [(ra, .inr (12, [.int st, .int ce, .int sp, .int lm, .int rm, .int fa, .ref ta])), (ta, .inl (cI, 1001, .inl f)), (mm, .inr (10, [.int he, .int ss, .int gg, .ref la, .int wr, .int tl, .int le, .int fi, .int se, .ref oo, .ref hh])), (oo, .inl (cI, 24, .inl o))]) [0, 1, 2, 3] rfl
      have hD9 := hD.sub (ws' := [(ra, .inr (12, [.int st, .int ce, .int sp, .int lm, .int rm, .int fa, .ref ta])), (ta, .inl (cI, 1001, .inl f)), (mm, .inr (10, [.int he, .int ss, .int gg, .ref la, .int wr, .int tl, .int le, .int fi, .int se, .ref oo, .ref hh])), (oo, .inl (cI, 24, .inl o))]) [0, 1, 2, 3] (by decide) rfl
      have hK9 := hK.sub (tys' := [(cI, .int)]) [0] rfl
      exact W.zret (v := 0) hx hb hr (by rfl) (fun t ht hW => ⟨⟨0, (st, ce, sp, lm, rm, fa, f), rfl, (by simp [stepJ, c4_1, c29_49]), ⟨by rw [ht]; exact hP9, va_K.moved hW.alike hK9, hD9⟩⟩, hS.F ht⟩) hS.2.2 dX7_step_33

set_option maxHeartbeats 4000000 in
set_option maxRecDepth 100000 in
/-- X7_isHalted -/
theorem c_X7_isHalted (l : Launch) (dC : Nat → ClassId) (dI : Nat → Nat → Nat) (cI : ClassId) (ra ta : Nat) (st ce sp lm rm fa : Int32) (f : Nat → Int32) (mm oo la hh : Nat) (he ss gg wr tl le fi se : Int32) (o : Nat → Int32) (hss : ss ≤ 6) (hgg : gg ≤ 4) (sz : Nat) : Met l yX7_isHalted wsX7_isHalted ({ frames := 1, cells := 0, slots := 0, locals := 24 }) (va_Pc [.ref ra, .ref mm] (cPC dC dI [(ra, .inr (12, [.int st, .int ce, .int sp, .int lm, .int rm, .int fa, .ref ta])), (ta, .inl (cI, 1001, .inl f)), (mm, .inr (10, [.int he, .int ss, .int gg, .ref la, .int wr, .int tl, .int le, .int fi, .int se, .ref oo, .ref hh])), (oo, .inl (cI, 24, .inl o))] [(cI, .int)] sz)) (va_Qi (fun (r : Int32) (u : Unit) => r = haltJ ss gg o (st, ce, sp, lm, rm, fa, f)) (fun (u : Unit) t => cQB dC dI [(ra, .inr (12, [.int st, .int ce, .int sp, .int lm, .int rm, .int fa, .ref ta])), (ta, .inl (cI, 1001, .inl f)), (mm, .inr (10, [.int he, .int ss, .int gg, .ref la, .int wr, .int tl, .int le, .int fi, .int se, .ref oo, .ref hh])), (oo, .inl (cI, 24, .inl o))] [(cI, .int)] (va_A [(ra, .inr (12, [.int st, .int ce, .int sp, .int lm, .int rm, .int fa, .ref ta])), (ta, .inl (cI, 1001, .inl f)), (mm, .inr (10, [.int he, .int ss, .int gg, .ref la, .int wr, .int tl, .int le, .int fi, .int se, .ref oo, .ref hh])), (oo, .inl (cI, 24, .inl o))] sz) t) (va_A [(ra, .inr (12, [.int st, .int ce, .int sp, .int lm, .int rm, .int fa, .ref ta])), (ta, .inl (cI, 1001, .inl f)), (mm, .inr (10, [.int he, .int ss, .int gg, .ref la, .int wr, .int tl, .int le, .int fi, .int se, .ref oo, .ref hh])), (oo, .inl (cI, 24, .inl o))] sz)) 0 0 (va_A [(ra, .inr (12, [.int st, .int ce, .int sp, .int lm, .int rm, .int fa, .ref ta])), (ta, .inl (cI, 1001, .inl f)), (mm, .inr (10, [.int he, .int ss, .int gg, .ref la, .int wr, .int tl, .int le, .int fi, .int se, .ref oo, .ref hh])), (oo, .inl (cI, 24, .inl o))] sz) := by
  refine Met.ofW (cc := cX7_isHalted) (maxL := 2) (ret := (some .boolean)) (by decide) rfl ?_
  intro p e s m args below meth c s₁ B hml hv
  obtain ⟨rfl, hsz, hP, hK, hD0, hN⟩ := hv
  have hx := B.exec
  have hb := B.bytes
  have hr := B.returns
  have hts := atoms_spec (ws := wsX7_isHalted) B.pre
  have hown : s.vm.findClass RX7 = some m.cls := findClass_of_methodNamed B.named
  have hlocks := B.notSynchronized
  subst hsz
  have hD := hD0.self (sz := s.heap.size)
  generalize hAe : va_A [(ra, .inr (12, [.int st, .int ce, .int sp, .int lm, .int rm, .int fa, .ref ta])), (ta, .inl (cI, 1001, .inl f)), (mm, .inr (10, [.int he, .int ss, .int gg, .ref la, .int wr, .int tl, .int le, .int fi, .int se, .ref oo, .ref hh])), (oo, .inl (cI, 24, .inl o))] s.heap.size = A at hD ⊢
  have hA : ∀ q : Nat, s.heap.size ≤ q → A q := fun q h => by rw [← hAe]; exact Or.inr h
  have hS : va_S A s.heap s.heap [] := va_S.rf
  have hP : va_P (dC, dI) vwCl [(ra, .inr (12, [.int st, .int ce, .int sp, .int lm, .int rm, .int fa, .ref ta])), (ta, .inl (cI, 1001, .inl f)), (mm, .inr (10, [.int he, .int ss, .int gg, .ref la, .int wr, .int tl, .int le, .int fi, .int se, .ref oo, .ref hh])), (oo, .inl (cI, 24, .inl o))] s.heap := hP
  have hD : va_D A [(ra, .inr (12, [.int st, .int ce, .int sp, .int lm, .int rm, .int fa, .ref ta])), (ta, .inl (cI, 1001, .inl f)), (mm, .inr (10, [.int he, .int ss, .int gg, .ref la, .int wr, .int tl, .int le, .int fi, .int se, .ref oo, .ref hh])), (oo, .inl (cI, 24, .inl o))] := hD
  have hl := lv_entry ([.ref ra, .ref mm]) (n := 2) (Nat.le_of_ble_eq_true rfl)
  rw [lg_entry_eq]
  generalize (lg_sl ([.ref ra, .ref mm]) ++ List.replicate (2 - (lg_sl ([.ref ra, .ref mm])).length) Slot.unset).toArray = ls at hl ⊢
  have hl : lv_has ls 2 [(0, .ref ra), (1, .ref mm)] := hl
  have iWX7 : ∀ w ∈ u_ws RX7 TX7 7, w ∈ wsX7_isHalted := by decide +kernel
  refine lv_aload_n hx hb dX7_isHalted_0 rfl (lv_at hl 0 rfl) ?_
  refine va_get (D := (dC, dI)) (ci := 12) (v := .int fa) (C := RX7) (T := TX7) (N := 7) hx hb hts iWX7 hown hK hP 0 rfl rfl 5 (by decide) (hts (.fieldLink RX7 27 "Beaverhall$Run" "hasFallen" "Z") (by decide +kernel)) (fun _ h9 => h9) rfl dX7_isHalted_1 ?_
  refine lv_if_ne (tgt := 26) hx hb dX7_isHalted_4 (by decide) (fun c4_1 => ?_) (fun c4_1 => ?_)
  · refine lv_iconst (v := 1) hx hb dX7_isHalted_26 (by decide) ?_
    refine lv_goto (tgt := 31) hx hb dX7_isHalted_27 (by decide) ?_
    have hP9 := hP.sub (ws' := [(ra, .inr (12, [.int st, .int ce, .int sp, .int lm, .int rm, .int fa, .ref ta])), (ta, .inl (cI, 1001, .inl f)), (mm, .inr (10, [.int he, .int ss, .int gg, .ref la, .int wr, .int tl, .int le, .int fi, .int se, .ref oo, .ref hh])), (oo, .inl (cI, 24, .inl o))]) [0, 1, 2, 3] rfl
    have hD9 := hD.sub (ws' := [(ra, .inr (12, [.int st, .int ce, .int sp, .int lm, .int rm, .int fa, .ref ta])), (ta, .inl (cI, 1001, .inl f)), (mm, .inr (10, [.int he, .int ss, .int gg, .ref la, .int wr, .int tl, .int le, .int fi, .int se, .ref oo, .ref hh])), (oo, .inl (cI, 24, .inl o))]) [0, 1, 2, 3] (by decide) rfl
    have hK9 := hK.sub (tys' := [(cI, .int)]) [0] rfl
    exact W.zret (v := 1) hx hb hr (by rfl) (fun t ht hW => ⟨⟨1, (), rfl, (by simp [haltJ, c4_1]), ⟨by rw [ht]; exact hP9, va_K.moved hW.alike hK9, hD9⟩⟩, hS.F ht⟩) hS.2.2 dX7_isHalted_31
  · refine lv_aload_n hx hb dX7_isHalted_7 rfl (lv_at hl 1 rfl) ?_
    refine lv_aload_n hx hb dX7_isHalted_8 rfl (lv_at hl 0 rfl) ?_
    refine va_get (D := (dC, dI)) (ci := 12) (v := .int st) (C := RX7) (T := TX7) (N := 7) hx hb hts iWX7 hown hK hP 0 rfl rfl 0 (by decide) (hts (.fieldLink RX7 9 "Beaverhall$Run" "state" "I") (by decide +kernel)) (fun _ h9 => h9) rfl dX7_isHalted_9 ?_
    refine lv_aload_n hx hb dX7_isHalted_12 rfl (lv_at hl 0 rfl) ?_
    refine lv_aload_n hx hb dX7_isHalted_13 rfl (lv_at hl 0 rfl) ?_
    refine va_get (D := (dC, dI)) (ci := 12) (v := .int ce) (C := RX7) (T := TX7) (N := 7) hx hb hts iWX7 hown hK hP 0 rfl rfl 1 (by decide) (hts (.fieldLink RX7 15 "Beaverhall$Run" "cell" "I") (by decide +kernel)) (fun _ h9 => h9) rfl dX7_isHalted_14 ?_
    have hPc := hP.sub (ws' := [(ra, .inr (12, [.int st, .int ce, .int sp, .int lm, .int rm, .int fa, .ref ta])), (ta, .inl (cI, 1001, .inl f))]) [0, 1] rfl
    have hDc := hD.sub (ws' := [(ra, .inr (12, [.int st, .int ce, .int sp, .int lm, .int rm, .int fa, .ref ta])), (ta, .inl (cI, 1001, .inl f))]) [0, 1] (by decide) rfl
    have hKc := hK.sub (tys' := [(cI, .int)]) [0] rfl
    have hFc := va_free (wc := [(ra, .inr (12, [.int st, .int ce, .int sp, .int lm, .int rm, .int fa, .ref ta])), (ta, .inl (cI, 1001, .inl f))]) hD hS hA [0, 1] rfl
    refine va_calli (va_runV (As := [.int ce]) (rest := [.int st, .ref mm]) ⟨hx, hb, hml, hown, hts⟩ (c_X7_signOf l dC dI cI ra ta st ce sp lm rm fa f ce s.heap.size) (cwV 1 hts gX7_isHalted_X7_signOf rfl rfl rfl (by decide +kernel) ⟨Nat.le_of_ble_eq_true rfl, Nat.le_of_ble_eq_true rfl⟩) (pcV hPc hDc hKc hN (ci := 12) (q0 := 0) rfl rfl) rfl rfl hl.1 rfl (lv_room (Nat.le_of_ble_eq_true rfl)) dX7_isHalted_17 ⟨Nat.le_of_ble_eq_true rfl, Nat.le_of_ble_eq_true rfl⟩) hS (fun q _ h => hFc q h) hFc (fun r_2 u t H1 locs ht hvm hw_3 hB hz1 hk1 hS => ?_)
    obtain ⟨hP1, hK1, hD1⟩ := hB
    rw [ht] at hP1
    try dsimp only at hw_3
    obtain ⟨hP, hD⟩ := va_join (wr := [(mm, .inr (10, [.int he, .int ss, .int gg, .ref la, .int wr, .int tl, .int le, .int fi, .int se, .ref oo, .ref hh])), (oo, .inl (cI, 24, .inl o))]) (w1 := [(ra, .inr (12, [.int st, .int ce, .int sp, .int lm, .int rm, .int fa, .ref ta])), (ta, .inl (cI, 1001, .inl f))]) hP hD [0, 1] [2, 3] rfl rfl (by decide) (by decide) hk1 hFc hP1 hD1
    generalize H1 = H at hP hS ⊢
    have hP : va_P (dC, dI) vwCl [(mm, .inr (10, [.int he, .int ss, .int gg, .ref la, .int wr, .int tl, .int le, .int fi, .int se, .ref oo, .ref hh])), (oo, .inl (cI, 24, .inl o)), (ra, .inr (12, [.int st, .int ce, .int sp, .int lm, .int rm, .int fa, .ref ta])), (ta, .inl (cI, 1001, .inl f))] H := hP
    have hD : va_D A [(mm, .inr (10, [.int he, .int ss, .int gg, .ref la, .int wr, .int tl, .int le, .int fi, .int se, .ref oo, .ref hh])), (oo, .inl (cI, 24, .inl o)), (ra, .inr (12, [.int st, .int ce, .int sp, .int lm, .int rm, .int fa, .ref ta])), (ta, .inl (cI, 1001, .inl f))] := hD
    have hPc := hP.sub (ws' := [(mm, .inr (10, [.int he, .int ss, .int gg, .ref la, .int wr, .int tl, .int le, .int fi, .int se, .ref oo, .ref hh])), (oo, .inl (cI, 24, .inl o))]) [0, 1] rfl
    have hDc := hD.sub (ws' := [(mm, .inr (10, [.int he, .int ss, .int gg, .ref la, .int wr, .int tl, .int le, .int fi, .int se, .ref oo, .ref hh])), (oo, .inl (cI, 24, .inl o))]) [0, 1] (by decide) rfl
    have hKc := hK.sub (tys' := [(cI, .int)]) [0] rfl
    have hFc := va_free (wc := [(mm, .inr (10, [.int he, .int ss, .int gg, .ref la, .int wr, .int tl, .int le, .int fi, .int se, .ref oo, .ref hh])), (oo, .inl (cI, 24, .inl o))]) hD hS hA [0, 1] rfl
    refine va_calli (va_runV (As := [.int st, .int r_2]) (rest := []) ⟨hx, hb, hml, hown, hts⟩ (c_X5_orderFor l dC dI cI mm oo la hh he ss gg wr tl le fi se o hss hgg st r_2 H.size) (cwV 2 hts gX7_isHalted_X5_orderFor rfl rfl rfl (by decide +kernel) ⟨Nat.le_of_ble_eq_true rfl, Nat.le_of_ble_eq_true rfl⟩) (pcV hPc hDc hKc hN (ci := 10) (q0 := 0) rfl rfl) rfl rfl hl.1 rfl (lv_room (Nat.le_of_ble_eq_true rfl)) dX7_isHalted_20 ⟨Nat.le_of_ble_eq_true rfl, Nat.le_of_ble_eq_true rfl⟩) hS (fun q _ h => hFc q h) hFc (fun r_4 u t H1 locs ht hvm hw_5 hB hz1 hk1 hS => ?_)
    obtain ⟨hP1, hK1, hD1⟩ := hB
    rw [ht] at hP1
    try dsimp only at hw_5
    obtain ⟨hP, hD⟩ := va_join (wr := [(ra, .inr (12, [.int st, .int ce, .int sp, .int lm, .int rm, .int fa, .ref ta])), (ta, .inl (cI, 1001, .inl f))]) (w1 := [(mm, .inr (10, [.int he, .int ss, .int gg, .ref la, .int wr, .int tl, .int le, .int fi, .int se, .ref oo, .ref hh])), (oo, .inl (cI, 24, .inl o))]) hP hD [0, 1] [2, 3] rfl rfl (by decide) (by decide) hk1 hFc hP1 hD1
    generalize H1 = H at hP hS ⊢
    have hP : va_P (dC, dI) vwCl [(ra, .inr (12, [.int st, .int ce, .int sp, .int lm, .int rm, .int fa, .ref ta])), (ta, .inl (cI, 1001, .inl f)), (mm, .inr (10, [.int he, .int ss, .int gg, .ref la, .int wr, .int tl, .int le, .int fi, .int se, .ref oo, .ref hh])), (oo, .inl (cI, 24, .inl o))] H := hP
    have hD : va_D A [(ra, .inr (12, [.int st, .int ce, .int sp, .int lm, .int rm, .int fa, .ref ta])), (ta, .inl (cI, 1001, .inl f)), (mm, .inr (10, [.int he, .int ss, .int gg, .ref la, .int wr, .int tl, .int le, .int fi, .int se, .ref oo, .ref hh])), (oo, .inl (cI, 24, .inl o))] := hD
    refine lv_if_ne (tgt := 30) hx hb dX7_isHalted_23 (by decide) (fun c23_6 => ?_) (fun c23_6 => ?_)
    · refine lv_iconst (v := 0) hx hb dX7_isHalted_30 (by decide) ?_
      have hP9 := hP.sub (ws' := [(ra, .inr (12, [.int st, .int ce, .int sp, .int lm, .int rm, .int fa, .ref ta])), (ta, .inl (cI, 1001, .inl f)), (mm, .inr (10, [.int he, .int ss, .int gg, .ref la, .int wr, .int tl, .int le, .int fi, .int se, .ref oo, .ref hh])), (oo, .inl (cI, 24, .inl o))]) [0, 1, 2, 3] rfl
      have hD9 := hD.sub (ws' := [(ra, .inr (12, [.int st, .int ce, .int sp, .int lm, .int rm, .int fa, .ref ta])), (ta, .inl (cI, 1001, .inl f)), (mm, .inr (10, [.int he, .int ss, .int gg, .ref la, .int wr, .int tl, .int le, .int fi, .int se, .ref oo, .ref hh])), (oo, .inl (cI, 24, .inl o))]) [0, 1, 2, 3] (by decide) rfl
      have hK9 := hK.sub (tys' := [(cI, .int)]) [0] rfl
      exact W.zret (v := 0) hx hb hr (by rfl) (fun t ht hW => ⟨⟨0, (), rfl, (by (try subst hw_5); (try subst hw_3); simp [haltJ, c4_1, c23_6]), ⟨by rw [ht]; exact hP9, va_K.moved hW.alike hK9, hD9⟩⟩, hS.F ht⟩) hS.2.2 dX7_isHalted_31
    · refine lv_iconst (v := 1) hx hb dX7_isHalted_26 (by decide) ?_
      refine lv_goto (tgt := 31) hx hb dX7_isHalted_27 (by decide) ?_
      have hP9 := hP.sub (ws' := [(ra, .inr (12, [.int st, .int ce, .int sp, .int lm, .int rm, .int fa, .ref ta])), (ta, .inl (cI, 1001, .inl f)), (mm, .inr (10, [.int he, .int ss, .int gg, .ref la, .int wr, .int tl, .int le, .int fi, .int se, .ref oo, .ref hh])), (oo, .inl (cI, 24, .inl o))]) [0, 1, 2, 3] rfl
      have hD9 := hD.sub (ws' := [(ra, .inr (12, [.int st, .int ce, .int sp, .int lm, .int rm, .int fa, .ref ta])), (ta, .inl (cI, 1001, .inl f)), (mm, .inr (10, [.int he, .int ss, .int gg, .ref la, .int wr, .int tl, .int le, .int fi, .int se, .ref oo, .ref hh])), (oo, .inl (cI, 24, .inl o))]) [0, 1, 2, 3] (by decide) rfl
      have hK9 := hK.sub (tys' := [(cI, .int)]) [0] rfl
      exact W.zret (v := 1) hx hb hr (by rfl) (fun t ht hW => ⟨⟨1, (), rfl, (by (try subst hw_5); (try subst hw_3); simp [haltJ, c4_1, c23_6]), ⟨by rw [ht]; exact hP9, va_K.moved hW.alike hK9, hD9⟩⟩, hS.F ht⟩) hS.2.2 dX7_isHalted_31

set_option maxHeartbeats 4000000 in
set_option maxRecDepth 100000 in
/-- X7_go -/
theorem c_X7_go (l : Launch) (dC : Nat → ClassId) (dI : Nat → Nat → Nat) (cI : ClassId) (ra ta : Nat) (st ce sp lm rm fa : Int32) (f : Nat → Int32) (mm oo la hh : Nat) (he ss gg wr tl le fi se : Int32) (o : Nat → Int32) (hss : ss ≤ 6) (hgg : gg ≤ 4) (k : Nat) (hk : k < 2 ^ 31) (sz : Nat) : Met l yX7_go wsX7_go ({ frames := 2, cells := 0, slots := 0, locals := 60 }) (va_Pc [.ref ra, .ref mm, .int (nI k)] (cPC dC dI [(ra, .inr (12, [.int st, .int ce, .int sp, .int lm, .int rm, .int fa, .ref ta])), (ta, .inl (cI, 1001, .inl f)), (mm, .inr (10, [.int he, .int ss, .int gg, .ref la, .int wr, .int tl, .int le, .int fi, .int se, .ref oo, .ref hh])), (oo, .inl (cI, 24, .inl o))] [(cI, .int)] sz)) (va_Qv (fun (u : RunS) => u = goJ he ss gg o k (beginJ f)) (fun (u : RunS) t => cQB dC dI [(ra, .inr (12, [.int u.1, .int u.2.1, .int u.2.2.1, .int u.2.2.2.1, .int u.2.2.2.2.1, .int u.2.2.2.2.2.1, .ref ta])), (ta, .inl (cI, 1001, .inl u.2.2.2.2.2.2)), (mm, .inr (10, [.int he, .int ss, .int gg, .ref la, .int wr, .int tl, .int le, .int fi, .int se, .ref oo, .ref hh])), (oo, .inl (cI, 24, .inl o))] [(cI, .int)] (va_A [(ra, .inr (12, [.int st, .int ce, .int sp, .int lm, .int rm, .int fa, .ref ta])), (ta, .inl (cI, 1001, .inl f)), (mm, .inr (10, [.int he, .int ss, .int gg, .ref la, .int wr, .int tl, .int le, .int fi, .int se, .ref oo, .ref hh])), (oo, .inl (cI, 24, .inl o))] sz) t) (va_A [(ra, .inr (12, [.int st, .int ce, .int sp, .int lm, .int rm, .int fa, .ref ta])), (ta, .inl (cI, 1001, .inl f)), (mm, .inr (10, [.int he, .int ss, .int gg, .ref la, .int wr, .int tl, .int le, .int fi, .int se, .ref oo, .ref hh])), (oo, .inl (cI, 24, .inl o))] sz)) 0 0 (va_A [(ra, .inr (12, [.int st, .int ce, .int sp, .int lm, .int rm, .int fa, .ref ta])), (ta, .inl (cI, 1001, .inl f)), (mm, .inr (10, [.int he, .int ss, .int gg, .ref la, .int wr, .int tl, .int le, .int fi, .int se, .ref oo, .ref hh])), (oo, .inl (cI, 24, .inl o))] sz) := by
  refine Met.ofW (cc := cX7_go) (maxL := 4) (ret := none) (by decide) rfl ?_
  intro p e s m args below meth c s₁ B hml hv
  obtain ⟨rfl, hsz, hP, hK, hD0, hN⟩ := hv
  have hx := B.exec
  have hb := B.bytes
  have hr := B.returns
  have hts := atoms_spec (ws := wsX7_go) B.pre
  have hown : s.vm.findClass RX7 = some m.cls := findClass_of_methodNamed B.named
  have hlocks := B.notSynchronized
  subst hsz
  have hD := hD0.self (sz := s.heap.size)
  generalize hAe : va_A [(ra, .inr (12, [.int st, .int ce, .int sp, .int lm, .int rm, .int fa, .ref ta])), (ta, .inl (cI, 1001, .inl f)), (mm, .inr (10, [.int he, .int ss, .int gg, .ref la, .int wr, .int tl, .int le, .int fi, .int se, .ref oo, .ref hh])), (oo, .inl (cI, 24, .inl o))] s.heap.size = A at hD ⊢
  have hA : ∀ q : Nat, s.heap.size ≤ q → A q := fun q h => by rw [← hAe]; exact Or.inr h
  have hS : va_S A s.heap s.heap [] := va_S.rf
  have hP : va_P (dC, dI) vwCl [(ra, .inr (12, [.int st, .int ce, .int sp, .int lm, .int rm, .int fa, .ref ta])), (ta, .inl (cI, 1001, .inl f)), (mm, .inr (10, [.int he, .int ss, .int gg, .ref la, .int wr, .int tl, .int le, .int fi, .int se, .ref oo, .ref hh])), (oo, .inl (cI, 24, .inl o))] s.heap := hP
  have hD : va_D A [(ra, .inr (12, [.int st, .int ce, .int sp, .int lm, .int rm, .int fa, .ref ta])), (ta, .inl (cI, 1001, .inl f)), (mm, .inr (10, [.int he, .int ss, .int gg, .ref la, .int wr, .int tl, .int le, .int fi, .int se, .ref oo, .ref hh])), (oo, .inl (cI, 24, .inl o))] := hD
  have hl := lv_entry ([.ref ra, .ref mm, .int (nI k)]) (n := 4) (Nat.le_of_ble_eq_true rfl)
  rw [lg_entry_eq]
  generalize (lg_sl ([.ref ra, .ref mm, .int (nI k)]) ++ List.replicate (4 - (lg_sl ([.ref ra, .ref mm, .int (nI k)])).length) Slot.unset).toArray = ls at hl ⊢
  have hl : lv_has ls 4 [(0, .ref ra), (1, .ref mm), (2, .int (nI k))] := hl
  refine lv_aload_n hx hb dX7_go_0 rfl (lv_at hl 0 rfl) ?_
  have hPc := hP.sub (ws' := [(ra, .inr (12, [.int st, .int ce, .int sp, .int lm, .int rm, .int fa, .ref ta])), (ta, .inl (cI, 1001, .inl f))]) [0, 1] rfl
  have hDc := hD.sub (ws' := [(ra, .inr (12, [.int st, .int ce, .int sp, .int lm, .int rm, .int fa, .ref ta])), (ta, .inl (cI, 1001, .inl f))]) [0, 1] (by decide) rfl
  have hKc := hK.sub (tys' := [(cI, .int)]) [0] rfl
  have hFc := va_free (wc := [(ra, .inr (12, [.int st, .int ce, .int sp, .int lm, .int rm, .int fa, .ref ta])), (ta, .inl (cI, 1001, .inl f))]) hD hS hA [0, 1] rfl
  refine va_callv (va_runV (As := []) (rest := []) ⟨hx, hb, hml, hown, hts⟩ (c_X7_begin l dC dI cI ra ta st ce sp lm rm fa f  s.heap.size) (cwV 0 hts gX7_go_X7_begin rfl rfl rfl (by decide +kernel) ⟨Nat.le_of_ble_eq_true rfl, Nat.le_of_ble_eq_true rfl⟩) (pcV hPc hDc hKc hN (ci := 12) (q0 := 0) rfl rfl) rfl rfl hl.1 rfl (lv_room (Nat.le_of_ble_eq_true rfl)) dX7_go_1 ⟨Nat.le_of_ble_eq_true rfl, Nat.le_of_ble_eq_true rfl⟩) hS (fun q _ h => hFc q h) hFc (fun u t H1 locs ht hvm hw_8 hB hz1 hk1 hS => ?_)
  obtain ⟨st_1, ce_2, sp_3, lm_4, rm_5, fa_6, f_7⟩ := u
  obtain ⟨hP1, hK1, hD1⟩ := hB
  rw [ht] at hP1
  try dsimp only at hw_8
  obtain ⟨hP, hD⟩ := va_join (wr := [(mm, .inr (10, [.int he, .int ss, .int gg, .ref la, .int wr, .int tl, .int le, .int fi, .int se, .ref oo, .ref hh])), (oo, .inl (cI, 24, .inl o))]) (w1 := [(ra, .inr (12, [.int st_1, .int ce_2, .int sp_3, .int lm_4, .int rm_5, .int fa_6, .ref ta])), (ta, .inl (cI, 1001, .inl f_7))]) hP hD [0, 1] [2, 3] rfl rfl (by decide) (by decide) hk1 hFc hP1 hD1
  generalize H1 = H at hP hS ⊢
  have hP : va_P (dC, dI) vwCl [(mm, .inr (10, [.int he, .int ss, .int gg, .ref la, .int wr, .int tl, .int le, .int fi, .int se, .ref oo, .ref hh])), (oo, .inl (cI, 24, .inl o)), (ra, .inr (12, [.int st_1, .int ce_2, .int sp_3, .int lm_4, .int rm_5, .int fa_6, .ref ta])), (ta, .inl (cI, 1001, .inl f_7))] H := hP
  have hD : va_D A [(mm, .inr (10, [.int he, .int ss, .int gg, .ref la, .int wr, .int tl, .int le, .int fi, .int se, .ref oo, .ref hh])), (oo, .inl (cI, 24, .inl o)), (ra, .inr (12, [.int st_1, .int ce_2, .int sp_3, .int lm_4, .int rm_5, .int fa_6, .ref ta])), (ta, .inl (cI, 1001, .inl f_7))] := hD
  refine lv_iconst (v := 0) hx hb dX7_go_4 (by decide) ?_
  refine lv_istore_n (lv' := [(3, .int 0), (0, .ref ra), (1, .ref mm), (2, .int (nI k))]) hx hb dX7_go_5 rfl hl (by decide) rfl (fun ls hl => ?_)
  refine lp_go (σ := Nat × Int32 × Int32 × Int32 × Int32 × Int32 × Int32 × (Nat → Int32)) (fun x => match x with | (i_6, st_6, ce_6, sp_6, lm_6, rm_6, fa_6, f_6) => i_6 ≤ k ∧ goJ he ss gg o (k - i_6) (st_6, ce_6, sp_6, lm_6, rm_6, fa_6, f_6) = goJ he ss gg o k (beginJ f)) (fun x => match x with | (i_6, st_6, ce_6, sp_6, lm_6, rm_6, fa_6, f_6) => k - i_6) (fun x => [(ra, .inr (12, [.int x.2.1, .int x.2.2.1, .int x.2.2.2.1, .int x.2.2.2.2.1, .int x.2.2.2.2.2.1, .int x.2.2.2.2.2.2.1, .ref ta])), (ta, .inl (cI, 1001, .inl x.2.2.2.2.2.2.2)), (mm, .inr (10, [.int he, .int ss, .int gg, .ref la, .int wr, .int tl, .int le, .int fi, .int se, .ref oo, .ref hh])), (oo, .inl (cI, 24, .inl o))]) (fun x => [(0, .ref ra), (1, .ref mm), (2, .int (nI k)), (3, .int (nI x.1))]) (fun _ => []) (fun x hI ih6 H locs hP hD hS ls hl => ?_) (0, st_1, ce_2, sp_3, lm_4, rm_5, fa_6, f_7) ⟨Nat.zero_le _, by rw [hw_8]; rfl⟩ (hP.sub [2, 3, 0, 1] rfl) (hD.sub [2, 3, 0, 1] (by decide) rfl) hS (lv_sub hl [1, 2, 3, 0] rfl)
  obtain ⟨i_6, st_6, ce_6, sp_6, lm_6, rm_6, fa_6, f_6⟩ := x
  have hP : va_P (dC, dI) vwCl [(ra, .inr (12, [.int st_6, .int ce_6, .int sp_6, .int lm_6, .int rm_6, .int fa_6, .ref ta])), (ta, .inl (cI, 1001, .inl f_6)), (mm, .inr (10, [.int he, .int ss, .int gg, .ref la, .int wr, .int tl, .int le, .int fi, .int se, .ref oo, .ref hh])), (oo, .inl (cI, 24, .inl o))] H := hP
  have hD : va_D A [(ra, .inr (12, [.int st_6, .int ce_6, .int sp_6, .int lm_6, .int rm_6, .int fa_6, .ref ta])), (ta, .inl (cI, 1001, .inl f_6)), (mm, .inr (10, [.int he, .int ss, .int gg, .ref la, .int wr, .int tl, .int le, .int fi, .int se, .ref oo, .ref hh])), (oo, .inl (cI, 24, .inl o))] := hD
  have hl : lv_has ls 4 [(0, .ref ra), (1, .ref mm), (2, .int (nI k)), (3, .int (nI i_6))] := hl
  try dsimp only at hI
  have ih6 := ih6
  refine lv_iload_n hx hb dX7_go_6 rfl (lv_at hl 3 rfl) ?_
  refine lv_iload_n hx hb dX7_go_7 rfl (lv_at hl 2 rfl) ?_
  refine lv_icmp_ge (tgt := 28) hx hb dX7_go_8 (by decide) (fun c8_9 => ?_) (fun c8_9 => ?_)
  · have hP9 := hP.sub (ws' := [(ra, .inr (12, [.int st_6, .int ce_6, .int sp_6, .int lm_6, .int rm_6, .int fa_6, .ref ta])), (ta, .inl (cI, 1001, .inl f_6)), (mm, .inr (10, [.int he, .int ss, .int gg, .ref la, .int wr, .int tl, .int le, .int fi, .int se, .ref oo, .ref hh])), (oo, .inl (cI, 24, .inl o))]) [0, 1, 2, 3] rfl
    have hD9 := hD.sub (ws' := [(ra, .inr (12, [.int st_6, .int ce_6, .int sp_6, .int lm_6, .int rm_6, .int fa_6, .ref ta])), (ta, .inl (cI, 1001, .inl f_6)), (mm, .inr (10, [.int he, .int ss, .int gg, .ref la, .int wr, .int tl, .int le, .int fi, .int se, .ref oo, .ref hh])), (oo, .inl (cI, 24, .inl o))]) [0, 1, 2, 3] (by decide) rfl
    have hK9 := hK.sub (tys' := [(cI, .int)]) [0] rfl
    exact W.vret hx hb hr (fun t ht hW => ⟨⟨(st_6, ce_6, sp_6, lm_6, rm_6, fa_6, f_6), rfl, (by obtain rfl := nI_end hk hI.1 c8_9; rw [← hI.2, Nat.sub_self]; rfl), ⟨by rw [ht]; exact hP9, va_K.moved hW.alike hK9, hD9⟩⟩, hS.F ht⟩) hS.2.2 dX7_go_28
  · refine lv_aload_n hx hb dX7_go_11 rfl (lv_at hl 0 rfl) ?_
    refine lv_aload_n hx hb dX7_go_12 rfl (lv_at hl 1 rfl) ?_
    have hPc := hP.sub (ws' := [(ra, .inr (12, [.int st_6, .int ce_6, .int sp_6, .int lm_6, .int rm_6, .int fa_6, .ref ta])), (ta, .inl (cI, 1001, .inl f_6)), (mm, .inr (10, [.int he, .int ss, .int gg, .ref la, .int wr, .int tl, .int le, .int fi, .int se, .ref oo, .ref hh])), (oo, .inl (cI, 24, .inl o))]) [0, 1, 2, 3] rfl
    have hDc := hD.sub (ws' := [(ra, .inr (12, [.int st_6, .int ce_6, .int sp_6, .int lm_6, .int rm_6, .int fa_6, .ref ta])), (ta, .inl (cI, 1001, .inl f_6)), (mm, .inr (10, [.int he, .int ss, .int gg, .ref la, .int wr, .int tl, .int le, .int fi, .int se, .ref oo, .ref hh])), (oo, .inl (cI, 24, .inl o))]) [0, 1, 2, 3] (by decide) rfl
    have hKc := hK.sub (tys' := [(cI, .int)]) [0] rfl
    have hFc := va_free (wc := [(ra, .inr (12, [.int st_6, .int ce_6, .int sp_6, .int lm_6, .int rm_6, .int fa_6, .ref ta])), (ta, .inl (cI, 1001, .inl f_6)), (mm, .inr (10, [.int he, .int ss, .int gg, .ref la, .int wr, .int tl, .int le, .int fi, .int se, .ref oo, .ref hh])), (oo, .inl (cI, 24, .inl o))]) hD hS hA [0, 1, 2, 3] rfl
    refine va_calli (va_runV (As := [.ref mm]) (rest := []) ⟨hx, hb, hml, hown, hts⟩ (c_X7_step l dC dI cI ra ta st_6 ce_6 sp_6 lm_6 rm_6 fa_6 f_6 mm oo la hh he ss gg wr tl le fi se o hss hgg  H.size) (cwV 1 hts gX7_go_X7_step rfl rfl rfl (by decide +kernel) ⟨Nat.le_of_ble_eq_true rfl, Nat.le_of_ble_eq_true rfl⟩) (pcV hPc hDc hKc hN (ci := 12) (q0 := 0) rfl rfl) rfl rfl hl.1 rfl (lv_room (Nat.le_of_ble_eq_true rfl)) dX7_go_13 ⟨Nat.le_of_ble_eq_true rfl, Nat.le_of_ble_eq_true rfl⟩) hS (fun q _ h => hFc q h) hFc (fun r_17 u t H1 locs ht hvm hw_18 hB hz1 hk1 hS => ?_)
    obtain ⟨st_10, ce_11, sp_12, lm_13, rm_14, fa_15, f_16⟩ := u
    obtain ⟨hP1, hK1, hD1⟩ := hB
    rw [ht] at hP1
    try dsimp only at hw_18
    obtain ⟨hP, hD⟩ := va_join (wr := []) (w1 := [(ra, .inr (12, [.int st_10, .int ce_11, .int sp_12, .int lm_13, .int rm_14, .int fa_15, .ref ta])), (ta, .inl (cI, 1001, .inl f_16)), (mm, .inr (10, [.int he, .int ss, .int gg, .ref la, .int wr, .int tl, .int le, .int fi, .int se, .ref oo, .ref hh])), (oo, .inl (cI, 24, .inl o))]) hP hD [0, 1, 2, 3] [] rfl rfl (by decide) (by decide) hk1 hFc hP1 hD1
    generalize H1 = H at hP hS ⊢
    have hP : va_P (dC, dI) vwCl [(ra, .inr (12, [.int st_10, .int ce_11, .int sp_12, .int lm_13, .int rm_14, .int fa_15, .ref ta])), (ta, .inl (cI, 1001, .inl f_16)), (mm, .inr (10, [.int he, .int ss, .int gg, .ref la, .int wr, .int tl, .int le, .int fi, .int se, .ref oo, .ref hh])), (oo, .inl (cI, 24, .inl o))] H := hP
    have hD : va_D A [(ra, .inr (12, [.int st_10, .int ce_11, .int sp_12, .int lm_13, .int rm_14, .int fa_15, .ref ta])), (ta, .inl (cI, 1001, .inl f_16)), (mm, .inr (10, [.int he, .int ss, .int gg, .ref la, .int wr, .int tl, .int le, .int fi, .int se, .ref oo, .ref hh])), (oo, .inl (cI, 24, .inl o))] := hD
    refine lv_if_ne (tgt := 22) hx hb dX7_go_16 (by decide) (fun c16_19 => ?_) (fun c16_19 => ?_)
    · obtain ⟨y_20, ey_20⟩ : ∃ y : Int32, y = (nI i_6) + 1 := ⟨_, rfl⟩
      refine lv_iinc (v := y_20) (lv' := [(3, .int y_20), (0, .ref ra), (1, .ref mm), (2, .int (nI k))]) hx hb dX7_go_22 hl (k := 3) rfl (by rw [ey_20]; rfl) (by decide) rfl (fun ls hl => ?_)
      obtain rfl : y_20 = nI (i_6 + 1) := by rw [ey_20]; exact nI_1 _
      refine lv_goto (tgt := 6) hx hb dX7_go_25 (by decide) ?_
      exact ih6 ((i_6 + 1), st_10, ce_11, sp_12, lm_13, rm_14, fa_15, f_16) ⟨nI_step hk hI.1 c8_9, by rw [← hI.2, show k - i_6 = (k - (i_6 + 1)) + 1 from (by have := nI_step hk hI.1 c8_9; omega)]; simp only [goJ, ← hw_18]; rw [if_neg c16_19]⟩ (by have := nI_step hk hI.1 c8_9; show k - (i_6 + 1) < k - i_6; omega) _ _ (hP.sub [0, 1, 2, 3] rfl) (hD.sub [0, 1, 2, 3] (by decide) rfl) hS ls (lv_sub hl [1, 2, 3, 0] rfl)
    · refine lv_goto (tgt := 28) hx hb dX7_go_19 (by decide) ?_
      have hP9 := hP.sub (ws' := [(ra, .inr (12, [.int st_10, .int ce_11, .int sp_12, .int lm_13, .int rm_14, .int fa_15, .ref ta])), (ta, .inl (cI, 1001, .inl f_16)), (mm, .inr (10, [.int he, .int ss, .int gg, .ref la, .int wr, .int tl, .int le, .int fi, .int se, .ref oo, .ref hh])), (oo, .inl (cI, 24, .inl o))]) [0, 1, 2, 3] rfl
      have hD9 := hD.sub (ws' := [(ra, .inr (12, [.int st_10, .int ce_11, .int sp_12, .int lm_13, .int rm_14, .int fa_15, .ref ta])), (ta, .inl (cI, 1001, .inl f_16)), (mm, .inr (10, [.int he, .int ss, .int gg, .ref la, .int wr, .int tl, .int le, .int fi, .int se, .ref oo, .ref hh])), (oo, .inl (cI, 24, .inl o))]) [0, 1, 2, 3] (by decide) rfl
      have hK9 := hK.sub (tys' := [(cI, .int)]) [0] rfl
      exact W.vret hx hb hr (fun t ht hW => ⟨⟨(st_10, ce_11, sp_12, lm_13, rm_14, fa_15, f_16), rfl, (by rw [← hI.2, show k - i_6 = (k - (i_6 + 1)) + 1 from (by have := nI_step hk hI.1 c8_9; omega)]; simp only [goJ, ← hw_18]; rw [if_pos c16_19]), ⟨by rw [ht]; exact hP9, va_K.moved hW.alike hK9, hD9⟩⟩, hS.F ht⟩) hS.2.2 dX7_go_28
