theorem dX6_writeDown_0 : decode cX6_writeDown 0 = .ok (.aload_n 0, 1) := by decide +kernel
theorem dX6_writeDown_1 : decode cX6_writeDown 1 = .ok (.getfield 21, 3) := by decide +kernel
set_option maxRecDepth 20000 in
theorem ggX6_writeDown_X7_begin : GoodIn wsX6_writeDown wsX7_begin := goodIn_r _ [13, 14, 15, 16, 17, 18, 19, 20, 21, 22, 23, 24, 75, 76, 77, 78, 79, 80, 81] rfl (by decide +kernel)
set_option maxRecDepth 20000 in
theorem gX6_writeDown_X7_begin : GoodIn wsX6_writeDown (wsV RX6 60 RX7 yX7_begin wsX7_begin) := goodIn_app (goodIn_of _ (by decide +kernel)) ggX6_writeDown_X7_begin
theorem dX6_writeDown_4 : decode cX6_writeDown 4 = .ok (.invokevirtual 60, 3) := by decide +kernel
theorem dX6_writeDown_7 : decode cX6_writeDown 7 = .ok (.aload_n 0, 1) := by decide +kernel
theorem dX6_writeDown_8 : decode cX6_writeDown 8 = .ok (.iconst 0, 1) := by decide +kernel
theorem dX6_writeDown_9 : decode cX6_writeDown 9 = .ok (.putfield 28, 3) := by decide +kernel
theorem dX6_writeDown_12 : decode cX6_writeDown 12 = .ok (.aload_n 0, 1) := by decide +kernel
theorem dX6_writeDown_13 : decode cX6_writeDown 13 = .ok (.getfield 31, 3) := by decide +kernel
theorem dX6_writeDown_16 : decode cX6_writeDown 16 = .ok (.iconst 0, 1) := by decide +kernel
theorem dX6_writeDown_17 : decode cX6_writeDown 17 = .ok (.iconst 0, 1) := by decide +kernel
set_option maxRecDepth 20000 in
theorem ggX6_writeDown_X11_put : GoodIn wsX6_writeDown wsX11_put := goodIn_ca (goodIn_r _ [27] rfl (by decide +kernel)) (goodIn_sub (fun _ h => List.mem_cons_of_mem _ (List.mem_append_right _ h)) (by decide +kernel))
set_option maxRecDepth 20000 in
theorem gX6_writeDown_X11_put_n63 : GoodIn wsX6_writeDown (wsX11_put) := ggX6_writeDown_X11_put
theorem dX6_writeDown_18 : decode cX6_writeDown 18 = .ok (.invokestatic 63, 3) := by decide +kernel
theorem dX6_writeDown_21 : decode cX6_writeDown 21 = .ok (.aload_n 0, 1) := by decide +kernel
theorem dX6_writeDown_22 : decode cX6_writeDown 22 = .ok (.getfield 35, 3) := by decide +kernel
theorem dX6_writeDown_25 : decode cX6_writeDown 25 = .ok (.iconst 0, 1) := by decide +kernel
theorem dX6_writeDown_26 : decode cX6_writeDown 26 = .ok (.iconst 0, 1) := by decide +kernel
theorem dX6_writeDown_27 : decode cX6_writeDown 27 = .ok (.invokestatic 63, 3) := by decide +kernel
theorem dX6_writeDown_30 : decode cX6_writeDown 30 = .ok (.iconst 0, 1) := by decide +kernel
theorem dX6_writeDown_31 : decode cX6_writeDown 31 = .ok (.istore_n 3, 1) := by decide +kernel
theorem dX6_writeDown_32 : decode cX6_writeDown 32 = .ok (.iload_n 3, 1) := by decide +kernel
theorem dX6_writeDown_33 : decode cX6_writeDown 33 = .ok (.iload_n 2, 1) := by decide +kernel
theorem dX6_writeDown_34 : decode cX6_writeDown 34 = .ok (.if_icmp .ge 105, 3) := by decide +kernel
theorem dX6_writeDown_139 : decode cX6_writeDown 139 = .ok (.return_, 1) := by decide +kernel
theorem dX6_writeDown_37 : decode cX6_writeDown 37 = .ok (.iload_n 3, 1) := by decide +kernel
theorem dX6_writeDown_38 : decode cX6_writeDown 38 = .ok (.sipush 500, 3) := by decide +kernel
theorem dX6_writeDown_41 : decode cX6_writeDown 41 = .ok (.if_icmp .ge 98, 3) := by decide +kernel
theorem dX6_writeDown_44 : decode cX6_writeDown 44 = .ok (.aload_n 0, 1) := by decide +kernel
theorem dX6_writeDown_45 : decode cX6_writeDown 45 = .ok (.getfield 38, 3) := by decide +kernel
theorem dX6_writeDown_48 : decode cX6_writeDown 48 = .ok (.iload_n 3, 1) := by decide +kernel
theorem dX6_writeDown_49 : decode cX6_writeDown 49 = .ok (.aload_n 0, 1) := by decide +kernel
theorem dX6_writeDown_50 : decode cX6_writeDown 50 = .ok (.getfield 21, 3) := by decide +kernel
theorem dX6_writeDown_53 : decode cX6_writeDown 53 = .ok (.aload_n 0, 1) := by decide +kernel
theorem dX6_writeDown_54 : decode cX6_writeDown 54 = .ok (.getfield 21, 3) := by decide +kernel
theorem dX6_writeDown_57 : decode cX6_writeDown 57 = .ok (.getfield 67, 3) := by decide +kernel
set_option maxRecDepth 20000 in
theorem ggX6_writeDown_X7_signOf : GoodIn wsX6_writeDown wsX7_signOf := goodIn_ca (goodIn_r _ [31, 14, 75, 76, 77, 78, 79, 80, 81] rfl (by decide +kernel)) (goodIn_sub (fun _ h => List.mem_cons_of_mem _ (List.mem_append_right _ h)) (by decide +kernel))
set_option maxRecDepth 20000 in
theorem gX6_writeDown_X7_signOf : GoodIn wsX6_writeDown (wsV RX6 70 RX7 yX7_signOf wsX7_signOf) := goodIn_app (goodIn_of _ (by decide +kernel)) ggX6_writeDown_X7_signOf
theorem dX6_writeDown_60 : decode cX6_writeDown 60 = .ok (.invokevirtual 70, 3) := by decide +kernel
theorem dX6_writeDown_63 : decode cX6_writeDown 63 = .ok (.invokestatic 63, 3) := by decide +kernel
theorem dX6_writeDown_66 : decode cX6_writeDown 66 = .ok (.aload_n 0, 1) := by decide +kernel
theorem dX6_writeDown_67 : decode cX6_writeDown 67 = .ok (.getfield 21, 3) := by decide +kernel
theorem dX6_writeDown_70 : decode cX6_writeDown 70 = .ok (.aload_n 1, 1) := by decide +kernel
set_option maxRecDepth 20000 in
theorem ggX6_writeDown_X7_step : GoodIn wsX6_writeDown wsX7_step := goodIn_ca (goodIn_r _ [35, 20, 15, 16, 36, 18, 37, 38, 39, 40, 19, 41, 42, 43, 17, 44, 29, 30, 12, 31, 14, 45, 46, 47, 48, 49, 50, 51, 52, 53, 54, 55, 56, 57, 58, 59, 60, 61, 62, 63, 64, 65, 75, 76, 77, 78, 79, 80, 81, 82, 83, 84, 85, 86, 87, 88, 89, 90, 91, 92] rfl (by decide +kernel)) (goodIn_sub (fun _ h => List.mem_cons_of_mem _ (List.mem_append_right _ h)) (by decide +kernel))
set_option maxRecDepth 20000 in
theorem gX6_writeDown_X7_step : GoodIn wsX6_writeDown (wsV RX6 74 RX7 yX7_step wsX7_step) := goodIn_app (goodIn_of _ (by decide +kernel)) ggX6_writeDown_X7_step
theorem dX6_writeDown_71 : decode cX6_writeDown 71 = .ok (.invokevirtual 74, 3) := by decide +kernel
theorem dX6_writeDown_74 : decode cX6_writeDown 74 = .ok (.ifCond .eq 65, 3) := by decide +kernel
theorem dX6_writeDown_77 : decode cX6_writeDown 77 = .ok (.aload_n 0, 1) := by decide +kernel
theorem dX6_writeDown_78 : decode cX6_writeDown 78 = .ok (.getfield 21, 3) := by decide +kernel
theorem dX6_writeDown_81 : decode cX6_writeDown 81 = .ok (.getfield 78, 3) := by decide +kernel
theorem dX6_writeDown_84 : decode cX6_writeDown 84 = .ok (.ifCond .eq 6, 3) := by decide +kernel
theorem dX6_writeDown_90 : decode cX6_writeDown 90 = .ok (.aload_n 0, 1) := by decide +kernel
theorem dX6_writeDown_91 : decode cX6_writeDown 91 = .ok (.iload_n 3, 1) := by decide +kernel
theorem dX6_writeDown_92 : decode cX6_writeDown 92 = .ok (.iconst 1, 1) := by decide +kernel
theorem dX6_writeDown_93 : decode cX6_writeDown 93 = .ok (.iadd, 1) := by decide +kernel
theorem dX6_writeDown_94 : decode cX6_writeDown 94 = .ok (.putfield 28, 3) := by decide +kernel
theorem dX6_writeDown_97 : decode cX6_writeDown 97 = .ok (.aload_n 0, 1) := by decide +kernel
theorem dX6_writeDown_98 : decode cX6_writeDown 98 = .ok (.getfield 31, 3) := by decide +kernel
theorem dX6_writeDown_101 : decode cX6_writeDown 101 = .ok (.aload_n 0, 1) := by decide +kernel
theorem dX6_writeDown_102 : decode cX6_writeDown 102 = .ok (.getfield 28, 3) := by decide +kernel
theorem dX6_writeDown_105 : decode cX6_writeDown 105 = .ok (.aload_n 0, 1) := by decide +kernel
theorem dX6_writeDown_106 : decode cX6_writeDown 106 = .ok (.getfield 21, 3) := by decide +kernel
theorem dX6_writeDown_109 : decode cX6_writeDown 109 = .ok (.getfield 67, 3) := by decide +kernel
theorem dX6_writeDown_112 : decode cX6_writeDown 112 = .ok (.invokestatic 63, 3) := by decide +kernel
theorem dX6_writeDown_115 : decode cX6_writeDown 115 = .ok (.aload_n 0, 1) := by decide +kernel
theorem dX6_writeDown_116 : decode cX6_writeDown 116 = .ok (.getfield 35, 3) := by decide +kernel
theorem dX6_writeDown_119 : decode cX6_writeDown 119 = .ok (.aload_n 0, 1) := by decide +kernel
theorem dX6_writeDown_120 : decode cX6_writeDown 120 = .ok (.getfield 28, 3) := by decide +kernel
theorem dX6_writeDown_123 : decode cX6_writeDown 123 = .ok (.aload_n 0, 1) := by decide +kernel
theorem dX6_writeDown_124 : decode cX6_writeDown 124 = .ok (.getfield 21, 3) := by decide +kernel
theorem dX6_writeDown_127 : decode cX6_writeDown 127 = .ok (.getfield 82, 3) := by decide +kernel
theorem dX6_writeDown_130 : decode cX6_writeDown 130 = .ok (.invokestatic 63, 3) := by decide +kernel
theorem dX6_writeDown_133 : decode cX6_writeDown 133 = .ok (.iinc 3 1, 3) := by decide +kernel
theorem dX6_writeDown_136 : decode cX6_writeDown 136 = .ok (.goto (-104), 3) := by decide +kernel
theorem dX6_periodAtEnd_0 : decode cX6_periodAtEnd 0 = .ok (.aload_n 0, 1) := by decide +kernel
theorem dX6_periodAtEnd_1 : decode cX6_periodAtEnd 1 = .ok (.getfield 25, 3) := by decide +kernel
theorem dX6_periodAtEnd_4 : decode cX6_periodAtEnd 4 = .ok (.aload_n 0, 1) := by decide +kernel
theorem dX6_periodAtEnd_5 : decode cX6_periodAtEnd 5 = .ok (.getfield 21, 3) := by decide +kernel
set_option maxRecDepth 20000 in
theorem ggX6_periodAtEnd_X7_takeTape : GoodIn wsX6_periodAtEnd wsX7_takeTape := goodIn_r _ [13, 14, 15, 16, 17, 18, 39, 40, 41, 42, 43, 44, 45] rfl (by decide +kernel)
set_option maxRecDepth 20000 in
theorem gX6_periodAtEnd_X7_takeTape : GoodIn wsX6_periodAtEnd (wsV RX6 85 RX7 yX7_takeTape wsX7_takeTape) := goodIn_app (goodIn_of _ (by decide +kernel)) ggX6_periodAtEnd_X7_takeTape
theorem dX6_periodAtEnd_8 : decode cX6_periodAtEnd 8 = .ok (.invokevirtual 85, 3) := by decide +kernel
theorem dX6_periodAtEnd_11 : decode cX6_periodAtEnd 11 = .ok (.iconst 0, 1) := by decide +kernel
theorem dX6_periodAtEnd_12 : decode cX6_periodAtEnd 12 = .ok (.istore_n 1, 1) := by decide +kernel
theorem dX6_periodAtEnd_13 : decode cX6_periodAtEnd 13 = .ok (.aload_n 0, 1) := by decide +kernel
theorem dX6_periodAtEnd_14 : decode cX6_periodAtEnd 14 = .ok (.getfield 28, 3) := by decide +kernel
theorem dX6_periodAtEnd_17 : decode cX6_periodAtEnd 17 = .ok (.iconst 1, 1) := by decide +kernel
theorem dX6_periodAtEnd_18 : decode cX6_periodAtEnd 18 = .ok (.isub, 1) := by decide +kernel
theorem dX6_periodAtEnd_19 : decode cX6_periodAtEnd 19 = .ok (.istore_n 2, 1) := by decide +kernel
theorem dX6_periodAtEnd_20 : decode cX6_periodAtEnd 20 = .ok (.iload_n 2, 1) := by decide +kernel
theorem dX6_periodAtEnd_21 : decode cX6_periodAtEnd 21 = .ok (.ifCond .lt 128, 3) := by decide +kernel
theorem dX6_periodAtEnd_149 : decode cX6_periodAtEnd 149 = .ok (.iconst 0, 1) := by decide +kernel
theorem dX6_periodAtEnd_150 : decode cX6_periodAtEnd 150 = .ok (.ireturn, 1) := by decide +kernel
theorem dX6_periodAtEnd_24 : decode cX6_periodAtEnd 24 = .ok (.aload_n 0, 1) := by decide +kernel
theorem dX6_periodAtEnd_25 : decode cX6_periodAtEnd 25 = .ok (.getfield 31, 3) := by decide +kernel
theorem dX6_periodAtEnd_28 : decode cX6_periodAtEnd 28 = .ok (.iload_n 2, 1) := by decide +kernel
set_option maxRecDepth 20000 in
theorem ggX6_periodAtEnd_X11_at : GoodIn wsX6_periodAtEnd wsX11_at := goodIn_ca (goodIn_r _ [21] rfl (by decide +kernel)) (goodIn_sub (fun _ h => List.mem_cons_of_mem _ (List.mem_append_right _ h)) (by decide +kernel))
set_option maxRecDepth 20000 in
theorem gX6_periodAtEnd_X11_at_n89 : GoodIn wsX6_periodAtEnd (wsX11_at) := ggX6_periodAtEnd_X11_at
theorem dX6_periodAtEnd_29 : decode cX6_periodAtEnd 29 = .ok (.invokestatic 89, 3) := by decide +kernel
theorem dX6_periodAtEnd_32 : decode cX6_periodAtEnd 32 = .ok (.istore_n 3, 1) := by decide +kernel
theorem dX6_periodAtEnd_33 : decode cX6_periodAtEnd 33 = .ok (.iload_n 1, 1) := by decide +kernel
theorem dX6_periodAtEnd_34 : decode cX6_periodAtEnd 34 = .ok (.aload_n 0, 1) := by decide +kernel
theorem dX6_periodAtEnd_35 : decode cX6_periodAtEnd 35 = .ok (.getfield 25, 3) := by decide +kernel
theorem dX6_periodAtEnd_38 : decode cX6_periodAtEnd 38 = .ok (.iload_n 3, 1) := by decide +kernel
set_option maxRecDepth 20000 in
theorem ggX6_periodAtEnd_X7_signOf : GoodIn wsX6_periodAtEnd wsX7_signOf := goodIn_ca (goodIn_r _ [25, 14, 39, 40, 41, 42, 43, 44, 45] rfl (by decide +kernel)) (goodIn_sub (fun _ h => List.mem_cons_of_mem _ (List.mem_append_right _ h)) (by decide +kernel))
set_option maxRecDepth 20000 in
theorem gX6_periodAtEnd_X7_signOf : GoodIn wsX6_periodAtEnd (wsV RX6 70 RX7 yX7_signOf wsX7_signOf) := goodIn_app (goodIn_of _ (by decide +kernel)) ggX6_periodAtEnd_X7_signOf
theorem dX6_periodAtEnd_39 : decode cX6_periodAtEnd 39 = .ok (.invokevirtual 70, 3) := by decide +kernel
theorem dX6_periodAtEnd_42 : decode cX6_periodAtEnd 42 = .ok (.aload_n 0, 1) := by decide +kernel
theorem dX6_periodAtEnd_43 : decode cX6_periodAtEnd 43 = .ok (.getfield 21, 3) := by decide +kernel
theorem dX6_periodAtEnd_46 : decode cX6_periodAtEnd 46 = .ok (.iload_n 3, 1) := by decide +kernel
theorem dX6_periodAtEnd_47 : decode cX6_periodAtEnd 47 = .ok (.invokevirtual 70, 3) := by decide +kernel
theorem dX6_periodAtEnd_50 : decode cX6_periodAtEnd 50 = .ok (.if_icmp .ne 7, 3) := by decide +kernel
theorem dX6_periodAtEnd_57 : decode cX6_periodAtEnd 57 = .ok (.iconst 1, 1) := by decide +kernel
theorem dX6_periodAtEnd_58 : decode cX6_periodAtEnd 58 = .ok (.isub, 1) := by decide +kernel
theorem dX6_periodAtEnd_59 : decode cX6_periodAtEnd 59 = .ok (.istore_n 1, 1) := by decide +kernel
theorem dX6_periodAtEnd_60 : decode cX6_periodAtEnd 60 = .ok (.aload_n 0, 1) := by decide +kernel
theorem dX6_periodAtEnd_61 : decode cX6_periodAtEnd 61 = .ok (.getfield 25, 3) := by decide +kernel
theorem dX6_periodAtEnd_64 : decode cX6_periodAtEnd 64 = .ok (.iload_n 3, 1) := by decide +kernel
theorem dX6_periodAtEnd_65 : decode cX6_periodAtEnd 65 = .ok (.aload_n 0, 1) := by decide +kernel
theorem dX6_periodAtEnd_66 : decode cX6_periodAtEnd 66 = .ok (.getfield 38, 3) := by decide +kernel
theorem dX6_periodAtEnd_69 : decode cX6_periodAtEnd 69 = .ok (.iload_n 2, 1) := by decide +kernel
theorem dX6_periodAtEnd_70 : decode cX6_periodAtEnd 70 = .ok (.invokestatic 89, 3) := by decide +kernel
set_option maxRecDepth 20000 in
theorem ggX6_periodAtEnd_X7_write : GoodIn wsX6_periodAtEnd wsX7_write := goodIn_ca (goodIn_r _ [29, 14, 39, 40, 41, 42, 43, 44, 45] rfl (by decide +kernel)) (goodIn_sub (fun _ h => List.mem_cons_of_mem _ (List.mem_append_right _ h)) (by decide +kernel))
set_option maxRecDepth 20000 in
theorem gX6_periodAtEnd_X7_write : GoodIn wsX6_periodAtEnd (wsV RX6 93 RX7 yX7_write wsX7_write) := goodIn_app (goodIn_of _ (by decide +kernel)) ggX6_periodAtEnd_X7_write
theorem dX6_periodAtEnd_73 : decode cX6_periodAtEnd 73 = .ok (.invokevirtual 93, 3) := by decide +kernel
theorem dX6_periodAtEnd_76 : decode cX6_periodAtEnd 76 = .ok (.iload_n 1, 1) := by decide +kernel
theorem dX6_periodAtEnd_77 : decode cX6_periodAtEnd 77 = .ok (.aload_n 0, 1) := by decide +kernel
theorem dX6_periodAtEnd_78 : decode cX6_periodAtEnd 78 = .ok (.getfield 25, 3) := by decide +kernel
theorem dX6_periodAtEnd_81 : decode cX6_periodAtEnd 81 = .ok (.iload_n 3, 1) := by decide +kernel
theorem dX6_periodAtEnd_82 : decode cX6_periodAtEnd 82 = .ok (.invokevirtual 70, 3) := by decide +kernel
theorem dX6_periodAtEnd_85 : decode cX6_periodAtEnd 85 = .ok (.aload_n 0, 1) := by decide +kernel
theorem dX6_periodAtEnd_86 : decode cX6_periodAtEnd 86 = .ok (.getfield 21, 3) := by decide +kernel
theorem dX6_periodAtEnd_89 : decode cX6_periodAtEnd 89 = .ok (.iload_n 3, 1) := by decide +kernel
theorem dX6_periodAtEnd_90 : decode cX6_periodAtEnd 90 = .ok (.invokevirtual 70, 3) := by decide +kernel
theorem dX6_periodAtEnd_93 : decode cX6_periodAtEnd 93 = .ok (.if_icmp .ne 7, 3) := by decide +kernel
theorem dX6_periodAtEnd_100 : decode cX6_periodAtEnd 100 = .ok (.iconst 1, 1) := by decide +kernel
theorem dX6_periodAtEnd_101 : decode cX6_periodAtEnd 101 = .ok (.iadd, 1) := by decide +kernel
theorem dX6_periodAtEnd_102 : decode cX6_periodAtEnd 102 = .ok (.istore_n 1, 1) := by decide +kernel
theorem dX6_periodAtEnd_103 : decode cX6_periodAtEnd 103 = .ok (.iload_n 1, 1) := by decide +kernel
theorem dX6_periodAtEnd_104 : decode cX6_periodAtEnd 104 = .ok (.ifCond .ne 39, 3) := by decide +kernel
theorem dX6_periodAtEnd_143 : decode cX6_periodAtEnd 143 = .ok (.iinc 2 (-1), 3) := by decide +kernel
theorem dX6_periodAtEnd_146 : decode cX6_periodAtEnd 146 = .ok (.goto (-126), 3) := by decide +kernel
theorem dX6_periodAtEnd_107 : decode cX6_periodAtEnd 107 = .ok (.iload_n 3, 1) := by decide +kernel
theorem dX6_periodAtEnd_108 : decode cX6_periodAtEnd 108 = .ok (.aload_n 0, 1) := by decide +kernel
theorem dX6_periodAtEnd_109 : decode cX6_periodAtEnd 109 = .ok (.getfield 21, 3) := by decide +kernel
theorem dX6_periodAtEnd_112 : decode cX6_periodAtEnd 112 = .ok (.getfield 67, 3) := by decide +kernel
theorem dX6_periodAtEnd_115 : decode cX6_periodAtEnd 115 = .ok (.if_icmp .ne 28, 3) := by decide +kernel
theorem dX6_periodAtEnd_118 : decode cX6_periodAtEnd 118 = .ok (.aload_n 0, 1) := by decide +kernel
theorem dX6_periodAtEnd_119 : decode cX6_periodAtEnd 119 = .ok (.getfield 35, 3) := by decide +kernel
theorem dX6_periodAtEnd_122 : decode cX6_periodAtEnd 122 = .ok (.iload_n 2, 1) := by decide +kernel
theorem dX6_periodAtEnd_123 : decode cX6_periodAtEnd 123 = .ok (.invokestatic 89, 3) := by decide +kernel
theorem dX6_periodAtEnd_126 : decode cX6_periodAtEnd 126 = .ok (.aload_n 0, 1) := by decide +kernel
theorem dX6_periodAtEnd_127 : decode cX6_periodAtEnd 127 = .ok (.getfield 21, 3) := by decide +kernel
theorem dX6_periodAtEnd_130 : decode cX6_periodAtEnd 130 = .ok (.getfield 82, 3) := by decide +kernel
theorem dX6_periodAtEnd_133 : decode cX6_periodAtEnd 133 = .ok (.if_icmp .ne 10, 3) := by decide +kernel
theorem dX6_periodAtEnd_136 : decode cX6_periodAtEnd 136 = .ok (.aload_n 0, 1) := by decide +kernel
theorem dX6_periodAtEnd_137 : decode cX6_periodAtEnd 137 = .ok (.getfield 28, 3) := by decide +kernel
theorem dX6_periodAtEnd_140 : decode cX6_periodAtEnd 140 = .ok (.iload_n 2, 1) := by decide +kernel
theorem dX6_periodAtEnd_141 : decode cX6_periodAtEnd 141 = .ok (.isub, 1) := by decide +kernel
theorem dX6_periodAtEnd_142 : decode cX6_periodAtEnd 142 = .ok (.ireturn, 1) := by decide +kernel
theorem dX6_periodAtEnd_96 : decode cX6_periodAtEnd 96 = .ok (.iconst 0, 1) := by decide +kernel
theorem dX6_periodAtEnd_97 : decode cX6_periodAtEnd 97 = .ok (.goto 4, 3) := by decide +kernel
theorem dX6_periodAtEnd_53 : decode cX6_periodAtEnd 53 = .ok (.iconst 0, 1) := by decide +kernel
theorem dX6_periodAtEnd_54 : decode cX6_periodAtEnd 54 = .ok (.goto 4, 3) := by decide +kernel
theorem dX6_leastStart_0 : decode cX6_leastStart 0 = .ok (.aload_n 0, 1) := by decide +kernel
theorem dX6_leastStart_1 : decode cX6_leastStart 1 = .ok (.getfield 25, 3) := by decide +kernel
set_option maxRecDepth 20000 in
theorem ggX6_leastStart_X7_begin : GoodIn wsX6_leastStart wsX7_begin := goodIn_r _ [8, 9, 10, 11, 12, 13, 14, 15, 16, 17, 18, 19, 70, 71, 72, 73, 74, 75, 76] rfl (by decide +kernel)
set_option maxRecDepth 20000 in
theorem gX6_leastStart_X7_begin : GoodIn wsX6_leastStart (wsV RX6 60 RX7 yX7_begin wsX7_begin) := goodIn_app (goodIn_of _ (by decide +kernel)) ggX6_leastStart_X7_begin
theorem dX6_leastStart_4 : decode cX6_leastStart 4 = .ok (.invokevirtual 60, 3) := by decide +kernel
theorem dX6_leastStart_7 : decode cX6_leastStart 7 = .ok (.aload_n 0, 1) := by decide +kernel
theorem dX6_leastStart_8 : decode cX6_leastStart 8 = .ok (.getfield 21, 3) := by decide +kernel
theorem dX6_leastStart_11 : decode cX6_leastStart 11 = .ok (.invokevirtual 60, 3) := by decide +kernel
theorem dX6_leastStart_14 : decode cX6_leastStart 14 = .ok (.iconst 0, 1) := by decide +kernel
theorem dX6_leastStart_15 : decode cX6_leastStart 15 = .ok (.istore_n 3, 1) := by decide +kernel
theorem dX6_leastStart_16 : decode cX6_leastStart 16 = .ok (.iload_n 3, 1) := by decide +kernel
theorem dX6_leastStart_17 : decode cX6_leastStart 17 = .ok (.iload_n 2, 1) := by decide +kernel
theorem dX6_leastStart_18 : decode cX6_leastStart 18 = .ok (.if_icmp .ge 18, 3) := by decide +kernel
theorem dX6_leastStart_36 : decode cX6_leastStart 36 = .ok (.iconst 0, 1) := by decide +kernel
theorem dX6_leastStart_37 : decode cX6_leastStart 37 = .ok (.istore_n 3, 1) := by decide +kernel
theorem dX6_leastStart_38 : decode cX6_leastStart 38 = .ok (.iload_n 3, 1) := by decide +kernel
theorem dX6_leastStart_39 : decode cX6_leastStart 39 = .ok (.iload_n 2, 1) := by decide +kernel
theorem dX6_leastStart_40 : decode cX6_leastStart 40 = .ok (.iadd, 1) := by decide +kernel
theorem dX6_leastStart_41 : decode cX6_leastStart 41 = .ok (.aload_n 0, 1) := by decide +kernel
theorem dX6_leastStart_42 : decode cX6_leastStart 42 = .ok (.getfield 28, 3) := by decide +kernel
theorem dX6_leastStart_45 : decode cX6_leastStart 45 = .ok (.if_icmp .ge 41, 3) := by decide +kernel
theorem dX6_leastStart_86 : decode cX6_leastStart 86 = .ok (.iload_n 3, 1) := by decide +kernel
theorem dX6_leastStart_87 : decode cX6_leastStart 87 = .ok (.ireturn, 1) := by decide +kernel
theorem dX6_leastStart_48 : decode cX6_leastStart 48 = .ok (.aload_n 0, 1) := by decide +kernel
theorem dX6_leastStart_49 : decode cX6_leastStart 49 = .ok (.getfield 21, 3) := by decide +kernel
theorem dX6_leastStart_52 : decode cX6_leastStart 52 = .ok (.aload_n 0, 1) := by decide +kernel
theorem dX6_leastStart_53 : decode cX6_leastStart 53 = .ok (.getfield 25, 3) := by decide +kernel
set_option maxRecDepth 20000 in
theorem ggX6_leastStart_X7_isAs : GoodIn wsX6_leastStart wsX7_isAs := goodIn_ca (goodIn_r _ [60, 10, 11, 13, 25, 26, 27, 28, 14, 29, 30, 31, 32, 33, 34, 7, 35, 9, 70, 71, 72, 73, 74, 75, 76] rfl (by decide +kernel)) (goodIn_sub (fun _ h => List.mem_cons_of_mem _ (List.mem_append_right _ h)) (by decide +kernel))
set_option maxRecDepth 20000 in
theorem gX6_leastStart_X7_isAs : GoodIn wsX6_leastStart (wsV RX6 97 RX7 yX7_isAs wsX7_isAs) := goodIn_app (goodIn_of _ (by decide +kernel)) ggX6_leastStart_X7_isAs
theorem dX6_leastStart_56 : decode cX6_leastStart 56 = .ok (.invokevirtual 97, 3) := by decide +kernel
theorem dX6_leastStart_59 : decode cX6_leastStart 59 = .ok (.ifCond .ne 27, 3) := by decide +kernel
theorem dX6_leastStart_62 : decode cX6_leastStart 62 = .ok (.aload_n 0, 1) := by decide +kernel
theorem dX6_leastStart_63 : decode cX6_leastStart 63 = .ok (.getfield 25, 3) := by decide +kernel
theorem dX6_leastStart_66 : decode cX6_leastStart 66 = .ok (.aload_n 1, 1) := by decide +kernel
set_option maxRecDepth 20000 in
theorem ggX6_leastStart_X7_step : GoodIn wsX6_leastStart wsX7_step := goodIn_ca (goodIn_r _ [23, 15, 10, 11, 24, 13, 25, 26, 27, 28, 14, 29, 30, 31, 12, 32, 33, 34, 7, 35, 9, 36, 37, 38, 39, 40, 41, 42, 43, 44, 45, 46, 47, 48, 49, 50, 51, 52, 53, 54, 55, 56, 70, 71, 72, 73, 74, 75, 76, 77, 78, 79, 80, 81, 82, 83, 84, 85, 86, 87] rfl (by decide +kernel)) (goodIn_sub (fun _ h => List.mem_cons_of_mem _ (List.mem_append_right _ h)) (by decide +kernel))
set_option maxRecDepth 20000 in
theorem gX6_leastStart_X7_step : GoodIn wsX6_leastStart (wsV RX6 74 RX7 yX7_step wsX7_step) := goodIn_app (goodIn_of _ (by decide +kernel)) ggX6_leastStart_X7_step
theorem dX6_leastStart_67 : decode cX6_leastStart 67 = .ok (.invokevirtual 74, 3) := by decide +kernel
theorem dX6_leastStart_70 : decode cX6_leastStart 70 = .ok (.pop, 1) := by decide +kernel
theorem dX6_leastStart_71 : decode cX6_leastStart 71 = .ok (.aload_n 0, 1) := by decide +kernel
theorem dX6_leastStart_72 : decode cX6_leastStart 72 = .ok (.getfield 21, 3) := by decide +kernel
theorem dX6_leastStart_75 : decode cX6_leastStart 75 = .ok (.aload_n 1, 1) := by decide +kernel
theorem dX6_leastStart_76 : decode cX6_leastStart 76 = .ok (.invokevirtual 74, 3) := by decide +kernel
theorem dX6_leastStart_79 : decode cX6_leastStart 79 = .ok (.pop, 1) := by decide +kernel
theorem dX6_leastStart_80 : decode cX6_leastStart 80 = .ok (.iinc 3 1, 3) := by decide +kernel
theorem dX6_leastStart_83 : decode cX6_leastStart 83 = .ok (.goto (-45), 3) := by decide +kernel
theorem dX6_leastStart_21 : decode cX6_leastStart 21 = .ok (.aload_n 0, 1) := by decide +kernel
theorem dX6_leastStart_22 : decode cX6_leastStart 22 = .ok (.getfield 21, 3) := by decide +kernel
theorem dX6_leastStart_25 : decode cX6_leastStart 25 = .ok (.aload_n 1, 1) := by decide +kernel
theorem dX6_leastStart_26 : decode cX6_leastStart 26 = .ok (.invokevirtual 74, 3) := by decide +kernel
theorem dX6_leastStart_29 : decode cX6_leastStart 29 = .ok (.pop, 1) := by decide +kernel
theorem dX6_leastStart_30 : decode cX6_leastStart 30 = .ok (.iinc 3 1, 3) := by decide +kernel
theorem dX6_leastStart_33 : decode cX6_leastStart 33 = .ok (.goto (-17), 3) := by decide +kernel
theorem dX6_comesBack_0 : decode cX6_comesBack 0 = .ok (.aload_n 0, 1) := by decide +kernel
theorem dX6_comesBack_1 : decode cX6_comesBack 1 = .ok (.aload_n 1, 1) := by decide +kernel
theorem dX6_comesBack_2 : decode cX6_comesBack 2 = .ok (.iload_n 2, 1) := by decide +kernel
set_option maxRecDepth 20000 in
theorem ggX6_comesBack_X6_writeDown : GoodIn wsX6_comesBack wsX6_writeDown := goodIn_ca (goodIn_r _ [8, 9, 1, 10, 11, 12, 13, 14, 15, 16, 17, 18, 19, 20, 21, 22, 23, 24, 25, 26, 27, 28, 29, 30, 31, 32, 33, 34, 35, 36, 37, 38, 39, 40, 41, 42, 43, 44, 45, 46, 47, 48, 49, 50, 51, 52, 53, 54, 55, 56, 57, 58, 59, 60, 61, 62, 63, 64, 65, 66, 67, 68, 69, 70, 71, 72, 97, 98, 99, 100, 101, 102, 103, 104, 105, 106, 107, 108, 109, 110, 111, 112, 113, 114, 115, 116, 117, 118, 119, 120, 121, 122, 123] rfl (by decide +kernel)) (goodIn_sub (fun _ h => List.mem_cons_of_mem _ (List.mem_append_right _ h)) (by decide +kernel))
set_option maxRecDepth 20000 in
theorem gX6_comesBack_X6_writeDown : GoodIn wsX6_comesBack (wsV RX6 44 RX6 yX6_writeDown wsX6_writeDown) := goodIn_app (goodIn_of _ (by decide +kernel)) ggX6_comesBack_X6_writeDown
theorem dX6_comesBack_3 : decode cX6_comesBack 3 = .ok (.invokevirtual 44, 3) := by decide +kernel
theorem dX6_comesBack_6 : decode cX6_comesBack 6 = .ok (.aload_n 0, 1) := by decide +kernel
theorem dX6_comesBack_7 : decode cX6_comesBack 7 = .ok (.getfield 28, 3) := by decide +kernel
theorem dX6_comesBack_10 : decode cX6_comesBack 10 = .ok (.iload_n 2, 1) := by decide +kernel
theorem dX6_comesBack_11 : decode cX6_comesBack 11 = .ok (.if_icmp .ge 5, 3) := by decide +kernel
theorem dX6_comesBack_16 : decode cX6_comesBack 16 = .ok (.aload_n 0, 1) := by decide +kernel
set_option maxRecDepth 20000 in
theorem ggX6_comesBack_X6_periodAtEnd : GoodIn wsX6_comesBack wsX6_periodAtEnd := goodIn_ca (goodIn_r _ [76, 77, 9, 1, 10, 12, 13, 11, 15, 78, 79, 80, 19, 81, 21, 82, 83, 84, 85, 86, 33, 87, 35, 36, 37, 38, 88, 67, 68, 69, 97, 98, 99, 100, 101, 102, 103, 104, 105, 106, 107, 108, 109, 110, 111, 112] rfl (by decide +kernel)) (goodIn_sub (fun _ h => List.mem_cons_of_mem _ (List.mem_append_right _ h)) (by decide +kernel))
set_option maxRecDepth 20000 in
theorem gX6_comesBack_X6_periodAtEnd : GoodIn wsX6_comesBack (wsV RX6 48 RX6 yX6_periodAtEnd wsX6_periodAtEnd) := goodIn_app (goodIn_of _ (by decide +kernel)) ggX6_comesBack_X6_periodAtEnd
theorem dX6_comesBack_17 : decode cX6_comesBack 17 = .ok (.invokevirtual 48, 3) := by decide +kernel
theorem dX6_comesBack_20 : decode cX6_comesBack 20 = .ok (.istore_n 3, 1) := by decide +kernel
theorem dX6_comesBack_21 : decode cX6_comesBack 21 = .ok (.iload_n 3, 1) := by decide +kernel
theorem dX6_comesBack_22 : decode cX6_comesBack 22 = .ok (.ifCond .ne 5, 3) := by decide +kernel
theorem dX6_comesBack_27 : decode cX6_comesBack 27 = .ok (.aload_n 0, 1) := by decide +kernel
theorem dX6_comesBack_28 : decode cX6_comesBack 28 = .ok (.aload_n 0, 1) := by decide +kernel
theorem dX6_comesBack_29 : decode cX6_comesBack 29 = .ok (.aload_n 1, 1) := by decide +kernel
theorem dX6_comesBack_30 : decode cX6_comesBack 30 = .ok (.iload_n 3, 1) := by decide +kernel
set_option maxRecDepth 20000 in
theorem ggX6_comesBack_X6_leastStart : GoodIn wsX6_comesBack wsX6_leastStart := goodIn_ca (goodIn_r _ [92, 77, 9, 1, 16, 17, 18, 19, 20, 21, 22, 23, 24, 25, 26, 27, 28, 29, 30, 31, 39, 40, 41, 42, 43, 44, 45, 46, 47, 48, 49, 50, 51, 36, 37, 38, 52, 53, 54, 55, 56, 57, 58, 59, 60, 61, 62, 63, 64, 65, 66, 67, 68, 69, 70, 71, 72, 93, 94, 95, 96, 97, 98, 99, 100, 101, 102, 103, 104, 105, 106, 107, 108, 109, 110, 111, 112, 113, 114, 115, 116, 117, 118, 119, 120, 121, 122, 123] rfl (by decide +kernel)) (goodIn_sub (fun _ h => List.mem_cons_of_mem _ (List.mem_append_right _ h)) (by decide +kernel))
set_option maxRecDepth 20000 in
theorem gX6_comesBack_X6_leastStart : GoodIn wsX6_comesBack (wsV RX6 52 RX6 yX6_leastStart wsX6_leastStart) := goodIn_app (goodIn_of _ (by decide +kernel)) ggX6_comesBack_X6_leastStart
theorem dX6_comesBack_31 : decode cX6_comesBack 31 = .ok (.invokevirtual 52, 3) := by decide +kernel
theorem dX6_comesBack_34 : decode cX6_comesBack 34 = .ok (.putfield 9, 3) := by decide +kernel
theorem dX6_comesBack_37 : decode cX6_comesBack 37 = .ok (.aload_n 0, 1) := by decide +kernel
theorem dX6_comesBack_38 : decode cX6_comesBack 38 = .ok (.iload_n 3, 1) := by decide +kernel
theorem dX6_comesBack_39 : decode cX6_comesBack 39 = .ok (.putfield 15, 3) := by decide +kernel
theorem dX6_comesBack_42 : decode cX6_comesBack 42 = .ok (.iconst 1, 1) := by decide +kernel
theorem dX6_comesBack_43 : decode cX6_comesBack 43 = .ok (.ireturn, 1) := by decide +kernel
theorem dX6_comesBack_25 : decode cX6_comesBack 25 = .ok (.iconst 0, 1) := by decide +kernel
theorem dX6_comesBack_26 : decode cX6_comesBack 26 = .ok (.ireturn, 1) := by decide +kernel
theorem dX6_comesBack_14 : decode cX6_comesBack 14 = .ok (.iconst 0, 1) := by decide +kernel
theorem dX6_comesBack_15 : decode cX6_comesBack 15 = .ok (.ireturn, 1) := by decide +kernel
set_option maxHeartbeats 4000000 in
set_option maxRecDepth 100000 in
/-- X6_writeDown -/
theorem c_X6_writeDown (l : Launch) (dC : Nat → ClassId) (dI : Nat → Nat → Nat) (cI : ClassId) (ro rn rh ca sa da xa tn th : Nat) (f6 s6 : Int32) (l6 : Int32) (st ce sp lm rm fa : Int32) (nf : Nat → Int32) (cf gf df : Nat → Int32) (mm oo la hh : Nat) (wr tl le fi se : Int32) (S : Nat) (T o : Nat → Int32) (hm : mJ S o T) (k : Nat) (hk : k ≤ 500) (sz : Nat) : Met l yX6_writeDown wsX6_writeDown ({ frames := 2, cells := 0, slots := 0, locals := 48 }) (va_Pc [.ref ro, .ref mm, .int (nI k)] (cPC dC dI [(ro, .inr (11, [.int f6, .int s6, .ref rn, .ref rh, .int l6, .ref ca, .ref sa, .ref da, .ref xa])), (rn, .inr (12, [.int st, .int ce, .int sp, .int lm, .int rm, .int fa, .ref tn])), (tn, .inl (cI, 1001, .inl nf)), (ca, .inl (cI, 501, .inl cf)), (sa, .inl (cI, 501, .inl gf)), (da, .inl (cI, 501, .inl df)), (mm, .inr (10, [.int 0, .int 2, .int 2, .ref la, .int wr, .int tl, .int le, .int fi, .int se, .ref oo, .ref hh])), (oo, .inl (cI, 24, .inl o))] [(cI, .int)] sz)) (va_Qv (fun (u : RunS × (Nat → Int32) × (Nat → Int32) × (Nat → Int32)) => relJ u.1 (seqR (nI 2) (cW T) (cM T) (cN T) (lnT T k)) ∧ wdP T (lnT T k) u.2.1 u.2.2.1 u.2.2.2) (fun (u : RunS × (Nat → Int32) × (Nat → Int32) × (Nat → Int32)) t => cQB dC dI [(ro, .inr (11, [.int f6, .int s6, .ref rn, .ref rh, .int (nI (lnT T k)), .ref ca, .ref sa, .ref da, .ref xa])), (rn, .inr (12, [.int u.1.1, .int u.1.2.1, .int u.1.2.2.1, .int u.1.2.2.2.1, .int u.1.2.2.2.2.1, .int u.1.2.2.2.2.2.1, .ref tn])), (tn, .inl (cI, 1001, .inl u.1.2.2.2.2.2.2)), (ca, .inl (cI, 501, .inl u.2.1)), (sa, .inl (cI, 501, .inl u.2.2.1)), (da, .inl (cI, 501, .inl u.2.2.2)), (mm, .inr (10, [.int 0, .int 2, .int 2, .ref la, .int wr, .int tl, .int le, .int fi, .int se, .ref oo, .ref hh])), (oo, .inl (cI, 24, .inl o))] [(cI, .int)] (va_A [(ro, .inr (11, [.int f6, .int s6, .ref rn, .ref rh, .int l6, .ref ca, .ref sa, .ref da, .ref xa])), (rn, .inr (12, [.int st, .int ce, .int sp, .int lm, .int rm, .int fa, .ref tn])), (tn, .inl (cI, 1001, .inl nf)), (ca, .inl (cI, 501, .inl cf)), (sa, .inl (cI, 501, .inl gf)), (da, .inl (cI, 501, .inl df)), (mm, .inr (10, [.int 0, .int 2, .int 2, .ref la, .int wr, .int tl, .int le, .int fi, .int se, .ref oo, .ref hh])), (oo, .inl (cI, 24, .inl o))] sz) t) (va_A [(ro, .inr (11, [.int f6, .int s6, .ref rn, .ref rh, .int l6, .ref ca, .ref sa, .ref da, .ref xa])), (rn, .inr (12, [.int st, .int ce, .int sp, .int lm, .int rm, .int fa, .ref tn])), (tn, .inl (cI, 1001, .inl nf)), (ca, .inl (cI, 501, .inl cf)), (sa, .inl (cI, 501, .inl gf)), (da, .inl (cI, 501, .inl df)), (mm, .inr (10, [.int 0, .int 2, .int 2, .ref la, .int wr, .int tl, .int le, .int fi, .int se, .ref oo, .ref hh])), (oo, .inl (cI, 24, .inl o))] sz)) 0 0 (va_A [(ro, .inr (11, [.int f6, .int s6, .ref rn, .ref rh, .int l6, .ref ca, .ref sa, .ref da, .ref xa])), (rn, .inr (12, [.int st, .int ce, .int sp, .int lm, .int rm, .int fa, .ref tn])), (tn, .inl (cI, 1001, .inl nf)), (ca, .inl (cI, 501, .inl cf)), (sa, .inl (cI, 501, .inl gf)), (da, .inl (cI, 501, .inl df)), (mm, .inr (10, [.int 0, .int 2, .int 2, .ref la, .int wr, .int tl, .int le, .int fi, .int se, .ref oo, .ref hh])), (oo, .inl (cI, 24, .inl o))] sz) := by
  refine Met.ofW (cc := cX6_writeDown) (maxL := 4) (ret := none) (by decide) rfl ?_
  intro p e s m args below meth c s₁ B hml hv
  obtain ⟨rfl, hsz, hP, hK, hD0, hN⟩ := hv
  have hx := B.exec
  have hb := B.bytes
  have hr := B.returns
  have hts := atoms_spec (ws := wsX6_writeDown) B.pre
  have hown : s.vm.findClass RX6 = some m.cls := findClass_of_methodNamed B.named
  have hlocks := B.notSynchronized
  subst hsz
  have hD := hD0.self (sz := s.heap.size)
  generalize hAe : va_A [(ro, .inr (11, [.int f6, .int s6, .ref rn, .ref rh, .int l6, .ref ca, .ref sa, .ref da, .ref xa])), (rn, .inr (12, [.int st, .int ce, .int sp, .int lm, .int rm, .int fa, .ref tn])), (tn, .inl (cI, 1001, .inl nf)), (ca, .inl (cI, 501, .inl cf)), (sa, .inl (cI, 501, .inl gf)), (da, .inl (cI, 501, .inl df)), (mm, .inr (10, [.int 0, .int 2, .int 2, .ref la, .int wr, .int tl, .int le, .int fi, .int se, .ref oo, .ref hh])), (oo, .inl (cI, 24, .inl o))] s.heap.size = A at hD ⊢
  have hA : ∀ q : Nat, s.heap.size ≤ q → A q := fun q h => by rw [← hAe]; exact Or.inr h
  have hS : va_S A s.heap s.heap [] := va_S.rf
  have hP : va_P (dC, dI) vwCl [(ro, .inr (11, [.int f6, .int s6, .ref rn, .ref rh, .int l6, .ref ca, .ref sa, .ref da, .ref xa])), (rn, .inr (12, [.int st, .int ce, .int sp, .int lm, .int rm, .int fa, .ref tn])), (tn, .inl (cI, 1001, .inl nf)), (ca, .inl (cI, 501, .inl cf)), (sa, .inl (cI, 501, .inl gf)), (da, .inl (cI, 501, .inl df)), (mm, .inr (10, [.int 0, .int 2, .int 2, .ref la, .int wr, .int tl, .int le, .int fi, .int se, .ref oo, .ref hh])), (oo, .inl (cI, 24, .inl o))] s.heap := hP
  have hD : va_D A [(ro, .inr (11, [.int f6, .int s6, .ref rn, .ref rh, .int l6, .ref ca, .ref sa, .ref da, .ref xa])), (rn, .inr (12, [.int st, .int ce, .int sp, .int lm, .int rm, .int fa, .ref tn])), (tn, .inl (cI, 1001, .inl nf)), (ca, .inl (cI, 501, .inl cf)), (sa, .inl (cI, 501, .inl gf)), (da, .inl (cI, 501, .inl df)), (mm, .inr (10, [.int 0, .int 2, .int 2, .ref la, .int wr, .int tl, .int le, .int fi, .int se, .ref oo, .ref hh])), (oo, .inl (cI, 24, .inl o))] := hD
  have hl := lv_entry ([.ref ro, .ref mm, .int (nI k)]) (n := 4) (Nat.le_of_ble_eq_true rfl)
  rw [lg_entry_eq]
  generalize (lg_sl ([.ref ro, .ref mm, .int (nI k)]) ++ List.replicate (4 - (lg_sl ([.ref ro, .ref mm, .int (nI k)])).length) Slot.unset).toArray = ls at hl ⊢
  have hl : lv_has ls 4 [(0, .ref ro), (1, .ref mm), (2, .int (nI k))] := hl
  have iWX6 : ∀ w ∈ u_ws RX6 TX6 9, w ∈ wsX6_writeDown := by decide +kernel
  have iWX7 : ∀ w ∈ u_ws RX7 TX7 7, w ∈ wsX6_writeDown := by decide +kernel
  refine lv_aload_n hx hb dX6_writeDown_0 rfl (lv_at hl 0 rfl) ?_
  refine va_get (D := (dC, dI)) (ci := 11) (v := .ref rn) (C := RX6) (T := TX6) (N := 9) hx hb hts iWX6 hown hK hP 0 rfl rfl 2 (by decide) (hts (.fieldLink RX6 21 "Beaverhall$Returns" "now" "LBeaverhall$Run;") (by decide +kernel)) (fun _ h9 => h9) rfl dX6_writeDown_1 ?_
  have hPc := hP.sub (ws' := [(rn, .inr (12, [.int st, .int ce, .int sp, .int lm, .int rm, .int fa, .ref tn])), (tn, .inl (cI, 1001, .inl nf))]) [1, 2] rfl
  have hDc := hD.sub (ws' := [(rn, .inr (12, [.int st, .int ce, .int sp, .int lm, .int rm, .int fa, .ref tn])), (tn, .inl (cI, 1001, .inl nf))]) [1, 2] (by decide) rfl
  have hKc := hK.sub (tys' := [(cI, .int)]) [0] rfl
  have hFc := va_free (wc := [(rn, .inr (12, [.int st, .int ce, .int sp, .int lm, .int rm, .int fa, .ref tn])), (tn, .inl (cI, 1001, .inl nf))]) hD hS hA [1, 2] rfl
  refine va_callv (va_runV (As := []) (rest := []) ⟨hx, hb, hml, hown, hts⟩ (c_X7_begin l dC dI cI rn tn st ce sp lm rm fa nf  s.heap.size) (cwV 0 hts gX6_writeDown_X7_begin rfl rfl rfl (by decide +kernel) ⟨Nat.le_of_ble_eq_true rfl, Nat.le_of_ble_eq_true rfl⟩) (pcV hPc hDc hKc hN (ci := 12) (q0 := 0) rfl rfl) rfl rfl hl.1 rfl (lv_room (Nat.le_of_ble_eq_true rfl)) dX6_writeDown_4 ⟨Nat.le_of_ble_eq_true rfl, Nat.le_of_ble_eq_true rfl⟩) hS (fun q _ h => hFc q h) hFc (fun u t H1 locs ht hvm hw_8 hB hz1 hk1 hS => ?_)
  obtain ⟨st_1, ce_2, sp_3, lm_4, rm_5, fa_6, f_7⟩ := u
  obtain ⟨hP1, hK1, hD1⟩ := hB
  rw [ht] at hP1
  try dsimp only at hw_8
  obtain ⟨hP, hD⟩ := va_join (wr := [(ro, .inr (11, [.int f6, .int s6, .ref rn, .ref rh, .int l6, .ref ca, .ref sa, .ref da, .ref xa])), (ca, .inl (cI, 501, .inl cf)), (sa, .inl (cI, 501, .inl gf)), (da, .inl (cI, 501, .inl df)), (mm, .inr (10, [.int 0, .int 2, .int 2, .ref la, .int wr, .int tl, .int le, .int fi, .int se, .ref oo, .ref hh])), (oo, .inl (cI, 24, .inl o))]) (w1 := [(rn, .inr (12, [.int st_1, .int ce_2, .int sp_3, .int lm_4, .int rm_5, .int fa_6, .ref tn])), (tn, .inl (cI, 1001, .inl f_7))]) hP hD [1, 2] [0, 3, 4, 5, 6, 7] rfl rfl (by decide) (by decide) hk1 hFc hP1 hD1
  generalize H1 = H at hP hS ⊢
  have hP : va_P (dC, dI) vwCl [(ro, .inr (11, [.int f6, .int s6, .ref rn, .ref rh, .int l6, .ref ca, .ref sa, .ref da, .ref xa])), (ca, .inl (cI, 501, .inl cf)), (sa, .inl (cI, 501, .inl gf)), (da, .inl (cI, 501, .inl df)), (mm, .inr (10, [.int 0, .int 2, .int 2, .ref la, .int wr, .int tl, .int le, .int fi, .int se, .ref oo, .ref hh])), (oo, .inl (cI, 24, .inl o)), (rn, .inr (12, [.int st_1, .int ce_2, .int sp_3, .int lm_4, .int rm_5, .int fa_6, .ref tn])), (tn, .inl (cI, 1001, .inl f_7))] H := hP
  have hD : va_D A [(ro, .inr (11, [.int f6, .int s6, .ref rn, .ref rh, .int l6, .ref ca, .ref sa, .ref da, .ref xa])), (ca, .inl (cI, 501, .inl cf)), (sa, .inl (cI, 501, .inl gf)), (da, .inl (cI, 501, .inl df)), (mm, .inr (10, [.int 0, .int 2, .int 2, .ref la, .int wr, .int tl, .int le, .int fi, .int se, .ref oo, .ref hh])), (oo, .inl (cI, 24, .inl o)), (rn, .inr (12, [.int st_1, .int ce_2, .int sp_3, .int lm_4, .int rm_5, .int fa_6, .ref tn])), (tn, .inl (cI, 1001, .inl f_7))] := hD
  refine lv_aload_n hx hb dX6_writeDown_7 rfl (lv_at hl 0 rfl) ?_
  refine lv_iconst (v := 0) hx hb dX6_writeDown_8 (by decide) ?_
  refine va_put (D := (dC, dI)) (ci := 11) (v := .int 0) (ty := .int) (C := RX6) (T := TX6) (N := 9) hx hb hts iWX6 tyX6 tyX6_ok nmX6 hown hK hP hD hS 0 rfl rfl 4 (by decide) (hts (.fieldLink RX6 28 "Beaverhall$Returns" "length" "I") (by decide +kernel)) (fun _ h9 => h9) rfl (by decide +kernel) rfl rfl (Nat.le_of_ble_eq_true rfl) dX6_writeDown_9 (fun H locs hP hD hS => ?_)
  have hP : va_P (dC, dI) vwCl [(ro, .inr (11, [.int f6, .int s6, .ref rn, .ref rh, .int 0, .ref ca, .ref sa, .ref da, .ref xa])), (ca, .inl (cI, 501, .inl cf)), (sa, .inl (cI, 501, .inl gf)), (da, .inl (cI, 501, .inl df)), (mm, .inr (10, [.int 0, .int 2, .int 2, .ref la, .int wr, .int tl, .int le, .int fi, .int se, .ref oo, .ref hh])), (oo, .inl (cI, 24, .inl o)), (rn, .inr (12, [.int st_1, .int ce_2, .int sp_3, .int lm_4, .int rm_5, .int fa_6, .ref tn])), (tn, .inl (cI, 1001, .inl f_7))] H := hP
  have hD : va_D A [(ro, .inr (11, [.int f6, .int s6, .ref rn, .ref rh, .int 0, .ref ca, .ref sa, .ref da, .ref xa])), (ca, .inl (cI, 501, .inl cf)), (sa, .inl (cI, 501, .inl gf)), (da, .inl (cI, 501, .inl df)), (mm, .inr (10, [.int 0, .int 2, .int 2, .ref la, .int wr, .int tl, .int le, .int fi, .int se, .ref oo, .ref hh])), (oo, .inl (cI, 24, .inl o)), (rn, .inr (12, [.int st_1, .int ce_2, .int sp_3, .int lm_4, .int rm_5, .int fa_6, .ref tn])), (tn, .inl (cI, 1001, .inl f_7))] := hD
  refine lv_aload_n hx hb dX6_writeDown_12 rfl (lv_at hl 0 rfl) ?_
  refine va_get (D := (dC, dI)) (ci := 11) (v := .ref ca) (C := RX6) (T := TX6) (N := 9) hx hb hts iWX6 hown hK hP 0 rfl rfl 5 (by decide) (hts (.fieldLink RX6 31 "Beaverhall$Returns" "cells" "[I") (by decide +kernel)) (fun _ h9 => h9) rfl dX6_writeDown_13 ?_
  refine lv_iconst (v := 0) hx hb dX6_writeDown_16 (by decide) ?_
  refine lv_iconst (v := 0) hx hb dX6_writeDown_17 (by decide) ?_
  have hPc := hP.sub (ws' := [(ca, .inl (cI, 501, .inl cf))]) [1] rfl
  have hDc := hD.sub (ws' := [(ca, .inl (cI, 501, .inl cf))]) [1] (by decide) rfl
  have hKc := hK.sub (tys' := [(cI, .int)]) [0] rfl
  have hFc := va_free (wc := [(ca, .inl (cI, 501, .inl cf))]) hD hS hA [1] rfl
  refine va_callv (va_runSN (As := [.ref ca, .int 0, .int 0]) (rest := []) ⟨hx, hb, hml, hown, hts⟩ (c_X11_put l dC dI cI ca 501 cf 0 0 (by decide) H.size) ⟨va_cnB 3 hts gX6_writeDown_X11_put_n63 rfl rfl rfl (hN (.methodLinkNest RX6 63 yX11_put "Beaverhall") (by decide +kernel)) (hts (.initialized RX11) (by decide +kernel)) (by decide +kernel) ⟨Nat.le_of_ble_eq_true rfl, Nat.le_of_ble_eq_true rfl⟩, hts (.static yX11_put) (by decide +kernel), trivial⟩ (pcS hPc hDc hKc hN) rfl rfl hl.1 rfl (lv_room (Nat.le_of_ble_eq_true rfl)) dX6_writeDown_18 ⟨Nat.le_of_ble_eq_true rfl, Nat.le_of_ble_eq_true rfl⟩) hS (fun q _ h => hFc q h) hFc (fun u t H1 locs ht hvm hw_9 hB hz1 hk1 hS => ?_)
  obtain ⟨hP1, hK1, hD1⟩ := hB
  rw [ht] at hP1
  try dsimp only at hw_9
  obtain ⟨hP, hD⟩ := va_join (wr := [(ro, .inr (11, [.int f6, .int s6, .ref rn, .ref rh, .int 0, .ref ca, .ref sa, .ref da, .ref xa])), (sa, .inl (cI, 501, .inl gf)), (da, .inl (cI, 501, .inl df)), (mm, .inr (10, [.int 0, .int 2, .int 2, .ref la, .int wr, .int tl, .int le, .int fi, .int se, .ref oo, .ref hh])), (oo, .inl (cI, 24, .inl o)), (rn, .inr (12, [.int st_1, .int ce_2, .int sp_3, .int lm_4, .int rm_5, .int fa_6, .ref tn])), (tn, .inl (cI, 1001, .inl f_7))]) (w1 := [(ca, .inl (cI, 501, .inl u))]) hP hD [1] [0, 2, 3, 4, 5, 6, 7] rfl rfl (by decide) (by decide) hk1 hFc hP1 hD1
  generalize H1 = H at hP hS ⊢
  have hP : va_P (dC, dI) vwCl [(ro, .inr (11, [.int f6, .int s6, .ref rn, .ref rh, .int 0, .ref ca, .ref sa, .ref da, .ref xa])), (sa, .inl (cI, 501, .inl gf)), (da, .inl (cI, 501, .inl df)), (mm, .inr (10, [.int 0, .int 2, .int 2, .ref la, .int wr, .int tl, .int le, .int fi, .int se, .ref oo, .ref hh])), (oo, .inl (cI, 24, .inl o)), (rn, .inr (12, [.int st_1, .int ce_2, .int sp_3, .int lm_4, .int rm_5, .int fa_6, .ref tn])), (tn, .inl (cI, 1001, .inl f_7)), (ca, .inl (cI, 501, .inl u))] H := hP
  have hD : va_D A [(ro, .inr (11, [.int f6, .int s6, .ref rn, .ref rh, .int 0, .ref ca, .ref sa, .ref da, .ref xa])), (sa, .inl (cI, 501, .inl gf)), (da, .inl (cI, 501, .inl df)), (mm, .inr (10, [.int 0, .int 2, .int 2, .ref la, .int wr, .int tl, .int le, .int fi, .int se, .ref oo, .ref hh])), (oo, .inl (cI, 24, .inl o)), (rn, .inr (12, [.int st_1, .int ce_2, .int sp_3, .int lm_4, .int rm_5, .int fa_6, .ref tn])), (tn, .inl (cI, 1001, .inl f_7)), (ca, .inl (cI, 501, .inl u))] := hD
  obtain ⟨f_10, ef_10⟩ : ∃ z, z = u := ⟨_, rfl⟩
  subst ef_10
  rw [put_at (n := 501) (i := 0) (j := 0) rfl (by decide) (by decide)] at hw_9
  refine lv_aload_n hx hb dX6_writeDown_21 rfl (lv_at hl 0 rfl) ?_
  refine va_get (D := (dC, dI)) (ci := 11) (v := .ref sa) (C := RX6) (T := TX6) (N := 9) hx hb hts iWX6 hown hK hP 0 rfl rfl 6 (by decide) (hts (.fieldLink RX6 35 "Beaverhall$Returns" "states" "[I") (by decide +kernel)) (fun _ h9 => h9) rfl dX6_writeDown_22 ?_
  refine lv_iconst (v := 0) hx hb dX6_writeDown_25 (by decide) ?_
  refine lv_iconst (v := 0) hx hb dX6_writeDown_26 (by decide) ?_
  have hPc := hP.sub (ws' := [(sa, .inl (cI, 501, .inl gf))]) [1] rfl
  have hDc := hD.sub (ws' := [(sa, .inl (cI, 501, .inl gf))]) [1] (by decide) rfl
  have hKc := hK.sub (tys' := [(cI, .int)]) [0] rfl
  have hFc := va_free (wc := [(sa, .inl (cI, 501, .inl gf))]) hD hS hA [1] rfl
  refine va_callv (va_runSN (As := [.ref sa, .int 0, .int 0]) (rest := []) ⟨hx, hb, hml, hown, hts⟩ (c_X11_put l dC dI cI sa 501 gf 0 0 (by decide) H.size) ⟨va_cnB 3 hts gX6_writeDown_X11_put_n63 rfl rfl rfl (hN (.methodLinkNest RX6 63 yX11_put "Beaverhall") (by decide +kernel)) (hts (.initialized RX11) (by decide +kernel)) (by decide +kernel) ⟨Nat.le_of_ble_eq_true rfl, Nat.le_of_ble_eq_true rfl⟩, hts (.static yX11_put) (by decide +kernel), trivial⟩ (pcS hPc hDc hKc hN) rfl rfl hl.1 rfl (lv_room (Nat.le_of_ble_eq_true rfl)) dX6_writeDown_27 ⟨Nat.le_of_ble_eq_true rfl, Nat.le_of_ble_eq_true rfl⟩) hS (fun q _ h => hFc q h) hFc (fun u t H1 locs ht hvm hw_11 hB hz1 hk1 hS => ?_)
  obtain ⟨hP1, hK1, hD1⟩ := hB
  rw [ht] at hP1
  try dsimp only at hw_11
  obtain ⟨hP, hD⟩ := va_join (wr := [(ro, .inr (11, [.int f6, .int s6, .ref rn, .ref rh, .int 0, .ref ca, .ref sa, .ref da, .ref xa])), (da, .inl (cI, 501, .inl df)), (mm, .inr (10, [.int 0, .int 2, .int 2, .ref la, .int wr, .int tl, .int le, .int fi, .int se, .ref oo, .ref hh])), (oo, .inl (cI, 24, .inl o)), (rn, .inr (12, [.int st_1, .int ce_2, .int sp_3, .int lm_4, .int rm_5, .int fa_6, .ref tn])), (tn, .inl (cI, 1001, .inl f_7)), (ca, .inl (cI, 501, .inl f_10))]) (w1 := [(sa, .inl (cI, 501, .inl u))]) hP hD [1] [0, 2, 3, 4, 5, 6, 7] rfl rfl (by decide) (by decide) hk1 hFc hP1 hD1
  generalize H1 = H at hP hS ⊢
  have hP : va_P (dC, dI) vwCl [(ro, .inr (11, [.int f6, .int s6, .ref rn, .ref rh, .int 0, .ref ca, .ref sa, .ref da, .ref xa])), (da, .inl (cI, 501, .inl df)), (mm, .inr (10, [.int 0, .int 2, .int 2, .ref la, .int wr, .int tl, .int le, .int fi, .int se, .ref oo, .ref hh])), (oo, .inl (cI, 24, .inl o)), (rn, .inr (12, [.int st_1, .int ce_2, .int sp_3, .int lm_4, .int rm_5, .int fa_6, .ref tn])), (tn, .inl (cI, 1001, .inl f_7)), (ca, .inl (cI, 501, .inl f_10)), (sa, .inl (cI, 501, .inl u))] H := hP
  have hD : va_D A [(ro, .inr (11, [.int f6, .int s6, .ref rn, .ref rh, .int 0, .ref ca, .ref sa, .ref da, .ref xa])), (da, .inl (cI, 501, .inl df)), (mm, .inr (10, [.int 0, .int 2, .int 2, .ref la, .int wr, .int tl, .int le, .int fi, .int se, .ref oo, .ref hh])), (oo, .inl (cI, 24, .inl o)), (rn, .inr (12, [.int st_1, .int ce_2, .int sp_3, .int lm_4, .int rm_5, .int fa_6, .ref tn])), (tn, .inl (cI, 1001, .inl f_7)), (ca, .inl (cI, 501, .inl f_10)), (sa, .inl (cI, 501, .inl u))] := hD
  obtain ⟨f_12, ef_12⟩ : ∃ z, z = u := ⟨_, rfl⟩
  subst ef_12
  rw [put_at (n := 501) (i := 0) (j := 0) rfl (by decide) (by decide)] at hw_11
  refine lv_iconst (v := 0) hx hb dX6_writeDown_30 (by decide) ?_
  refine lv_istore_n (lv' := [(3, .int 0), (0, .ref ro), (1, .ref mm), (2, .int (nI k))]) hx hb dX6_writeDown_31 rfl hl (by decide) rfl (fun ls hl => ?_)
  refine lp_go (σ := Nat × Int32 × Int32 × Int32 × Int32 × Int32 × Int32 × (Nat → Int32) × (Nat → Int32) × (Nat → Int32) × (Nat → Int32)) (fun x => match x with | (i_32, st_32, ce_32, sp_32, lm_32, rm_32, fa_32, nf_32, cf_32, gf_32, df_32) => i_32 ≤ k ∧ alvR (nI 2) (cW T) (cM T) (cN T) i_32 ∧ relJ (st_32, ce_32, sp_32, lm_32, rm_32, fa_32, nf_32) (seqR (nI 2) (cW T) (cM T) (cN T) i_32) ∧ wdP T i_32 cf_32 gf_32 df_32) (fun x => match x with | (i_32, st_32, ce_32, sp_32, lm_32, rm_32, fa_32, nf_32, cf_32, gf_32, df_32) => k - i_32) (fun x => [(ro, .inr (11, [.int f6, .int s6, .ref rn, .ref rh, .int (nI x.1), .ref ca, .ref sa, .ref da, .ref xa])), (rn, .inr (12, [.int x.2.1, .int x.2.2.1, .int x.2.2.2.1, .int x.2.2.2.2.1, .int x.2.2.2.2.2.1, .int x.2.2.2.2.2.2.1, .ref tn])), (tn, .inl (cI, 1001, .inl x.2.2.2.2.2.2.2.1)), (ca, .inl (cI, 501, .inl x.2.2.2.2.2.2.2.2.1)), (sa, .inl (cI, 501, .inl x.2.2.2.2.2.2.2.2.2.1)), (da, .inl (cI, 501, .inl x.2.2.2.2.2.2.2.2.2.2)), (mm, .inr (10, [.int 0, .int 2, .int 2, .ref la, .int wr, .int tl, .int le, .int fi, .int se, .ref oo, .ref hh])), (oo, .inl (cI, 24, .inl o))]) (fun x => [(0, .ref ro), (1, .ref mm), (2, .int (nI k)), (3, .int (nI x.1))]) (fun _ => []) (fun x hI ih32 H locs hP hD hS ls hl => ?_) (0, st_1, ce_2, sp_3, lm_4, rm_5, fa_6, f_7, f_10, f_12, df) ⟨Nat.zero_le _, fun i hi => absurd hi (Nat.not_lt_zero i), by rw [hw_8]; exact relJ_begin _, wdP_zero (by rw [hw_9]; exact pk_us) (by rw [hw_11]; exact pk_us)⟩ (hP.sub [0, 4, 5, 6, 7, 1, 2, 3] rfl) (hD.sub [0, 4, 5, 6, 7, 1, 2, 3] (by decide) rfl) hS (lv_sub hl [1, 2, 3, 0] rfl)
  obtain ⟨i_32, st_32, ce_32, sp_32, lm_32, rm_32, fa_32, nf_32, cf_32, gf_32, df_32⟩ := x
  have hP : va_P (dC, dI) vwCl [(ro, .inr (11, [.int f6, .int s6, .ref rn, .ref rh, .int (nI i_32), .ref ca, .ref sa, .ref da, .ref xa])), (rn, .inr (12, [.int st_32, .int ce_32, .int sp_32, .int lm_32, .int rm_32, .int fa_32, .ref tn])), (tn, .inl (cI, 1001, .inl nf_32)), (ca, .inl (cI, 501, .inl cf_32)), (sa, .inl (cI, 501, .inl gf_32)), (da, .inl (cI, 501, .inl df_32)), (mm, .inr (10, [.int 0, .int 2, .int 2, .ref la, .int wr, .int tl, .int le, .int fi, .int se, .ref oo, .ref hh])), (oo, .inl (cI, 24, .inl o))] H := hP
  have hD : va_D A [(ro, .inr (11, [.int f6, .int s6, .ref rn, .ref rh, .int (nI i_32), .ref ca, .ref sa, .ref da, .ref xa])), (rn, .inr (12, [.int st_32, .int ce_32, .int sp_32, .int lm_32, .int rm_32, .int fa_32, .ref tn])), (tn, .inl (cI, 1001, .inl nf_32)), (ca, .inl (cI, 501, .inl cf_32)), (sa, .inl (cI, 501, .inl gf_32)), (da, .inl (cI, 501, .inl df_32)), (mm, .inr (10, [.int 0, .int 2, .int 2, .ref la, .int wr, .int tl, .int le, .int fi, .int se, .ref oo, .ref hh])), (oo, .inl (cI, 24, .inl o))] := hD
  have hl : lv_has ls 4 [(0, .ref ro), (1, .ref mm), (2, .int (nI k)), (3, .int (nI i_32))] := hl
  try dsimp only at hI
  have ih32 := ih32
  refine lv_iload_n hx hb dX6_writeDown_32 rfl (lv_at hl 3 rfl) ?_
  refine lv_iload_n hx hb dX6_writeDown_33 rfl (lv_at hl 2 rfl) ?_
  refine lv_icmp_ge (tgt := 139) hx hb dX6_writeDown_34 (by decide) (fun c34_13 => ?_) (fun c34_13 => ?_)
  · have hik9 : i_32 = k := nI_end (by omega) hI.1 c34_13
    obtain rfl : i_32 = (lnT T k) := by rw [(lnT_eq (Nat.le_refl k) (by have h := hI.2.1; rw [hik9] at h; exact h) (Or.inl rfl))]; exact hik9
    have hP9 := hP.sub (ws' := [(ro, .inr (11, [.int f6, .int s6, .ref rn, .ref rh, .int (nI ((lnT T k))), .ref ca, .ref sa, .ref da, .ref xa])), (rn, .inr (12, [.int st_32, .int ce_32, .int sp_32, .int lm_32, .int rm_32, .int fa_32, .ref tn])), (tn, .inl (cI, 1001, .inl nf_32)), (ca, .inl (cI, 501, .inl cf_32)), (sa, .inl (cI, 501, .inl gf_32)), (da, .inl (cI, 501, .inl df_32)), (mm, .inr (10, [.int 0, .int 2, .int 2, .ref la, .int wr, .int tl, .int le, .int fi, .int se, .ref oo, .ref hh])), (oo, .inl (cI, 24, .inl o))]) [0, 1, 2, 3, 4, 5, 6, 7] rfl
    have hD9 := hD.sub (ws' := [(ro, .inr (11, [.int f6, .int s6, .ref rn, .ref rh, .int (nI ((lnT T k))), .ref ca, .ref sa, .ref da, .ref xa])), (rn, .inr (12, [.int st_32, .int ce_32, .int sp_32, .int lm_32, .int rm_32, .int fa_32, .ref tn])), (tn, .inl (cI, 1001, .inl nf_32)), (ca, .inl (cI, 501, .inl cf_32)), (sa, .inl (cI, 501, .inl gf_32)), (da, .inl (cI, 501, .inl df_32)), (mm, .inr (10, [.int 0, .int 2, .int 2, .ref la, .int wr, .int tl, .int le, .int fi, .int se, .ref oo, .ref hh])), (oo, .inl (cI, 24, .inl o))]) [0, 1, 2, 3, 4, 5, 6, 7] (by decide) rfl
    have hK9 := hK.sub (tys' := [(cI, .int)]) [0] rfl
    exact W.vret hx hb hr (fun t ht hW => ⟨⟨((st_32, ce_32, sp_32, lm_32, rm_32, fa_32, nf_32), cf_32, gf_32, df_32), rfl, ⟨hI.2.2.1, hI.2.2.2⟩, ⟨by rw [ht]; exact hP9, va_K.moved hW.alike hK9, hD9⟩⟩, hS.F ht⟩) hS.2.2 dX6_writeDown_139
  · have hik : i_32 < k := nI_step (by omega) hI.1 c34_13
    refine lv_iload_n hx hb dX6_writeDown_37 rfl (lv_at hl 3 rfl) ?_
    refine lv_sipush (v := 500) hx hb dX6_writeDown_38 (by decide) ?_
    refine lv_icmp_ge (tgt := 139) hx hb dX6_writeDown_41 (by decide) (fun c41_14 => ?_) (fun c41_14 => ?_)
    · exact absurd (show nI 500 ≤ nI i_32 from c41_14) (nI_ge (a := i_32) (b := 500) (by omega) (by decide))
    · refine lv_aload_n hx hb dX6_writeDown_44 rfl (lv_at hl 0 rfl) ?_
      refine va_get (D := (dC, dI)) (ci := 11) (v := .ref da) (C := RX6) (T := TX6) (N := 9) hx hb hts iWX6 hown hK hP 0 rfl rfl 7 (by decide) (hts (.fieldLink RX6 38 "Beaverhall$Returns" "reads" "[I") (by decide +kernel)) (fun _ h9 => h9) rfl dX6_writeDown_45 ?_
      refine lv_iload_n hx hb dX6_writeDown_48 rfl (lv_at hl 3 rfl) ?_
      refine lv_aload_n hx hb dX6_writeDown_49 rfl (lv_at hl 0 rfl) ?_
      refine va_get (D := (dC, dI)) (ci := 11) (v := .ref rn) (C := RX6) (T := TX6) (N := 9) hx hb hts iWX6 hown hK hP 0 rfl rfl 2 (by decide) (hts (.fieldLink RX6 21 "Beaverhall$Returns" "now" "LBeaverhall$Run;") (by decide +kernel)) (fun _ h9 => h9) rfl dX6_writeDown_50 ?_
      refine lv_aload_n hx hb dX6_writeDown_53 rfl (lv_at hl 0 rfl) ?_
      refine va_get (D := (dC, dI)) (ci := 11) (v := .ref rn) (C := RX6) (T := TX6) (N := 9) hx hb hts iWX6 hown hK hP 0 rfl rfl 2 (by decide) (hts (.fieldLink RX6 21 "Beaverhall$Returns" "now" "LBeaverhall$Run;") (by decide +kernel)) (fun _ h9 => h9) rfl dX6_writeDown_54 ?_
      refine va_get (D := (dC, dI)) (ci := 12) (v := .int ce_32) (C := RX7) (T := TX7) (N := 7) hx hb hts iWX7 hown hK hP 1 rfl rfl 1 (by decide) (hts (.fieldLink RX6 67 "Beaverhall$Run" "cell" "I") (by decide +kernel)) (fun _ h9 => h9) rfl dX6_writeDown_57 ?_
      have hPc := hP.sub (ws' := [(rn, .inr (12, [.int st_32, .int ce_32, .int sp_32, .int lm_32, .int rm_32, .int fa_32, .ref tn])), (tn, .inl (cI, 1001, .inl nf_32))]) [1, 2] rfl
      have hDc := hD.sub (ws' := [(rn, .inr (12, [.int st_32, .int ce_32, .int sp_32, .int lm_32, .int rm_32, .int fa_32, .ref tn])), (tn, .inl (cI, 1001, .inl nf_32))]) [1, 2] (by decide) rfl
      have hKc := hK.sub (tys' := [(cI, .int)]) [0] rfl
      have hFc := va_free (wc := [(rn, .inr (12, [.int st_32, .int ce_32, .int sp_32, .int lm_32, .int rm_32, .int fa_32, .ref tn])), (tn, .inl (cI, 1001, .inl nf_32))]) hD hS hA [1, 2] rfl
      refine va_calli (va_runV (As := [.int ce_32]) (rest := [.int (nI i_32), .ref da]) ⟨hx, hb, hml, hown, hts⟩ (c_X7_signOf l dC dI cI rn tn st_32 ce_32 sp_32 lm_32 rm_32 fa_32 nf_32 ce_32 H.size) (cwV 1 hts gX6_writeDown_X7_signOf rfl rfl rfl (by decide +kernel) ⟨Nat.le_of_ble_eq_true rfl, Nat.le_of_ble_eq_true rfl⟩) (pcV hPc hDc hKc hN (ci := 12) (q0 := 0) rfl rfl) rfl rfl hl.1 rfl (lv_room (Nat.le_of_ble_eq_true rfl)) dX6_writeDown_60 ⟨Nat.le_of_ble_eq_true rfl, Nat.le_of_ble_eq_true rfl⟩) hS (fun q _ h => hFc q h) hFc (fun r_15 u t H1 locs ht hvm hw_16 hB hz1 hk1 hS => ?_)
      obtain ⟨hP1, hK1, hD1⟩ := hB
      rw [ht] at hP1
      try dsimp only at hw_16
      obtain ⟨hP, hD⟩ := va_join (wr := [(ro, .inr (11, [.int f6, .int s6, .ref rn, .ref rh, .int (nI i_32), .ref ca, .ref sa, .ref da, .ref xa])), (ca, .inl (cI, 501, .inl cf_32)), (sa, .inl (cI, 501, .inl gf_32)), (da, .inl (cI, 501, .inl df_32)), (mm, .inr (10, [.int 0, .int 2, .int 2, .ref la, .int wr, .int tl, .int le, .int fi, .int se, .ref oo, .ref hh])), (oo, .inl (cI, 24, .inl o))]) (w1 := [(rn, .inr (12, [.int st_32, .int ce_32, .int sp_32, .int lm_32, .int rm_32, .int fa_32, .ref tn])), (tn, .inl (cI, 1001, .inl nf_32))]) hP hD [1, 2] [0, 3, 4, 5, 6, 7] rfl rfl (by decide) (by decide) hk1 hFc hP1 hD1
      generalize H1 = H at hP hS ⊢
      have hP : va_P (dC, dI) vwCl [(ro, .inr (11, [.int f6, .int s6, .ref rn, .ref rh, .int (nI i_32), .ref ca, .ref sa, .ref da, .ref xa])), (ca, .inl (cI, 501, .inl cf_32)), (sa, .inl (cI, 501, .inl gf_32)), (da, .inl (cI, 501, .inl df_32)), (mm, .inr (10, [.int 0, .int 2, .int 2, .ref la, .int wr, .int tl, .int le, .int fi, .int se, .ref oo, .ref hh])), (oo, .inl (cI, 24, .inl o)), (rn, .inr (12, [.int st_32, .int ce_32, .int sp_32, .int lm_32, .int rm_32, .int fa_32, .ref tn])), (tn, .inl (cI, 1001, .inl nf_32))] H := hP
      have hD : va_D A [(ro, .inr (11, [.int f6, .int s6, .ref rn, .ref rh, .int (nI i_32), .ref ca, .ref sa, .ref da, .ref xa])), (ca, .inl (cI, 501, .inl cf_32)), (sa, .inl (cI, 501, .inl gf_32)), (da, .inl (cI, 501, .inl df_32)), (mm, .inr (10, [.int 0, .int 2, .int 2, .ref la, .int wr, .int tl, .int le, .int fi, .int se, .ref oo, .ref hh])), (oo, .inl (cI, 24, .inl o)), (rn, .inr (12, [.int st_32, .int ce_32, .int sp_32, .int lm_32, .int rm_32, .int fa_32, .ref tn])), (tn, .inl (cI, 1001, .inl nf_32))] := hD
      have hPc := hP.sub (ws' := [(da, .inl (cI, 501, .inl df_32))]) [3] rfl
      have hDc := hD.sub (ws' := [(da, .inl (cI, 501, .inl df_32))]) [3] (by decide) rfl
      have hKc := hK.sub (tys' := [(cI, .int)]) [0] rfl
      have hFc := va_free (wc := [(da, .inl (cI, 501, .inl df_32))]) hD hS hA [3] rfl
      refine va_callv (va_runSN (As := [.ref da, .int (nI i_32), .int r_15]) (rest := []) ⟨hx, hb, hml, hown, hts⟩ (c_X11_put l dC dI cI da 501 df_32 (nI i_32) r_15 (by decide) H.size) ⟨va_cnB 3 hts gX6_writeDown_X11_put_n63 rfl rfl rfl (hN (.methodLinkNest RX6 63 yX11_put "Beaverhall") (by decide +kernel)) (hts (.initialized RX11) (by decide +kernel)) (by decide +kernel) ⟨Nat.le_of_ble_eq_true rfl, Nat.le_of_ble_eq_true rfl⟩, hts (.static yX11_put) (by decide +kernel), trivial⟩ (pcS hPc hDc hKc hN) rfl rfl hl.1 rfl (lv_room (Nat.le_of_ble_eq_true rfl)) dX6_writeDown_63 ⟨Nat.le_of_ble_eq_true rfl, Nat.le_of_ble_eq_true rfl⟩) hS (fun q _ h => hFc q h) hFc (fun u t H1 locs ht hvm hw_17 hB hz1 hk1 hS => ?_)
      obtain ⟨hP1, hK1, hD1⟩ := hB
      rw [ht] at hP1
      try dsimp only at hw_17
      obtain ⟨hP, hD⟩ := va_join (wr := [(ro, .inr (11, [.int f6, .int s6, .ref rn, .ref rh, .int (nI i_32), .ref ca, .ref sa, .ref da, .ref xa])), (ca, .inl (cI, 501, .inl cf_32)), (sa, .inl (cI, 501, .inl gf_32)), (mm, .inr (10, [.int 0, .int 2, .int 2, .ref la, .int wr, .int tl, .int le, .int fi, .int se, .ref oo, .ref hh])), (oo, .inl (cI, 24, .inl o)), (rn, .inr (12, [.int st_32, .int ce_32, .int sp_32, .int lm_32, .int rm_32, .int fa_32, .ref tn])), (tn, .inl (cI, 1001, .inl nf_32))]) (w1 := [(da, .inl (cI, 501, .inl u))]) hP hD [3] [0, 1, 2, 4, 5, 6, 7] rfl rfl (by decide) (by decide) hk1 hFc hP1 hD1
      generalize H1 = H at hP hS ⊢
      have hP : va_P (dC, dI) vwCl [(ro, .inr (11, [.int f6, .int s6, .ref rn, .ref rh, .int (nI i_32), .ref ca, .ref sa, .ref da, .ref xa])), (ca, .inl (cI, 501, .inl cf_32)), (sa, .inl (cI, 501, .inl gf_32)), (mm, .inr (10, [.int 0, .int 2, .int 2, .ref la, .int wr, .int tl, .int le, .int fi, .int se, .ref oo, .ref hh])), (oo, .inl (cI, 24, .inl o)), (rn, .inr (12, [.int st_32, .int ce_32, .int sp_32, .int lm_32, .int rm_32, .int fa_32, .ref tn])), (tn, .inl (cI, 1001, .inl nf_32)), (da, .inl (cI, 501, .inl u))] H := hP
      have hD : va_D A [(ro, .inr (11, [.int f6, .int s6, .ref rn, .ref rh, .int (nI i_32), .ref ca, .ref sa, .ref da, .ref xa])), (ca, .inl (cI, 501, .inl cf_32)), (sa, .inl (cI, 501, .inl gf_32)), (mm, .inr (10, [.int 0, .int 2, .int 2, .ref la, .int wr, .int tl, .int le, .int fi, .int se, .ref oo, .ref hh])), (oo, .inl (cI, 24, .inl o)), (rn, .inr (12, [.int st_32, .int ce_32, .int sp_32, .int lm_32, .int rm_32, .int fa_32, .ref tn])), (tn, .inl (cI, 1001, .inl nf_32)), (da, .inl (cI, 501, .inl u))] := hD
      obtain ⟨f_18, ef_18⟩ : ∃ z, z = u := ⟨_, rfl⟩
      subst ef_18
      rw [put_at (n := 501) (i := nI i_32) (j := i_32) rfl (by omega) (by decide)] at hw_17
      refine lv_aload_n hx hb dX6_writeDown_66 rfl (lv_at hl 0 rfl) ?_
      refine va_get (D := (dC, dI)) (ci := 11) (v := .ref rn) (C := RX6) (T := TX6) (N := 9) hx hb hts iWX6 hown hK hP 0 rfl rfl 2 (by decide) (hts (.fieldLink RX6 21 "Beaverhall$Returns" "now" "LBeaverhall$Run;") (by decide +kernel)) (fun _ h9 => h9) rfl dX6_writeDown_67 ?_
      refine lv_aload_n hx hb dX6_writeDown_70 rfl (lv_at hl 1 rfl) ?_
      have hPc := hP.sub (ws' := [(rn, .inr (12, [.int st_32, .int ce_32, .int sp_32, .int lm_32, .int rm_32, .int fa_32, .ref tn])), (tn, .inl (cI, 1001, .inl nf_32)), (mm, .inr (10, [.int 0, .int 2, .int 2, .ref la, .int wr, .int tl, .int le, .int fi, .int se, .ref oo, .ref hh])), (oo, .inl (cI, 24, .inl o))]) [5, 6, 3, 4] rfl
      have hDc := hD.sub (ws' := [(rn, .inr (12, [.int st_32, .int ce_32, .int sp_32, .int lm_32, .int rm_32, .int fa_32, .ref tn])), (tn, .inl (cI, 1001, .inl nf_32)), (mm, .inr (10, [.int 0, .int 2, .int 2, .ref la, .int wr, .int tl, .int le, .int fi, .int se, .ref oo, .ref hh])), (oo, .inl (cI, 24, .inl o))]) [5, 6, 3, 4] (by decide) rfl
      have hKc := hK.sub (tys' := [(cI, .int)]) [0] rfl
      have hFc := va_free (wc := [(rn, .inr (12, [.int st_32, .int ce_32, .int sp_32, .int lm_32, .int rm_32, .int fa_32, .ref tn])), (tn, .inl (cI, 1001, .inl nf_32)), (mm, .inr (10, [.int 0, .int 2, .int 2, .ref la, .int wr, .int tl, .int le, .int fi, .int se, .ref oo, .ref hh])), (oo, .inl (cI, 24, .inl o))]) hD hS hA [5, 6, 3, 4] rfl
      refine va_calli (va_runV (As := [.ref mm]) (rest := []) ⟨hx, hb, hml, hown, hts⟩ (c_X7_step l dC dI cI rn tn st_32 ce_32 sp_32 lm_32 rm_32 fa_32 nf_32 mm oo la hh 0 2 2 wr tl le fi se o (by decide) (by decide)  H.size) (cwV 1 hts gX6_writeDown_X7_step rfl rfl rfl (by decide +kernel) ⟨Nat.le_of_ble_eq_true rfl, Nat.le_of_ble_eq_true rfl⟩) (pcV hPc hDc hKc hN (ci := 12) (q0 := 0) rfl rfl) rfl rfl hl.1 rfl (lv_room (Nat.le_of_ble_eq_true rfl)) dX6_writeDown_71 ⟨Nat.le_of_ble_eq_true rfl, Nat.le_of_ble_eq_true rfl⟩) hS (fun q _ h => hFc q h) hFc (fun r_26 u t H1 locs ht hvm hw_27 hB hz1 hk1 hS => ?_)
      obtain ⟨st_19, ce_20, sp_21, lm_22, rm_23, fa_24, f_25⟩ := u
      obtain ⟨hP1, hK1, hD1⟩ := hB
      rw [ht] at hP1
      try dsimp only at hw_27
      obtain ⟨hP, hD⟩ := va_join (wr := [(ro, .inr (11, [.int f6, .int s6, .ref rn, .ref rh, .int (nI i_32), .ref ca, .ref sa, .ref da, .ref xa])), (ca, .inl (cI, 501, .inl cf_32)), (sa, .inl (cI, 501, .inl gf_32)), (da, .inl (cI, 501, .inl f_18))]) (w1 := [(rn, .inr (12, [.int st_19, .int ce_20, .int sp_21, .int lm_22, .int rm_23, .int fa_24, .ref tn])), (tn, .inl (cI, 1001, .inl f_25)), (mm, .inr (10, [.int 0, .int 2, .int 2, .ref la, .int wr, .int tl, .int le, .int fi, .int se, .ref oo, .ref hh])), (oo, .inl (cI, 24, .inl o))]) hP hD [5, 6, 3, 4] [0, 1, 2, 7] rfl rfl (by decide) (by decide) hk1 hFc hP1 hD1
      generalize H1 = H at hP hS ⊢
      have hP : va_P (dC, dI) vwCl [(ro, .inr (11, [.int f6, .int s6, .ref rn, .ref rh, .int (nI i_32), .ref ca, .ref sa, .ref da, .ref xa])), (ca, .inl (cI, 501, .inl cf_32)), (sa, .inl (cI, 501, .inl gf_32)), (da, .inl (cI, 501, .inl f_18)), (rn, .inr (12, [.int st_19, .int ce_20, .int sp_21, .int lm_22, .int rm_23, .int fa_24, .ref tn])), (tn, .inl (cI, 1001, .inl f_25)), (mm, .inr (10, [.int 0, .int 2, .int 2, .ref la, .int wr, .int tl, .int le, .int fi, .int se, .ref oo, .ref hh])), (oo, .inl (cI, 24, .inl o))] H := hP
      have hD : va_D A [(ro, .inr (11, [.int f6, .int s6, .ref rn, .ref rh, .int (nI i_32), .ref ca, .ref sa, .ref da, .ref xa])), (ca, .inl (cI, 501, .inl cf_32)), (sa, .inl (cI, 501, .inl gf_32)), (da, .inl (cI, 501, .inl f_18)), (rn, .inr (12, [.int st_19, .int ce_20, .int sp_21, .int lm_22, .int rm_23, .int fa_24, .ref tn])), (tn, .inl (cI, 1001, .inl f_25)), (mm, .inr (10, [.int 0, .int 2, .int 2, .ref la, .int wr, .int tl, .int le, .int fi, .int se, .ref oo, .ref hh])), (oo, .inl (cI, 24, .inl o))] := hD
      obtain ⟨hbb, hs1, hs0⟩ := rel_of hm hI.2.1 hI.2.2.1 hw_27
      refine lv_if_eq (tgt := 139) hx hb dX6_writeDown_74 (by decide) (fun c74_28 => ?_) (fun c74_28 => ?_)
      · have hb0 : bitR (nI 2) (cW T) (cM T) (cN T) i_32 = 0 := hbb.symm.trans c74_28
        obtain rfl : i_32 = (lnT T k) := (lnT_eq hI.1 hI.2.1 (Or.inr hb0)).symm
        have hP9 := hP.sub (ws' := [(ro, .inr (11, [.int f6, .int s6, .ref rn, .ref rh, .int (nI ((lnT T k))), .ref ca, .ref sa, .ref da, .ref xa])), (rn, .inr (12, [.int st_19, .int ce_20, .int sp_21, .int lm_22, .int rm_23, .int fa_24, .ref tn])), (tn, .inl (cI, 1001, .inl f_25)), (ca, .inl (cI, 501, .inl cf_32)), (sa, .inl (cI, 501, .inl gf_32)), (da, .inl (cI, 501, .inl f_18)), (mm, .inr (10, [.int 0, .int 2, .int 2, .ref la, .int wr, .int tl, .int le, .int fi, .int se, .ref oo, .ref hh])), (oo, .inl (cI, 24, .inl o))]) [0, 4, 5, 1, 2, 3, 6, 7] rfl
        have hD9 := hD.sub (ws' := [(ro, .inr (11, [.int f6, .int s6, .ref rn, .ref rh, .int (nI ((lnT T k))), .ref ca, .ref sa, .ref da, .ref xa])), (rn, .inr (12, [.int st_19, .int ce_20, .int sp_21, .int lm_22, .int rm_23, .int fa_24, .ref tn])), (tn, .inl (cI, 1001, .inl f_25)), (ca, .inl (cI, 501, .inl cf_32)), (sa, .inl (cI, 501, .inl gf_32)), (da, .inl (cI, 501, .inl f_18)), (mm, .inr (10, [.int 0, .int 2, .int 2, .ref la, .int wr, .int tl, .int le, .int fi, .int se, .ref oo, .ref hh])), (oo, .inl (cI, 24, .inl o))]) [0, 4, 5, 1, 2, 3, 6, 7] (by decide) rfl
        have hK9 := hK.sub (tys' := [(cI, .int)]) [0] rfl
        exact W.vret hx hb hr (fun t ht hW => ⟨⟨((st_19, ce_20, sp_21, lm_22, rm_23, fa_24, f_25), cf_32, gf_32, f_18), rfl, ⟨by have h9 := hI.2.2.1; rw [← hs0 hb0] at h9; exact h9, by have h9 := wdP_read (v := r_15) hI.2.2.2; rw [← hw_17] at h9; exact h9⟩, ⟨by rw [ht]; exact hP9, va_K.moved hW.alike hK9, hD9⟩⟩, hS.F ht⟩) hS.2.2 dX6_writeDown_139
      · have hb1 : bitR (nI 2) (cW T) (cM T) (cN T) i_32 = 1 := (bitR_01 (nI 2) (cW T) (cM T) (cN T) _).elim (fun h => absurd (hbb.trans h) c74_28) id
        have hR1 := hs1 hb1
        refine lv_aload_n hx hb dX6_writeDown_77 rfl (lv_at hl 0 rfl) ?_
        refine va_get (D := (dC, dI)) (ci := 11) (v := .ref rn) (C := RX6) (T := TX6) (N := 9) hx hb hts iWX6 hown hK hP 0 rfl rfl 2 (by decide) (hts (.fieldLink RX6 21 "Beaverhall$Returns" "now" "LBeaverhall$Run;") (by decide +kernel)) (fun _ h9 => h9) rfl dX6_writeDown_78 ?_
        refine va_get (D := (dC, dI)) (ci := 12) (v := .int fa_24) (C := RX7) (T := TX7) (N := 7) hx hb hts iWX7 hown hK hP 4 rfl rfl 5 (by decide) (hts (.fieldLink RX6 78 "Beaverhall$Run" "hasFallen" "Z") (by decide +kernel)) (fun _ h9 => h9) rfl dX6_writeDown_81 ?_
        refine lv_if_eq (tgt := 90) hx hb dX6_writeDown_84 (by decide) (fun c84_29 => ?_) (fun c84_29 => ?_)
        · refine lv_aload_n hx hb dX6_writeDown_90 rfl (lv_at hl 0 rfl) ?_
          refine lv_iload_n hx hb dX6_writeDown_91 rfl (lv_at hl 3 rfl) ?_
          refine lv_iconst (v := 1) hx hb dX6_writeDown_92 (by decide) ?_
          refine lv_iadd hx hb dX6_writeDown_93 ?_
          refine lv_topi (fun x_30 ex_30 => ?_)
          obtain rfl : x_30 = nI (i_32 + 1) := by rw [ex_30]; exact nI_1 _
          refine va_put (D := (dC, dI)) (ci := 11) (v := .int (nI (i_32 + 1))) (ty := .int) (C := RX6) (T := TX6) (N := 9) hx hb hts iWX6 tyX6 tyX6_ok nmX6 hown hK hP hD hS 0 rfl rfl 4 (by decide) (hts (.fieldLink RX6 28 "Beaverhall$Returns" "length" "I") (by decide +kernel)) (fun _ h9 => h9) rfl (by decide +kernel) rfl rfl (Nat.le_of_ble_eq_true rfl) dX6_writeDown_94 (fun H locs hP hD hS => ?_)
          have hP : va_P (dC, dI) vwCl [(ro, .inr (11, [.int f6, .int s6, .ref rn, .ref rh, .int (nI (i_32 + 1)), .ref ca, .ref sa, .ref da, .ref xa])), (ca, .inl (cI, 501, .inl cf_32)), (sa, .inl (cI, 501, .inl gf_32)), (da, .inl (cI, 501, .inl f_18)), (rn, .inr (12, [.int st_19, .int ce_20, .int sp_21, .int lm_22, .int rm_23, .int fa_24, .ref tn])), (tn, .inl (cI, 1001, .inl f_25)), (mm, .inr (10, [.int 0, .int 2, .int 2, .ref la, .int wr, .int tl, .int le, .int fi, .int se, .ref oo, .ref hh])), (oo, .inl (cI, 24, .inl o))] H := hP
          have hD : va_D A [(ro, .inr (11, [.int f6, .int s6, .ref rn, .ref rh, .int (nI (i_32 + 1)), .ref ca, .ref sa, .ref da, .ref xa])), (ca, .inl (cI, 501, .inl cf_32)), (sa, .inl (cI, 501, .inl gf_32)), (da, .inl (cI, 501, .inl f_18)), (rn, .inr (12, [.int st_19, .int ce_20, .int sp_21, .int lm_22, .int rm_23, .int fa_24, .ref tn])), (tn, .inl (cI, 1001, .inl f_25)), (mm, .inr (10, [.int 0, .int 2, .int 2, .ref la, .int wr, .int tl, .int le, .int fi, .int se, .ref oo, .ref hh])), (oo, .inl (cI, 24, .inl o))] := hD
          refine lv_aload_n hx hb dX6_writeDown_97 rfl (lv_at hl 0 rfl) ?_
          refine va_get (D := (dC, dI)) (ci := 11) (v := .ref ca) (C := RX6) (T := TX6) (N := 9) hx hb hts iWX6 hown hK hP 0 rfl rfl 5 (by decide) (hts (.fieldLink RX6 31 "Beaverhall$Returns" "cells" "[I") (by decide +kernel)) (fun _ h9 => h9) rfl dX6_writeDown_98 ?_
          refine lv_aload_n hx hb dX6_writeDown_101 rfl (lv_at hl 0 rfl) ?_
          refine va_get (D := (dC, dI)) (ci := 11) (v := .int (nI (i_32 + 1))) (C := RX6) (T := TX6) (N := 9) hx hb hts iWX6 hown hK hP 0 rfl rfl 4 (by decide) (hts (.fieldLink RX6 28 "Beaverhall$Returns" "length" "I") (by decide +kernel)) (fun _ h9 => h9) rfl dX6_writeDown_102 ?_
          refine lv_aload_n hx hb dX6_writeDown_105 rfl (lv_at hl 0 rfl) ?_
          refine va_get (D := (dC, dI)) (ci := 11) (v := .ref rn) (C := RX6) (T := TX6) (N := 9) hx hb hts iWX6 hown hK hP 0 rfl rfl 2 (by decide) (hts (.fieldLink RX6 21 "Beaverhall$Returns" "now" "LBeaverhall$Run;") (by decide +kernel)) (fun _ h9 => h9) rfl dX6_writeDown_106 ?_
          refine va_get (D := (dC, dI)) (ci := 12) (v := .int ce_20) (C := RX7) (T := TX7) (N := 7) hx hb hts iWX7 hown hK hP 4 rfl rfl 1 (by decide) (hts (.fieldLink RX6 67 "Beaverhall$Run" "cell" "I") (by decide +kernel)) (fun _ h9 => h9) rfl dX6_writeDown_109 ?_
          have hPc := hP.sub (ws' := [(ca, .inl (cI, 501, .inl cf_32))]) [1] rfl
          have hDc := hD.sub (ws' := [(ca, .inl (cI, 501, .inl cf_32))]) [1] (by decide) rfl
          have hKc := hK.sub (tys' := [(cI, .int)]) [0] rfl
          have hFc := va_free (wc := [(ca, .inl (cI, 501, .inl cf_32))]) hD hS hA [1] rfl
          refine va_callv (va_runSN (As := [.ref ca, .int (nI (i_32 + 1)), .int ce_20]) (rest := []) ⟨hx, hb, hml, hown, hts⟩ (c_X11_put l dC dI cI ca 501 cf_32 (nI (i_32 + 1)) ce_20 (by decide) H.size) ⟨va_cnB 3 hts gX6_writeDown_X11_put_n63 rfl rfl rfl (hN (.methodLinkNest RX6 63 yX11_put "Beaverhall") (by decide +kernel)) (hts (.initialized RX11) (by decide +kernel)) (by decide +kernel) ⟨Nat.le_of_ble_eq_true rfl, Nat.le_of_ble_eq_true rfl⟩, hts (.static yX11_put) (by decide +kernel), trivial⟩ (pcS hPc hDc hKc hN) rfl rfl hl.1 rfl (lv_room (Nat.le_of_ble_eq_true rfl)) dX6_writeDown_112 ⟨Nat.le_of_ble_eq_true rfl, Nat.le_of_ble_eq_true rfl⟩) hS (fun q _ h => hFc q h) hFc (fun u t H1 locs ht hvm hw_31 hB hz1 hk1 hS => ?_)
          obtain ⟨hP1, hK1, hD1⟩ := hB
          rw [ht] at hP1
          try dsimp only at hw_31
          obtain ⟨hP, hD⟩ := va_join (wr := [(ro, .inr (11, [.int f6, .int s6, .ref rn, .ref rh, .int (nI (i_32 + 1)), .ref ca, .ref sa, .ref da, .ref xa])), (sa, .inl (cI, 501, .inl gf_32)), (da, .inl (cI, 501, .inl f_18)), (rn, .inr (12, [.int st_19, .int ce_20, .int sp_21, .int lm_22, .int rm_23, .int fa_24, .ref tn])), (tn, .inl (cI, 1001, .inl f_25)), (mm, .inr (10, [.int 0, .int 2, .int 2, .ref la, .int wr, .int tl, .int le, .int fi, .int se, .ref oo, .ref hh])), (oo, .inl (cI, 24, .inl o))]) (w1 := [(ca, .inl (cI, 501, .inl u))]) hP hD [1] [0, 2, 3, 4, 5, 6, 7] rfl rfl (by decide) (by decide) hk1 hFc hP1 hD1
          generalize H1 = H at hP hS ⊢
          have hP : va_P (dC, dI) vwCl [(ro, .inr (11, [.int f6, .int s6, .ref rn, .ref rh, .int (nI (i_32 + 1)), .ref ca, .ref sa, .ref da, .ref xa])), (sa, .inl (cI, 501, .inl gf_32)), (da, .inl (cI, 501, .inl f_18)), (rn, .inr (12, [.int st_19, .int ce_20, .int sp_21, .int lm_22, .int rm_23, .int fa_24, .ref tn])), (tn, .inl (cI, 1001, .inl f_25)), (mm, .inr (10, [.int 0, .int 2, .int 2, .ref la, .int wr, .int tl, .int le, .int fi, .int se, .ref oo, .ref hh])), (oo, .inl (cI, 24, .inl o)), (ca, .inl (cI, 501, .inl u))] H := hP
          have hD : va_D A [(ro, .inr (11, [.int f6, .int s6, .ref rn, .ref rh, .int (nI (i_32 + 1)), .ref ca, .ref sa, .ref da, .ref xa])), (sa, .inl (cI, 501, .inl gf_32)), (da, .inl (cI, 501, .inl f_18)), (rn, .inr (12, [.int st_19, .int ce_20, .int sp_21, .int lm_22, .int rm_23, .int fa_24, .ref tn])), (tn, .inl (cI, 1001, .inl f_25)), (mm, .inr (10, [.int 0, .int 2, .int 2, .ref la, .int wr, .int tl, .int le, .int fi, .int se, .ref oo, .ref hh])), (oo, .inl (cI, 24, .inl o)), (ca, .inl (cI, 501, .inl u))] := hD
          obtain ⟨f_32, ef_32⟩ : ∃ z, z = u := ⟨_, rfl⟩
          subst ef_32
          rw [put_at (n := 501) (i := (nI (i_32 + 1))) (j := (i_32 + 1)) rfl (by omega) (by decide)] at hw_31
          refine lv_aload_n hx hb dX6_writeDown_115 rfl (lv_at hl 0 rfl) ?_
          refine va_get (D := (dC, dI)) (ci := 11) (v := .ref sa) (C := RX6) (T := TX6) (N := 9) hx hb hts iWX6 hown hK hP 0 rfl rfl 6 (by decide) (hts (.fieldLink RX6 35 "Beaverhall$Returns" "states" "[I") (by decide +kernel)) (fun _ h9 => h9) rfl dX6_writeDown_116 ?_
          refine lv_aload_n hx hb dX6_writeDown_119 rfl (lv_at hl 0 rfl) ?_
          refine va_get (D := (dC, dI)) (ci := 11) (v := .int (nI (i_32 + 1))) (C := RX6) (T := TX6) (N := 9) hx hb hts iWX6 hown hK hP 0 rfl rfl 4 (by decide) (hts (.fieldLink RX6 28 "Beaverhall$Returns" "length" "I") (by decide +kernel)) (fun _ h9 => h9) rfl dX6_writeDown_120 ?_
          refine lv_aload_n hx hb dX6_writeDown_123 rfl (lv_at hl 0 rfl) ?_
          refine va_get (D := (dC, dI)) (ci := 11) (v := .ref rn) (C := RX6) (T := TX6) (N := 9) hx hb hts iWX6 hown hK hP 0 rfl rfl 2 (by decide) (hts (.fieldLink RX6 21 "Beaverhall$Returns" "now" "LBeaverhall$Run;") (by decide +kernel)) (fun _ h9 => h9) rfl dX6_writeDown_124 ?_
          refine va_get (D := (dC, dI)) (ci := 12) (v := .int st_19) (C := RX7) (T := TX7) (N := 7) hx hb hts iWX7 hown hK hP 3 rfl rfl 0 (by decide) (hts (.fieldLink RX6 82 "Beaverhall$Run" "state" "I") (by decide +kernel)) (fun _ h9 => h9) rfl dX6_writeDown_127 ?_
          have hPc := hP.sub (ws' := [(sa, .inl (cI, 501, .inl gf_32))]) [1] rfl
          have hDc := hD.sub (ws' := [(sa, .inl (cI, 501, .inl gf_32))]) [1] (by decide) rfl
          have hKc := hK.sub (tys' := [(cI, .int)]) [0] rfl
          have hFc := va_free (wc := [(sa, .inl (cI, 501, .inl gf_32))]) hD hS hA [1] rfl
          refine va_callv (va_runSN (As := [.ref sa, .int (nI (i_32 + 1)), .int st_19]) (rest := []) ⟨hx, hb, hml, hown, hts⟩ (c_X11_put l dC dI cI sa 501 gf_32 (nI (i_32 + 1)) st_19 (by decide) H.size) ⟨va_cnB 3 hts gX6_writeDown_X11_put_n63 rfl rfl rfl (hN (.methodLinkNest RX6 63 yX11_put "Beaverhall") (by decide +kernel)) (hts (.initialized RX11) (by decide +kernel)) (by decide +kernel) ⟨Nat.le_of_ble_eq_true rfl, Nat.le_of_ble_eq_true rfl⟩, hts (.static yX11_put) (by decide +kernel), trivial⟩ (pcS hPc hDc hKc hN) rfl rfl hl.1 rfl (lv_room (Nat.le_of_ble_eq_true rfl)) dX6_writeDown_130 ⟨Nat.le_of_ble_eq_true rfl, Nat.le_of_ble_eq_true rfl⟩) hS (fun q _ h => hFc q h) hFc (fun u t H1 locs ht hvm hw_33 hB hz1 hk1 hS => ?_)
          obtain ⟨hP1, hK1, hD1⟩ := hB
          rw [ht] at hP1
          try dsimp only at hw_33
          obtain ⟨hP, hD⟩ := va_join (wr := [(ro, .inr (11, [.int f6, .int s6, .ref rn, .ref rh, .int (nI (i_32 + 1)), .ref ca, .ref sa, .ref da, .ref xa])), (da, .inl (cI, 501, .inl f_18)), (rn, .inr (12, [.int st_19, .int ce_20, .int sp_21, .int lm_22, .int rm_23, .int fa_24, .ref tn])), (tn, .inl (cI, 1001, .inl f_25)), (mm, .inr (10, [.int 0, .int 2, .int 2, .ref la, .int wr, .int tl, .int le, .int fi, .int se, .ref oo, .ref hh])), (oo, .inl (cI, 24, .inl o)), (ca, .inl (cI, 501, .inl f_32))]) (w1 := [(sa, .inl (cI, 501, .inl u))]) hP hD [1] [0, 2, 3, 4, 5, 6, 7] rfl rfl (by decide) (by decide) hk1 hFc hP1 hD1
          generalize H1 = H at hP hS ⊢
          have hP : va_P (dC, dI) vwCl [(ro, .inr (11, [.int f6, .int s6, .ref rn, .ref rh, .int (nI (i_32 + 1)), .ref ca, .ref sa, .ref da, .ref xa])), (da, .inl (cI, 501, .inl f_18)), (rn, .inr (12, [.int st_19, .int ce_20, .int sp_21, .int lm_22, .int rm_23, .int fa_24, .ref tn])), (tn, .inl (cI, 1001, .inl f_25)), (mm, .inr (10, [.int 0, .int 2, .int 2, .ref la, .int wr, .int tl, .int le, .int fi, .int se, .ref oo, .ref hh])), (oo, .inl (cI, 24, .inl o)), (ca, .inl (cI, 501, .inl f_32)), (sa, .inl (cI, 501, .inl u))] H := hP
          have hD : va_D A [(ro, .inr (11, [.int f6, .int s6, .ref rn, .ref rh, .int (nI (i_32 + 1)), .ref ca, .ref sa, .ref da, .ref xa])), (da, .inl (cI, 501, .inl f_18)), (rn, .inr (12, [.int st_19, .int ce_20, .int sp_21, .int lm_22, .int rm_23, .int fa_24, .ref tn])), (tn, .inl (cI, 1001, .inl f_25)), (mm, .inr (10, [.int 0, .int 2, .int 2, .ref la, .int wr, .int tl, .int le, .int fi, .int se, .ref oo, .ref hh])), (oo, .inl (cI, 24, .inl o)), (ca, .inl (cI, 501, .inl f_32)), (sa, .inl (cI, 501, .inl u))] := hD
          obtain ⟨f_34, ef_34⟩ : ∃ z, z = u := ⟨_, rfl⟩
          subst ef_34
          rw [put_at (n := 501) (i := (nI (i_32 + 1))) (j := (i_32 + 1)) rfl (by omega) (by decide)] at hw_33
          obtain ⟨y_35, ey_35⟩ : ∃ y : Int32, y = (nI i_32) + 1 := ⟨_, rfl⟩
          refine lv_iinc (v := y_35) (lv' := [(3, .int y_35), (0, .ref ro), (1, .ref mm), (2, .int (nI k))]) hx hb dX6_writeDown_133 hl (k := 3) rfl (by rw [ey_35]; rfl) (by decide) rfl (fun ls hl => ?_)
          obtain rfl : y_35 = nI (i_32 + 1) := by rw [ey_35]; exact nI_1 _
          refine lv_goto (tgt := 32) hx hb dX6_writeDown_136 (by decide) ?_
          exact ih32 ((i_32 + 1), st_19, ce_20, sp_21, lm_22, rm_23, fa_24, f_25, f_32, f_34, f_18) ⟨hik, alvR_succ hI.2.1 hb1, hR1, by rw [hw_31, hw_33, hw_17]; exact wdP_succ hI.2.2.2 (by rw [hw_16]; exact rel_sign hm hI.2.2.1) hR1.2.1 hR1.1⟩ (by show k - (i_32 + 1) < k - i_32; omega) _ _ (hP.sub [0, 2, 3, 6, 7, 1, 4, 5] rfl) (hD.sub [0, 2, 3, 6, 7, 1, 4, 5] (by decide) rfl) hS ls (lv_sub hl [1, 2, 3, 0] rfl)
        · exact absurd hR1.2.2.2.2.2.1 c84_29

set_option maxHeartbeats 4000000 in
set_option maxRecDepth 100000 in
/-- X6_periodAtEnd -/
theorem c_X6_periodAtEnd (l : Launch) (dC : Nat → ClassId) (dI : Nat → Nat → Nat) (cI : ClassId) (ro rn rh ca sa da xa tn th : Nat) (f6 s6 : Int32) (st ce sp lm rm fa : Int32) (nf : Nat → Int32) (st2 ce2 sp2 lm2 rm2 fa2 : Int32) (hf : Nat → Int32) (cf gf df : Nat → Int32) (S : Nat) (T o : Nat → Int32) (hm : mJ S o T) (n : Nat) (hn : n ≤ 500) (hal : alvR (nI 2) (cW T) (cM T) (cN T) n) (hR : relJ (st, ce, sp, lm, rm, fa, nf) (seqR (nI 2) (cW T) (cM T) (cN T) n)) (hwd : wdP T n cf gf df) (sz : Nat) : Met l yX6_periodAtEnd wsX6_periodAtEnd ({ frames := 2, cells := 0, slots := 0, locals := 81 }) (va_Pc [.ref ro] (cPC dC dI [(ro, .inr (11, [.int f6, .int s6, .ref rn, .ref rh, .int (nI n), .ref ca, .ref sa, .ref da, .ref xa])), (rn, .inr (12, [.int st, .int ce, .int sp, .int lm, .int rm, .int fa, .ref tn])), (tn, .inl (cI, 1001, .inl nf)), (rh, .inr (12, [.int st2, .int ce2, .int sp2, .int lm2, .int rm2, .int fa2, .ref th])), (th, .inl (cI, 1001, .inl hf)), (ca, .inl (cI, 501, .inl cf)), (sa, .inl (cI, 501, .inl gf)), (da, .inl (cI, 501, .inl df))] [(cI, .int)] sz)) (va_Qi (fun (r : Int32) (u : Nat → Int32) => (∃ i, i < n ∧ alikeR (seqR (nI 2) (cW T) (cM T) (cN T) n) (seqR (nI 2) (cW T) (cM T) (cN T) i) ∧ r = nI (n - i)) ∨ (r = 0 ∧ ∀ i, i < n → ¬ alikeR (seqR (nI 2) (cW T) (cM T) (cN T) n) (seqR (nI 2) (cW T) (cM T) (cN T) i))) (fun (u : Nat → Int32) t => cQB dC dI [(ro, .inr (11, [.int f6, .int s6, .ref rn, .ref rh, .int (nI n), .ref ca, .ref sa, .ref da, .ref xa])), (rn, .inr (12, [.int st, .int ce, .int sp, .int lm, .int rm, .int fa, .ref tn])), (tn, .inl (cI, 1001, .inl nf)), (rh, .inr (12, [.int st2, .int ce2, .int sp2, .int lm2, .int rm2, .int fa2, .ref th])), (th, .inl (cI, 1001, .inl u)), (ca, .inl (cI, 501, .inl cf)), (sa, .inl (cI, 501, .inl gf)), (da, .inl (cI, 501, .inl df))] [(cI, .int)] (va_A [(ro, .inr (11, [.int f6, .int s6, .ref rn, .ref rh, .int (nI n), .ref ca, .ref sa, .ref da, .ref xa])), (rn, .inr (12, [.int st, .int ce, .int sp, .int lm, .int rm, .int fa, .ref tn])), (tn, .inl (cI, 1001, .inl nf)), (rh, .inr (12, [.int st2, .int ce2, .int sp2, .int lm2, .int rm2, .int fa2, .ref th])), (th, .inl (cI, 1001, .inl hf)), (ca, .inl (cI, 501, .inl cf)), (sa, .inl (cI, 501, .inl gf)), (da, .inl (cI, 501, .inl df))] sz) t) (va_A [(ro, .inr (11, [.int f6, .int s6, .ref rn, .ref rh, .int (nI n), .ref ca, .ref sa, .ref da, .ref xa])), (rn, .inr (12, [.int st, .int ce, .int sp, .int lm, .int rm, .int fa, .ref tn])), (tn, .inl (cI, 1001, .inl nf)), (rh, .inr (12, [.int st2, .int ce2, .int sp2, .int lm2, .int rm2, .int fa2, .ref th])), (th, .inl (cI, 1001, .inl hf)), (ca, .inl (cI, 501, .inl cf)), (sa, .inl (cI, 501, .inl gf)), (da, .inl (cI, 501, .inl df))] sz)) 0 0 (va_A [(ro, .inr (11, [.int f6, .int s6, .ref rn, .ref rh, .int (nI n), .ref ca, .ref sa, .ref da, .ref xa])), (rn, .inr (12, [.int st, .int ce, .int sp, .int lm, .int rm, .int fa, .ref tn])), (tn, .inl (cI, 1001, .inl nf)), (rh, .inr (12, [.int st2, .int ce2, .int sp2, .int lm2, .int rm2, .int fa2, .ref th])), (th, .inl (cI, 1001, .inl hf)), (ca, .inl (cI, 501, .inl cf)), (sa, .inl (cI, 501, .inl gf)), (da, .inl (cI, 501, .inl df))] sz) := by
  refine Met.ofW (cc := cX6_periodAtEnd) (maxL := 4) (ret := (some .int)) (by decide) rfl ?_
  intro p e s m args below meth c s₁ B hml hv
  obtain ⟨rfl, hsz, hP, hK, hD0, hN⟩ := hv
  have hx := B.exec
  have hb := B.bytes
  have hr := B.returns
  have hts := atoms_spec (ws := wsX6_periodAtEnd) B.pre
  have hown : s.vm.findClass RX6 = some m.cls := findClass_of_methodNamed B.named
  have hlocks := B.notSynchronized
  subst hsz
  have hD := hD0.self (sz := s.heap.size)
  generalize hAe : va_A [(ro, .inr (11, [.int f6, .int s6, .ref rn, .ref rh, .int (nI n), .ref ca, .ref sa, .ref da, .ref xa])), (rn, .inr (12, [.int st, .int ce, .int sp, .int lm, .int rm, .int fa, .ref tn])), (tn, .inl (cI, 1001, .inl nf)), (rh, .inr (12, [.int st2, .int ce2, .int sp2, .int lm2, .int rm2, .int fa2, .ref th])), (th, .inl (cI, 1001, .inl hf)), (ca, .inl (cI, 501, .inl cf)), (sa, .inl (cI, 501, .inl gf)), (da, .inl (cI, 501, .inl df))] s.heap.size = A at hD ⊢
  have hA : ∀ q : Nat, s.heap.size ≤ q → A q := fun q h => by rw [← hAe]; exact Or.inr h
  have hS : va_S A s.heap s.heap [] := va_S.rf
  have hP : va_P (dC, dI) vwCl [(ro, .inr (11, [.int f6, .int s6, .ref rn, .ref rh, .int (nI n), .ref ca, .ref sa, .ref da, .ref xa])), (rn, .inr (12, [.int st, .int ce, .int sp, .int lm, .int rm, .int fa, .ref tn])), (tn, .inl (cI, 1001, .inl nf)), (rh, .inr (12, [.int st2, .int ce2, .int sp2, .int lm2, .int rm2, .int fa2, .ref th])), (th, .inl (cI, 1001, .inl hf)), (ca, .inl (cI, 501, .inl cf)), (sa, .inl (cI, 501, .inl gf)), (da, .inl (cI, 501, .inl df))] s.heap := hP
  have hD : va_D A [(ro, .inr (11, [.int f6, .int s6, .ref rn, .ref rh, .int (nI n), .ref ca, .ref sa, .ref da, .ref xa])), (rn, .inr (12, [.int st, .int ce, .int sp, .int lm, .int rm, .int fa, .ref tn])), (tn, .inl (cI, 1001, .inl nf)), (rh, .inr (12, [.int st2, .int ce2, .int sp2, .int lm2, .int rm2, .int fa2, .ref th])), (th, .inl (cI, 1001, .inl hf)), (ca, .inl (cI, 501, .inl cf)), (sa, .inl (cI, 501, .inl gf)), (da, .inl (cI, 501, .inl df))] := hD
  have hl := lv_entry ([.ref ro]) (n := 4) (Nat.le_of_ble_eq_true rfl)
  rw [lg_entry_eq]
  generalize (lg_sl ([.ref ro]) ++ List.replicate (4 - (lg_sl ([.ref ro])).length) Slot.unset).toArray = ls at hl ⊢
  have hl : lv_has ls 4 [(0, .ref ro)] := hl
  have iWX6 : ∀ w ∈ u_ws RX6 TX6 9, w ∈ wsX6_periodAtEnd := by decide +kernel
  have iWX7 : ∀ w ∈ u_ws RX7 TX7 7, w ∈ wsX6_periodAtEnd := by decide +kernel
  refine lv_aload_n hx hb dX6_periodAtEnd_0 rfl (lv_at hl 0 rfl) ?_
  refine va_get (D := (dC, dI)) (ci := 11) (v := .ref rh) (C := RX6) (T := TX6) (N := 9) hx hb hts iWX6 hown hK hP 0 rfl rfl 3 (by decide) (hts (.fieldLink RX6 25 "Beaverhall$Returns" "then" "LBeaverhall$Run;") (by decide +kernel)) (fun _ h9 => h9) rfl dX6_periodAtEnd_1 ?_
  refine lv_aload_n hx hb dX6_periodAtEnd_4 rfl (lv_at hl 0 rfl) ?_
  refine va_get (D := (dC, dI)) (ci := 11) (v := .ref rn) (C := RX6) (T := TX6) (N := 9) hx hb hts iWX6 hown hK hP 0 rfl rfl 2 (by decide) (hts (.fieldLink RX6 21 "Beaverhall$Returns" "now" "LBeaverhall$Run;") (by decide +kernel)) (fun _ h9 => h9) rfl dX6_periodAtEnd_5 ?_
  have hPc := hP.sub (ws' := [(rh, .inr (12, [.int st2, .int ce2, .int sp2, .int lm2, .int rm2, .int fa2, .ref th])), (th, .inl (cI, 1001, .inl hf)), (rn, .inr (12, [.int st, .int ce, .int sp, .int lm, .int rm, .int fa, .ref tn])), (tn, .inl (cI, 1001, .inl nf))]) [3, 4, 1, 2] rfl
  have hDc := hD.sub (ws' := [(rh, .inr (12, [.int st2, .int ce2, .int sp2, .int lm2, .int rm2, .int fa2, .ref th])), (th, .inl (cI, 1001, .inl hf)), (rn, .inr (12, [.int st, .int ce, .int sp, .int lm, .int rm, .int fa, .ref tn])), (tn, .inl (cI, 1001, .inl nf))]) [3, 4, 1, 2] (by decide) rfl
  have hKc := hK.sub (tys' := [(cI, .int)]) [0] rfl
  have hFc := va_free (wc := [(rh, .inr (12, [.int st2, .int ce2, .int sp2, .int lm2, .int rm2, .int fa2, .ref th])), (th, .inl (cI, 1001, .inl hf)), (rn, .inr (12, [.int st, .int ce, .int sp, .int lm, .int rm, .int fa, .ref tn])), (tn, .inl (cI, 1001, .inl nf))]) hD hS hA [3, 4, 1, 2] rfl
  refine va_callv (va_runV (As := [.ref rn]) (rest := []) ⟨hx, hb, hml, hown, hts⟩ (c_X7_takeTape l dC dI cI rh th st2 ce2 sp2 lm2 rm2 fa2 hf rn tn st ce sp lm rm fa nf s.heap.size) (cwV 1 hts gX6_periodAtEnd_X7_takeTape rfl rfl rfl (by decide +kernel) ⟨Nat.le_of_ble_eq_true rfl, Nat.le_of_ble_eq_true rfl⟩) (pcV hPc hDc hKc hN (ci := 12) (q0 := 0) rfl rfl) rfl rfl hl.1 rfl (lv_room (Nat.le_of_ble_eq_true rfl)) dX6_periodAtEnd_8 ⟨Nat.le_of_ble_eq_true rfl, Nat.le_of_ble_eq_true rfl⟩) hS (fun q _ h => hFc q h) hFc (fun u t H1 locs ht hvm hw_1 hB hz1 hk1 hS => ?_)
  obtain ⟨hP1, hK1, hD1⟩ := hB
  rw [ht] at hP1
  try dsimp only at hw_1
  obtain ⟨hP, hD⟩ := va_join (wr := [(ro, .inr (11, [.int f6, .int s6, .ref rn, .ref rh, .int (nI n), .ref ca, .ref sa, .ref da, .ref xa])), (ca, .inl (cI, 501, .inl cf)), (sa, .inl (cI, 501, .inl gf)), (da, .inl (cI, 501, .inl df))]) (w1 := [(rh, .inr (12, [.int st2, .int ce2, .int sp2, .int lm2, .int rm2, .int fa2, .ref th])), (th, .inl (cI, 1001, .inl u)), (rn, .inr (12, [.int st, .int ce, .int sp, .int lm, .int rm, .int fa, .ref tn])), (tn, .inl (cI, 1001, .inl nf))]) hP hD [3, 4, 1, 2] [0, 5, 6, 7] rfl rfl (by decide) (by decide) hk1 hFc hP1 hD1
  generalize H1 = H at hP hS ⊢
  have hP : va_P (dC, dI) vwCl [(ro, .inr (11, [.int f6, .int s6, .ref rn, .ref rh, .int (nI n), .ref ca, .ref sa, .ref da, .ref xa])), (ca, .inl (cI, 501, .inl cf)), (sa, .inl (cI, 501, .inl gf)), (da, .inl (cI, 501, .inl df)), (rh, .inr (12, [.int st2, .int ce2, .int sp2, .int lm2, .int rm2, .int fa2, .ref th])), (th, .inl (cI, 1001, .inl u)), (rn, .inr (12, [.int st, .int ce, .int sp, .int lm, .int rm, .int fa, .ref tn])), (tn, .inl (cI, 1001, .inl nf))] H := hP
  have hD : va_D A [(ro, .inr (11, [.int f6, .int s6, .ref rn, .ref rh, .int (nI n), .ref ca, .ref sa, .ref da, .ref xa])), (ca, .inl (cI, 501, .inl cf)), (sa, .inl (cI, 501, .inl gf)), (da, .inl (cI, 501, .inl df)), (rh, .inr (12, [.int st2, .int ce2, .int sp2, .int lm2, .int rm2, .int fa2, .ref th])), (th, .inl (cI, 1001, .inl u)), (rn, .inr (12, [.int st, .int ce, .int sp, .int lm, .int rm, .int fa, .ref tn])), (tn, .inl (cI, 1001, .inl nf))] := hD
  obtain ⟨f_2, ef_2⟩ : ∃ z, z = u := ⟨_, rfl⟩
  subst ef_2
  refine lv_iconst (v := 0) hx hb dX6_periodAtEnd_11 (by decide) ?_
  refine lv_istore_n (lv' := [(1, .int 0), (0, .ref ro)]) hx hb dX6_periodAtEnd_12 rfl hl (by decide) rfl (fun ls hl => ?_)
  refine lv_aload_n hx hb dX6_periodAtEnd_13 rfl (lv_at hl 1 rfl) ?_
  refine va_get (D := (dC, dI)) (ci := 11) (v := .int (nI n)) (C := RX6) (T := TX6) (N := 9) hx hb hts iWX6 hown hK hP 0 rfl rfl 4 (by decide) (hts (.fieldLink RX6 28 "Beaverhall$Returns" "length" "I") (by decide +kernel)) (fun _ h9 => h9) rfl dX6_periodAtEnd_14 ?_
  refine lv_iconst (v := 1) hx hb dX6_periodAtEnd_17 (by decide) ?_
  refine lv_isub hx hb dX6_periodAtEnd_18 ?_
  refine lv_istore_n (lv' := [(2, .int ((nI n) - 1)), (1, .int 0), (0, .ref ro)]) hx hb dX6_periodAtEnd_19 rfl hl (by decide) rfl (fun ls hl => ?_)
  refine lp_go (σ := Nat × Int32 × (Nat → Int32)) (fun x => match x with | (j_20, x_20, g_20) => j_20 ≤ n ∧ x_20 = nI (dfN g_20 nf 1001) ∧ (∀ q, q < 1001 → g_20 q = tapeN (nI 2) (cW T) (cM T) (cN T) j_20 q) ∧ ∀ i, j_20 ≤ i → i < n → ¬ alikeR (seqR (nI 2) (cW T) (cM T) (cN T) n) (seqR (nI 2) (cW T) (cM T) (cN T) i)) (fun x => match x with | (j_20, x_20, g_20) => j_20) (fun x => [(ro, .inr (11, [.int f6, .int s6, .ref rn, .ref rh, .int (nI n), .ref ca, .ref sa, .ref da, .ref xa])), (rn, .inr (12, [.int st, .int ce, .int sp, .int lm, .int rm, .int fa, .ref tn])), (tn, .inl (cI, 1001, .inl nf)), (rh, .inr (12, [.int st2, .int ce2, .int sp2, .int lm2, .int rm2, .int fa2, .ref th])), (th, .inl (cI, 1001, .inl x.2.2)), (ca, .inl (cI, 501, .inl cf)), (sa, .inl (cI, 501, .inl gf)), (da, .inl (cI, 501, .inl df))]) (fun x => [(0, .ref ro), (1, .int x.2.1), (2, .int (nI x.1 - 1))]) (fun _ => []) (fun x hI ih20 H locs hP hD hS ls hl => ?_) (n, 0, f_2) ⟨Nat.le_refl _, (congrArg nI (df_zero.mpr hw_1)).symm, fun q hq => by rw [hw_1 q hq]; exact hR.2.2.2.2.2.2 q hq, fun i h1 h2 => by omega⟩ (hP.sub [0, 6, 7, 4, 5, 1, 2, 3] rfl) (hD.sub [0, 6, 7, 4, 5, 1, 2, 3] (by decide) rfl) hS (lv_sub hl [2, 1, 0] rfl)
  obtain ⟨j_20, x_20, g_20⟩ := x
  have hP : va_P (dC, dI) vwCl [(ro, .inr (11, [.int f6, .int s6, .ref rn, .ref rh, .int (nI n), .ref ca, .ref sa, .ref da, .ref xa])), (rn, .inr (12, [.int st, .int ce, .int sp, .int lm, .int rm, .int fa, .ref tn])), (tn, .inl (cI, 1001, .inl nf)), (rh, .inr (12, [.int st2, .int ce2, .int sp2, .int lm2, .int rm2, .int fa2, .ref th])), (th, .inl (cI, 1001, .inl g_20)), (ca, .inl (cI, 501, .inl cf)), (sa, .inl (cI, 501, .inl gf)), (da, .inl (cI, 501, .inl df))] H := hP
  have hD : va_D A [(ro, .inr (11, [.int f6, .int s6, .ref rn, .ref rh, .int (nI n), .ref ca, .ref sa, .ref da, .ref xa])), (rn, .inr (12, [.int st, .int ce, .int sp, .int lm, .int rm, .int fa, .ref tn])), (tn, .inl (cI, 1001, .inl nf)), (rh, .inr (12, [.int st2, .int ce2, .int sp2, .int lm2, .int rm2, .int fa2, .ref th])), (th, .inl (cI, 1001, .inl g_20)), (ca, .inl (cI, 501, .inl cf)), (sa, .inl (cI, 501, .inl gf)), (da, .inl (cI, 501, .inl df))] := hD
  have hl : lv_has ls 4 [(0, .ref ro), (1, .int x_20), (2, .int (nI j_20 - 1))] := hl
  try dsimp only at hI
  have ih20 := ih20
  refine lv_iload_n hx hb dX6_periodAtEnd_20 rfl (lv_at hl 2 rfl) ?_
  refine lv_if_lt (tgt := 149) hx hb dX6_periodAtEnd_21 (by decide) (fun c21_3 => ?_) (fun c21_3 => ?_)
  · refine lv_iconst (v := 0) hx hb dX6_periodAtEnd_149 (by decide) ?_
    have hP9 := hP.sub (ws' := [(ro, .inr (11, [.int f6, .int s6, .ref rn, .ref rh, .int (nI n), .ref ca, .ref sa, .ref da, .ref xa])), (rn, .inr (12, [.int st, .int ce, .int sp, .int lm, .int rm, .int fa, .ref tn])), (tn, .inl (cI, 1001, .inl nf)), (rh, .inr (12, [.int st2, .int ce2, .int sp2, .int lm2, .int rm2, .int fa2, .ref th])), (th, .inl (cI, 1001, .inl g_20)), (ca, .inl (cI, 501, .inl cf)), (sa, .inl (cI, 501, .inl gf)), (da, .inl (cI, 501, .inl df))]) [0, 1, 2, 3, 4, 5, 6, 7] rfl
    have hD9 := hD.sub (ws' := [(ro, .inr (11, [.int f6, .int s6, .ref rn, .ref rh, .int (nI n), .ref ca, .ref sa, .ref da, .ref xa])), (rn, .inr (12, [.int st, .int ce, .int sp, .int lm, .int rm, .int fa, .ref tn])), (tn, .inl (cI, 1001, .inl nf)), (rh, .inr (12, [.int st2, .int ce2, .int sp2, .int lm2, .int rm2, .int fa2, .ref th])), (th, .inl (cI, 1001, .inl g_20)), (ca, .inl (cI, 501, .inl cf)), (sa, .inl (cI, 501, .inl gf)), (da, .inl (cI, 501, .inl df))]) [0, 1, 2, 3, 4, 5, 6, 7] (by decide) rfl
    have hK9 := hK.sub (tys' := [(cI, .int)]) [0] rfl
    exact W.iret (v := 0) hx hb hr (fun t ht hW => ⟨⟨0, g_20, rfl, (Or.inr ⟨rfl, fun i hi => hI.2.2.2 i (by have h9 := (neg_pred (j := j_20) (by have := hI.1; omega)).mp c21_3; omega) hi⟩), ⟨by rw [ht]; exact hP9, va_K.moved hW.alike hK9, hD9⟩⟩, hS.F ht⟩) hS.2.2 dX6_periodAtEnd_150
  · obtain ⟨i9, hi9⟩ : ∃ i, j_20 = i + 1 := ⟨j_20 - 1, by have h9 := mt (neg_pred (j := j_20) (by have := hI.1; omega)).mpr c21_3; omega⟩
    subst hi9
    have hin : i9 < n := hI.1
    have hb9 : bitR (nI 2) (cW T) (cM T) (cN T) i9 = 1 := hal i9 hin
    obtain ⟨c9, hc9⟩ : ∃ c, c = cellN (nI 2) (cW T) (cM T) (cN T) i9 := ⟨_, rfl⟩
    have hc1 : c9 ≤ 1000 := by have h9 := seqR_hi (okM_T hm.1 hm.2.1 (by have := hm.2.2.1; omega)) i9; rw [← hc9] at h9; omega
    have hce : (seqR (nI 2) (cW T) (cM T) (cN T) i9).2.1 = nI c9 - 500 := by rw [hc9]; exact seqR_ce (okM_T hm.1 hm.2.1 (by have := hm.2.2.1; omega)) i9
    refine lv_aload_n hx hb dX6_periodAtEnd_24 rfl (lv_at hl 0 rfl) ?_
    refine va_get (D := (dC, dI)) (ci := 11) (v := .ref ca) (C := RX6) (T := TX6) (N := 9) hx hb hts iWX6 hown hK hP 0 rfl rfl 5 (by decide) (hts (.fieldLink RX6 31 "Beaverhall$Returns" "cells" "[I") (by decide +kernel)) (fun _ h9 => h9) rfl dX6_periodAtEnd_25 ?_
    refine lv_iload_n hx hb dX6_periodAtEnd_28 rfl (lv_at hl 2 rfl) ?_
    have hPc := hP.sub (ws' := [(ca, .inl (cI, 501, .inl cf))]) [5] rfl
    have hDc := hD.sub (ws' := [(ca, .inl (cI, 501, .inl cf))]) [5] (by decide) rfl
    have hKc := hK.sub (tys' := [(cI, .int)]) [0] rfl
    have hFc := va_free (wc := [(ca, .inl (cI, 501, .inl cf))]) hD hS hA [5] rfl
    refine va_calli (va_runSN (As := [.ref ca, .int (nI (i9 + 1) - 1)]) (rest := []) ⟨hx, hb, hml, hown, hts⟩ (c_X11_at l dC dI cI ca 501 cf (nI (i9 + 1) - 1) (by decide) H.size) ⟨va_cnB 2 hts gX6_periodAtEnd_X11_at_n89 rfl rfl rfl (hN (.methodLinkNest RX6 89 yX11_at "Beaverhall") (by decide +kernel)) (hts (.initialized RX11) (by decide +kernel)) (by decide +kernel) ⟨Nat.le_of_ble_eq_true rfl, Nat.le_of_ble_eq_true rfl⟩, hts (.static yX11_at) (by decide +kernel), trivial⟩ (pcS hPc hDc hKc hN) rfl rfl hl.1 rfl (lv_room (Nat.le_of_ble_eq_true rfl)) dX6_periodAtEnd_29 ⟨Nat.le_of_ble_eq_true rfl, Nat.le_of_ble_eq_true rfl⟩) hS (fun q _ h => hFc q h) hFc (fun r_4 u t H1 locs ht hvm hw_5 hB hz1 hk1 hS => ?_)
    obtain ⟨hP1, hK1, hD1⟩ := hB
    rw [ht] at hP1
    try dsimp only at hw_5
    obtain ⟨hP, hD⟩ := va_join (wr := [(ro, .inr (11, [.int f6, .int s6, .ref rn, .ref rh, .int (nI n), .ref ca, .ref sa, .ref da, .ref xa])), (rn, .inr (12, [.int st, .int ce, .int sp, .int lm, .int rm, .int fa, .ref tn])), (tn, .inl (cI, 1001, .inl nf)), (rh, .inr (12, [.int st2, .int ce2, .int sp2, .int lm2, .int rm2, .int fa2, .ref th])), (th, .inl (cI, 1001, .inl g_20)), (sa, .inl (cI, 501, .inl gf)), (da, .inl (cI, 501, .inl df))]) (w1 := [(ca, .inl (cI, 501, .inl cf))]) hP hD [5] [0, 1, 2, 3, 4, 6, 7] rfl rfl (by decide) (by decide) hk1 hFc hP1 hD1
    generalize H1 = H at hP hS ⊢
    have hP : va_P (dC, dI) vwCl [(ro, .inr (11, [.int f6, .int s6, .ref rn, .ref rh, .int (nI n), .ref ca, .ref sa, .ref da, .ref xa])), (rn, .inr (12, [.int st, .int ce, .int sp, .int lm, .int rm, .int fa, .ref tn])), (tn, .inl (cI, 1001, .inl nf)), (rh, .inr (12, [.int st2, .int ce2, .int sp2, .int lm2, .int rm2, .int fa2, .ref th])), (th, .inl (cI, 1001, .inl g_20)), (sa, .inl (cI, 501, .inl gf)), (da, .inl (cI, 501, .inl df)), (ca, .inl (cI, 501, .inl cf))] H := hP
    have hD : va_D A [(ro, .inr (11, [.int f6, .int s6, .ref rn, .ref rh, .int (nI n), .ref ca, .ref sa, .ref da, .ref xa])), (rn, .inr (12, [.int st, .int ce, .int sp, .int lm, .int rm, .int fa, .ref tn])), (tn, .inl (cI, 1001, .inl nf)), (rh, .inr (12, [.int st2, .int ce2, .int sp2, .int lm2, .int rm2, .int fa2, .ref th])), (th, .inl (cI, 1001, .inl g_20)), (sa, .inl (cI, 501, .inl gf)), (da, .inl (cI, 501, .inl df)), (ca, .inl (cI, 501, .inl cf))] := hD
    rw [at_at (n := 501) (i := nI (i9 + 1) - 1) (j := i9) (nI_pred i9) (by omega) (by decide)] at hw_5
    obtain rfl : r_4 = nI c9 - 500 := by rw [hw_5, hwd.1 i9 (by omega)]; exact hce
    refine lv_istore_n (lv' := [(3, .int (nI c9 - 500)), (0, .ref ro), (1, .int x_20), (2, .int (nI (i9 + 1) - 1))]) hx hb dX6_periodAtEnd_32 rfl hl (by decide) rfl (fun ls hl => ?_)
    refine lv_iload_n hx hb dX6_periodAtEnd_33 rfl (lv_at hl 2 rfl) ?_
    refine lv_aload_n hx hb dX6_periodAtEnd_34 rfl (lv_at hl 1 rfl) ?_
    refine va_get (D := (dC, dI)) (ci := 11) (v := .ref rh) (C := RX6) (T := TX6) (N := 9) hx hb hts iWX6 hown hK hP 0 rfl rfl 3 (by decide) (hts (.fieldLink RX6 25 "Beaverhall$Returns" "then" "LBeaverhall$Run;") (by decide +kernel)) (fun _ h9 => h9) rfl dX6_periodAtEnd_35 ?_
    refine lv_iload_n hx hb dX6_periodAtEnd_38 rfl (lv_at hl 0 rfl) ?_
    have hPc := hP.sub (ws' := [(rh, .inr (12, [.int st2, .int ce2, .int sp2, .int lm2, .int rm2, .int fa2, .ref th])), (th, .inl (cI, 1001, .inl g_20))]) [3, 4] rfl
    have hDc := hD.sub (ws' := [(rh, .inr (12, [.int st2, .int ce2, .int sp2, .int lm2, .int rm2, .int fa2, .ref th])), (th, .inl (cI, 1001, .inl g_20))]) [3, 4] (by decide) rfl
    have hKc := hK.sub (tys' := [(cI, .int)]) [0] rfl
    have hFc := va_free (wc := [(rh, .inr (12, [.int st2, .int ce2, .int sp2, .int lm2, .int rm2, .int fa2, .ref th])), (th, .inl (cI, 1001, .inl g_20))]) hD hS hA [3, 4] rfl
    refine va_calli (va_runV (As := [.int (nI c9 - 500)]) (rest := [.int x_20]) ⟨hx, hb, hml, hown, hts⟩ (c_X7_signOf l dC dI cI rh th st2 ce2 sp2 lm2 rm2 fa2 g_20 (nI c9 - 500) H.size) (cwV 1 hts gX6_periodAtEnd_X7_signOf rfl rfl rfl (by decide +kernel) ⟨Nat.le_of_ble_eq_true rfl, Nat.le_of_ble_eq_true rfl⟩) (pcV hPc hDc hKc hN (ci := 12) (q0 := 0) rfl rfl) rfl rfl hl.1 rfl (lv_room (Nat.le_of_ble_eq_true rfl)) dX6_periodAtEnd_39 ⟨Nat.le_of_ble_eq_true rfl, Nat.le_of_ble_eq_true rfl⟩) hS (fun q _ h => hFc q h) hFc (fun r_6 u t H1 locs ht hvm hw_7 hB hz1 hk1 hS => ?_)
    obtain ⟨hP1, hK1, hD1⟩ := hB
    rw [ht] at hP1
    try dsimp only at hw_7
    obtain ⟨hP, hD⟩ := va_join (wr := [(ro, .inr (11, [.int f6, .int s6, .ref rn, .ref rh, .int (nI n), .ref ca, .ref sa, .ref da, .ref xa])), (rn, .inr (12, [.int st, .int ce, .int sp, .int lm, .int rm, .int fa, .ref tn])), (tn, .inl (cI, 1001, .inl nf)), (sa, .inl (cI, 501, .inl gf)), (da, .inl (cI, 501, .inl df)), (ca, .inl (cI, 501, .inl cf))]) (w1 := [(rh, .inr (12, [.int st2, .int ce2, .int sp2, .int lm2, .int rm2, .int fa2, .ref th])), (th, .inl (cI, 1001, .inl g_20))]) hP hD [3, 4] [0, 1, 2, 5, 6, 7] rfl rfl (by decide) (by decide) hk1 hFc hP1 hD1
    generalize H1 = H at hP hS ⊢
    have hP : va_P (dC, dI) vwCl [(ro, .inr (11, [.int f6, .int s6, .ref rn, .ref rh, .int (nI n), .ref ca, .ref sa, .ref da, .ref xa])), (rn, .inr (12, [.int st, .int ce, .int sp, .int lm, .int rm, .int fa, .ref tn])), (tn, .inl (cI, 1001, .inl nf)), (sa, .inl (cI, 501, .inl gf)), (da, .inl (cI, 501, .inl df)), (ca, .inl (cI, 501, .inl cf)), (rh, .inr (12, [.int st2, .int ce2, .int sp2, .int lm2, .int rm2, .int fa2, .ref th])), (th, .inl (cI, 1001, .inl g_20))] H := hP
    have hD : va_D A [(ro, .inr (11, [.int f6, .int s6, .ref rn, .ref rh, .int (nI n), .ref ca, .ref sa, .ref da, .ref xa])), (rn, .inr (12, [.int st, .int ce, .int sp, .int lm, .int rm, .int fa, .ref tn])), (tn, .inl (cI, 1001, .inl nf)), (sa, .inl (cI, 501, .inl gf)), (da, .inl (cI, 501, .inl df)), (ca, .inl (cI, 501, .inl cf)), (rh, .inr (12, [.int st2, .int ce2, .int sp2, .int lm2, .int rm2, .int fa2, .ref th])), (th, .inl (cI, 1001, .inl g_20))] := hD
    rw [signJ_at hc1] at hw_7
    refine lv_aload_n hx hb dX6_periodAtEnd_42 rfl (lv_at hl 1 rfl) ?_
    refine va_get (D := (dC, dI)) (ci := 11) (v := .ref rn) (C := RX6) (T := TX6) (N := 9) hx hb hts iWX6 hown hK hP 0 rfl rfl 2 (by decide) (hts (.fieldLink RX6 21 "Beaverhall$Returns" "now" "LBeaverhall$Run;") (by decide +kernel)) (fun _ h9 => h9) rfl dX6_periodAtEnd_43 ?_
    refine lv_iload_n hx hb dX6_periodAtEnd_46 rfl (lv_at hl 0 rfl) ?_
    have hPc := hP.sub (ws' := [(rn, .inr (12, [.int st, .int ce, .int sp, .int lm, .int rm, .int fa, .ref tn])), (tn, .inl (cI, 1001, .inl nf))]) [1, 2] rfl
    have hDc := hD.sub (ws' := [(rn, .inr (12, [.int st, .int ce, .int sp, .int lm, .int rm, .int fa, .ref tn])), (tn, .inl (cI, 1001, .inl nf))]) [1, 2] (by decide) rfl
    have hKc := hK.sub (tys' := [(cI, .int)]) [0] rfl
    have hFc := va_free (wc := [(rn, .inr (12, [.int st, .int ce, .int sp, .int lm, .int rm, .int fa, .ref tn])), (tn, .inl (cI, 1001, .inl nf))]) hD hS hA [1, 2] rfl
    refine va_calli (va_runV (As := [.int (nI c9 - 500)]) (rest := [.int r_6, .int x_20]) ⟨hx, hb, hml, hown, hts⟩ (c_X7_signOf l dC dI cI rn tn st ce sp lm rm fa nf (nI c9 - 500) H.size) (cwV 1 hts gX6_periodAtEnd_X7_signOf rfl rfl rfl (by decide +kernel) ⟨Nat.le_of_ble_eq_true rfl, Nat.le_of_ble_eq_true rfl⟩) (pcV hPc hDc hKc hN (ci := 12) (q0 := 0) rfl rfl) rfl rfl hl.1 rfl (lv_room (Nat.le_of_ble_eq_true rfl)) dX6_periodAtEnd_47 ⟨Nat.le_of_ble_eq_true rfl, Nat.le_of_ble_eq_true rfl⟩) hS (fun q _ h => hFc q h) hFc (fun r_8 u t H1 locs ht hvm hw_9 hB hz1 hk1 hS => ?_)
    obtain ⟨hP1, hK1, hD1⟩ := hB
    rw [ht] at hP1
    try dsimp only at hw_9
    obtain ⟨hP, hD⟩ := va_join (wr := [(ro, .inr (11, [.int f6, .int s6, .ref rn, .ref rh, .int (nI n), .ref ca, .ref sa, .ref da, .ref xa])), (sa, .inl (cI, 501, .inl gf)), (da, .inl (cI, 501, .inl df)), (ca, .inl (cI, 501, .inl cf)), (rh, .inr (12, [.int st2, .int ce2, .int sp2, .int lm2, .int rm2, .int fa2, .ref th])), (th, .inl (cI, 1001, .inl g_20))]) (w1 := [(rn, .inr (12, [.int st, .int ce, .int sp, .int lm, .int rm, .int fa, .ref tn])), (tn, .inl (cI, 1001, .inl nf))]) hP hD [1, 2] [0, 3, 4, 5, 6, 7] rfl rfl (by decide) (by decide) hk1 hFc hP1 hD1
    generalize H1 = H at hP hS ⊢
    have hP : va_P (dC, dI) vwCl [(ro, .inr (11, [.int f6, .int s6, .ref rn, .ref rh, .int (nI n), .ref ca, .ref sa, .ref da, .ref xa])), (sa, .inl (cI, 501, .inl gf)), (da, .inl (cI, 501, .inl df)), (ca, .inl (cI, 501, .inl cf)), (rh, .inr (12, [.int st2, .int ce2, .int sp2, .int lm2, .int rm2, .int fa2, .ref th])), (th, .inl (cI, 1001, .inl g_20)), (rn, .inr (12, [.int st, .int ce, .int sp, .int lm, .int rm, .int fa, .ref tn])), (tn, .inl (cI, 1001, .inl nf))] H := hP
    have hD : va_D A [(ro, .inr (11, [.int f6, .int s6, .ref rn, .ref rh, .int (nI n), .ref ca, .ref sa, .ref da, .ref xa])), (sa, .inl (cI, 501, .inl gf)), (da, .inl (cI, 501, .inl df)), (ca, .inl (cI, 501, .inl cf)), (rh, .inr (12, [.int st2, .int ce2, .int sp2, .int lm2, .int rm2, .int fa2, .ref th])), (th, .inl (cI, 1001, .inl g_20)), (rn, .inr (12, [.int st, .int ce, .int sp, .int lm, .int rm, .int fa, .ref tn])), (tn, .inl (cI, 1001, .inl nf))] := hD
    rw [signJ_at hc1] at hw_9
    refine lv_icmp_ne (tgt := 57) hx hb dX6_periodAtEnd_50 (by decide) (fun c50_10 => ?_) (fun c50_10 => ?_)
    · refine lv_iconst (v := 1) hx hb dX6_periodAtEnd_57 (by decide) ?_
      refine lv_isub hx hb dX6_periodAtEnd_58 ?_
      refine lv_topi (fun x_11 ex_11 => ?_)
      refine lv_istore_n (lv' := [(1, .int x_11), (3, .int (nI c9 - 500)), (0, .ref ro), (2, .int (nI (i9 + 1) - 1))]) hx hb dX6_periodAtEnd_59 rfl hl (by decide) rfl (fun ls hl => ?_)
      refine lv_aload_n hx hb dX6_periodAtEnd_60 rfl (lv_at hl 2 rfl) ?_
      refine va_get (D := (dC, dI)) (ci := 11) (v := .ref rh) (C := RX6) (T := TX6) (N := 9) hx hb hts iWX6 hown hK hP 0 rfl rfl 3 (by decide) (hts (.fieldLink RX6 25 "Beaverhall$Returns" "then" "LBeaverhall$Run;") (by decide +kernel)) (fun _ h9 => h9) rfl dX6_periodAtEnd_61 ?_
      refine lv_iload_n hx hb dX6_periodAtEnd_64 rfl (lv_at hl 1 rfl) ?_
      refine lv_aload_n hx hb dX6_periodAtEnd_65 rfl (lv_at hl 2 rfl) ?_
      refine va_get (D := (dC, dI)) (ci := 11) (v := .ref da) (C := RX6) (T := TX6) (N := 9) hx hb hts iWX6 hown hK hP 0 rfl rfl 7 (by decide) (hts (.fieldLink RX6 38 "Beaverhall$Returns" "reads" "[I") (by decide +kernel)) (fun _ h9 => h9) rfl dX6_periodAtEnd_66 ?_
      refine lv_iload_n hx hb dX6_periodAtEnd_69 rfl (lv_at hl 3 rfl) ?_
      have hPc := hP.sub (ws' := [(da, .inl (cI, 501, .inl df))]) [2] rfl
      have hDc := hD.sub (ws' := [(da, .inl (cI, 501, .inl df))]) [2] (by decide) rfl
      have hKc := hK.sub (tys' := [(cI, .int)]) [0] rfl
      have hFc := va_free (wc := [(da, .inl (cI, 501, .inl df))]) hD hS hA [2] rfl
      refine va_calli (va_runSN (As := [.ref da, .int (nI (i9 + 1) - 1)]) (rest := [.int (nI c9 - 500), .ref rh]) ⟨hx, hb, hml, hown, hts⟩ (c_X11_at l dC dI cI da 501 df (nI (i9 + 1) - 1) (by decide) H.size) ⟨va_cnB 2 hts gX6_periodAtEnd_X11_at_n89 rfl rfl rfl (hN (.methodLinkNest RX6 89 yX11_at "Beaverhall") (by decide +kernel)) (hts (.initialized RX11) (by decide +kernel)) (by decide +kernel) ⟨Nat.le_of_ble_eq_true rfl, Nat.le_of_ble_eq_true rfl⟩, hts (.static yX11_at) (by decide +kernel), trivial⟩ (pcS hPc hDc hKc hN) rfl rfl hl.1 rfl (lv_room (Nat.le_of_ble_eq_true rfl)) dX6_periodAtEnd_70 ⟨Nat.le_of_ble_eq_true rfl, Nat.le_of_ble_eq_true rfl⟩) hS (fun q _ h => hFc q h) hFc (fun r_12 u t H1 locs ht hvm hw_13 hB hz1 hk1 hS => ?_)
      obtain ⟨hP1, hK1, hD1⟩ := hB
      rw [ht] at hP1
      try dsimp only at hw_13
      obtain ⟨hP, hD⟩ := va_join (wr := [(ro, .inr (11, [.int f6, .int s6, .ref rn, .ref rh, .int (nI n), .ref ca, .ref sa, .ref da, .ref xa])), (sa, .inl (cI, 501, .inl gf)), (ca, .inl (cI, 501, .inl cf)), (rh, .inr (12, [.int st2, .int ce2, .int sp2, .int lm2, .int rm2, .int fa2, .ref th])), (th, .inl (cI, 1001, .inl g_20)), (rn, .inr (12, [.int st, .int ce, .int sp, .int lm, .int rm, .int fa, .ref tn])), (tn, .inl (cI, 1001, .inl nf))]) (w1 := [(da, .inl (cI, 501, .inl df))]) hP hD [2] [0, 1, 3, 4, 5, 6, 7] rfl rfl (by decide) (by decide) hk1 hFc hP1 hD1
      generalize H1 = H at hP hS ⊢
      have hP : va_P (dC, dI) vwCl [(ro, .inr (11, [.int f6, .int s6, .ref rn, .ref rh, .int (nI n), .ref ca, .ref sa, .ref da, .ref xa])), (sa, .inl (cI, 501, .inl gf)), (ca, .inl (cI, 501, .inl cf)), (rh, .inr (12, [.int st2, .int ce2, .int sp2, .int lm2, .int rm2, .int fa2, .ref th])), (th, .inl (cI, 1001, .inl g_20)), (rn, .inr (12, [.int st, .int ce, .int sp, .int lm, .int rm, .int fa, .ref tn])), (tn, .inl (cI, 1001, .inl nf)), (da, .inl (cI, 501, .inl df))] H := hP
      have hD : va_D A [(ro, .inr (11, [.int f6, .int s6, .ref rn, .ref rh, .int (nI n), .ref ca, .ref sa, .ref da, .ref xa])), (sa, .inl (cI, 501, .inl gf)), (ca, .inl (cI, 501, .inl cf)), (rh, .inr (12, [.int st2, .int ce2, .int sp2, .int lm2, .int rm2, .int fa2, .ref th])), (th, .inl (cI, 1001, .inl g_20)), (rn, .inr (12, [.int st, .int ce, .int sp, .int lm, .int rm, .int fa, .ref tn])), (tn, .inl (cI, 1001, .inl nf)), (da, .inl (cI, 501, .inl df))] := hD
      rw [at_at (n := 501) (i := nI (i9 + 1) - 1) (j := i9) (nI_pred i9) (by omega) (by decide)] at hw_13
      have hPc := hP.sub (ws' := [(rh, .inr (12, [.int st2, .int ce2, .int sp2, .int lm2, .int rm2, .int fa2, .ref th])), (th, .inl (cI, 1001, .inl g_20))]) [3, 4] rfl
      have hDc := hD.sub (ws' := [(rh, .inr (12, [.int st2, .int ce2, .int sp2, .int lm2, .int rm2, .int fa2, .ref th])), (th, .inl (cI, 1001, .inl g_20))]) [3, 4] (by decide) rfl
      have hKc := hK.sub (tys' := [(cI, .int)]) [0] rfl
      have hFc := va_free (wc := [(rh, .inr (12, [.int st2, .int ce2, .int sp2, .int lm2, .int rm2, .int fa2, .ref th])), (th, .inl (cI, 1001, .inl g_20))]) hD hS hA [3, 4] rfl
      refine va_callv (va_runV (As := [.int (nI c9 - 500), .int r_12]) (rest := []) ⟨hx, hb, hml, hown, hts⟩ (c_X7_write l dC dI cI rh th st2 ce2 sp2 lm2 rm2 fa2 g_20 (nI c9 - 500) r_12 H.size) (cwV 2 hts gX6_periodAtEnd_X7_write rfl rfl rfl (by decide +kernel) ⟨Nat.le_of_ble_eq_true rfl, Nat.le_of_ble_eq_true rfl⟩) (pcV hPc hDc hKc hN (ci := 12) (q0 := 0) rfl rfl) rfl rfl hl.1 rfl (lv_room (Nat.le_of_ble_eq_true rfl)) dX6_periodAtEnd_73 ⟨Nat.le_of_ble_eq_true rfl, Nat.le_of_ble_eq_true rfl⟩) hS (fun q _ h => hFc q h) hFc (fun u t H1 locs ht hvm hw_15 hB hz1 hk1 hS => ?_)
      obtain ⟨hP1, hK1, hD1⟩ := hB
      rw [ht] at hP1
      try dsimp only at hw_15
      obtain ⟨hP, hD⟩ := va_join (wr := [(ro, .inr (11, [.int f6, .int s6, .ref rn, .ref rh, .int (nI n), .ref ca, .ref sa, .ref da, .ref xa])), (sa, .inl (cI, 501, .inl gf)), (ca, .inl (cI, 501, .inl cf)), (rn, .inr (12, [.int st, .int ce, .int sp, .int lm, .int rm, .int fa, .ref tn])), (tn, .inl (cI, 1001, .inl nf)), (da, .inl (cI, 501, .inl df))]) (w1 := [(rh, .inr (12, [.int st2, .int ce2, .int sp2, .int lm2, .int rm2, .int fa2, .ref th])), (th, .inl (cI, 1001, .inl u))]) hP hD [3, 4] [0, 1, 2, 5, 6, 7] rfl rfl (by decide) (by decide) hk1 hFc hP1 hD1
      generalize H1 = H at hP hS ⊢
      have hP : va_P (dC, dI) vwCl [(ro, .inr (11, [.int f6, .int s6, .ref rn, .ref rh, .int (nI n), .ref ca, .ref sa, .ref da, .ref xa])), (sa, .inl (cI, 501, .inl gf)), (ca, .inl (cI, 501, .inl cf)), (rn, .inr (12, [.int st, .int ce, .int sp, .int lm, .int rm, .int fa, .ref tn])), (tn, .inl (cI, 1001, .inl nf)), (da, .inl (cI, 501, .inl df)), (rh, .inr (12, [.int st2, .int ce2, .int sp2, .int lm2, .int rm2, .int fa2, .ref th])), (th, .inl (cI, 1001, .inl u))] H := hP
      have hD : va_D A [(ro, .inr (11, [.int f6, .int s6, .ref rn, .ref rh, .int (nI n), .ref ca, .ref sa, .ref da, .ref xa])), (sa, .inl (cI, 501, .inl gf)), (ca, .inl (cI, 501, .inl cf)), (rn, .inr (12, [.int st, .int ce, .int sp, .int lm, .int rm, .int fa, .ref tn])), (tn, .inl (cI, 1001, .inl nf)), (da, .inl (cI, 501, .inl df)), (rh, .inr (12, [.int st2, .int ce2, .int sp2, .int lm2, .int rm2, .int fa2, .ref th])), (th, .inl (cI, 1001, .inl u))] := hD
      obtain ⟨f_14, ef_14⟩ : ∃ z, z = u := ⟨_, rfl⟩
      subst ef_14
      rw [writeJ_at hc1, hw_13, hwd.2.2 i9 hin, ← hc9] at hw_15
      have hT2 : ∀ q, q < 1001 → f_14 q = tapeN (nI 2) (cW T) (cM T) (cN T) i9 q := by rw [hw_15, hc9]; exact tape_back hb9 hI.2.2.1
      refine lv_iload_n hx hb dX6_periodAtEnd_76 rfl (lv_at hl 0 rfl) ?_
      refine lv_aload_n hx hb dX6_periodAtEnd_77 rfl (lv_at hl 2 rfl) ?_
      refine va_get (D := (dC, dI)) (ci := 11) (v := .ref rh) (C := RX6) (T := TX6) (N := 9) hx hb hts iWX6 hown hK hP 0 rfl rfl 3 (by decide) (hts (.fieldLink RX6 25 "Beaverhall$Returns" "then" "LBeaverhall$Run;") (by decide +kernel)) (fun _ h9 => h9) rfl dX6_periodAtEnd_78 ?_
      refine lv_iload_n hx hb dX6_periodAtEnd_81 rfl (lv_at hl 1 rfl) ?_
      have hPc := hP.sub (ws' := [(rh, .inr (12, [.int st2, .int ce2, .int sp2, .int lm2, .int rm2, .int fa2, .ref th])), (th, .inl (cI, 1001, .inl f_14))]) [6, 7] rfl
      have hDc := hD.sub (ws' := [(rh, .inr (12, [.int st2, .int ce2, .int sp2, .int lm2, .int rm2, .int fa2, .ref th])), (th, .inl (cI, 1001, .inl f_14))]) [6, 7] (by decide) rfl
      have hKc := hK.sub (tys' := [(cI, .int)]) [0] rfl
      have hFc := va_free (wc := [(rh, .inr (12, [.int st2, .int ce2, .int sp2, .int lm2, .int rm2, .int fa2, .ref th])), (th, .inl (cI, 1001, .inl f_14))]) hD hS hA [6, 7] rfl
      refine va_calli (va_runV (As := [.int (nI c9 - 500)]) (rest := [.int x_11]) ⟨hx, hb, hml, hown, hts⟩ (c_X7_signOf l dC dI cI rh th st2 ce2 sp2 lm2 rm2 fa2 f_14 (nI c9 - 500) H.size) (cwV 1 hts gX6_periodAtEnd_X7_signOf rfl rfl rfl (by decide +kernel) ⟨Nat.le_of_ble_eq_true rfl, Nat.le_of_ble_eq_true rfl⟩) (pcV hPc hDc hKc hN (ci := 12) (q0 := 0) rfl rfl) rfl rfl hl.1 rfl (lv_room (Nat.le_of_ble_eq_true rfl)) dX6_periodAtEnd_82 ⟨Nat.le_of_ble_eq_true rfl, Nat.le_of_ble_eq_true rfl⟩) hS (fun q _ h => hFc q h) hFc (fun r_16 u t H1 locs ht hvm hw_17 hB hz1 hk1 hS => ?_)
      obtain ⟨hP1, hK1, hD1⟩ := hB
      rw [ht] at hP1
      try dsimp only at hw_17
      obtain ⟨hP, hD⟩ := va_join (wr := [(ro, .inr (11, [.int f6, .int s6, .ref rn, .ref rh, .int (nI n), .ref ca, .ref sa, .ref da, .ref xa])), (sa, .inl (cI, 501, .inl gf)), (ca, .inl (cI, 501, .inl cf)), (rn, .inr (12, [.int st, .int ce, .int sp, .int lm, .int rm, .int fa, .ref tn])), (tn, .inl (cI, 1001, .inl nf)), (da, .inl (cI, 501, .inl df))]) (w1 := [(rh, .inr (12, [.int st2, .int ce2, .int sp2, .int lm2, .int rm2, .int fa2, .ref th])), (th, .inl (cI, 1001, .inl f_14))]) hP hD [6, 7] [0, 1, 2, 3, 4, 5] rfl rfl (by decide) (by decide) hk1 hFc hP1 hD1
      generalize H1 = H at hP hS ⊢
      have hP : va_P (dC, dI) vwCl [(ro, .inr (11, [.int f6, .int s6, .ref rn, .ref rh, .int (nI n), .ref ca, .ref sa, .ref da, .ref xa])), (sa, .inl (cI, 501, .inl gf)), (ca, .inl (cI, 501, .inl cf)), (rn, .inr (12, [.int st, .int ce, .int sp, .int lm, .int rm, .int fa, .ref tn])), (tn, .inl (cI, 1001, .inl nf)), (da, .inl (cI, 501, .inl df)), (rh, .inr (12, [.int st2, .int ce2, .int sp2, .int lm2, .int rm2, .int fa2, .ref th])), (th, .inl (cI, 1001, .inl f_14))] H := hP
      have hD : va_D A [(ro, .inr (11, [.int f6, .int s6, .ref rn, .ref rh, .int (nI n), .ref ca, .ref sa, .ref da, .ref xa])), (sa, .inl (cI, 501, .inl gf)), (ca, .inl (cI, 501, .inl cf)), (rn, .inr (12, [.int st, .int ce, .int sp, .int lm, .int rm, .int fa, .ref tn])), (tn, .inl (cI, 1001, .inl nf)), (da, .inl (cI, 501, .inl df)), (rh, .inr (12, [.int st2, .int ce2, .int sp2, .int lm2, .int rm2, .int fa2, .ref th])), (th, .inl (cI, 1001, .inl f_14))] := hD
      rw [signJ_at hc1] at hw_17
      refine lv_aload_n hx hb dX6_periodAtEnd_85 rfl (lv_at hl 2 rfl) ?_
      refine va_get (D := (dC, dI)) (ci := 11) (v := .ref rn) (C := RX6) (T := TX6) (N := 9) hx hb hts iWX6 hown hK hP 0 rfl rfl 2 (by decide) (hts (.fieldLink RX6 21 "Beaverhall$Returns" "now" "LBeaverhall$Run;") (by decide +kernel)) (fun _ h9 => h9) rfl dX6_periodAtEnd_86 ?_
      refine lv_iload_n hx hb dX6_periodAtEnd_89 rfl (lv_at hl 1 rfl) ?_
      have hPc := hP.sub (ws' := [(rn, .inr (12, [.int st, .int ce, .int sp, .int lm, .int rm, .int fa, .ref tn])), (tn, .inl (cI, 1001, .inl nf))]) [3, 4] rfl
      have hDc := hD.sub (ws' := [(rn, .inr (12, [.int st, .int ce, .int sp, .int lm, .int rm, .int fa, .ref tn])), (tn, .inl (cI, 1001, .inl nf))]) [3, 4] (by decide) rfl
      have hKc := hK.sub (tys' := [(cI, .int)]) [0] rfl
      have hFc := va_free (wc := [(rn, .inr (12, [.int st, .int ce, .int sp, .int lm, .int rm, .int fa, .ref tn])), (tn, .inl (cI, 1001, .inl nf))]) hD hS hA [3, 4] rfl
      refine va_calli (va_runV (As := [.int (nI c9 - 500)]) (rest := [.int r_16, .int x_11]) ⟨hx, hb, hml, hown, hts⟩ (c_X7_signOf l dC dI cI rn tn st ce sp lm rm fa nf (nI c9 - 500) H.size) (cwV 1 hts gX6_periodAtEnd_X7_signOf rfl rfl rfl (by decide +kernel) ⟨Nat.le_of_ble_eq_true rfl, Nat.le_of_ble_eq_true rfl⟩) (pcV hPc hDc hKc hN (ci := 12) (q0 := 0) rfl rfl) rfl rfl hl.1 rfl (lv_room (Nat.le_of_ble_eq_true rfl)) dX6_periodAtEnd_90 ⟨Nat.le_of_ble_eq_true rfl, Nat.le_of_ble_eq_true rfl⟩) hS (fun q _ h => hFc q h) hFc (fun r_18 u t H1 locs ht hvm hw_19 hB hz1 hk1 hS => ?_)
      obtain ⟨hP1, hK1, hD1⟩ := hB
      rw [ht] at hP1
      try dsimp only at hw_19
      obtain ⟨hP, hD⟩ := va_join (wr := [(ro, .inr (11, [.int f6, .int s6, .ref rn, .ref rh, .int (nI n), .ref ca, .ref sa, .ref da, .ref xa])), (sa, .inl (cI, 501, .inl gf)), (ca, .inl (cI, 501, .inl cf)), (da, .inl (cI, 501, .inl df)), (rh, .inr (12, [.int st2, .int ce2, .int sp2, .int lm2, .int rm2, .int fa2, .ref th])), (th, .inl (cI, 1001, .inl f_14))]) (w1 := [(rn, .inr (12, [.int st, .int ce, .int sp, .int lm, .int rm, .int fa, .ref tn])), (tn, .inl (cI, 1001, .inl nf))]) hP hD [3, 4] [0, 1, 2, 5, 6, 7] rfl rfl (by decide) (by decide) hk1 hFc hP1 hD1
      generalize H1 = H at hP hS ⊢
      have hP : va_P (dC, dI) vwCl [(ro, .inr (11, [.int f6, .int s6, .ref rn, .ref rh, .int (nI n), .ref ca, .ref sa, .ref da, .ref xa])), (sa, .inl (cI, 501, .inl gf)), (ca, .inl (cI, 501, .inl cf)), (da, .inl (cI, 501, .inl df)), (rh, .inr (12, [.int st2, .int ce2, .int sp2, .int lm2, .int rm2, .int fa2, .ref th])), (th, .inl (cI, 1001, .inl f_14)), (rn, .inr (12, [.int st, .int ce, .int sp, .int lm, .int rm, .int fa, .ref tn])), (tn, .inl (cI, 1001, .inl nf))] H := hP
      have hD : va_D A [(ro, .inr (11, [.int f6, .int s6, .ref rn, .ref rh, .int (nI n), .ref ca, .ref sa, .ref da, .ref xa])), (sa, .inl (cI, 501, .inl gf)), (ca, .inl (cI, 501, .inl cf)), (da, .inl (cI, 501, .inl df)), (rh, .inr (12, [.int st2, .int ce2, .int sp2, .int lm2, .int rm2, .int fa2, .ref th])), (th, .inl (cI, 1001, .inl f_14)), (rn, .inr (12, [.int st, .int ce, .int sp, .int lm, .int rm, .int fa, .ref tn])), (tn, .inl (cI, 1001, .inl nf))] := hD
      rw [signJ_at hc1] at hw_19
      refine lv_icmp_ne (tgt := 100) hx hb dX6_periodAtEnd_93 (by decide) (fun c93_20 => ?_) (fun c93_20 => ?_)
      · refine lv_iconst (v := 1) hx hb dX6_periodAtEnd_100 (by decide) ?_
        refine lv_iadd hx hb dX6_periodAtEnd_101 ?_
        refine lv_topi (fun x_21 ex_21 => ?_)
        have hx2 : x_21 = nI (dfN f_14 nf 1001) := un_eq (d := dfN g_20 nf 1001) (a := 1) (b := 1) (x := x_11) (by have h9 := df_upd (g := g_20) (f := nf) (m := 1001) (c := c9) (v := tapeN (nI 2) (cW T) (cM T) (cN T) i9 c9) (by omega); rw [if_neg (by rw [← hw_7, ← hw_9]; exact c50_10), if_neg (by have h9 := c93_20; rw [hw_17, hw_19, hw_15, pk_us] at h9; exact h9), ← hw_15] at h9; exact h9) (by rw [ex_11, hI.2.1] <;> rfl) (by rw [ex_21] <;> rfl)
        refine lv_istore_n (lv' := [(1, .int x_21), (3, .int (nI c9 - 500)), (0, .ref ro), (2, .int (nI (i9 + 1) - 1))]) hx hb dX6_periodAtEnd_102 rfl hl (by decide) rfl (fun ls hl => ?_)
        refine lv_iload_n hx hb dX6_periodAtEnd_103 rfl (lv_at hl 0 rfl) ?_
        refine lv_if_ne (tgt := 143) hx hb dX6_periodAtEnd_104 (by decide) (fun c104_22 => ?_) (fun c104_22 => ?_)
        · have hna : ¬ alikeR (seqR (nI 2) (cW T) (cM T) (cN T) n) (seqR (nI 2) (cW T) (cM T) (cN T) i9) := fun h => c104_22 (hx2.trans (congrArg nI (df_zero.mpr (fun q hq => by rw [hT2 q hq, ← ((al_iff (okM_T hm.1 hm.2.1 (by have := hm.2.2.1; omega)) n i9).mp h).2.2 q hq]; exact (hR.2.2.2.2.2.2 q hq).symm))))
          obtain ⟨y_23, ey_23⟩ : ∃ y : Int32, y = (nI (i9 + 1) - 1) + (-1) := ⟨_, rfl⟩
          refine lv_iinc (v := y_23) (lv' := [(2, .int y_23), (1, .int x_21), (3, .int (nI c9 - 500)), (0, .ref ro)]) hx hb dX6_periodAtEnd_143 hl (k := 3) rfl (by rw [ey_23]; rfl) (by decide) rfl (fun ls hl => ?_)
          obtain rfl : y_23 = nI i9 - 1 := by rw [ey_23, nI_pred]; exact (Int32.sub_eq_add_neg _ _).symm
          refine lv_goto (tgt := 20) hx hb dX6_periodAtEnd_146 (by decide) ?_
          exact ih20 (i9, x_21, f_14) ⟨by omega, hx2, hT2, fun i h1 h2 => (Nat.lt_or_ge i9 i).elim (fun h => hI.2.2.2 i h h2) (fun h => by have h3 : i = i9 := (by omega); rw [h3]; exact hna)⟩ (Nat.lt_succ_self i9) _ _ (hP.sub [0, 6, 7, 4, 5, 2, 1, 3] rfl) (hD.sub [0, 6, 7, 4, 5, 2, 1, 3] (by decide) rfl) hS ls (lv_sub hl [3, 1, 0] rfl)
        · have hdf : ∀ q, q < 1001 → tapeN (nI 2) (cW T) (cM T) (cN T) n q = tapeN (nI 2) (cW T) (cM T) (cN T) i9 q := fun q hq => by have h9 := c104_22; rw [hx2, show (0 : Int32) = nI 0 from rfl, nI_eq (Nat.lt_of_le_of_lt df_le (by decide)) (by decide)] at h9; rw [← hT2 q hq, df_zero.mp h9 q hq]; exact (hR.2.2.2.2.2.2 q hq).symm
          refine lv_iload_n hx hb dX6_periodAtEnd_107 rfl (lv_at hl 1 rfl) ?_
          refine lv_aload_n hx hb dX6_periodAtEnd_108 rfl (lv_at hl 2 rfl) ?_
          refine va_get (D := (dC, dI)) (ci := 11) (v := .ref rn) (C := RX6) (T := TX6) (N := 9) hx hb hts iWX6 hown hK hP 0 rfl rfl 2 (by decide) (hts (.fieldLink RX6 21 "Beaverhall$Returns" "now" "LBeaverhall$Run;") (by decide +kernel)) (fun _ h9 => h9) rfl dX6_periodAtEnd_109 ?_
          refine va_get (D := (dC, dI)) (ci := 12) (v := .int ce) (C := RX7) (T := TX7) (N := 7) hx hb hts iWX7 hown hK hP 6 rfl rfl 1 (by decide) (hts (.fieldLink RX6 67 "Beaverhall$Run" "cell" "I") (by decide +kernel)) (fun _ h9 => h9) rfl dX6_periodAtEnd_112 ?_
          refine lv_icmp_ne (tgt := 143) hx hb dX6_periodAtEnd_115 (by decide) (fun c115_24 => ?_) (fun c115_24 => ?_)
          · have hna : ¬ alikeR (seqR (nI 2) (cW T) (cM T) (cN T) n) (seqR (nI 2) (cW T) (cM T) (cN T) i9) := fun h => c115_24 (by have h9 := h.2.1; rw [hce, ← hR.2.1] at h9; exact h9.symm)
            obtain ⟨y_25, ey_25⟩ : ∃ y : Int32, y = (nI (i9 + 1) - 1) + (-1) := ⟨_, rfl⟩
            refine lv_iinc (v := y_25) (lv' := [(2, .int y_25), (1, .int x_21), (3, .int (nI c9 - 500)), (0, .ref ro)]) hx hb dX6_periodAtEnd_143 hl (k := 3) rfl (by rw [ey_25]; rfl) (by decide) rfl (fun ls hl => ?_)
            obtain rfl : y_25 = nI i9 - 1 := by rw [ey_25, nI_pred]; exact (Int32.sub_eq_add_neg _ _).symm
            refine lv_goto (tgt := 20) hx hb dX6_periodAtEnd_146 (by decide) ?_
            exact ih20 (i9, x_21, f_14) ⟨by omega, hx2, hT2, fun i h1 h2 => (Nat.lt_or_ge i9 i).elim (fun h => hI.2.2.2 i h h2) (fun h => by have h3 : i = i9 := (by omega); rw [h3]; exact hna)⟩ (Nat.lt_succ_self i9) _ _ (hP.sub [0, 6, 7, 4, 5, 2, 1, 3] rfl) (hD.sub [0, 6, 7, 4, 5, 2, 1, 3] (by decide) rfl) hS ls (lv_sub hl [3, 1, 0] rfl)
          · refine lv_aload_n hx hb dX6_periodAtEnd_118 rfl (lv_at hl 2 rfl) ?_
            refine va_get (D := (dC, dI)) (ci := 11) (v := .ref sa) (C := RX6) (T := TX6) (N := 9) hx hb hts iWX6 hown hK hP 0 rfl rfl 6 (by decide) (hts (.fieldLink RX6 35 "Beaverhall$Returns" "states" "[I") (by decide +kernel)) (fun _ h9 => h9) rfl dX6_periodAtEnd_119 ?_
            refine lv_iload_n hx hb dX6_periodAtEnd_122 rfl (lv_at hl 3 rfl) ?_
            have hPc := hP.sub (ws' := [(sa, .inl (cI, 501, .inl gf))]) [1] rfl
            have hDc := hD.sub (ws' := [(sa, .inl (cI, 501, .inl gf))]) [1] (by decide) rfl
            have hKc := hK.sub (tys' := [(cI, .int)]) [0] rfl
            have hFc := va_free (wc := [(sa, .inl (cI, 501, .inl gf))]) hD hS hA [1] rfl
            refine va_calli (va_runSN (As := [.ref sa, .int (nI (i9 + 1) - 1)]) (rest := []) ⟨hx, hb, hml, hown, hts⟩ (c_X11_at l dC dI cI sa 501 gf (nI (i9 + 1) - 1) (by decide) H.size) ⟨va_cnB 2 hts gX6_periodAtEnd_X11_at_n89 rfl rfl rfl (hN (.methodLinkNest RX6 89 yX11_at "Beaverhall") (by decide +kernel)) (hts (.initialized RX11) (by decide +kernel)) (by decide +kernel) ⟨Nat.le_of_ble_eq_true rfl, Nat.le_of_ble_eq_true rfl⟩, hts (.static yX11_at) (by decide +kernel), trivial⟩ (pcS hPc hDc hKc hN) rfl rfl hl.1 rfl (lv_room (Nat.le_of_ble_eq_true rfl)) dX6_periodAtEnd_123 ⟨Nat.le_of_ble_eq_true rfl, Nat.le_of_ble_eq_true rfl⟩) hS (fun q _ h => hFc q h) hFc (fun r_26 u t H1 locs ht hvm hw_27 hB hz1 hk1 hS => ?_)
            obtain ⟨hP1, hK1, hD1⟩ := hB
            rw [ht] at hP1
            try dsimp only at hw_27
            obtain ⟨hP, hD⟩ := va_join (wr := [(ro, .inr (11, [.int f6, .int s6, .ref rn, .ref rh, .int (nI n), .ref ca, .ref sa, .ref da, .ref xa])), (ca, .inl (cI, 501, .inl cf)), (da, .inl (cI, 501, .inl df)), (rh, .inr (12, [.int st2, .int ce2, .int sp2, .int lm2, .int rm2, .int fa2, .ref th])), (th, .inl (cI, 1001, .inl f_14)), (rn, .inr (12, [.int st, .int ce, .int sp, .int lm, .int rm, .int fa, .ref tn])), (tn, .inl (cI, 1001, .inl nf))]) (w1 := [(sa, .inl (cI, 501, .inl gf))]) hP hD [1] [0, 2, 3, 4, 5, 6, 7] rfl rfl (by decide) (by decide) hk1 hFc hP1 hD1
            generalize H1 = H at hP hS ⊢
            have hP : va_P (dC, dI) vwCl [(ro, .inr (11, [.int f6, .int s6, .ref rn, .ref rh, .int (nI n), .ref ca, .ref sa, .ref da, .ref xa])), (ca, .inl (cI, 501, .inl cf)), (da, .inl (cI, 501, .inl df)), (rh, .inr (12, [.int st2, .int ce2, .int sp2, .int lm2, .int rm2, .int fa2, .ref th])), (th, .inl (cI, 1001, .inl f_14)), (rn, .inr (12, [.int st, .int ce, .int sp, .int lm, .int rm, .int fa, .ref tn])), (tn, .inl (cI, 1001, .inl nf)), (sa, .inl (cI, 501, .inl gf))] H := hP
            have hD : va_D A [(ro, .inr (11, [.int f6, .int s6, .ref rn, .ref rh, .int (nI n), .ref ca, .ref sa, .ref da, .ref xa])), (ca, .inl (cI, 501, .inl cf)), (da, .inl (cI, 501, .inl df)), (rh, .inr (12, [.int st2, .int ce2, .int sp2, .int lm2, .int rm2, .int fa2, .ref th])), (th, .inl (cI, 1001, .inl f_14)), (rn, .inr (12, [.int st, .int ce, .int sp, .int lm, .int rm, .int fa, .ref tn])), (tn, .inl (cI, 1001, .inl nf)), (sa, .inl (cI, 501, .inl gf))] := hD
            rw [at_at (n := 501) (i := nI (i9 + 1) - 1) (j := i9) (nI_pred i9) (by omega) (by decide)] at hw_27
            refine lv_aload_n hx hb dX6_periodAtEnd_126 rfl (lv_at hl 2 rfl) ?_
            refine va_get (D := (dC, dI)) (ci := 11) (v := .ref rn) (C := RX6) (T := TX6) (N := 9) hx hb hts iWX6 hown hK hP 0 rfl rfl 2 (by decide) (hts (.fieldLink RX6 21 "Beaverhall$Returns" "now" "LBeaverhall$Run;") (by decide +kernel)) (fun _ h9 => h9) rfl dX6_periodAtEnd_127 ?_
            refine va_get (D := (dC, dI)) (ci := 12) (v := .int st) (C := RX7) (T := TX7) (N := 7) hx hb hts iWX7 hown hK hP 5 rfl rfl 0 (by decide) (hts (.fieldLink RX6 82 "Beaverhall$Run" "state" "I") (by decide +kernel)) (fun _ h9 => h9) rfl dX6_periodAtEnd_130 ?_
            refine lv_icmp_ne (tgt := 143) hx hb dX6_periodAtEnd_133 (by decide) (fun c133_28 => ?_) (fun c133_28 => ?_)
            · have hna : ¬ alikeR (seqR (nI 2) (cW T) (cM T) (cN T) n) (seqR (nI 2) (cW T) (cM T) (cN T) i9) := fun h => c133_28 (by rw [hw_27, hwd.2.1 i9 (by omega)]; exact h.1.symm.trans hR.1.symm)
              obtain ⟨y_29, ey_29⟩ : ∃ y : Int32, y = (nI (i9 + 1) - 1) + (-1) := ⟨_, rfl⟩
              refine lv_iinc (v := y_29) (lv' := [(2, .int y_29), (1, .int x_21), (3, .int (nI c9 - 500)), (0, .ref ro)]) hx hb dX6_periodAtEnd_143 hl (k := 3) rfl (by rw [ey_29]; rfl) (by decide) rfl (fun ls hl => ?_)
              obtain rfl : y_29 = nI i9 - 1 := by rw [ey_29, nI_pred]; exact (Int32.sub_eq_add_neg _ _).symm
              refine lv_goto (tgt := 20) hx hb dX6_periodAtEnd_146 (by decide) ?_
              exact ih20 (i9, x_21, f_14) ⟨by omega, hx2, hT2, fun i h1 h2 => (Nat.lt_or_ge i9 i).elim (fun h => hI.2.2.2 i h h2) (fun h => by have h3 : i = i9 := (by omega); rw [h3]; exact hna)⟩ (Nat.lt_succ_self i9) _ _ (hP.sub [0, 5, 6, 3, 4, 1, 7, 2] rfl) (hD.sub [0, 5, 6, 3, 4, 1, 7, 2] (by decide) rfl) hS ls (lv_sub hl [3, 1, 0] rfl)
            · refine lv_aload_n hx hb dX6_periodAtEnd_136 rfl (lv_at hl 2 rfl) ?_
              refine va_get (D := (dC, dI)) (ci := 11) (v := .int (nI n)) (C := RX6) (T := TX6) (N := 9) hx hb hts iWX6 hown hK hP 0 rfl rfl 4 (by decide) (hts (.fieldLink RX6 28 "Beaverhall$Returns" "length" "I") (by decide +kernel)) (fun _ h9 => h9) rfl dX6_periodAtEnd_137 ?_
              refine lv_iload_n hx hb dX6_periodAtEnd_140 rfl (lv_at hl 3 rfl) ?_
              refine lv_isub hx hb dX6_periodAtEnd_141 ?_
              have hP9 := hP.sub (ws' := [(ro, .inr (11, [.int f6, .int s6, .ref rn, .ref rh, .int (nI n), .ref ca, .ref sa, .ref da, .ref xa])), (rn, .inr (12, [.int st, .int ce, .int sp, .int lm, .int rm, .int fa, .ref tn])), (tn, .inl (cI, 1001, .inl nf)), (rh, .inr (12, [.int st2, .int ce2, .int sp2, .int lm2, .int rm2, .int fa2, .ref th])), (th, .inl (cI, 1001, .inl f_14)), (ca, .inl (cI, 501, .inl cf)), (sa, .inl (cI, 501, .inl gf)), (da, .inl (cI, 501, .inl df))]) [0, 5, 6, 3, 4, 1, 7, 2] rfl
              have hD9 := hD.sub (ws' := [(ro, .inr (11, [.int f6, .int s6, .ref rn, .ref rh, .int (nI n), .ref ca, .ref sa, .ref da, .ref xa])), (rn, .inr (12, [.int st, .int ce, .int sp, .int lm, .int rm, .int fa, .ref tn])), (tn, .inl (cI, 1001, .inl nf)), (rh, .inr (12, [.int st2, .int ce2, .int sp2, .int lm2, .int rm2, .int fa2, .ref th])), (th, .inl (cI, 1001, .inl f_14)), (ca, .inl (cI, 501, .inl cf)), (sa, .inl (cI, 501, .inl gf)), (da, .inl (cI, 501, .inl df))]) [0, 5, 6, 3, 4, 1, 7, 2] (by decide) rfl
              have hK9 := hK.sub (tys' := [(cI, .int)]) [0] rfl
              exact W.iret (v := ((nI n) - (nI (i9 + 1) - 1))) hx hb hr (fun t ht hW => ⟨⟨((nI n) - (nI (i9 + 1) - 1)), f_14, rfl, (Or.inl ⟨i9, hin, (al_iff (okM_T hm.1 hm.2.1 (by have := hm.2.2.1; omega)) n i9).mpr ⟨by have h9 := c133_28; rw [hw_27, hwd.2.1 i9 (by omega)] at h9; exact (h9.trans hR.1).symm, by rw [hce]; exact (hR.2.1.symm.trans (c115_24).symm), hdf⟩, by rw [nI_pred, pk_sub (by omega)]⟩), ⟨by rw [ht]; exact hP9, va_K.moved hW.alike hK9, hD9⟩⟩, hS.F ht⟩) hS.2.2 dX6_periodAtEnd_142
      · refine lv_iconst (v := 0) hx hb dX6_periodAtEnd_96 (by decide) ?_
        refine lv_goto (tgt := 101) hx hb dX6_periodAtEnd_97 (by decide) ?_
        refine lv_iadd hx hb dX6_periodAtEnd_101 ?_
        refine lv_topi (fun x_30 ex_30 => ?_)
        have hx2 : x_30 = nI (dfN f_14 nf 1001) := un_eq (d := dfN g_20 nf 1001) (a := 1) (b := 0) (x := x_11) (by have h9 := df_upd (g := g_20) (f := nf) (m := 1001) (c := c9) (v := tapeN (nI 2) (cW T) (cM T) (cN T) i9 c9) (by omega); rw [if_neg (by rw [← hw_7, ← hw_9]; exact c50_10), if_pos (by have h9 := c93_20; rw [hw_17, hw_19, hw_15, pk_us] at h9; exact h9), ← hw_15] at h9; exact h9) (by rw [ex_11, hI.2.1] <;> rfl) (by rw [ex_30] <;> rfl)
        refine lv_istore_n (lv' := [(1, .int x_30), (3, .int (nI c9 - 500)), (0, .ref ro), (2, .int (nI (i9 + 1) - 1))]) hx hb dX6_periodAtEnd_102 rfl hl (by decide) rfl (fun ls hl => ?_)
        refine lv_iload_n hx hb dX6_periodAtEnd_103 rfl (lv_at hl 0 rfl) ?_
        refine lv_if_ne (tgt := 143) hx hb dX6_periodAtEnd_104 (by decide) (fun c104_31 => ?_) (fun c104_31 => ?_)
        · have hna : ¬ alikeR (seqR (nI 2) (cW T) (cM T) (cN T) n) (seqR (nI 2) (cW T) (cM T) (cN T) i9) := fun h => c104_31 (hx2.trans (congrArg nI (df_zero.mpr (fun q hq => by rw [hT2 q hq, ← ((al_iff (okM_T hm.1 hm.2.1 (by have := hm.2.2.1; omega)) n i9).mp h).2.2 q hq]; exact (hR.2.2.2.2.2.2 q hq).symm))))
          obtain ⟨y_32, ey_32⟩ : ∃ y : Int32, y = (nI (i9 + 1) - 1) + (-1) := ⟨_, rfl⟩
          refine lv_iinc (v := y_32) (lv' := [(2, .int y_32), (1, .int x_30), (3, .int (nI c9 - 500)), (0, .ref ro)]) hx hb dX6_periodAtEnd_143 hl (k := 3) rfl (by rw [ey_32]; rfl) (by decide) rfl (fun ls hl => ?_)
          obtain rfl : y_32 = nI i9 - 1 := by rw [ey_32, nI_pred]; exact (Int32.sub_eq_add_neg _ _).symm
          refine lv_goto (tgt := 20) hx hb dX6_periodAtEnd_146 (by decide) ?_
          exact ih20 (i9, x_30, f_14) ⟨by omega, hx2, hT2, fun i h1 h2 => (Nat.lt_or_ge i9 i).elim (fun h => hI.2.2.2 i h h2) (fun h => by have h3 : i = i9 := (by omega); rw [h3]; exact hna)⟩ (Nat.lt_succ_self i9) _ _ (hP.sub [0, 6, 7, 4, 5, 2, 1, 3] rfl) (hD.sub [0, 6, 7, 4, 5, 2, 1, 3] (by decide) rfl) hS ls (lv_sub hl [3, 1, 0] rfl)
        · have hdf : ∀ q, q < 1001 → tapeN (nI 2) (cW T) (cM T) (cN T) n q = tapeN (nI 2) (cW T) (cM T) (cN T) i9 q := fun q hq => by have h9 := c104_31; rw [hx2, show (0 : Int32) = nI 0 from rfl, nI_eq (Nat.lt_of_le_of_lt df_le (by decide)) (by decide)] at h9; rw [← hT2 q hq, df_zero.mp h9 q hq]; exact (hR.2.2.2.2.2.2 q hq).symm
          refine lv_iload_n hx hb dX6_periodAtEnd_107 rfl (lv_at hl 1 rfl) ?_
          refine lv_aload_n hx hb dX6_periodAtEnd_108 rfl (lv_at hl 2 rfl) ?_
          refine va_get (D := (dC, dI)) (ci := 11) (v := .ref rn) (C := RX6) (T := TX6) (N := 9) hx hb hts iWX6 hown hK hP 0 rfl rfl 2 (by decide) (hts (.fieldLink RX6 21 "Beaverhall$Returns" "now" "LBeaverhall$Run;") (by decide +kernel)) (fun _ h9 => h9) rfl dX6_periodAtEnd_109 ?_
          refine va_get (D := (dC, dI)) (ci := 12) (v := .int ce) (C := RX7) (T := TX7) (N := 7) hx hb hts iWX7 hown hK hP 6 rfl rfl 1 (by decide) (hts (.fieldLink RX6 67 "Beaverhall$Run" "cell" "I") (by decide +kernel)) (fun _ h9 => h9) rfl dX6_periodAtEnd_112 ?_
          refine lv_icmp_ne (tgt := 143) hx hb dX6_periodAtEnd_115 (by decide) (fun c115_33 => ?_) (fun c115_33 => ?_)
          · have hna : ¬ alikeR (seqR (nI 2) (cW T) (cM T) (cN T) n) (seqR (nI 2) (cW T) (cM T) (cN T) i9) := fun h => c115_33 (by have h9 := h.2.1; rw [hce, ← hR.2.1] at h9; exact h9.symm)
            obtain ⟨y_34, ey_34⟩ : ∃ y : Int32, y = (nI (i9 + 1) - 1) + (-1) := ⟨_, rfl⟩
            refine lv_iinc (v := y_34) (lv' := [(2, .int y_34), (1, .int x_30), (3, .int (nI c9 - 500)), (0, .ref ro)]) hx hb dX6_periodAtEnd_143 hl (k := 3) rfl (by rw [ey_34]; rfl) (by decide) rfl (fun ls hl => ?_)
            obtain rfl : y_34 = nI i9 - 1 := by rw [ey_34, nI_pred]; exact (Int32.sub_eq_add_neg _ _).symm
            refine lv_goto (tgt := 20) hx hb dX6_periodAtEnd_146 (by decide) ?_
            exact ih20 (i9, x_30, f_14) ⟨by omega, hx2, hT2, fun i h1 h2 => (Nat.lt_or_ge i9 i).elim (fun h => hI.2.2.2 i h h2) (fun h => by have h3 : i = i9 := (by omega); rw [h3]; exact hna)⟩ (Nat.lt_succ_self i9) _ _ (hP.sub [0, 6, 7, 4, 5, 2, 1, 3] rfl) (hD.sub [0, 6, 7, 4, 5, 2, 1, 3] (by decide) rfl) hS ls (lv_sub hl [3, 1, 0] rfl)
          · refine lv_aload_n hx hb dX6_periodAtEnd_118 rfl (lv_at hl 2 rfl) ?_
            refine va_get (D := (dC, dI)) (ci := 11) (v := .ref sa) (C := RX6) (T := TX6) (N := 9) hx hb hts iWX6 hown hK hP 0 rfl rfl 6 (by decide) (hts (.fieldLink RX6 35 "Beaverhall$Returns" "states" "[I") (by decide +kernel)) (fun _ h9 => h9) rfl dX6_periodAtEnd_119 ?_
            refine lv_iload_n hx hb dX6_periodAtEnd_122 rfl (lv_at hl 3 rfl) ?_
            have hPc := hP.sub (ws' := [(sa, .inl (cI, 501, .inl gf))]) [1] rfl
            have hDc := hD.sub (ws' := [(sa, .inl (cI, 501, .inl gf))]) [1] (by decide) rfl
            have hKc := hK.sub (tys' := [(cI, .int)]) [0] rfl
            have hFc := va_free (wc := [(sa, .inl (cI, 501, .inl gf))]) hD hS hA [1] rfl
            refine va_calli (va_runSN (As := [.ref sa, .int (nI (i9 + 1) - 1)]) (rest := []) ⟨hx, hb, hml, hown, hts⟩ (c_X11_at l dC dI cI sa 501 gf (nI (i9 + 1) - 1) (by decide) H.size) ⟨va_cnB 2 hts gX6_periodAtEnd_X11_at_n89 rfl rfl rfl (hN (.methodLinkNest RX6 89 yX11_at "Beaverhall") (by decide +kernel)) (hts (.initialized RX11) (by decide +kernel)) (by decide +kernel) ⟨Nat.le_of_ble_eq_true rfl, Nat.le_of_ble_eq_true rfl⟩, hts (.static yX11_at) (by decide +kernel), trivial⟩ (pcS hPc hDc hKc hN) rfl rfl hl.1 rfl (lv_room (Nat.le_of_ble_eq_true rfl)) dX6_periodAtEnd_123 ⟨Nat.le_of_ble_eq_true rfl, Nat.le_of_ble_eq_true rfl⟩) hS (fun q _ h => hFc q h) hFc (fun r_35 u t H1 locs ht hvm hw_36 hB hz1 hk1 hS => ?_)
            obtain ⟨hP1, hK1, hD1⟩ := hB
            rw [ht] at hP1
            try dsimp only at hw_36
            obtain ⟨hP, hD⟩ := va_join (wr := [(ro, .inr (11, [.int f6, .int s6, .ref rn, .ref rh, .int (nI n), .ref ca, .ref sa, .ref da, .ref xa])), (ca, .inl (cI, 501, .inl cf)), (da, .inl (cI, 501, .inl df)), (rh, .inr (12, [.int st2, .int ce2, .int sp2, .int lm2, .int rm2, .int fa2, .ref th])), (th, .inl (cI, 1001, .inl f_14)), (rn, .inr (12, [.int st, .int ce, .int sp, .int lm, .int rm, .int fa, .ref tn])), (tn, .inl (cI, 1001, .inl nf))]) (w1 := [(sa, .inl (cI, 501, .inl gf))]) hP hD [1] [0, 2, 3, 4, 5, 6, 7] rfl rfl (by decide) (by decide) hk1 hFc hP1 hD1
            generalize H1 = H at hP hS ⊢
            have hP : va_P (dC, dI) vwCl [(ro, .inr (11, [.int f6, .int s6, .ref rn, .ref rh, .int (nI n), .ref ca, .ref sa, .ref da, .ref xa])), (ca, .inl (cI, 501, .inl cf)), (da, .inl (cI, 501, .inl df)), (rh, .inr (12, [.int st2, .int ce2, .int sp2, .int lm2, .int rm2, .int fa2, .ref th])), (th, .inl (cI, 1001, .inl f_14)), (rn, .inr (12, [.int st, .int ce, .int sp, .int lm, .int rm, .int fa, .ref tn])), (tn, .inl (cI, 1001, .inl nf)), (sa, .inl (cI, 501, .inl gf))] H := hP
            have hD : va_D A [(ro, .inr (11, [.int f6, .int s6, .ref rn, .ref rh, .int (nI n), .ref ca, .ref sa, .ref da, .ref xa])), (ca, .inl (cI, 501, .inl cf)), (da, .inl (cI, 501, .inl df)), (rh, .inr (12, [.int st2, .int ce2, .int sp2, .int lm2, .int rm2, .int fa2, .ref th])), (th, .inl (cI, 1001, .inl f_14)), (rn, .inr (12, [.int st, .int ce, .int sp, .int lm, .int rm, .int fa, .ref tn])), (tn, .inl (cI, 1001, .inl nf)), (sa, .inl (cI, 501, .inl gf))] := hD
            rw [at_at (n := 501) (i := nI (i9 + 1) - 1) (j := i9) (nI_pred i9) (by omega) (by decide)] at hw_36
            refine lv_aload_n hx hb dX6_periodAtEnd_126 rfl (lv_at hl 2 rfl) ?_
            refine va_get (D := (dC, dI)) (ci := 11) (v := .ref rn) (C := RX6) (T := TX6) (N := 9) hx hb hts iWX6 hown hK hP 0 rfl rfl 2 (by decide) (hts (.fieldLink RX6 21 "Beaverhall$Returns" "now" "LBeaverhall$Run;") (by decide +kernel)) (fun _ h9 => h9) rfl dX6_periodAtEnd_127 ?_
            refine va_get (D := (dC, dI)) (ci := 12) (v := .int st) (C := RX7) (T := TX7) (N := 7) hx hb hts iWX7 hown hK hP 5 rfl rfl 0 (by decide) (hts (.fieldLink RX6 82 "Beaverhall$Run" "state" "I") (by decide +kernel)) (fun _ h9 => h9) rfl dX6_periodAtEnd_130 ?_
            refine lv_icmp_ne (tgt := 143) hx hb dX6_periodAtEnd_133 (by decide) (fun c133_37 => ?_) (fun c133_37 => ?_)
            · have hna : ¬ alikeR (seqR (nI 2) (cW T) (cM T) (cN T) n) (seqR (nI 2) (cW T) (cM T) (cN T) i9) := fun h => c133_37 (by rw [hw_36, hwd.2.1 i9 (by omega)]; exact h.1.symm.trans hR.1.symm)
              obtain ⟨y_38, ey_38⟩ : ∃ y : Int32, y = (nI (i9 + 1) - 1) + (-1) := ⟨_, rfl⟩
              refine lv_iinc (v := y_38) (lv' := [(2, .int y_38), (1, .int x_30), (3, .int (nI c9 - 500)), (0, .ref ro)]) hx hb dX6_periodAtEnd_143 hl (k := 3) rfl (by rw [ey_38]; rfl) (by decide) rfl (fun ls hl => ?_)
              obtain rfl : y_38 = nI i9 - 1 := by rw [ey_38, nI_pred]; exact (Int32.sub_eq_add_neg _ _).symm
              refine lv_goto (tgt := 20) hx hb dX6_periodAtEnd_146 (by decide) ?_
              exact ih20 (i9, x_30, f_14) ⟨by omega, hx2, hT2, fun i h1 h2 => (Nat.lt_or_ge i9 i).elim (fun h => hI.2.2.2 i h h2) (fun h => by have h3 : i = i9 := (by omega); rw [h3]; exact hna)⟩ (Nat.lt_succ_self i9) _ _ (hP.sub [0, 5, 6, 3, 4, 1, 7, 2] rfl) (hD.sub [0, 5, 6, 3, 4, 1, 7, 2] (by decide) rfl) hS ls (lv_sub hl [3, 1, 0] rfl)
            · refine lv_aload_n hx hb dX6_periodAtEnd_136 rfl (lv_at hl 2 rfl) ?_
              refine va_get (D := (dC, dI)) (ci := 11) (v := .int (nI n)) (C := RX6) (T := TX6) (N := 9) hx hb hts iWX6 hown hK hP 0 rfl rfl 4 (by decide) (hts (.fieldLink RX6 28 "Beaverhall$Returns" "length" "I") (by decide +kernel)) (fun _ h9 => h9) rfl dX6_periodAtEnd_137 ?_
              refine lv_iload_n hx hb dX6_periodAtEnd_140 rfl (lv_at hl 3 rfl) ?_
              refine lv_isub hx hb dX6_periodAtEnd_141 ?_
              have hP9 := hP.sub (ws' := [(ro, .inr (11, [.int f6, .int s6, .ref rn, .ref rh, .int (nI n), .ref ca, .ref sa, .ref da, .ref xa])), (rn, .inr (12, [.int st, .int ce, .int sp, .int lm, .int rm, .int fa, .ref tn])), (tn, .inl (cI, 1001, .inl nf)), (rh, .inr (12, [.int st2, .int ce2, .int sp2, .int lm2, .int rm2, .int fa2, .ref th])), (th, .inl (cI, 1001, .inl f_14)), (ca, .inl (cI, 501, .inl cf)), (sa, .inl (cI, 501, .inl gf)), (da, .inl (cI, 501, .inl df))]) [0, 5, 6, 3, 4, 1, 7, 2] rfl
              have hD9 := hD.sub (ws' := [(ro, .inr (11, [.int f6, .int s6, .ref rn, .ref rh, .int (nI n), .ref ca, .ref sa, .ref da, .ref xa])), (rn, .inr (12, [.int st, .int ce, .int sp, .int lm, .int rm, .int fa, .ref tn])), (tn, .inl (cI, 1001, .inl nf)), (rh, .inr (12, [.int st2, .int ce2, .int sp2, .int lm2, .int rm2, .int fa2, .ref th])), (th, .inl (cI, 1001, .inl f_14)), (ca, .inl (cI, 501, .inl cf)), (sa, .inl (cI, 501, .inl gf)), (da, .inl (cI, 501, .inl df))]) [0, 5, 6, 3, 4, 1, 7, 2] (by decide) rfl
              have hK9 := hK.sub (tys' := [(cI, .int)]) [0] rfl
              exact W.iret (v := ((nI n) - (nI (i9 + 1) - 1))) hx hb hr (fun t ht hW => ⟨⟨((nI n) - (nI (i9 + 1) - 1)), f_14, rfl, (Or.inl ⟨i9, hin, (al_iff (okM_T hm.1 hm.2.1 (by have := hm.2.2.1; omega)) n i9).mpr ⟨by have h9 := c133_37; rw [hw_36, hwd.2.1 i9 (by omega)] at h9; exact (h9.trans hR.1).symm, by rw [hce]; exact (hR.2.1.symm.trans (c115_33).symm), hdf⟩, by rw [nI_pred, pk_sub (by omega)]⟩), ⟨by rw [ht]; exact hP9, va_K.moved hW.alike hK9, hD9⟩⟩, hS.F ht⟩) hS.2.2 dX6_periodAtEnd_142
    · refine lv_iconst (v := 0) hx hb dX6_periodAtEnd_53 (by decide) ?_
      refine lv_goto (tgt := 58) hx hb dX6_periodAtEnd_54 (by decide) ?_
      refine lv_isub hx hb dX6_periodAtEnd_58 ?_
      refine lv_topi (fun x_39 ex_39 => ?_)
      refine lv_istore_n (lv' := [(1, .int x_39), (3, .int (nI c9 - 500)), (0, .ref ro), (2, .int (nI (i9 + 1) - 1))]) hx hb dX6_periodAtEnd_59 rfl hl (by decide) rfl (fun ls hl => ?_)
      refine lv_aload_n hx hb dX6_periodAtEnd_60 rfl (lv_at hl 2 rfl) ?_
      refine va_get (D := (dC, dI)) (ci := 11) (v := .ref rh) (C := RX6) (T := TX6) (N := 9) hx hb hts iWX6 hown hK hP 0 rfl rfl 3 (by decide) (hts (.fieldLink RX6 25 "Beaverhall$Returns" "then" "LBeaverhall$Run;") (by decide +kernel)) (fun _ h9 => h9) rfl dX6_periodAtEnd_61 ?_
      refine lv_iload_n hx hb dX6_periodAtEnd_64 rfl (lv_at hl 1 rfl) ?_
      refine lv_aload_n hx hb dX6_periodAtEnd_65 rfl (lv_at hl 2 rfl) ?_
      refine va_get (D := (dC, dI)) (ci := 11) (v := .ref da) (C := RX6) (T := TX6) (N := 9) hx hb hts iWX6 hown hK hP 0 rfl rfl 7 (by decide) (hts (.fieldLink RX6 38 "Beaverhall$Returns" "reads" "[I") (by decide +kernel)) (fun _ h9 => h9) rfl dX6_periodAtEnd_66 ?_
      refine lv_iload_n hx hb dX6_periodAtEnd_69 rfl (lv_at hl 3 rfl) ?_
      have hPc := hP.sub (ws' := [(da, .inl (cI, 501, .inl df))]) [2] rfl
      have hDc := hD.sub (ws' := [(da, .inl (cI, 501, .inl df))]) [2] (by decide) rfl
      have hKc := hK.sub (tys' := [(cI, .int)]) [0] rfl
      have hFc := va_free (wc := [(da, .inl (cI, 501, .inl df))]) hD hS hA [2] rfl
      refine va_calli (va_runSN (As := [.ref da, .int (nI (i9 + 1) - 1)]) (rest := [.int (nI c9 - 500), .ref rh]) ⟨hx, hb, hml, hown, hts⟩ (c_X11_at l dC dI cI da 501 df (nI (i9 + 1) - 1) (by decide) H.size) ⟨va_cnB 2 hts gX6_periodAtEnd_X11_at_n89 rfl rfl rfl (hN (.methodLinkNest RX6 89 yX11_at "Beaverhall") (by decide +kernel)) (hts (.initialized RX11) (by decide +kernel)) (by decide +kernel) ⟨Nat.le_of_ble_eq_true rfl, Nat.le_of_ble_eq_true rfl⟩, hts (.static yX11_at) (by decide +kernel), trivial⟩ (pcS hPc hDc hKc hN) rfl rfl hl.1 rfl (lv_room (Nat.le_of_ble_eq_true rfl)) dX6_periodAtEnd_70 ⟨Nat.le_of_ble_eq_true rfl, Nat.le_of_ble_eq_true rfl⟩) hS (fun q _ h => hFc q h) hFc (fun r_40 u t H1 locs ht hvm hw_41 hB hz1 hk1 hS => ?_)
      obtain ⟨hP1, hK1, hD1⟩ := hB
      rw [ht] at hP1
      try dsimp only at hw_41
      obtain ⟨hP, hD⟩ := va_join (wr := [(ro, .inr (11, [.int f6, .int s6, .ref rn, .ref rh, .int (nI n), .ref ca, .ref sa, .ref da, .ref xa])), (sa, .inl (cI, 501, .inl gf)), (ca, .inl (cI, 501, .inl cf)), (rh, .inr (12, [.int st2, .int ce2, .int sp2, .int lm2, .int rm2, .int fa2, .ref th])), (th, .inl (cI, 1001, .inl g_20)), (rn, .inr (12, [.int st, .int ce, .int sp, .int lm, .int rm, .int fa, .ref tn])), (tn, .inl (cI, 1001, .inl nf))]) (w1 := [(da, .inl (cI, 501, .inl df))]) hP hD [2] [0, 1, 3, 4, 5, 6, 7] rfl rfl (by decide) (by decide) hk1 hFc hP1 hD1
      generalize H1 = H at hP hS ⊢
      have hP : va_P (dC, dI) vwCl [(ro, .inr (11, [.int f6, .int s6, .ref rn, .ref rh, .int (nI n), .ref ca, .ref sa, .ref da, .ref xa])), (sa, .inl (cI, 501, .inl gf)), (ca, .inl (cI, 501, .inl cf)), (rh, .inr (12, [.int st2, .int ce2, .int sp2, .int lm2, .int rm2, .int fa2, .ref th])), (th, .inl (cI, 1001, .inl g_20)), (rn, .inr (12, [.int st, .int ce, .int sp, .int lm, .int rm, .int fa, .ref tn])), (tn, .inl (cI, 1001, .inl nf)), (da, .inl (cI, 501, .inl df))] H := hP
      have hD : va_D A [(ro, .inr (11, [.int f6, .int s6, .ref rn, .ref rh, .int (nI n), .ref ca, .ref sa, .ref da, .ref xa])), (sa, .inl (cI, 501, .inl gf)), (ca, .inl (cI, 501, .inl cf)), (rh, .inr (12, [.int st2, .int ce2, .int sp2, .int lm2, .int rm2, .int fa2, .ref th])), (th, .inl (cI, 1001, .inl g_20)), (rn, .inr (12, [.int st, .int ce, .int sp, .int lm, .int rm, .int fa, .ref tn])), (tn, .inl (cI, 1001, .inl nf)), (da, .inl (cI, 501, .inl df))] := hD
      rw [at_at (n := 501) (i := nI (i9 + 1) - 1) (j := i9) (nI_pred i9) (by omega) (by decide)] at hw_41
      have hPc := hP.sub (ws' := [(rh, .inr (12, [.int st2, .int ce2, .int sp2, .int lm2, .int rm2, .int fa2, .ref th])), (th, .inl (cI, 1001, .inl g_20))]) [3, 4] rfl
      have hDc := hD.sub (ws' := [(rh, .inr (12, [.int st2, .int ce2, .int sp2, .int lm2, .int rm2, .int fa2, .ref th])), (th, .inl (cI, 1001, .inl g_20))]) [3, 4] (by decide) rfl
      have hKc := hK.sub (tys' := [(cI, .int)]) [0] rfl
      have hFc := va_free (wc := [(rh, .inr (12, [.int st2, .int ce2, .int sp2, .int lm2, .int rm2, .int fa2, .ref th])), (th, .inl (cI, 1001, .inl g_20))]) hD hS hA [3, 4] rfl
      refine va_callv (va_runV (As := [.int (nI c9 - 500), .int r_40]) (rest := []) ⟨hx, hb, hml, hown, hts⟩ (c_X7_write l dC dI cI rh th st2 ce2 sp2 lm2 rm2 fa2 g_20 (nI c9 - 500) r_40 H.size) (cwV 2 hts gX6_periodAtEnd_X7_write rfl rfl rfl (by decide +kernel) ⟨Nat.le_of_ble_eq_true rfl, Nat.le_of_ble_eq_true rfl⟩) (pcV hPc hDc hKc hN (ci := 12) (q0 := 0) rfl rfl) rfl rfl hl.1 rfl (lv_room (Nat.le_of_ble_eq_true rfl)) dX6_periodAtEnd_73 ⟨Nat.le_of_ble_eq_true rfl, Nat.le_of_ble_eq_true rfl⟩) hS (fun q _ h => hFc q h) hFc (fun u t H1 locs ht hvm hw_43 hB hz1 hk1 hS => ?_)
      obtain ⟨hP1, hK1, hD1⟩ := hB
      rw [ht] at hP1
      try dsimp only at hw_43
      obtain ⟨hP, hD⟩ := va_join (wr := [(ro, .inr (11, [.int f6, .int s6, .ref rn, .ref rh, .int (nI n), .ref ca, .ref sa, .ref da, .ref xa])), (sa, .inl (cI, 501, .inl gf)), (ca, .inl (cI, 501, .inl cf)), (rn, .inr (12, [.int st, .int ce, .int sp, .int lm, .int rm, .int fa, .ref tn])), (tn, .inl (cI, 1001, .inl nf)), (da, .inl (cI, 501, .inl df))]) (w1 := [(rh, .inr (12, [.int st2, .int ce2, .int sp2, .int lm2, .int rm2, .int fa2, .ref th])), (th, .inl (cI, 1001, .inl u))]) hP hD [3, 4] [0, 1, 2, 5, 6, 7] rfl rfl (by decide) (by decide) hk1 hFc hP1 hD1
      generalize H1 = H at hP hS ⊢
      have hP : va_P (dC, dI) vwCl [(ro, .inr (11, [.int f6, .int s6, .ref rn, .ref rh, .int (nI n), .ref ca, .ref sa, .ref da, .ref xa])), (sa, .inl (cI, 501, .inl gf)), (ca, .inl (cI, 501, .inl cf)), (rn, .inr (12, [.int st, .int ce, .int sp, .int lm, .int rm, .int fa, .ref tn])), (tn, .inl (cI, 1001, .inl nf)), (da, .inl (cI, 501, .inl df)), (rh, .inr (12, [.int st2, .int ce2, .int sp2, .int lm2, .int rm2, .int fa2, .ref th])), (th, .inl (cI, 1001, .inl u))] H := hP
      have hD : va_D A [(ro, .inr (11, [.int f6, .int s6, .ref rn, .ref rh, .int (nI n), .ref ca, .ref sa, .ref da, .ref xa])), (sa, .inl (cI, 501, .inl gf)), (ca, .inl (cI, 501, .inl cf)), (rn, .inr (12, [.int st, .int ce, .int sp, .int lm, .int rm, .int fa, .ref tn])), (tn, .inl (cI, 1001, .inl nf)), (da, .inl (cI, 501, .inl df)), (rh, .inr (12, [.int st2, .int ce2, .int sp2, .int lm2, .int rm2, .int fa2, .ref th])), (th, .inl (cI, 1001, .inl u))] := hD
      obtain ⟨f_42, ef_42⟩ : ∃ z, z = u := ⟨_, rfl⟩
      subst ef_42
      rw [writeJ_at hc1, hw_41, hwd.2.2 i9 hin, ← hc9] at hw_43
      have hT2 : ∀ q, q < 1001 → f_42 q = tapeN (nI 2) (cW T) (cM T) (cN T) i9 q := by rw [hw_43, hc9]; exact tape_back hb9 hI.2.2.1
      refine lv_iload_n hx hb dX6_periodAtEnd_76 rfl (lv_at hl 0 rfl) ?_
      refine lv_aload_n hx hb dX6_periodAtEnd_77 rfl (lv_at hl 2 rfl) ?_
      refine va_get (D := (dC, dI)) (ci := 11) (v := .ref rh) (C := RX6) (T := TX6) (N := 9) hx hb hts iWX6 hown hK hP 0 rfl rfl 3 (by decide) (hts (.fieldLink RX6 25 "Beaverhall$Returns" "then" "LBeaverhall$Run;") (by decide +kernel)) (fun _ h9 => h9) rfl dX6_periodAtEnd_78 ?_
      refine lv_iload_n hx hb dX6_periodAtEnd_81 rfl (lv_at hl 1 rfl) ?_
      have hPc := hP.sub (ws' := [(rh, .inr (12, [.int st2, .int ce2, .int sp2, .int lm2, .int rm2, .int fa2, .ref th])), (th, .inl (cI, 1001, .inl f_42))]) [6, 7] rfl
      have hDc := hD.sub (ws' := [(rh, .inr (12, [.int st2, .int ce2, .int sp2, .int lm2, .int rm2, .int fa2, .ref th])), (th, .inl (cI, 1001, .inl f_42))]) [6, 7] (by decide) rfl
      have hKc := hK.sub (tys' := [(cI, .int)]) [0] rfl
      have hFc := va_free (wc := [(rh, .inr (12, [.int st2, .int ce2, .int sp2, .int lm2, .int rm2, .int fa2, .ref th])), (th, .inl (cI, 1001, .inl f_42))]) hD hS hA [6, 7] rfl
      refine va_calli (va_runV (As := [.int (nI c9 - 500)]) (rest := [.int x_39]) ⟨hx, hb, hml, hown, hts⟩ (c_X7_signOf l dC dI cI rh th st2 ce2 sp2 lm2 rm2 fa2 f_42 (nI c9 - 500) H.size) (cwV 1 hts gX6_periodAtEnd_X7_signOf rfl rfl rfl (by decide +kernel) ⟨Nat.le_of_ble_eq_true rfl, Nat.le_of_ble_eq_true rfl⟩) (pcV hPc hDc hKc hN (ci := 12) (q0 := 0) rfl rfl) rfl rfl hl.1 rfl (lv_room (Nat.le_of_ble_eq_true rfl)) dX6_periodAtEnd_82 ⟨Nat.le_of_ble_eq_true rfl, Nat.le_of_ble_eq_true rfl⟩) hS (fun q _ h => hFc q h) hFc (fun r_44 u t H1 locs ht hvm hw_45 hB hz1 hk1 hS => ?_)
      obtain ⟨hP1, hK1, hD1⟩ := hB
      rw [ht] at hP1
      try dsimp only at hw_45
      obtain ⟨hP, hD⟩ := va_join (wr := [(ro, .inr (11, [.int f6, .int s6, .ref rn, .ref rh, .int (nI n), .ref ca, .ref sa, .ref da, .ref xa])), (sa, .inl (cI, 501, .inl gf)), (ca, .inl (cI, 501, .inl cf)), (rn, .inr (12, [.int st, .int ce, .int sp, .int lm, .int rm, .int fa, .ref tn])), (tn, .inl (cI, 1001, .inl nf)), (da, .inl (cI, 501, .inl df))]) (w1 := [(rh, .inr (12, [.int st2, .int ce2, .int sp2, .int lm2, .int rm2, .int fa2, .ref th])), (th, .inl (cI, 1001, .inl f_42))]) hP hD [6, 7] [0, 1, 2, 3, 4, 5] rfl rfl (by decide) (by decide) hk1 hFc hP1 hD1
      generalize H1 = H at hP hS ⊢
      have hP : va_P (dC, dI) vwCl [(ro, .inr (11, [.int f6, .int s6, .ref rn, .ref rh, .int (nI n), .ref ca, .ref sa, .ref da, .ref xa])), (sa, .inl (cI, 501, .inl gf)), (ca, .inl (cI, 501, .inl cf)), (rn, .inr (12, [.int st, .int ce, .int sp, .int lm, .int rm, .int fa, .ref tn])), (tn, .inl (cI, 1001, .inl nf)), (da, .inl (cI, 501, .inl df)), (rh, .inr (12, [.int st2, .int ce2, .int sp2, .int lm2, .int rm2, .int fa2, .ref th])), (th, .inl (cI, 1001, .inl f_42))] H := hP
      have hD : va_D A [(ro, .inr (11, [.int f6, .int s6, .ref rn, .ref rh, .int (nI n), .ref ca, .ref sa, .ref da, .ref xa])), (sa, .inl (cI, 501, .inl gf)), (ca, .inl (cI, 501, .inl cf)), (rn, .inr (12, [.int st, .int ce, .int sp, .int lm, .int rm, .int fa, .ref tn])), (tn, .inl (cI, 1001, .inl nf)), (da, .inl (cI, 501, .inl df)), (rh, .inr (12, [.int st2, .int ce2, .int sp2, .int lm2, .int rm2, .int fa2, .ref th])), (th, .inl (cI, 1001, .inl f_42))] := hD
      rw [signJ_at hc1] at hw_45
      refine lv_aload_n hx hb dX6_periodAtEnd_85 rfl (lv_at hl 2 rfl) ?_
      refine va_get (D := (dC, dI)) (ci := 11) (v := .ref rn) (C := RX6) (T := TX6) (N := 9) hx hb hts iWX6 hown hK hP 0 rfl rfl 2 (by decide) (hts (.fieldLink RX6 21 "Beaverhall$Returns" "now" "LBeaverhall$Run;") (by decide +kernel)) (fun _ h9 => h9) rfl dX6_periodAtEnd_86 ?_
      refine lv_iload_n hx hb dX6_periodAtEnd_89 rfl (lv_at hl 1 rfl) ?_
      have hPc := hP.sub (ws' := [(rn, .inr (12, [.int st, .int ce, .int sp, .int lm, .int rm, .int fa, .ref tn])), (tn, .inl (cI, 1001, .inl nf))]) [3, 4] rfl
      have hDc := hD.sub (ws' := [(rn, .inr (12, [.int st, .int ce, .int sp, .int lm, .int rm, .int fa, .ref tn])), (tn, .inl (cI, 1001, .inl nf))]) [3, 4] (by decide) rfl
      have hKc := hK.sub (tys' := [(cI, .int)]) [0] rfl
      have hFc := va_free (wc := [(rn, .inr (12, [.int st, .int ce, .int sp, .int lm, .int rm, .int fa, .ref tn])), (tn, .inl (cI, 1001, .inl nf))]) hD hS hA [3, 4] rfl
      refine va_calli (va_runV (As := [.int (nI c9 - 500)]) (rest := [.int r_44, .int x_39]) ⟨hx, hb, hml, hown, hts⟩ (c_X7_signOf l dC dI cI rn tn st ce sp lm rm fa nf (nI c9 - 500) H.size) (cwV 1 hts gX6_periodAtEnd_X7_signOf rfl rfl rfl (by decide +kernel) ⟨Nat.le_of_ble_eq_true rfl, Nat.le_of_ble_eq_true rfl⟩) (pcV hPc hDc hKc hN (ci := 12) (q0 := 0) rfl rfl) rfl rfl hl.1 rfl (lv_room (Nat.le_of_ble_eq_true rfl)) dX6_periodAtEnd_90 ⟨Nat.le_of_ble_eq_true rfl, Nat.le_of_ble_eq_true rfl⟩) hS (fun q _ h => hFc q h) hFc (fun r_46 u t H1 locs ht hvm hw_47 hB hz1 hk1 hS => ?_)
      obtain ⟨hP1, hK1, hD1⟩ := hB
      rw [ht] at hP1
      try dsimp only at hw_47
      obtain ⟨hP, hD⟩ := va_join (wr := [(ro, .inr (11, [.int f6, .int s6, .ref rn, .ref rh, .int (nI n), .ref ca, .ref sa, .ref da, .ref xa])), (sa, .inl (cI, 501, .inl gf)), (ca, .inl (cI, 501, .inl cf)), (da, .inl (cI, 501, .inl df)), (rh, .inr (12, [.int st2, .int ce2, .int sp2, .int lm2, .int rm2, .int fa2, .ref th])), (th, .inl (cI, 1001, .inl f_42))]) (w1 := [(rn, .inr (12, [.int st, .int ce, .int sp, .int lm, .int rm, .int fa, .ref tn])), (tn, .inl (cI, 1001, .inl nf))]) hP hD [3, 4] [0, 1, 2, 5, 6, 7] rfl rfl (by decide) (by decide) hk1 hFc hP1 hD1
      generalize H1 = H at hP hS ⊢
      have hP : va_P (dC, dI) vwCl [(ro, .inr (11, [.int f6, .int s6, .ref rn, .ref rh, .int (nI n), .ref ca, .ref sa, .ref da, .ref xa])), (sa, .inl (cI, 501, .inl gf)), (ca, .inl (cI, 501, .inl cf)), (da, .inl (cI, 501, .inl df)), (rh, .inr (12, [.int st2, .int ce2, .int sp2, .int lm2, .int rm2, .int fa2, .ref th])), (th, .inl (cI, 1001, .inl f_42)), (rn, .inr (12, [.int st, .int ce, .int sp, .int lm, .int rm, .int fa, .ref tn])), (tn, .inl (cI, 1001, .inl nf))] H := hP
      have hD : va_D A [(ro, .inr (11, [.int f6, .int s6, .ref rn, .ref rh, .int (nI n), .ref ca, .ref sa, .ref da, .ref xa])), (sa, .inl (cI, 501, .inl gf)), (ca, .inl (cI, 501, .inl cf)), (da, .inl (cI, 501, .inl df)), (rh, .inr (12, [.int st2, .int ce2, .int sp2, .int lm2, .int rm2, .int fa2, .ref th])), (th, .inl (cI, 1001, .inl f_42)), (rn, .inr (12, [.int st, .int ce, .int sp, .int lm, .int rm, .int fa, .ref tn])), (tn, .inl (cI, 1001, .inl nf))] := hD
      rw [signJ_at hc1] at hw_47
      refine lv_icmp_ne (tgt := 100) hx hb dX6_periodAtEnd_93 (by decide) (fun c93_48 => ?_) (fun c93_48 => ?_)
      · refine lv_iconst (v := 1) hx hb dX6_periodAtEnd_100 (by decide) ?_
        refine lv_iadd hx hb dX6_periodAtEnd_101 ?_
        refine lv_topi (fun x_49 ex_49 => ?_)
        have hx2 : x_49 = nI (dfN f_42 nf 1001) := un_eq (d := dfN g_20 nf 1001) (a := 0) (b := 1) (x := x_39) (by have h9 := df_upd (g := g_20) (f := nf) (m := 1001) (c := c9) (v := tapeN (nI 2) (cW T) (cM T) (cN T) i9 c9) (by omega); rw [if_pos (by rw [← hw_7, ← hw_9]; exact c50_10), if_neg (by have h9 := c93_48; rw [hw_45, hw_47, hw_43, pk_us] at h9; exact h9), ← hw_43] at h9; exact h9) (by rw [ex_39, hI.2.1] <;> rfl) (by rw [ex_49] <;> rfl)
        refine lv_istore_n (lv' := [(1, .int x_49), (3, .int (nI c9 - 500)), (0, .ref ro), (2, .int (nI (i9 + 1) - 1))]) hx hb dX6_periodAtEnd_102 rfl hl (by decide) rfl (fun ls hl => ?_)
        refine lv_iload_n hx hb dX6_periodAtEnd_103 rfl (lv_at hl 0 rfl) ?_
        refine lv_if_ne (tgt := 143) hx hb dX6_periodAtEnd_104 (by decide) (fun c104_50 => ?_) (fun c104_50 => ?_)
        · have hna : ¬ alikeR (seqR (nI 2) (cW T) (cM T) (cN T) n) (seqR (nI 2) (cW T) (cM T) (cN T) i9) := fun h => c104_50 (hx2.trans (congrArg nI (df_zero.mpr (fun q hq => by rw [hT2 q hq, ← ((al_iff (okM_T hm.1 hm.2.1 (by have := hm.2.2.1; omega)) n i9).mp h).2.2 q hq]; exact (hR.2.2.2.2.2.2 q hq).symm))))
          obtain ⟨y_51, ey_51⟩ : ∃ y : Int32, y = (nI (i9 + 1) - 1) + (-1) := ⟨_, rfl⟩
          refine lv_iinc (v := y_51) (lv' := [(2, .int y_51), (1, .int x_49), (3, .int (nI c9 - 500)), (0, .ref ro)]) hx hb dX6_periodAtEnd_143 hl (k := 3) rfl (by rw [ey_51]; rfl) (by decide) rfl (fun ls hl => ?_)
          obtain rfl : y_51 = nI i9 - 1 := by rw [ey_51, nI_pred]; exact (Int32.sub_eq_add_neg _ _).symm
          refine lv_goto (tgt := 20) hx hb dX6_periodAtEnd_146 (by decide) ?_
          exact ih20 (i9, x_49, f_42) ⟨by omega, hx2, hT2, fun i h1 h2 => (Nat.lt_or_ge i9 i).elim (fun h => hI.2.2.2 i h h2) (fun h => by have h3 : i = i9 := (by omega); rw [h3]; exact hna)⟩ (Nat.lt_succ_self i9) _ _ (hP.sub [0, 6, 7, 4, 5, 2, 1, 3] rfl) (hD.sub [0, 6, 7, 4, 5, 2, 1, 3] (by decide) rfl) hS ls (lv_sub hl [3, 1, 0] rfl)
        · have hdf : ∀ q, q < 1001 → tapeN (nI 2) (cW T) (cM T) (cN T) n q = tapeN (nI 2) (cW T) (cM T) (cN T) i9 q := fun q hq => by have h9 := c104_50; rw [hx2, show (0 : Int32) = nI 0 from rfl, nI_eq (Nat.lt_of_le_of_lt df_le (by decide)) (by decide)] at h9; rw [← hT2 q hq, df_zero.mp h9 q hq]; exact (hR.2.2.2.2.2.2 q hq).symm
          refine lv_iload_n hx hb dX6_periodAtEnd_107 rfl (lv_at hl 1 rfl) ?_
          refine lv_aload_n hx hb dX6_periodAtEnd_108 rfl (lv_at hl 2 rfl) ?_
          refine va_get (D := (dC, dI)) (ci := 11) (v := .ref rn) (C := RX6) (T := TX6) (N := 9) hx hb hts iWX6 hown hK hP 0 rfl rfl 2 (by decide) (hts (.fieldLink RX6 21 "Beaverhall$Returns" "now" "LBeaverhall$Run;") (by decide +kernel)) (fun _ h9 => h9) rfl dX6_periodAtEnd_109 ?_
          refine va_get (D := (dC, dI)) (ci := 12) (v := .int ce) (C := RX7) (T := TX7) (N := 7) hx hb hts iWX7 hown hK hP 6 rfl rfl 1 (by decide) (hts (.fieldLink RX6 67 "Beaverhall$Run" "cell" "I") (by decide +kernel)) (fun _ h9 => h9) rfl dX6_periodAtEnd_112 ?_
          refine lv_icmp_ne (tgt := 143) hx hb dX6_periodAtEnd_115 (by decide) (fun c115_52 => ?_) (fun c115_52 => ?_)
          · have hna : ¬ alikeR (seqR (nI 2) (cW T) (cM T) (cN T) n) (seqR (nI 2) (cW T) (cM T) (cN T) i9) := fun h => c115_52 (by have h9 := h.2.1; rw [hce, ← hR.2.1] at h9; exact h9.symm)
            obtain ⟨y_53, ey_53⟩ : ∃ y : Int32, y = (nI (i9 + 1) - 1) + (-1) := ⟨_, rfl⟩
            refine lv_iinc (v := y_53) (lv' := [(2, .int y_53), (1, .int x_49), (3, .int (nI c9 - 500)), (0, .ref ro)]) hx hb dX6_periodAtEnd_143 hl (k := 3) rfl (by rw [ey_53]; rfl) (by decide) rfl (fun ls hl => ?_)
            obtain rfl : y_53 = nI i9 - 1 := by rw [ey_53, nI_pred]; exact (Int32.sub_eq_add_neg _ _).symm
            refine lv_goto (tgt := 20) hx hb dX6_periodAtEnd_146 (by decide) ?_
            exact ih20 (i9, x_49, f_42) ⟨by omega, hx2, hT2, fun i h1 h2 => (Nat.lt_or_ge i9 i).elim (fun h => hI.2.2.2 i h h2) (fun h => by have h3 : i = i9 := (by omega); rw [h3]; exact hna)⟩ (Nat.lt_succ_self i9) _ _ (hP.sub [0, 6, 7, 4, 5, 2, 1, 3] rfl) (hD.sub [0, 6, 7, 4, 5, 2, 1, 3] (by decide) rfl) hS ls (lv_sub hl [3, 1, 0] rfl)
          · refine lv_aload_n hx hb dX6_periodAtEnd_118 rfl (lv_at hl 2 rfl) ?_
            refine va_get (D := (dC, dI)) (ci := 11) (v := .ref sa) (C := RX6) (T := TX6) (N := 9) hx hb hts iWX6 hown hK hP 0 rfl rfl 6 (by decide) (hts (.fieldLink RX6 35 "Beaverhall$Returns" "states" "[I") (by decide +kernel)) (fun _ h9 => h9) rfl dX6_periodAtEnd_119 ?_
            refine lv_iload_n hx hb dX6_periodAtEnd_122 rfl (lv_at hl 3 rfl) ?_
            have hPc := hP.sub (ws' := [(sa, .inl (cI, 501, .inl gf))]) [1] rfl
            have hDc := hD.sub (ws' := [(sa, .inl (cI, 501, .inl gf))]) [1] (by decide) rfl
            have hKc := hK.sub (tys' := [(cI, .int)]) [0] rfl
            have hFc := va_free (wc := [(sa, .inl (cI, 501, .inl gf))]) hD hS hA [1] rfl
            refine va_calli (va_runSN (As := [.ref sa, .int (nI (i9 + 1) - 1)]) (rest := []) ⟨hx, hb, hml, hown, hts⟩ (c_X11_at l dC dI cI sa 501 gf (nI (i9 + 1) - 1) (by decide) H.size) ⟨va_cnB 2 hts gX6_periodAtEnd_X11_at_n89 rfl rfl rfl (hN (.methodLinkNest RX6 89 yX11_at "Beaverhall") (by decide +kernel)) (hts (.initialized RX11) (by decide +kernel)) (by decide +kernel) ⟨Nat.le_of_ble_eq_true rfl, Nat.le_of_ble_eq_true rfl⟩, hts (.static yX11_at) (by decide +kernel), trivial⟩ (pcS hPc hDc hKc hN) rfl rfl hl.1 rfl (lv_room (Nat.le_of_ble_eq_true rfl)) dX6_periodAtEnd_123 ⟨Nat.le_of_ble_eq_true rfl, Nat.le_of_ble_eq_true rfl⟩) hS (fun q _ h => hFc q h) hFc (fun r_54 u t H1 locs ht hvm hw_55 hB hz1 hk1 hS => ?_)
            obtain ⟨hP1, hK1, hD1⟩ := hB
            rw [ht] at hP1
            try dsimp only at hw_55
            obtain ⟨hP, hD⟩ := va_join (wr := [(ro, .inr (11, [.int f6, .int s6, .ref rn, .ref rh, .int (nI n), .ref ca, .ref sa, .ref da, .ref xa])), (ca, .inl (cI, 501, .inl cf)), (da, .inl (cI, 501, .inl df)), (rh, .inr (12, [.int st2, .int ce2, .int sp2, .int lm2, .int rm2, .int fa2, .ref th])), (th, .inl (cI, 1001, .inl f_42)), (rn, .inr (12, [.int st, .int ce, .int sp, .int lm, .int rm, .int fa, .ref tn])), (tn, .inl (cI, 1001, .inl nf))]) (w1 := [(sa, .inl (cI, 501, .inl gf))]) hP hD [1] [0, 2, 3, 4, 5, 6, 7] rfl rfl (by decide) (by decide) hk1 hFc hP1 hD1
            generalize H1 = H at hP hS ⊢
            have hP : va_P (dC, dI) vwCl [(ro, .inr (11, [.int f6, .int s6, .ref rn, .ref rh, .int (nI n), .ref ca, .ref sa, .ref da, .ref xa])), (ca, .inl (cI, 501, .inl cf)), (da, .inl (cI, 501, .inl df)), (rh, .inr (12, [.int st2, .int ce2, .int sp2, .int lm2, .int rm2, .int fa2, .ref th])), (th, .inl (cI, 1001, .inl f_42)), (rn, .inr (12, [.int st, .int ce, .int sp, .int lm, .int rm, .int fa, .ref tn])), (tn, .inl (cI, 1001, .inl nf)), (sa, .inl (cI, 501, .inl gf))] H := hP
            have hD : va_D A [(ro, .inr (11, [.int f6, .int s6, .ref rn, .ref rh, .int (nI n), .ref ca, .ref sa, .ref da, .ref xa])), (ca, .inl (cI, 501, .inl cf)), (da, .inl (cI, 501, .inl df)), (rh, .inr (12, [.int st2, .int ce2, .int sp2, .int lm2, .int rm2, .int fa2, .ref th])), (th, .inl (cI, 1001, .inl f_42)), (rn, .inr (12, [.int st, .int ce, .int sp, .int lm, .int rm, .int fa, .ref tn])), (tn, .inl (cI, 1001, .inl nf)), (sa, .inl (cI, 501, .inl gf))] := hD
            rw [at_at (n := 501) (i := nI (i9 + 1) - 1) (j := i9) (nI_pred i9) (by omega) (by decide)] at hw_55
            refine lv_aload_n hx hb dX6_periodAtEnd_126 rfl (lv_at hl 2 rfl) ?_
            refine va_get (D := (dC, dI)) (ci := 11) (v := .ref rn) (C := RX6) (T := TX6) (N := 9) hx hb hts iWX6 hown hK hP 0 rfl rfl 2 (by decide) (hts (.fieldLink RX6 21 "Beaverhall$Returns" "now" "LBeaverhall$Run;") (by decide +kernel)) (fun _ h9 => h9) rfl dX6_periodAtEnd_127 ?_
            refine va_get (D := (dC, dI)) (ci := 12) (v := .int st) (C := RX7) (T := TX7) (N := 7) hx hb hts iWX7 hown hK hP 5 rfl rfl 0 (by decide) (hts (.fieldLink RX6 82 "Beaverhall$Run" "state" "I") (by decide +kernel)) (fun _ h9 => h9) rfl dX6_periodAtEnd_130 ?_
            refine lv_icmp_ne (tgt := 143) hx hb dX6_periodAtEnd_133 (by decide) (fun c133_56 => ?_) (fun c133_56 => ?_)
            · have hna : ¬ alikeR (seqR (nI 2) (cW T) (cM T) (cN T) n) (seqR (nI 2) (cW T) (cM T) (cN T) i9) := fun h => c133_56 (by rw [hw_55, hwd.2.1 i9 (by omega)]; exact h.1.symm.trans hR.1.symm)
              obtain ⟨y_57, ey_57⟩ : ∃ y : Int32, y = (nI (i9 + 1) - 1) + (-1) := ⟨_, rfl⟩
              refine lv_iinc (v := y_57) (lv' := [(2, .int y_57), (1, .int x_49), (3, .int (nI c9 - 500)), (0, .ref ro)]) hx hb dX6_periodAtEnd_143 hl (k := 3) rfl (by rw [ey_57]; rfl) (by decide) rfl (fun ls hl => ?_)
              obtain rfl : y_57 = nI i9 - 1 := by rw [ey_57, nI_pred]; exact (Int32.sub_eq_add_neg _ _).symm
              refine lv_goto (tgt := 20) hx hb dX6_periodAtEnd_146 (by decide) ?_
              exact ih20 (i9, x_49, f_42) ⟨by omega, hx2, hT2, fun i h1 h2 => (Nat.lt_or_ge i9 i).elim (fun h => hI.2.2.2 i h h2) (fun h => by have h3 : i = i9 := (by omega); rw [h3]; exact hna)⟩ (Nat.lt_succ_self i9) _ _ (hP.sub [0, 5, 6, 3, 4, 1, 7, 2] rfl) (hD.sub [0, 5, 6, 3, 4, 1, 7, 2] (by decide) rfl) hS ls (lv_sub hl [3, 1, 0] rfl)
            · refine lv_aload_n hx hb dX6_periodAtEnd_136 rfl (lv_at hl 2 rfl) ?_
              refine va_get (D := (dC, dI)) (ci := 11) (v := .int (nI n)) (C := RX6) (T := TX6) (N := 9) hx hb hts iWX6 hown hK hP 0 rfl rfl 4 (by decide) (hts (.fieldLink RX6 28 "Beaverhall$Returns" "length" "I") (by decide +kernel)) (fun _ h9 => h9) rfl dX6_periodAtEnd_137 ?_
              refine lv_iload_n hx hb dX6_periodAtEnd_140 rfl (lv_at hl 3 rfl) ?_
              refine lv_isub hx hb dX6_periodAtEnd_141 ?_
              have hP9 := hP.sub (ws' := [(ro, .inr (11, [.int f6, .int s6, .ref rn, .ref rh, .int (nI n), .ref ca, .ref sa, .ref da, .ref xa])), (rn, .inr (12, [.int st, .int ce, .int sp, .int lm, .int rm, .int fa, .ref tn])), (tn, .inl (cI, 1001, .inl nf)), (rh, .inr (12, [.int st2, .int ce2, .int sp2, .int lm2, .int rm2, .int fa2, .ref th])), (th, .inl (cI, 1001, .inl f_42)), (ca, .inl (cI, 501, .inl cf)), (sa, .inl (cI, 501, .inl gf)), (da, .inl (cI, 501, .inl df))]) [0, 5, 6, 3, 4, 1, 7, 2] rfl
              have hD9 := hD.sub (ws' := [(ro, .inr (11, [.int f6, .int s6, .ref rn, .ref rh, .int (nI n), .ref ca, .ref sa, .ref da, .ref xa])), (rn, .inr (12, [.int st, .int ce, .int sp, .int lm, .int rm, .int fa, .ref tn])), (tn, .inl (cI, 1001, .inl nf)), (rh, .inr (12, [.int st2, .int ce2, .int sp2, .int lm2, .int rm2, .int fa2, .ref th])), (th, .inl (cI, 1001, .inl f_42)), (ca, .inl (cI, 501, .inl cf)), (sa, .inl (cI, 501, .inl gf)), (da, .inl (cI, 501, .inl df))]) [0, 5, 6, 3, 4, 1, 7, 2] (by decide) rfl
              have hK9 := hK.sub (tys' := [(cI, .int)]) [0] rfl
              exact W.iret (v := ((nI n) - (nI (i9 + 1) - 1))) hx hb hr (fun t ht hW => ⟨⟨((nI n) - (nI (i9 + 1) - 1)), f_42, rfl, (Or.inl ⟨i9, hin, (al_iff (okM_T hm.1 hm.2.1 (by have := hm.2.2.1; omega)) n i9).mpr ⟨by have h9 := c133_56; rw [hw_55, hwd.2.1 i9 (by omega)] at h9; exact (h9.trans hR.1).symm, by rw [hce]; exact (hR.2.1.symm.trans (c115_52).symm), hdf⟩, by rw [nI_pred, pk_sub (by omega)]⟩), ⟨by rw [ht]; exact hP9, va_K.moved hW.alike hK9, hD9⟩⟩, hS.F ht⟩) hS.2.2 dX6_periodAtEnd_142
      · refine lv_iconst (v := 0) hx hb dX6_periodAtEnd_96 (by decide) ?_
        refine lv_goto (tgt := 101) hx hb dX6_periodAtEnd_97 (by decide) ?_
        refine lv_iadd hx hb dX6_periodAtEnd_101 ?_
        refine lv_topi (fun x_58 ex_58 => ?_)
        have hx2 : x_58 = nI (dfN f_42 nf 1001) := un_eq (d := dfN g_20 nf 1001) (a := 0) (b := 0) (x := x_39) (by have h9 := df_upd (g := g_20) (f := nf) (m := 1001) (c := c9) (v := tapeN (nI 2) (cW T) (cM T) (cN T) i9 c9) (by omega); rw [if_pos (by rw [← hw_7, ← hw_9]; exact c50_10), if_pos (by have h9 := c93_48; rw [hw_45, hw_47, hw_43, pk_us] at h9; exact h9), ← hw_43] at h9; exact h9) (by rw [ex_39, hI.2.1] <;> rfl) (by rw [ex_58] <;> rfl)
        refine lv_istore_n (lv' := [(1, .int x_58), (3, .int (nI c9 - 500)), (0, .ref ro), (2, .int (nI (i9 + 1) - 1))]) hx hb dX6_periodAtEnd_102 rfl hl (by decide) rfl (fun ls hl => ?_)
        refine lv_iload_n hx hb dX6_periodAtEnd_103 rfl (lv_at hl 0 rfl) ?_
        refine lv_if_ne (tgt := 143) hx hb dX6_periodAtEnd_104 (by decide) (fun c104_59 => ?_) (fun c104_59 => ?_)
        · have hna : ¬ alikeR (seqR (nI 2) (cW T) (cM T) (cN T) n) (seqR (nI 2) (cW T) (cM T) (cN T) i9) := fun h => c104_59 (hx2.trans (congrArg nI (df_zero.mpr (fun q hq => by rw [hT2 q hq, ← ((al_iff (okM_T hm.1 hm.2.1 (by have := hm.2.2.1; omega)) n i9).mp h).2.2 q hq]; exact (hR.2.2.2.2.2.2 q hq).symm))))
          obtain ⟨y_60, ey_60⟩ : ∃ y : Int32, y = (nI (i9 + 1) - 1) + (-1) := ⟨_, rfl⟩
          refine lv_iinc (v := y_60) (lv' := [(2, .int y_60), (1, .int x_58), (3, .int (nI c9 - 500)), (0, .ref ro)]) hx hb dX6_periodAtEnd_143 hl (k := 3) rfl (by rw [ey_60]; rfl) (by decide) rfl (fun ls hl => ?_)
          obtain rfl : y_60 = nI i9 - 1 := by rw [ey_60, nI_pred]; exact (Int32.sub_eq_add_neg _ _).symm
          refine lv_goto (tgt := 20) hx hb dX6_periodAtEnd_146 (by decide) ?_
          exact ih20 (i9, x_58, f_42) ⟨by omega, hx2, hT2, fun i h1 h2 => (Nat.lt_or_ge i9 i).elim (fun h => hI.2.2.2 i h h2) (fun h => by have h3 : i = i9 := (by omega); rw [h3]; exact hna)⟩ (Nat.lt_succ_self i9) _ _ (hP.sub [0, 6, 7, 4, 5, 2, 1, 3] rfl) (hD.sub [0, 6, 7, 4, 5, 2, 1, 3] (by decide) rfl) hS ls (lv_sub hl [3, 1, 0] rfl)
        · have hdf : ∀ q, q < 1001 → tapeN (nI 2) (cW T) (cM T) (cN T) n q = tapeN (nI 2) (cW T) (cM T) (cN T) i9 q := fun q hq => by have h9 := c104_59; rw [hx2, show (0 : Int32) = nI 0 from rfl, nI_eq (Nat.lt_of_le_of_lt df_le (by decide)) (by decide)] at h9; rw [← hT2 q hq, df_zero.mp h9 q hq]; exact (hR.2.2.2.2.2.2 q hq).symm
          refine lv_iload_n hx hb dX6_periodAtEnd_107 rfl (lv_at hl 1 rfl) ?_
          refine lv_aload_n hx hb dX6_periodAtEnd_108 rfl (lv_at hl 2 rfl) ?_
          refine va_get (D := (dC, dI)) (ci := 11) (v := .ref rn) (C := RX6) (T := TX6) (N := 9) hx hb hts iWX6 hown hK hP 0 rfl rfl 2 (by decide) (hts (.fieldLink RX6 21 "Beaverhall$Returns" "now" "LBeaverhall$Run;") (by decide +kernel)) (fun _ h9 => h9) rfl dX6_periodAtEnd_109 ?_
          refine va_get (D := (dC, dI)) (ci := 12) (v := .int ce) (C := RX7) (T := TX7) (N := 7) hx hb hts iWX7 hown hK hP 6 rfl rfl 1 (by decide) (hts (.fieldLink RX6 67 "Beaverhall$Run" "cell" "I") (by decide +kernel)) (fun _ h9 => h9) rfl dX6_periodAtEnd_112 ?_
          refine lv_icmp_ne (tgt := 143) hx hb dX6_periodAtEnd_115 (by decide) (fun c115_61 => ?_) (fun c115_61 => ?_)
          · have hna : ¬ alikeR (seqR (nI 2) (cW T) (cM T) (cN T) n) (seqR (nI 2) (cW T) (cM T) (cN T) i9) := fun h => c115_61 (by have h9 := h.2.1; rw [hce, ← hR.2.1] at h9; exact h9.symm)
            obtain ⟨y_62, ey_62⟩ : ∃ y : Int32, y = (nI (i9 + 1) - 1) + (-1) := ⟨_, rfl⟩
            refine lv_iinc (v := y_62) (lv' := [(2, .int y_62), (1, .int x_58), (3, .int (nI c9 - 500)), (0, .ref ro)]) hx hb dX6_periodAtEnd_143 hl (k := 3) rfl (by rw [ey_62]; rfl) (by decide) rfl (fun ls hl => ?_)
            obtain rfl : y_62 = nI i9 - 1 := by rw [ey_62, nI_pred]; exact (Int32.sub_eq_add_neg _ _).symm
            refine lv_goto (tgt := 20) hx hb dX6_periodAtEnd_146 (by decide) ?_
            exact ih20 (i9, x_58, f_42) ⟨by omega, hx2, hT2, fun i h1 h2 => (Nat.lt_or_ge i9 i).elim (fun h => hI.2.2.2 i h h2) (fun h => by have h3 : i = i9 := (by omega); rw [h3]; exact hna)⟩ (Nat.lt_succ_self i9) _ _ (hP.sub [0, 6, 7, 4, 5, 2, 1, 3] rfl) (hD.sub [0, 6, 7, 4, 5, 2, 1, 3] (by decide) rfl) hS ls (lv_sub hl [3, 1, 0] rfl)
          · refine lv_aload_n hx hb dX6_periodAtEnd_118 rfl (lv_at hl 2 rfl) ?_
            refine va_get (D := (dC, dI)) (ci := 11) (v := .ref sa) (C := RX6) (T := TX6) (N := 9) hx hb hts iWX6 hown hK hP 0 rfl rfl 6 (by decide) (hts (.fieldLink RX6 35 "Beaverhall$Returns" "states" "[I") (by decide +kernel)) (fun _ h9 => h9) rfl dX6_periodAtEnd_119 ?_
            refine lv_iload_n hx hb dX6_periodAtEnd_122 rfl (lv_at hl 3 rfl) ?_
            have hPc := hP.sub (ws' := [(sa, .inl (cI, 501, .inl gf))]) [1] rfl
            have hDc := hD.sub (ws' := [(sa, .inl (cI, 501, .inl gf))]) [1] (by decide) rfl
            have hKc := hK.sub (tys' := [(cI, .int)]) [0] rfl
            have hFc := va_free (wc := [(sa, .inl (cI, 501, .inl gf))]) hD hS hA [1] rfl
            refine va_calli (va_runSN (As := [.ref sa, .int (nI (i9 + 1) - 1)]) (rest := []) ⟨hx, hb, hml, hown, hts⟩ (c_X11_at l dC dI cI sa 501 gf (nI (i9 + 1) - 1) (by decide) H.size) ⟨va_cnB 2 hts gX6_periodAtEnd_X11_at_n89 rfl rfl rfl (hN (.methodLinkNest RX6 89 yX11_at "Beaverhall") (by decide +kernel)) (hts (.initialized RX11) (by decide +kernel)) (by decide +kernel) ⟨Nat.le_of_ble_eq_true rfl, Nat.le_of_ble_eq_true rfl⟩, hts (.static yX11_at) (by decide +kernel), trivial⟩ (pcS hPc hDc hKc hN) rfl rfl hl.1 rfl (lv_room (Nat.le_of_ble_eq_true rfl)) dX6_periodAtEnd_123 ⟨Nat.le_of_ble_eq_true rfl, Nat.le_of_ble_eq_true rfl⟩) hS (fun q _ h => hFc q h) hFc (fun r_63 u t H1 locs ht hvm hw_64 hB hz1 hk1 hS => ?_)
            obtain ⟨hP1, hK1, hD1⟩ := hB
            rw [ht] at hP1
            try dsimp only at hw_64
            obtain ⟨hP, hD⟩ := va_join (wr := [(ro, .inr (11, [.int f6, .int s6, .ref rn, .ref rh, .int (nI n), .ref ca, .ref sa, .ref da, .ref xa])), (ca, .inl (cI, 501, .inl cf)), (da, .inl (cI, 501, .inl df)), (rh, .inr (12, [.int st2, .int ce2, .int sp2, .int lm2, .int rm2, .int fa2, .ref th])), (th, .inl (cI, 1001, .inl f_42)), (rn, .inr (12, [.int st, .int ce, .int sp, .int lm, .int rm, .int fa, .ref tn])), (tn, .inl (cI, 1001, .inl nf))]) (w1 := [(sa, .inl (cI, 501, .inl gf))]) hP hD [1] [0, 2, 3, 4, 5, 6, 7] rfl rfl (by decide) (by decide) hk1 hFc hP1 hD1
            generalize H1 = H at hP hS ⊢
            have hP : va_P (dC, dI) vwCl [(ro, .inr (11, [.int f6, .int s6, .ref rn, .ref rh, .int (nI n), .ref ca, .ref sa, .ref da, .ref xa])), (ca, .inl (cI, 501, .inl cf)), (da, .inl (cI, 501, .inl df)), (rh, .inr (12, [.int st2, .int ce2, .int sp2, .int lm2, .int rm2, .int fa2, .ref th])), (th, .inl (cI, 1001, .inl f_42)), (rn, .inr (12, [.int st, .int ce, .int sp, .int lm, .int rm, .int fa, .ref tn])), (tn, .inl (cI, 1001, .inl nf)), (sa, .inl (cI, 501, .inl gf))] H := hP
            have hD : va_D A [(ro, .inr (11, [.int f6, .int s6, .ref rn, .ref rh, .int (nI n), .ref ca, .ref sa, .ref da, .ref xa])), (ca, .inl (cI, 501, .inl cf)), (da, .inl (cI, 501, .inl df)), (rh, .inr (12, [.int st2, .int ce2, .int sp2, .int lm2, .int rm2, .int fa2, .ref th])), (th, .inl (cI, 1001, .inl f_42)), (rn, .inr (12, [.int st, .int ce, .int sp, .int lm, .int rm, .int fa, .ref tn])), (tn, .inl (cI, 1001, .inl nf)), (sa, .inl (cI, 501, .inl gf))] := hD
            rw [at_at (n := 501) (i := nI (i9 + 1) - 1) (j := i9) (nI_pred i9) (by omega) (by decide)] at hw_64
            refine lv_aload_n hx hb dX6_periodAtEnd_126 rfl (lv_at hl 2 rfl) ?_
            refine va_get (D := (dC, dI)) (ci := 11) (v := .ref rn) (C := RX6) (T := TX6) (N := 9) hx hb hts iWX6 hown hK hP 0 rfl rfl 2 (by decide) (hts (.fieldLink RX6 21 "Beaverhall$Returns" "now" "LBeaverhall$Run;") (by decide +kernel)) (fun _ h9 => h9) rfl dX6_periodAtEnd_127 ?_
            refine va_get (D := (dC, dI)) (ci := 12) (v := .int st) (C := RX7) (T := TX7) (N := 7) hx hb hts iWX7 hown hK hP 5 rfl rfl 0 (by decide) (hts (.fieldLink RX6 82 "Beaverhall$Run" "state" "I") (by decide +kernel)) (fun _ h9 => h9) rfl dX6_periodAtEnd_130 ?_
            refine lv_icmp_ne (tgt := 143) hx hb dX6_periodAtEnd_133 (by decide) (fun c133_65 => ?_) (fun c133_65 => ?_)
            · have hna : ¬ alikeR (seqR (nI 2) (cW T) (cM T) (cN T) n) (seqR (nI 2) (cW T) (cM T) (cN T) i9) := fun h => c133_65 (by rw [hw_64, hwd.2.1 i9 (by omega)]; exact h.1.symm.trans hR.1.symm)
              obtain ⟨y_66, ey_66⟩ : ∃ y : Int32, y = (nI (i9 + 1) - 1) + (-1) := ⟨_, rfl⟩
              refine lv_iinc (v := y_66) (lv' := [(2, .int y_66), (1, .int x_58), (3, .int (nI c9 - 500)), (0, .ref ro)]) hx hb dX6_periodAtEnd_143 hl (k := 3) rfl (by rw [ey_66]; rfl) (by decide) rfl (fun ls hl => ?_)
              obtain rfl : y_66 = nI i9 - 1 := by rw [ey_66, nI_pred]; exact (Int32.sub_eq_add_neg _ _).symm
              refine lv_goto (tgt := 20) hx hb dX6_periodAtEnd_146 (by decide) ?_
              exact ih20 (i9, x_58, f_42) ⟨by omega, hx2, hT2, fun i h1 h2 => (Nat.lt_or_ge i9 i).elim (fun h => hI.2.2.2 i h h2) (fun h => by have h3 : i = i9 := (by omega); rw [h3]; exact hna)⟩ (Nat.lt_succ_self i9) _ _ (hP.sub [0, 5, 6, 3, 4, 1, 7, 2] rfl) (hD.sub [0, 5, 6, 3, 4, 1, 7, 2] (by decide) rfl) hS ls (lv_sub hl [3, 1, 0] rfl)
            · refine lv_aload_n hx hb dX6_periodAtEnd_136 rfl (lv_at hl 2 rfl) ?_
              refine va_get (D := (dC, dI)) (ci := 11) (v := .int (nI n)) (C := RX6) (T := TX6) (N := 9) hx hb hts iWX6 hown hK hP 0 rfl rfl 4 (by decide) (hts (.fieldLink RX6 28 "Beaverhall$Returns" "length" "I") (by decide +kernel)) (fun _ h9 => h9) rfl dX6_periodAtEnd_137 ?_
              refine lv_iload_n hx hb dX6_periodAtEnd_140 rfl (lv_at hl 3 rfl) ?_
              refine lv_isub hx hb dX6_periodAtEnd_141 ?_
              have hP9 := hP.sub (ws' := [(ro, .inr (11, [.int f6, .int s6, .ref rn, .ref rh, .int (nI n), .ref ca, .ref sa, .ref da, .ref xa])), (rn, .inr (12, [.int st, .int ce, .int sp, .int lm, .int rm, .int fa, .ref tn])), (tn, .inl (cI, 1001, .inl nf)), (rh, .inr (12, [.int st2, .int ce2, .int sp2, .int lm2, .int rm2, .int fa2, .ref th])), (th, .inl (cI, 1001, .inl f_42)), (ca, .inl (cI, 501, .inl cf)), (sa, .inl (cI, 501, .inl gf)), (da, .inl (cI, 501, .inl df))]) [0, 5, 6, 3, 4, 1, 7, 2] rfl
              have hD9 := hD.sub (ws' := [(ro, .inr (11, [.int f6, .int s6, .ref rn, .ref rh, .int (nI n), .ref ca, .ref sa, .ref da, .ref xa])), (rn, .inr (12, [.int st, .int ce, .int sp, .int lm, .int rm, .int fa, .ref tn])), (tn, .inl (cI, 1001, .inl nf)), (rh, .inr (12, [.int st2, .int ce2, .int sp2, .int lm2, .int rm2, .int fa2, .ref th])), (th, .inl (cI, 1001, .inl f_42)), (ca, .inl (cI, 501, .inl cf)), (sa, .inl (cI, 501, .inl gf)), (da, .inl (cI, 501, .inl df))]) [0, 5, 6, 3, 4, 1, 7, 2] (by decide) rfl
              have hK9 := hK.sub (tys' := [(cI, .int)]) [0] rfl
              exact W.iret (v := ((nI n) - (nI (i9 + 1) - 1))) hx hb hr (fun t ht hW => ⟨⟨((nI n) - (nI (i9 + 1) - 1)), f_42, rfl, (Or.inl ⟨i9, hin, (al_iff (okM_T hm.1 hm.2.1 (by have := hm.2.2.1; omega)) n i9).mpr ⟨by have h9 := c133_65; rw [hw_64, hwd.2.1 i9 (by omega)] at h9; exact (h9.trans hR.1).symm, by rw [hce]; exact (hR.2.1.symm.trans (c115_61).symm), hdf⟩, by rw [nI_pred, pk_sub (by omega)]⟩), ⟨by rw [ht]; exact hP9, va_K.moved hW.alike hK9, hD9⟩⟩, hS.F ht⟩) hS.2.2 dX6_periodAtEnd_142

set_option maxHeartbeats 4000000 in
set_option maxRecDepth 100000 in
/-- X6_leastStart -/
theorem c_X6_leastStart (l : Launch) (dC : Nat → ClassId) (dI : Nat → Nat → Nat) (cI : ClassId) (ro rn rh ca sa da xa tn th : Nat) (f6 s6 : Int32) (st ce sp lm rm fa : Int32) (nf : Nat → Int32) (st2 ce2 sp2 lm2 rm2 fa2 : Int32) (hf : Nat → Int32) (mm oo la hh : Nat) (wr tl le fi se : Int32) (S : Nat) (T o : Nat → Int32) (hm : mJ S o T) (n p0 : Nat) (hn : n ≤ 500) (hp : p0 ≤ n) (hal : alvR (nI 2) (cW T) (cM T) (cN T) n) (sz : Nat) : Met l yX6_leastStart wsX6_leastStart ({ frames := 2, cells := 0, slots := 0, locals := 51 }) (va_Pc [.ref ro, .ref mm, .int (nI p0)] (cPC dC dI [(ro, .inr (11, [.int f6, .int s6, .ref rn, .ref rh, .int (nI n), .ref ca, .ref sa, .ref da, .ref xa])), (rn, .inr (12, [.int st, .int ce, .int sp, .int lm, .int rm, .int fa, .ref tn])), (tn, .inl (cI, 1001, .inl nf)), (rh, .inr (12, [.int st2, .int ce2, .int sp2, .int lm2, .int rm2, .int fa2, .ref th])), (th, .inl (cI, 1001, .inl hf)), (mm, .inr (10, [.int 0, .int 2, .int 2, .ref la, .int wr, .int tl, .int le, .int fi, .int se, .ref oo, .ref hh])), (oo, .inl (cI, 24, .inl o))] [(cI, .int)] sz)) (va_Qi (fun (r : Int32) (u : RunS × RunS) => True) (fun (u : RunS × RunS) t => cQB dC dI [(ro, .inr (11, [.int f6, .int s6, .ref rn, .ref rh, .int (nI n), .ref ca, .ref sa, .ref da, .ref xa])), (rn, .inr (12, [.int u.1.1, .int u.1.2.1, .int u.1.2.2.1, .int u.1.2.2.2.1, .int u.1.2.2.2.2.1, .int u.1.2.2.2.2.2.1, .ref tn])), (tn, .inl (cI, 1001, .inl u.1.2.2.2.2.2.2)), (rh, .inr (12, [.int u.2.1, .int u.2.2.1, .int u.2.2.2.1, .int u.2.2.2.2.1, .int u.2.2.2.2.2.1, .int u.2.2.2.2.2.2.1, .ref th])), (th, .inl (cI, 1001, .inl u.2.2.2.2.2.2.2)), (mm, .inr (10, [.int 0, .int 2, .int 2, .ref la, .int wr, .int tl, .int le, .int fi, .int se, .ref oo, .ref hh])), (oo, .inl (cI, 24, .inl o))] [(cI, .int)] (va_A [(ro, .inr (11, [.int f6, .int s6, .ref rn, .ref rh, .int (nI n), .ref ca, .ref sa, .ref da, .ref xa])), (rn, .inr (12, [.int st, .int ce, .int sp, .int lm, .int rm, .int fa, .ref tn])), (tn, .inl (cI, 1001, .inl nf)), (rh, .inr (12, [.int st2, .int ce2, .int sp2, .int lm2, .int rm2, .int fa2, .ref th])), (th, .inl (cI, 1001, .inl hf)), (mm, .inr (10, [.int 0, .int 2, .int 2, .ref la, .int wr, .int tl, .int le, .int fi, .int se, .ref oo, .ref hh])), (oo, .inl (cI, 24, .inl o))] sz) t) (va_A [(ro, .inr (11, [.int f6, .int s6, .ref rn, .ref rh, .int (nI n), .ref ca, .ref sa, .ref da, .ref xa])), (rn, .inr (12, [.int st, .int ce, .int sp, .int lm, .int rm, .int fa, .ref tn])), (tn, .inl (cI, 1001, .inl nf)), (rh, .inr (12, [.int st2, .int ce2, .int sp2, .int lm2, .int rm2, .int fa2, .ref th])), (th, .inl (cI, 1001, .inl hf)), (mm, .inr (10, [.int 0, .int 2, .int 2, .ref la, .int wr, .int tl, .int le, .int fi, .int se, .ref oo, .ref hh])), (oo, .inl (cI, 24, .inl o))] sz)) 0 0 (va_A [(ro, .inr (11, [.int f6, .int s6, .ref rn, .ref rh, .int (nI n), .ref ca, .ref sa, .ref da, .ref xa])), (rn, .inr (12, [.int st, .int ce, .int sp, .int lm, .int rm, .int fa, .ref tn])), (tn, .inl (cI, 1001, .inl nf)), (rh, .inr (12, [.int st2, .int ce2, .int sp2, .int lm2, .int rm2, .int fa2, .ref th])), (th, .inl (cI, 1001, .inl hf)), (mm, .inr (10, [.int 0, .int 2, .int 2, .ref la, .int wr, .int tl, .int le, .int fi, .int se, .ref oo, .ref hh])), (oo, .inl (cI, 24, .inl o))] sz) := by
  refine Met.ofW (cc := cX6_leastStart) (maxL := 4) (ret := (some .int)) (by decide) rfl ?_
  intro p e s m args below meth c s₁ B hml hv
  obtain ⟨rfl, hsz, hP, hK, hD0, hN⟩ := hv
  have hx := B.exec
  have hb := B.bytes
  have hr := B.returns
  have hts := atoms_spec (ws := wsX6_leastStart) B.pre
  have hown : s.vm.findClass RX6 = some m.cls := findClass_of_methodNamed B.named
  have hlocks := B.notSynchronized
  subst hsz
  have hD := hD0.self (sz := s.heap.size)
  generalize hAe : va_A [(ro, .inr (11, [.int f6, .int s6, .ref rn, .ref rh, .int (nI n), .ref ca, .ref sa, .ref da, .ref xa])), (rn, .inr (12, [.int st, .int ce, .int sp, .int lm, .int rm, .int fa, .ref tn])), (tn, .inl (cI, 1001, .inl nf)), (rh, .inr (12, [.int st2, .int ce2, .int sp2, .int lm2, .int rm2, .int fa2, .ref th])), (th, .inl (cI, 1001, .inl hf)), (mm, .inr (10, [.int 0, .int 2, .int 2, .ref la, .int wr, .int tl, .int le, .int fi, .int se, .ref oo, .ref hh])), (oo, .inl (cI, 24, .inl o))] s.heap.size = A at hD ⊢
  have hA : ∀ q : Nat, s.heap.size ≤ q → A q := fun q h => by rw [← hAe]; exact Or.inr h
  have hS : va_S A s.heap s.heap [] := va_S.rf
  have hP : va_P (dC, dI) vwCl [(ro, .inr (11, [.int f6, .int s6, .ref rn, .ref rh, .int (nI n), .ref ca, .ref sa, .ref da, .ref xa])), (rn, .inr (12, [.int st, .int ce, .int sp, .int lm, .int rm, .int fa, .ref tn])), (tn, .inl (cI, 1001, .inl nf)), (rh, .inr (12, [.int st2, .int ce2, .int sp2, .int lm2, .int rm2, .int fa2, .ref th])), (th, .inl (cI, 1001, .inl hf)), (mm, .inr (10, [.int 0, .int 2, .int 2, .ref la, .int wr, .int tl, .int le, .int fi, .int se, .ref oo, .ref hh])), (oo, .inl (cI, 24, .inl o))] s.heap := hP
  have hD : va_D A [(ro, .inr (11, [.int f6, .int s6, .ref rn, .ref rh, .int (nI n), .ref ca, .ref sa, .ref da, .ref xa])), (rn, .inr (12, [.int st, .int ce, .int sp, .int lm, .int rm, .int fa, .ref tn])), (tn, .inl (cI, 1001, .inl nf)), (rh, .inr (12, [.int st2, .int ce2, .int sp2, .int lm2, .int rm2, .int fa2, .ref th])), (th, .inl (cI, 1001, .inl hf)), (mm, .inr (10, [.int 0, .int 2, .int 2, .ref la, .int wr, .int tl, .int le, .int fi, .int se, .ref oo, .ref hh])), (oo, .inl (cI, 24, .inl o))] := hD
  have hl := lv_entry ([.ref ro, .ref mm, .int (nI p0)]) (n := 4) (Nat.le_of_ble_eq_true rfl)
  rw [lg_entry_eq]
  generalize (lg_sl ([.ref ro, .ref mm, .int (nI p0)]) ++ List.replicate (4 - (lg_sl ([.ref ro, .ref mm, .int (nI p0)])).length) Slot.unset).toArray = ls at hl ⊢
  have hl : lv_has ls 4 [(0, .ref ro), (1, .ref mm), (2, .int (nI p0))] := hl
  have iWX6 : ∀ w ∈ u_ws RX6 TX6 9, w ∈ wsX6_leastStart := by decide +kernel
  refine lv_aload_n hx hb dX6_leastStart_0 rfl (lv_at hl 0 rfl) ?_
  refine va_get (D := (dC, dI)) (ci := 11) (v := .ref rh) (C := RX6) (T := TX6) (N := 9) hx hb hts iWX6 hown hK hP 0 rfl rfl 3 (by decide) (hts (.fieldLink RX6 25 "Beaverhall$Returns" "then" "LBeaverhall$Run;") (by decide +kernel)) (fun _ h9 => h9) rfl dX6_leastStart_1 ?_
  have hPc := hP.sub (ws' := [(rh, .inr (12, [.int st2, .int ce2, .int sp2, .int lm2, .int rm2, .int fa2, .ref th])), (th, .inl (cI, 1001, .inl hf))]) [3, 4] rfl
  have hDc := hD.sub (ws' := [(rh, .inr (12, [.int st2, .int ce2, .int sp2, .int lm2, .int rm2, .int fa2, .ref th])), (th, .inl (cI, 1001, .inl hf))]) [3, 4] (by decide) rfl
  have hKc := hK.sub (tys' := [(cI, .int)]) [0] rfl
  have hFc := va_free (wc := [(rh, .inr (12, [.int st2, .int ce2, .int sp2, .int lm2, .int rm2, .int fa2, .ref th])), (th, .inl (cI, 1001, .inl hf))]) hD hS hA [3, 4] rfl
  refine va_callv (va_runV (As := []) (rest := []) ⟨hx, hb, hml, hown, hts⟩ (c_X7_begin l dC dI cI rh th st2 ce2 sp2 lm2 rm2 fa2 hf  s.heap.size) (cwV 0 hts gX6_leastStart_X7_begin rfl rfl rfl (by decide +kernel) ⟨Nat.le_of_ble_eq_true rfl, Nat.le_of_ble_eq_true rfl⟩) (pcV hPc hDc hKc hN (ci := 12) (q0 := 0) rfl rfl) rfl rfl hl.1 rfl (lv_room (Nat.le_of_ble_eq_true rfl)) dX6_leastStart_4 ⟨Nat.le_of_ble_eq_true rfl, Nat.le_of_ble_eq_true rfl⟩) hS (fun q _ h => hFc q h) hFc (fun u t H1 locs ht hvm hw_8 hB hz1 hk1 hS => ?_)
  obtain ⟨st_1, ce_2, sp_3, lm_4, rm_5, fa_6, f_7⟩ := u
  obtain ⟨hP1, hK1, hD1⟩ := hB
  rw [ht] at hP1
  try dsimp only at hw_8
  obtain ⟨hP, hD⟩ := va_join (wr := [(ro, .inr (11, [.int f6, .int s6, .ref rn, .ref rh, .int (nI n), .ref ca, .ref sa, .ref da, .ref xa])), (rn, .inr (12, [.int st, .int ce, .int sp, .int lm, .int rm, .int fa, .ref tn])), (tn, .inl (cI, 1001, .inl nf)), (mm, .inr (10, [.int 0, .int 2, .int 2, .ref la, .int wr, .int tl, .int le, .int fi, .int se, .ref oo, .ref hh])), (oo, .inl (cI, 24, .inl o))]) (w1 := [(rh, .inr (12, [.int st_1, .int ce_2, .int sp_3, .int lm_4, .int rm_5, .int fa_6, .ref th])), (th, .inl (cI, 1001, .inl f_7))]) hP hD [3, 4] [0, 1, 2, 5, 6] rfl rfl (by decide) (by decide) hk1 hFc hP1 hD1
  generalize H1 = H at hP hS ⊢
  have hP : va_P (dC, dI) vwCl [(ro, .inr (11, [.int f6, .int s6, .ref rn, .ref rh, .int (nI n), .ref ca, .ref sa, .ref da, .ref xa])), (rn, .inr (12, [.int st, .int ce, .int sp, .int lm, .int rm, .int fa, .ref tn])), (tn, .inl (cI, 1001, .inl nf)), (mm, .inr (10, [.int 0, .int 2, .int 2, .ref la, .int wr, .int tl, .int le, .int fi, .int se, .ref oo, .ref hh])), (oo, .inl (cI, 24, .inl o)), (rh, .inr (12, [.int st_1, .int ce_2, .int sp_3, .int lm_4, .int rm_5, .int fa_6, .ref th])), (th, .inl (cI, 1001, .inl f_7))] H := hP
  have hD : va_D A [(ro, .inr (11, [.int f6, .int s6, .ref rn, .ref rh, .int (nI n), .ref ca, .ref sa, .ref da, .ref xa])), (rn, .inr (12, [.int st, .int ce, .int sp, .int lm, .int rm, .int fa, .ref tn])), (tn, .inl (cI, 1001, .inl nf)), (mm, .inr (10, [.int 0, .int 2, .int 2, .ref la, .int wr, .int tl, .int le, .int fi, .int se, .ref oo, .ref hh])), (oo, .inl (cI, 24, .inl o)), (rh, .inr (12, [.int st_1, .int ce_2, .int sp_3, .int lm_4, .int rm_5, .int fa_6, .ref th])), (th, .inl (cI, 1001, .inl f_7))] := hD
  refine lv_aload_n hx hb dX6_leastStart_7 rfl (lv_at hl 0 rfl) ?_
  refine va_get (D := (dC, dI)) (ci := 11) (v := .ref rn) (C := RX6) (T := TX6) (N := 9) hx hb hts iWX6 hown hK hP 0 rfl rfl 2 (by decide) (hts (.fieldLink RX6 21 "Beaverhall$Returns" "now" "LBeaverhall$Run;") (by decide +kernel)) (fun _ h9 => h9) rfl dX6_leastStart_8 ?_
  have hPc := hP.sub (ws' := [(rn, .inr (12, [.int st, .int ce, .int sp, .int lm, .int rm, .int fa, .ref tn])), (tn, .inl (cI, 1001, .inl nf))]) [1, 2] rfl
  have hDc := hD.sub (ws' := [(rn, .inr (12, [.int st, .int ce, .int sp, .int lm, .int rm, .int fa, .ref tn])), (tn, .inl (cI, 1001, .inl nf))]) [1, 2] (by decide) rfl
  have hKc := hK.sub (tys' := [(cI, .int)]) [0] rfl
  have hFc := va_free (wc := [(rn, .inr (12, [.int st, .int ce, .int sp, .int lm, .int rm, .int fa, .ref tn])), (tn, .inl (cI, 1001, .inl nf))]) hD hS hA [1, 2] rfl
  refine va_callv (va_runV (As := []) (rest := []) ⟨hx, hb, hml, hown, hts⟩ (c_X7_begin l dC dI cI rn tn st ce sp lm rm fa nf  H.size) (cwV 0 hts gX6_leastStart_X7_begin rfl rfl rfl (by decide +kernel) ⟨Nat.le_of_ble_eq_true rfl, Nat.le_of_ble_eq_true rfl⟩) (pcV hPc hDc hKc hN (ci := 12) (q0 := 0) rfl rfl) rfl rfl hl.1 rfl (lv_room (Nat.le_of_ble_eq_true rfl)) dX6_leastStart_11 ⟨Nat.le_of_ble_eq_true rfl, Nat.le_of_ble_eq_true rfl⟩) hS (fun q _ h => hFc q h) hFc (fun u t H1 locs ht hvm hw_16 hB hz1 hk1 hS => ?_)
  obtain ⟨st_9, ce_10, sp_11, lm_12, rm_13, fa_14, f_15⟩ := u
  obtain ⟨hP1, hK1, hD1⟩ := hB
  rw [ht] at hP1
  try dsimp only at hw_16
  obtain ⟨hP, hD⟩ := va_join (wr := [(ro, .inr (11, [.int f6, .int s6, .ref rn, .ref rh, .int (nI n), .ref ca, .ref sa, .ref da, .ref xa])), (mm, .inr (10, [.int 0, .int 2, .int 2, .ref la, .int wr, .int tl, .int le, .int fi, .int se, .ref oo, .ref hh])), (oo, .inl (cI, 24, .inl o)), (rh, .inr (12, [.int st_1, .int ce_2, .int sp_3, .int lm_4, .int rm_5, .int fa_6, .ref th])), (th, .inl (cI, 1001, .inl f_7))]) (w1 := [(rn, .inr (12, [.int st_9, .int ce_10, .int sp_11, .int lm_12, .int rm_13, .int fa_14, .ref tn])), (tn, .inl (cI, 1001, .inl f_15))]) hP hD [1, 2] [0, 3, 4, 5, 6] rfl rfl (by decide) (by decide) hk1 hFc hP1 hD1
  generalize H1 = H at hP hS ⊢
  have hP : va_P (dC, dI) vwCl [(ro, .inr (11, [.int f6, .int s6, .ref rn, .ref rh, .int (nI n), .ref ca, .ref sa, .ref da, .ref xa])), (mm, .inr (10, [.int 0, .int 2, .int 2, .ref la, .int wr, .int tl, .int le, .int fi, .int se, .ref oo, .ref hh])), (oo, .inl (cI, 24, .inl o)), (rh, .inr (12, [.int st_1, .int ce_2, .int sp_3, .int lm_4, .int rm_5, .int fa_6, .ref th])), (th, .inl (cI, 1001, .inl f_7)), (rn, .inr (12, [.int st_9, .int ce_10, .int sp_11, .int lm_12, .int rm_13, .int fa_14, .ref tn])), (tn, .inl (cI, 1001, .inl f_15))] H := hP
  have hD : va_D A [(ro, .inr (11, [.int f6, .int s6, .ref rn, .ref rh, .int (nI n), .ref ca, .ref sa, .ref da, .ref xa])), (mm, .inr (10, [.int 0, .int 2, .int 2, .ref la, .int wr, .int tl, .int le, .int fi, .int se, .ref oo, .ref hh])), (oo, .inl (cI, 24, .inl o)), (rh, .inr (12, [.int st_1, .int ce_2, .int sp_3, .int lm_4, .int rm_5, .int fa_6, .ref th])), (th, .inl (cI, 1001, .inl f_7)), (rn, .inr (12, [.int st_9, .int ce_10, .int sp_11, .int lm_12, .int rm_13, .int fa_14, .ref tn])), (tn, .inl (cI, 1001, .inl f_15))] := hD
  refine lv_iconst (v := 0) hx hb dX6_leastStart_14 (by decide) ?_
  refine lv_istore_n (lv' := [(3, .int 0), (0, .ref ro), (1, .ref mm), (2, .int (nI p0))]) hx hb dX6_leastStart_15 rfl hl (by decide) rfl (fun ls hl => ?_)
  have hB0 : relJ (st_1, ce_2, sp_3, lm_4, rm_5, fa_6, f_7) (seqR (nI 2) (cW T) (cM T) (cN T) 0) := by rw [hw_8]; exact relJ_begin _
  refine lp_go (σ := Nat × Int32 × Int32 × Int32 × Int32 × Int32 × Int32 × (Nat → Int32)) (fun x => match x with | (i_16, st_16, ce_16, sp_16, lm_16, rm_16, fa_16, nf_16) => i_16 ≤ p0 ∧ relJ (st_16, ce_16, sp_16, lm_16, rm_16, fa_16, nf_16) (seqR (nI 2) (cW T) (cM T) (cN T) i_16)) (fun x => match x with | (i_16, st_16, ce_16, sp_16, lm_16, rm_16, fa_16, nf_16) => p0 - i_16) (fun x => [(ro, .inr (11, [.int f6, .int s6, .ref rn, .ref rh, .int (nI n), .ref ca, .ref sa, .ref da, .ref xa])), (rn, .inr (12, [.int x.2.1, .int x.2.2.1, .int x.2.2.2.1, .int x.2.2.2.2.1, .int x.2.2.2.2.2.1, .int x.2.2.2.2.2.2.1, .ref tn])), (tn, .inl (cI, 1001, .inl x.2.2.2.2.2.2.2)), (rh, .inr (12, [.int st_1, .int ce_2, .int sp_3, .int lm_4, .int rm_5, .int fa_6, .ref th])), (th, .inl (cI, 1001, .inl f_7)), (mm, .inr (10, [.int 0, .int 2, .int 2, .ref la, .int wr, .int tl, .int le, .int fi, .int se, .ref oo, .ref hh])), (oo, .inl (cI, 24, .inl o))]) (fun x => [(0, .ref ro), (1, .ref mm), (2, .int (nI p0)), (3, .int (nI x.1))]) (fun _ => []) (fun x hI ih16 H locs hP hD hS ls hl => ?_) (0, st_9, ce_10, sp_11, lm_12, rm_13, fa_14, f_15) ⟨Nat.zero_le _, by rw [hw_16]; exact relJ_begin _⟩ (hP.sub [0, 5, 6, 3, 4, 1, 2] rfl) (hD.sub [0, 5, 6, 3, 4, 1, 2] (by decide) rfl) hS (lv_sub hl [1, 2, 3, 0] rfl)
  obtain ⟨i_16, st_16, ce_16, sp_16, lm_16, rm_16, fa_16, nf_16⟩ := x
  have hP : va_P (dC, dI) vwCl [(ro, .inr (11, [.int f6, .int s6, .ref rn, .ref rh, .int (nI n), .ref ca, .ref sa, .ref da, .ref xa])), (rn, .inr (12, [.int st_16, .int ce_16, .int sp_16, .int lm_16, .int rm_16, .int fa_16, .ref tn])), (tn, .inl (cI, 1001, .inl nf_16)), (rh, .inr (12, [.int st_1, .int ce_2, .int sp_3, .int lm_4, .int rm_5, .int fa_6, .ref th])), (th, .inl (cI, 1001, .inl f_7)), (mm, .inr (10, [.int 0, .int 2, .int 2, .ref la, .int wr, .int tl, .int le, .int fi, .int se, .ref oo, .ref hh])), (oo, .inl (cI, 24, .inl o))] H := hP
  have hD : va_D A [(ro, .inr (11, [.int f6, .int s6, .ref rn, .ref rh, .int (nI n), .ref ca, .ref sa, .ref da, .ref xa])), (rn, .inr (12, [.int st_16, .int ce_16, .int sp_16, .int lm_16, .int rm_16, .int fa_16, .ref tn])), (tn, .inl (cI, 1001, .inl nf_16)), (rh, .inr (12, [.int st_1, .int ce_2, .int sp_3, .int lm_4, .int rm_5, .int fa_6, .ref th])), (th, .inl (cI, 1001, .inl f_7)), (mm, .inr (10, [.int 0, .int 2, .int 2, .ref la, .int wr, .int tl, .int le, .int fi, .int se, .ref oo, .ref hh])), (oo, .inl (cI, 24, .inl o))] := hD
  have hl : lv_has ls 4 [(0, .ref ro), (1, .ref mm), (2, .int (nI p0)), (3, .int (nI i_16))] := hl
  try dsimp only at hI
  have ih16 := ih16
  refine lv_iload_n hx hb dX6_leastStart_16 rfl (lv_at hl 3 rfl) ?_
  refine lv_iload_n hx hb dX6_leastStart_17 rfl (lv_at hl 2 rfl) ?_
  refine lv_icmp_ge (tgt := 36) hx hb dX6_leastStart_18 (by decide) (fun c18_17 => ?_) (fun c18_17 => ?_)
  · have hip9 : i_16 = p0 := nI_end (by omega) hI.1 c18_17
    have hIp := hI.2
    rw [hip9] at hIp
    refine lv_iconst (v := 0) hx hb dX6_leastStart_36 (by decide) ?_
    refine lv_istore_n (lv' := [(3, .int 0), (0, .ref ro), (1, .ref mm), (2, .int (nI p0))]) hx hb dX6_leastStart_37 rfl hl (by decide) rfl (fun ls hl => ?_)
    refine lp_go (σ := Nat × Int32 × Int32 × Int32 × Int32 × Int32 × Int32 × (Nat → Int32) × Int32 × Int32 × Int32 × Int32 × Int32 × Int32 × (Nat → Int32)) (fun x => match x with | (i_38, st2_38, ce2_38, sp2_38, lm2_38, rm2_38, fa2_38, hf_38, st_38, ce_38, sp_38, lm_38, rm_38, fa_38, nf_38) => i_38 + p0 ≤ n ∧ relJ (st2_38, ce2_38, sp2_38, lm2_38, rm2_38, fa2_38, hf_38) (seqR (nI 2) (cW T) (cM T) (cN T) i_38) ∧ relJ (st_38, ce_38, sp_38, lm_38, rm_38, fa_38, nf_38) (seqR (nI 2) (cW T) (cM T) (cN T) (i_38 + p0))) (fun x => match x with | (i_38, st2_38, ce2_38, sp2_38, lm2_38, rm2_38, fa2_38, hf_38, st_38, ce_38, sp_38, lm_38, rm_38, fa_38, nf_38) => n - i_38) (fun x => [(ro, .inr (11, [.int f6, .int s6, .ref rn, .ref rh, .int (nI n), .ref ca, .ref sa, .ref da, .ref xa])), (rn, .inr (12, [.int x.2.2.2.2.2.2.2.2.1, .int x.2.2.2.2.2.2.2.2.2.1, .int x.2.2.2.2.2.2.2.2.2.2.1, .int x.2.2.2.2.2.2.2.2.2.2.2.1, .int x.2.2.2.2.2.2.2.2.2.2.2.2.1, .int x.2.2.2.2.2.2.2.2.2.2.2.2.2.1, .ref tn])), (tn, .inl (cI, 1001, .inl x.2.2.2.2.2.2.2.2.2.2.2.2.2.2)), (rh, .inr (12, [.int x.2.1, .int x.2.2.1, .int x.2.2.2.1, .int x.2.2.2.2.1, .int x.2.2.2.2.2.1, .int x.2.2.2.2.2.2.1, .ref th])), (th, .inl (cI, 1001, .inl x.2.2.2.2.2.2.2.1)), (mm, .inr (10, [.int 0, .int 2, .int 2, .ref la, .int wr, .int tl, .int le, .int fi, .int se, .ref oo, .ref hh])), (oo, .inl (cI, 24, .inl o))]) (fun x => [(0, .ref ro), (1, .ref mm), (2, .int (nI p0)), (3, .int (nI x.1))]) (fun _ => []) (fun x hI ih38 H locs hP hD hS ls hl => ?_) (0, st_1, ce_2, sp_3, lm_4, rm_5, fa_6, f_7, st_16, ce_16, sp_16, lm_16, rm_16, fa_16, nf_16) ⟨by omega, hB0, by rw [Nat.zero_add]; exact hIp⟩ (hP.sub [0, 1, 2, 3, 4, 5, 6] rfl) (hD.sub [0, 1, 2, 3, 4, 5, 6] (by decide) rfl) hS (lv_sub hl [1, 2, 3, 0] rfl)
    obtain ⟨i_38, st2_38, ce2_38, sp2_38, lm2_38, rm2_38, fa2_38, hf_38, st_38, ce_38, sp_38, lm_38, rm_38, fa_38, nf_38⟩ := x
    have hP : va_P (dC, dI) vwCl [(ro, .inr (11, [.int f6, .int s6, .ref rn, .ref rh, .int (nI n), .ref ca, .ref sa, .ref da, .ref xa])), (rn, .inr (12, [.int st_38, .int ce_38, .int sp_38, .int lm_38, .int rm_38, .int fa_38, .ref tn])), (tn, .inl (cI, 1001, .inl nf_38)), (rh, .inr (12, [.int st2_38, .int ce2_38, .int sp2_38, .int lm2_38, .int rm2_38, .int fa2_38, .ref th])), (th, .inl (cI, 1001, .inl hf_38)), (mm, .inr (10, [.int 0, .int 2, .int 2, .ref la, .int wr, .int tl, .int le, .int fi, .int se, .ref oo, .ref hh])), (oo, .inl (cI, 24, .inl o))] H := hP
    have hD : va_D A [(ro, .inr (11, [.int f6, .int s6, .ref rn, .ref rh, .int (nI n), .ref ca, .ref sa, .ref da, .ref xa])), (rn, .inr (12, [.int st_38, .int ce_38, .int sp_38, .int lm_38, .int rm_38, .int fa_38, .ref tn])), (tn, .inl (cI, 1001, .inl nf_38)), (rh, .inr (12, [.int st2_38, .int ce2_38, .int sp2_38, .int lm2_38, .int rm2_38, .int fa2_38, .ref th])), (th, .inl (cI, 1001, .inl hf_38)), (mm, .inr (10, [.int 0, .int 2, .int 2, .ref la, .int wr, .int tl, .int le, .int fi, .int se, .ref oo, .ref hh])), (oo, .inl (cI, 24, .inl o))] := hD
    have hl : lv_has ls 4 [(0, .ref ro), (1, .ref mm), (2, .int (nI p0)), (3, .int (nI i_38))] := hl
    try dsimp only at hI
    have ih38 := ih38
    refine lv_iload_n hx hb dX6_leastStart_38 rfl (lv_at hl 3 rfl) ?_
    refine lv_iload_n hx hb dX6_leastStart_39 rfl (lv_at hl 2 rfl) ?_
    refine lv_iadd hx hb dX6_leastStart_40 ?_
    refine lv_aload_n hx hb dX6_leastStart_41 rfl (lv_at hl 0 rfl) ?_
    refine va_get (D := (dC, dI)) (ci := 11) (v := .int (nI n)) (C := RX6) (T := TX6) (N := 9) hx hb hts iWX6 hown hK hP 0 rfl rfl 4 (by decide) (hts (.fieldLink RX6 28 "Beaverhall$Returns" "length" "I") (by decide +kernel)) (fun _ h9 => h9) rfl dX6_leastStart_42 ?_
    refine lv_icmp_ge (tgt := 86) hx hb dX6_leastStart_45 (by decide) (fun c45_18 => ?_) (fun c45_18 => ?_)
    · refine lv_iload_n hx hb dX6_leastStart_86 rfl (lv_at hl 3 rfl) ?_
      have hP9 := hP.sub (ws' := [(ro, .inr (11, [.int f6, .int s6, .ref rn, .ref rh, .int (nI n), .ref ca, .ref sa, .ref da, .ref xa])), (rn, .inr (12, [.int st_38, .int ce_38, .int sp_38, .int lm_38, .int rm_38, .int fa_38, .ref tn])), (tn, .inl (cI, 1001, .inl nf_38)), (rh, .inr (12, [.int st2_38, .int ce2_38, .int sp2_38, .int lm2_38, .int rm2_38, .int fa2_38, .ref th])), (th, .inl (cI, 1001, .inl hf_38)), (mm, .inr (10, [.int 0, .int 2, .int 2, .ref la, .int wr, .int tl, .int le, .int fi, .int se, .ref oo, .ref hh])), (oo, .inl (cI, 24, .inl o))]) [0, 1, 2, 3, 4, 5, 6] rfl
      have hD9 := hD.sub (ws' := [(ro, .inr (11, [.int f6, .int s6, .ref rn, .ref rh, .int (nI n), .ref ca, .ref sa, .ref da, .ref xa])), (rn, .inr (12, [.int st_38, .int ce_38, .int sp_38, .int lm_38, .int rm_38, .int fa_38, .ref tn])), (tn, .inl (cI, 1001, .inl nf_38)), (rh, .inr (12, [.int st2_38, .int ce2_38, .int sp2_38, .int lm2_38, .int rm2_38, .int fa2_38, .ref th])), (th, .inl (cI, 1001, .inl hf_38)), (mm, .inr (10, [.int 0, .int 2, .int 2, .ref la, .int wr, .int tl, .int le, .int fi, .int se, .ref oo, .ref hh])), (oo, .inl (cI, 24, .inl o))]) [0, 1, 2, 3, 4, 5, 6] (by decide) rfl
      have hK9 := hK.sub (tys' := [(cI, .int)]) [0] rfl
      exact W.iret (v := nI i_38) hx hb hr (fun t ht hW => ⟨⟨(nI i_38), ((st_38, ce_38, sp_38, lm_38, rm_38, fa_38, nf_38), (st2_38, ce2_38, sp2_38, lm2_38, rm2_38, fa2_38, hf_38)), rfl, trivial, ⟨by rw [ht]; exact hP9, va_K.moved hW.alike hK9, hD9⟩⟩, hS.F ht⟩) hS.2.2 dX6_leastStart_87
    · have hlt : i_38 + p0 < n := by have h9 := c45_18; rw [nI_add, nI_leI (by omega) (by omega)] at h9; omega
      refine lv_aload_n hx hb dX6_leastStart_48 rfl (lv_at hl 0 rfl) ?_
      refine va_get (D := (dC, dI)) (ci := 11) (v := .ref rn) (C := RX6) (T := TX6) (N := 9) hx hb hts iWX6 hown hK hP 0 rfl rfl 2 (by decide) (hts (.fieldLink RX6 21 "Beaverhall$Returns" "now" "LBeaverhall$Run;") (by decide +kernel)) (fun _ h9 => h9) rfl dX6_leastStart_49 ?_
      refine lv_aload_n hx hb dX6_leastStart_52 rfl (lv_at hl 0 rfl) ?_
      refine va_get (D := (dC, dI)) (ci := 11) (v := .ref rh) (C := RX6) (T := TX6) (N := 9) hx hb hts iWX6 hown hK hP 0 rfl rfl 3 (by decide) (hts (.fieldLink RX6 25 "Beaverhall$Returns" "then" "LBeaverhall$Run;") (by decide +kernel)) (fun _ h9 => h9) rfl dX6_leastStart_53 ?_
      have hPc := hP.sub (ws' := [(rn, .inr (12, [.int st_38, .int ce_38, .int sp_38, .int lm_38, .int rm_38, .int fa_38, .ref tn])), (tn, .inl (cI, 1001, .inl nf_38)), (rh, .inr (12, [.int st2_38, .int ce2_38, .int sp2_38, .int lm2_38, .int rm2_38, .int fa2_38, .ref th])), (th, .inl (cI, 1001, .inl hf_38))]) [1, 2, 3, 4] rfl
      have hDc := hD.sub (ws' := [(rn, .inr (12, [.int st_38, .int ce_38, .int sp_38, .int lm_38, .int rm_38, .int fa_38, .ref tn])), (tn, .inl (cI, 1001, .inl nf_38)), (rh, .inr (12, [.int st2_38, .int ce2_38, .int sp2_38, .int lm2_38, .int rm2_38, .int fa2_38, .ref th])), (th, .inl (cI, 1001, .inl hf_38))]) [1, 2, 3, 4] (by decide) rfl
      have hKc := hK.sub (tys' := [(cI, .int)]) [0] rfl
      have hFc := va_free (wc := [(rn, .inr (12, [.int st_38, .int ce_38, .int sp_38, .int lm_38, .int rm_38, .int fa_38, .ref tn])), (tn, .inl (cI, 1001, .inl nf_38)), (rh, .inr (12, [.int st2_38, .int ce2_38, .int sp2_38, .int lm2_38, .int rm2_38, .int fa2_38, .ref th])), (th, .inl (cI, 1001, .inl hf_38))]) hD hS hA [1, 2, 3, 4] rfl
      refine va_calli (va_runV (As := [.ref rh]) (rest := []) ⟨hx, hb, hml, hown, hts⟩ (c_X7_isAs l dC dI cI rn tn st_38 ce_38 sp_38 lm_38 rm_38 fa_38 nf_38 rh th st2_38 ce2_38 sp2_38 lm2_38 rm2_38 fa2_38 hf_38 (by obtain ⟨lo, hi, c1, g1, g2, g3, g4, g5, g6, g7, g8⟩ := rel_bd hI.2.2 (seqR_ok (okM_T hm.1 hm.2.1 (by have := hm.2.2.1; omega)) _); obtain ⟨lo2, hi2, c2, k1, k2, k3, k4, k5, k6, k7, k8⟩ := rel_bd hI.2.1 (seqR_ok (okM_T hm.1 hm.2.1 (by have := hm.2.2.1; omega)) _); exact ⟨lo, hi, lo2, hi2, g1, g2, k1, k2, by omega, g6, by omega, k6⟩) H.size) (cwV 1 hts gX6_leastStart_X7_isAs rfl rfl rfl (by decide +kernel) ⟨Nat.le_of_ble_eq_true rfl, Nat.le_of_ble_eq_true rfl⟩) (pcV hPc hDc hKc hN (ci := 12) (q0 := 0) rfl rfl) rfl rfl hl.1 rfl (lv_room (Nat.le_of_ble_eq_true rfl)) dX6_leastStart_56 ⟨Nat.le_of_ble_eq_true rfl, Nat.le_of_ble_eq_true rfl⟩) hS (fun q _ h => hFc q h) hFc (fun r_19 u t H1 locs ht hvm hw_20 hB hz1 hk1 hS => ?_)
      obtain ⟨hP1, hK1, hD1⟩ := hB
      rw [ht] at hP1
      try dsimp only at hw_20
      obtain ⟨hP, hD⟩ := va_join (wr := [(ro, .inr (11, [.int f6, .int s6, .ref rn, .ref rh, .int (nI n), .ref ca, .ref sa, .ref da, .ref xa])), (mm, .inr (10, [.int 0, .int 2, .int 2, .ref la, .int wr, .int tl, .int le, .int fi, .int se, .ref oo, .ref hh])), (oo, .inl (cI, 24, .inl o))]) (w1 := [(rn, .inr (12, [.int st_38, .int ce_38, .int sp_38, .int lm_38, .int rm_38, .int fa_38, .ref tn])), (tn, .inl (cI, 1001, .inl nf_38)), (rh, .inr (12, [.int st2_38, .int ce2_38, .int sp2_38, .int lm2_38, .int rm2_38, .int fa2_38, .ref th])), (th, .inl (cI, 1001, .inl hf_38))]) hP hD [1, 2, 3, 4] [0, 5, 6] rfl rfl (by decide) (by decide) hk1 hFc hP1 hD1
      generalize H1 = H at hP hS ⊢
      have hP : va_P (dC, dI) vwCl [(ro, .inr (11, [.int f6, .int s6, .ref rn, .ref rh, .int (nI n), .ref ca, .ref sa, .ref da, .ref xa])), (mm, .inr (10, [.int 0, .int 2, .int 2, .ref la, .int wr, .int tl, .int le, .int fi, .int se, .ref oo, .ref hh])), (oo, .inl (cI, 24, .inl o)), (rn, .inr (12, [.int st_38, .int ce_38, .int sp_38, .int lm_38, .int rm_38, .int fa_38, .ref tn])), (tn, .inl (cI, 1001, .inl nf_38)), (rh, .inr (12, [.int st2_38, .int ce2_38, .int sp2_38, .int lm2_38, .int rm2_38, .int fa2_38, .ref th])), (th, .inl (cI, 1001, .inl hf_38))] H := hP
      have hD : va_D A [(ro, .inr (11, [.int f6, .int s6, .ref rn, .ref rh, .int (nI n), .ref ca, .ref sa, .ref da, .ref xa])), (mm, .inr (10, [.int 0, .int 2, .int 2, .ref la, .int wr, .int tl, .int le, .int fi, .int se, .ref oo, .ref hh])), (oo, .inl (cI, 24, .inl o)), (rn, .inr (12, [.int st_38, .int ce_38, .int sp_38, .int lm_38, .int rm_38, .int fa_38, .ref tn])), (tn, .inl (cI, 1001, .inl nf_38)), (rh, .inr (12, [.int st2_38, .int ce2_38, .int sp2_38, .int lm2_38, .int rm2_38, .int fa2_38, .ref th])), (th, .inl (cI, 1001, .inl hf_38))] := hD
      refine lv_if_ne (tgt := 86) hx hb dX6_leastStart_59 (by decide) (fun c59_21 => ?_) (fun c59_21 => ?_)
      · refine lv_iload_n hx hb dX6_leastStart_86 rfl (lv_at hl 3 rfl) ?_
        have hP9 := hP.sub (ws' := [(ro, .inr (11, [.int f6, .int s6, .ref rn, .ref rh, .int (nI n), .ref ca, .ref sa, .ref da, .ref xa])), (rn, .inr (12, [.int st_38, .int ce_38, .int sp_38, .int lm_38, .int rm_38, .int fa_38, .ref tn])), (tn, .inl (cI, 1001, .inl nf_38)), (rh, .inr (12, [.int st2_38, .int ce2_38, .int sp2_38, .int lm2_38, .int rm2_38, .int fa2_38, .ref th])), (th, .inl (cI, 1001, .inl hf_38)), (mm, .inr (10, [.int 0, .int 2, .int 2, .ref la, .int wr, .int tl, .int le, .int fi, .int se, .ref oo, .ref hh])), (oo, .inl (cI, 24, .inl o))]) [0, 3, 4, 5, 6, 1, 2] rfl
        have hD9 := hD.sub (ws' := [(ro, .inr (11, [.int f6, .int s6, .ref rn, .ref rh, .int (nI n), .ref ca, .ref sa, .ref da, .ref xa])), (rn, .inr (12, [.int st_38, .int ce_38, .int sp_38, .int lm_38, .int rm_38, .int fa_38, .ref tn])), (tn, .inl (cI, 1001, .inl nf_38)), (rh, .inr (12, [.int st2_38, .int ce2_38, .int sp2_38, .int lm2_38, .int rm2_38, .int fa2_38, .ref th])), (th, .inl (cI, 1001, .inl hf_38)), (mm, .inr (10, [.int 0, .int 2, .int 2, .ref la, .int wr, .int tl, .int le, .int fi, .int se, .ref oo, .ref hh])), (oo, .inl (cI, 24, .inl o))]) [0, 3, 4, 5, 6, 1, 2] (by decide) rfl
        have hK9 := hK.sub (tys' := [(cI, .int)]) [0] rfl
        exact W.iret (v := nI i_38) hx hb hr (fun t ht hW => ⟨⟨(nI i_38), ((st_38, ce_38, sp_38, lm_38, rm_38, fa_38, nf_38), (st2_38, ce2_38, sp2_38, lm2_38, rm2_38, fa2_38, hf_38)), rfl, trivial, ⟨by rw [ht]; exact hP9, va_K.moved hW.alike hK9, hD9⟩⟩, hS.F ht⟩) hS.2.2 dX6_leastStart_87
      · refine lv_aload_n hx hb dX6_leastStart_62 rfl (lv_at hl 0 rfl) ?_
        refine va_get (D := (dC, dI)) (ci := 11) (v := .ref rh) (C := RX6) (T := TX6) (N := 9) hx hb hts iWX6 hown hK hP 0 rfl rfl 3 (by decide) (hts (.fieldLink RX6 25 "Beaverhall$Returns" "then" "LBeaverhall$Run;") (by decide +kernel)) (fun _ h9 => h9) rfl dX6_leastStart_63 ?_
        refine lv_aload_n hx hb dX6_leastStart_66 rfl (lv_at hl 1 rfl) ?_
        have hPc := hP.sub (ws' := [(rh, .inr (12, [.int st2_38, .int ce2_38, .int sp2_38, .int lm2_38, .int rm2_38, .int fa2_38, .ref th])), (th, .inl (cI, 1001, .inl hf_38)), (mm, .inr (10, [.int 0, .int 2, .int 2, .ref la, .int wr, .int tl, .int le, .int fi, .int se, .ref oo, .ref hh])), (oo, .inl (cI, 24, .inl o))]) [5, 6, 1, 2] rfl
        have hDc := hD.sub (ws' := [(rh, .inr (12, [.int st2_38, .int ce2_38, .int sp2_38, .int lm2_38, .int rm2_38, .int fa2_38, .ref th])), (th, .inl (cI, 1001, .inl hf_38)), (mm, .inr (10, [.int 0, .int 2, .int 2, .ref la, .int wr, .int tl, .int le, .int fi, .int se, .ref oo, .ref hh])), (oo, .inl (cI, 24, .inl o))]) [5, 6, 1, 2] (by decide) rfl
        have hKc := hK.sub (tys' := [(cI, .int)]) [0] rfl
        have hFc := va_free (wc := [(rh, .inr (12, [.int st2_38, .int ce2_38, .int sp2_38, .int lm2_38, .int rm2_38, .int fa2_38, .ref th])), (th, .inl (cI, 1001, .inl hf_38)), (mm, .inr (10, [.int 0, .int 2, .int 2, .ref la, .int wr, .int tl, .int le, .int fi, .int se, .ref oo, .ref hh])), (oo, .inl (cI, 24, .inl o))]) hD hS hA [5, 6, 1, 2] rfl
        refine va_calli (va_runV (As := [.ref mm]) (rest := []) ⟨hx, hb, hml, hown, hts⟩ (c_X7_step l dC dI cI rh th st2_38 ce2_38 sp2_38 lm2_38 rm2_38 fa2_38 hf_38 mm oo la hh 0 2 2 wr tl le fi se o (by decide) (by decide)  H.size) (cwV 1 hts gX6_leastStart_X7_step rfl rfl rfl (by decide +kernel) ⟨Nat.le_of_ble_eq_true rfl, Nat.le_of_ble_eq_true rfl⟩) (pcV hPc hDc hKc hN (ci := 12) (q0 := 0) rfl rfl) rfl rfl hl.1 rfl (lv_room (Nat.le_of_ble_eq_true rfl)) dX6_leastStart_67 ⟨Nat.le_of_ble_eq_true rfl, Nat.le_of_ble_eq_true rfl⟩) hS (fun q _ h => hFc q h) hFc (fun r_29 u t H1 locs ht hvm hw_30 hB hz1 hk1 hS => ?_)
        obtain ⟨st_22, ce_23, sp_24, lm_25, rm_26, fa_27, f_28⟩ := u
        obtain ⟨hP1, hK1, hD1⟩ := hB
        rw [ht] at hP1
        try dsimp only at hw_30
        obtain ⟨hP, hD⟩ := va_join (wr := [(ro, .inr (11, [.int f6, .int s6, .ref rn, .ref rh, .int (nI n), .ref ca, .ref sa, .ref da, .ref xa])), (rn, .inr (12, [.int st_38, .int ce_38, .int sp_38, .int lm_38, .int rm_38, .int fa_38, .ref tn])), (tn, .inl (cI, 1001, .inl nf_38))]) (w1 := [(rh, .inr (12, [.int st_22, .int ce_23, .int sp_24, .int lm_25, .int rm_26, .int fa_27, .ref th])), (th, .inl (cI, 1001, .inl f_28)), (mm, .inr (10, [.int 0, .int 2, .int 2, .ref la, .int wr, .int tl, .int le, .int fi, .int se, .ref oo, .ref hh])), (oo, .inl (cI, 24, .inl o))]) hP hD [5, 6, 1, 2] [0, 3, 4] rfl rfl (by decide) (by decide) hk1 hFc hP1 hD1
        generalize H1 = H at hP hS ⊢
        have hP : va_P (dC, dI) vwCl [(ro, .inr (11, [.int f6, .int s6, .ref rn, .ref rh, .int (nI n), .ref ca, .ref sa, .ref da, .ref xa])), (rn, .inr (12, [.int st_38, .int ce_38, .int sp_38, .int lm_38, .int rm_38, .int fa_38, .ref tn])), (tn, .inl (cI, 1001, .inl nf_38)), (rh, .inr (12, [.int st_22, .int ce_23, .int sp_24, .int lm_25, .int rm_26, .int fa_27, .ref th])), (th, .inl (cI, 1001, .inl f_28)), (mm, .inr (10, [.int 0, .int 2, .int 2, .ref la, .int wr, .int tl, .int le, .int fi, .int se, .ref oo, .ref hh])), (oo, .inl (cI, 24, .inl o))] H := hP
        have hD : va_D A [(ro, .inr (11, [.int f6, .int s6, .ref rn, .ref rh, .int (nI n), .ref ca, .ref sa, .ref da, .ref xa])), (rn, .inr (12, [.int st_38, .int ce_38, .int sp_38, .int lm_38, .int rm_38, .int fa_38, .ref tn])), (tn, .inl (cI, 1001, .inl nf_38)), (rh, .inr (12, [.int st_22, .int ce_23, .int sp_24, .int lm_25, .int rm_26, .int fa_27, .ref th])), (th, .inl (cI, 1001, .inl f_28)), (mm, .inr (10, [.int 0, .int 2, .int 2, .ref la, .int wr, .int tl, .int le, .int fi, .int se, .ref oo, .ref hh])), (oo, .inl (cI, 24, .inl o))] := hD
        obtain ⟨-, hA1, -⟩ := rel_of hm (alvR_le hal (by omega)) hI.2.1 hw_30
        refine lv_pop hx hb dX6_leastStart_70 rfl ?_
        refine lv_aload_n hx hb dX6_leastStart_71 rfl (lv_at hl 0 rfl) ?_
        refine va_get (D := (dC, dI)) (ci := 11) (v := .ref rn) (C := RX6) (T := TX6) (N := 9) hx hb hts iWX6 hown hK hP 0 rfl rfl 2 (by decide) (hts (.fieldLink RX6 21 "Beaverhall$Returns" "now" "LBeaverhall$Run;") (by decide +kernel)) (fun _ h9 => h9) rfl dX6_leastStart_72 ?_
        refine lv_aload_n hx hb dX6_leastStart_75 rfl (lv_at hl 1 rfl) ?_
        have hPc := hP.sub (ws' := [(rn, .inr (12, [.int st_38, .int ce_38, .int sp_38, .int lm_38, .int rm_38, .int fa_38, .ref tn])), (tn, .inl (cI, 1001, .inl nf_38)), (mm, .inr (10, [.int 0, .int 2, .int 2, .ref la, .int wr, .int tl, .int le, .int fi, .int se, .ref oo, .ref hh])), (oo, .inl (cI, 24, .inl o))]) [1, 2, 5, 6] rfl
        have hDc := hD.sub (ws' := [(rn, .inr (12, [.int st_38, .int ce_38, .int sp_38, .int lm_38, .int rm_38, .int fa_38, .ref tn])), (tn, .inl (cI, 1001, .inl nf_38)), (mm, .inr (10, [.int 0, .int 2, .int 2, .ref la, .int wr, .int tl, .int le, .int fi, .int se, .ref oo, .ref hh])), (oo, .inl (cI, 24, .inl o))]) [1, 2, 5, 6] (by decide) rfl
        have hKc := hK.sub (tys' := [(cI, .int)]) [0] rfl
        have hFc := va_free (wc := [(rn, .inr (12, [.int st_38, .int ce_38, .int sp_38, .int lm_38, .int rm_38, .int fa_38, .ref tn])), (tn, .inl (cI, 1001, .inl nf_38)), (mm, .inr (10, [.int 0, .int 2, .int 2, .ref la, .int wr, .int tl, .int le, .int fi, .int se, .ref oo, .ref hh])), (oo, .inl (cI, 24, .inl o))]) hD hS hA [1, 2, 5, 6] rfl
        refine va_calli (va_runV (As := [.ref mm]) (rest := []) ⟨hx, hb, hml, hown, hts⟩ (c_X7_step l dC dI cI rn tn st_38 ce_38 sp_38 lm_38 rm_38 fa_38 nf_38 mm oo la hh 0 2 2 wr tl le fi se o (by decide) (by decide)  H.size) (cwV 1 hts gX6_leastStart_X7_step rfl rfl rfl (by decide +kernel) ⟨Nat.le_of_ble_eq_true rfl, Nat.le_of_ble_eq_true rfl⟩) (pcV hPc hDc hKc hN (ci := 12) (q0 := 0) rfl rfl) rfl rfl hl.1 rfl (lv_room (Nat.le_of_ble_eq_true rfl)) dX6_leastStart_76 ⟨Nat.le_of_ble_eq_true rfl, Nat.le_of_ble_eq_true rfl⟩) hS (fun q _ h => hFc q h) hFc (fun r_38 u t H1 locs ht hvm hw_39 hB hz1 hk1 hS => ?_)
        obtain ⟨st_31, ce_32, sp_33, lm_34, rm_35, fa_36, f_37⟩ := u
        obtain ⟨hP1, hK1, hD1⟩ := hB
        rw [ht] at hP1
        try dsimp only at hw_39
        obtain ⟨hP, hD⟩ := va_join (wr := [(ro, .inr (11, [.int f6, .int s6, .ref rn, .ref rh, .int (nI n), .ref ca, .ref sa, .ref da, .ref xa])), (rh, .inr (12, [.int st_22, .int ce_23, .int sp_24, .int lm_25, .int rm_26, .int fa_27, .ref th])), (th, .inl (cI, 1001, .inl f_28))]) (w1 := [(rn, .inr (12, [.int st_31, .int ce_32, .int sp_33, .int lm_34, .int rm_35, .int fa_36, .ref tn])), (tn, .inl (cI, 1001, .inl f_37)), (mm, .inr (10, [.int 0, .int 2, .int 2, .ref la, .int wr, .int tl, .int le, .int fi, .int se, .ref oo, .ref hh])), (oo, .inl (cI, 24, .inl o))]) hP hD [1, 2, 5, 6] [0, 3, 4] rfl rfl (by decide) (by decide) hk1 hFc hP1 hD1
        generalize H1 = H at hP hS ⊢
        have hP : va_P (dC, dI) vwCl [(ro, .inr (11, [.int f6, .int s6, .ref rn, .ref rh, .int (nI n), .ref ca, .ref sa, .ref da, .ref xa])), (rh, .inr (12, [.int st_22, .int ce_23, .int sp_24, .int lm_25, .int rm_26, .int fa_27, .ref th])), (th, .inl (cI, 1001, .inl f_28)), (rn, .inr (12, [.int st_31, .int ce_32, .int sp_33, .int lm_34, .int rm_35, .int fa_36, .ref tn])), (tn, .inl (cI, 1001, .inl f_37)), (mm, .inr (10, [.int 0, .int 2, .int 2, .ref la, .int wr, .int tl, .int le, .int fi, .int se, .ref oo, .ref hh])), (oo, .inl (cI, 24, .inl o))] H := hP
        have hD : va_D A [(ro, .inr (11, [.int f6, .int s6, .ref rn, .ref rh, .int (nI n), .ref ca, .ref sa, .ref da, .ref xa])), (rh, .inr (12, [.int st_22, .int ce_23, .int sp_24, .int lm_25, .int rm_26, .int fa_27, .ref th])), (th, .inl (cI, 1001, .inl f_28)), (rn, .inr (12, [.int st_31, .int ce_32, .int sp_33, .int lm_34, .int rm_35, .int fa_36, .ref tn])), (tn, .inl (cI, 1001, .inl f_37)), (mm, .inr (10, [.int 0, .int 2, .int 2, .ref la, .int wr, .int tl, .int le, .int fi, .int se, .ref oo, .ref hh])), (oo, .inl (cI, 24, .inl o))] := hD
        obtain ⟨-, hA2, -⟩ := rel_of hm (alvR_le hal (by omega)) hI.2.2 hw_39
        refine lv_pop hx hb dX6_leastStart_79 rfl ?_
        obtain ⟨y_40, ey_40⟩ : ∃ y : Int32, y = (nI i_38) + 1 := ⟨_, rfl⟩
        refine lv_iinc (v := y_40) (lv' := [(3, .int y_40), (0, .ref ro), (1, .ref mm), (2, .int (nI p0))]) hx hb dX6_leastStart_80 hl (k := 3) rfl (by rw [ey_40]; rfl) (by decide) rfl (fun ls hl => ?_)
        obtain rfl : y_40 = nI (i_38 + 1) := by rw [ey_40]; exact nI_1 _
        refine lv_goto (tgt := 38) hx hb dX6_leastStart_83 (by decide) ?_
        exact ih38 ((i_38 + 1), st_22, ce_23, sp_24, lm_25, rm_26, fa_27, f_28, st_31, ce_32, sp_33, lm_34, rm_35, fa_36, f_37) ⟨by omega, hA1 (hal _ (by omega)), by rw [show i_38 + 1 + p0 = i_38 + p0 + 1 from by omega]; exact hA2 (hal _ (by omega))⟩ (by show n - (i_38 + 1) < n - i_38; omega) _ _ (hP.sub [0, 3, 4, 1, 2, 5, 6] rfl) (hD.sub [0, 3, 4, 1, 2, 5, 6] (by decide) rfl) hS ls (lv_sub hl [1, 2, 3, 0] rfl)
  · have hip : i_16 < p0 := nI_step (by omega) hI.1 c18_17
    refine lv_aload_n hx hb dX6_leastStart_21 rfl (lv_at hl 0 rfl) ?_
    refine va_get (D := (dC, dI)) (ci := 11) (v := .ref rn) (C := RX6) (T := TX6) (N := 9) hx hb hts iWX6 hown hK hP 0 rfl rfl 2 (by decide) (hts (.fieldLink RX6 21 "Beaverhall$Returns" "now" "LBeaverhall$Run;") (by decide +kernel)) (fun _ h9 => h9) rfl dX6_leastStart_22 ?_
    refine lv_aload_n hx hb dX6_leastStart_25 rfl (lv_at hl 1 rfl) ?_
    have hPc := hP.sub (ws' := [(rn, .inr (12, [.int st_16, .int ce_16, .int sp_16, .int lm_16, .int rm_16, .int fa_16, .ref tn])), (tn, .inl (cI, 1001, .inl nf_16)), (mm, .inr (10, [.int 0, .int 2, .int 2, .ref la, .int wr, .int tl, .int le, .int fi, .int se, .ref oo, .ref hh])), (oo, .inl (cI, 24, .inl o))]) [1, 2, 5, 6] rfl
    have hDc := hD.sub (ws' := [(rn, .inr (12, [.int st_16, .int ce_16, .int sp_16, .int lm_16, .int rm_16, .int fa_16, .ref tn])), (tn, .inl (cI, 1001, .inl nf_16)), (mm, .inr (10, [.int 0, .int 2, .int 2, .ref la, .int wr, .int tl, .int le, .int fi, .int se, .ref oo, .ref hh])), (oo, .inl (cI, 24, .inl o))]) [1, 2, 5, 6] (by decide) rfl
    have hKc := hK.sub (tys' := [(cI, .int)]) [0] rfl
    have hFc := va_free (wc := [(rn, .inr (12, [.int st_16, .int ce_16, .int sp_16, .int lm_16, .int rm_16, .int fa_16, .ref tn])), (tn, .inl (cI, 1001, .inl nf_16)), (mm, .inr (10, [.int 0, .int 2, .int 2, .ref la, .int wr, .int tl, .int le, .int fi, .int se, .ref oo, .ref hh])), (oo, .inl (cI, 24, .inl o))]) hD hS hA [1, 2, 5, 6] rfl
    refine va_calli (va_runV (As := [.ref mm]) (rest := []) ⟨hx, hb, hml, hown, hts⟩ (c_X7_step l dC dI cI rn tn st_16 ce_16 sp_16 lm_16 rm_16 fa_16 nf_16 mm oo la hh 0 2 2 wr tl le fi se o (by decide) (by decide)  H.size) (cwV 1 hts gX6_leastStart_X7_step rfl rfl rfl (by decide +kernel) ⟨Nat.le_of_ble_eq_true rfl, Nat.le_of_ble_eq_true rfl⟩) (pcV hPc hDc hKc hN (ci := 12) (q0 := 0) rfl rfl) rfl rfl hl.1 rfl (lv_room (Nat.le_of_ble_eq_true rfl)) dX6_leastStart_26 ⟨Nat.le_of_ble_eq_true rfl, Nat.le_of_ble_eq_true rfl⟩) hS (fun q _ h => hFc q h) hFc (fun r_48 u t H1 locs ht hvm hw_49 hB hz1 hk1 hS => ?_)
    obtain ⟨st_41, ce_42, sp_43, lm_44, rm_45, fa_46, f_47⟩ := u
    obtain ⟨hP1, hK1, hD1⟩ := hB
    rw [ht] at hP1
    try dsimp only at hw_49
    obtain ⟨hP, hD⟩ := va_join (wr := [(ro, .inr (11, [.int f6, .int s6, .ref rn, .ref rh, .int (nI n), .ref ca, .ref sa, .ref da, .ref xa])), (rh, .inr (12, [.int st_1, .int ce_2, .int sp_3, .int lm_4, .int rm_5, .int fa_6, .ref th])), (th, .inl (cI, 1001, .inl f_7))]) (w1 := [(rn, .inr (12, [.int st_41, .int ce_42, .int sp_43, .int lm_44, .int rm_45, .int fa_46, .ref tn])), (tn, .inl (cI, 1001, .inl f_47)), (mm, .inr (10, [.int 0, .int 2, .int 2, .ref la, .int wr, .int tl, .int le, .int fi, .int se, .ref oo, .ref hh])), (oo, .inl (cI, 24, .inl o))]) hP hD [1, 2, 5, 6] [0, 3, 4] rfl rfl (by decide) (by decide) hk1 hFc hP1 hD1
    generalize H1 = H at hP hS ⊢
    have hP : va_P (dC, dI) vwCl [(ro, .inr (11, [.int f6, .int s6, .ref rn, .ref rh, .int (nI n), .ref ca, .ref sa, .ref da, .ref xa])), (rh, .inr (12, [.int st_1, .int ce_2, .int sp_3, .int lm_4, .int rm_5, .int fa_6, .ref th])), (th, .inl (cI, 1001, .inl f_7)), (rn, .inr (12, [.int st_41, .int ce_42, .int sp_43, .int lm_44, .int rm_45, .int fa_46, .ref tn])), (tn, .inl (cI, 1001, .inl f_47)), (mm, .inr (10, [.int 0, .int 2, .int 2, .ref la, .int wr, .int tl, .int le, .int fi, .int se, .ref oo, .ref hh])), (oo, .inl (cI, 24, .inl o))] H := hP
    have hD : va_D A [(ro, .inr (11, [.int f6, .int s6, .ref rn, .ref rh, .int (nI n), .ref ca, .ref sa, .ref da, .ref xa])), (rh, .inr (12, [.int st_1, .int ce_2, .int sp_3, .int lm_4, .int rm_5, .int fa_6, .ref th])), (th, .inl (cI, 1001, .inl f_7)), (rn, .inr (12, [.int st_41, .int ce_42, .int sp_43, .int lm_44, .int rm_45, .int fa_46, .ref tn])), (tn, .inl (cI, 1001, .inl f_47)), (mm, .inr (10, [.int 0, .int 2, .int 2, .ref la, .int wr, .int tl, .int le, .int fi, .int se, .ref oo, .ref hh])), (oo, .inl (cI, 24, .inl o))] := hD
    obtain ⟨hbb, hs1, hs0⟩ := rel_of hm (alvR_le hal (by omega)) hI.2 hw_49
    refine lv_pop hx hb dX6_leastStart_29 rfl ?_
    obtain ⟨y_50, ey_50⟩ : ∃ y : Int32, y = (nI i_16) + 1 := ⟨_, rfl⟩
    refine lv_iinc (v := y_50) (lv' := [(3, .int y_50), (0, .ref ro), (1, .ref mm), (2, .int (nI p0))]) hx hb dX6_leastStart_30 hl (k := 3) rfl (by rw [ey_50]; rfl) (by decide) rfl (fun ls hl => ?_)
    obtain rfl : y_50 = nI (i_16 + 1) := by rw [ey_50]; exact nI_1 _
    refine lv_goto (tgt := 16) hx hb dX6_leastStart_33 (by decide) ?_
    exact ih16 ((i_16 + 1), st_41, ce_42, sp_43, lm_44, rm_45, fa_46, f_47) ⟨hip, hs1 (hal i_16 (by omega))⟩ (by show p0 - (i_16 + 1) < p0 - i_16; omega) _ _ (hP.sub [0, 3, 4, 1, 2, 5, 6] rfl) (hD.sub [0, 3, 4, 1, 2, 5, 6] (by decide) rfl) hS ls (lv_sub hl [1, 2, 3, 0] rfl)

set_option maxHeartbeats 4000000 in
set_option maxRecDepth 100000 in
/-- X6_comesBack -/
theorem c_X6_comesBack (l : Launch) (dC : Nat → ClassId) (dI : Nat → Nat → Nat) (cI : ClassId) (ro rn rh ca sa da xa tn th : Nat) (f6 s6 : Int32) (l6 : Int32) (st ce sp lm rm fa : Int32) (nf : Nat → Int32) (st2 ce2 sp2 lm2 rm2 fa2 : Int32) (hf : Nat → Int32) (cf gf df : Nat → Int32) (mm oo la hh : Nat) (wr tl le fi se : Int32) (S : Nat) (T o : Nat → Int32) (hm : mJ S o T) (k : Nat) (hk : k ≤ 500) (sz : Nat) : Met l yX6_comesBack wsX6_comesBack ({ frames := 3, cells := 0, slots := 0, locals := 104 }) (va_Pc [.ref ro, .ref mm, .int (nI k)] (cPC dC dI [(ro, .inr (11, [.int f6, .int s6, .ref rn, .ref rh, .int l6, .ref ca, .ref sa, .ref da, .ref xa])), (rn, .inr (12, [.int st, .int ce, .int sp, .int lm, .int rm, .int fa, .ref tn])), (tn, .inl (cI, 1001, .inl nf)), (rh, .inr (12, [.int st2, .int ce2, .int sp2, .int lm2, .int rm2, .int fa2, .ref th])), (th, .inl (cI, 1001, .inl hf)), (ca, .inl (cI, 501, .inl cf)), (sa, .inl (cI, 501, .inl gf)), (da, .inl (cI, 501, .inl df)), (mm, .inr (10, [.int 0, .int 2, .int 2, .ref la, .int wr, .int tl, .int le, .int fi, .int se, .ref oo, .ref hh])), (oo, .inl (cI, 24, .inl o))] [(cI, .int)] sz)) (va_Qi (fun (r : Int32) (u : Int32 × Int32 × RunS × RunS × (Nat → Int32) × (Nat → Int32) × (Nat → Int32)) => (r = 1 ∧ backP (nI 2) (cW T) (cM T) (cN T) k) ∨ (r = 0 ∧ ¬ backP (nI 2) (cW T) (cM T) (cN T) k)) (fun (u : Int32 × Int32 × RunS × RunS × (Nat → Int32) × (Nat → Int32) × (Nat → Int32)) t => cQB dC dI [(ro, .inr (11, [.int u.1, .int u.2.1, .ref rn, .ref rh, .int (nI (lnT T k)), .ref ca, .ref sa, .ref da, .ref xa])), (rn, .inr (12, [.int u.2.2.1.1, .int u.2.2.1.2.1, .int u.2.2.1.2.2.1, .int u.2.2.1.2.2.2.1, .int u.2.2.1.2.2.2.2.1, .int u.2.2.1.2.2.2.2.2.1, .ref tn])), (tn, .inl (cI, 1001, .inl u.2.2.1.2.2.2.2.2.2)), (rh, .inr (12, [.int u.2.2.2.1.1, .int u.2.2.2.1.2.1, .int u.2.2.2.1.2.2.1, .int u.2.2.2.1.2.2.2.1, .int u.2.2.2.1.2.2.2.2.1, .int u.2.2.2.1.2.2.2.2.2.1, .ref th])), (th, .inl (cI, 1001, .inl u.2.2.2.1.2.2.2.2.2.2)), (ca, .inl (cI, 501, .inl u.2.2.2.2.1)), (sa, .inl (cI, 501, .inl u.2.2.2.2.2.1)), (da, .inl (cI, 501, .inl u.2.2.2.2.2.2)), (mm, .inr (10, [.int 0, .int 2, .int 2, .ref la, .int wr, .int tl, .int le, .int fi, .int se, .ref oo, .ref hh])), (oo, .inl (cI, 24, .inl o))] [(cI, .int)] (va_A [(ro, .inr (11, [.int f6, .int s6, .ref rn, .ref rh, .int l6, .ref ca, .ref sa, .ref da, .ref xa])), (rn, .inr (12, [.int st, .int ce, .int sp, .int lm, .int rm, .int fa, .ref tn])), (tn, .inl (cI, 1001, .inl nf)), (rh, .inr (12, [.int st2, .int ce2, .int sp2, .int lm2, .int rm2, .int fa2, .ref th])), (th, .inl (cI, 1001, .inl hf)), (ca, .inl (cI, 501, .inl cf)), (sa, .inl (cI, 501, .inl gf)), (da, .inl (cI, 501, .inl df)), (mm, .inr (10, [.int 0, .int 2, .int 2, .ref la, .int wr, .int tl, .int le, .int fi, .int se, .ref oo, .ref hh])), (oo, .inl (cI, 24, .inl o))] sz) t) (va_A [(ro, .inr (11, [.int f6, .int s6, .ref rn, .ref rh, .int l6, .ref ca, .ref sa, .ref da, .ref xa])), (rn, .inr (12, [.int st, .int ce, .int sp, .int lm, .int rm, .int fa, .ref tn])), (tn, .inl (cI, 1001, .inl nf)), (rh, .inr (12, [.int st2, .int ce2, .int sp2, .int lm2, .int rm2, .int fa2, .ref th])), (th, .inl (cI, 1001, .inl hf)), (ca, .inl (cI, 501, .inl cf)), (sa, .inl (cI, 501, .inl gf)), (da, .inl (cI, 501, .inl df)), (mm, .inr (10, [.int 0, .int 2, .int 2, .ref la, .int wr, .int tl, .int le, .int fi, .int se, .ref oo, .ref hh])), (oo, .inl (cI, 24, .inl o))] sz)) 0 0 (va_A [(ro, .inr (11, [.int f6, .int s6, .ref rn, .ref rh, .int l6, .ref ca, .ref sa, .ref da, .ref xa])), (rn, .inr (12, [.int st, .int ce, .int sp, .int lm, .int rm, .int fa, .ref tn])), (tn, .inl (cI, 1001, .inl nf)), (rh, .inr (12, [.int st2, .int ce2, .int sp2, .int lm2, .int rm2, .int fa2, .ref th])), (th, .inl (cI, 1001, .inl hf)), (ca, .inl (cI, 501, .inl cf)), (sa, .inl (cI, 501, .inl gf)), (da, .inl (cI, 501, .inl df)), (mm, .inr (10, [.int 0, .int 2, .int 2, .ref la, .int wr, .int tl, .int le, .int fi, .int se, .ref oo, .ref hh])), (oo, .inl (cI, 24, .inl o))] sz) := by
  refine Met.ofW (cc := cX6_comesBack) (maxL := 4) (ret := (some .boolean)) (by decide) rfl ?_
  intro p e s m args below meth c s₁ B hml hv
  obtain ⟨rfl, hsz, hP, hK, hD0, hN⟩ := hv
  have hx := B.exec
  have hb := B.bytes
  have hr := B.returns
  have hts := atoms_spec (ws := wsX6_comesBack) B.pre
  have hown : s.vm.findClass RX6 = some m.cls := findClass_of_methodNamed B.named
  have hlocks := B.notSynchronized
  subst hsz
  have hD := hD0.self (sz := s.heap.size)
  generalize hAe : va_A [(ro, .inr (11, [.int f6, .int s6, .ref rn, .ref rh, .int l6, .ref ca, .ref sa, .ref da, .ref xa])), (rn, .inr (12, [.int st, .int ce, .int sp, .int lm, .int rm, .int fa, .ref tn])), (tn, .inl (cI, 1001, .inl nf)), (rh, .inr (12, [.int st2, .int ce2, .int sp2, .int lm2, .int rm2, .int fa2, .ref th])), (th, .inl (cI, 1001, .inl hf)), (ca, .inl (cI, 501, .inl cf)), (sa, .inl (cI, 501, .inl gf)), (da, .inl (cI, 501, .inl df)), (mm, .inr (10, [.int 0, .int 2, .int 2, .ref la, .int wr, .int tl, .int le, .int fi, .int se, .ref oo, .ref hh])), (oo, .inl (cI, 24, .inl o))] s.heap.size = A at hD ⊢
  have hA : ∀ q : Nat, s.heap.size ≤ q → A q := fun q h => by rw [← hAe]; exact Or.inr h
  have hS : va_S A s.heap s.heap [] := va_S.rf
  have hP : va_P (dC, dI) vwCl [(ro, .inr (11, [.int f6, .int s6, .ref rn, .ref rh, .int l6, .ref ca, .ref sa, .ref da, .ref xa])), (rn, .inr (12, [.int st, .int ce, .int sp, .int lm, .int rm, .int fa, .ref tn])), (tn, .inl (cI, 1001, .inl nf)), (rh, .inr (12, [.int st2, .int ce2, .int sp2, .int lm2, .int rm2, .int fa2, .ref th])), (th, .inl (cI, 1001, .inl hf)), (ca, .inl (cI, 501, .inl cf)), (sa, .inl (cI, 501, .inl gf)), (da, .inl (cI, 501, .inl df)), (mm, .inr (10, [.int 0, .int 2, .int 2, .ref la, .int wr, .int tl, .int le, .int fi, .int se, .ref oo, .ref hh])), (oo, .inl (cI, 24, .inl o))] s.heap := hP
  have hD : va_D A [(ro, .inr (11, [.int f6, .int s6, .ref rn, .ref rh, .int l6, .ref ca, .ref sa, .ref da, .ref xa])), (rn, .inr (12, [.int st, .int ce, .int sp, .int lm, .int rm, .int fa, .ref tn])), (tn, .inl (cI, 1001, .inl nf)), (rh, .inr (12, [.int st2, .int ce2, .int sp2, .int lm2, .int rm2, .int fa2, .ref th])), (th, .inl (cI, 1001, .inl hf)), (ca, .inl (cI, 501, .inl cf)), (sa, .inl (cI, 501, .inl gf)), (da, .inl (cI, 501, .inl df)), (mm, .inr (10, [.int 0, .int 2, .int 2, .ref la, .int wr, .int tl, .int le, .int fi, .int se, .ref oo, .ref hh])), (oo, .inl (cI, 24, .inl o))] := hD
  have hl := lv_entry ([.ref ro, .ref mm, .int (nI k)]) (n := 4) (Nat.le_of_ble_eq_true rfl)
  rw [lg_entry_eq]
  generalize (lg_sl ([.ref ro, .ref mm, .int (nI k)]) ++ List.replicate (4 - (lg_sl ([.ref ro, .ref mm, .int (nI k)])).length) Slot.unset).toArray = ls at hl ⊢
  have hl : lv_has ls 4 [(0, .ref ro), (1, .ref mm), (2, .int (nI k))] := hl
  have iWX6 : ∀ w ∈ u_ws RX6 TX6 9, w ∈ wsX6_comesBack := by decide +kernel
  refine lv_aload_n hx hb dX6_comesBack_0 rfl (lv_at hl 0 rfl) ?_
  refine lv_aload_n hx hb dX6_comesBack_1 rfl (lv_at hl 1 rfl) ?_
  refine lv_iload_n hx hb dX6_comesBack_2 rfl (lv_at hl 2 rfl) ?_
  have hPc := hP.sub (ws' := [(ro, .inr (11, [.int f6, .int s6, .ref rn, .ref rh, .int l6, .ref ca, .ref sa, .ref da, .ref xa])), (rn, .inr (12, [.int st, .int ce, .int sp, .int lm, .int rm, .int fa, .ref tn])), (tn, .inl (cI, 1001, .inl nf)), (ca, .inl (cI, 501, .inl cf)), (sa, .inl (cI, 501, .inl gf)), (da, .inl (cI, 501, .inl df)), (mm, .inr (10, [.int 0, .int 2, .int 2, .ref la, .int wr, .int tl, .int le, .int fi, .int se, .ref oo, .ref hh])), (oo, .inl (cI, 24, .inl o))]) [0, 1, 2, 5, 6, 7, 8, 9] rfl
  have hDc := hD.sub (ws' := [(ro, .inr (11, [.int f6, .int s6, .ref rn, .ref rh, .int l6, .ref ca, .ref sa, .ref da, .ref xa])), (rn, .inr (12, [.int st, .int ce, .int sp, .int lm, .int rm, .int fa, .ref tn])), (tn, .inl (cI, 1001, .inl nf)), (ca, .inl (cI, 501, .inl cf)), (sa, .inl (cI, 501, .inl gf)), (da, .inl (cI, 501, .inl df)), (mm, .inr (10, [.int 0, .int 2, .int 2, .ref la, .int wr, .int tl, .int le, .int fi, .int se, .ref oo, .ref hh])), (oo, .inl (cI, 24, .inl o))]) [0, 1, 2, 5, 6, 7, 8, 9] (by decide) rfl
  have hKc := hK.sub (tys' := [(cI, .int)]) [0] rfl
  have hFc := va_free (wc := [(ro, .inr (11, [.int f6, .int s6, .ref rn, .ref rh, .int l6, .ref ca, .ref sa, .ref da, .ref xa])), (rn, .inr (12, [.int st, .int ce, .int sp, .int lm, .int rm, .int fa, .ref tn])), (tn, .inl (cI, 1001, .inl nf)), (ca, .inl (cI, 501, .inl cf)), (sa, .inl (cI, 501, .inl gf)), (da, .inl (cI, 501, .inl df)), (mm, .inr (10, [.int 0, .int 2, .int 2, .ref la, .int wr, .int tl, .int le, .int fi, .int se, .ref oo, .ref hh])), (oo, .inl (cI, 24, .inl o))]) hD hS hA [0, 1, 2, 5, 6, 7, 8, 9] rfl
  refine va_callv (va_runV (As := [.ref mm, .int (nI k)]) (rest := []) ⟨hx, hb, hml, hown, hts⟩ (c_X6_writeDown l dC dI cI ro rn rh ca sa da xa tn th f6 s6 l6 st ce sp lm rm fa nf cf gf df mm oo la hh wr tl le fi se S T o hm k hk s.heap.size) (cwV 2 hts gX6_comesBack_X6_writeDown rfl rfl rfl (by decide +kernel) ⟨Nat.le_of_ble_eq_true rfl, Nat.le_of_ble_eq_true rfl⟩) (pcV hPc hDc hKc hN (ci := 11) (q0 := 0) rfl rfl) rfl rfl hl.1 rfl (lv_room (Nat.le_of_ble_eq_true rfl)) dX6_comesBack_3 ⟨Nat.le_of_ble_eq_true rfl, Nat.le_of_ble_eq_true rfl⟩) hS (fun q _ h => hFc q h) hFc (fun u t H1 locs ht hvm hw_11 hB hz1 hk1 hS => ?_)
  obtain ⟨⟨st_1, ce_2, sp_3, lm_4, rm_5, fa_6, f_7⟩, cf_8, gf_9, df_10⟩ := u
  obtain ⟨hP1, hK1, hD1⟩ := hB
  rw [ht] at hP1
  try dsimp only at hw_11
  obtain ⟨hP, hD⟩ := va_join (wr := [(rh, .inr (12, [.int st2, .int ce2, .int sp2, .int lm2, .int rm2, .int fa2, .ref th])), (th, .inl (cI, 1001, .inl hf))]) (w1 := [(ro, .inr (11, [.int f6, .int s6, .ref rn, .ref rh, .int (nI (lnT T k)), .ref ca, .ref sa, .ref da, .ref xa])), (rn, .inr (12, [.int st_1, .int ce_2, .int sp_3, .int lm_4, .int rm_5, .int fa_6, .ref tn])), (tn, .inl (cI, 1001, .inl f_7)), (ca, .inl (cI, 501, .inl cf_8)), (sa, .inl (cI, 501, .inl gf_9)), (da, .inl (cI, 501, .inl df_10)), (mm, .inr (10, [.int 0, .int 2, .int 2, .ref la, .int wr, .int tl, .int le, .int fi, .int se, .ref oo, .ref hh])), (oo, .inl (cI, 24, .inl o))]) hP hD [0, 1, 2, 5, 6, 7, 8, 9] [3, 4] rfl rfl (by decide) (by decide) hk1 hFc hP1 hD1
  generalize H1 = H at hP hS ⊢
  have hP : va_P (dC, dI) vwCl [(rh, .inr (12, [.int st2, .int ce2, .int sp2, .int lm2, .int rm2, .int fa2, .ref th])), (th, .inl (cI, 1001, .inl hf)), (ro, .inr (11, [.int f6, .int s6, .ref rn, .ref rh, .int (nI (lnT T k)), .ref ca, .ref sa, .ref da, .ref xa])), (rn, .inr (12, [.int st_1, .int ce_2, .int sp_3, .int lm_4, .int rm_5, .int fa_6, .ref tn])), (tn, .inl (cI, 1001, .inl f_7)), (ca, .inl (cI, 501, .inl cf_8)), (sa, .inl (cI, 501, .inl gf_9)), (da, .inl (cI, 501, .inl df_10)), (mm, .inr (10, [.int 0, .int 2, .int 2, .ref la, .int wr, .int tl, .int le, .int fi, .int se, .ref oo, .ref hh])), (oo, .inl (cI, 24, .inl o))] H := hP
  have hD : va_D A [(rh, .inr (12, [.int st2, .int ce2, .int sp2, .int lm2, .int rm2, .int fa2, .ref th])), (th, .inl (cI, 1001, .inl hf)), (ro, .inr (11, [.int f6, .int s6, .ref rn, .ref rh, .int (nI (lnT T k)), .ref ca, .ref sa, .ref da, .ref xa])), (rn, .inr (12, [.int st_1, .int ce_2, .int sp_3, .int lm_4, .int rm_5, .int fa_6, .ref tn])), (tn, .inl (cI, 1001, .inl f_7)), (ca, .inl (cI, 501, .inl cf_8)), (sa, .inl (cI, 501, .inl gf_9)), (da, .inl (cI, 501, .inl df_10)), (mm, .inr (10, [.int 0, .int 2, .int 2, .ref la, .int wr, .int tl, .int le, .int fi, .int se, .ref oo, .ref hh])), (oo, .inl (cI, 24, .inl o))] := hD
  refine lv_aload_n hx hb dX6_comesBack_6 rfl (lv_at hl 0 rfl) ?_
  refine va_get (D := (dC, dI)) (ci := 11) (v := .int (nI (lnT T k))) (C := RX6) (T := TX6) (N := 9) hx hb hts iWX6 hown hK hP 2 rfl rfl 4 (by decide) (hts (.fieldLink RX6 28 "Beaverhall$Returns" "length" "I") (by decide +kernel)) (fun _ h9 => h9) rfl dX6_comesBack_7 ?_
  refine lv_iload_n hx hb dX6_comesBack_10 rfl (lv_at hl 2 rfl) ?_
  refine lv_icmp_ge (tgt := 16) hx hb dX6_comesBack_11 (by decide) (fun c11_12 => ?_) (fun c11_12 => ?_)
  · have hln : lnT T k = k := by have h8 := (lnT_al T k).2; have h9 := (nI_leI (a := k) (b := lnT T k) (by omega) (by omega)).mp c11_12; omega
    refine lv_aload_n hx hb dX6_comesBack_16 rfl (lv_at hl 0 rfl) ?_
    have hPc := hP.sub (ws' := [(ro, .inr (11, [.int f6, .int s6, .ref rn, .ref rh, .int (nI (lnT T k)), .ref ca, .ref sa, .ref da, .ref xa])), (rn, .inr (12, [.int st_1, .int ce_2, .int sp_3, .int lm_4, .int rm_5, .int fa_6, .ref tn])), (tn, .inl (cI, 1001, .inl f_7)), (rh, .inr (12, [.int st2, .int ce2, .int sp2, .int lm2, .int rm2, .int fa2, .ref th])), (th, .inl (cI, 1001, .inl hf)), (ca, .inl (cI, 501, .inl cf_8)), (sa, .inl (cI, 501, .inl gf_9)), (da, .inl (cI, 501, .inl df_10))]) [2, 3, 4, 0, 1, 5, 6, 7] rfl
    have hDc := hD.sub (ws' := [(ro, .inr (11, [.int f6, .int s6, .ref rn, .ref rh, .int (nI (lnT T k)), .ref ca, .ref sa, .ref da, .ref xa])), (rn, .inr (12, [.int st_1, .int ce_2, .int sp_3, .int lm_4, .int rm_5, .int fa_6, .ref tn])), (tn, .inl (cI, 1001, .inl f_7)), (rh, .inr (12, [.int st2, .int ce2, .int sp2, .int lm2, .int rm2, .int fa2, .ref th])), (th, .inl (cI, 1001, .inl hf)), (ca, .inl (cI, 501, .inl cf_8)), (sa, .inl (cI, 501, .inl gf_9)), (da, .inl (cI, 501, .inl df_10))]) [2, 3, 4, 0, 1, 5, 6, 7] (by decide) rfl
    have hKc := hK.sub (tys' := [(cI, .int)]) [0] rfl
    have hFc := va_free (wc := [(ro, .inr (11, [.int f6, .int s6, .ref rn, .ref rh, .int (nI (lnT T k)), .ref ca, .ref sa, .ref da, .ref xa])), (rn, .inr (12, [.int st_1, .int ce_2, .int sp_3, .int lm_4, .int rm_5, .int fa_6, .ref tn])), (tn, .inl (cI, 1001, .inl f_7)), (rh, .inr (12, [.int st2, .int ce2, .int sp2, .int lm2, .int rm2, .int fa2, .ref th])), (th, .inl (cI, 1001, .inl hf)), (ca, .inl (cI, 501, .inl cf_8)), (sa, .inl (cI, 501, .inl gf_9)), (da, .inl (cI, 501, .inl df_10))]) hD hS hA [2, 3, 4, 0, 1, 5, 6, 7] rfl
    refine va_calli (va_runV (As := []) (rest := []) ⟨hx, hb, hml, hown, hts⟩ (c_X6_periodAtEnd l dC dI cI ro rn rh ca sa da xa tn th f6 s6 st_1 ce_2 sp_3 lm_4 rm_5 fa_6 f_7 st2 ce2 sp2 lm2 rm2 fa2 hf cf_8 gf_9 df_10 S T o hm (lnT T k) (by have := (lnT_al T k).2; omega) (lnT_al T k).1 hw_11.1 hw_11.2 H.size) (cwV 0 hts gX6_comesBack_X6_periodAtEnd rfl rfl rfl (by decide +kernel) ⟨Nat.le_of_ble_eq_true rfl, Nat.le_of_ble_eq_true rfl⟩) (pcV hPc hDc hKc hN (ci := 11) (q0 := 0) rfl rfl) rfl rfl hl.1 rfl (lv_room (Nat.le_of_ble_eq_true rfl)) dX6_comesBack_17 ⟨Nat.le_of_ble_eq_true rfl, Nat.le_of_ble_eq_true rfl⟩) hS (fun q _ h => hFc q h) hFc (fun r_13 u t H1 locs ht hvm hw_14 hB hz1 hk1 hS => ?_)
    obtain ⟨hP1, hK1, hD1⟩ := hB
    rw [ht] at hP1
    try dsimp only at hw_14
    obtain ⟨hP, hD⟩ := va_join (wr := [(mm, .inr (10, [.int 0, .int 2, .int 2, .ref la, .int wr, .int tl, .int le, .int fi, .int se, .ref oo, .ref hh])), (oo, .inl (cI, 24, .inl o))]) (w1 := [(ro, .inr (11, [.int f6, .int s6, .ref rn, .ref rh, .int (nI (lnT T k)), .ref ca, .ref sa, .ref da, .ref xa])), (rn, .inr (12, [.int st_1, .int ce_2, .int sp_3, .int lm_4, .int rm_5, .int fa_6, .ref tn])), (tn, .inl (cI, 1001, .inl f_7)), (rh, .inr (12, [.int st2, .int ce2, .int sp2, .int lm2, .int rm2, .int fa2, .ref th])), (th, .inl (cI, 1001, .inl u)), (ca, .inl (cI, 501, .inl cf_8)), (sa, .inl (cI, 501, .inl gf_9)), (da, .inl (cI, 501, .inl df_10))]) hP hD [2, 3, 4, 0, 1, 5, 6, 7] [8, 9] rfl rfl (by decide) (by decide) hk1 hFc hP1 hD1
    generalize H1 = H at hP hS ⊢
    have hP : va_P (dC, dI) vwCl [(mm, .inr (10, [.int 0, .int 2, .int 2, .ref la, .int wr, .int tl, .int le, .int fi, .int se, .ref oo, .ref hh])), (oo, .inl (cI, 24, .inl o)), (ro, .inr (11, [.int f6, .int s6, .ref rn, .ref rh, .int (nI (lnT T k)), .ref ca, .ref sa, .ref da, .ref xa])), (rn, .inr (12, [.int st_1, .int ce_2, .int sp_3, .int lm_4, .int rm_5, .int fa_6, .ref tn])), (tn, .inl (cI, 1001, .inl f_7)), (rh, .inr (12, [.int st2, .int ce2, .int sp2, .int lm2, .int rm2, .int fa2, .ref th])), (th, .inl (cI, 1001, .inl u)), (ca, .inl (cI, 501, .inl cf_8)), (sa, .inl (cI, 501, .inl gf_9)), (da, .inl (cI, 501, .inl df_10))] H := hP
    have hD : va_D A [(mm, .inr (10, [.int 0, .int 2, .int 2, .ref la, .int wr, .int tl, .int le, .int fi, .int se, .ref oo, .ref hh])), (oo, .inl (cI, 24, .inl o)), (ro, .inr (11, [.int f6, .int s6, .ref rn, .ref rh, .int (nI (lnT T k)), .ref ca, .ref sa, .ref da, .ref xa])), (rn, .inr (12, [.int st_1, .int ce_2, .int sp_3, .int lm_4, .int rm_5, .int fa_6, .ref tn])), (tn, .inl (cI, 1001, .inl f_7)), (rh, .inr (12, [.int st2, .int ce2, .int sp2, .int lm2, .int rm2, .int fa2, .ref th])), (th, .inl (cI, 1001, .inl u)), (ca, .inl (cI, 501, .inl cf_8)), (sa, .inl (cI, 501, .inl gf_9)), (da, .inl (cI, 501, .inl df_10))] := hD
    obtain ⟨f_15, ef_15⟩ : ∃ z, z = u := ⟨_, rfl⟩
    subst ef_15
    refine lv_istore_n (lv' := [(3, .int r_13), (0, .ref ro), (1, .ref mm), (2, .int (nI k))]) hx hb dX6_comesBack_20 rfl hl (by decide) rfl (fun ls hl => ?_)
    refine lv_iload_n hx hb dX6_comesBack_21 rfl (lv_at hl 0 rfl) ?_
    refine lv_if_ne (tgt := 27) hx hb dX6_comesBack_22 (by decide) (fun c22_16 => ?_) (fun c22_16 => ?_)
    · obtain ⟨i9, hi9, hal9, hx9⟩ := hw_14.resolve_right (fun h => c22_16 h.1)
      have hBack : backP (nI 2) (cW T) (cM T) (cN T) k := backP_iff.mpr ⟨by have h := (lnT_al T k).1; rw [hln] at h; exact h, i9, by rw [hln] at hi9; exact hi9, by rw [hln] at hal9; exact hal9⟩
      subst hx9
      have hP : va_P (dC, dI) vwCl [(mm, .inr (10, [.int 0, .int 2, .int 2, .ref la, .int wr, .int tl, .int le, .int fi, .int se, .ref oo, .ref hh])), (oo, .inl (cI, 24, .inl o)), (ro, .inr (11, [.int f6, .int s6, .ref rn, .ref rh, .int (nI (lnT T k)), .ref ca, .ref sa, .ref da, .ref xa])), (rn, .inr (12, [.int st_1, .int ce_2, .int sp_3, .int lm_4, .int rm_5, .int fa_6, .ref tn])), (tn, .inl (cI, 1001, .inl f_7)), (rh, .inr (12, [.int st2, .int ce2, .int sp2, .int lm2, .int rm2, .int fa2, .ref th])), (th, .inl (cI, 1001, .inl f_15)), (ca, .inl (cI, 501, .inl cf_8)), (sa, .inl (cI, 501, .inl gf_9)), (da, .inl (cI, 501, .inl df_10))] H := hP
      have hD : va_D A [(mm, .inr (10, [.int 0, .int 2, .int 2, .ref la, .int wr, .int tl, .int le, .int fi, .int se, .ref oo, .ref hh])), (oo, .inl (cI, 24, .inl o)), (ro, .inr (11, [.int f6, .int s6, .ref rn, .ref rh, .int (nI (lnT T k)), .ref ca, .ref sa, .ref da, .ref xa])), (rn, .inr (12, [.int st_1, .int ce_2, .int sp_3, .int lm_4, .int rm_5, .int fa_6, .ref tn])), (tn, .inl (cI, 1001, .inl f_7)), (rh, .inr (12, [.int st2, .int ce2, .int sp2, .int lm2, .int rm2, .int fa2, .ref th])), (th, .inl (cI, 1001, .inl f_15)), (ca, .inl (cI, 501, .inl cf_8)), (sa, .inl (cI, 501, .inl gf_9)), (da, .inl (cI, 501, .inl df_10))] := hD
      have hl : lv_has ls 4 [(3, .int (nI (lnT T k - i9))), (0, .ref ro), (1, .ref mm), (2, .int (nI k))] := hl
      refine lv_aload_n hx hb dX6_comesBack_27 rfl (lv_at hl 1 rfl) ?_
      refine lv_aload_n hx hb dX6_comesBack_28 rfl (lv_at hl 1 rfl) ?_
      refine lv_aload_n hx hb dX6_comesBack_29 rfl (lv_at hl 2 rfl) ?_
      refine lv_iload_n hx hb dX6_comesBack_30 rfl (lv_at hl 0 rfl) ?_
      have hPc := hP.sub (ws' := [(ro, .inr (11, [.int f6, .int s6, .ref rn, .ref rh, .int (nI (lnT T k)), .ref ca, .ref sa, .ref da, .ref xa])), (rn, .inr (12, [.int st_1, .int ce_2, .int sp_3, .int lm_4, .int rm_5, .int fa_6, .ref tn])), (tn, .inl (cI, 1001, .inl f_7)), (rh, .inr (12, [.int st2, .int ce2, .int sp2, .int lm2, .int rm2, .int fa2, .ref th])), (th, .inl (cI, 1001, .inl f_15)), (mm, .inr (10, [.int 0, .int 2, .int 2, .ref la, .int wr, .int tl, .int le, .int fi, .int se, .ref oo, .ref hh])), (oo, .inl (cI, 24, .inl o))]) [2, 3, 4, 5, 6, 0, 1] rfl
      have hDc := hD.sub (ws' := [(ro, .inr (11, [.int f6, .int s6, .ref rn, .ref rh, .int (nI (lnT T k)), .ref ca, .ref sa, .ref da, .ref xa])), (rn, .inr (12, [.int st_1, .int ce_2, .int sp_3, .int lm_4, .int rm_5, .int fa_6, .ref tn])), (tn, .inl (cI, 1001, .inl f_7)), (rh, .inr (12, [.int st2, .int ce2, .int sp2, .int lm2, .int rm2, .int fa2, .ref th])), (th, .inl (cI, 1001, .inl f_15)), (mm, .inr (10, [.int 0, .int 2, .int 2, .ref la, .int wr, .int tl, .int le, .int fi, .int se, .ref oo, .ref hh])), (oo, .inl (cI, 24, .inl o))]) [2, 3, 4, 5, 6, 0, 1] (by decide) rfl
      have hKc := hK.sub (tys' := [(cI, .int)]) [0] rfl
      have hFc := va_free (wc := [(ro, .inr (11, [.int f6, .int s6, .ref rn, .ref rh, .int (nI (lnT T k)), .ref ca, .ref sa, .ref da, .ref xa])), (rn, .inr (12, [.int st_1, .int ce_2, .int sp_3, .int lm_4, .int rm_5, .int fa_6, .ref tn])), (tn, .inl (cI, 1001, .inl f_7)), (rh, .inr (12, [.int st2, .int ce2, .int sp2, .int lm2, .int rm2, .int fa2, .ref th])), (th, .inl (cI, 1001, .inl f_15)), (mm, .inr (10, [.int 0, .int 2, .int 2, .ref la, .int wr, .int tl, .int le, .int fi, .int se, .ref oo, .ref hh])), (oo, .inl (cI, 24, .inl o))]) hD hS hA [2, 3, 4, 5, 6, 0, 1] rfl
      refine va_calli (va_runV (As := [.ref mm, .int (nI (lnT T k - i9))]) (rest := [.ref ro]) ⟨hx, hb, hml, hown, hts⟩ (c_X6_leastStart l dC dI cI ro rn rh ca sa da xa tn th f6 s6 st_1 ce_2 sp_3 lm_4 rm_5 fa_6 f_7 st2 ce2 sp2 lm2 rm2 fa2 f_15 mm oo la hh wr tl le fi se S T o hm (lnT T k) (lnT T k - i9) (by have := (lnT_al T k).2; omega) (by omega) (lnT_al T k).1 H.size) (cwV 2 hts gX6_comesBack_X6_leastStart rfl rfl rfl (by decide +kernel) ⟨Nat.le_of_ble_eq_true rfl, Nat.le_of_ble_eq_true rfl⟩) (pcV hPc hDc hKc hN (ci := 11) (q0 := 0) rfl rfl) rfl rfl hl.1 rfl (lv_room (Nat.le_of_ble_eq_true rfl)) dX6_comesBack_31 ⟨Nat.le_of_ble_eq_true rfl, Nat.le_of_ble_eq_true rfl⟩) hS (fun q _ h => hFc q h) hFc (fun r_31 u t H1 locs ht hvm hw_32 hB hz1 hk1 hS => ?_)
      obtain ⟨⟨st_17, ce_18, sp_19, lm_20, rm_21, fa_22, nf_23⟩, st2_24, ce2_25, sp2_26, lm2_27, rm2_28, fa2_29, hf_30⟩ := u
      obtain ⟨hP1, hK1, hD1⟩ := hB
      rw [ht] at hP1
      try dsimp only at hw_32
      obtain ⟨hP, hD⟩ := va_join (wr := [(ca, .inl (cI, 501, .inl cf_8)), (sa, .inl (cI, 501, .inl gf_9)), (da, .inl (cI, 501, .inl df_10))]) (w1 := [(ro, .inr (11, [.int f6, .int s6, .ref rn, .ref rh, .int (nI (lnT T k)), .ref ca, .ref sa, .ref da, .ref xa])), (rn, .inr (12, [.int st_17, .int ce_18, .int sp_19, .int lm_20, .int rm_21, .int fa_22, .ref tn])), (tn, .inl (cI, 1001, .inl nf_23)), (rh, .inr (12, [.int st2_24, .int ce2_25, .int sp2_26, .int lm2_27, .int rm2_28, .int fa2_29, .ref th])), (th, .inl (cI, 1001, .inl hf_30)), (mm, .inr (10, [.int 0, .int 2, .int 2, .ref la, .int wr, .int tl, .int le, .int fi, .int se, .ref oo, .ref hh])), (oo, .inl (cI, 24, .inl o))]) hP hD [2, 3, 4, 5, 6, 0, 1] [7, 8, 9] rfl rfl (by decide) (by decide) hk1 hFc hP1 hD1
      generalize H1 = H at hP hS ⊢
      have hP : va_P (dC, dI) vwCl [(ca, .inl (cI, 501, .inl cf_8)), (sa, .inl (cI, 501, .inl gf_9)), (da, .inl (cI, 501, .inl df_10)), (ro, .inr (11, [.int f6, .int s6, .ref rn, .ref rh, .int (nI (lnT T k)), .ref ca, .ref sa, .ref da, .ref xa])), (rn, .inr (12, [.int st_17, .int ce_18, .int sp_19, .int lm_20, .int rm_21, .int fa_22, .ref tn])), (tn, .inl (cI, 1001, .inl nf_23)), (rh, .inr (12, [.int st2_24, .int ce2_25, .int sp2_26, .int lm2_27, .int rm2_28, .int fa2_29, .ref th])), (th, .inl (cI, 1001, .inl hf_30)), (mm, .inr (10, [.int 0, .int 2, .int 2, .ref la, .int wr, .int tl, .int le, .int fi, .int se, .ref oo, .ref hh])), (oo, .inl (cI, 24, .inl o))] H := hP
      have hD : va_D A [(ca, .inl (cI, 501, .inl cf_8)), (sa, .inl (cI, 501, .inl gf_9)), (da, .inl (cI, 501, .inl df_10)), (ro, .inr (11, [.int f6, .int s6, .ref rn, .ref rh, .int (nI (lnT T k)), .ref ca, .ref sa, .ref da, .ref xa])), (rn, .inr (12, [.int st_17, .int ce_18, .int sp_19, .int lm_20, .int rm_21, .int fa_22, .ref tn])), (tn, .inl (cI, 1001, .inl nf_23)), (rh, .inr (12, [.int st2_24, .int ce2_25, .int sp2_26, .int lm2_27, .int rm2_28, .int fa2_29, .ref th])), (th, .inl (cI, 1001, .inl hf_30)), (mm, .inr (10, [.int 0, .int 2, .int 2, .ref la, .int wr, .int tl, .int le, .int fi, .int se, .ref oo, .ref hh])), (oo, .inl (cI, 24, .inl o))] := hD
      refine va_put (D := (dC, dI)) (ci := 11) (v := .int r_31) (ty := .int) (C := RX6) (T := TX6) (N := 9) hx hb hts iWX6 tyX6 tyX6_ok nmX6 hown hK hP hD hS 3 rfl rfl 0 (by decide) (hts (.fieldLink RX6 9 "Beaverhall$Returns" "first" "I") (by decide +kernel)) (fun _ h9 => h9) rfl (by decide +kernel) rfl rfl (Nat.le_of_ble_eq_true rfl) dX6_comesBack_34 (fun H locs hP hD hS => ?_)
      have hP : va_P (dC, dI) vwCl [(ca, .inl (cI, 501, .inl cf_8)), (sa, .inl (cI, 501, .inl gf_9)), (da, .inl (cI, 501, .inl df_10)), (ro, .inr (11, [.int r_31, .int s6, .ref rn, .ref rh, .int (nI (lnT T k)), .ref ca, .ref sa, .ref da, .ref xa])), (rn, .inr (12, [.int st_17, .int ce_18, .int sp_19, .int lm_20, .int rm_21, .int fa_22, .ref tn])), (tn, .inl (cI, 1001, .inl nf_23)), (rh, .inr (12, [.int st2_24, .int ce2_25, .int sp2_26, .int lm2_27, .int rm2_28, .int fa2_29, .ref th])), (th, .inl (cI, 1001, .inl hf_30)), (mm, .inr (10, [.int 0, .int 2, .int 2, .ref la, .int wr, .int tl, .int le, .int fi, .int se, .ref oo, .ref hh])), (oo, .inl (cI, 24, .inl o))] H := hP
      have hD : va_D A [(ca, .inl (cI, 501, .inl cf_8)), (sa, .inl (cI, 501, .inl gf_9)), (da, .inl (cI, 501, .inl df_10)), (ro, .inr (11, [.int r_31, .int s6, .ref rn, .ref rh, .int (nI (lnT T k)), .ref ca, .ref sa, .ref da, .ref xa])), (rn, .inr (12, [.int st_17, .int ce_18, .int sp_19, .int lm_20, .int rm_21, .int fa_22, .ref tn])), (tn, .inl (cI, 1001, .inl nf_23)), (rh, .inr (12, [.int st2_24, .int ce2_25, .int sp2_26, .int lm2_27, .int rm2_28, .int fa2_29, .ref th])), (th, .inl (cI, 1001, .inl hf_30)), (mm, .inr (10, [.int 0, .int 2, .int 2, .ref la, .int wr, .int tl, .int le, .int fi, .int se, .ref oo, .ref hh])), (oo, .inl (cI, 24, .inl o))] := hD
      refine lv_aload_n hx hb dX6_comesBack_37 rfl (lv_at hl 1 rfl) ?_
      refine lv_iload_n hx hb dX6_comesBack_38 rfl (lv_at hl 0 rfl) ?_
      refine lv_topi (fun x_33 ex_33 => ?_)
      refine va_put (D := (dC, dI)) (ci := 11) (v := .int x_33) (ty := .int) (C := RX6) (T := TX6) (N := 9) hx hb hts iWX6 tyX6 tyX6_ok nmX6 hown hK hP hD hS 3 rfl rfl 1 (by decide) (hts (.fieldLink RX6 15 "Beaverhall$Returns" "second" "I") (by decide +kernel)) (fun _ h9 => h9) rfl (by decide +kernel) rfl rfl (Nat.le_of_ble_eq_true rfl) dX6_comesBack_39 (fun H locs hP hD hS => ?_)
      have hP : va_P (dC, dI) vwCl [(ca, .inl (cI, 501, .inl cf_8)), (sa, .inl (cI, 501, .inl gf_9)), (da, .inl (cI, 501, .inl df_10)), (ro, .inr (11, [.int r_31, .int x_33, .ref rn, .ref rh, .int (nI (lnT T k)), .ref ca, .ref sa, .ref da, .ref xa])), (rn, .inr (12, [.int st_17, .int ce_18, .int sp_19, .int lm_20, .int rm_21, .int fa_22, .ref tn])), (tn, .inl (cI, 1001, .inl nf_23)), (rh, .inr (12, [.int st2_24, .int ce2_25, .int sp2_26, .int lm2_27, .int rm2_28, .int fa2_29, .ref th])), (th, .inl (cI, 1001, .inl hf_30)), (mm, .inr (10, [.int 0, .int 2, .int 2, .ref la, .int wr, .int tl, .int le, .int fi, .int se, .ref oo, .ref hh])), (oo, .inl (cI, 24, .inl o))] H := hP
      have hD : va_D A [(ca, .inl (cI, 501, .inl cf_8)), (sa, .inl (cI, 501, .inl gf_9)), (da, .inl (cI, 501, .inl df_10)), (ro, .inr (11, [.int r_31, .int x_33, .ref rn, .ref rh, .int (nI (lnT T k)), .ref ca, .ref sa, .ref da, .ref xa])), (rn, .inr (12, [.int st_17, .int ce_18, .int sp_19, .int lm_20, .int rm_21, .int fa_22, .ref tn])), (tn, .inl (cI, 1001, .inl nf_23)), (rh, .inr (12, [.int st2_24, .int ce2_25, .int sp2_26, .int lm2_27, .int rm2_28, .int fa2_29, .ref th])), (th, .inl (cI, 1001, .inl hf_30)), (mm, .inr (10, [.int 0, .int 2, .int 2, .ref la, .int wr, .int tl, .int le, .int fi, .int se, .ref oo, .ref hh])), (oo, .inl (cI, 24, .inl o))] := hD
      refine lv_iconst (v := 1) hx hb dX6_comesBack_42 (by decide) ?_
      have hP9 := hP.sub (ws' := [(ro, .inr (11, [.int r_31, .int x_33, .ref rn, .ref rh, .int (nI (lnT T k)), .ref ca, .ref sa, .ref da, .ref xa])), (rn, .inr (12, [.int st_17, .int ce_18, .int sp_19, .int lm_20, .int rm_21, .int fa_22, .ref tn])), (tn, .inl (cI, 1001, .inl nf_23)), (rh, .inr (12, [.int st2_24, .int ce2_25, .int sp2_26, .int lm2_27, .int rm2_28, .int fa2_29, .ref th])), (th, .inl (cI, 1001, .inl hf_30)), (ca, .inl (cI, 501, .inl cf_8)), (sa, .inl (cI, 501, .inl gf_9)), (da, .inl (cI, 501, .inl df_10)), (mm, .inr (10, [.int 0, .int 2, .int 2, .ref la, .int wr, .int tl, .int le, .int fi, .int se, .ref oo, .ref hh])), (oo, .inl (cI, 24, .inl o))]) [3, 4, 5, 6, 7, 0, 1, 2, 8, 9] rfl
      have hD9 := hD.sub (ws' := [(ro, .inr (11, [.int r_31, .int x_33, .ref rn, .ref rh, .int (nI (lnT T k)), .ref ca, .ref sa, .ref da, .ref xa])), (rn, .inr (12, [.int st_17, .int ce_18, .int sp_19, .int lm_20, .int rm_21, .int fa_22, .ref tn])), (tn, .inl (cI, 1001, .inl nf_23)), (rh, .inr (12, [.int st2_24, .int ce2_25, .int sp2_26, .int lm2_27, .int rm2_28, .int fa2_29, .ref th])), (th, .inl (cI, 1001, .inl hf_30)), (ca, .inl (cI, 501, .inl cf_8)), (sa, .inl (cI, 501, .inl gf_9)), (da, .inl (cI, 501, .inl df_10)), (mm, .inr (10, [.int 0, .int 2, .int 2, .ref la, .int wr, .int tl, .int le, .int fi, .int se, .ref oo, .ref hh])), (oo, .inl (cI, 24, .inl o))]) [3, 4, 5, 6, 7, 0, 1, 2, 8, 9] (by decide) rfl
      have hK9 := hK.sub (tys' := [(cI, .int)]) [0] rfl
      exact W.zret (v := 1) hx hb hr (by rfl) (fun t ht hW => ⟨⟨1, (r_31, x_33, (st_17, ce_18, sp_19, lm_20, rm_21, fa_22, nf_23), (st2_24, ce2_25, sp2_26, lm2_27, rm2_28, fa2_29, hf_30), cf_8, gf_9, df_10), rfl, (Or.inl ⟨rfl, hBack⟩), ⟨by rw [ht]; exact hP9, va_K.moved hW.alike hK9, hD9⟩⟩, hS.F ht⟩) hS.2.2 dX6_comesBack_43
    · refine lv_iconst (v := 0) hx hb dX6_comesBack_25 (by decide) ?_
      have hP9 := hP.sub (ws' := [(ro, .inr (11, [.int f6, .int s6, .ref rn, .ref rh, .int (nI (lnT T k)), .ref ca, .ref sa, .ref da, .ref xa])), (rn, .inr (12, [.int st_1, .int ce_2, .int sp_3, .int lm_4, .int rm_5, .int fa_6, .ref tn])), (tn, .inl (cI, 1001, .inl f_7)), (rh, .inr (12, [.int st2, .int ce2, .int sp2, .int lm2, .int rm2, .int fa2, .ref th])), (th, .inl (cI, 1001, .inl f_15)), (ca, .inl (cI, 501, .inl cf_8)), (sa, .inl (cI, 501, .inl gf_9)), (da, .inl (cI, 501, .inl df_10)), (mm, .inr (10, [.int 0, .int 2, .int 2, .ref la, .int wr, .int tl, .int le, .int fi, .int se, .ref oo, .ref hh])), (oo, .inl (cI, 24, .inl o))]) [2, 3, 4, 5, 6, 7, 8, 9, 0, 1] rfl
      have hD9 := hD.sub (ws' := [(ro, .inr (11, [.int f6, .int s6, .ref rn, .ref rh, .int (nI (lnT T k)), .ref ca, .ref sa, .ref da, .ref xa])), (rn, .inr (12, [.int st_1, .int ce_2, .int sp_3, .int lm_4, .int rm_5, .int fa_6, .ref tn])), (tn, .inl (cI, 1001, .inl f_7)), (rh, .inr (12, [.int st2, .int ce2, .int sp2, .int lm2, .int rm2, .int fa2, .ref th])), (th, .inl (cI, 1001, .inl f_15)), (ca, .inl (cI, 501, .inl cf_8)), (sa, .inl (cI, 501, .inl gf_9)), (da, .inl (cI, 501, .inl df_10)), (mm, .inr (10, [.int 0, .int 2, .int 2, .ref la, .int wr, .int tl, .int le, .int fi, .int se, .ref oo, .ref hh])), (oo, .inl (cI, 24, .inl o))]) [2, 3, 4, 5, 6, 7, 8, 9, 0, 1] (by decide) rfl
      have hK9 := hK.sub (tys' := [(cI, .int)]) [0] rfl
      exact W.zret (v := 0) hx hb hr (by rfl) (fun t ht hW => ⟨⟨0, (f6, s6, (st_1, ce_2, sp_3, lm_4, rm_5, fa_6, f_7), (st2, ce2, sp2, lm2, rm2, fa2, f_15), cf_8, gf_9, df_10), rfl, (Or.inr ⟨rfl, fun h => hw_14.elim (fun h9 => by obtain ⟨i, h1, h2, h3⟩ := h9; rw [h3] at c22_16; exact absurd c22_16 (nI_ne0 (by omega) (by omega))) (fun h9 => by obtain ⟨-, i, h1, h2⟩ := backP_iff.mp h; exact h9.2 i (by rw [hln]; exact h1) (by rw [hln]; exact h2))⟩), ⟨by rw [ht]; exact hP9, va_K.moved hW.alike hK9, hD9⟩⟩, hS.F ht⟩) hS.2.2 dX6_comesBack_26
  · refine lv_iconst (v := 0) hx hb dX6_comesBack_14 (by decide) ?_
    have hP9 := hP.sub (ws' := [(ro, .inr (11, [.int f6, .int s6, .ref rn, .ref rh, .int (nI (lnT T k)), .ref ca, .ref sa, .ref da, .ref xa])), (rn, .inr (12, [.int st_1, .int ce_2, .int sp_3, .int lm_4, .int rm_5, .int fa_6, .ref tn])), (tn, .inl (cI, 1001, .inl f_7)), (rh, .inr (12, [.int st2, .int ce2, .int sp2, .int lm2, .int rm2, .int fa2, .ref th])), (th, .inl (cI, 1001, .inl hf)), (ca, .inl (cI, 501, .inl cf_8)), (sa, .inl (cI, 501, .inl gf_9)), (da, .inl (cI, 501, .inl df_10)), (mm, .inr (10, [.int 0, .int 2, .int 2, .ref la, .int wr, .int tl, .int le, .int fi, .int se, .ref oo, .ref hh])), (oo, .inl (cI, 24, .inl o))]) [2, 3, 4, 0, 1, 5, 6, 7, 8, 9] rfl
    have hD9 := hD.sub (ws' := [(ro, .inr (11, [.int f6, .int s6, .ref rn, .ref rh, .int (nI (lnT T k)), .ref ca, .ref sa, .ref da, .ref xa])), (rn, .inr (12, [.int st_1, .int ce_2, .int sp_3, .int lm_4, .int rm_5, .int fa_6, .ref tn])), (tn, .inl (cI, 1001, .inl f_7)), (rh, .inr (12, [.int st2, .int ce2, .int sp2, .int lm2, .int rm2, .int fa2, .ref th])), (th, .inl (cI, 1001, .inl hf)), (ca, .inl (cI, 501, .inl cf_8)), (sa, .inl (cI, 501, .inl gf_9)), (da, .inl (cI, 501, .inl df_10)), (mm, .inr (10, [.int 0, .int 2, .int 2, .ref la, .int wr, .int tl, .int le, .int fi, .int se, .ref oo, .ref hh])), (oo, .inl (cI, 24, .inl o))]) [2, 3, 4, 0, 1, 5, 6, 7, 8, 9] (by decide) rfl
    have hK9 := hK.sub (tys' := [(cI, .int)]) [0] rfl
    exact W.zret (v := 0) hx hb hr (by rfl) (fun t ht hW => ⟨⟨0, (f6, s6, (st_1, ce_2, sp_3, lm_4, rm_5, fa_6, f_7), (st2, ce2, sp2, lm2, rm2, fa2, hf), cf_8, gf_9, df_10), rfl, (Or.inr ⟨rfl, fun h => by have h8 := (backP_iff.mp h).1; have h9 : lnT T k = k := lenR_full.mpr h8; exact c11_12 (by rw [h9]; exact Int32.le_refl _)⟩), ⟨by rw [ht]; exact hP9, va_K.moved hW.alike hK9, hD9⟩⟩, hS.F ht⟩) hS.2.2 dX6_comesBack_15
