theorem dX6_leastLike_0 : decode cX6_leastLike 0 = .ok (.aload_n 0, 1) := by decide +kernel
theorem dX6_leastLike_1 : decode cX6_leastLike 1 = .ok (.getfield 25, 3) := by decide +kernel
theorem dX6_leastLike_4 : decode cX6_leastLike 4 = .ok (.aload_n 0, 1) := by decide +kernel
theorem dX6_leastLike_5 : decode cX6_leastLike 5 = .ok (.getfield 21, 3) := by decide +kernel
set_option maxRecDepth 20000 in
theorem ggX6_leastLike_X7_takeTape : GoodIn wsX6_leastLike wsX7_takeTape := goodIn_r _ [17, 18, 19, 20, 21, 22, 47, 48, 49, 50, 51, 52, 53] rfl (by decide +kernel)
set_option maxRecDepth 20000 in
theorem gX6_leastLike_X7_takeTape : GoodIn wsX6_leastLike (wsV RX6 85 RX7 yX7_takeTape wsX7_takeTape) := goodIn_app (goodIn_of _ (by decide +kernel)) ggX6_leastLike_X7_takeTape
theorem dX6_leastLike_8 : decode cX6_leastLike 8 = .ok (.invokevirtual 85, 3) := by decide +kernel
theorem dX6_leastLike_11 : decode cX6_leastLike 11 = .ok (.iconst (-1), 1) := by decide +kernel
theorem dX6_leastLike_12 : decode cX6_leastLike 12 = .ok (.istore 4, 2) := by decide +kernel
theorem dX6_leastLike_14 : decode cX6_leastLike 14 = .ok (.aload_n 0, 1) := by decide +kernel
theorem dX6_leastLike_15 : decode cX6_leastLike 15 = .ok (.getfield 21, 3) := by decide +kernel
theorem dX6_leastLike_18 : decode cX6_leastLike 18 = .ok (.getfield 67, 3) := by decide +kernel
theorem dX6_leastLike_21 : decode cX6_leastLike 21 = .ok (.iload_n 2, 1) := by decide +kernel
theorem dX6_leastLike_22 : decode cX6_leastLike 22 = .ok (.imul, 1) := by decide +kernel
theorem dX6_leastLike_23 : decode cX6_leastLike 23 = .ok (.istore 5, 2) := by decide +kernel
theorem dX6_leastLike_25 : decode cX6_leastLike 25 = .ok (.iload_n 1, 1) := by decide +kernel
theorem dX6_leastLike_26 : decode cX6_leastLike 26 = .ok (.istore 6, 2) := by decide +kernel
theorem dX6_leastLike_28 : decode cX6_leastLike 28 = .ok (.iload_n 3, 1) := by decide +kernel
theorem dX6_leastLike_29 : decode cX6_leastLike 29 = .ok (.iconst 1, 1) := by decide +kernel
theorem dX6_leastLike_30 : decode cX6_leastLike 30 = .ok (.isub, 1) := by decide +kernel
theorem dX6_leastLike_31 : decode cX6_leastLike 31 = .ok (.istore 7, 2) := by decide +kernel
theorem dX6_leastLike_33 : decode cX6_leastLike 33 = .ok (.iload 7, 2) := by decide +kernel
theorem dX6_leastLike_35 : decode cX6_leastLike 35 = .ok (.ifCond .lt 144, 3) := by decide +kernel
theorem dX6_leastLike_179 : decode cX6_leastLike 179 = .ok (.iload 4, 2) := by decide +kernel
theorem dX6_leastLike_181 : decode cX6_leastLike 181 = .ok (.ireturn, 1) := by decide +kernel
theorem dX6_leastLike_38 : decode cX6_leastLike 38 = .ok (.aload_n 0, 1) := by decide +kernel
theorem dX6_leastLike_39 : decode cX6_leastLike 39 = .ok (.getfield 41, 3) := by decide +kernel
theorem dX6_leastLike_42 : decode cX6_leastLike 42 = .ok (.iload 7, 2) := by decide +kernel
set_option maxRecDepth 20000 in
theorem ggX6_leastLike_X11_at : GoodIn wsX6_leastLike wsX11_at := goodIn_ca (goodIn_r _ [25] rfl (by decide +kernel)) (goodIn_sub (fun _ h => List.mem_cons_of_mem _ (List.mem_append_right _ h)) (by decide +kernel))
set_option maxRecDepth 20000 in
theorem gX6_leastLike_X11_at_n89 : GoodIn wsX6_leastLike (wsX11_at) := ggX6_leastLike_X11_at
theorem dX6_leastLike_44 : decode cX6_leastLike 44 = .ok (.invokestatic 89, 3) := by decide +kernel
theorem dX6_leastLike_47 : decode cX6_leastLike 47 = .ok (.istore 8, 2) := by decide +kernel
theorem dX6_leastLike_49 : decode cX6_leastLike 49 = .ok (.iload 6, 2) := by decide +kernel
theorem dX6_leastLike_51 : decode cX6_leastLike 51 = .ok (.iload 8, 2) := by decide +kernel
theorem dX6_leastLike_53 : decode cX6_leastLike 53 = .ok (.if_icmp .le 53, 3) := by decide +kernel
theorem dX6_leastLike_106 : decode cX6_leastLike 106 = .ok (.aload_n 0, 1) := by decide +kernel
theorem dX6_leastLike_107 : decode cX6_leastLike 107 = .ok (.getfield 31, 3) := by decide +kernel
theorem dX6_leastLike_110 : decode cX6_leastLike 110 = .ok (.iload 8, 2) := by decide +kernel
theorem dX6_leastLike_112 : decode cX6_leastLike 112 = .ok (.invokestatic 89, 3) := by decide +kernel
theorem dX6_leastLike_115 : decode cX6_leastLike 115 = .ok (.istore 9, 2) := by decide +kernel
theorem dX6_leastLike_117 : decode cX6_leastLike 117 = .ok (.aload_n 0, 1) := by decide +kernel
theorem dX6_leastLike_118 : decode cX6_leastLike 118 = .ok (.getfield 35, 3) := by decide +kernel
theorem dX6_leastLike_121 : decode cX6_leastLike 121 = .ok (.iload 8, 2) := by decide +kernel
theorem dX6_leastLike_123 : decode cX6_leastLike 123 = .ok (.invokestatic 89, 3) := by decide +kernel
theorem dX6_leastLike_126 : decode cX6_leastLike 126 = .ok (.aload_n 0, 1) := by decide +kernel
theorem dX6_leastLike_127 : decode cX6_leastLike 127 = .ok (.getfield 21, 3) := by decide +kernel
theorem dX6_leastLike_130 : decode cX6_leastLike 130 = .ok (.getfield 82, 3) := by decide +kernel
theorem dX6_leastLike_133 : decode cX6_leastLike 133 = .ok (.if_icmp .ne 40, 3) := by decide +kernel
theorem dX6_leastLike_173 : decode cX6_leastLike 173 = .ok (.iinc 7 (-1), 3) := by decide +kernel
theorem dX6_leastLike_176 : decode cX6_leastLike 176 = .ok (.goto (-143), 3) := by decide +kernel
theorem dX6_leastLike_136 : decode cX6_leastLike 136 = .ok (.aload_n 0, 1) := by decide +kernel
theorem dX6_leastLike_137 : decode cX6_leastLike 137 = .ok (.getfield 21, 3) := by decide +kernel
theorem dX6_leastLike_140 : decode cX6_leastLike 140 = .ok (.aload_n 0, 1) := by decide +kernel
theorem dX6_leastLike_141 : decode cX6_leastLike 141 = .ok (.getfield 21, 3) := by decide +kernel
theorem dX6_leastLike_144 : decode cX6_leastLike 144 = .ok (.getfield 67, 3) := by decide +kernel
theorem dX6_leastLike_147 : decode cX6_leastLike 147 = .ok (.aload_n 0, 1) := by decide +kernel
theorem dX6_leastLike_148 : decode cX6_leastLike 148 = .ok (.getfield 25, 3) := by decide +kernel
theorem dX6_leastLike_151 : decode cX6_leastLike 151 = .ok (.iload 9, 2) := by decide +kernel
theorem dX6_leastLike_153 : decode cX6_leastLike 153 = .ok (.iload 9, 2) := by decide +kernel
theorem dX6_leastLike_155 : decode cX6_leastLike 155 = .ok (.iload_n 2, 1) := by decide +kernel
theorem dX6_leastLike_156 : decode cX6_leastLike 156 = .ok (.imul, 1) := by decide +kernel
theorem dX6_leastLike_157 : decode cX6_leastLike 157 = .ok (.iload 5, 2) := by decide +kernel
theorem dX6_leastLike_159 : decode cX6_leastLike 159 = .ok (.isub, 1) := by decide +kernel
theorem dX6_leastLike_160 : decode cX6_leastLike 160 = .ok (.iconst 1, 1) := by decide +kernel
theorem dX6_leastLike_161 : decode cX6_leastLike 161 = .ok (.iadd, 1) := by decide +kernel
theorem dX6_leastLike_162 : decode cX6_leastLike 162 = .ok (.iload_n 2, 1) := by decide +kernel
set_option maxRecDepth 20000 in
theorem ggX6_leastLike_X7_isLikeBehind : GoodIn wsX6_leastLike wsX7_isLikeBehind := goodIn_ca (goodIn_r _ [33, 34, 35, 36, 16, 37, 18, 47, 48, 49, 50, 51, 52, 53] rfl (by decide +kernel)) (goodIn_sub (fun _ h => List.mem_cons_of_mem _ (List.mem_append_right _ h)) (by decide +kernel))
set_option maxRecDepth 20000 in
theorem gX6_leastLike_X7_isLikeBehind : GoodIn wsX6_leastLike (wsV RX6 111 RX7 yX7_isLikeBehind wsX7_isLikeBehind) := goodIn_app (goodIn_of _ (by decide +kernel)) ggX6_leastLike_X7_isLikeBehind
theorem dX6_leastLike_163 : decode cX6_leastLike 163 = .ok (.invokevirtual 111, 3) := by decide +kernel
theorem dX6_leastLike_166 : decode cX6_leastLike 166 = .ok (.ifCond .eq 7, 3) := by decide +kernel
theorem dX6_leastLike_169 : decode cX6_leastLike 169 = .ok (.iload 8, 2) := by decide +kernel
theorem dX6_leastLike_171 : decode cX6_leastLike 171 = .ok (.istore 4, 2) := by decide +kernel
theorem dX6_leastLike_56 : decode cX6_leastLike 56 = .ok (.aload_n 0, 1) := by decide +kernel
theorem dX6_leastLike_57 : decode cX6_leastLike 57 = .ok (.getfield 31, 3) := by decide +kernel
theorem dX6_leastLike_60 : decode cX6_leastLike 60 = .ok (.iload 6, 2) := by decide +kernel
theorem dX6_leastLike_62 : decode cX6_leastLike 62 = .ok (.iconst 1, 1) := by decide +kernel
theorem dX6_leastLike_63 : decode cX6_leastLike 63 = .ok (.isub, 1) := by decide +kernel
theorem dX6_leastLike_64 : decode cX6_leastLike 64 = .ok (.invokestatic 89, 3) := by decide +kernel
theorem dX6_leastLike_67 : decode cX6_leastLike 67 = .ok (.istore 9, 2) := by decide +kernel
theorem dX6_leastLike_69 : decode cX6_leastLike 69 = .ok (.aload_n 0, 1) := by decide +kernel
theorem dX6_leastLike_70 : decode cX6_leastLike 70 = .ok (.getfield 25, 3) := by decide +kernel
theorem dX6_leastLike_73 : decode cX6_leastLike 73 = .ok (.iload 9, 2) := by decide +kernel
theorem dX6_leastLike_75 : decode cX6_leastLike 75 = .ok (.aload_n 0, 1) := by decide +kernel
theorem dX6_leastLike_76 : decode cX6_leastLike 76 = .ok (.getfield 38, 3) := by decide +kernel
theorem dX6_leastLike_79 : decode cX6_leastLike 79 = .ok (.iload 6, 2) := by decide +kernel
theorem dX6_leastLike_81 : decode cX6_leastLike 81 = .ok (.iconst 1, 1) := by decide +kernel
theorem dX6_leastLike_82 : decode cX6_leastLike 82 = .ok (.isub, 1) := by decide +kernel
theorem dX6_leastLike_83 : decode cX6_leastLike 83 = .ok (.invokestatic 89, 3) := by decide +kernel
set_option maxRecDepth 20000 in
theorem ggX6_leastLike_X7_write : GoodIn wsX6_leastLike wsX7_write := goodIn_ca (goodIn_r _ [29, 18, 47, 48, 49, 50, 51, 52, 53] rfl (by decide +kernel)) (goodIn_sub (fun _ h => List.mem_cons_of_mem _ (List.mem_append_right _ h)) (by decide +kernel))
set_option maxRecDepth 20000 in
theorem gX6_leastLike_X7_write : GoodIn wsX6_leastLike (wsV RX6 93 RX7 yX7_write wsX7_write) := goodIn_app (goodIn_of _ (by decide +kernel)) ggX6_leastLike_X7_write
theorem dX6_leastLike_86 : decode cX6_leastLike 86 = .ok (.invokevirtual 93, 3) := by decide +kernel
theorem dX6_leastLike_89 : decode cX6_leastLike 89 = .ok (.iload 5, 2) := by decide +kernel
theorem dX6_leastLike_91 : decode cX6_leastLike 91 = .ok (.iload 9, 2) := by decide +kernel
theorem dX6_leastLike_93 : decode cX6_leastLike 93 = .ok (.iload_n 2, 1) := by decide +kernel
theorem dX6_leastLike_94 : decode cX6_leastLike 94 = .ok (.imul, 1) := by decide +kernel
theorem dX6_leastLike_95 : decode cX6_leastLike 95 = .ok (.invokestatic 105, 3) := by decide +kernel
theorem dX6_leastLike_98 : decode cX6_leastLike 98 = .ok (.istore 5, 2) := by decide +kernel
theorem dX6_leastLike_100 : decode cX6_leastLike 100 = .ok (.iinc 6 (-1), 3) := by decide +kernel
theorem dX6_leastLike_103 : decode cX6_leastLike 103 = .ok (.goto (-54), 3) := by decide +kernel
theorem dX6_comesFarther_0 : decode cX6_comesFarther 0 = .ok (.aload_n 0, 1) := by decide +kernel
theorem dX6_comesFarther_1 : decode cX6_comesFarther 1 = .ok (.getfield 21, 3) := by decide +kernel
set_option maxRecDepth 20000 in
theorem ggX6_comesFarther_X7_begin : GoodIn wsX6_comesFarther wsX7_begin := goodIn_r _ [11, 12, 13, 14, 15, 16, 17, 18, 19, 20, 21, 22, 98, 99, 100, 101, 102, 103, 104] rfl (by decide +kernel)
set_option maxRecDepth 20000 in
theorem gX6_comesFarther_X7_begin : GoodIn wsX6_comesFarther (wsV RX6 60 RX7 yX7_begin wsX7_begin) := goodIn_app (goodIn_of _ (by decide +kernel)) ggX6_comesFarther_X7_begin
theorem dX6_comesFarther_4 : decode cX6_comesFarther 4 = .ok (.invokevirtual 60, 3) := by decide +kernel
theorem dX6_comesFarther_7 : decode cX6_comesFarther 7 = .ok (.aload_n 0, 1) := by decide +kernel
theorem dX6_comesFarther_8 : decode cX6_comesFarther 8 = .ok (.getfield 41, 3) := by decide +kernel
theorem dX6_comesFarther_11 : decode cX6_comesFarther 11 = .ok (.iconst 0, 1) := by decide +kernel
theorem dX6_comesFarther_12 : decode cX6_comesFarther 12 = .ok (.iconst 0, 1) := by decide +kernel
set_option maxRecDepth 20000 in
theorem ggX6_comesFarther_X11_put : GoodIn wsX6_comesFarther wsX11_put := goodIn_ca (goodIn_r _ [25] rfl (by decide +kernel)) (goodIn_sub (fun _ h => List.mem_cons_of_mem _ (List.mem_append_right _ h)) (by decide +kernel))
set_option maxRecDepth 20000 in
theorem gX6_comesFarther_X11_put_n63 : GoodIn wsX6_comesFarther (wsX11_put) := ggX6_comesFarther_X11_put
theorem dX6_comesFarther_13 : decode cX6_comesFarther 13 = .ok (.invokestatic 63, 3) := by decide +kernel
theorem dX6_comesFarther_16 : decode cX6_comesFarther 16 = .ok (.iconst 1, 1) := by decide +kernel
theorem dX6_comesFarther_17 : decode cX6_comesFarther 17 = .ok (.istore_n 3, 1) := by decide +kernel
theorem dX6_comesFarther_18 : decode cX6_comesFarther 18 = .ok (.iconst 0, 1) := by decide +kernel
theorem dX6_comesFarther_19 : decode cX6_comesFarther 19 = .ok (.istore 4, 2) := by decide +kernel
theorem dX6_comesFarther_21 : decode cX6_comesFarther 21 = .ok (.iconst 1, 1) := by decide +kernel
theorem dX6_comesFarther_22 : decode cX6_comesFarther 22 = .ok (.istore 5, 2) := by decide +kernel
theorem dX6_comesFarther_24 : decode cX6_comesFarther 24 = .ok (.iload 5, 2) := by decide +kernel
theorem dX6_comesFarther_26 : decode cX6_comesFarther 26 = .ok (.aload_n 0, 1) := by decide +kernel
theorem dX6_comesFarther_27 : decode cX6_comesFarther 27 = .ok (.getfield 28, 3) := by decide +kernel
theorem dX6_comesFarther_30 : decode cX6_comesFarther 30 = .ok (.if_icmp .gt 87, 3) := by decide +kernel
theorem dX6_comesFarther_117 : decode cX6_comesFarther 117 = .ok (.iconst 0, 1) := by decide +kernel
theorem dX6_comesFarther_118 : decode cX6_comesFarther 118 = .ok (.ireturn, 1) := by decide +kernel
theorem dX6_comesFarther_33 : decode cX6_comesFarther 33 = .ok (.aload_n 0, 1) := by decide +kernel
theorem dX6_comesFarther_34 : decode cX6_comesFarther 34 = .ok (.getfield 21, 3) := by decide +kernel
theorem dX6_comesFarther_37 : decode cX6_comesFarther 37 = .ok (.aload_n 1, 1) := by decide +kernel
set_option maxRecDepth 20000 in
theorem ggX6_comesFarther_X7_step : GoodIn wsX6_comesFarther wsX7_step := goodIn_ca (goodIn_r _ [29, 18, 13, 14, 30, 16, 31, 32, 33, 34, 17, 35, 36, 37, 15, 38, 39, 40, 10, 41, 12, 42, 43, 44, 45, 46, 47, 48, 49, 50, 51, 52, 53, 54, 55, 56, 57, 58, 59, 60, 61, 62, 98, 99, 100, 101, 102, 103, 104, 105, 106, 107, 108, 109, 110, 111, 112, 113, 114, 115] rfl (by decide +kernel)) (goodIn_sub (fun _ h => List.mem_cons_of_mem _ (List.mem_append_right _ h)) (by decide +kernel))
set_option maxRecDepth 20000 in
theorem gX6_comesFarther_X7_step : GoodIn wsX6_comesFarther (wsV RX6 74 RX7 yX7_step wsX7_step) := goodIn_app (goodIn_of _ (by decide +kernel)) ggX6_comesFarther_X7_step
theorem dX6_comesFarther_38 : decode cX6_comesFarther 38 = .ok (.invokevirtual 74, 3) := by decide +kernel
theorem dX6_comesFarther_41 : decode cX6_comesFarther 41 = .ok (.pop, 1) := by decide +kernel
theorem dX6_comesFarther_42 : decode cX6_comesFarther 42 = .ok (.aload_n 0, 1) := by decide +kernel
theorem dX6_comesFarther_43 : decode cX6_comesFarther 43 = .ok (.getfield 21, 3) := by decide +kernel
theorem dX6_comesFarther_46 : decode cX6_comesFarther 46 = .ok (.getfield 67, 3) := by decide +kernel
theorem dX6_comesFarther_49 : decode cX6_comesFarther 49 = .ok (.iload_n 2, 1) := by decide +kernel
theorem dX6_comesFarther_50 : decode cX6_comesFarther 50 = .ok (.imul, 1) := by decide +kernel
theorem dX6_comesFarther_51 : decode cX6_comesFarther 51 = .ok (.iload 4, 2) := by decide +kernel
theorem dX6_comesFarther_53 : decode cX6_comesFarther 53 = .ok (.if_icmp .le 58, 3) := by decide +kernel
theorem dX6_comesFarther_111 : decode cX6_comesFarther 111 = .ok (.iinc 5 1, 3) := by decide +kernel
theorem dX6_comesFarther_114 : decode cX6_comesFarther 114 = .ok (.goto (-90), 3) := by decide +kernel
theorem dX6_comesFarther_56 : decode cX6_comesFarther 56 = .ok (.aload_n 0, 1) := by decide +kernel
theorem dX6_comesFarther_57 : decode cX6_comesFarther 57 = .ok (.getfield 21, 3) := by decide +kernel
theorem dX6_comesFarther_60 : decode cX6_comesFarther 60 = .ok (.getfield 67, 3) := by decide +kernel
theorem dX6_comesFarther_63 : decode cX6_comesFarther 63 = .ok (.iload_n 2, 1) := by decide +kernel
theorem dX6_comesFarther_64 : decode cX6_comesFarther 64 = .ok (.imul, 1) := by decide +kernel
theorem dX6_comesFarther_65 : decode cX6_comesFarther 65 = .ok (.istore 4, 2) := by decide +kernel
theorem dX6_comesFarther_67 : decode cX6_comesFarther 67 = .ok (.aload_n 0, 1) := by decide +kernel
theorem dX6_comesFarther_68 : decode cX6_comesFarther 68 = .ok (.iload 5, 2) := by decide +kernel
theorem dX6_comesFarther_70 : decode cX6_comesFarther 70 = .ok (.iload_n 2, 1) := by decide +kernel
theorem dX6_comesFarther_71 : decode cX6_comesFarther 71 = .ok (.iload_n 3, 1) := by decide +kernel
set_option maxRecDepth 20000 in
theorem ggX6_comesFarther_X6_leastLike : GoodIn wsX6_comesFarther wsX6_leastLike := goodIn_ca (goodIn_r _ [67, 68, 1, 4, 2, 69, 70, 71, 32, 33, 34, 72, 73, 74, 75, 76, 10, 77, 12, 78, 79, 80, 81, 82, 24, 83, 84, 57, 58, 59, 85, 86, 87, 88, 38, 39, 40, 41, 89, 90, 91, 92, 93, 94, 95, 96, 97, 98, 99, 100, 101, 102, 103, 104] rfl (by decide +kernel)) (goodIn_sub (fun _ h => List.mem_cons_of_mem _ (List.mem_append_right _ h)) (by decide +kernel))
set_option maxRecDepth 20000 in
theorem gX6_comesFarther_X6_leastLike : GoodIn wsX6_comesFarther (wsV RX6 101 RX6 yX6_leastLike wsX6_leastLike) := goodIn_app (goodIn_of _ (by decide +kernel)) ggX6_comesFarther_X6_leastLike
theorem dX6_comesFarther_72 : decode cX6_comesFarther 72 = .ok (.invokevirtual 101, 3) := by decide +kernel
theorem dX6_comesFarther_75 : decode cX6_comesFarther 75 = .ok (.istore 6, 2) := by decide +kernel
theorem dX6_comesFarther_77 : decode cX6_comesFarther 77 = .ok (.iload 6, 2) := by decide +kernel
theorem dX6_comesFarther_79 : decode cX6_comesFarther 79 = .ok (.ifCond .lt 19, 3) := by decide +kernel
theorem dX6_comesFarther_98 : decode cX6_comesFarther 98 = .ok (.aload_n 0, 1) := by decide +kernel
theorem dX6_comesFarther_99 : decode cX6_comesFarther 99 = .ok (.getfield 41, 3) := by decide +kernel
theorem dX6_comesFarther_102 : decode cX6_comesFarther 102 = .ok (.iload_n 3, 1) := by decide +kernel
theorem dX6_comesFarther_103 : decode cX6_comesFarther 103 = .ok (.iload 5, 2) := by decide +kernel
theorem dX6_comesFarther_105 : decode cX6_comesFarther 105 = .ok (.invokestatic 63, 3) := by decide +kernel
theorem dX6_comesFarther_108 : decode cX6_comesFarther 108 = .ok (.iinc 3 1, 3) := by decide +kernel
theorem dX6_comesFarther_82 : decode cX6_comesFarther 82 = .ok (.aload_n 0, 1) := by decide +kernel
theorem dX6_comesFarther_83 : decode cX6_comesFarther 83 = .ok (.iload 6, 2) := by decide +kernel
theorem dX6_comesFarther_85 : decode cX6_comesFarther 85 = .ok (.putfield 9, 3) := by decide +kernel
theorem dX6_comesFarther_88 : decode cX6_comesFarther 88 = .ok (.aload_n 0, 1) := by decide +kernel
theorem dX6_comesFarther_89 : decode cX6_comesFarther 89 = .ok (.iload 5, 2) := by decide +kernel
theorem dX6_comesFarther_91 : decode cX6_comesFarther 91 = .ok (.iload_n 2, 1) := by decide +kernel
theorem dX6_comesFarther_92 : decode cX6_comesFarther 92 = .ok (.imul, 1) := by decide +kernel
theorem dX6_comesFarther_93 : decode cX6_comesFarther 93 = .ok (.putfield 15, 3) := by decide +kernel
theorem dX6_comesFarther_96 : decode cX6_comesFarther 96 = .ok (.iconst 1, 1) := by decide +kernel
theorem dX6_comesFarther_97 : decode cX6_comesFarther 97 = .ok (.ireturn, 1) := by decide +kernel
theorem dX6_comesBackFarther_0 : decode cX6_comesBackFarther 0 = .ok (.aload_n 0, 1) := by decide +kernel
theorem dX6_comesBackFarther_1 : decode cX6_comesBackFarther 1 = .ok (.aload_n 1, 1) := by decide +kernel
theorem dX6_comesBackFarther_2 : decode cX6_comesBackFarther 2 = .ok (.iload_n 2, 1) := by decide +kernel
set_option maxRecDepth 20000 in
theorem ggX6_comesBackFarther_X6_writeDown : GoodIn wsX6_comesBackFarther wsX6_writeDown := goodIn_ca (goodIn_r _ [5, 6, 7, 8, 9, 10, 11, 12, 13, 14, 15, 16, 17, 18, 19, 20, 21, 22, 23, 24, 25, 26, 27, 28, 29, 30, 31, 32, 33, 34, 35, 36, 37, 38, 39, 40, 41, 42, 43, 44, 45, 46, 47, 48, 49, 50, 51, 52, 53, 54, 55, 56, 57, 58, 59, 60, 61, 62, 63, 64, 65, 66, 67, 68, 69, 70, 99, 100, 101, 102, 103, 104, 105, 106, 107, 108, 109, 110, 111, 112, 113, 114, 115, 116, 117, 118, 119, 120, 121, 122, 123, 124, 125] rfl (by decide +kernel)) (goodIn_sub (fun _ h => List.mem_cons_of_mem _ (List.mem_append_right _ h)) (by decide +kernel))
set_option maxRecDepth 20000 in
theorem gX6_comesBackFarther_X6_writeDown : GoodIn wsX6_comesBackFarther (wsV RX6 44 RX6 yX6_writeDown wsX6_writeDown) := goodIn_app (goodIn_of _ (by decide +kernel)) ggX6_comesBackFarther_X6_writeDown
theorem dX6_comesBackFarther_3 : decode cX6_comesBackFarther 3 = .ok (.invokevirtual 44, 3) := by decide +kernel
theorem dX6_comesBackFarther_6 : decode cX6_comesBackFarther 6 = .ok (.aload_n 0, 1) := by decide +kernel
theorem dX6_comesBackFarther_7 : decode cX6_comesBackFarther 7 = .ok (.aload_n 1, 1) := by decide +kernel
theorem dX6_comesBackFarther_8 : decode cX6_comesBackFarther 8 = .ok (.iconst 1, 1) := by decide +kernel
set_option maxRecDepth 20000 in
theorem ggX6_comesBackFarther_X6_comesFarther : GoodIn wsX6_comesBackFarther wsX6_comesFarther := goodIn_ca (goodIn_r _ [74, 6, 75, 7, 11, 76, 77, 14, 15, 16, 17, 18, 19, 20, 21, 22, 23, 24, 25, 26, 27, 28, 29, 30, 31, 32, 37, 38, 39, 40, 41, 42, 43, 44, 45, 46, 47, 48, 49, 34, 35, 36, 50, 51, 52, 53, 54, 55, 56, 57, 58, 59, 60, 61, 62, 63, 64, 65, 66, 67, 68, 69, 70, 78, 79, 80, 4, 81, 82, 8, 10, 83, 9, 13, 84, 85, 86, 87, 88, 89, 90, 91, 92, 93, 94, 95, 96, 97, 98, 99, 100, 101, 102, 103, 104, 105, 106, 107, 108, 109, 110, 111, 112, 113, 114, 115, 116, 117, 118, 119, 120, 121, 122, 123, 124, 125] rfl (by decide +kernel)) (goodIn_sub (fun _ h => List.mem_cons_of_mem _ (List.mem_append_right _ h)) (by decide +kernel))
set_option maxRecDepth 20000 in
theorem gX6_comesBackFarther_X6_comesFarther : GoodIn wsX6_comesBackFarther (wsV RX6 56 RX6 yX6_comesFarther wsX6_comesFarther) := goodIn_app (goodIn_of _ (by decide +kernel)) ggX6_comesBackFarther_X6_comesFarther
theorem dX6_comesBackFarther_9 : decode cX6_comesBackFarther 9 = .ok (.invokevirtual 56, 3) := by decide +kernel
theorem dX6_comesBackFarther_12 : decode cX6_comesBackFarther 12 = .ok (.ifCond .ne 12, 3) := by decide +kernel
theorem dX6_comesBackFarther_24 : decode cX6_comesBackFarther 24 = .ok (.iconst 1, 1) := by decide +kernel
theorem dX6_comesBackFarther_25 : decode cX6_comesBackFarther 25 = .ok (.goto 4, 3) := by decide +kernel
theorem dX6_comesBackFarther_29 : decode cX6_comesBackFarther 29 = .ok (.ireturn, 1) := by decide +kernel
theorem dX6_comesBackFarther_15 : decode cX6_comesBackFarther 15 = .ok (.aload_n 0, 1) := by decide +kernel
theorem dX6_comesBackFarther_16 : decode cX6_comesBackFarther 16 = .ok (.aload_n 1, 1) := by decide +kernel
theorem dX6_comesBackFarther_17 : decode cX6_comesBackFarther 17 = .ok (.iconst (-1), 1) := by decide +kernel
theorem dX6_comesBackFarther_18 : decode cX6_comesBackFarther 18 = .ok (.invokevirtual 56, 3) := by decide +kernel
theorem dX6_comesBackFarther_21 : decode cX6_comesBackFarther 21 = .ok (.ifCond .eq 7, 3) := by decide +kernel
theorem dX6_comesBackFarther_28 : decode cX6_comesBackFarther 28 = .ok (.iconst 0, 1) := by decide +kernel
set_option maxHeartbeats 4000000 in
set_option maxRecDepth 100000 in
/-- X6_leastLike -/
theorem c_X6_leastLike (l : Launch) (dC : Nat → ClassId) (dI : Nat → Nat → Nat) (cI : ClassId) (ro rn rh ca sa da xa tn th : Nat) (f6 s6 : Int32) (l6 : Int32) (st ce sp lm rm fa : Int32) (nf : Nat → Int32) (st2 ce2 sp2 lm2 rm2 fa2 : Int32) (hf : Nat → Int32) (cf gf df xf : Nat → Int32) (S : Nat) (T o : Nat → Int32) (hm : mJ S o T) (sg : Int32) (Q : Nat → Int32) (hsd : sdP T sg Q) (n e0 m9 : Nat) (hn : n ≤ 500) (hen : e0 + 1 ≤ n) (hm9 : m9 ≤ e0 + 1) (hal : alvR (nI 2) (cW T) (cM T) (cN T) n) (hR : relJ (st, ce, sp, lm, rm, fa, nf) (seqR (nI 2) (cW T) (cM T) (cN T) (e0 + 1))) (hwd : wdP T n cf gf df) (hfr : frP (nI 2) (cW T) Q (cN T) e0 m9 xf) (hrec : recP (nI 2) (cW T) Q (cN T) (e0 + 1)) (sz : Nat) : Met l yX6_leastLike wsX6_leastLike ({ frames := 2, cells := 0, slots := 0, locals := 81 }) (va_Pc [.ref ro, .int (nI (e0 + 1)), .int sg, .int (nI m9)] (cPC dC dI [(ro, .inr (11, [.int f6, .int s6, .ref rn, .ref rh, .int l6, .ref ca, .ref sa, .ref da, .ref xa])), (rn, .inr (12, [.int st, .int ce, .int sp, .int lm, .int rm, .int fa, .ref tn])), (tn, .inl (cI, 1001, .inl nf)), (rh, .inr (12, [.int st2, .int ce2, .int sp2, .int lm2, .int rm2, .int fa2, .ref th])), (th, .inl (cI, 1001, .inl hf)), (ca, .inl (cI, 501, .inl cf)), (sa, .inl (cI, 501, .inl gf)), (da, .inl (cI, 501, .inl df)), (xa, .inl (cI, 501, .inl xf))] [(cI, .int)] sz)) (va_Qi (fun (r : Int32) (u : Nat → Int32) => (¬ r < 0 ∧ ∃ a, a < e0 + 1 ∧ carP (nI 2) (cW T) Q (cN T) a (e0 + 1)) ∨ (r < 0 ∧ ∀ a, a < e0 + 1 → ¬ carP (nI 2) (cW T) Q (cN T) a (e0 + 1))) (fun (u : Nat → Int32) t => cQB dC dI [(ro, .inr (11, [.int f6, .int s6, .ref rn, .ref rh, .int l6, .ref ca, .ref sa, .ref da, .ref xa])), (rn, .inr (12, [.int st, .int ce, .int sp, .int lm, .int rm, .int fa, .ref tn])), (tn, .inl (cI, 1001, .inl nf)), (rh, .inr (12, [.int st2, .int ce2, .int sp2, .int lm2, .int rm2, .int fa2, .ref th])), (th, .inl (cI, 1001, .inl u)), (ca, .inl (cI, 501, .inl cf)), (sa, .inl (cI, 501, .inl gf)), (da, .inl (cI, 501, .inl df)), (xa, .inl (cI, 501, .inl xf))] [(cI, .int)] (va_A [(ro, .inr (11, [.int f6, .int s6, .ref rn, .ref rh, .int l6, .ref ca, .ref sa, .ref da, .ref xa])), (rn, .inr (12, [.int st, .int ce, .int sp, .int lm, .int rm, .int fa, .ref tn])), (tn, .inl (cI, 1001, .inl nf)), (rh, .inr (12, [.int st2, .int ce2, .int sp2, .int lm2, .int rm2, .int fa2, .ref th])), (th, .inl (cI, 1001, .inl hf)), (ca, .inl (cI, 501, .inl cf)), (sa, .inl (cI, 501, .inl gf)), (da, .inl (cI, 501, .inl df)), (xa, .inl (cI, 501, .inl xf))] sz) t) (va_A [(ro, .inr (11, [.int f6, .int s6, .ref rn, .ref rh, .int l6, .ref ca, .ref sa, .ref da, .ref xa])), (rn, .inr (12, [.int st, .int ce, .int sp, .int lm, .int rm, .int fa, .ref tn])), (tn, .inl (cI, 1001, .inl nf)), (rh, .inr (12, [.int st2, .int ce2, .int sp2, .int lm2, .int rm2, .int fa2, .ref th])), (th, .inl (cI, 1001, .inl hf)), (ca, .inl (cI, 501, .inl cf)), (sa, .inl (cI, 501, .inl gf)), (da, .inl (cI, 501, .inl df)), (xa, .inl (cI, 501, .inl xf))] sz)) 0 0 (va_A [(ro, .inr (11, [.int f6, .int s6, .ref rn, .ref rh, .int l6, .ref ca, .ref sa, .ref da, .ref xa])), (rn, .inr (12, [.int st, .int ce, .int sp, .int lm, .int rm, .int fa, .ref tn])), (tn, .inl (cI, 1001, .inl nf)), (rh, .inr (12, [.int st2, .int ce2, .int sp2, .int lm2, .int rm2, .int fa2, .ref th])), (th, .inl (cI, 1001, .inl hf)), (ca, .inl (cI, 501, .inl cf)), (sa, .inl (cI, 501, .inl gf)), (da, .inl (cI, 501, .inl df)), (xa, .inl (cI, 501, .inl xf))] sz) := by
  refine Met.ofW (cc := cX6_leastLike) (maxL := 10) (ret := (some .int)) (by decide) rfl ?_
  intro p e s m args below meth c s₁ B hml hv
  obtain ⟨rfl, hsz, hP, hK, hD0, hN⟩ := hv
  have hx := B.exec
  have hb := B.bytes
  have hr := B.returns
  have hts := atoms_spec (ws := wsX6_leastLike) B.pre
  have hown : s.vm.findClass RX6 = some m.cls := findClass_of_methodNamed B.named
  have hlocks := B.notSynchronized
  subst hsz
  have hD := hD0.self (sz := s.heap.size)
  generalize hAe : va_A [(ro, .inr (11, [.int f6, .int s6, .ref rn, .ref rh, .int l6, .ref ca, .ref sa, .ref da, .ref xa])), (rn, .inr (12, [.int st, .int ce, .int sp, .int lm, .int rm, .int fa, .ref tn])), (tn, .inl (cI, 1001, .inl nf)), (rh, .inr (12, [.int st2, .int ce2, .int sp2, .int lm2, .int rm2, .int fa2, .ref th])), (th, .inl (cI, 1001, .inl hf)), (ca, .inl (cI, 501, .inl cf)), (sa, .inl (cI, 501, .inl gf)), (da, .inl (cI, 501, .inl df)), (xa, .inl (cI, 501, .inl xf))] s.heap.size = A at hD ⊢
  have hA : ∀ q : Nat, s.heap.size ≤ q → A q := fun q h => by rw [← hAe]; exact Or.inr h
  have hS : va_S A s.heap s.heap [] := va_S.rf
  have hP : va_P (dC, dI) vwCl [(ro, .inr (11, [.int f6, .int s6, .ref rn, .ref rh, .int l6, .ref ca, .ref sa, .ref da, .ref xa])), (rn, .inr (12, [.int st, .int ce, .int sp, .int lm, .int rm, .int fa, .ref tn])), (tn, .inl (cI, 1001, .inl nf)), (rh, .inr (12, [.int st2, .int ce2, .int sp2, .int lm2, .int rm2, .int fa2, .ref th])), (th, .inl (cI, 1001, .inl hf)), (ca, .inl (cI, 501, .inl cf)), (sa, .inl (cI, 501, .inl gf)), (da, .inl (cI, 501, .inl df)), (xa, .inl (cI, 501, .inl xf))] s.heap := hP
  have hD : va_D A [(ro, .inr (11, [.int f6, .int s6, .ref rn, .ref rh, .int l6, .ref ca, .ref sa, .ref da, .ref xa])), (rn, .inr (12, [.int st, .int ce, .int sp, .int lm, .int rm, .int fa, .ref tn])), (tn, .inl (cI, 1001, .inl nf)), (rh, .inr (12, [.int st2, .int ce2, .int sp2, .int lm2, .int rm2, .int fa2, .ref th])), (th, .inl (cI, 1001, .inl hf)), (ca, .inl (cI, 501, .inl cf)), (sa, .inl (cI, 501, .inl gf)), (da, .inl (cI, 501, .inl df)), (xa, .inl (cI, 501, .inl xf))] := hD
  have hl := lv_entry ([.ref ro, .int (nI (e0 + 1)), .int sg, .int (nI m9)]) (n := 10) (Nat.le_of_ble_eq_true rfl)
  rw [lg_entry_eq]
  generalize (lg_sl ([.ref ro, .int (nI (e0 + 1)), .int sg, .int (nI m9)]) ++ List.replicate (10 - (lg_sl ([.ref ro, .int (nI (e0 + 1)), .int sg, .int (nI m9)])).length) Slot.unset).toArray = ls at hl ⊢
  have hl : lv_has ls 10 [(0, .ref ro), (1, .int (nI (e0 + 1))), (2, .int sg), (3, .int (nI m9))] := hl
  have iWX6 : ∀ w ∈ u_ws RX6 TX6 9, w ∈ wsX6_leastLike := by decide +kernel
  have iWX7 : ∀ w ∈ u_ws RX7 TX7 7, w ∈ wsX6_leastLike := by decide +kernel
  refine lv_aload_n hx hb dX6_leastLike_0 rfl (lv_at hl 0 rfl) ?_
  refine va_get (D := (dC, dI)) (ci := 11) (v := .ref rh) (C := RX6) (T := TX6) (N := 9) hx hb hts iWX6 hown hK hP 0 rfl rfl 3 (by decide) (hts (.fieldLink RX6 25 "Beaverhall$Returns" "then" "LBeaverhall$Run;") (by decide +kernel)) (fun _ h9 => h9) rfl dX6_leastLike_1 ?_
  refine lv_aload_n hx hb dX6_leastLike_4 rfl (lv_at hl 0 rfl) ?_
  refine va_get (D := (dC, dI)) (ci := 11) (v := .ref rn) (C := RX6) (T := TX6) (N := 9) hx hb hts iWX6 hown hK hP 0 rfl rfl 2 (by decide) (hts (.fieldLink RX6 21 "Beaverhall$Returns" "now" "LBeaverhall$Run;") (by decide +kernel)) (fun _ h9 => h9) rfl dX6_leastLike_5 ?_
  have hPc := hP.sub (ws' := [(rh, .inr (12, [.int st2, .int ce2, .int sp2, .int lm2, .int rm2, .int fa2, .ref th])), (th, .inl (cI, 1001, .inl hf)), (rn, .inr (12, [.int st, .int ce, .int sp, .int lm, .int rm, .int fa, .ref tn])), (tn, .inl (cI, 1001, .inl nf))]) [3, 4, 1, 2] rfl
  have hDc := hD.sub (ws' := [(rh, .inr (12, [.int st2, .int ce2, .int sp2, .int lm2, .int rm2, .int fa2, .ref th])), (th, .inl (cI, 1001, .inl hf)), (rn, .inr (12, [.int st, .int ce, .int sp, .int lm, .int rm, .int fa, .ref tn])), (tn, .inl (cI, 1001, .inl nf))]) [3, 4, 1, 2] (by decide) rfl
  have hKc := hK.sub (tys' := [(cI, .int)]) [0] rfl
  have hFc := va_free (wc := [(rh, .inr (12, [.int st2, .int ce2, .int sp2, .int lm2, .int rm2, .int fa2, .ref th])), (th, .inl (cI, 1001, .inl hf)), (rn, .inr (12, [.int st, .int ce, .int sp, .int lm, .int rm, .int fa, .ref tn])), (tn, .inl (cI, 1001, .inl nf))]) hD hS hA [3, 4, 1, 2] rfl
  refine va_callv (va_runV (As := [.ref rn]) (rest := []) ⟨hx, hb, hml, hown, hts⟩ (c_X7_takeTape l dC dI cI rh th st2 ce2 sp2 lm2 rm2 fa2 hf rn tn st ce sp lm rm fa nf s.heap.size) (cwV 1 hts gX6_leastLike_X7_takeTape rfl rfl rfl (by decide +kernel) ⟨Nat.le_of_ble_eq_true rfl, Nat.le_of_ble_eq_true rfl⟩) (pcV hPc hDc hKc hN (ci := 12) (q0 := 0) rfl rfl) rfl rfl hl.1 rfl (lv_room (Nat.le_of_ble_eq_true rfl)) dX6_leastLike_8 ⟨Nat.le_of_ble_eq_true rfl, Nat.le_of_ble_eq_true rfl⟩) hS (fun q _ h => hFc q h) hFc (fun u t H1 locs ht hvm hw_1 hB hz1 hk1 hS => ?_)
  obtain ⟨hP1, hK1, hD1⟩ := hB
  rw [ht] at hP1
  try dsimp only at hw_1
  obtain ⟨hP, hD⟩ := va_join (wr := [(ro, .inr (11, [.int f6, .int s6, .ref rn, .ref rh, .int l6, .ref ca, .ref sa, .ref da, .ref xa])), (ca, .inl (cI, 501, .inl cf)), (sa, .inl (cI, 501, .inl gf)), (da, .inl (cI, 501, .inl df)), (xa, .inl (cI, 501, .inl xf))]) (w1 := [(rh, .inr (12, [.int st2, .int ce2, .int sp2, .int lm2, .int rm2, .int fa2, .ref th])), (th, .inl (cI, 1001, .inl u)), (rn, .inr (12, [.int st, .int ce, .int sp, .int lm, .int rm, .int fa, .ref tn])), (tn, .inl (cI, 1001, .inl nf))]) hP hD [3, 4, 1, 2] [0, 5, 6, 7, 8] rfl rfl (by decide) (by decide) hk1 hFc hP1 hD1
  generalize H1 = H at hP hS ⊢
  have hP : va_P (dC, dI) vwCl [(ro, .inr (11, [.int f6, .int s6, .ref rn, .ref rh, .int l6, .ref ca, .ref sa, .ref da, .ref xa])), (ca, .inl (cI, 501, .inl cf)), (sa, .inl (cI, 501, .inl gf)), (da, .inl (cI, 501, .inl df)), (xa, .inl (cI, 501, .inl xf)), (rh, .inr (12, [.int st2, .int ce2, .int sp2, .int lm2, .int rm2, .int fa2, .ref th])), (th, .inl (cI, 1001, .inl u)), (rn, .inr (12, [.int st, .int ce, .int sp, .int lm, .int rm, .int fa, .ref tn])), (tn, .inl (cI, 1001, .inl nf))] H := hP
  have hD : va_D A [(ro, .inr (11, [.int f6, .int s6, .ref rn, .ref rh, .int l6, .ref ca, .ref sa, .ref da, .ref xa])), (ca, .inl (cI, 501, .inl cf)), (sa, .inl (cI, 501, .inl gf)), (da, .inl (cI, 501, .inl df)), (xa, .inl (cI, 501, .inl xf)), (rh, .inr (12, [.int st2, .int ce2, .int sp2, .int lm2, .int rm2, .int fa2, .ref th])), (th, .inl (cI, 1001, .inl u)), (rn, .inr (12, [.int st, .int ce, .int sp, .int lm, .int rm, .int fa, .ref tn])), (tn, .inl (cI, 1001, .inl nf))] := hD
  obtain ⟨f_2, ef_2⟩ : ∃ z, z = u := ⟨_, rfl⟩
  subst ef_2
  refine lv_iconst (v := (-1)) hx hb dX6_leastLike_11 (by decide) ?_
  refine lv_istore (lv' := [(4, .int (-1)), (0, .ref ro), (1, .int (nI (e0 + 1))), (2, .int sg), (3, .int (nI m9))]) hx hb dX6_leastLike_12 hl (by decide) rfl (fun ls hl => ?_)
  refine lv_aload_n hx hb dX6_leastLike_14 rfl (lv_at hl 1 rfl) ?_
  refine va_get (D := (dC, dI)) (ci := 11) (v := .ref rn) (C := RX6) (T := TX6) (N := 9) hx hb hts iWX6 hown hK hP 0 rfl rfl 2 (by decide) (hts (.fieldLink RX6 21 "Beaverhall$Returns" "now" "LBeaverhall$Run;") (by decide +kernel)) (fun _ h9 => h9) rfl dX6_leastLike_15 ?_
  refine va_get (D := (dC, dI)) (ci := 12) (v := .int ce) (C := RX7) (T := TX7) (N := 7) hx hb hts iWX7 hown hK hP 7 rfl rfl 1 (by decide) (hts (.fieldLink RX6 67 "Beaverhall$Run" "cell" "I") (by decide +kernel)) (fun _ h9 => h9) rfl dX6_leastLike_18 ?_
  refine lv_iload_n hx hb dX6_leastLike_21 rfl (lv_at hl 3 rfl) ?_
  refine lv_imul hx hb dX6_leastLike_22 ?_
  refine lv_topi (fun x_3 ex_3 => ?_)
  refine lv_istore (lv' := [(5, .int x_3), (4, .int (-1)), (0, .ref ro), (1, .int (nI (e0 + 1))), (2, .int sg), (3, .int (nI m9))]) hx hb dX6_leastLike_23 hl (by decide) rfl (fun ls hl => ?_)
  refine lv_iload_n hx hb dX6_leastLike_25 rfl (lv_at hl 3 rfl) ?_
  refine lv_istore (lv' := [(6, .int (nI (e0 + 1))), (5, .int x_3), (4, .int (-1)), (0, .ref ro), (1, .int (nI (e0 + 1))), (2, .int sg), (3, .int (nI m9))]) hx hb dX6_leastLike_26 hl (by decide) rfl (fun ls hl => ?_)
  refine lv_iload_n hx hb dX6_leastLike_28 rfl (lv_at hl 6 rfl) ?_
  refine lv_iconst (v := 1) hx hb dX6_leastLike_29 (by decide) ?_
  refine lv_isub hx hb dX6_leastLike_30 ?_
  refine lv_istore (lv' := [(7, .int ((nI m9) - 1)), (6, .int (nI (e0 + 1))), (5, .int x_3), (4, .int (-1)), (0, .ref ro), (1, .int (nI (e0 + 1))), (2, .int sg), (3, .int (nI m9))]) hx hb dX6_leastLike_31 hl (by decide) rfl (fun ls hl => ?_)
  refine lp_go (σ := Nat × Nat × Int32 × Int32 × (Nat → Int32)) (fun x => match x with | (kk_33, s_33, ls_33, nr_33, g_33) => kk_33 ≤ m9 ∧ s_33 ≤ e0 + 1 ∧ (∀ q, q < kk_33 → ∀ b, b ≤ e0 → xf q = nI b → b ≤ s_33) ∧ nr_33 = nI (leastN (nI 2) (cW T) Q (cN T) s_33 (e0 + 1 - s_33)) - 500 ∧ (∀ q, q < 1001 → g_33 q = tapeN (nI 2) (cW T) (cM T) (cN T) s_33 q) ∧ ((ls_33 = -1 ∧ ∀ q, kk_33 ≤ q → q < m9 → ∀ b, b ≤ e0 → xf q = nI b → ¬ carP (nI 2) (cW T) Q (cN T) b (e0 + 1)) ∨ (¬ ls_33 < 0 ∧ ∃ a, a < e0 + 1 ∧ carP (nI 2) (cW T) Q (cN T) a (e0 + 1)))) (fun x => match x with | (kk_33, s_33, ls_33, nr_33, g_33) => kk_33) (fun x => [(ro, .inr (11, [.int f6, .int s6, .ref rn, .ref rh, .int l6, .ref ca, .ref sa, .ref da, .ref xa])), (rn, .inr (12, [.int st, .int ce, .int sp, .int lm, .int rm, .int fa, .ref tn])), (tn, .inl (cI, 1001, .inl nf)), (rh, .inr (12, [.int st2, .int ce2, .int sp2, .int lm2, .int rm2, .int fa2, .ref th])), (th, .inl (cI, 1001, .inl x.2.2.2.2)), (ca, .inl (cI, 501, .inl cf)), (sa, .inl (cI, 501, .inl gf)), (da, .inl (cI, 501, .inl df)), (xa, .inl (cI, 501, .inl xf))]) (fun x => [(0, .ref ro), (1, .int (nI (e0 + 1))), (2, .int sg), (3, .int (nI m9)), (4, .int x.2.2.1), (5, .int x.2.2.2.1), (6, .int (nI x.2.1)), (7, .int (nI x.1 - 1))]) (fun _ => []) (fun x hI ih33 H locs hP hD hS ls hl => ?_) (m9, (e0 + 1), (-1), x_3, f_2) ⟨Nat.le_refl _, Nat.le_refl _, fun q hq b hb hx => by omega, by rw [ex_3, show e0 + 1 - (e0 + 1) = 0 from by omega]; show ce * sg = nI (cellN (nI 2) (cW T) Q (cN T) (e0 + 1)) - 500; rw [show ce = (seqR (nI 2) (cW T) (cM T) (cN T) (e0 + 1)).2.1 from hR.2.1, sd_ce hm.1 hm.2.1 (by have := hm.2.2.1; omega) hsd]; exact seqR_ce (sd_okM hm.1 hm.2.1 (by have := hm.2.2.1; omega) hsd) _, fun q hq => by rw [hw_1 q hq]; exact hR.2.2.2.2.2.2 q hq, Or.inl ⟨rfl, fun q h1 h2 => by omega⟩⟩ (hP.sub [0, 7, 8, 5, 6, 1, 2, 3, 4] rfl) (hD.sub [0, 7, 8, 5, 6, 1, 2, 3, 4] (by decide) rfl) hS (lv_sub hl [4, 5, 6, 7, 3, 2, 1, 0] rfl)
  obtain ⟨kk_33, s_33, ls_33, nr_33, g_33⟩ := x
  have hP : va_P (dC, dI) vwCl [(ro, .inr (11, [.int f6, .int s6, .ref rn, .ref rh, .int l6, .ref ca, .ref sa, .ref da, .ref xa])), (rn, .inr (12, [.int st, .int ce, .int sp, .int lm, .int rm, .int fa, .ref tn])), (tn, .inl (cI, 1001, .inl nf)), (rh, .inr (12, [.int st2, .int ce2, .int sp2, .int lm2, .int rm2, .int fa2, .ref th])), (th, .inl (cI, 1001, .inl g_33)), (ca, .inl (cI, 501, .inl cf)), (sa, .inl (cI, 501, .inl gf)), (da, .inl (cI, 501, .inl df)), (xa, .inl (cI, 501, .inl xf))] H := hP
  have hD : va_D A [(ro, .inr (11, [.int f6, .int s6, .ref rn, .ref rh, .int l6, .ref ca, .ref sa, .ref da, .ref xa])), (rn, .inr (12, [.int st, .int ce, .int sp, .int lm, .int rm, .int fa, .ref tn])), (tn, .inl (cI, 1001, .inl nf)), (rh, .inr (12, [.int st2, .int ce2, .int sp2, .int lm2, .int rm2, .int fa2, .ref th])), (th, .inl (cI, 1001, .inl g_33)), (ca, .inl (cI, 501, .inl cf)), (sa, .inl (cI, 501, .inl gf)), (da, .inl (cI, 501, .inl df)), (xa, .inl (cI, 501, .inl xf))] := hD
  have hl : lv_has ls 10 [(0, .ref ro), (1, .int (nI (e0 + 1))), (2, .int sg), (3, .int (nI m9)), (4, .int ls_33), (5, .int nr_33), (6, .int (nI s_33)), (7, .int (nI kk_33 - 1))] := hl
  try dsimp only at hI
  have ih33 := ih33
  refine lv_iload hx hb dX6_leastLike_33 (lv_at hl 7 rfl) ?_
  refine lv_if_lt (tgt := 179) hx hb dX6_leastLike_35 (by decide) (fun c35_4 => ?_) (fun c35_4 => ?_)
  · refine lv_iload hx hb dX6_leastLike_179 (lv_at hl 4 rfl) ?_
    have hk0 : kk_33 = 0 := (neg_pred (j := kk_33) (by have := hI.1; omega)).mp c35_4
    have hP9 := hP.sub (ws' := [(ro, .inr (11, [.int f6, .int s6, .ref rn, .ref rh, .int l6, .ref ca, .ref sa, .ref da, .ref xa])), (rn, .inr (12, [.int st, .int ce, .int sp, .int lm, .int rm, .int fa, .ref tn])), (tn, .inl (cI, 1001, .inl nf)), (rh, .inr (12, [.int st2, .int ce2, .int sp2, .int lm2, .int rm2, .int fa2, .ref th])), (th, .inl (cI, 1001, .inl g_33)), (ca, .inl (cI, 501, .inl cf)), (sa, .inl (cI, 501, .inl gf)), (da, .inl (cI, 501, .inl df)), (xa, .inl (cI, 501, .inl xf))]) [0, 1, 2, 3, 4, 5, 6, 7, 8] rfl
    have hD9 := hD.sub (ws' := [(ro, .inr (11, [.int f6, .int s6, .ref rn, .ref rh, .int l6, .ref ca, .ref sa, .ref da, .ref xa])), (rn, .inr (12, [.int st, .int ce, .int sp, .int lm, .int rm, .int fa, .ref tn])), (tn, .inl (cI, 1001, .inl nf)), (rh, .inr (12, [.int st2, .int ce2, .int sp2, .int lm2, .int rm2, .int fa2, .ref th])), (th, .inl (cI, 1001, .inl g_33)), (ca, .inl (cI, 501, .inl cf)), (sa, .inl (cI, 501, .inl gf)), (da, .inl (cI, 501, .inl df)), (xa, .inl (cI, 501, .inl xf))]) [0, 1, 2, 3, 4, 5, 6, 7, 8] (by decide) rfl
    have hK9 := hK.sub (tys' := [(cI, .int)]) [0] rfl
    exact W.iret (v := ls_33) hx hb hr (fun t ht hW => ⟨⟨ls_33, g_33, rfl, (hI.2.2.2.2.2.elim (fun h => Or.inr ⟨by rw [h.1]; decide, fun a ha hc => by obtain ⟨q, h1, h2⟩ := hfr.2.1 a (by omega) hc.1; exact h.2 q (by omega) h1 a (by omega) h2 hc⟩) Or.inl), ⟨by rw [ht]; exact hP9, va_K.moved hW.alike hK9, hD9⟩⟩, hS.F ht⟩) hS.2.2 dX6_leastLike_181
  · obtain ⟨q9, hq9⟩ : ∃ i, kk_33 = i + 1 := ⟨kk_33 - 1, by have h9 := mt (neg_pred (j := kk_33) (by have := hI.1; omega)).mpr c35_4; omega⟩
    subst hq9
    have hO := hI
    have hqm := hI.1
    obtain ⟨b9, hb9, hrb, hxb⟩ := hfr.1 q9 (by omega)
    refine lv_aload_n hx hb dX6_leastLike_38 rfl (lv_at hl 0 rfl) ?_
    refine va_get (D := (dC, dI)) (ci := 11) (v := .ref xa) (C := RX6) (T := TX6) (N := 9) hx hb hts iWX6 hown hK hP 0 rfl rfl 8 (by decide) (hts (.fieldLink RX6 41 "Beaverhall$Returns" "firsts" "[I") (by decide +kernel)) (fun _ h9 => h9) rfl dX6_leastLike_39 ?_
    refine lv_iload hx hb dX6_leastLike_42 (lv_at hl 7 rfl) ?_
    have hPc := hP.sub (ws' := [(xa, .inl (cI, 501, .inl xf))]) [8] rfl
    have hDc := hD.sub (ws' := [(xa, .inl (cI, 501, .inl xf))]) [8] (by decide) rfl
    have hKc := hK.sub (tys' := [(cI, .int)]) [0] rfl
    have hFc := va_free (wc := [(xa, .inl (cI, 501, .inl xf))]) hD hS hA [8] rfl
    refine va_calli (va_runSN (As := [.ref xa, .int (nI (q9 + 1) - 1)]) (rest := []) ⟨hx, hb, hml, hown, hts⟩ (c_X11_at l dC dI cI xa 501 xf (nI (q9 + 1) - 1) (by decide) H.size) ⟨va_cnB 2 hts gX6_leastLike_X11_at_n89 rfl rfl rfl (hN (.methodLinkNest RX6 89 yX11_at "Beaverhall") (by decide +kernel)) (hts (.initialized RX11) (by decide +kernel)) (by decide +kernel) ⟨Nat.le_of_ble_eq_true rfl, Nat.le_of_ble_eq_true rfl⟩, hts (.static yX11_at) (by decide +kernel), trivial⟩ (pcS hPc hDc hKc hN) rfl rfl hl.1 rfl (lv_room (Nat.le_of_ble_eq_true rfl)) dX6_leastLike_44 ⟨Nat.le_of_ble_eq_true rfl, Nat.le_of_ble_eq_true rfl⟩) hS (fun q _ h => hFc q h) hFc (fun r_5 u t H1 locs ht hvm hw_6 hB hz1 hk1 hS => ?_)
    obtain ⟨hP1, hK1, hD1⟩ := hB
    rw [ht] at hP1
    try dsimp only at hw_6
    obtain ⟨hP, hD⟩ := va_join (wr := [(ro, .inr (11, [.int f6, .int s6, .ref rn, .ref rh, .int l6, .ref ca, .ref sa, .ref da, .ref xa])), (rn, .inr (12, [.int st, .int ce, .int sp, .int lm, .int rm, .int fa, .ref tn])), (tn, .inl (cI, 1001, .inl nf)), (rh, .inr (12, [.int st2, .int ce2, .int sp2, .int lm2, .int rm2, .int fa2, .ref th])), (th, .inl (cI, 1001, .inl g_33)), (ca, .inl (cI, 501, .inl cf)), (sa, .inl (cI, 501, .inl gf)), (da, .inl (cI, 501, .inl df))]) (w1 := [(xa, .inl (cI, 501, .inl xf))]) hP hD [8] [0, 1, 2, 3, 4, 5, 6, 7] rfl rfl (by decide) (by decide) hk1 hFc hP1 hD1
    generalize H1 = H at hP hS ⊢
    have hP : va_P (dC, dI) vwCl [(ro, .inr (11, [.int f6, .int s6, .ref rn, .ref rh, .int l6, .ref ca, .ref sa, .ref da, .ref xa])), (rn, .inr (12, [.int st, .int ce, .int sp, .int lm, .int rm, .int fa, .ref tn])), (tn, .inl (cI, 1001, .inl nf)), (rh, .inr (12, [.int st2, .int ce2, .int sp2, .int lm2, .int rm2, .int fa2, .ref th])), (th, .inl (cI, 1001, .inl g_33)), (ca, .inl (cI, 501, .inl cf)), (sa, .inl (cI, 501, .inl gf)), (da, .inl (cI, 501, .inl df)), (xa, .inl (cI, 501, .inl xf))] H := hP
    have hD : va_D A [(ro, .inr (11, [.int f6, .int s6, .ref rn, .ref rh, .int l6, .ref ca, .ref sa, .ref da, .ref xa])), (rn, .inr (12, [.int st, .int ce, .int sp, .int lm, .int rm, .int fa, .ref tn])), (tn, .inl (cI, 1001, .inl nf)), (rh, .inr (12, [.int st2, .int ce2, .int sp2, .int lm2, .int rm2, .int fa2, .ref th])), (th, .inl (cI, 1001, .inl g_33)), (ca, .inl (cI, 501, .inl cf)), (sa, .inl (cI, 501, .inl gf)), (da, .inl (cI, 501, .inl df)), (xa, .inl (cI, 501, .inl xf))] := hD
    rw [at_at (n := 501) (i := nI (q9 + 1) - 1) (j := q9) (nI_pred q9) (by omega) (by decide)] at hw_6
    obtain rfl : r_5 = nI b9 := by rw [hw_6]; exact hxb
    refine lv_istore (lv' := [(8, .int (nI b9)), (0, .ref ro), (1, .int (nI (e0 + 1))), (2, .int sg), (3, .int (nI m9)), (4, .int ls_33), (5, .int nr_33), (6, .int (nI s_33)), (7, .int (nI (q9 + 1) - 1))]) hx hb dX6_leastLike_47 hl (by decide) rfl (fun ls hl => ?_)
    refine lp_go (σ := Nat × Int32 × (Nat → Int32)) (fun x => match x with | (s_49, nr_49, g_49) => b9 ≤ s_49 ∧ s_49 ≤ e0 + 1 ∧ nr_49 = nI (leastN (nI 2) (cW T) Q (cN T) s_49 (e0 + 1 - s_49)) - 500 ∧ (∀ q, q < 1001 → g_49 q = tapeN (nI 2) (cW T) (cM T) (cN T) s_49 q)) (fun x => match x with | (s_49, nr_49, g_49) => s_49) (fun x => [(ro, .inr (11, [.int f6, .int s6, .ref rn, .ref rh, .int l6, .ref ca, .ref sa, .ref da, .ref xa])), (rn, .inr (12, [.int st, .int ce, .int sp, .int lm, .int rm, .int fa, .ref tn])), (tn, .inl (cI, 1001, .inl nf)), (rh, .inr (12, [.int st2, .int ce2, .int sp2, .int lm2, .int rm2, .int fa2, .ref th])), (th, .inl (cI, 1001, .inl x.2.2)), (ca, .inl (cI, 501, .inl cf)), (sa, .inl (cI, 501, .inl gf)), (da, .inl (cI, 501, .inl df)), (xa, .inl (cI, 501, .inl xf))]) (fun x => [(0, .ref ro), (1, .int (nI (e0 + 1))), (2, .int sg), (3, .int (nI m9)), (4, .int ls_33), (5, .int x.2.1), (6, .int (nI x.1)), (7, .int (nI (q9 + 1) - 1)), (8, .int (nI b9))]) (fun _ => []) (fun x hI ih49 H locs hP hD hS ls hl => ?_) (s_33, nr_33, g_33) ⟨hO.2.2.1 q9 (by omega) b9 hb9 hxb, hO.2.1, hO.2.2.2.1, hO.2.2.2.2.1⟩ (hP.sub [0, 1, 2, 3, 4, 5, 6, 7, 8] rfl) (hD.sub [0, 1, 2, 3, 4, 5, 6, 7, 8] (by decide) rfl) hS (lv_sub hl [1, 2, 3, 4, 5, 6, 7, 8, 0] rfl)
    obtain ⟨s_49, nr_49, g_49⟩ := x
    have hP : va_P (dC, dI) vwCl [(ro, .inr (11, [.int f6, .int s6, .ref rn, .ref rh, .int l6, .ref ca, .ref sa, .ref da, .ref xa])), (rn, .inr (12, [.int st, .int ce, .int sp, .int lm, .int rm, .int fa, .ref tn])), (tn, .inl (cI, 1001, .inl nf)), (rh, .inr (12, [.int st2, .int ce2, .int sp2, .int lm2, .int rm2, .int fa2, .ref th])), (th, .inl (cI, 1001, .inl g_49)), (ca, .inl (cI, 501, .inl cf)), (sa, .inl (cI, 501, .inl gf)), (da, .inl (cI, 501, .inl df)), (xa, .inl (cI, 501, .inl xf))] H := hP
    have hD : va_D A [(ro, .inr (11, [.int f6, .int s6, .ref rn, .ref rh, .int l6, .ref ca, .ref sa, .ref da, .ref xa])), (rn, .inr (12, [.int st, .int ce, .int sp, .int lm, .int rm, .int fa, .ref tn])), (tn, .inl (cI, 1001, .inl nf)), (rh, .inr (12, [.int st2, .int ce2, .int sp2, .int lm2, .int rm2, .int fa2, .ref th])), (th, .inl (cI, 1001, .inl g_49)), (ca, .inl (cI, 501, .inl cf)), (sa, .inl (cI, 501, .inl gf)), (da, .inl (cI, 501, .inl df)), (xa, .inl (cI, 501, .inl xf))] := hD
    have hl : lv_has ls 10 [(0, .ref ro), (1, .int (nI (e0 + 1))), (2, .int sg), (3, .int (nI m9)), (4, .int ls_33), (5, .int nr_49), (6, .int (nI s_49)), (7, .int (nI (q9 + 1) - 1)), (8, .int (nI b9))] := hl
    try dsimp only at hI
    have ih49 := ih49
    refine lv_iload hx hb dX6_leastLike_49 (lv_at hl 6 rfl) ?_
    refine lv_iload hx hb dX6_leastLike_51 (lv_at hl 8 rfl) ?_
    refine lv_icmp_le (tgt := 106) hx hb dX6_leastLike_53 (by decide) (fun c53_7 => ?_) (fun c53_7 => ?_)
    · have hsb : s_49 = b9 := by have h9 := (nI_leI (a := s_49) (b := b9) (by have := hI.2.1; omega) (by omega)).mp c53_7; have := hI.1; omega
      have hnrb := hI.2.2.1
      have hTb := hI.2.2.2
      rw [hsb] at hnrb hTb
      obtain ⟨cb9, hcb9⟩ : ∃ c, c = cellN (nI 2) (cW T) (cM T) (cN T) b9 := ⟨_, rfl⟩
      have hcbe : (seqR (nI 2) (cW T) (cM T) (cN T) b9).2.1 = nI cb9 - 500 := by rw [hcb9]; exact seqR_ce (okM_T hm.1 hm.2.1 (by have := hm.2.2.1; omega)) b9
      refine lv_aload_n hx hb dX6_leastLike_106 rfl (lv_at hl 0 rfl) ?_
      refine va_get (D := (dC, dI)) (ci := 11) (v := .ref ca) (C := RX6) (T := TX6) (N := 9) hx hb hts iWX6 hown hK hP 0 rfl rfl 5 (by decide) (hts (.fieldLink RX6 31 "Beaverhall$Returns" "cells" "[I") (by decide +kernel)) (fun _ h9 => h9) rfl dX6_leastLike_107 ?_
      refine lv_iload hx hb dX6_leastLike_110 (lv_at hl 8 rfl) ?_
      have hPc := hP.sub (ws' := [(ca, .inl (cI, 501, .inl cf))]) [5] rfl
      have hDc := hD.sub (ws' := [(ca, .inl (cI, 501, .inl cf))]) [5] (by decide) rfl
      have hKc := hK.sub (tys' := [(cI, .int)]) [0] rfl
      have hFc := va_free (wc := [(ca, .inl (cI, 501, .inl cf))]) hD hS hA [5] rfl
      refine va_calli (va_runSN (As := [.ref ca, .int (nI b9)]) (rest := []) ⟨hx, hb, hml, hown, hts⟩ (c_X11_at l dC dI cI ca 501 cf (nI b9) (by decide) H.size) ⟨va_cnB 2 hts gX6_leastLike_X11_at_n89 rfl rfl rfl (hN (.methodLinkNest RX6 89 yX11_at "Beaverhall") (by decide +kernel)) (hts (.initialized RX11) (by decide +kernel)) (by decide +kernel) ⟨Nat.le_of_ble_eq_true rfl, Nat.le_of_ble_eq_true rfl⟩, hts (.static yX11_at) (by decide +kernel), trivial⟩ (pcS hPc hDc hKc hN) rfl rfl hl.1 rfl (lv_room (Nat.le_of_ble_eq_true rfl)) dX6_leastLike_112 ⟨Nat.le_of_ble_eq_true rfl, Nat.le_of_ble_eq_true rfl⟩) hS (fun q _ h => hFc q h) hFc (fun r_8 u t H1 locs ht hvm hw_9 hB hz1 hk1 hS => ?_)
      obtain ⟨hP1, hK1, hD1⟩ := hB
      rw [ht] at hP1
      try dsimp only at hw_9
      obtain ⟨hP, hD⟩ := va_join (wr := [(ro, .inr (11, [.int f6, .int s6, .ref rn, .ref rh, .int l6, .ref ca, .ref sa, .ref da, .ref xa])), (rn, .inr (12, [.int st, .int ce, .int sp, .int lm, .int rm, .int fa, .ref tn])), (tn, .inl (cI, 1001, .inl nf)), (rh, .inr (12, [.int st2, .int ce2, .int sp2, .int lm2, .int rm2, .int fa2, .ref th])), (th, .inl (cI, 1001, .inl g_49)), (sa, .inl (cI, 501, .inl gf)), (da, .inl (cI, 501, .inl df)), (xa, .inl (cI, 501, .inl xf))]) (w1 := [(ca, .inl (cI, 501, .inl cf))]) hP hD [5] [0, 1, 2, 3, 4, 6, 7, 8] rfl rfl (by decide) (by decide) hk1 hFc hP1 hD1
      generalize H1 = H at hP hS ⊢
      have hP : va_P (dC, dI) vwCl [(ro, .inr (11, [.int f6, .int s6, .ref rn, .ref rh, .int l6, .ref ca, .ref sa, .ref da, .ref xa])), (rn, .inr (12, [.int st, .int ce, .int sp, .int lm, .int rm, .int fa, .ref tn])), (tn, .inl (cI, 1001, .inl nf)), (rh, .inr (12, [.int st2, .int ce2, .int sp2, .int lm2, .int rm2, .int fa2, .ref th])), (th, .inl (cI, 1001, .inl g_49)), (sa, .inl (cI, 501, .inl gf)), (da, .inl (cI, 501, .inl df)), (xa, .inl (cI, 501, .inl xf)), (ca, .inl (cI, 501, .inl cf))] H := hP
      have hD : va_D A [(ro, .inr (11, [.int f6, .int s6, .ref rn, .ref rh, .int l6, .ref ca, .ref sa, .ref da, .ref xa])), (rn, .inr (12, [.int st, .int ce, .int sp, .int lm, .int rm, .int fa, .ref tn])), (tn, .inl (cI, 1001, .inl nf)), (rh, .inr (12, [.int st2, .int ce2, .int sp2, .int lm2, .int rm2, .int fa2, .ref th])), (th, .inl (cI, 1001, .inl g_49)), (sa, .inl (cI, 501, .inl gf)), (da, .inl (cI, 501, .inl df)), (xa, .inl (cI, 501, .inl xf)), (ca, .inl (cI, 501, .inl cf))] := hD
      rw [at_at (n := 501) (i := nI b9) (j := b9) rfl (by omega) (by decide)] at hw_9
      obtain rfl : r_8 = nI cb9 - 500 := by rw [hw_9, hwd.1 b9 (by omega)]; exact hcbe
      refine lv_istore (lv' := [(9, .int (nI cb9 - 500)), (0, .ref ro), (1, .int (nI (e0 + 1))), (2, .int sg), (3, .int (nI m9)), (4, .int ls_33), (5, .int nr_49), (6, .int (nI s_49)), (7, .int (nI (q9 + 1) - 1)), (8, .int (nI b9))]) hx hb dX6_leastLike_115 hl (by decide) rfl (fun ls hl => ?_)
      refine lv_aload_n hx hb dX6_leastLike_117 rfl (lv_at hl 1 rfl) ?_
      refine va_get (D := (dC, dI)) (ci := 11) (v := .ref sa) (C := RX6) (T := TX6) (N := 9) hx hb hts iWX6 hown hK hP 0 rfl rfl 6 (by decide) (hts (.fieldLink RX6 35 "Beaverhall$Returns" "states" "[I") (by decide +kernel)) (fun _ h9 => h9) rfl dX6_leastLike_118 ?_
      refine lv_iload hx hb dX6_leastLike_121 (lv_at hl 9 rfl) ?_
      have hPc := hP.sub (ws' := [(sa, .inl (cI, 501, .inl gf))]) [5] rfl
      have hDc := hD.sub (ws' := [(sa, .inl (cI, 501, .inl gf))]) [5] (by decide) rfl
      have hKc := hK.sub (tys' := [(cI, .int)]) [0] rfl
      have hFc := va_free (wc := [(sa, .inl (cI, 501, .inl gf))]) hD hS hA [5] rfl
      refine va_calli (va_runSN (As := [.ref sa, .int (nI b9)]) (rest := []) ⟨hx, hb, hml, hown, hts⟩ (c_X11_at l dC dI cI sa 501 gf (nI b9) (by decide) H.size) ⟨va_cnB 2 hts gX6_leastLike_X11_at_n89 rfl rfl rfl (hN (.methodLinkNest RX6 89 yX11_at "Beaverhall") (by decide +kernel)) (hts (.initialized RX11) (by decide +kernel)) (by decide +kernel) ⟨Nat.le_of_ble_eq_true rfl, Nat.le_of_ble_eq_true rfl⟩, hts (.static yX11_at) (by decide +kernel), trivial⟩ (pcS hPc hDc hKc hN) rfl rfl hl.1 rfl (lv_room (Nat.le_of_ble_eq_true rfl)) dX6_leastLike_123 ⟨Nat.le_of_ble_eq_true rfl, Nat.le_of_ble_eq_true rfl⟩) hS (fun q _ h => hFc q h) hFc (fun r_10 u t H1 locs ht hvm hw_11 hB hz1 hk1 hS => ?_)
      obtain ⟨hP1, hK1, hD1⟩ := hB
      rw [ht] at hP1
      try dsimp only at hw_11
      obtain ⟨hP, hD⟩ := va_join (wr := [(ro, .inr (11, [.int f6, .int s6, .ref rn, .ref rh, .int l6, .ref ca, .ref sa, .ref da, .ref xa])), (rn, .inr (12, [.int st, .int ce, .int sp, .int lm, .int rm, .int fa, .ref tn])), (tn, .inl (cI, 1001, .inl nf)), (rh, .inr (12, [.int st2, .int ce2, .int sp2, .int lm2, .int rm2, .int fa2, .ref th])), (th, .inl (cI, 1001, .inl g_49)), (da, .inl (cI, 501, .inl df)), (xa, .inl (cI, 501, .inl xf)), (ca, .inl (cI, 501, .inl cf))]) (w1 := [(sa, .inl (cI, 501, .inl gf))]) hP hD [5] [0, 1, 2, 3, 4, 6, 7, 8] rfl rfl (by decide) (by decide) hk1 hFc hP1 hD1
      generalize H1 = H at hP hS ⊢
      have hP : va_P (dC, dI) vwCl [(ro, .inr (11, [.int f6, .int s6, .ref rn, .ref rh, .int l6, .ref ca, .ref sa, .ref da, .ref xa])), (rn, .inr (12, [.int st, .int ce, .int sp, .int lm, .int rm, .int fa, .ref tn])), (tn, .inl (cI, 1001, .inl nf)), (rh, .inr (12, [.int st2, .int ce2, .int sp2, .int lm2, .int rm2, .int fa2, .ref th])), (th, .inl (cI, 1001, .inl g_49)), (da, .inl (cI, 501, .inl df)), (xa, .inl (cI, 501, .inl xf)), (ca, .inl (cI, 501, .inl cf)), (sa, .inl (cI, 501, .inl gf))] H := hP
      have hD : va_D A [(ro, .inr (11, [.int f6, .int s6, .ref rn, .ref rh, .int l6, .ref ca, .ref sa, .ref da, .ref xa])), (rn, .inr (12, [.int st, .int ce, .int sp, .int lm, .int rm, .int fa, .ref tn])), (tn, .inl (cI, 1001, .inl nf)), (rh, .inr (12, [.int st2, .int ce2, .int sp2, .int lm2, .int rm2, .int fa2, .ref th])), (th, .inl (cI, 1001, .inl g_49)), (da, .inl (cI, 501, .inl df)), (xa, .inl (cI, 501, .inl xf)), (ca, .inl (cI, 501, .inl cf)), (sa, .inl (cI, 501, .inl gf))] := hD
      rw [at_at (n := 501) (i := nI b9) (j := b9) rfl (by omega) (by decide)] at hw_11
      refine lv_aload_n hx hb dX6_leastLike_126 rfl (lv_at hl 1 rfl) ?_
      refine va_get (D := (dC, dI)) (ci := 11) (v := .ref rn) (C := RX6) (T := TX6) (N := 9) hx hb hts iWX6 hown hK hP 0 rfl rfl 2 (by decide) (hts (.fieldLink RX6 21 "Beaverhall$Returns" "now" "LBeaverhall$Run;") (by decide +kernel)) (fun _ h9 => h9) rfl dX6_leastLike_127 ?_
      refine va_get (D := (dC, dI)) (ci := 12) (v := .int st) (C := RX7) (T := TX7) (N := 7) hx hb hts iWX7 hown hK hP 1 rfl rfl 0 (by decide) (hts (.fieldLink RX6 82 "Beaverhall$Run" "state" "I") (by decide +kernel)) (fun _ h9 => h9) rfl dX6_leastLike_130 ?_
      refine lv_icmp_ne (tgt := 173) hx hb dX6_leastLike_133 (by decide) (fun c133_12 => ?_) (fun c133_12 => ?_)
      · have hnc : ¬ carP (nI 2) (cW T) Q (cN T) b9 (e0 + 1) := not_car hm.1 hm.2.1 (by have := hm.2.2.1; omega) hsd (fun h9 => c133_12 (by rw [hw_11, hwd.2.1 b9 (by omega)]; exact h9.symm.trans hR.1.symm))
        have hLS : (ls_33 = -1 ∧ ∀ q, q9 ≤ q → q < m9 → ∀ b, b ≤ e0 → xf q = nI b → ¬ carP (nI 2) (cW T) Q (cN T) b (e0 + 1)) ∨ (¬ ls_33 < 0 ∧ ∃ a, a < e0 + 1 ∧ carP (nI 2) (cW T) Q (cN T) a (e0 + 1)) := hO.2.2.2.2.2.elim (fun h => Or.inl ⟨h.1, fun q h1 h2 b h3 h4 => (Nat.lt_or_ge q9 q).elim (fun h5 => h.2 q h5 h2 b h3 h4) (fun h5 => by have h6 : q = q9 := (by omega); rw [h6, hxb, nI_eq (by omega) (by omega)] at h4; rw [← h4]; exact hnc)⟩) Or.inr
        obtain ⟨y_13, ey_13⟩ : ∃ y : Int32, y = (nI (q9 + 1) - 1) + (-1) := ⟨_, rfl⟩
        refine lv_iinc (v := y_13) (lv' := [(7, .int y_13), (9, .int (nI cb9 - 500)), (0, .ref ro), (1, .int (nI (e0 + 1))), (2, .int sg), (3, .int (nI m9)), (4, .int ls_33), (5, .int nr_49), (6, .int (nI s_49)), (8, .int (nI b9))]) hx hb dX6_leastLike_173 hl (k := 8) rfl (by rw [ey_13]; rfl) (by decide) rfl (fun ls hl => ?_)
        obtain rfl : y_13 = nI q9 - 1 := by rw [ey_13, nI_pred]; exact (Int32.sub_eq_add_neg _ _).symm
        refine lv_goto (tgt := 33) hx hb dX6_leastLike_176 (by decide) ?_
        exact ih33 (q9, s_49, ls_33, nr_49, g_49) ⟨by omega, hI.2.1, fun q hq b hb hx => by rw [hsb]; exact Nat.le_of_lt (hfr.2.2 q q9 b b9 hq (by omega) hx hxb hb hb9), hI.2.2.1, hI.2.2.2, hLS⟩ (Nat.lt_succ_self q9) _ _ (hP.sub [0, 1, 2, 3, 4, 7, 8, 5, 6] rfl) (hD.sub [0, 1, 2, 3, 4, 7, 8, 5, 6] (by decide) rfl) hS ls (lv_sub hl [2, 3, 4, 5, 6, 7, 8, 0] rfl)
      · have hst9 : (seqR (nI 2) (cW T) (cM T) (cN T) (e0 + 1)).1 = (seqR (nI 2) (cW T) (cM T) (cN T) b9).1 := by have h9 := c133_12; rw [hw_11, hwd.2.1 b9 (by omega)] at h9; exact hR.1.symm.trans h9.symm
        refine lv_aload_n hx hb dX6_leastLike_136 rfl (lv_at hl 1 rfl) ?_
        refine va_get (D := (dC, dI)) (ci := 11) (v := .ref rn) (C := RX6) (T := TX6) (N := 9) hx hb hts iWX6 hown hK hP 0 rfl rfl 2 (by decide) (hts (.fieldLink RX6 21 "Beaverhall$Returns" "now" "LBeaverhall$Run;") (by decide +kernel)) (fun _ h9 => h9) rfl dX6_leastLike_137 ?_
        refine lv_aload_n hx hb dX6_leastLike_140 rfl (lv_at hl 1 rfl) ?_
        refine va_get (D := (dC, dI)) (ci := 11) (v := .ref rn) (C := RX6) (T := TX6) (N := 9) hx hb hts iWX6 hown hK hP 0 rfl rfl 2 (by decide) (hts (.fieldLink RX6 21 "Beaverhall$Returns" "now" "LBeaverhall$Run;") (by decide +kernel)) (fun _ h9 => h9) rfl dX6_leastLike_141 ?_
        refine va_get (D := (dC, dI)) (ci := 12) (v := .int ce) (C := RX7) (T := TX7) (N := 7) hx hb hts iWX7 hown hK hP 1 rfl rfl 1 (by decide) (hts (.fieldLink RX6 67 "Beaverhall$Run" "cell" "I") (by decide +kernel)) (fun _ h9 => h9) rfl dX6_leastLike_144 ?_
        refine lv_aload_n hx hb dX6_leastLike_147 rfl (lv_at hl 1 rfl) ?_
        refine va_get (D := (dC, dI)) (ci := 11) (v := .ref rh) (C := RX6) (T := TX6) (N := 9) hx hb hts iWX6 hown hK hP 0 rfl rfl 3 (by decide) (hts (.fieldLink RX6 25 "Beaverhall$Returns" "then" "LBeaverhall$Run;") (by decide +kernel)) (fun _ h9 => h9) rfl dX6_leastLike_148 ?_
        refine lv_iload hx hb dX6_leastLike_151 (lv_at hl 0 rfl) ?_
        refine lv_iload hx hb dX6_leastLike_153 (lv_at hl 0 rfl) ?_
        refine lv_iload_n hx hb dX6_leastLike_155 rfl (lv_at hl 3 rfl) ?_
        refine lv_imul hx hb dX6_leastLike_156 ?_
        refine lv_iload hx hb dX6_leastLike_157 (lv_at hl 6 rfl) ?_
        refine lv_isub hx hb dX6_leastLike_159 ?_
        refine lv_iconst (v := 1) hx hb dX6_leastLike_160 (by decide) ?_
        refine lv_iadd hx hb dX6_leastLike_161 ?_
        refine lv_topi (fun x_14 ex_14 => ?_)
        obtain rfl : x_14 = nI (cellN (nI 2) (cW T) Q (cN T) b9 - leastN (nI 2) (cW T) Q (cN T) b9 (e0 + 1 - b9) + 1) := by rw [ex_14, hnrb, ← hcbe, sd_ce hm.1 hm.2.1 (by have := hm.2.2.1; omega) hsd b9, seqR_ce (sd_okM hm.1 hm.2.1 (by have := hm.2.2.1; omega) hsd) b9, cN_sub (leastN_le _ _ _ _ _ _), nI_1]
        refine lv_iload_n hx hb dX6_leastLike_162 rfl (lv_at hl 3 rfl) ?_
        have hPc := hP.sub (ws' := [(rn, .inr (12, [.int st, .int ce, .int sp, .int lm, .int rm, .int fa, .ref tn])), (tn, .inl (cI, 1001, .inl nf)), (rh, .inr (12, [.int st2, .int ce2, .int sp2, .int lm2, .int rm2, .int fa2, .ref th])), (th, .inl (cI, 1001, .inl g_49))]) [1, 2, 3, 4] rfl
        have hDc := hD.sub (ws' := [(rn, .inr (12, [.int st, .int ce, .int sp, .int lm, .int rm, .int fa, .ref tn])), (tn, .inl (cI, 1001, .inl nf)), (rh, .inr (12, [.int st2, .int ce2, .int sp2, .int lm2, .int rm2, .int fa2, .ref th])), (th, .inl (cI, 1001, .inl g_49))]) [1, 2, 3, 4] (by decide) rfl
        have hKc := hK.sub (tys' := [(cI, .int)]) [0] rfl
        have hFc := va_free (wc := [(rn, .inr (12, [.int st, .int ce, .int sp, .int lm, .int rm, .int fa, .ref tn])), (tn, .inl (cI, 1001, .inl nf)), (rh, .inr (12, [.int st2, .int ce2, .int sp2, .int lm2, .int rm2, .int fa2, .ref th])), (th, .inl (cI, 1001, .inl g_49))]) hD hS hA [1, 2, 3, 4] rfl
        refine va_calli (va_runV (As := [.int ce, .ref rh, .int (nI cb9 - 500), .int (nI (cellN (nI 2) (cW T) Q (cN T) b9 - leastN (nI 2) (cW T) Q (cN T) b9 (e0 + 1 - b9) + 1)), .int sg]) (rest := []) ⟨hx, hb, hml, hown, hts⟩ (c_X7_isLikeBehind l dC dI cI rn tn st ce sp lm rm fa nf rh th st2 ce2 sp2 lm2 rm2 fa2 g_49 ce (nI cb9 - 500) sg (cellN (nI 2) (cW T) Q (cN T) b9 - leastN (nI 2) (cW T) Q (cN T) b9 (e0 + 1 - b9) + 1) (by have h9 := seqR_hi (sd_okM hm.1 hm.2.1 (by have := hm.2.2.1; omega) hsd) b9; omega) H.size) (cwV 5 hts gX6_leastLike_X7_isLikeBehind rfl rfl rfl (by decide +kernel) ⟨Nat.le_of_ble_eq_true rfl, Nat.le_of_ble_eq_true rfl⟩) (pcV hPc hDc hKc hN (ci := 12) (q0 := 0) rfl rfl) rfl rfl hl.1 rfl (lv_room (Nat.le_of_ble_eq_true rfl)) dX6_leastLike_163 ⟨Nat.le_of_ble_eq_true rfl, Nat.le_of_ble_eq_true rfl⟩) hS (fun q _ h => hFc q h) hFc (fun r_15 u t H1 locs ht hvm hw_16 hB hz1 hk1 hS => ?_)
        obtain ⟨hP1, hK1, hD1⟩ := hB
        rw [ht] at hP1
        try dsimp only at hw_16
        obtain ⟨hP, hD⟩ := va_join (wr := [(ro, .inr (11, [.int f6, .int s6, .ref rn, .ref rh, .int l6, .ref ca, .ref sa, .ref da, .ref xa])), (da, .inl (cI, 501, .inl df)), (xa, .inl (cI, 501, .inl xf)), (ca, .inl (cI, 501, .inl cf)), (sa, .inl (cI, 501, .inl gf))]) (w1 := [(rn, .inr (12, [.int st, .int ce, .int sp, .int lm, .int rm, .int fa, .ref tn])), (tn, .inl (cI, 1001, .inl nf)), (rh, .inr (12, [.int st2, .int ce2, .int sp2, .int lm2, .int rm2, .int fa2, .ref th])), (th, .inl (cI, 1001, .inl g_49))]) hP hD [1, 2, 3, 4] [0, 5, 6, 7, 8] rfl rfl (by decide) (by decide) hk1 hFc hP1 hD1
        generalize H1 = H at hP hS ⊢
        have hP : va_P (dC, dI) vwCl [(ro, .inr (11, [.int f6, .int s6, .ref rn, .ref rh, .int l6, .ref ca, .ref sa, .ref da, .ref xa])), (da, .inl (cI, 501, .inl df)), (xa, .inl (cI, 501, .inl xf)), (ca, .inl (cI, 501, .inl cf)), (sa, .inl (cI, 501, .inl gf)), (rn, .inr (12, [.int st, .int ce, .int sp, .int lm, .int rm, .int fa, .ref tn])), (tn, .inl (cI, 1001, .inl nf)), (rh, .inr (12, [.int st2, .int ce2, .int sp2, .int lm2, .int rm2, .int fa2, .ref th])), (th, .inl (cI, 1001, .inl g_49))] H := hP
        have hD : va_D A [(ro, .inr (11, [.int f6, .int s6, .ref rn, .ref rh, .int l6, .ref ca, .ref sa, .ref da, .ref xa])), (da, .inl (cI, 501, .inl df)), (xa, .inl (cI, 501, .inl xf)), (ca, .inl (cI, 501, .inl cf)), (sa, .inl (cI, 501, .inl gf)), (rn, .inr (12, [.int st, .int ce, .int sp, .int lm, .int rm, .int fa, .ref tn])), (tn, .inl (cI, 1001, .inl nf)), (rh, .inr (12, [.int st2, .int ce2, .int sp2, .int lm2, .int rm2, .int fa2, .ref th])), (th, .inl (cI, 1001, .inl g_49))] := hD
        refine lv_if_eq (tgt := 173) hx hb dX6_leastLike_166 (by decide) (fun c166_17 => ?_) (fun c166_17 => ?_)
        · have hnc : ¬ carP (nI 2) (cW T) Q (cN T) b9 (e0 + 1) := fun h9 => hw_16.elim (fun h => absurd (h.1.symm.trans c166_17) (by decide)) (fun h => h.2 ((like_car hm.1 hm.2.1 (by have := hm.2.2.1; omega) hsd (b := b9) (e := e0 + 1) (by omega) hrb hrec hst9 (hR.2.1) hcbe.symm (fun q hq => hR.2.2.2.2.2.2 q hq) hTb).mp h9))
          have hLS : (ls_33 = -1 ∧ ∀ q, q9 ≤ q → q < m9 → ∀ b, b ≤ e0 → xf q = nI b → ¬ carP (nI 2) (cW T) Q (cN T) b (e0 + 1)) ∨ (¬ ls_33 < 0 ∧ ∃ a, a < e0 + 1 ∧ carP (nI 2) (cW T) Q (cN T) a (e0 + 1)) := hO.2.2.2.2.2.elim (fun h => Or.inl ⟨h.1, fun q h1 h2 b h3 h4 => (Nat.lt_or_ge q9 q).elim (fun h5 => h.2 q h5 h2 b h3 h4) (fun h5 => by have h6 : q = q9 := (by omega); rw [h6, hxb, nI_eq (by omega) (by omega)] at h4; rw [← h4]; exact hnc)⟩) Or.inr
          obtain ⟨y_18, ey_18⟩ : ∃ y : Int32, y = (nI (q9 + 1) - 1) + (-1) := ⟨_, rfl⟩
          refine lv_iinc (v := y_18) (lv' := [(7, .int y_18), (9, .int (nI cb9 - 500)), (0, .ref ro), (1, .int (nI (e0 + 1))), (2, .int sg), (3, .int (nI m9)), (4, .int ls_33), (5, .int nr_49), (6, .int (nI s_49)), (8, .int (nI b9))]) hx hb dX6_leastLike_173 hl (k := 8) rfl (by rw [ey_18]; rfl) (by decide) rfl (fun ls hl => ?_)
          obtain rfl : y_18 = nI q9 - 1 := by rw [ey_18, nI_pred]; exact (Int32.sub_eq_add_neg _ _).symm
          refine lv_goto (tgt := 33) hx hb dX6_leastLike_176 (by decide) ?_
          exact ih33 (q9, s_49, ls_33, nr_49, g_49) ⟨by omega, hI.2.1, fun q hq b hb hx => by rw [hsb]; exact Nat.le_of_lt (hfr.2.2 q q9 b b9 hq (by omega) hx hxb hb hb9), hI.2.2.1, hI.2.2.2, hLS⟩ (Nat.lt_succ_self q9) _ _ (hP.sub [0, 5, 6, 7, 8, 3, 4, 1, 2] rfl) (hD.sub [0, 5, 6, 7, 8, 3, 4, 1, 2] (by decide) rfl) hS ls (lv_sub hl [2, 3, 4, 5, 6, 7, 8, 0] rfl)
        · have hcar : carP (nI 2) (cW T) Q (cN T) b9 (e0 + 1) := hw_16.elim (fun h => (like_car hm.1 hm.2.1 (by have := hm.2.2.1; omega) hsd (b := b9) (e := e0 + 1) (by omega) hrb hrec hst9 (hR.2.1) hcbe.symm (fun q hq => hR.2.2.2.2.2.2 q hq) hTb).mpr h.2) (fun h => absurd h.1 c166_17)
          have hLS : ((nI b9) = -1 ∧ ∀ q, q9 ≤ q → q < m9 → ∀ b, b ≤ e0 → xf q = nI b → ¬ carP (nI 2) (cW T) Q (cN T) b (e0 + 1)) ∨ (¬ (nI b9) < 0 ∧ ∃ a, a < e0 + 1 ∧ carP (nI 2) (cW T) Q (cN T) a (e0 + 1)) := Or.inr ⟨nI_pos (by omega), b9, by omega, hcar⟩
          refine lv_iload hx hb dX6_leastLike_169 (lv_at hl 9 rfl) ?_
          refine lv_istore (lv' := [(4, .int (nI b9)), (9, .int (nI cb9 - 500)), (0, .ref ro), (1, .int (nI (e0 + 1))), (2, .int sg), (3, .int (nI m9)), (5, .int nr_49), (6, .int (nI s_49)), (7, .int (nI (q9 + 1) - 1)), (8, .int (nI b9))]) hx hb dX6_leastLike_171 hl (by decide) rfl (fun ls hl => ?_)
          obtain ⟨y_19, ey_19⟩ : ∃ y : Int32, y = (nI (q9 + 1) - 1) + (-1) := ⟨_, rfl⟩
          refine lv_iinc (v := y_19) (lv' := [(7, .int y_19), (4, .int (nI b9)), (9, .int (nI cb9 - 500)), (0, .ref ro), (1, .int (nI (e0 + 1))), (2, .int sg), (3, .int (nI m9)), (5, .int nr_49), (6, .int (nI s_49)), (8, .int (nI b9))]) hx hb dX6_leastLike_173 hl (k := 8) rfl (by rw [ey_19]; rfl) (by decide) rfl (fun ls hl => ?_)
          obtain rfl : y_19 = nI q9 - 1 := by rw [ey_19, nI_pred]; exact (Int32.sub_eq_add_neg _ _).symm
          refine lv_goto (tgt := 33) hx hb dX6_leastLike_176 (by decide) ?_
          exact ih33 (q9, s_49, nI b9, nr_49, g_49) ⟨by omega, hI.2.1, fun q hq b hb hx => by rw [hsb]; exact Nat.le_of_lt (hfr.2.2 q q9 b b9 hq (by omega) hx hxb hb hb9), hI.2.2.1, hI.2.2.2, hLS⟩ (Nat.lt_succ_self q9) _ _ (hP.sub [0, 5, 6, 7, 8, 3, 4, 1, 2] rfl) (hD.sub [0, 5, 6, 7, 8, 3, 4, 1, 2] (by decide) rfl) hS ls (lv_sub hl [3, 4, 5, 6, 1, 7, 8, 0] rfl)
    · have hzz : b9 < s_49 := by have h9 := mt (nI_leI (a := s_49) (b := b9) (by have := hI.2.1; omega) (by omega)).mpr c53_7; omega
      obtain ⟨z9, hz9⟩ : ∃ i, s_49 = i + 1 := ⟨s_49 - 1, by omega⟩
      subst hz9
      have hzn : z9 + 1 ≤ e0 + 1 := hI.2.1
      have hbz : bitR (nI 2) (cW T) (cM T) (cN T) z9 = 1 := hal z9 (by omega)
      obtain ⟨c9, hc9⟩ : ∃ c, c = cellN (nI 2) (cW T) (cM T) (cN T) z9 := ⟨_, rfl⟩
      have hc1 : c9 ≤ 1000 := by have h9 := seqR_hi (okM_T hm.1 hm.2.1 (by have := hm.2.2.1; omega)) z9; rw [← hc9] at h9; omega
      have hce : (seqR (nI 2) (cW T) (cM T) (cN T) z9).2.1 = nI c9 - 500 := by rw [hc9]; exact seqR_ce (okM_T hm.1 hm.2.1 (by have := hm.2.2.1; omega)) z9
      refine lv_aload_n hx hb dX6_leastLike_56 rfl (lv_at hl 0 rfl) ?_
      refine va_get (D := (dC, dI)) (ci := 11) (v := .ref ca) (C := RX6) (T := TX6) (N := 9) hx hb hts iWX6 hown hK hP 0 rfl rfl 5 (by decide) (hts (.fieldLink RX6 31 "Beaverhall$Returns" "cells" "[I") (by decide +kernel)) (fun _ h9 => h9) rfl dX6_leastLike_57 ?_
      refine lv_iload hx hb dX6_leastLike_60 (lv_at hl 6 rfl) ?_
      refine lv_iconst (v := 1) hx hb dX6_leastLike_62 (by decide) ?_
      refine lv_isub hx hb dX6_leastLike_63 ?_
      have hPc := hP.sub (ws' := [(ca, .inl (cI, 501, .inl cf))]) [5] rfl
      have hDc := hD.sub (ws' := [(ca, .inl (cI, 501, .inl cf))]) [5] (by decide) rfl
      have hKc := hK.sub (tys' := [(cI, .int)]) [0] rfl
      have hFc := va_free (wc := [(ca, .inl (cI, 501, .inl cf))]) hD hS hA [5] rfl
      refine va_calli (va_runSN (As := [.ref ca, .int ((nI (z9 + 1)) - 1)]) (rest := []) ⟨hx, hb, hml, hown, hts⟩ (c_X11_at l dC dI cI ca 501 cf ((nI (z9 + 1)) - 1) (by decide) H.size) ⟨va_cnB 2 hts gX6_leastLike_X11_at_n89 rfl rfl rfl (hN (.methodLinkNest RX6 89 yX11_at "Beaverhall") (by decide +kernel)) (hts (.initialized RX11) (by decide +kernel)) (by decide +kernel) ⟨Nat.le_of_ble_eq_true rfl, Nat.le_of_ble_eq_true rfl⟩, hts (.static yX11_at) (by decide +kernel), trivial⟩ (pcS hPc hDc hKc hN) rfl rfl hl.1 rfl (lv_room (Nat.le_of_ble_eq_true rfl)) dX6_leastLike_64 ⟨Nat.le_of_ble_eq_true rfl, Nat.le_of_ble_eq_true rfl⟩) hS (fun q _ h => hFc q h) hFc (fun r_20 u t H1 locs ht hvm hw_21 hB hz1 hk1 hS => ?_)
      obtain ⟨hP1, hK1, hD1⟩ := hB
      rw [ht] at hP1
      try dsimp only at hw_21
      obtain ⟨hP, hD⟩ := va_join (wr := [(ro, .inr (11, [.int f6, .int s6, .ref rn, .ref rh, .int l6, .ref ca, .ref sa, .ref da, .ref xa])), (rn, .inr (12, [.int st, .int ce, .int sp, .int lm, .int rm, .int fa, .ref tn])), (tn, .inl (cI, 1001, .inl nf)), (rh, .inr (12, [.int st2, .int ce2, .int sp2, .int lm2, .int rm2, .int fa2, .ref th])), (th, .inl (cI, 1001, .inl g_49)), (sa, .inl (cI, 501, .inl gf)), (da, .inl (cI, 501, .inl df)), (xa, .inl (cI, 501, .inl xf))]) (w1 := [(ca, .inl (cI, 501, .inl cf))]) hP hD [5] [0, 1, 2, 3, 4, 6, 7, 8] rfl rfl (by decide) (by decide) hk1 hFc hP1 hD1
      generalize H1 = H at hP hS ⊢
      have hP : va_P (dC, dI) vwCl [(ro, .inr (11, [.int f6, .int s6, .ref rn, .ref rh, .int l6, .ref ca, .ref sa, .ref da, .ref xa])), (rn, .inr (12, [.int st, .int ce, .int sp, .int lm, .int rm, .int fa, .ref tn])), (tn, .inl (cI, 1001, .inl nf)), (rh, .inr (12, [.int st2, .int ce2, .int sp2, .int lm2, .int rm2, .int fa2, .ref th])), (th, .inl (cI, 1001, .inl g_49)), (sa, .inl (cI, 501, .inl gf)), (da, .inl (cI, 501, .inl df)), (xa, .inl (cI, 501, .inl xf)), (ca, .inl (cI, 501, .inl cf))] H := hP
      have hD : va_D A [(ro, .inr (11, [.int f6, .int s6, .ref rn, .ref rh, .int l6, .ref ca, .ref sa, .ref da, .ref xa])), (rn, .inr (12, [.int st, .int ce, .int sp, .int lm, .int rm, .int fa, .ref tn])), (tn, .inl (cI, 1001, .inl nf)), (rh, .inr (12, [.int st2, .int ce2, .int sp2, .int lm2, .int rm2, .int fa2, .ref th])), (th, .inl (cI, 1001, .inl g_49)), (sa, .inl (cI, 501, .inl gf)), (da, .inl (cI, 501, .inl df)), (xa, .inl (cI, 501, .inl xf)), (ca, .inl (cI, 501, .inl cf))] := hD
      rw [at_at (n := 501) (i := ((nI (z9 + 1)) - 1)) (j := z9) (nI_pred z9) (by omega) (by decide)] at hw_21
      obtain rfl : r_20 = nI c9 - 500 := by rw [hw_21, hwd.1 z9 (by omega)]; exact hce
      refine lv_istore (lv' := [(9, .int (nI c9 - 500)), (0, .ref ro), (1, .int (nI (e0 + 1))), (2, .int sg), (3, .int (nI m9)), (4, .int ls_33), (5, .int nr_49), (6, .int (nI (z9 + 1))), (7, .int (nI (q9 + 1) - 1)), (8, .int (nI b9))]) hx hb dX6_leastLike_67 hl (by decide) rfl (fun ls hl => ?_)
      refine lv_aload_n hx hb dX6_leastLike_69 rfl (lv_at hl 1 rfl) ?_
      refine va_get (D := (dC, dI)) (ci := 11) (v := .ref rh) (C := RX6) (T := TX6) (N := 9) hx hb hts iWX6 hown hK hP 0 rfl rfl 3 (by decide) (hts (.fieldLink RX6 25 "Beaverhall$Returns" "then" "LBeaverhall$Run;") (by decide +kernel)) (fun _ h9 => h9) rfl dX6_leastLike_70 ?_
      refine lv_iload hx hb dX6_leastLike_73 (lv_at hl 0 rfl) ?_
      refine lv_aload_n hx hb dX6_leastLike_75 rfl (lv_at hl 1 rfl) ?_
      refine va_get (D := (dC, dI)) (ci := 11) (v := .ref da) (C := RX6) (T := TX6) (N := 9) hx hb hts iWX6 hown hK hP 0 rfl rfl 7 (by decide) (hts (.fieldLink RX6 38 "Beaverhall$Returns" "reads" "[I") (by decide +kernel)) (fun _ h9 => h9) rfl dX6_leastLike_76 ?_
      refine lv_iload hx hb dX6_leastLike_79 (lv_at hl 7 rfl) ?_
      refine lv_iconst (v := 1) hx hb dX6_leastLike_81 (by decide) ?_
      refine lv_isub hx hb dX6_leastLike_82 ?_
      have hPc := hP.sub (ws' := [(da, .inl (cI, 501, .inl df))]) [6] rfl
      have hDc := hD.sub (ws' := [(da, .inl (cI, 501, .inl df))]) [6] (by decide) rfl
      have hKc := hK.sub (tys' := [(cI, .int)]) [0] rfl
      have hFc := va_free (wc := [(da, .inl (cI, 501, .inl df))]) hD hS hA [6] rfl
      refine va_calli (va_runSN (As := [.ref da, .int ((nI (z9 + 1)) - 1)]) (rest := [.int (nI c9 - 500), .ref rh]) ⟨hx, hb, hml, hown, hts⟩ (c_X11_at l dC dI cI da 501 df ((nI (z9 + 1)) - 1) (by decide) H.size) ⟨va_cnB 2 hts gX6_leastLike_X11_at_n89 rfl rfl rfl (hN (.methodLinkNest RX6 89 yX11_at "Beaverhall") (by decide +kernel)) (hts (.initialized RX11) (by decide +kernel)) (by decide +kernel) ⟨Nat.le_of_ble_eq_true rfl, Nat.le_of_ble_eq_true rfl⟩, hts (.static yX11_at) (by decide +kernel), trivial⟩ (pcS hPc hDc hKc hN) rfl rfl hl.1 rfl (lv_room (Nat.le_of_ble_eq_true rfl)) dX6_leastLike_83 ⟨Nat.le_of_ble_eq_true rfl, Nat.le_of_ble_eq_true rfl⟩) hS (fun q _ h => hFc q h) hFc (fun r_22 u t H1 locs ht hvm hw_23 hB hz1 hk1 hS => ?_)
      obtain ⟨hP1, hK1, hD1⟩ := hB
      rw [ht] at hP1
      try dsimp only at hw_23
      obtain ⟨hP, hD⟩ := va_join (wr := [(ro, .inr (11, [.int f6, .int s6, .ref rn, .ref rh, .int l6, .ref ca, .ref sa, .ref da, .ref xa])), (rn, .inr (12, [.int st, .int ce, .int sp, .int lm, .int rm, .int fa, .ref tn])), (tn, .inl (cI, 1001, .inl nf)), (rh, .inr (12, [.int st2, .int ce2, .int sp2, .int lm2, .int rm2, .int fa2, .ref th])), (th, .inl (cI, 1001, .inl g_49)), (sa, .inl (cI, 501, .inl gf)), (xa, .inl (cI, 501, .inl xf)), (ca, .inl (cI, 501, .inl cf))]) (w1 := [(da, .inl (cI, 501, .inl df))]) hP hD [6] [0, 1, 2, 3, 4, 5, 7, 8] rfl rfl (by decide) (by decide) hk1 hFc hP1 hD1
      generalize H1 = H at hP hS ⊢
      have hP : va_P (dC, dI) vwCl [(ro, .inr (11, [.int f6, .int s6, .ref rn, .ref rh, .int l6, .ref ca, .ref sa, .ref da, .ref xa])), (rn, .inr (12, [.int st, .int ce, .int sp, .int lm, .int rm, .int fa, .ref tn])), (tn, .inl (cI, 1001, .inl nf)), (rh, .inr (12, [.int st2, .int ce2, .int sp2, .int lm2, .int rm2, .int fa2, .ref th])), (th, .inl (cI, 1001, .inl g_49)), (sa, .inl (cI, 501, .inl gf)), (xa, .inl (cI, 501, .inl xf)), (ca, .inl (cI, 501, .inl cf)), (da, .inl (cI, 501, .inl df))] H := hP
      have hD : va_D A [(ro, .inr (11, [.int f6, .int s6, .ref rn, .ref rh, .int l6, .ref ca, .ref sa, .ref da, .ref xa])), (rn, .inr (12, [.int st, .int ce, .int sp, .int lm, .int rm, .int fa, .ref tn])), (tn, .inl (cI, 1001, .inl nf)), (rh, .inr (12, [.int st2, .int ce2, .int sp2, .int lm2, .int rm2, .int fa2, .ref th])), (th, .inl (cI, 1001, .inl g_49)), (sa, .inl (cI, 501, .inl gf)), (xa, .inl (cI, 501, .inl xf)), (ca, .inl (cI, 501, .inl cf)), (da, .inl (cI, 501, .inl df))] := hD
      rw [at_at (n := 501) (i := ((nI (z9 + 1)) - 1)) (j := z9) (nI_pred z9) (by omega) (by decide)] at hw_23
      have hPc := hP.sub (ws' := [(rh, .inr (12, [.int st2, .int ce2, .int sp2, .int lm2, .int rm2, .int fa2, .ref th])), (th, .inl (cI, 1001, .inl g_49))]) [3, 4] rfl
      have hDc := hD.sub (ws' := [(rh, .inr (12, [.int st2, .int ce2, .int sp2, .int lm2, .int rm2, .int fa2, .ref th])), (th, .inl (cI, 1001, .inl g_49))]) [3, 4] (by decide) rfl
      have hKc := hK.sub (tys' := [(cI, .int)]) [0] rfl
      have hFc := va_free (wc := [(rh, .inr (12, [.int st2, .int ce2, .int sp2, .int lm2, .int rm2, .int fa2, .ref th])), (th, .inl (cI, 1001, .inl g_49))]) hD hS hA [3, 4] rfl
      refine va_callv (va_runV (As := [.int (nI c9 - 500), .int r_22]) (rest := []) ⟨hx, hb, hml, hown, hts⟩ (c_X7_write l dC dI cI rh th st2 ce2 sp2 lm2 rm2 fa2 g_49 (nI c9 - 500) r_22 H.size) (cwV 2 hts gX6_leastLike_X7_write rfl rfl rfl (by decide +kernel) ⟨Nat.le_of_ble_eq_true rfl, Nat.le_of_ble_eq_true rfl⟩) (pcV hPc hDc hKc hN (ci := 12) (q0 := 0) rfl rfl) rfl rfl hl.1 rfl (lv_room (Nat.le_of_ble_eq_true rfl)) dX6_leastLike_86 ⟨Nat.le_of_ble_eq_true rfl, Nat.le_of_ble_eq_true rfl⟩) hS (fun q _ h => hFc q h) hFc (fun u t H1 locs ht hvm hw_25 hB hz1 hk1 hS => ?_)
      obtain ⟨hP1, hK1, hD1⟩ := hB
      rw [ht] at hP1
      try dsimp only at hw_25
      obtain ⟨hP, hD⟩ := va_join (wr := [(ro, .inr (11, [.int f6, .int s6, .ref rn, .ref rh, .int l6, .ref ca, .ref sa, .ref da, .ref xa])), (rn, .inr (12, [.int st, .int ce, .int sp, .int lm, .int rm, .int fa, .ref tn])), (tn, .inl (cI, 1001, .inl nf)), (sa, .inl (cI, 501, .inl gf)), (xa, .inl (cI, 501, .inl xf)), (ca, .inl (cI, 501, .inl cf)), (da, .inl (cI, 501, .inl df))]) (w1 := [(rh, .inr (12, [.int st2, .int ce2, .int sp2, .int lm2, .int rm2, .int fa2, .ref th])), (th, .inl (cI, 1001, .inl u))]) hP hD [3, 4] [0, 1, 2, 5, 6, 7, 8] rfl rfl (by decide) (by decide) hk1 hFc hP1 hD1
      generalize H1 = H at hP hS ⊢
      have hP : va_P (dC, dI) vwCl [(ro, .inr (11, [.int f6, .int s6, .ref rn, .ref rh, .int l6, .ref ca, .ref sa, .ref da, .ref xa])), (rn, .inr (12, [.int st, .int ce, .int sp, .int lm, .int rm, .int fa, .ref tn])), (tn, .inl (cI, 1001, .inl nf)), (sa, .inl (cI, 501, .inl gf)), (xa, .inl (cI, 501, .inl xf)), (ca, .inl (cI, 501, .inl cf)), (da, .inl (cI, 501, .inl df)), (rh, .inr (12, [.int st2, .int ce2, .int sp2, .int lm2, .int rm2, .int fa2, .ref th])), (th, .inl (cI, 1001, .inl u))] H := hP
      have hD : va_D A [(ro, .inr (11, [.int f6, .int s6, .ref rn, .ref rh, .int l6, .ref ca, .ref sa, .ref da, .ref xa])), (rn, .inr (12, [.int st, .int ce, .int sp, .int lm, .int rm, .int fa, .ref tn])), (tn, .inl (cI, 1001, .inl nf)), (sa, .inl (cI, 501, .inl gf)), (xa, .inl (cI, 501, .inl xf)), (ca, .inl (cI, 501, .inl cf)), (da, .inl (cI, 501, .inl df)), (rh, .inr (12, [.int st2, .int ce2, .int sp2, .int lm2, .int rm2, .int fa2, .ref th])), (th, .inl (cI, 1001, .inl u))] := hD
      obtain ⟨f_24, ef_24⟩ : ∃ z, z = u := ⟨_, rfl⟩
      subst ef_24
      rw [writeJ_at hc1, hw_23, hwd.2.2 z9 (by omega), ← hc9] at hw_25
      have hT2 : ∀ q, q < 1001 → f_24 q = tapeN (nI 2) (cW T) (cM T) (cN T) z9 q := by rw [hw_25, hc9]; exact tape_back hbz hI.2.2.2
      refine lv_iload hx hb dX6_leastLike_89 (lv_at hl 6 rfl) ?_
      refine lv_iload hx hb dX6_leastLike_91 (lv_at hl 0 rfl) ?_
      refine lv_iload_n hx hb dX6_leastLike_93 rfl (lv_at hl 3 rfl) ?_
      refine lv_imul hx hb dX6_leastLike_94 ?_
      refine va_mmin hx hb (hml.trans hl.1.symm) hown (hts (.methodLink RX6 105 Lib.Math.min.name) (by decide +kernel)) (hts (.static Lib.Math.min.name) (by decide +kernel)) (hts (.initialized "java/lang/Math") (by decide +kernel)) (hts (.code Lib.Math.min.name Lib.Math.min.code 2 (some .int)) (by decide +kernel)) (Nat.le_of_ble_eq_true rfl) (Nat.le_of_ble_eq_true rfl) (Nat.le_of_ble_eq_true rfl) (Nat.le_of_ble_eq_true rfl) dX6_leastLike_95 ?_
      refine lv_topi (fun x_26 ex_26 => ?_)
      have ex_26 : x_26 = iminJ nr_49 ((nI c9 - 500) * sg) := ex_26
      have hnr2 : x_26 = nI (leastN (nI 2) (cW T) Q (cN T) z9 (e0 + 1 - z9)) - 500 := least_go (sd_okM hm.1 hm.2.1 (by have := hm.2.2.1; omega) hsd) (by omega) hI.2.2.1 (by rw [← hce]; exact sd_ce hm.1 hm.2.1 (by have := hm.2.2.1; omega) hsd z9) ex_26
      refine lv_istore (lv' := [(5, .int x_26), (9, .int (nI c9 - 500)), (0, .ref ro), (1, .int (nI (e0 + 1))), (2, .int sg), (3, .int (nI m9)), (4, .int ls_33), (6, .int (nI (z9 + 1))), (7, .int (nI (q9 + 1) - 1)), (8, .int (nI b9))]) hx hb dX6_leastLike_98 hl (by decide) rfl (fun ls hl => ?_)
      obtain ⟨y_27, ey_27⟩ : ∃ y : Int32, y = (nI (z9 + 1)) + (-1) := ⟨_, rfl⟩
      refine lv_iinc (v := y_27) (lv' := [(6, .int y_27), (5, .int x_26), (9, .int (nI c9 - 500)), (0, .ref ro), (1, .int (nI (e0 + 1))), (2, .int sg), (3, .int (nI m9)), (4, .int ls_33), (7, .int (nI (q9 + 1) - 1)), (8, .int (nI b9))]) hx hb dX6_leastLike_100 hl (k := 7) rfl (by rw [ey_27]; rfl) (by decide) rfl (fun ls hl => ?_)
      obtain rfl : y_27 = nI z9 := by rw [ey_27]; exact pk_m1 _
      refine lv_goto (tgt := 49) hx hb dX6_leastLike_103 (by decide) ?_
      exact ih49 (z9, x_26, f_24) ⟨by omega, by omega, hnr2, hT2⟩ (Nat.lt_succ_self z9) _ _ (hP.sub [0, 1, 2, 7, 8, 5, 3, 6, 4] rfl) (hD.sub [0, 1, 2, 7, 8, 5, 3, 6, 4] (by decide) rfl) hS ls (lv_sub hl [3, 4, 5, 6, 7, 1, 0, 8, 9] rfl)

set_option maxHeartbeats 4000000 in
set_option maxRecDepth 100000 in
/-- X6_comesFarther -/
theorem c_X6_comesFarther (l : Launch) (dC : Nat → ClassId) (dI : Nat → Nat → Nat) (cI : ClassId) (ro rn rh ca sa da xa tn th : Nat) (f6 s6 : Int32) (st ce sp lm rm fa : Int32) (nf : Nat → Int32) (st2 ce2 sp2 lm2 rm2 fa2 : Int32) (hf : Nat → Int32) (cf gf df xf : Nat → Int32) (mm oo la hh : Nat) (wr tl le fi se : Int32) (S : Nat) (T o : Nat → Int32) (hm : mJ S o T) (sg : Int32) (Q : Nat → Int32) (hsd : sdP T sg Q) (n : Nat) (hn : n ≤ 500) (hal : alvR (nI 2) (cW T) (cM T) (cN T) n) (hwd : wdP T n cf gf df) (sz : Nat) : Met l yX6_comesFarther wsX6_comesFarther ({ frames := 3, cells := 0, slots := 0, locals := 110 }) (va_Pc [.ref ro, .ref mm, .int sg] (cPC dC dI [(ro, .inr (11, [.int f6, .int s6, .ref rn, .ref rh, .int (nI n), .ref ca, .ref sa, .ref da, .ref xa])), (rn, .inr (12, [.int st, .int ce, .int sp, .int lm, .int rm, .int fa, .ref tn])), (tn, .inl (cI, 1001, .inl nf)), (rh, .inr (12, [.int st2, .int ce2, .int sp2, .int lm2, .int rm2, .int fa2, .ref th])), (th, .inl (cI, 1001, .inl hf)), (ca, .inl (cI, 501, .inl cf)), (sa, .inl (cI, 501, .inl gf)), (da, .inl (cI, 501, .inl df)), (xa, .inl (cI, 501, .inl xf)), (mm, .inr (10, [.int 0, .int 2, .int 2, .ref la, .int wr, .int tl, .int le, .int fi, .int se, .ref oo, .ref hh])), (oo, .inl (cI, 24, .inl o))] [(cI, .int)] sz)) (va_Qi (fun (r : Int32) (u : Int32 × Int32 × RunS × (Nat → Int32) × (Nat → Int32)) => (r = 1 ∧ ¬ noF (nI 2) (cW T) Q (cN T) n) ∨ (r = 0 ∧ noF (nI 2) (cW T) Q (cN T) n)) (fun (u : Int32 × Int32 × RunS × (Nat → Int32) × (Nat → Int32)) t => cQB dC dI [(ro, .inr (11, [.int u.1, .int u.2.1, .ref rn, .ref rh, .int (nI n), .ref ca, .ref sa, .ref da, .ref xa])), (rn, .inr (12, [.int u.2.2.1.1, .int u.2.2.1.2.1, .int u.2.2.1.2.2.1, .int u.2.2.1.2.2.2.1, .int u.2.2.1.2.2.2.2.1, .int u.2.2.1.2.2.2.2.2.1, .ref tn])), (tn, .inl (cI, 1001, .inl u.2.2.1.2.2.2.2.2.2)), (rh, .inr (12, [.int st2, .int ce2, .int sp2, .int lm2, .int rm2, .int fa2, .ref th])), (th, .inl (cI, 1001, .inl u.2.2.2.1)), (ca, .inl (cI, 501, .inl cf)), (sa, .inl (cI, 501, .inl gf)), (da, .inl (cI, 501, .inl df)), (xa, .inl (cI, 501, .inl u.2.2.2.2)), (mm, .inr (10, [.int 0, .int 2, .int 2, .ref la, .int wr, .int tl, .int le, .int fi, .int se, .ref oo, .ref hh])), (oo, .inl (cI, 24, .inl o))] [(cI, .int)] (va_A [(ro, .inr (11, [.int f6, .int s6, .ref rn, .ref rh, .int (nI n), .ref ca, .ref sa, .ref da, .ref xa])), (rn, .inr (12, [.int st, .int ce, .int sp, .int lm, .int rm, .int fa, .ref tn])), (tn, .inl (cI, 1001, .inl nf)), (rh, .inr (12, [.int st2, .int ce2, .int sp2, .int lm2, .int rm2, .int fa2, .ref th])), (th, .inl (cI, 1001, .inl hf)), (ca, .inl (cI, 501, .inl cf)), (sa, .inl (cI, 501, .inl gf)), (da, .inl (cI, 501, .inl df)), (xa, .inl (cI, 501, .inl xf)), (mm, .inr (10, [.int 0, .int 2, .int 2, .ref la, .int wr, .int tl, .int le, .int fi, .int se, .ref oo, .ref hh])), (oo, .inl (cI, 24, .inl o))] sz) t) (va_A [(ro, .inr (11, [.int f6, .int s6, .ref rn, .ref rh, .int (nI n), .ref ca, .ref sa, .ref da, .ref xa])), (rn, .inr (12, [.int st, .int ce, .int sp, .int lm, .int rm, .int fa, .ref tn])), (tn, .inl (cI, 1001, .inl nf)), (rh, .inr (12, [.int st2, .int ce2, .int sp2, .int lm2, .int rm2, .int fa2, .ref th])), (th, .inl (cI, 1001, .inl hf)), (ca, .inl (cI, 501, .inl cf)), (sa, .inl (cI, 501, .inl gf)), (da, .inl (cI, 501, .inl df)), (xa, .inl (cI, 501, .inl xf)), (mm, .inr (10, [.int 0, .int 2, .int 2, .ref la, .int wr, .int tl, .int le, .int fi, .int se, .ref oo, .ref hh])), (oo, .inl (cI, 24, .inl o))] sz)) 0 0 (va_A [(ro, .inr (11, [.int f6, .int s6, .ref rn, .ref rh, .int (nI n), .ref ca, .ref sa, .ref da, .ref xa])), (rn, .inr (12, [.int st, .int ce, .int sp, .int lm, .int rm, .int fa, .ref tn])), (tn, .inl (cI, 1001, .inl nf)), (rh, .inr (12, [.int st2, .int ce2, .int sp2, .int lm2, .int rm2, .int fa2, .ref th])), (th, .inl (cI, 1001, .inl hf)), (ca, .inl (cI, 501, .inl cf)), (sa, .inl (cI, 501, .inl gf)), (da, .inl (cI, 501, .inl df)), (xa, .inl (cI, 501, .inl xf)), (mm, .inr (10, [.int 0, .int 2, .int 2, .ref la, .int wr, .int tl, .int le, .int fi, .int se, .ref oo, .ref hh])), (oo, .inl (cI, 24, .inl o))] sz) := by
  refine Met.ofW (cc := cX6_comesFarther) (maxL := 7) (ret := (some .boolean)) (by decide) rfl ?_
  intro p e s m args below meth c s₁ B hml hv
  obtain ⟨rfl, hsz, hP, hK, hD0, hN⟩ := hv
  have hx := B.exec
  have hb := B.bytes
  have hr := B.returns
  have hts := atoms_spec (ws := wsX6_comesFarther) B.pre
  have hown : s.vm.findClass RX6 = some m.cls := findClass_of_methodNamed B.named
  have hlocks := B.notSynchronized
  subst hsz
  have hD := hD0.self (sz := s.heap.size)
  generalize hAe : va_A [(ro, .inr (11, [.int f6, .int s6, .ref rn, .ref rh, .int (nI n), .ref ca, .ref sa, .ref da, .ref xa])), (rn, .inr (12, [.int st, .int ce, .int sp, .int lm, .int rm, .int fa, .ref tn])), (tn, .inl (cI, 1001, .inl nf)), (rh, .inr (12, [.int st2, .int ce2, .int sp2, .int lm2, .int rm2, .int fa2, .ref th])), (th, .inl (cI, 1001, .inl hf)), (ca, .inl (cI, 501, .inl cf)), (sa, .inl (cI, 501, .inl gf)), (da, .inl (cI, 501, .inl df)), (xa, .inl (cI, 501, .inl xf)), (mm, .inr (10, [.int 0, .int 2, .int 2, .ref la, .int wr, .int tl, .int le, .int fi, .int se, .ref oo, .ref hh])), (oo, .inl (cI, 24, .inl o))] s.heap.size = A at hD ⊢
  have hA : ∀ q : Nat, s.heap.size ≤ q → A q := fun q h => by rw [← hAe]; exact Or.inr h
  have hS : va_S A s.heap s.heap [] := va_S.rf
  have hP : va_P (dC, dI) vwCl [(ro, .inr (11, [.int f6, .int s6, .ref rn, .ref rh, .int (nI n), .ref ca, .ref sa, .ref da, .ref xa])), (rn, .inr (12, [.int st, .int ce, .int sp, .int lm, .int rm, .int fa, .ref tn])), (tn, .inl (cI, 1001, .inl nf)), (rh, .inr (12, [.int st2, .int ce2, .int sp2, .int lm2, .int rm2, .int fa2, .ref th])), (th, .inl (cI, 1001, .inl hf)), (ca, .inl (cI, 501, .inl cf)), (sa, .inl (cI, 501, .inl gf)), (da, .inl (cI, 501, .inl df)), (xa, .inl (cI, 501, .inl xf)), (mm, .inr (10, [.int 0, .int 2, .int 2, .ref la, .int wr, .int tl, .int le, .int fi, .int se, .ref oo, .ref hh])), (oo, .inl (cI, 24, .inl o))] s.heap := hP
  have hD : va_D A [(ro, .inr (11, [.int f6, .int s6, .ref rn, .ref rh, .int (nI n), .ref ca, .ref sa, .ref da, .ref xa])), (rn, .inr (12, [.int st, .int ce, .int sp, .int lm, .int rm, .int fa, .ref tn])), (tn, .inl (cI, 1001, .inl nf)), (rh, .inr (12, [.int st2, .int ce2, .int sp2, .int lm2, .int rm2, .int fa2, .ref th])), (th, .inl (cI, 1001, .inl hf)), (ca, .inl (cI, 501, .inl cf)), (sa, .inl (cI, 501, .inl gf)), (da, .inl (cI, 501, .inl df)), (xa, .inl (cI, 501, .inl xf)), (mm, .inr (10, [.int 0, .int 2, .int 2, .ref la, .int wr, .int tl, .int le, .int fi, .int se, .ref oo, .ref hh])), (oo, .inl (cI, 24, .inl o))] := hD
  have hl := lv_entry ([.ref ro, .ref mm, .int sg]) (n := 7) (Nat.le_of_ble_eq_true rfl)
  rw [lg_entry_eq]
  generalize (lg_sl ([.ref ro, .ref mm, .int sg]) ++ List.replicate (7 - (lg_sl ([.ref ro, .ref mm, .int sg])).length) Slot.unset).toArray = ls at hl ⊢
  have hl : lv_has ls 7 [(0, .ref ro), (1, .ref mm), (2, .int sg)] := hl
  have iWX6 : ∀ w ∈ u_ws RX6 TX6 9, w ∈ wsX6_comesFarther := by decide +kernel
  have iWX7 : ∀ w ∈ u_ws RX7 TX7 7, w ∈ wsX6_comesFarther := by decide +kernel
  refine lv_aload_n hx hb dX6_comesFarther_0 rfl (lv_at hl 0 rfl) ?_
  refine va_get (D := (dC, dI)) (ci := 11) (v := .ref rn) (C := RX6) (T := TX6) (N := 9) hx hb hts iWX6 hown hK hP 0 rfl rfl 2 (by decide) (hts (.fieldLink RX6 21 "Beaverhall$Returns" "now" "LBeaverhall$Run;") (by decide +kernel)) (fun _ h9 => h9) rfl dX6_comesFarther_1 ?_
  have hPc := hP.sub (ws' := [(rn, .inr (12, [.int st, .int ce, .int sp, .int lm, .int rm, .int fa, .ref tn])), (tn, .inl (cI, 1001, .inl nf))]) [1, 2] rfl
  have hDc := hD.sub (ws' := [(rn, .inr (12, [.int st, .int ce, .int sp, .int lm, .int rm, .int fa, .ref tn])), (tn, .inl (cI, 1001, .inl nf))]) [1, 2] (by decide) rfl
  have hKc := hK.sub (tys' := [(cI, .int)]) [0] rfl
  have hFc := va_free (wc := [(rn, .inr (12, [.int st, .int ce, .int sp, .int lm, .int rm, .int fa, .ref tn])), (tn, .inl (cI, 1001, .inl nf))]) hD hS hA [1, 2] rfl
  refine va_callv (va_runV (As := []) (rest := []) ⟨hx, hb, hml, hown, hts⟩ (c_X7_begin l dC dI cI rn tn st ce sp lm rm fa nf  s.heap.size) (cwV 0 hts gX6_comesFarther_X7_begin rfl rfl rfl (by decide +kernel) ⟨Nat.le_of_ble_eq_true rfl, Nat.le_of_ble_eq_true rfl⟩) (pcV hPc hDc hKc hN (ci := 12) (q0 := 0) rfl rfl) rfl rfl hl.1 rfl (lv_room (Nat.le_of_ble_eq_true rfl)) dX6_comesFarther_4 ⟨Nat.le_of_ble_eq_true rfl, Nat.le_of_ble_eq_true rfl⟩) hS (fun q _ h => hFc q h) hFc (fun u t H1 locs ht hvm hw_8 hB hz1 hk1 hS => ?_)
  obtain ⟨st_1, ce_2, sp_3, lm_4, rm_5, fa_6, f_7⟩ := u
  obtain ⟨hP1, hK1, hD1⟩ := hB
  rw [ht] at hP1
  try dsimp only at hw_8
  obtain ⟨hP, hD⟩ := va_join (wr := [(ro, .inr (11, [.int f6, .int s6, .ref rn, .ref rh, .int (nI n), .ref ca, .ref sa, .ref da, .ref xa])), (rh, .inr (12, [.int st2, .int ce2, .int sp2, .int lm2, .int rm2, .int fa2, .ref th])), (th, .inl (cI, 1001, .inl hf)), (ca, .inl (cI, 501, .inl cf)), (sa, .inl (cI, 501, .inl gf)), (da, .inl (cI, 501, .inl df)), (xa, .inl (cI, 501, .inl xf)), (mm, .inr (10, [.int 0, .int 2, .int 2, .ref la, .int wr, .int tl, .int le, .int fi, .int se, .ref oo, .ref hh])), (oo, .inl (cI, 24, .inl o))]) (w1 := [(rn, .inr (12, [.int st_1, .int ce_2, .int sp_3, .int lm_4, .int rm_5, .int fa_6, .ref tn])), (tn, .inl (cI, 1001, .inl f_7))]) hP hD [1, 2] [0, 3, 4, 5, 6, 7, 8, 9, 10] rfl rfl (by decide) (by decide) hk1 hFc hP1 hD1
  generalize H1 = H at hP hS ⊢
  have hP : va_P (dC, dI) vwCl [(ro, .inr (11, [.int f6, .int s6, .ref rn, .ref rh, .int (nI n), .ref ca, .ref sa, .ref da, .ref xa])), (rh, .inr (12, [.int st2, .int ce2, .int sp2, .int lm2, .int rm2, .int fa2, .ref th])), (th, .inl (cI, 1001, .inl hf)), (ca, .inl (cI, 501, .inl cf)), (sa, .inl (cI, 501, .inl gf)), (da, .inl (cI, 501, .inl df)), (xa, .inl (cI, 501, .inl xf)), (mm, .inr (10, [.int 0, .int 2, .int 2, .ref la, .int wr, .int tl, .int le, .int fi, .int se, .ref oo, .ref hh])), (oo, .inl (cI, 24, .inl o)), (rn, .inr (12, [.int st_1, .int ce_2, .int sp_3, .int lm_4, .int rm_5, .int fa_6, .ref tn])), (tn, .inl (cI, 1001, .inl f_7))] H := hP
  have hD : va_D A [(ro, .inr (11, [.int f6, .int s6, .ref rn, .ref rh, .int (nI n), .ref ca, .ref sa, .ref da, .ref xa])), (rh, .inr (12, [.int st2, .int ce2, .int sp2, .int lm2, .int rm2, .int fa2, .ref th])), (th, .inl (cI, 1001, .inl hf)), (ca, .inl (cI, 501, .inl cf)), (sa, .inl (cI, 501, .inl gf)), (da, .inl (cI, 501, .inl df)), (xa, .inl (cI, 501, .inl xf)), (mm, .inr (10, [.int 0, .int 2, .int 2, .ref la, .int wr, .int tl, .int le, .int fi, .int se, .ref oo, .ref hh])), (oo, .inl (cI, 24, .inl o)), (rn, .inr (12, [.int st_1, .int ce_2, .int sp_3, .int lm_4, .int rm_5, .int fa_6, .ref tn])), (tn, .inl (cI, 1001, .inl f_7))] := hD
  refine lv_aload_n hx hb dX6_comesFarther_7 rfl (lv_at hl 0 rfl) ?_
  refine va_get (D := (dC, dI)) (ci := 11) (v := .ref xa) (C := RX6) (T := TX6) (N := 9) hx hb hts iWX6 hown hK hP 0 rfl rfl 8 (by decide) (hts (.fieldLink RX6 41 "Beaverhall$Returns" "firsts" "[I") (by decide +kernel)) (fun _ h9 => h9) rfl dX6_comesFarther_8 ?_
  refine lv_iconst (v := 0) hx hb dX6_comesFarther_11 (by decide) ?_
  refine lv_iconst (v := 0) hx hb dX6_comesFarther_12 (by decide) ?_
  have hPc := hP.sub (ws' := [(xa, .inl (cI, 501, .inl xf))]) [6] rfl
  have hDc := hD.sub (ws' := [(xa, .inl (cI, 501, .inl xf))]) [6] (by decide) rfl
  have hKc := hK.sub (tys' := [(cI, .int)]) [0] rfl
  have hFc := va_free (wc := [(xa, .inl (cI, 501, .inl xf))]) hD hS hA [6] rfl
  refine va_callv (va_runSN (As := [.ref xa, .int 0, .int 0]) (rest := []) ⟨hx, hb, hml, hown, hts⟩ (c_X11_put l dC dI cI xa 501 xf 0 0 (by decide) H.size) ⟨va_cnB 3 hts gX6_comesFarther_X11_put_n63 rfl rfl rfl (hN (.methodLinkNest RX6 63 yX11_put "Beaverhall") (by decide +kernel)) (hts (.initialized RX11) (by decide +kernel)) (by decide +kernel) ⟨Nat.le_of_ble_eq_true rfl, Nat.le_of_ble_eq_true rfl⟩, hts (.static yX11_put) (by decide +kernel), trivial⟩ (pcS hPc hDc hKc hN) rfl rfl hl.1 rfl (lv_room (Nat.le_of_ble_eq_true rfl)) dX6_comesFarther_13 ⟨Nat.le_of_ble_eq_true rfl, Nat.le_of_ble_eq_true rfl⟩) hS (fun q _ h => hFc q h) hFc (fun u t H1 locs ht hvm hw_9 hB hz1 hk1 hS => ?_)
  obtain ⟨hP1, hK1, hD1⟩ := hB
  rw [ht] at hP1
  try dsimp only at hw_9
  obtain ⟨hP, hD⟩ := va_join (wr := [(ro, .inr (11, [.int f6, .int s6, .ref rn, .ref rh, .int (nI n), .ref ca, .ref sa, .ref da, .ref xa])), (rh, .inr (12, [.int st2, .int ce2, .int sp2, .int lm2, .int rm2, .int fa2, .ref th])), (th, .inl (cI, 1001, .inl hf)), (ca, .inl (cI, 501, .inl cf)), (sa, .inl (cI, 501, .inl gf)), (da, .inl (cI, 501, .inl df)), (mm, .inr (10, [.int 0, .int 2, .int 2, .ref la, .int wr, .int tl, .int le, .int fi, .int se, .ref oo, .ref hh])), (oo, .inl (cI, 24, .inl o)), (rn, .inr (12, [.int st_1, .int ce_2, .int sp_3, .int lm_4, .int rm_5, .int fa_6, .ref tn])), (tn, .inl (cI, 1001, .inl f_7))]) (w1 := [(xa, .inl (cI, 501, .inl u))]) hP hD [6] [0, 1, 2, 3, 4, 5, 7, 8, 9, 10] rfl rfl (by decide) (by decide) hk1 hFc hP1 hD1
  generalize H1 = H at hP hS ⊢
  have hP : va_P (dC, dI) vwCl [(ro, .inr (11, [.int f6, .int s6, .ref rn, .ref rh, .int (nI n), .ref ca, .ref sa, .ref da, .ref xa])), (rh, .inr (12, [.int st2, .int ce2, .int sp2, .int lm2, .int rm2, .int fa2, .ref th])), (th, .inl (cI, 1001, .inl hf)), (ca, .inl (cI, 501, .inl cf)), (sa, .inl (cI, 501, .inl gf)), (da, .inl (cI, 501, .inl df)), (mm, .inr (10, [.int 0, .int 2, .int 2, .ref la, .int wr, .int tl, .int le, .int fi, .int se, .ref oo, .ref hh])), (oo, .inl (cI, 24, .inl o)), (rn, .inr (12, [.int st_1, .int ce_2, .int sp_3, .int lm_4, .int rm_5, .int fa_6, .ref tn])), (tn, .inl (cI, 1001, .inl f_7)), (xa, .inl (cI, 501, .inl u))] H := hP
  have hD : va_D A [(ro, .inr (11, [.int f6, .int s6, .ref rn, .ref rh, .int (nI n), .ref ca, .ref sa, .ref da, .ref xa])), (rh, .inr (12, [.int st2, .int ce2, .int sp2, .int lm2, .int rm2, .int fa2, .ref th])), (th, .inl (cI, 1001, .inl hf)), (ca, .inl (cI, 501, .inl cf)), (sa, .inl (cI, 501, .inl gf)), (da, .inl (cI, 501, .inl df)), (mm, .inr (10, [.int 0, .int 2, .int 2, .ref la, .int wr, .int tl, .int le, .int fi, .int se, .ref oo, .ref hh])), (oo, .inl (cI, 24, .inl o)), (rn, .inr (12, [.int st_1, .int ce_2, .int sp_3, .int lm_4, .int rm_5, .int fa_6, .ref tn])), (tn, .inl (cI, 1001, .inl f_7)), (xa, .inl (cI, 501, .inl u))] := hD
  obtain ⟨f_10, ef_10⟩ : ∃ z, z = u := ⟨_, rfl⟩
  subst ef_10
  rw [put_at (n := 501) (i := 0) (j := 0) rfl (by decide) (by decide)] at hw_9
  refine lv_iconst (v := 1) hx hb dX6_comesFarther_16 (by decide) ?_
  refine lv_istore_n (lv' := [(3, .int 1), (0, .ref ro), (1, .ref mm), (2, .int sg)]) hx hb dX6_comesFarther_17 rfl hl (by decide) rfl (fun ls hl => ?_)
  refine lv_iconst (v := 0) hx hb dX6_comesFarther_18 (by decide) ?_
  refine lv_istore (lv' := [(4, .int 0), (3, .int 1), (0, .ref ro), (1, .ref mm), (2, .int sg)]) hx hb dX6_comesFarther_19 hl (by decide) rfl (fun ls hl => ?_)
  refine lv_iconst (v := 1) hx hb dX6_comesFarther_21 (by decide) ?_
  refine lv_istore (lv' := [(5, .int 1), (4, .int 0), (3, .int 1), (0, .ref ro), (1, .ref mm), (2, .int sg)]) hx hb dX6_comesFarther_22 hl (by decide) rfl (fun ls hl => ?_)
  refine lp_go (σ := Nat × Nat × Int32 × Int32 × Int32 × Int32 × Int32 × Int32 × Int32 × (Nat → Int32) × (Nat → Int32) × (Nat → Int32)) (fun x => match x with | (i_24, m_24, far_24, st_24, ce_24, sp_24, lm_24, rm_24, fa_24, nf_24, hf_24, xf_24) => i_24 ≤ n ∧ 1 ≤ m_24 ∧ m_24 ≤ i_24 + 1 ∧ relJ (st_24, ce_24, sp_24, lm_24, rm_24, fa_24, nf_24) (seqR (nI 2) (cW T) (cM T) (cN T) i_24) ∧ far_24 = (seqR (nI 2) (cW T) Q (cN T) i_24).2.2.2.1 ∧ frP (nI 2) (cW T) Q (cN T) i_24 m_24 xf_24 ∧ noF (nI 2) (cW T) Q (cN T) i_24) (fun x => match x with | (i_24, m_24, far_24, st_24, ce_24, sp_24, lm_24, rm_24, fa_24, nf_24, hf_24, xf_24) => n - i_24) (fun x => [(ro, .inr (11, [.int f6, .int s6, .ref rn, .ref rh, .int (nI n), .ref ca, .ref sa, .ref da, .ref xa])), (rn, .inr (12, [.int x.2.2.2.1, .int x.2.2.2.2.1, .int x.2.2.2.2.2.1, .int x.2.2.2.2.2.2.1, .int x.2.2.2.2.2.2.2.1, .int x.2.2.2.2.2.2.2.2.1, .ref tn])), (tn, .inl (cI, 1001, .inl x.2.2.2.2.2.2.2.2.2.1)), (rh, .inr (12, [.int st2, .int ce2, .int sp2, .int lm2, .int rm2, .int fa2, .ref th])), (th, .inl (cI, 1001, .inl x.2.2.2.2.2.2.2.2.2.2.1)), (ca, .inl (cI, 501, .inl cf)), (sa, .inl (cI, 501, .inl gf)), (da, .inl (cI, 501, .inl df)), (xa, .inl (cI, 501, .inl x.2.2.2.2.2.2.2.2.2.2.2)), (mm, .inr (10, [.int 0, .int 2, .int 2, .ref la, .int wr, .int tl, .int le, .int fi, .int se, .ref oo, .ref hh])), (oo, .inl (cI, 24, .inl o))]) (fun x => [(0, .ref ro), (1, .ref mm), (2, .int sg), (3, .int (nI x.2.1)), (4, .int x.2.2.1), (5, .int (nI (x.1 + 1)))]) (fun _ => []) (fun x hI ih24 H locs hP hD hS ls hl => ?_) (0, 1, 0, st_1, ce_2, sp_3, lm_4, rm_5, fa_6, f_7, hf, f_10) ⟨Nat.zero_le _, Nat.le_refl _, Nat.le_refl _, by rw [hw_8]; exact relJ_begin _, rfl, frP_zero (by rw [hw_9]; exact pk_us), noF_zero⟩ (hP.sub [0, 8, 9, 1, 2, 3, 4, 5, 10, 6, 7] rfl) (hD.sub [0, 8, 9, 1, 2, 3, 4, 5, 10, 6, 7] (by decide) rfl) hS (lv_sub hl [3, 4, 5, 2, 1, 0] rfl)
  obtain ⟨i_24, m_24, far_24, st_24, ce_24, sp_24, lm_24, rm_24, fa_24, nf_24, hf_24, xf_24⟩ := x
  have hP : va_P (dC, dI) vwCl [(ro, .inr (11, [.int f6, .int s6, .ref rn, .ref rh, .int (nI n), .ref ca, .ref sa, .ref da, .ref xa])), (rn, .inr (12, [.int st_24, .int ce_24, .int sp_24, .int lm_24, .int rm_24, .int fa_24, .ref tn])), (tn, .inl (cI, 1001, .inl nf_24)), (rh, .inr (12, [.int st2, .int ce2, .int sp2, .int lm2, .int rm2, .int fa2, .ref th])), (th, .inl (cI, 1001, .inl hf_24)), (ca, .inl (cI, 501, .inl cf)), (sa, .inl (cI, 501, .inl gf)), (da, .inl (cI, 501, .inl df)), (xa, .inl (cI, 501, .inl xf_24)), (mm, .inr (10, [.int 0, .int 2, .int 2, .ref la, .int wr, .int tl, .int le, .int fi, .int se, .ref oo, .ref hh])), (oo, .inl (cI, 24, .inl o))] H := hP
  have hD : va_D A [(ro, .inr (11, [.int f6, .int s6, .ref rn, .ref rh, .int (nI n), .ref ca, .ref sa, .ref da, .ref xa])), (rn, .inr (12, [.int st_24, .int ce_24, .int sp_24, .int lm_24, .int rm_24, .int fa_24, .ref tn])), (tn, .inl (cI, 1001, .inl nf_24)), (rh, .inr (12, [.int st2, .int ce2, .int sp2, .int lm2, .int rm2, .int fa2, .ref th])), (th, .inl (cI, 1001, .inl hf_24)), (ca, .inl (cI, 501, .inl cf)), (sa, .inl (cI, 501, .inl gf)), (da, .inl (cI, 501, .inl df)), (xa, .inl (cI, 501, .inl xf_24)), (mm, .inr (10, [.int 0, .int 2, .int 2, .ref la, .int wr, .int tl, .int le, .int fi, .int se, .ref oo, .ref hh])), (oo, .inl (cI, 24, .inl o))] := hD
  have hl : lv_has ls 7 [(0, .ref ro), (1, .ref mm), (2, .int sg), (3, .int (nI m_24)), (4, .int far_24), (5, .int (nI (i_24 + 1)))] := hl
  try dsimp only at hI
  have ih24 := ih24
  refine lv_iload hx hb dX6_comesFarther_24 (lv_at hl 5 rfl) ?_
  refine lv_aload_n hx hb dX6_comesFarther_26 rfl (lv_at hl 0 rfl) ?_
  refine va_get (D := (dC, dI)) (ci := 11) (v := .int (nI n)) (C := RX6) (T := TX6) (N := 9) hx hb hts iWX6 hown hK hP 0 rfl rfl 4 (by decide) (hts (.fieldLink RX6 28 "Beaverhall$Returns" "length" "I") (by decide +kernel)) (fun _ h9 => h9) rfl dX6_comesFarther_27 ?_
  refine lv_icmp_gt (tgt := 117) hx hb dX6_comesFarther_30 (by decide) (fun c30_11 => ?_) (fun c30_11 => ?_)
  · refine lv_iconst (v := 0) hx hb dX6_comesFarther_117 (by decide) ?_
    have hi9 : i_24 = n := by have h9 := (nI_ltI (a := n) (b := i_24 + 1) (by omega) (by have := hI.1; omega)).mp c30_11; have := hI.1; omega
    have hP9 := hP.sub (ws' := [(ro, .inr (11, [.int f6, .int s6, .ref rn, .ref rh, .int (nI n), .ref ca, .ref sa, .ref da, .ref xa])), (rn, .inr (12, [.int st_24, .int ce_24, .int sp_24, .int lm_24, .int rm_24, .int fa_24, .ref tn])), (tn, .inl (cI, 1001, .inl nf_24)), (rh, .inr (12, [.int st2, .int ce2, .int sp2, .int lm2, .int rm2, .int fa2, .ref th])), (th, .inl (cI, 1001, .inl hf_24)), (ca, .inl (cI, 501, .inl cf)), (sa, .inl (cI, 501, .inl gf)), (da, .inl (cI, 501, .inl df)), (xa, .inl (cI, 501, .inl xf_24)), (mm, .inr (10, [.int 0, .int 2, .int 2, .ref la, .int wr, .int tl, .int le, .int fi, .int se, .ref oo, .ref hh])), (oo, .inl (cI, 24, .inl o))]) [0, 1, 2, 3, 4, 5, 6, 7, 8, 9, 10] rfl
    have hD9 := hD.sub (ws' := [(ro, .inr (11, [.int f6, .int s6, .ref rn, .ref rh, .int (nI n), .ref ca, .ref sa, .ref da, .ref xa])), (rn, .inr (12, [.int st_24, .int ce_24, .int sp_24, .int lm_24, .int rm_24, .int fa_24, .ref tn])), (tn, .inl (cI, 1001, .inl nf_24)), (rh, .inr (12, [.int st2, .int ce2, .int sp2, .int lm2, .int rm2, .int fa2, .ref th])), (th, .inl (cI, 1001, .inl hf_24)), (ca, .inl (cI, 501, .inl cf)), (sa, .inl (cI, 501, .inl gf)), (da, .inl (cI, 501, .inl df)), (xa, .inl (cI, 501, .inl xf_24)), (mm, .inr (10, [.int 0, .int 2, .int 2, .ref la, .int wr, .int tl, .int le, .int fi, .int se, .ref oo, .ref hh])), (oo, .inl (cI, 24, .inl o))]) [0, 1, 2, 3, 4, 5, 6, 7, 8, 9, 10] (by decide) rfl
    have hK9 := hK.sub (tys' := [(cI, .int)]) [0] rfl
    exact W.zret (v := 0) hx hb hr (by rfl) (fun t ht hW => ⟨⟨0, (f6, s6, (st_24, ce_24, sp_24, lm_24, rm_24, fa_24, nf_24), hf_24, xf_24), rfl, (Or.inr ⟨rfl, by have h9 := hI.2.2.2.2.2.2; rw [hi9] at h9; exact h9⟩), ⟨by rw [ht]; exact hP9, va_K.moved hW.alike hK9, hD9⟩⟩, hS.F ht⟩) hS.2.2 dX6_comesFarther_118
  · have hin : i_24 + 1 ≤ n := by have h9 := mt (nI_ltI (a := n) (b := i_24 + 1) (by omega) (by have := hI.1; omega)).mpr c30_11; omega
    have hfar := hI.2.2.2.2.1
    have hmi := hI.2.2.1
    refine lv_aload_n hx hb dX6_comesFarther_33 rfl (lv_at hl 0 rfl) ?_
    refine va_get (D := (dC, dI)) (ci := 11) (v := .ref rn) (C := RX6) (T := TX6) (N := 9) hx hb hts iWX6 hown hK hP 0 rfl rfl 2 (by decide) (hts (.fieldLink RX6 21 "Beaverhall$Returns" "now" "LBeaverhall$Run;") (by decide +kernel)) (fun _ h9 => h9) rfl dX6_comesFarther_34 ?_
    refine lv_aload_n hx hb dX6_comesFarther_37 rfl (lv_at hl 1 rfl) ?_
    have hPc := hP.sub (ws' := [(rn, .inr (12, [.int st_24, .int ce_24, .int sp_24, .int lm_24, .int rm_24, .int fa_24, .ref tn])), (tn, .inl (cI, 1001, .inl nf_24)), (mm, .inr (10, [.int 0, .int 2, .int 2, .ref la, .int wr, .int tl, .int le, .int fi, .int se, .ref oo, .ref hh])), (oo, .inl (cI, 24, .inl o))]) [1, 2, 9, 10] rfl
    have hDc := hD.sub (ws' := [(rn, .inr (12, [.int st_24, .int ce_24, .int sp_24, .int lm_24, .int rm_24, .int fa_24, .ref tn])), (tn, .inl (cI, 1001, .inl nf_24)), (mm, .inr (10, [.int 0, .int 2, .int 2, .ref la, .int wr, .int tl, .int le, .int fi, .int se, .ref oo, .ref hh])), (oo, .inl (cI, 24, .inl o))]) [1, 2, 9, 10] (by decide) rfl
    have hKc := hK.sub (tys' := [(cI, .int)]) [0] rfl
    have hFc := va_free (wc := [(rn, .inr (12, [.int st_24, .int ce_24, .int sp_24, .int lm_24, .int rm_24, .int fa_24, .ref tn])), (tn, .inl (cI, 1001, .inl nf_24)), (mm, .inr (10, [.int 0, .int 2, .int 2, .ref la, .int wr, .int tl, .int le, .int fi, .int se, .ref oo, .ref hh])), (oo, .inl (cI, 24, .inl o))]) hD hS hA [1, 2, 9, 10] rfl
    refine va_calli (va_runV (As := [.ref mm]) (rest := []) ⟨hx, hb, hml, hown, hts⟩ (c_X7_step l dC dI cI rn tn st_24 ce_24 sp_24 lm_24 rm_24 fa_24 nf_24 mm oo la hh 0 2 2 wr tl le fi se o (by decide) (by decide)  H.size) (cwV 1 hts gX6_comesFarther_X7_step rfl rfl rfl (by decide +kernel) ⟨Nat.le_of_ble_eq_true rfl, Nat.le_of_ble_eq_true rfl⟩) (pcV hPc hDc hKc hN (ci := 12) (q0 := 0) rfl rfl) rfl rfl hl.1 rfl (lv_room (Nat.le_of_ble_eq_true rfl)) dX6_comesFarther_38 ⟨Nat.le_of_ble_eq_true rfl, Nat.le_of_ble_eq_true rfl⟩) hS (fun q _ h => hFc q h) hFc (fun r_19 u t H1 locs ht hvm hw_20 hB hz1 hk1 hS => ?_)
    obtain ⟨st_12, ce_13, sp_14, lm_15, rm_16, fa_17, f_18⟩ := u
    obtain ⟨hP1, hK1, hD1⟩ := hB
    rw [ht] at hP1
    try dsimp only at hw_20
    obtain ⟨hP, hD⟩ := va_join (wr := [(ro, .inr (11, [.int f6, .int s6, .ref rn, .ref rh, .int (nI n), .ref ca, .ref sa, .ref da, .ref xa])), (rh, .inr (12, [.int st2, .int ce2, .int sp2, .int lm2, .int rm2, .int fa2, .ref th])), (th, .inl (cI, 1001, .inl hf_24)), (ca, .inl (cI, 501, .inl cf)), (sa, .inl (cI, 501, .inl gf)), (da, .inl (cI, 501, .inl df)), (xa, .inl (cI, 501, .inl xf_24))]) (w1 := [(rn, .inr (12, [.int st_12, .int ce_13, .int sp_14, .int lm_15, .int rm_16, .int fa_17, .ref tn])), (tn, .inl (cI, 1001, .inl f_18)), (mm, .inr (10, [.int 0, .int 2, .int 2, .ref la, .int wr, .int tl, .int le, .int fi, .int se, .ref oo, .ref hh])), (oo, .inl (cI, 24, .inl o))]) hP hD [1, 2, 9, 10] [0, 3, 4, 5, 6, 7, 8] rfl rfl (by decide) (by decide) hk1 hFc hP1 hD1
    generalize H1 = H at hP hS ⊢
    have hP : va_P (dC, dI) vwCl [(ro, .inr (11, [.int f6, .int s6, .ref rn, .ref rh, .int (nI n), .ref ca, .ref sa, .ref da, .ref xa])), (rh, .inr (12, [.int st2, .int ce2, .int sp2, .int lm2, .int rm2, .int fa2, .ref th])), (th, .inl (cI, 1001, .inl hf_24)), (ca, .inl (cI, 501, .inl cf)), (sa, .inl (cI, 501, .inl gf)), (da, .inl (cI, 501, .inl df)), (xa, .inl (cI, 501, .inl xf_24)), (rn, .inr (12, [.int st_12, .int ce_13, .int sp_14, .int lm_15, .int rm_16, .int fa_17, .ref tn])), (tn, .inl (cI, 1001, .inl f_18)), (mm, .inr (10, [.int 0, .int 2, .int 2, .ref la, .int wr, .int tl, .int le, .int fi, .int se, .ref oo, .ref hh])), (oo, .inl (cI, 24, .inl o))] H := hP
    have hD : va_D A [(ro, .inr (11, [.int f6, .int s6, .ref rn, .ref rh, .int (nI n), .ref ca, .ref sa, .ref da, .ref xa])), (rh, .inr (12, [.int st2, .int ce2, .int sp2, .int lm2, .int rm2, .int fa2, .ref th])), (th, .inl (cI, 1001, .inl hf_24)), (ca, .inl (cI, 501, .inl cf)), (sa, .inl (cI, 501, .inl gf)), (da, .inl (cI, 501, .inl df)), (xa, .inl (cI, 501, .inl xf_24)), (rn, .inr (12, [.int st_12, .int ce_13, .int sp_14, .int lm_15, .int rm_16, .int fa_17, .ref tn])), (tn, .inl (cI, 1001, .inl f_18)), (mm, .inr (10, [.int 0, .int 2, .int 2, .ref la, .int wr, .int tl, .int le, .int fi, .int se, .ref oo, .ref hh])), (oo, .inl (cI, 24, .inl o))] := hD
    obtain ⟨-, hs1, -⟩ := rel_of hm (alvR_le hal (by omega)) hI.2.2.2.1 hw_20
    have hR1 := hs1 (hal i_24 (by omega))
    have hcs : ce_13 * sg = (seqR (nI 2) (cW T) Q (cN T) (i_24 + 1)).2.1 := by rw [show ce_13 = (seqR (nI 2) (cW T) (cM T) (cN T) (i_24 + 1)).2.1 from hR1.2.1]; exact sd_ce hm.1 hm.2.1 (by have := hm.2.2.1; omega) hsd _
    have hbq : bitR (nI 2) (cW T) Q (cN T) i_24 = 1 := (sd_al hm.1 hm.2.1 (by have := hm.2.2.1; omega) hsd n).mpr hal i_24 (by omega)
    refine lv_pop hx hb dX6_comesFarther_41 rfl ?_
    refine lv_aload_n hx hb dX6_comesFarther_42 rfl (lv_at hl 0 rfl) ?_
    refine va_get (D := (dC, dI)) (ci := 11) (v := .ref rn) (C := RX6) (T := TX6) (N := 9) hx hb hts iWX6 hown hK hP 0 rfl rfl 2 (by decide) (hts (.fieldLink RX6 21 "Beaverhall$Returns" "now" "LBeaverhall$Run;") (by decide +kernel)) (fun _ h9 => h9) rfl dX6_comesFarther_43 ?_
    refine va_get (D := (dC, dI)) (ci := 12) (v := .int ce_13) (C := RX7) (T := TX7) (N := 7) hx hb hts iWX7 hown hK hP 7 rfl rfl 1 (by decide) (hts (.fieldLink RX6 67 "Beaverhall$Run" "cell" "I") (by decide +kernel)) (fun _ h9 => h9) rfl dX6_comesFarther_46 ?_
    refine lv_iload_n hx hb dX6_comesFarther_49 rfl (lv_at hl 2 rfl) ?_
    refine lv_imul hx hb dX6_comesFarther_50 ?_
    refine lv_iload hx hb dX6_comesFarther_51 (lv_at hl 4 rfl) ?_
    refine lv_icmp_le (tgt := 111) hx hb dX6_comesFarther_53 (by decide) (fun c53_21 => ?_) (fun c53_21 => ?_)
    · have hnr9 : ¬ far_24 < (seqR (nI 2) (cW T) Q (cN T) (i_24 + 1)).2.1 := by rw [← hcs]; exact Int32.not_lt.mpr c53_21
      have hnr8 : ¬ recP (nI 2) (cW T) Q (cN T) (i_24 + 1) := fun h9 => hnr9 (by rw [hfar]; exact h9)
      obtain ⟨y_22, ey_22⟩ : ∃ y : Int32, y = (nI (i_24 + 1)) + 1 := ⟨_, rfl⟩
      refine lv_iinc (v := y_22) (lv' := [(5, .int y_22), (0, .ref ro), (1, .ref mm), (2, .int sg), (3, .int (nI m_24)), (4, .int far_24)]) hx hb dX6_comesFarther_111 hl (k := 5) rfl (by rw [ey_22]; rfl) (by decide) rfl (fun ls hl => ?_)
      obtain rfl : y_22 = nI (i_24 + 1 + 1) := by rw [ey_22]; exact nI_1 _
      refine lv_goto (tgt := 24) hx hb dX6_comesFarther_114 (by decide) ?_
      exact ih24 ((i_24 + 1), m_24, far_24, st_12, ce_13, sp_14, lm_15, rm_16, fa_17, f_18, hf_24, xf_24) ⟨hin, hI.2.1, by omega, hR1, by rw [rt_step hbq, ← hfar]; unfold imaxJ; rw [if_neg hnr9], frP_skip (by omega) hI.2.2.2.2.2.1 hnr8, noF_skip hI.2.2.2.2.2.2 hnr8⟩ (by show n - (i_24 + 1) < n - i_24; omega) _ _ (hP.sub [0, 7, 8, 1, 2, 3, 4, 5, 6, 9, 10] rfl) (hD.sub [0, 7, 8, 1, 2, 3, 4, 5, 6, 9, 10] (by decide) rfl) hS ls (lv_sub hl [1, 2, 3, 4, 5, 0] rfl)
    · have hre9 : far_24 < (seqR (nI 2) (cW T) Q (cN T) (i_24 + 1)).2.1 := by rw [← hcs]; exact Int32.not_le.mp c53_21
      have hre8 : recP (nI 2) (cW T) Q (cN T) (i_24 + 1) := by have h9 := hre9; rw [hfar] at h9; exact h9
      refine lv_aload_n hx hb dX6_comesFarther_56 rfl (lv_at hl 0 rfl) ?_
      refine va_get (D := (dC, dI)) (ci := 11) (v := .ref rn) (C := RX6) (T := TX6) (N := 9) hx hb hts iWX6 hown hK hP 0 rfl rfl 2 (by decide) (hts (.fieldLink RX6 21 "Beaverhall$Returns" "now" "LBeaverhall$Run;") (by decide +kernel)) (fun _ h9 => h9) rfl dX6_comesFarther_57 ?_
      refine va_get (D := (dC, dI)) (ci := 12) (v := .int ce_13) (C := RX7) (T := TX7) (N := 7) hx hb hts iWX7 hown hK hP 7 rfl rfl 1 (by decide) (hts (.fieldLink RX6 67 "Beaverhall$Run" "cell" "I") (by decide +kernel)) (fun _ h9 => h9) rfl dX6_comesFarther_60 ?_
      refine lv_iload_n hx hb dX6_comesFarther_63 rfl (lv_at hl 2 rfl) ?_
      refine lv_imul hx hb dX6_comesFarther_64 ?_
      refine lv_topi (fun x_23 ex_23 => ?_)
      refine lv_istore (lv' := [(4, .int x_23), (0, .ref ro), (1, .ref mm), (2, .int sg), (3, .int (nI m_24)), (5, .int (nI (i_24 + 1)))]) hx hb dX6_comesFarther_65 hl (by decide) rfl (fun ls hl => ?_)
      refine lv_aload_n hx hb dX6_comesFarther_67 rfl (lv_at hl 1 rfl) ?_
      refine lv_iload hx hb dX6_comesFarther_68 (lv_at hl 5 rfl) ?_
      refine lv_iload_n hx hb dX6_comesFarther_70 rfl (lv_at hl 3 rfl) ?_
      refine lv_iload_n hx hb dX6_comesFarther_71 rfl (lv_at hl 4 rfl) ?_
      have hPc := hP.sub (ws' := [(ro, .inr (11, [.int f6, .int s6, .ref rn, .ref rh, .int (nI n), .ref ca, .ref sa, .ref da, .ref xa])), (rn, .inr (12, [.int st_12, .int ce_13, .int sp_14, .int lm_15, .int rm_16, .int fa_17, .ref tn])), (tn, .inl (cI, 1001, .inl f_18)), (rh, .inr (12, [.int st2, .int ce2, .int sp2, .int lm2, .int rm2, .int fa2, .ref th])), (th, .inl (cI, 1001, .inl hf_24)), (ca, .inl (cI, 501, .inl cf)), (sa, .inl (cI, 501, .inl gf)), (da, .inl (cI, 501, .inl df)), (xa, .inl (cI, 501, .inl xf_24))]) [0, 7, 8, 1, 2, 3, 4, 5, 6] rfl
      have hDc := hD.sub (ws' := [(ro, .inr (11, [.int f6, .int s6, .ref rn, .ref rh, .int (nI n), .ref ca, .ref sa, .ref da, .ref xa])), (rn, .inr (12, [.int st_12, .int ce_13, .int sp_14, .int lm_15, .int rm_16, .int fa_17, .ref tn])), (tn, .inl (cI, 1001, .inl f_18)), (rh, .inr (12, [.int st2, .int ce2, .int sp2, .int lm2, .int rm2, .int fa2, .ref th])), (th, .inl (cI, 1001, .inl hf_24)), (ca, .inl (cI, 501, .inl cf)), (sa, .inl (cI, 501, .inl gf)), (da, .inl (cI, 501, .inl df)), (xa, .inl (cI, 501, .inl xf_24))]) [0, 7, 8, 1, 2, 3, 4, 5, 6] (by decide) rfl
      have hKc := hK.sub (tys' := [(cI, .int)]) [0] rfl
      have hFc := va_free (wc := [(ro, .inr (11, [.int f6, .int s6, .ref rn, .ref rh, .int (nI n), .ref ca, .ref sa, .ref da, .ref xa])), (rn, .inr (12, [.int st_12, .int ce_13, .int sp_14, .int lm_15, .int rm_16, .int fa_17, .ref tn])), (tn, .inl (cI, 1001, .inl f_18)), (rh, .inr (12, [.int st2, .int ce2, .int sp2, .int lm2, .int rm2, .int fa2, .ref th])), (th, .inl (cI, 1001, .inl hf_24)), (ca, .inl (cI, 501, .inl cf)), (sa, .inl (cI, 501, .inl gf)), (da, .inl (cI, 501, .inl df)), (xa, .inl (cI, 501, .inl xf_24))]) hD hS hA [0, 7, 8, 1, 2, 3, 4, 5, 6] rfl
      refine va_calli (va_runV (As := [.int (nI (i_24 + 1)), .int sg, .int (nI m_24)]) (rest := []) ⟨hx, hb, hml, hown, hts⟩ (c_X6_leastLike l dC dI cI ro rn rh ca sa da xa tn th f6 s6 (nI n) st_12 ce_13 sp_14 lm_15 rm_16 fa_17 f_18 st2 ce2 sp2 lm2 rm2 fa2 hf_24 cf gf df xf_24 S T o hm sg Q hsd n i_24 m_24 hn hin hmi hal hR1 hwd hI.2.2.2.2.2.1 hre8 H.size) (cwV 3 hts gX6_comesFarther_X6_leastLike rfl rfl rfl (by decide +kernel) ⟨Nat.le_of_ble_eq_true rfl, Nat.le_of_ble_eq_true rfl⟩) (pcV hPc hDc hKc hN (ci := 11) (q0 := 0) rfl rfl) rfl rfl hl.1 rfl (lv_room (Nat.le_of_ble_eq_true rfl)) dX6_comesFarther_72 ⟨Nat.le_of_ble_eq_true rfl, Nat.le_of_ble_eq_true rfl⟩) hS (fun q _ h => hFc q h) hFc (fun r_24 u t H1 locs ht hvm hw_25 hB hz1 hk1 hS => ?_)
      obtain ⟨hP1, hK1, hD1⟩ := hB
      rw [ht] at hP1
      try dsimp only at hw_25
      obtain ⟨hP, hD⟩ := va_join (wr := [(mm, .inr (10, [.int 0, .int 2, .int 2, .ref la, .int wr, .int tl, .int le, .int fi, .int se, .ref oo, .ref hh])), (oo, .inl (cI, 24, .inl o))]) (w1 := [(ro, .inr (11, [.int f6, .int s6, .ref rn, .ref rh, .int (nI n), .ref ca, .ref sa, .ref da, .ref xa])), (rn, .inr (12, [.int st_12, .int ce_13, .int sp_14, .int lm_15, .int rm_16, .int fa_17, .ref tn])), (tn, .inl (cI, 1001, .inl f_18)), (rh, .inr (12, [.int st2, .int ce2, .int sp2, .int lm2, .int rm2, .int fa2, .ref th])), (th, .inl (cI, 1001, .inl u)), (ca, .inl (cI, 501, .inl cf)), (sa, .inl (cI, 501, .inl gf)), (da, .inl (cI, 501, .inl df)), (xa, .inl (cI, 501, .inl xf_24))]) hP hD [0, 7, 8, 1, 2, 3, 4, 5, 6] [9, 10] rfl rfl (by decide) (by decide) hk1 hFc hP1 hD1
      generalize H1 = H at hP hS ⊢
      have hP : va_P (dC, dI) vwCl [(mm, .inr (10, [.int 0, .int 2, .int 2, .ref la, .int wr, .int tl, .int le, .int fi, .int se, .ref oo, .ref hh])), (oo, .inl (cI, 24, .inl o)), (ro, .inr (11, [.int f6, .int s6, .ref rn, .ref rh, .int (nI n), .ref ca, .ref sa, .ref da, .ref xa])), (rn, .inr (12, [.int st_12, .int ce_13, .int sp_14, .int lm_15, .int rm_16, .int fa_17, .ref tn])), (tn, .inl (cI, 1001, .inl f_18)), (rh, .inr (12, [.int st2, .int ce2, .int sp2, .int lm2, .int rm2, .int fa2, .ref th])), (th, .inl (cI, 1001, .inl u)), (ca, .inl (cI, 501, .inl cf)), (sa, .inl (cI, 501, .inl gf)), (da, .inl (cI, 501, .inl df)), (xa, .inl (cI, 501, .inl xf_24))] H := hP
      have hD : va_D A [(mm, .inr (10, [.int 0, .int 2, .int 2, .ref la, .int wr, .int tl, .int le, .int fi, .int se, .ref oo, .ref hh])), (oo, .inl (cI, 24, .inl o)), (ro, .inr (11, [.int f6, .int s6, .ref rn, .ref rh, .int (nI n), .ref ca, .ref sa, .ref da, .ref xa])), (rn, .inr (12, [.int st_12, .int ce_13, .int sp_14, .int lm_15, .int rm_16, .int fa_17, .ref tn])), (tn, .inl (cI, 1001, .inl f_18)), (rh, .inr (12, [.int st2, .int ce2, .int sp2, .int lm2, .int rm2, .int fa2, .ref th])), (th, .inl (cI, 1001, .inl u)), (ca, .inl (cI, 501, .inl cf)), (sa, .inl (cI, 501, .inl gf)), (da, .inl (cI, 501, .inl df)), (xa, .inl (cI, 501, .inl xf_24))] := hD
      obtain ⟨f_26, ef_26⟩ : ∃ z, z = u := ⟨_, rfl⟩
      subst ef_26
      refine lv_istore (lv' := [(6, .int r_24), (4, .int x_23), (0, .ref ro), (1, .ref mm), (2, .int sg), (3, .int (nI m_24)), (5, .int (nI (i_24 + 1)))]) hx hb dX6_comesFarther_75 hl (by decide) rfl (fun ls hl => ?_)
      refine lv_iload hx hb dX6_comesFarther_77 (lv_at hl 0 rfl) ?_
      refine lv_if_lt (tgt := 98) hx hb dX6_comesFarther_79 (by decide) (fun c79_27 => ?_) (fun c79_27 => ?_)
      · have hno9 := hw_25.elim (fun h => absurd c79_27 h.1) (fun h => h.2)
        refine lv_aload_n hx hb dX6_comesFarther_98 rfl (lv_at hl 2 rfl) ?_
        refine va_get (D := (dC, dI)) (ci := 11) (v := .ref xa) (C := RX6) (T := TX6) (N := 9) hx hb hts iWX6 hown hK hP 2 rfl rfl 8 (by decide) (hts (.fieldLink RX6 41 "Beaverhall$Returns" "firsts" "[I") (by decide +kernel)) (fun _ h9 => h9) rfl dX6_comesFarther_99 ?_
        refine lv_iload_n hx hb dX6_comesFarther_102 rfl (lv_at hl 5 rfl) ?_
        refine lv_iload hx hb dX6_comesFarther_103 (lv_at hl 6 rfl) ?_
        have hPc := hP.sub (ws' := [(xa, .inl (cI, 501, .inl xf_24))]) [10] rfl
        have hDc := hD.sub (ws' := [(xa, .inl (cI, 501, .inl xf_24))]) [10] (by decide) rfl
        have hKc := hK.sub (tys' := [(cI, .int)]) [0] rfl
        have hFc := va_free (wc := [(xa, .inl (cI, 501, .inl xf_24))]) hD hS hA [10] rfl
        refine va_callv (va_runSN (As := [.ref xa, .int (nI m_24), .int (nI (i_24 + 1))]) (rest := []) ⟨hx, hb, hml, hown, hts⟩ (c_X11_put l dC dI cI xa 501 xf_24 (nI m_24) (nI (i_24 + 1)) (by decide) H.size) ⟨va_cnB 3 hts gX6_comesFarther_X11_put_n63 rfl rfl rfl (hN (.methodLinkNest RX6 63 yX11_put "Beaverhall") (by decide +kernel)) (hts (.initialized RX11) (by decide +kernel)) (by decide +kernel) ⟨Nat.le_of_ble_eq_true rfl, Nat.le_of_ble_eq_true rfl⟩, hts (.static yX11_put) (by decide +kernel), trivial⟩ (pcS hPc hDc hKc hN) rfl rfl hl.1 rfl (lv_room (Nat.le_of_ble_eq_true rfl)) dX6_comesFarther_105 ⟨Nat.le_of_ble_eq_true rfl, Nat.le_of_ble_eq_true rfl⟩) hS (fun q _ h => hFc q h) hFc (fun u t H1 locs ht hvm hw_28 hB hz1 hk1 hS => ?_)
        obtain ⟨hP1, hK1, hD1⟩ := hB
        rw [ht] at hP1
        try dsimp only at hw_28
        obtain ⟨hP, hD⟩ := va_join (wr := [(mm, .inr (10, [.int 0, .int 2, .int 2, .ref la, .int wr, .int tl, .int le, .int fi, .int se, .ref oo, .ref hh])), (oo, .inl (cI, 24, .inl o)), (ro, .inr (11, [.int f6, .int s6, .ref rn, .ref rh, .int (nI n), .ref ca, .ref sa, .ref da, .ref xa])), (rn, .inr (12, [.int st_12, .int ce_13, .int sp_14, .int lm_15, .int rm_16, .int fa_17, .ref tn])), (tn, .inl (cI, 1001, .inl f_18)), (rh, .inr (12, [.int st2, .int ce2, .int sp2, .int lm2, .int rm2, .int fa2, .ref th])), (th, .inl (cI, 1001, .inl f_26)), (ca, .inl (cI, 501, .inl cf)), (sa, .inl (cI, 501, .inl gf)), (da, .inl (cI, 501, .inl df))]) (w1 := [(xa, .inl (cI, 501, .inl u))]) hP hD [10] [0, 1, 2, 3, 4, 5, 6, 7, 8, 9] rfl rfl (by decide) (by decide) hk1 hFc hP1 hD1
        generalize H1 = H at hP hS ⊢
        have hP : va_P (dC, dI) vwCl [(mm, .inr (10, [.int 0, .int 2, .int 2, .ref la, .int wr, .int tl, .int le, .int fi, .int se, .ref oo, .ref hh])), (oo, .inl (cI, 24, .inl o)), (ro, .inr (11, [.int f6, .int s6, .ref rn, .ref rh, .int (nI n), .ref ca, .ref sa, .ref da, .ref xa])), (rn, .inr (12, [.int st_12, .int ce_13, .int sp_14, .int lm_15, .int rm_16, .int fa_17, .ref tn])), (tn, .inl (cI, 1001, .inl f_18)), (rh, .inr (12, [.int st2, .int ce2, .int sp2, .int lm2, .int rm2, .int fa2, .ref th])), (th, .inl (cI, 1001, .inl f_26)), (ca, .inl (cI, 501, .inl cf)), (sa, .inl (cI, 501, .inl gf)), (da, .inl (cI, 501, .inl df)), (xa, .inl (cI, 501, .inl u))] H := hP
        have hD : va_D A [(mm, .inr (10, [.int 0, .int 2, .int 2, .ref la, .int wr, .int tl, .int le, .int fi, .int se, .ref oo, .ref hh])), (oo, .inl (cI, 24, .inl o)), (ro, .inr (11, [.int f6, .int s6, .ref rn, .ref rh, .int (nI n), .ref ca, .ref sa, .ref da, .ref xa])), (rn, .inr (12, [.int st_12, .int ce_13, .int sp_14, .int lm_15, .int rm_16, .int fa_17, .ref tn])), (tn, .inl (cI, 1001, .inl f_18)), (rh, .inr (12, [.int st2, .int ce2, .int sp2, .int lm2, .int rm2, .int fa2, .ref th])), (th, .inl (cI, 1001, .inl f_26)), (ca, .inl (cI, 501, .inl cf)), (sa, .inl (cI, 501, .inl gf)), (da, .inl (cI, 501, .inl df)), (xa, .inl (cI, 501, .inl u))] := hD
        obtain ⟨f_29, ef_29⟩ : ∃ z, z = u := ⟨_, rfl⟩
        subst ef_29
        rw [put_at (n := 501) (i := nI m_24) (j := m_24) rfl (by omega) (by decide)] at hw_28
        obtain ⟨y_30, ey_30⟩ : ∃ y : Int32, y = (nI m_24) + 1 := ⟨_, rfl⟩
        refine lv_iinc (v := y_30) (lv' := [(3, .int y_30), (6, .int r_24), (4, .int x_23), (0, .ref ro), (1, .ref mm), (2, .int sg), (5, .int (nI (i_24 + 1)))]) hx hb dX6_comesFarther_108 hl (k := 5) rfl (by rw [ey_30]; rfl) (by decide) rfl (fun ls hl => ?_)
        obtain rfl : y_30 = nI (m_24 + 1) := by rw [ey_30]; exact nI_1 _
        obtain ⟨y_31, ey_31⟩ : ∃ y : Int32, y = (nI (i_24 + 1)) + 1 := ⟨_, rfl⟩
        refine lv_iinc (v := y_31) (lv' := [(5, .int y_31), (3, .int (nI (m_24 + 1))), (6, .int r_24), (4, .int x_23), (0, .ref ro), (1, .ref mm), (2, .int sg)]) hx hb dX6_comesFarther_111 hl (k := 6) rfl (by rw [ey_31]; rfl) (by decide) rfl (fun ls hl => ?_)
        obtain rfl : y_31 = nI (i_24 + 1 + 1) := by rw [ey_31]; exact nI_1 _
        refine lv_goto (tgt := 24) hx hb dX6_comesFarther_114 (by decide) ?_
        exact ih24 ((i_24 + 1), (m_24 + 1), x_23, st_12, ce_13, sp_14, lm_15, rm_16, fa_17, f_18, f_26, f_29) ⟨hin, by omega, by omega, hR1, by rw [rt_step hbq, ← hfar, ex_23, hcs]; unfold imaxJ; rw [if_pos hre9], by rw [hw_28]; exact frP_push (by omega) hI.2.2.2.2.2.1 hre8, noF_more hI.2.2.2.2.2.2 hno9⟩ (by show n - (i_24 + 1) < n - i_24; omega) _ _ (hP.sub [2, 3, 4, 5, 6, 7, 8, 9, 10, 0, 1] rfl) (hD.sub [2, 3, 4, 5, 6, 7, 8, 9, 10, 0, 1] (by decide) rfl) hS ls (lv_sub hl [4, 5, 6, 1, 3, 0] rfl)
      · have hye9 := hw_25.elim (fun h => h.2) (fun h => absurd h.1 c79_27)
        refine lv_aload_n hx hb dX6_comesFarther_82 rfl (lv_at hl 2 rfl) ?_
        refine lv_iload hx hb dX6_comesFarther_83 (lv_at hl 0 rfl) ?_
        refine va_put (D := (dC, dI)) (ci := 11) (v := .int r_24) (ty := .int) (C := RX6) (T := TX6) (N := 9) hx hb hts iWX6 tyX6 tyX6_ok nmX6 hown hK hP hD hS 2 rfl rfl 0 (by decide) (hts (.fieldLink RX6 9 "Beaverhall$Returns" "first" "I") (by decide +kernel)) (fun _ h9 => h9) rfl (by decide +kernel) rfl rfl (Nat.le_of_ble_eq_true rfl) dX6_comesFarther_85 (fun H locs hP hD hS => ?_)
        have hP : va_P (dC, dI) vwCl [(mm, .inr (10, [.int 0, .int 2, .int 2, .ref la, .int wr, .int tl, .int le, .int fi, .int se, .ref oo, .ref hh])), (oo, .inl (cI, 24, .inl o)), (ro, .inr (11, [.int r_24, .int s6, .ref rn, .ref rh, .int (nI n), .ref ca, .ref sa, .ref da, .ref xa])), (rn, .inr (12, [.int st_12, .int ce_13, .int sp_14, .int lm_15, .int rm_16, .int fa_17, .ref tn])), (tn, .inl (cI, 1001, .inl f_18)), (rh, .inr (12, [.int st2, .int ce2, .int sp2, .int lm2, .int rm2, .int fa2, .ref th])), (th, .inl (cI, 1001, .inl f_26)), (ca, .inl (cI, 501, .inl cf)), (sa, .inl (cI, 501, .inl gf)), (da, .inl (cI, 501, .inl df)), (xa, .inl (cI, 501, .inl xf_24))] H := hP
        have hD : va_D A [(mm, .inr (10, [.int 0, .int 2, .int 2, .ref la, .int wr, .int tl, .int le, .int fi, .int se, .ref oo, .ref hh])), (oo, .inl (cI, 24, .inl o)), (ro, .inr (11, [.int r_24, .int s6, .ref rn, .ref rh, .int (nI n), .ref ca, .ref sa, .ref da, .ref xa])), (rn, .inr (12, [.int st_12, .int ce_13, .int sp_14, .int lm_15, .int rm_16, .int fa_17, .ref tn])), (tn, .inl (cI, 1001, .inl f_18)), (rh, .inr (12, [.int st2, .int ce2, .int sp2, .int lm2, .int rm2, .int fa2, .ref th])), (th, .inl (cI, 1001, .inl f_26)), (ca, .inl (cI, 501, .inl cf)), (sa, .inl (cI, 501, .inl gf)), (da, .inl (cI, 501, .inl df)), (xa, .inl (cI, 501, .inl xf_24))] := hD
        refine lv_aload_n hx hb dX6_comesFarther_88 rfl (lv_at hl 2 rfl) ?_
        refine lv_iload hx hb dX6_comesFarther_89 (lv_at hl 6 rfl) ?_
        refine lv_iload_n hx hb dX6_comesFarther_91 rfl (lv_at hl 4 rfl) ?_
        refine lv_imul hx hb dX6_comesFarther_92 ?_
        refine lv_topi (fun x_32 ex_32 => ?_)
        refine va_put (D := (dC, dI)) (ci := 11) (v := .int x_32) (ty := .int) (C := RX6) (T := TX6) (N := 9) hx hb hts iWX6 tyX6 tyX6_ok nmX6 hown hK hP hD hS 2 rfl rfl 1 (by decide) (hts (.fieldLink RX6 15 "Beaverhall$Returns" "second" "I") (by decide +kernel)) (fun _ h9 => h9) rfl (by decide +kernel) rfl rfl (Nat.le_of_ble_eq_true rfl) dX6_comesFarther_93 (fun H locs hP hD hS => ?_)
        have hP : va_P (dC, dI) vwCl [(mm, .inr (10, [.int 0, .int 2, .int 2, .ref la, .int wr, .int tl, .int le, .int fi, .int se, .ref oo, .ref hh])), (oo, .inl (cI, 24, .inl o)), (ro, .inr (11, [.int r_24, .int x_32, .ref rn, .ref rh, .int (nI n), .ref ca, .ref sa, .ref da, .ref xa])), (rn, .inr (12, [.int st_12, .int ce_13, .int sp_14, .int lm_15, .int rm_16, .int fa_17, .ref tn])), (tn, .inl (cI, 1001, .inl f_18)), (rh, .inr (12, [.int st2, .int ce2, .int sp2, .int lm2, .int rm2, .int fa2, .ref th])), (th, .inl (cI, 1001, .inl f_26)), (ca, .inl (cI, 501, .inl cf)), (sa, .inl (cI, 501, .inl gf)), (da, .inl (cI, 501, .inl df)), (xa, .inl (cI, 501, .inl xf_24))] H := hP
        have hD : va_D A [(mm, .inr (10, [.int 0, .int 2, .int 2, .ref la, .int wr, .int tl, .int le, .int fi, .int se, .ref oo, .ref hh])), (oo, .inl (cI, 24, .inl o)), (ro, .inr (11, [.int r_24, .int x_32, .ref rn, .ref rh, .int (nI n), .ref ca, .ref sa, .ref da, .ref xa])), (rn, .inr (12, [.int st_12, .int ce_13, .int sp_14, .int lm_15, .int rm_16, .int fa_17, .ref tn])), (tn, .inl (cI, 1001, .inl f_18)), (rh, .inr (12, [.int st2, .int ce2, .int sp2, .int lm2, .int rm2, .int fa2, .ref th])), (th, .inl (cI, 1001, .inl f_26)), (ca, .inl (cI, 501, .inl cf)), (sa, .inl (cI, 501, .inl gf)), (da, .inl (cI, 501, .inl df)), (xa, .inl (cI, 501, .inl xf_24))] := hD
        refine lv_iconst (v := 1) hx hb dX6_comesFarther_96 (by decide) ?_
        have hP9 := hP.sub (ws' := [(ro, .inr (11, [.int r_24, .int x_32, .ref rn, .ref rh, .int (nI n), .ref ca, .ref sa, .ref da, .ref xa])), (rn, .inr (12, [.int st_12, .int ce_13, .int sp_14, .int lm_15, .int rm_16, .int fa_17, .ref tn])), (tn, .inl (cI, 1001, .inl f_18)), (rh, .inr (12, [.int st2, .int ce2, .int sp2, .int lm2, .int rm2, .int fa2, .ref th])), (th, .inl (cI, 1001, .inl f_26)), (ca, .inl (cI, 501, .inl cf)), (sa, .inl (cI, 501, .inl gf)), (da, .inl (cI, 501, .inl df)), (xa, .inl (cI, 501, .inl xf_24)), (mm, .inr (10, [.int 0, .int 2, .int 2, .ref la, .int wr, .int tl, .int le, .int fi, .int se, .ref oo, .ref hh])), (oo, .inl (cI, 24, .inl o))]) [2, 3, 4, 5, 6, 7, 8, 9, 10, 0, 1] rfl
        have hD9 := hD.sub (ws' := [(ro, .inr (11, [.int r_24, .int x_32, .ref rn, .ref rh, .int (nI n), .ref ca, .ref sa, .ref da, .ref xa])), (rn, .inr (12, [.int st_12, .int ce_13, .int sp_14, .int lm_15, .int rm_16, .int fa_17, .ref tn])), (tn, .inl (cI, 1001, .inl f_18)), (rh, .inr (12, [.int st2, .int ce2, .int sp2, .int lm2, .int rm2, .int fa2, .ref th])), (th, .inl (cI, 1001, .inl f_26)), (ca, .inl (cI, 501, .inl cf)), (sa, .inl (cI, 501, .inl gf)), (da, .inl (cI, 501, .inl df)), (xa, .inl (cI, 501, .inl xf_24)), (mm, .inr (10, [.int 0, .int 2, .int 2, .ref la, .int wr, .int tl, .int le, .int fi, .int se, .ref oo, .ref hh])), (oo, .inl (cI, 24, .inl o))]) [2, 3, 4, 5, 6, 7, 8, 9, 10, 0, 1] (by decide) rfl
        have hK9 := hK.sub (tys' := [(cI, .int)]) [0] rfl
        exact W.zret (v := 1) hx hb hr (by rfl) (fun t ht hW => ⟨⟨1, (r_24, x_32, (st_12, ce_13, sp_14, lm_15, rm_16, fa_17, f_18), f_26, xf_24), rfl, (Or.inl ⟨rfl, fun h9 => by obtain ⟨a, h1, h2⟩ := hye9; exact h9 (i_24 + 1) a hin h1 h2⟩), ⟨by rw [ht]; exact hP9, va_K.moved hW.alike hK9, hD9⟩⟩, hS.F ht⟩) hS.2.2 dX6_comesFarther_97

set_option maxHeartbeats 4000000 in
set_option maxRecDepth 100000 in
/-- X6_comesBackFarther -/
theorem c_X6_comesBackFarther (l : Launch) (dC : Nat → ClassId) (dI : Nat → Nat → Nat) (cI : ClassId) (ro rn rh ca sa da xa tn th : Nat) (f6 s6 : Int32) (l6 : Int32) (st ce sp lm rm fa : Int32) (nf : Nat → Int32) (st2 ce2 sp2 lm2 rm2 fa2 : Int32) (hf : Nat → Int32) (cf gf df xf : Nat → Int32) (mm oo la hh : Nat) (wr tl le fi se : Int32) (S : Nat) (T o : Nat → Int32) (hm : mJ S o T) (k : Nat) (hk : k ≤ 500) (sz : Nat) : Met l yX6_comesBackFarther wsX6_comesBackFarther ({ frames := 4, cells := 0, slots := 0, locals := 136 }) (va_Pc [.ref ro, .ref mm, .int (nI k)] (cPC dC dI [(ro, .inr (11, [.int f6, .int s6, .ref rn, .ref rh, .int l6, .ref ca, .ref sa, .ref da, .ref xa])), (rn, .inr (12, [.int st, .int ce, .int sp, .int lm, .int rm, .int fa, .ref tn])), (tn, .inl (cI, 1001, .inl nf)), (rh, .inr (12, [.int st2, .int ce2, .int sp2, .int lm2, .int rm2, .int fa2, .ref th])), (th, .inl (cI, 1001, .inl hf)), (ca, .inl (cI, 501, .inl cf)), (sa, .inl (cI, 501, .inl gf)), (da, .inl (cI, 501, .inl df)), (xa, .inl (cI, 501, .inl xf)), (mm, .inr (10, [.int 0, .int 2, .int 2, .ref la, .int wr, .int tl, .int le, .int fi, .int se, .ref oo, .ref hh])), (oo, .inl (cI, 24, .inl o))] [(cI, .int)] sz)) (va_Qi (fun (r : Int32) (u : Int32 × Int32 × RunS × (Nat → Int32) × (Nat → Int32) × (Nat → Int32) × (Nat → Int32) × (Nat → Int32)) => (r = 1 ∧ goP (nI 2) (cW T) (cM T) (cN T) k) ∨ (r = 0 ∧ ¬ goP (nI 2) (cW T) (cM T) (cN T) k)) (fun (u : Int32 × Int32 × RunS × (Nat → Int32) × (Nat → Int32) × (Nat → Int32) × (Nat → Int32) × (Nat → Int32)) t => cQB dC dI [(ro, .inr (11, [.int u.1, .int u.2.1, .ref rn, .ref rh, .int (nI (lnT T k)), .ref ca, .ref sa, .ref da, .ref xa])), (rn, .inr (12, [.int u.2.2.1.1, .int u.2.2.1.2.1, .int u.2.2.1.2.2.1, .int u.2.2.1.2.2.2.1, .int u.2.2.1.2.2.2.2.1, .int u.2.2.1.2.2.2.2.2.1, .ref tn])), (tn, .inl (cI, 1001, .inl u.2.2.1.2.2.2.2.2.2)), (rh, .inr (12, [.int st2, .int ce2, .int sp2, .int lm2, .int rm2, .int fa2, .ref th])), (th, .inl (cI, 1001, .inl u.2.2.2.1)), (ca, .inl (cI, 501, .inl u.2.2.2.2.1)), (sa, .inl (cI, 501, .inl u.2.2.2.2.2.1)), (da, .inl (cI, 501, .inl u.2.2.2.2.2.2.1)), (xa, .inl (cI, 501, .inl u.2.2.2.2.2.2.2)), (mm, .inr (10, [.int 0, .int 2, .int 2, .ref la, .int wr, .int tl, .int le, .int fi, .int se, .ref oo, .ref hh])), (oo, .inl (cI, 24, .inl o))] [(cI, .int)] (va_A [(ro, .inr (11, [.int f6, .int s6, .ref rn, .ref rh, .int l6, .ref ca, .ref sa, .ref da, .ref xa])), (rn, .inr (12, [.int st, .int ce, .int sp, .int lm, .int rm, .int fa, .ref tn])), (tn, .inl (cI, 1001, .inl nf)), (rh, .inr (12, [.int st2, .int ce2, .int sp2, .int lm2, .int rm2, .int fa2, .ref th])), (th, .inl (cI, 1001, .inl hf)), (ca, .inl (cI, 501, .inl cf)), (sa, .inl (cI, 501, .inl gf)), (da, .inl (cI, 501, .inl df)), (xa, .inl (cI, 501, .inl xf)), (mm, .inr (10, [.int 0, .int 2, .int 2, .ref la, .int wr, .int tl, .int le, .int fi, .int se, .ref oo, .ref hh])), (oo, .inl (cI, 24, .inl o))] sz) t) (va_A [(ro, .inr (11, [.int f6, .int s6, .ref rn, .ref rh, .int l6, .ref ca, .ref sa, .ref da, .ref xa])), (rn, .inr (12, [.int st, .int ce, .int sp, .int lm, .int rm, .int fa, .ref tn])), (tn, .inl (cI, 1001, .inl nf)), (rh, .inr (12, [.int st2, .int ce2, .int sp2, .int lm2, .int rm2, .int fa2, .ref th])), (th, .inl (cI, 1001, .inl hf)), (ca, .inl (cI, 501, .inl cf)), (sa, .inl (cI, 501, .inl gf)), (da, .inl (cI, 501, .inl df)), (xa, .inl (cI, 501, .inl xf)), (mm, .inr (10, [.int 0, .int 2, .int 2, .ref la, .int wr, .int tl, .int le, .int fi, .int se, .ref oo, .ref hh])), (oo, .inl (cI, 24, .inl o))] sz)) 0 0 (va_A [(ro, .inr (11, [.int f6, .int s6, .ref rn, .ref rh, .int l6, .ref ca, .ref sa, .ref da, .ref xa])), (rn, .inr (12, [.int st, .int ce, .int sp, .int lm, .int rm, .int fa, .ref tn])), (tn, .inl (cI, 1001, .inl nf)), (rh, .inr (12, [.int st2, .int ce2, .int sp2, .int lm2, .int rm2, .int fa2, .ref th])), (th, .inl (cI, 1001, .inl hf)), (ca, .inl (cI, 501, .inl cf)), (sa, .inl (cI, 501, .inl gf)), (da, .inl (cI, 501, .inl df)), (xa, .inl (cI, 501, .inl xf)), (mm, .inr (10, [.int 0, .int 2, .int 2, .ref la, .int wr, .int tl, .int le, .int fi, .int se, .ref oo, .ref hh])), (oo, .inl (cI, 24, .inl o))] sz) := by
  refine Met.ofW (cc := cX6_comesBackFarther) (maxL := 3) (ret := (some .boolean)) (by decide) rfl ?_
  intro p e s m args below meth c s₁ B hml hv
  obtain ⟨rfl, hsz, hP, hK, hD0, hN⟩ := hv
  have hx := B.exec
  have hb := B.bytes
  have hr := B.returns
  have hts := atoms_spec (ws := wsX6_comesBackFarther) B.pre
  have hown : s.vm.findClass RX6 = some m.cls := findClass_of_methodNamed B.named
  have hlocks := B.notSynchronized
  subst hsz
  have hD := hD0.self (sz := s.heap.size)
  generalize hAe : va_A [(ro, .inr (11, [.int f6, .int s6, .ref rn, .ref rh, .int l6, .ref ca, .ref sa, .ref da, .ref xa])), (rn, .inr (12, [.int st, .int ce, .int sp, .int lm, .int rm, .int fa, .ref tn])), (tn, .inl (cI, 1001, .inl nf)), (rh, .inr (12, [.int st2, .int ce2, .int sp2, .int lm2, .int rm2, .int fa2, .ref th])), (th, .inl (cI, 1001, .inl hf)), (ca, .inl (cI, 501, .inl cf)), (sa, .inl (cI, 501, .inl gf)), (da, .inl (cI, 501, .inl df)), (xa, .inl (cI, 501, .inl xf)), (mm, .inr (10, [.int 0, .int 2, .int 2, .ref la, .int wr, .int tl, .int le, .int fi, .int se, .ref oo, .ref hh])), (oo, .inl (cI, 24, .inl o))] s.heap.size = A at hD ⊢
  have hA : ∀ q : Nat, s.heap.size ≤ q → A q := fun q h => by rw [← hAe]; exact Or.inr h
  have hS : va_S A s.heap s.heap [] := va_S.rf
  have hP : va_P (dC, dI) vwCl [(ro, .inr (11, [.int f6, .int s6, .ref rn, .ref rh, .int l6, .ref ca, .ref sa, .ref da, .ref xa])), (rn, .inr (12, [.int st, .int ce, .int sp, .int lm, .int rm, .int fa, .ref tn])), (tn, .inl (cI, 1001, .inl nf)), (rh, .inr (12, [.int st2, .int ce2, .int sp2, .int lm2, .int rm2, .int fa2, .ref th])), (th, .inl (cI, 1001, .inl hf)), (ca, .inl (cI, 501, .inl cf)), (sa, .inl (cI, 501, .inl gf)), (da, .inl (cI, 501, .inl df)), (xa, .inl (cI, 501, .inl xf)), (mm, .inr (10, [.int 0, .int 2, .int 2, .ref la, .int wr, .int tl, .int le, .int fi, .int se, .ref oo, .ref hh])), (oo, .inl (cI, 24, .inl o))] s.heap := hP
  have hD : va_D A [(ro, .inr (11, [.int f6, .int s6, .ref rn, .ref rh, .int l6, .ref ca, .ref sa, .ref da, .ref xa])), (rn, .inr (12, [.int st, .int ce, .int sp, .int lm, .int rm, .int fa, .ref tn])), (tn, .inl (cI, 1001, .inl nf)), (rh, .inr (12, [.int st2, .int ce2, .int sp2, .int lm2, .int rm2, .int fa2, .ref th])), (th, .inl (cI, 1001, .inl hf)), (ca, .inl (cI, 501, .inl cf)), (sa, .inl (cI, 501, .inl gf)), (da, .inl (cI, 501, .inl df)), (xa, .inl (cI, 501, .inl xf)), (mm, .inr (10, [.int 0, .int 2, .int 2, .ref la, .int wr, .int tl, .int le, .int fi, .int se, .ref oo, .ref hh])), (oo, .inl (cI, 24, .inl o))] := hD
  have hl := lv_entry ([.ref ro, .ref mm, .int (nI k)]) (n := 3) (Nat.le_of_ble_eq_true rfl)
  rw [lg_entry_eq]
  generalize (lg_sl ([.ref ro, .ref mm, .int (nI k)]) ++ List.replicate (3 - (lg_sl ([.ref ro, .ref mm, .int (nI k)])).length) Slot.unset).toArray = ls at hl ⊢
  have hl : lv_has ls 3 [(0, .ref ro), (1, .ref mm), (2, .int (nI k))] := hl
  refine lv_aload_n hx hb dX6_comesBackFarther_0 rfl (lv_at hl 0 rfl) ?_
  refine lv_aload_n hx hb dX6_comesBackFarther_1 rfl (lv_at hl 1 rfl) ?_
  refine lv_iload_n hx hb dX6_comesBackFarther_2 rfl (lv_at hl 2 rfl) ?_
  have hPc := hP.sub (ws' := [(ro, .inr (11, [.int f6, .int s6, .ref rn, .ref rh, .int l6, .ref ca, .ref sa, .ref da, .ref xa])), (rn, .inr (12, [.int st, .int ce, .int sp, .int lm, .int rm, .int fa, .ref tn])), (tn, .inl (cI, 1001, .inl nf)), (ca, .inl (cI, 501, .inl cf)), (sa, .inl (cI, 501, .inl gf)), (da, .inl (cI, 501, .inl df)), (mm, .inr (10, [.int 0, .int 2, .int 2, .ref la, .int wr, .int tl, .int le, .int fi, .int se, .ref oo, .ref hh])), (oo, .inl (cI, 24, .inl o))]) [0, 1, 2, 5, 6, 7, 9, 10] rfl
  have hDc := hD.sub (ws' := [(ro, .inr (11, [.int f6, .int s6, .ref rn, .ref rh, .int l6, .ref ca, .ref sa, .ref da, .ref xa])), (rn, .inr (12, [.int st, .int ce, .int sp, .int lm, .int rm, .int fa, .ref tn])), (tn, .inl (cI, 1001, .inl nf)), (ca, .inl (cI, 501, .inl cf)), (sa, .inl (cI, 501, .inl gf)), (da, .inl (cI, 501, .inl df)), (mm, .inr (10, [.int 0, .int 2, .int 2, .ref la, .int wr, .int tl, .int le, .int fi, .int se, .ref oo, .ref hh])), (oo, .inl (cI, 24, .inl o))]) [0, 1, 2, 5, 6, 7, 9, 10] (by decide) rfl
  have hKc := hK.sub (tys' := [(cI, .int)]) [0] rfl
  have hFc := va_free (wc := [(ro, .inr (11, [.int f6, .int s6, .ref rn, .ref rh, .int l6, .ref ca, .ref sa, .ref da, .ref xa])), (rn, .inr (12, [.int st, .int ce, .int sp, .int lm, .int rm, .int fa, .ref tn])), (tn, .inl (cI, 1001, .inl nf)), (ca, .inl (cI, 501, .inl cf)), (sa, .inl (cI, 501, .inl gf)), (da, .inl (cI, 501, .inl df)), (mm, .inr (10, [.int 0, .int 2, .int 2, .ref la, .int wr, .int tl, .int le, .int fi, .int se, .ref oo, .ref hh])), (oo, .inl (cI, 24, .inl o))]) hD hS hA [0, 1, 2, 5, 6, 7, 9, 10] rfl
  refine va_callv (va_runV (As := [.ref mm, .int (nI k)]) (rest := []) ⟨hx, hb, hml, hown, hts⟩ (c_X6_writeDown l dC dI cI ro rn rh ca sa da xa tn th f6 s6 l6 st ce sp lm rm fa nf cf gf df mm oo la hh wr tl le fi se S T o hm k hk s.heap.size) (cwV 2 hts gX6_comesBackFarther_X6_writeDown rfl rfl rfl (by decide +kernel) ⟨Nat.le_of_ble_eq_true rfl, Nat.le_of_ble_eq_true rfl⟩) (pcV hPc hDc hKc hN (ci := 11) (q0 := 0) rfl rfl) rfl rfl hl.1 rfl (lv_room (Nat.le_of_ble_eq_true rfl)) dX6_comesBackFarther_3 ⟨Nat.le_of_ble_eq_true rfl, Nat.le_of_ble_eq_true rfl⟩) hS (fun q _ h => hFc q h) hFc (fun u t H1 locs ht hvm hw_11 hB hz1 hk1 hS => ?_)
  obtain ⟨⟨st_1, ce_2, sp_3, lm_4, rm_5, fa_6, f_7⟩, cf_8, gf_9, df_10⟩ := u
  obtain ⟨hP1, hK1, hD1⟩ := hB
  rw [ht] at hP1
  try dsimp only at hw_11
  obtain ⟨hP, hD⟩ := va_join (wr := [(rh, .inr (12, [.int st2, .int ce2, .int sp2, .int lm2, .int rm2, .int fa2, .ref th])), (th, .inl (cI, 1001, .inl hf)), (xa, .inl (cI, 501, .inl xf))]) (w1 := [(ro, .inr (11, [.int f6, .int s6, .ref rn, .ref rh, .int (nI (lnT T k)), .ref ca, .ref sa, .ref da, .ref xa])), (rn, .inr (12, [.int st_1, .int ce_2, .int sp_3, .int lm_4, .int rm_5, .int fa_6, .ref tn])), (tn, .inl (cI, 1001, .inl f_7)), (ca, .inl (cI, 501, .inl cf_8)), (sa, .inl (cI, 501, .inl gf_9)), (da, .inl (cI, 501, .inl df_10)), (mm, .inr (10, [.int 0, .int 2, .int 2, .ref la, .int wr, .int tl, .int le, .int fi, .int se, .ref oo, .ref hh])), (oo, .inl (cI, 24, .inl o))]) hP hD [0, 1, 2, 5, 6, 7, 9, 10] [3, 4, 8] rfl rfl (by decide) (by decide) hk1 hFc hP1 hD1
  generalize H1 = H at hP hS ⊢
  have hP : va_P (dC, dI) vwCl [(rh, .inr (12, [.int st2, .int ce2, .int sp2, .int lm2, .int rm2, .int fa2, .ref th])), (th, .inl (cI, 1001, .inl hf)), (xa, .inl (cI, 501, .inl xf)), (ro, .inr (11, [.int f6, .int s6, .ref rn, .ref rh, .int (nI (lnT T k)), .ref ca, .ref sa, .ref da, .ref xa])), (rn, .inr (12, [.int st_1, .int ce_2, .int sp_3, .int lm_4, .int rm_5, .int fa_6, .ref tn])), (tn, .inl (cI, 1001, .inl f_7)), (ca, .inl (cI, 501, .inl cf_8)), (sa, .inl (cI, 501, .inl gf_9)), (da, .inl (cI, 501, .inl df_10)), (mm, .inr (10, [.int 0, .int 2, .int 2, .ref la, .int wr, .int tl, .int le, .int fi, .int se, .ref oo, .ref hh])), (oo, .inl (cI, 24, .inl o))] H := hP
  have hD : va_D A [(rh, .inr (12, [.int st2, .int ce2, .int sp2, .int lm2, .int rm2, .int fa2, .ref th])), (th, .inl (cI, 1001, .inl hf)), (xa, .inl (cI, 501, .inl xf)), (ro, .inr (11, [.int f6, .int s6, .ref rn, .ref rh, .int (nI (lnT T k)), .ref ca, .ref sa, .ref da, .ref xa])), (rn, .inr (12, [.int st_1, .int ce_2, .int sp_3, .int lm_4, .int rm_5, .int fa_6, .ref tn])), (tn, .inl (cI, 1001, .inl f_7)), (ca, .inl (cI, 501, .inl cf_8)), (sa, .inl (cI, 501, .inl gf_9)), (da, .inl (cI, 501, .inl df_10)), (mm, .inr (10, [.int 0, .int 2, .int 2, .ref la, .int wr, .int tl, .int le, .int fi, .int se, .ref oo, .ref hh])), (oo, .inl (cI, 24, .inl o))] := hD
  refine lv_aload_n hx hb dX6_comesBackFarther_6 rfl (lv_at hl 0 rfl) ?_
  refine lv_aload_n hx hb dX6_comesBackFarther_7 rfl (lv_at hl 1 rfl) ?_
  refine lv_iconst (v := 1) hx hb dX6_comesBackFarther_8 (by decide) ?_
  have hPc := hP.sub (ws' := [(ro, .inr (11, [.int f6, .int s6, .ref rn, .ref rh, .int (nI (lnT T k)), .ref ca, .ref sa, .ref da, .ref xa])), (rn, .inr (12, [.int st_1, .int ce_2, .int sp_3, .int lm_4, .int rm_5, .int fa_6, .ref tn])), (tn, .inl (cI, 1001, .inl f_7)), (rh, .inr (12, [.int st2, .int ce2, .int sp2, .int lm2, .int rm2, .int fa2, .ref th])), (th, .inl (cI, 1001, .inl hf)), (ca, .inl (cI, 501, .inl cf_8)), (sa, .inl (cI, 501, .inl gf_9)), (da, .inl (cI, 501, .inl df_10)), (xa, .inl (cI, 501, .inl xf)), (mm, .inr (10, [.int 0, .int 2, .int 2, .ref la, .int wr, .int tl, .int le, .int fi, .int se, .ref oo, .ref hh])), (oo, .inl (cI, 24, .inl o))]) [3, 4, 5, 0, 1, 6, 7, 8, 2, 9, 10] rfl
  have hDc := hD.sub (ws' := [(ro, .inr (11, [.int f6, .int s6, .ref rn, .ref rh, .int (nI (lnT T k)), .ref ca, .ref sa, .ref da, .ref xa])), (rn, .inr (12, [.int st_1, .int ce_2, .int sp_3, .int lm_4, .int rm_5, .int fa_6, .ref tn])), (tn, .inl (cI, 1001, .inl f_7)), (rh, .inr (12, [.int st2, .int ce2, .int sp2, .int lm2, .int rm2, .int fa2, .ref th])), (th, .inl (cI, 1001, .inl hf)), (ca, .inl (cI, 501, .inl cf_8)), (sa, .inl (cI, 501, .inl gf_9)), (da, .inl (cI, 501, .inl df_10)), (xa, .inl (cI, 501, .inl xf)), (mm, .inr (10, [.int 0, .int 2, .int 2, .ref la, .int wr, .int tl, .int le, .int fi, .int se, .ref oo, .ref hh])), (oo, .inl (cI, 24, .inl o))]) [3, 4, 5, 0, 1, 6, 7, 8, 2, 9, 10] (by decide) rfl
  have hKc := hK.sub (tys' := [(cI, .int)]) [0] rfl
  have hFc := va_free (wc := [(ro, .inr (11, [.int f6, .int s6, .ref rn, .ref rh, .int (nI (lnT T k)), .ref ca, .ref sa, .ref da, .ref xa])), (rn, .inr (12, [.int st_1, .int ce_2, .int sp_3, .int lm_4, .int rm_5, .int fa_6, .ref tn])), (tn, .inl (cI, 1001, .inl f_7)), (rh, .inr (12, [.int st2, .int ce2, .int sp2, .int lm2, .int rm2, .int fa2, .ref th])), (th, .inl (cI, 1001, .inl hf)), (ca, .inl (cI, 501, .inl cf_8)), (sa, .inl (cI, 501, .inl gf_9)), (da, .inl (cI, 501, .inl df_10)), (xa, .inl (cI, 501, .inl xf)), (mm, .inr (10, [.int 0, .int 2, .int 2, .ref la, .int wr, .int tl, .int le, .int fi, .int se, .ref oo, .ref hh])), (oo, .inl (cI, 24, .inl o))]) hD hS hA [3, 4, 5, 0, 1, 6, 7, 8, 2, 9, 10] rfl
  refine va_calli (va_runV (As := [.ref mm, .int 1]) (rest := []) ⟨hx, hb, hml, hown, hts⟩ (c_X6_comesFarther l dC dI cI ro rn rh ca sa da xa tn th f6 s6 st_1 ce_2 sp_3 lm_4 rm_5 fa_6 f_7 st2 ce2 sp2 lm2 rm2 fa2 hf cf_8 gf_9 df_10 xf mm oo la hh wr tl le fi se S T o hm 1 (cM T) (Or.inl ⟨rfl, rfl⟩) (lnT T k) (by have := (lnT_al T k).2; omega) (lnT_al T k).1 hw_11.2 H.size) (cwV 2 hts gX6_comesBackFarther_X6_comesFarther rfl rfl rfl (by decide +kernel) ⟨Nat.le_of_ble_eq_true rfl, Nat.le_of_ble_eq_true rfl⟩) (pcV hPc hDc hKc hN (ci := 11) (q0 := 0) rfl rfl) rfl rfl hl.1 rfl (lv_room (Nat.le_of_ble_eq_true rfl)) dX6_comesBackFarther_9 ⟨Nat.le_of_ble_eq_true rfl, Nat.le_of_ble_eq_true rfl⟩) hS (fun q _ h => hFc q h) hFc (fun r_23 u t H1 locs ht hvm hw_24 hB hz1 hk1 hS => ?_)
  obtain ⟨fi_19, se_20, ⟨st_12, ce_13, sp_14, lm_15, rm_16, fa_17, nf_18⟩, hf_21, xf_22⟩ := u
  obtain ⟨hP1, hK1, hD1⟩ := hB
  rw [ht] at hP1
  try dsimp only at hw_24
  obtain ⟨hP, hD⟩ := va_join (wr := []) (w1 := [(ro, .inr (11, [.int fi_19, .int se_20, .ref rn, .ref rh, .int (nI (lnT T k)), .ref ca, .ref sa, .ref da, .ref xa])), (rn, .inr (12, [.int st_12, .int ce_13, .int sp_14, .int lm_15, .int rm_16, .int fa_17, .ref tn])), (tn, .inl (cI, 1001, .inl nf_18)), (rh, .inr (12, [.int st2, .int ce2, .int sp2, .int lm2, .int rm2, .int fa2, .ref th])), (th, .inl (cI, 1001, .inl hf_21)), (ca, .inl (cI, 501, .inl cf_8)), (sa, .inl (cI, 501, .inl gf_9)), (da, .inl (cI, 501, .inl df_10)), (xa, .inl (cI, 501, .inl xf_22)), (mm, .inr (10, [.int 0, .int 2, .int 2, .ref la, .int wr, .int tl, .int le, .int fi, .int se, .ref oo, .ref hh])), (oo, .inl (cI, 24, .inl o))]) hP hD [3, 4, 5, 0, 1, 6, 7, 8, 2, 9, 10] [] rfl rfl (by decide) (by decide) hk1 hFc hP1 hD1
  generalize H1 = H at hP hS ⊢
  have hP : va_P (dC, dI) vwCl [(ro, .inr (11, [.int fi_19, .int se_20, .ref rn, .ref rh, .int (nI (lnT T k)), .ref ca, .ref sa, .ref da, .ref xa])), (rn, .inr (12, [.int st_12, .int ce_13, .int sp_14, .int lm_15, .int rm_16, .int fa_17, .ref tn])), (tn, .inl (cI, 1001, .inl nf_18)), (rh, .inr (12, [.int st2, .int ce2, .int sp2, .int lm2, .int rm2, .int fa2, .ref th])), (th, .inl (cI, 1001, .inl hf_21)), (ca, .inl (cI, 501, .inl cf_8)), (sa, .inl (cI, 501, .inl gf_9)), (da, .inl (cI, 501, .inl df_10)), (xa, .inl (cI, 501, .inl xf_22)), (mm, .inr (10, [.int 0, .int 2, .int 2, .ref la, .int wr, .int tl, .int le, .int fi, .int se, .ref oo, .ref hh])), (oo, .inl (cI, 24, .inl o))] H := hP
  have hD : va_D A [(ro, .inr (11, [.int fi_19, .int se_20, .ref rn, .ref rh, .int (nI (lnT T k)), .ref ca, .ref sa, .ref da, .ref xa])), (rn, .inr (12, [.int st_12, .int ce_13, .int sp_14, .int lm_15, .int rm_16, .int fa_17, .ref tn])), (tn, .inl (cI, 1001, .inl nf_18)), (rh, .inr (12, [.int st2, .int ce2, .int sp2, .int lm2, .int rm2, .int fa2, .ref th])), (th, .inl (cI, 1001, .inl hf_21)), (ca, .inl (cI, 501, .inl cf_8)), (sa, .inl (cI, 501, .inl gf_9)), (da, .inl (cI, 501, .inl df_10)), (xa, .inl (cI, 501, .inl xf_22)), (mm, .inr (10, [.int 0, .int 2, .int 2, .ref la, .int wr, .int tl, .int le, .int fi, .int se, .ref oo, .ref hh])), (oo, .inl (cI, 24, .inl o))] := hD
  refine lv_if_ne (tgt := 24) hx hb dX6_comesBackFarther_12 (by decide) (fun c12_25 => ?_) (fun c12_25 => ?_)
  · refine lv_iconst (v := 1) hx hb dX6_comesBackFarther_24 (by decide) ?_
    refine lv_goto (tgt := 29) hx hb dX6_comesBackFarther_25 (by decide) ?_
    have hP9 := hP.sub (ws' := [(ro, .inr (11, [.int fi_19, .int se_20, .ref rn, .ref rh, .int (nI (lnT T k)), .ref ca, .ref sa, .ref da, .ref xa])), (rn, .inr (12, [.int st_12, .int ce_13, .int sp_14, .int lm_15, .int rm_16, .int fa_17, .ref tn])), (tn, .inl (cI, 1001, .inl nf_18)), (rh, .inr (12, [.int st2, .int ce2, .int sp2, .int lm2, .int rm2, .int fa2, .ref th])), (th, .inl (cI, 1001, .inl hf_21)), (ca, .inl (cI, 501, .inl cf_8)), (sa, .inl (cI, 501, .inl gf_9)), (da, .inl (cI, 501, .inl df_10)), (xa, .inl (cI, 501, .inl xf_22)), (mm, .inr (10, [.int 0, .int 2, .int 2, .ref la, .int wr, .int tl, .int le, .int fi, .int se, .ref oo, .ref hh])), (oo, .inl (cI, 24, .inl o))]) [0, 1, 2, 3, 4, 5, 6, 7, 8, 9, 10] rfl
    have hD9 := hD.sub (ws' := [(ro, .inr (11, [.int fi_19, .int se_20, .ref rn, .ref rh, .int (nI (lnT T k)), .ref ca, .ref sa, .ref da, .ref xa])), (rn, .inr (12, [.int st_12, .int ce_13, .int sp_14, .int lm_15, .int rm_16, .int fa_17, .ref tn])), (tn, .inl (cI, 1001, .inl nf_18)), (rh, .inr (12, [.int st2, .int ce2, .int sp2, .int lm2, .int rm2, .int fa2, .ref th])), (th, .inl (cI, 1001, .inl hf_21)), (ca, .inl (cI, 501, .inl cf_8)), (sa, .inl (cI, 501, .inl gf_9)), (da, .inl (cI, 501, .inl df_10)), (xa, .inl (cI, 501, .inl xf_22)), (mm, .inr (10, [.int 0, .int 2, .int 2, .ref la, .int wr, .int tl, .int le, .int fi, .int se, .ref oo, .ref hh])), (oo, .inl (cI, 24, .inl o))]) [0, 1, 2, 3, 4, 5, 6, 7, 8, 9, 10] (by decide) rfl
    have hK9 := hK.sub (tys' := [(cI, .int)]) [0] rfl
    exact W.zret (v := 1) hx hb hr (by rfl) (fun t ht hW => ⟨⟨1, (fi_19, se_20, (st_12, ce_13, sp_14, lm_15, rm_16, fa_17, nf_18), hf_21, cf_8, gf_9, df_10, xf_22), rfl, (Or.inl ⟨rfl, Or.inl ((far_no hm.1 hm.2.1 (by have := hm.2.2.1; omega) (Or.inl ⟨rfl, rfl⟩ : sdP T 1 (cM T)) k).mpr (hw_24.elim (fun h => h.2) (fun h => absurd h.1 c12_25)))⟩), ⟨by rw [ht]; exact hP9, va_K.moved hW.alike hK9, hD9⟩⟩, hS.F ht⟩) hS.2.2 dX6_comesBackFarther_29
  · refine lv_aload_n hx hb dX6_comesBackFarther_15 rfl (lv_at hl 0 rfl) ?_
    refine lv_aload_n hx hb dX6_comesBackFarther_16 rfl (lv_at hl 1 rfl) ?_
    refine lv_iconst (v := (-1)) hx hb dX6_comesBackFarther_17 (by decide) ?_
    have hPc := hP.sub (ws' := [(ro, .inr (11, [.int fi_19, .int se_20, .ref rn, .ref rh, .int (nI (lnT T k)), .ref ca, .ref sa, .ref da, .ref xa])), (rn, .inr (12, [.int st_12, .int ce_13, .int sp_14, .int lm_15, .int rm_16, .int fa_17, .ref tn])), (tn, .inl (cI, 1001, .inl nf_18)), (rh, .inr (12, [.int st2, .int ce2, .int sp2, .int lm2, .int rm2, .int fa2, .ref th])), (th, .inl (cI, 1001, .inl hf_21)), (ca, .inl (cI, 501, .inl cf_8)), (sa, .inl (cI, 501, .inl gf_9)), (da, .inl (cI, 501, .inl df_10)), (xa, .inl (cI, 501, .inl xf_22)), (mm, .inr (10, [.int 0, .int 2, .int 2, .ref la, .int wr, .int tl, .int le, .int fi, .int se, .ref oo, .ref hh])), (oo, .inl (cI, 24, .inl o))]) [0, 1, 2, 3, 4, 5, 6, 7, 8, 9, 10] rfl
    have hDc := hD.sub (ws' := [(ro, .inr (11, [.int fi_19, .int se_20, .ref rn, .ref rh, .int (nI (lnT T k)), .ref ca, .ref sa, .ref da, .ref xa])), (rn, .inr (12, [.int st_12, .int ce_13, .int sp_14, .int lm_15, .int rm_16, .int fa_17, .ref tn])), (tn, .inl (cI, 1001, .inl nf_18)), (rh, .inr (12, [.int st2, .int ce2, .int sp2, .int lm2, .int rm2, .int fa2, .ref th])), (th, .inl (cI, 1001, .inl hf_21)), (ca, .inl (cI, 501, .inl cf_8)), (sa, .inl (cI, 501, .inl gf_9)), (da, .inl (cI, 501, .inl df_10)), (xa, .inl (cI, 501, .inl xf_22)), (mm, .inr (10, [.int 0, .int 2, .int 2, .ref la, .int wr, .int tl, .int le, .int fi, .int se, .ref oo, .ref hh])), (oo, .inl (cI, 24, .inl o))]) [0, 1, 2, 3, 4, 5, 6, 7, 8, 9, 10] (by decide) rfl
    have hKc := hK.sub (tys' := [(cI, .int)]) [0] rfl
    have hFc := va_free (wc := [(ro, .inr (11, [.int fi_19, .int se_20, .ref rn, .ref rh, .int (nI (lnT T k)), .ref ca, .ref sa, .ref da, .ref xa])), (rn, .inr (12, [.int st_12, .int ce_13, .int sp_14, .int lm_15, .int rm_16, .int fa_17, .ref tn])), (tn, .inl (cI, 1001, .inl nf_18)), (rh, .inr (12, [.int st2, .int ce2, .int sp2, .int lm2, .int rm2, .int fa2, .ref th])), (th, .inl (cI, 1001, .inl hf_21)), (ca, .inl (cI, 501, .inl cf_8)), (sa, .inl (cI, 501, .inl gf_9)), (da, .inl (cI, 501, .inl df_10)), (xa, .inl (cI, 501, .inl xf_22)), (mm, .inr (10, [.int 0, .int 2, .int 2, .ref la, .int wr, .int tl, .int le, .int fi, .int se, .ref oo, .ref hh])), (oo, .inl (cI, 24, .inl o))]) hD hS hA [0, 1, 2, 3, 4, 5, 6, 7, 8, 9, 10] rfl
    refine va_calli (va_runV (As := [.ref mm, .int (-1)]) (rest := []) ⟨hx, hb, hml, hown, hts⟩ (c_X6_comesFarther l dC dI cI ro rn rh ca sa da xa tn th fi_19 se_20 st_12 ce_13 sp_14 lm_15 rm_16 fa_17 nf_18 st2 ce2 sp2 lm2 rm2 fa2 hf_21 cf_8 gf_9 df_10 xf_22 mm oo la hh wr tl le fi se S T o hm (-1) (mirM (cM T)) (Or.inr ⟨rfl, rfl⟩) (lnT T k) (by have := (lnT_al T k).2; omega) (lnT_al T k).1 hw_11.2 H.size) (cwV 2 hts gX6_comesBackFarther_X6_comesFarther rfl rfl rfl (by decide +kernel) ⟨Nat.le_of_ble_eq_true rfl, Nat.le_of_ble_eq_true rfl⟩) (pcV hPc hDc hKc hN (ci := 11) (q0 := 0) rfl rfl) rfl rfl hl.1 rfl (lv_room (Nat.le_of_ble_eq_true rfl)) dX6_comesBackFarther_18 ⟨Nat.le_of_ble_eq_true rfl, Nat.le_of_ble_eq_true rfl⟩) hS (fun q _ h => hFc q h) hFc (fun r_37 u t H1 locs ht hvm hw_38 hB hz1 hk1 hS => ?_)
    obtain ⟨fi_33, se_34, ⟨st_26, ce_27, sp_28, lm_29, rm_30, fa_31, nf_32⟩, hf_35, xf_36⟩ := u
    obtain ⟨hP1, hK1, hD1⟩ := hB
    rw [ht] at hP1
    try dsimp only at hw_38
    obtain ⟨hP, hD⟩ := va_join (wr := []) (w1 := [(ro, .inr (11, [.int fi_33, .int se_34, .ref rn, .ref rh, .int (nI (lnT T k)), .ref ca, .ref sa, .ref da, .ref xa])), (rn, .inr (12, [.int st_26, .int ce_27, .int sp_28, .int lm_29, .int rm_30, .int fa_31, .ref tn])), (tn, .inl (cI, 1001, .inl nf_32)), (rh, .inr (12, [.int st2, .int ce2, .int sp2, .int lm2, .int rm2, .int fa2, .ref th])), (th, .inl (cI, 1001, .inl hf_35)), (ca, .inl (cI, 501, .inl cf_8)), (sa, .inl (cI, 501, .inl gf_9)), (da, .inl (cI, 501, .inl df_10)), (xa, .inl (cI, 501, .inl xf_36)), (mm, .inr (10, [.int 0, .int 2, .int 2, .ref la, .int wr, .int tl, .int le, .int fi, .int se, .ref oo, .ref hh])), (oo, .inl (cI, 24, .inl o))]) hP hD [0, 1, 2, 3, 4, 5, 6, 7, 8, 9, 10] [] rfl rfl (by decide) (by decide) hk1 hFc hP1 hD1
    generalize H1 = H at hP hS ⊢
    have hP : va_P (dC, dI) vwCl [(ro, .inr (11, [.int fi_33, .int se_34, .ref rn, .ref rh, .int (nI (lnT T k)), .ref ca, .ref sa, .ref da, .ref xa])), (rn, .inr (12, [.int st_26, .int ce_27, .int sp_28, .int lm_29, .int rm_30, .int fa_31, .ref tn])), (tn, .inl (cI, 1001, .inl nf_32)), (rh, .inr (12, [.int st2, .int ce2, .int sp2, .int lm2, .int rm2, .int fa2, .ref th])), (th, .inl (cI, 1001, .inl hf_35)), (ca, .inl (cI, 501, .inl cf_8)), (sa, .inl (cI, 501, .inl gf_9)), (da, .inl (cI, 501, .inl df_10)), (xa, .inl (cI, 501, .inl xf_36)), (mm, .inr (10, [.int 0, .int 2, .int 2, .ref la, .int wr, .int tl, .int le, .int fi, .int se, .ref oo, .ref hh])), (oo, .inl (cI, 24, .inl o))] H := hP
    have hD : va_D A [(ro, .inr (11, [.int fi_33, .int se_34, .ref rn, .ref rh, .int (nI (lnT T k)), .ref ca, .ref sa, .ref da, .ref xa])), (rn, .inr (12, [.int st_26, .int ce_27, .int sp_28, .int lm_29, .int rm_30, .int fa_31, .ref tn])), (tn, .inl (cI, 1001, .inl nf_32)), (rh, .inr (12, [.int st2, .int ce2, .int sp2, .int lm2, .int rm2, .int fa2, .ref th])), (th, .inl (cI, 1001, .inl hf_35)), (ca, .inl (cI, 501, .inl cf_8)), (sa, .inl (cI, 501, .inl gf_9)), (da, .inl (cI, 501, .inl df_10)), (xa, .inl (cI, 501, .inl xf_36)), (mm, .inr (10, [.int 0, .int 2, .int 2, .ref la, .int wr, .int tl, .int le, .int fi, .int se, .ref oo, .ref hh])), (oo, .inl (cI, 24, .inl o))] := hD
    refine lv_if_eq (tgt := 28) hx hb dX6_comesBackFarther_21 (by decide) (fun c21_39 => ?_) (fun c21_39 => ?_)
    · refine lv_iconst (v := 0) hx hb dX6_comesBackFarther_28 (by decide) ?_
      have hP9 := hP.sub (ws' := [(ro, .inr (11, [.int fi_33, .int se_34, .ref rn, .ref rh, .int (nI (lnT T k)), .ref ca, .ref sa, .ref da, .ref xa])), (rn, .inr (12, [.int st_26, .int ce_27, .int sp_28, .int lm_29, .int rm_30, .int fa_31, .ref tn])), (tn, .inl (cI, 1001, .inl nf_32)), (rh, .inr (12, [.int st2, .int ce2, .int sp2, .int lm2, .int rm2, .int fa2, .ref th])), (th, .inl (cI, 1001, .inl hf_35)), (ca, .inl (cI, 501, .inl cf_8)), (sa, .inl (cI, 501, .inl gf_9)), (da, .inl (cI, 501, .inl df_10)), (xa, .inl (cI, 501, .inl xf_36)), (mm, .inr (10, [.int 0, .int 2, .int 2, .ref la, .int wr, .int tl, .int le, .int fi, .int se, .ref oo, .ref hh])), (oo, .inl (cI, 24, .inl o))]) [0, 1, 2, 3, 4, 5, 6, 7, 8, 9, 10] rfl
      have hD9 := hD.sub (ws' := [(ro, .inr (11, [.int fi_33, .int se_34, .ref rn, .ref rh, .int (nI (lnT T k)), .ref ca, .ref sa, .ref da, .ref xa])), (rn, .inr (12, [.int st_26, .int ce_27, .int sp_28, .int lm_29, .int rm_30, .int fa_31, .ref tn])), (tn, .inl (cI, 1001, .inl nf_32)), (rh, .inr (12, [.int st2, .int ce2, .int sp2, .int lm2, .int rm2, .int fa2, .ref th])), (th, .inl (cI, 1001, .inl hf_35)), (ca, .inl (cI, 501, .inl cf_8)), (sa, .inl (cI, 501, .inl gf_9)), (da, .inl (cI, 501, .inl df_10)), (xa, .inl (cI, 501, .inl xf_36)), (mm, .inr (10, [.int 0, .int 2, .int 2, .ref la, .int wr, .int tl, .int le, .int fi, .int se, .ref oo, .ref hh])), (oo, .inl (cI, 24, .inl o))]) [0, 1, 2, 3, 4, 5, 6, 7, 8, 9, 10] (by decide) rfl
      have hK9 := hK.sub (tys' := [(cI, .int)]) [0] rfl
      exact W.zret (v := 0) hx hb hr (by rfl) (fun t ht hW => ⟨⟨0, (fi_33, se_34, (st_26, ce_27, sp_28, lm_29, rm_30, fa_31, nf_32), hf_35, cf_8, gf_9, df_10, xf_36), rfl, (Or.inr ⟨rfl, fun h => h.elim (fun h => (far_no hm.1 hm.2.1 (by have := hm.2.2.1; omega) (Or.inl ⟨rfl, rfl⟩ : sdP T 1 (cM T)) k).mp h (hw_24.elim (fun h => absurd (h.1.symm.trans c12_25) (by decide)) (fun h => h.2))) (fun h => (far_no hm.1 hm.2.1 (by have := hm.2.2.1; omega) (Or.inr ⟨rfl, rfl⟩ : sdP T (-1) (mirM (cM T))) k).mp h (hw_38.elim (fun h => absurd (h.1.symm.trans c21_39) (by decide)) (fun h => h.2)))⟩), ⟨by rw [ht]; exact hP9, va_K.moved hW.alike hK9, hD9⟩⟩, hS.F ht⟩) hS.2.2 dX6_comesBackFarther_29
    · refine lv_iconst (v := 1) hx hb dX6_comesBackFarther_24 (by decide) ?_
      refine lv_goto (tgt := 29) hx hb dX6_comesBackFarther_25 (by decide) ?_
      have hP9 := hP.sub (ws' := [(ro, .inr (11, [.int fi_33, .int se_34, .ref rn, .ref rh, .int (nI (lnT T k)), .ref ca, .ref sa, .ref da, .ref xa])), (rn, .inr (12, [.int st_26, .int ce_27, .int sp_28, .int lm_29, .int rm_30, .int fa_31, .ref tn])), (tn, .inl (cI, 1001, .inl nf_32)), (rh, .inr (12, [.int st2, .int ce2, .int sp2, .int lm2, .int rm2, .int fa2, .ref th])), (th, .inl (cI, 1001, .inl hf_35)), (ca, .inl (cI, 501, .inl cf_8)), (sa, .inl (cI, 501, .inl gf_9)), (da, .inl (cI, 501, .inl df_10)), (xa, .inl (cI, 501, .inl xf_36)), (mm, .inr (10, [.int 0, .int 2, .int 2, .ref la, .int wr, .int tl, .int le, .int fi, .int se, .ref oo, .ref hh])), (oo, .inl (cI, 24, .inl o))]) [0, 1, 2, 3, 4, 5, 6, 7, 8, 9, 10] rfl
      have hD9 := hD.sub (ws' := [(ro, .inr (11, [.int fi_33, .int se_34, .ref rn, .ref rh, .int (nI (lnT T k)), .ref ca, .ref sa, .ref da, .ref xa])), (rn, .inr (12, [.int st_26, .int ce_27, .int sp_28, .int lm_29, .int rm_30, .int fa_31, .ref tn])), (tn, .inl (cI, 1001, .inl nf_32)), (rh, .inr (12, [.int st2, .int ce2, .int sp2, .int lm2, .int rm2, .int fa2, .ref th])), (th, .inl (cI, 1001, .inl hf_35)), (ca, .inl (cI, 501, .inl cf_8)), (sa, .inl (cI, 501, .inl gf_9)), (da, .inl (cI, 501, .inl df_10)), (xa, .inl (cI, 501, .inl xf_36)), (mm, .inr (10, [.int 0, .int 2, .int 2, .ref la, .int wr, .int tl, .int le, .int fi, .int se, .ref oo, .ref hh])), (oo, .inl (cI, 24, .inl o))]) [0, 1, 2, 3, 4, 5, 6, 7, 8, 9, 10] (by decide) rfl
      have hK9 := hK.sub (tys' := [(cI, .int)]) [0] rfl
      exact W.zret (v := 1) hx hb hr (by rfl) (fun t ht hW => ⟨⟨1, (fi_33, se_34, (st_26, ce_27, sp_28, lm_29, rm_30, fa_31, nf_32), hf_35, cf_8, gf_9, df_10, xf_36), rfl, (Or.inl ⟨rfl, Or.inr ((far_no hm.1 hm.2.1 (by have := hm.2.2.1; omega) (Or.inr ⟨rfl, rfl⟩ : sdP T (-1) (mirM (cM T))) k).mpr (hw_38.elim (fun h => h.2) (fun h => absurd h.1 c21_39)))⟩), ⟨by rw [ht]; exact hP9, va_K.moved hW.alike hK9, hD9⟩⟩, hS.F ht⟩) hS.2.2 dX6_comesBackFarther_29
