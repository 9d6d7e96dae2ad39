theorem dX15_thrown_0 : decode cX15_thrown 0 = .ok (.aload_n 0, 1) := by decide +kernel
theorem dX15_thrown_1 : decode cX15_thrown 1 = .ok (.getfield 209, 3) := by decide +kernel
theorem dX15_thrown_4 : decode cX15_thrown 4 = .ok (.ireturn, 1) := by decide +kernel
theorem dX15_raises_0 : decode cX15_raises 0 = .ok (.aload_n 0, 1) := by decide +kernel
theorem dX15_raises_1 : decode cX15_raises 1 = .ok (.iload_n 1, 1) := by decide +kernel
theorem dX15_raises_2 : decode cX15_raises 2 = .ok (.putfield 209, 3) := by decide +kernel
theorem dX15_raises_5 : decode cX15_raises 5 = .ok (.iconst 0, 1) := by decide +kernel
theorem dX15_raises_6 : decode cX15_raises 6 = .ok (.ireturn, 1) := by decide +kernel
theorem dX15_noMachine_0 : decode cX15_noMachine 0 = .ok (.aload_n 0, 1) := by decide +kernel
theorem dX15_noMachine_1 : decode cX15_noMachine 1 = .ok (.iload_n 1, 1) := by decide +kernel
theorem dX15_noMachine_2 : decode cX15_noMachine 2 = .ok (.i2l, 1) := by decide +kernel
theorem dX15_noMachine_3 : decode cX15_noMachine 3 = .ok (.lconst 0, 1) := by decide +kernel
theorem dX15_noMachine_4 : decode cX15_noMachine 4 = .ok (.aload_n 0, 1) := by decide +kernel
theorem dX15_noMachine_5 : decode cX15_noMachine 5 = .ok (.getfield 181, 3) := by decide +kernel
set_option maxRecDepth 20000 in
theorem ggX15_noMachine_Jx4a65c_size_8abf5 : GoodIn wsX15_noMachine wsJx4a65c_size_8abf5 := goodIn_r _ [7, 8, 34, 35, 36] rfl (by decide +kernel)
set_option maxRecDepth 20000 in
theorem gX15_noMachine_Jx4a65c_size_8abf5 : GoodIn wsX15_noMachine (wsV RX15 212 RJx4a65c yJx4a65c_size_8abf5 wsJx4a65c_size_8abf5) := goodIn_app (goodIn_of _ (by decide +kernel)) ggX15_noMachine_Jx4a65c_size_8abf5
theorem dX15_noMachine_8 : decode cX15_noMachine 8 = .ok (.invokevirtual 212, 3) := by decide +kernel
theorem dX15_noMachine_11 : decode cX15_noMachine 11 = .ok (.iconst 1, 1) := by decide +kernel
theorem dX15_noMachine_12 : decode cX15_noMachine 12 = .ok (.isub, 1) := by decide +kernel
theorem dX15_noMachine_13 : decode cX15_noMachine 13 = .ok (.i2l, 1) := by decide +kernel
set_option maxRecDepth 20000 in
theorem ggX15_noMachine_X15_in : GoodIn wsX15_noMachine wsX15_in := goodIn_r _ [12] rfl (by decide +kernel)
set_option maxRecDepth 20000 in
theorem gX15_noMachine_X15_in : GoodIn wsX15_noMachine (va_wsS RX15 170 yX15_in wsX15_in) := goodIn_app (goodIn_of _ (by decide +kernel)) ggX15_noMachine_X15_in
theorem dX15_noMachine_14 : decode cX15_noMachine 14 = .ok (.invokestatic 170, 3) := by decide +kernel
theorem dX15_noMachine_17 : decode cX15_noMachine 17 = .ok (.ifCond .eq 7, 3) := by decide +kernel
theorem dX15_noMachine_24 : decode cX15_noMachine 24 = .ok (.iconst 1, 1) := by decide +kernel
theorem dX15_noMachine_25 : decode cX15_noMachine 25 = .ok (.putfield 209, 3) := by decide +kernel
theorem dX15_noMachine_28 : decode cX15_noMachine 28 = .ok (.aload_n 0, 1) := by decide +kernel
theorem dX15_noMachine_29 : decode cX15_noMachine 29 = .ok (.getfield 209, 3) := by decide +kernel
theorem dX15_noMachine_32 : decode cX15_noMachine 32 = .ok (.ifCond .le 7, 3) := by decide +kernel
theorem dX15_noMachine_35 : decode cX15_noMachine 35 = .ok (.iconst 1, 1) := by decide +kernel
theorem dX15_noMachine_36 : decode cX15_noMachine 36 = .ok (.goto 4, 3) := by decide +kernel
theorem dX15_noMachine_40 : decode cX15_noMachine 40 = .ok (.ireturn, 1) := by decide +kernel
theorem dX15_lastOf_0 : decode cX15_lastOf 0 = .ok (.aload_n 0, 1) := by decide +kernel
theorem dX15_lastOf_1 : decode cX15_lastOf 1 = .ok (.iload_n 1, 1) := by decide +kernel
set_option maxRecDepth 20000 in
theorem ggX15_lastOf_X15_noMachine : GoodIn wsX15_lastOf wsX15_noMachine := goodIn_r _ [8, 1, 3, 9, 10, 11, 12, 13, 14, 15, 16, 7, 17, 35, 36, 37, 38, 39, 40, 41, 42, 43, 44, 45, 46, 47, 48, 49, 50, 51, 52, 53, 54, 55, 68, 69, 70] rfl (by decide +kernel)
set_option maxRecDepth 20000 in
theorem gX15_lastOf_X15_noMachine : GoodIn wsX15_lastOf (wsV RX15 228 RX15 yX15_noMachine wsX15_noMachine) := goodIn_app (goodIn_of _ (by decide +kernel)) ggX15_lastOf_X15_noMachine
theorem dX15_lastOf_2 : decode cX15_lastOf 2 = .ok (.invokevirtual 228, 3) := by decide +kernel
theorem dX15_lastOf_5 : decode cX15_lastOf 5 = .ok (.ifCond .eq 5, 3) := by decide +kernel
theorem dX15_lastOf_8 : decode cX15_lastOf 8 = .ok (.aconst_null, 1) := by decide +kernel
theorem dX15_lastOf_9 : decode cX15_lastOf 9 = .ok (.areturn, 1) := by decide +kernel
theorem dX15_order_0 : decode cX15_order 0 = .ok (.aload_n 0, 1) := by decide +kernel
theorem dX15_order_1 : decode cX15_order 1 = .ok (.iload_n 1, 1) := by decide +kernel
set_option maxRecDepth 20000 in
theorem ggX15_order_X15_noMachine : GoodIn wsX15_order wsX15_noMachine := goodIn_r _ [7, 1, 8, 9, 10, 11, 12, 13, 14, 15, 16, 6, 17, 59, 60, 61, 62, 63, 64, 65, 66, 67, 68, 69, 70, 71, 72, 73, 74, 75, 76, 77, 78, 79, 92, 93, 94] rfl (by decide +kernel)
set_option maxRecDepth 20000 in
theorem gX15_order_X15_noMachine : GoodIn wsX15_order (wsV RX15 228 RX15 yX15_noMachine wsX15_noMachine) := goodIn_app (goodIn_of _ (by decide +kernel)) ggX15_order_X15_noMachine
theorem dX15_order_2 : decode cX15_order 2 = .ok (.invokevirtual 228, 3) := by decide +kernel
theorem dX15_order_5 : decode cX15_order 5 = .ok (.ifCond .eq 5, 3) := by decide +kernel
theorem dX15_order_8 : decode cX15_order 8 = .ok (.iconst 0, 1) := by decide +kernel
theorem dX15_order_9 : decode cX15_order 9 = .ok (.ireturn, 1) := by decide +kernel
theorem dX15_untell_0 : decode cX15_untell 0 = .ok (.aload_n 0, 1) := by decide +kernel
theorem dX15_untell_1 : decode cX15_untell 1 = .ok (.iload_n 1, 1) := by decide +kernel
set_option maxRecDepth 20000 in
theorem ggX15_untell_X15_noMachine : GoodIn wsX15_untell wsX15_noMachine := goodIn_r _ [8, 1, 3, 9, 10, 11, 12, 13, 14, 15, 16, 7, 17, 53, 54, 55, 56, 57, 58, 59, 60, 61, 62, 63, 64, 65, 66, 67, 68, 69, 70, 71, 72, 73, 86, 87, 88] rfl (by decide +kernel)
set_option maxRecDepth 20000 in
theorem gX15_untell_X15_noMachine : GoodIn wsX15_untell (wsV RX15 228 RX15 yX15_noMachine wsX15_noMachine) := goodIn_app (goodIn_of _ (by decide +kernel)) ggX15_untell_X15_noMachine
theorem dX15_untell_2 : decode cX15_untell 2 = .ok (.invokevirtual 228, 3) := by decide +kernel
theorem dX15_untell_5 : decode cX15_untell 5 = .ok (.ifCond .eq 5, 3) := by decide +kernel
theorem dX15_untell_8 : decode cX15_untell 8 = .ok (.iconst 0, 1) := by decide +kernel
theorem dX15_untell_9 : decode cX15_untell 9 = .ok (.ireturn, 1) := by decide +kernel
theorem dX15_copy_0 : decode cX15_copy 0 = .ok (.aload_n 0, 1) := by decide +kernel
theorem dX15_copy_1 : decode cX15_copy 1 = .ok (.iload_n 1, 1) := by decide +kernel
set_option maxRecDepth 20000 in
theorem ggX15_copy_X15_noMachine : GoodIn wsX15_copy wsX15_noMachine := goodIn_r _ [7, 1, 8, 9, 10, 11, 12, 13, 14, 15, 16, 6, 17, 116, 117, 118, 119, 120, 121, 122, 123, 124, 125, 126, 127, 128, 129, 130, 131, 132, 133, 134, 135, 136, 137, 138, 139] rfl (by decide +kernel)
set_option maxRecDepth 20000 in
theorem gX15_copy_X15_noMachine : GoodIn wsX15_copy (wsV RX15 228 RX15 yX15_noMachine wsX15_noMachine) := goodIn_app (goodIn_of _ (by decide +kernel)) ggX15_copy_X15_noMachine
theorem dX15_copy_2 : decode cX15_copy 2 = .ok (.invokevirtual 228, 3) := by decide +kernel
theorem dX15_copy_5 : decode cX15_copy 5 = .ok (.ifCond .eq 5, 3) := by decide +kernel
theorem dX15_copy_8 : decode cX15_copy 8 = .ok (.iconst 0, 1) := by decide +kernel
theorem dX15_copy_9 : decode cX15_copy 9 = .ok (.ireturn, 1) := by decide +kernel
theorem dX15_run_0 : decode cX15_run 0 = .ok (.aload_n 0, 1) := by decide +kernel
theorem dX15_run_1 : decode cX15_run 1 = .ok (.iload_n 1, 1) := by decide +kernel
set_option maxRecDepth 20000 in
theorem ggX15_run_X15_noMachine : GoodIn wsX15_run wsX15_noMachine := goodIn_r _ [11, 2, 12, 13, 14, 15, 16, 17, 18, 19, 20, 10, 21, 88, 89, 90, 91, 92, 93, 94, 95, 96, 97, 98, 99, 100, 101, 102, 103, 104, 105, 106, 107, 108, 130, 131, 132] rfl (by decide +kernel)
set_option maxRecDepth 20000 in
theorem gX15_run_X15_noMachine : GoodIn wsX15_run (wsV RX15 228 RX15 yX15_noMachine wsX15_noMachine) := goodIn_app (goodIn_of _ (by decide +kernel)) ggX15_run_X15_noMachine
theorem dX15_run_2 : decode cX15_run 2 = .ok (.invokevirtual 228, 3) := by decide +kernel
theorem dX15_run_5 : decode cX15_run 5 = .ok (.ifCond .eq 5, 3) := by decide +kernel
theorem dX15_run_8 : decode cX15_run 8 = .ok (.iconst 0, 1) := by decide +kernel
theorem dX15_run_9 : decode cX15_run 9 = .ok (.ireturn, 1) := by decide +kernel
theorem dX15_ran_0 : decode cX15_ran 0 = .ok (.aload_n 0, 1) := by decide +kernel
theorem dX15_ran_1 : decode cX15_ran 1 = .ok (.iload_n 1, 1) := by decide +kernel
set_option maxRecDepth 20000 in
theorem ggX15_ran_X15_noMachine : GoodIn wsX15_ran wsX15_noMachine := goodIn_r _ [5, 6, 7, 8, 9, 10, 11, 12, 13, 14, 15, 4, 16, 148, 149, 150, 151, 152, 153, 154, 155, 156, 157, 158, 159, 160, 161, 162, 163, 164, 165, 166, 167, 168, 169, 170, 171] rfl (by decide +kernel)
set_option maxRecDepth 20000 in
theorem gX15_ran_X15_noMachine : GoodIn wsX15_ran (wsV RX15 228 RX15 yX15_noMachine wsX15_noMachine) := goodIn_app (goodIn_of _ (by decide +kernel)) ggX15_ran_X15_noMachine
theorem dX15_ran_2 : decode cX15_ran 2 = .ok (.invokevirtual 228, 3) := by decide +kernel
theorem dX15_ran_5 : decode cX15_ran 5 = .ok (.ifCond .eq 5, 3) := by decide +kernel
theorem dX15_ran_8 : decode cX15_ran 8 = .ok (.iconst 0, 1) := by decide +kernel
theorem dX15_ran_9 : decode cX15_ran 9 = .ok (.ireturn, 1) := by decide +kernel
theorem dX15_printByRuns_0 : decode cX15_printByRuns 0 = .ok (.aload_n 0, 1) := by decide +kernel
theorem dX15_printByRuns_1 : decode cX15_printByRuns 1 = .ok (.iload_n 1, 1) := by decide +kernel
set_option maxRecDepth 20000 in
theorem ggX15_printByRuns_X15_noMachine : GoodIn wsX15_printByRuns wsX15_noMachine := goodIn_r _ [12, 6, 2, 13, 14, 15, 16, 17, 18, 19, 20, 11, 21, 90, 91, 92, 93, 94, 95, 96, 97, 98, 99, 100, 101, 102, 103, 104, 105, 106, 107, 108, 109, 110, 120, 121, 122] rfl (by decide +kernel)
set_option maxRecDepth 20000 in
theorem gX15_printByRuns_X15_noMachine : GoodIn wsX15_printByRuns (wsV RX15 228 RX15 yX15_noMachine wsX15_noMachine) := goodIn_app (goodIn_of _ (by decide +kernel)) ggX15_printByRuns_X15_noMachine
theorem dX15_printByRuns_2 : decode cX15_printByRuns 2 = .ok (.invokevirtual 228, 3) := by decide +kernel
theorem dX15_printByRuns_5 : decode cX15_printByRuns 5 = .ok (.ifCond .eq 5, 3) := by decide +kernel
theorem dX15_printByRuns_8 : decode cX15_printByRuns 8 = .ok (.lconst 0, 1) := by decide +kernel
theorem dX15_printByRuns_9 : decode cX15_printByRuns 9 = .ok (.lreturn, 1) := by decide +kernel
theorem dX15_decide_0 : decode cX15_decide 0 = .ok (.aload_n 0, 1) := by decide +kernel
theorem dX15_decide_1 : decode cX15_decide 1 = .ok (.iload_n 1, 1) := by decide +kernel
set_option maxRecDepth 20000 in
theorem ggX15_decide_X15_noMachine : GoodIn wsX15_decide wsX15_noMachine := goodIn_r _ [10, 1, 3, 11, 12, 13, 14, 15, 16, 17, 18, 9, 19, 295, 296, 297, 298, 299, 300, 301, 302, 303, 304, 305, 306, 307, 308, 309, 310, 311, 312, 313, 314, 315, 328, 329, 330] rfl (by decide +kernel)
set_option maxRecDepth 20000 in
theorem gX15_decide_X15_noMachine : GoodIn wsX15_decide (wsV RX15 228 RX15 yX15_noMachine wsX15_noMachine) := goodIn_app (goodIn_of _ (by decide +kernel)) ggX15_decide_X15_noMachine
theorem dX15_decide_2 : decode cX15_decide 2 = .ok (.invokevirtual 228, 3) := by decide +kernel
theorem dX15_decide_5 : decode cX15_decide 5 = .ok (.ifCond .eq 5, 3) := by decide +kernel
theorem dX15_decide_8 : decode cX15_decide 8 = .ok (.iconst 0, 1) := by decide +kernel
theorem dX15_decide_9 : decode cX15_decide 9 = .ok (.ireturn, 1) := by decide +kernel
theorem dX15_certificate_0 : decode cX15_certificate 0 = .ok (.aload_n 0, 1) := by decide +kernel
theorem dX15_certificate_1 : decode cX15_certificate 1 = .ok (.iload_n 1, 1) := by decide +kernel
set_option maxRecDepth 20000 in
theorem ggX15_certificate_X15_noMachine : GoodIn wsX15_certificate wsX15_noMachine := goodIn_r _ [8, 1, 3, 9, 10, 11, 12, 13, 14, 15, 16, 7, 17, 35, 36, 37, 38, 39, 40, 41, 42, 43, 44, 45, 46, 47, 48, 49, 50, 51, 52, 53, 54, 55, 68, 69, 70] rfl (by decide +kernel)
set_option maxRecDepth 20000 in
theorem gX15_certificate_X15_noMachine : GoodIn wsX15_certificate (wsV RX15 228 RX15 yX15_noMachine wsX15_noMachine) := goodIn_app (goodIn_of _ (by decide +kernel)) ggX15_certificate_X15_noMachine
theorem dX15_certificate_2 : decode cX15_certificate 2 = .ok (.invokevirtual 228, 3) := by decide +kernel
theorem dX15_certificate_5 : decode cX15_certificate 5 = .ok (.ifCond .eq 5, 3) := by decide +kernel
theorem dX15_certificate_8 : decode cX15_certificate 8 = .ok (.iconst 0, 1) := by decide +kernel
theorem dX15_certificate_9 : decode cX15_certificate 9 = .ok (.ireturn, 1) := by decide +kernel
theorem dX15_forge_0 : decode cX15_forge 0 = .ok (.aload_n 0, 1) := by decide +kernel
theorem dX15_forge_1 : decode cX15_forge 1 = .ok (.iload_n 1, 1) := by decide +kernel
set_option maxRecDepth 20000 in
theorem ggX15_forge_X15_noMachine : GoodIn wsX15_forge wsX15_noMachine := goodIn_r _ [10, 1, 5, 11, 12, 13, 14, 15, 16, 17, 18, 9, 19, 37, 38, 39, 40, 41, 42, 43, 44, 45, 46, 47, 48, 49, 50, 51, 52, 53, 54, 55, 56, 57, 70, 71, 72] rfl (by decide +kernel)
set_option maxRecDepth 20000 in
theorem gX15_forge_X15_noMachine : GoodIn wsX15_forge (wsV RX15 228 RX15 yX15_noMachine wsX15_noMachine) := goodIn_app (goodIn_of _ (by decide +kernel)) ggX15_forge_X15_noMachine
theorem dX15_forge_2 : decode cX15_forge 2 = .ok (.invokevirtual 228, 3) := by decide +kernel
theorem dX15_forge_5 : decode cX15_forge 5 = .ok (.ifCond .eq 5, 3) := by decide +kernel
theorem dX15_forge_8 : decode cX15_forge 8 = .ok (.iconst 0, 1) := by decide +kernel
theorem dX15_forge_9 : decode cX15_forge 9 = .ok (.ireturn, 1) := by decide +kernel
theorem dX15_ways_0 : decode cX15_ways 0 = .ok (.aload_n 0, 1) := by decide +kernel
theorem dX15_ways_1 : decode cX15_ways 1 = .ok (.iload_n 1, 1) := by decide +kernel
set_option maxRecDepth 20000 in
theorem ggX15_ways_X15_noMachine : GoodIn wsX15_ways wsX15_noMachine := goodIn_r _ [9, 2, 10, 11, 12, 13, 14, 15, 16, 17, 18, 8, 19, 51, 52, 53, 54, 55, 56, 57, 58, 59, 60, 61, 62, 63, 64, 65, 66, 67, 68, 69, 70, 71, 84, 85, 86] rfl (by decide +kernel)
set_option maxRecDepth 20000 in
theorem gX15_ways_X15_noMachine : GoodIn wsX15_ways (wsV RX15 228 RX15 yX15_noMachine wsX15_noMachine) := goodIn_app (goodIn_of _ (by decide +kernel)) ggX15_ways_X15_noMachine
theorem dX15_ways_2 : decode cX15_ways 2 = .ok (.invokevirtual 228, 3) := by decide +kernel
theorem dX15_ways_5 : decode cX15_ways 5 = .ok (.ifCond .eq 5, 3) := by decide +kernel
theorem dX15_ways_8 : decode cX15_ways 8 = .ok (.iconst 0, 1) := by decide +kernel
theorem dX15_ways_9 : decode cX15_ways 9 = .ok (.ireturn, 1) := by decide +kernel
theorem dX15_tell_0 : decode cX15_tell 0 = .ok (.aload_n 0, 1) := by decide +kernel
theorem dX15_tell_1 : decode cX15_tell 1 = .ok (.iload_n 2, 1) := by decide +kernel
set_option maxRecDepth 20000 in
theorem ggX15_tell_X15_noMachine : GoodIn wsX15_tell wsX15_noMachine := goodIn_r _ [8, 2, 9, 10, 11, 12, 13, 14, 15, 16, 17, 7, 18, 40, 41, 42, 43, 44, 45, 46, 47, 48, 49, 50, 51, 52, 53, 54, 55, 56, 57, 58, 59, 60, 73, 74, 75] rfl (by decide +kernel)
set_option maxRecDepth 20000 in
theorem gX15_tell_X15_noMachine : GoodIn wsX15_tell (wsV RX15 228 RX15 yX15_noMachine wsX15_noMachine) := goodIn_app (goodIn_of _ (by decide +kernel)) ggX15_tell_X15_noMachine
theorem dX15_tell_2 : decode cX15_tell 2 = .ok (.invokevirtual 228, 3) := by decide +kernel
theorem dX15_tell_5 : decode cX15_tell 5 = .ok (.ifCond .eq 5, 3) := by decide +kernel
theorem dX15_tell_8 : decode cX15_tell 8 = .ok (.iconst 0, 1) := by decide +kernel
theorem dX15_tell_9 : decode cX15_tell 9 = .ok (.ireturn, 1) := by decide +kernel
theorem dX15_verdict_0 : decode cX15_verdict 0 = .ok (.aload_n 0, 1) := by decide +kernel
theorem dX15_verdict_1 : decode cX15_verdict 1 = .ok (.iload_n 1, 1) := by decide +kernel
set_option maxRecDepth 20000 in
theorem ggX15_verdict_X15_noMachine : GoodIn wsX15_verdict wsX15_noMachine := goodIn_r _ [7, 1, 8, 9, 10, 11, 12, 13, 14, 15, 16, 6, 17, 41, 42, 43, 44, 45, 46, 47, 48, 49, 50, 51, 52, 53, 54, 55, 56, 57, 58, 59, 60, 61, 62, 63, 64] rfl (by decide +kernel)
set_option maxRecDepth 20000 in
theorem gX15_verdict_X15_noMachine : GoodIn wsX15_verdict (wsV RX15 228 RX15 yX15_noMachine wsX15_noMachine) := goodIn_app (goodIn_of _ (by decide +kernel)) ggX15_verdict_X15_noMachine
theorem dX15_verdict_2 : decode cX15_verdict 2 = .ok (.invokevirtual 228, 3) := by decide +kernel
theorem dX15_verdict_5 : decode cX15_verdict 5 = .ok (.ifCond .eq 8, 3) := by decide +kernel
theorem dX15_verdict_8 : decode cX15_verdict 8 = .ok (.bipush 32, 2) := by decide +kernel
theorem dX15_verdict_10 : decode cX15_verdict 10 = .ok (.goto 17, 3) := by decide +kernel
theorem dX15_verdict_27 : decode cX15_verdict 27 = .ok (.ireturn, 1) := by decide +kernel
theorem dX15_passes_0 : decode cX15_passes 0 = .ok (.aload_n 0, 1) := by decide +kernel
theorem dX15_passes_1 : decode cX15_passes 1 = .ok (.iload_n 1, 1) := by decide +kernel
set_option maxRecDepth 20000 in
theorem ggX15_passes_X15_noMachine : GoodIn wsX15_passes wsX15_noMachine := goodIn_r _ [7, 1, 8, 9, 10, 11, 12, 13, 14, 15, 16, 6, 17, 203, 204, 205, 206, 207, 208, 209, 210, 211, 212, 213, 214, 215, 216, 217, 218, 219, 220, 221, 222, 223, 224, 225, 226] rfl (by decide +kernel)
set_option maxRecDepth 20000 in
theorem gX15_passes_X15_noMachine : GoodIn wsX15_passes (wsV RX15 228 RX15 yX15_noMachine wsX15_noMachine) := goodIn_app (goodIn_of _ (by decide +kernel)) ggX15_passes_X15_noMachine
theorem dX15_passes_2 : decode cX15_passes 2 = .ok (.invokevirtual 228, 3) := by decide +kernel
theorem dX15_passes_5 : decode cX15_passes 5 = .ok (.ifCond .ne 25, 3) := by decide +kernel
theorem dX15_passes_30 : decode cX15_passes 30 = .ok (.iconst 0, 1) := by decide +kernel
theorem dX15_passes_31 : decode cX15_passes 31 = .ok (.ireturn, 1) := by decide +kernel
theorem dX15_isDisputed_0 : decode cX15_isDisputed 0 = .ok (.aload_n 0, 1) := by decide +kernel
theorem dX15_isDisputed_1 : decode cX15_isDisputed 1 = .ok (.iload_n 1, 1) := by decide +kernel
set_option maxRecDepth 20000 in
theorem ggX15_isDisputed_X15_noMachine : GoodIn wsX15_isDisputed wsX15_noMachine := goodIn_r _ [7, 1, 8, 9, 10, 11, 12, 13, 14, 15, 16, 6, 17, 41, 42, 43, 44, 45, 46, 47, 48, 49, 50, 51, 52, 53, 54, 55, 56, 57, 58, 59, 60, 61, 74, 75, 76] rfl (by decide +kernel)
set_option maxRecDepth 20000 in
theorem gX15_isDisputed_X15_noMachine : GoodIn wsX15_isDisputed (wsV RX15 228 RX15 yX15_noMachine wsX15_noMachine) := goodIn_app (goodIn_of _ (by decide +kernel)) ggX15_isDisputed_X15_noMachine
theorem dX15_isDisputed_2 : decode cX15_isDisputed 2 = .ok (.invokevirtual 228, 3) := by decide +kernel
theorem dX15_isDisputed_5 : decode cX15_isDisputed 5 = .ok (.ifCond .eq 5, 3) := by decide +kernel
theorem dX15_isDisputed_8 : decode cX15_isDisputed 8 = .ok (.iconst 0, 1) := by decide +kernel
theorem dX15_isDisputed_9 : decode cX15_isDisputed 9 = .ok (.ireturn, 1) := by decide +kernel
theorem dX15_hasHalted_0 : decode cX15_hasHalted 0 = .ok (.aload_n 0, 1) := by decide +kernel
theorem dX15_hasHalted_1 : decode cX15_hasHalted 1 = .ok (.iload_n 1, 1) := by decide +kernel
theorem dX15_hasHalted_2 : decode cX15_hasHalted 2 = .ok (.iconst 2, 1) := by decide +kernel
set_option maxRecDepth 20000 in
theorem ggX15_hasHalted_X15_lastOf : GoodIn wsX15_hasHalted wsX15_lastOf := goodIn_r _ [5, 6, 7, 8, 9, 10, 11, 4, 12, 13, 14, 15, 16, 17, 18, 19, 20, 21, 22, 23, 24, 25, 26, 27, 28, 29, 30, 31, 32, 33, 34, 35, 36, 37, 38, 48, 49, 50, 51, 52, 53, 54, 55, 56, 57, 58, 59, 60, 61, 62, 63, 64, 65, 66, 67, 68, 69, 70, 71, 72, 73, 74, 75, 76, 77, 78, 79, 80, 81, 82, 83] rfl (by decide +kernel)
set_option maxRecDepth 20000 in
theorem gX15_hasHalted_X15_lastOf : GoodIn wsX15_hasHalted (wsV RX15 259 RX15 yX15_lastOf wsX15_lastOf) := goodIn_app (goodIn_of _ (by decide +kernel)) ggX15_hasHalted_X15_lastOf
theorem dX15_hasHalted_3 : decode cX15_hasHalted 3 = .ok (.invokevirtual 259, 3) := by decide +kernel
theorem dX15_hasHalted_6 : decode cX15_hasHalted 6 = .ok (.astore_n 2, 1) := by decide +kernel
theorem dX15_hasHalted_7 : decode cX15_hasHalted 7 = .ok (.aload_n 2, 1) := by decide +kernel
theorem dX15_hasHalted_8 : decode cX15_hasHalted 8 = .ok (.ifnull 14, 3) := by decide +kernel
theorem dX15_hasHalted_22 : decode cX15_hasHalted 22 = .ok (.iconst 0, 1) := by decide +kernel
theorem dX15_hasHalted_23 : decode cX15_hasHalted 23 = .ok (.ireturn, 1) := by decide +kernel
theorem dX15_signAt_0 : decode cX15_signAt 0 = .ok (.aload_n 0, 1) := by decide +kernel
theorem dX15_signAt_1 : decode cX15_signAt 1 = .ok (.iload_n 1, 1) := by decide +kernel
theorem dX15_signAt_2 : decode cX15_signAt 2 = .ok (.iconst 2, 1) := by decide +kernel
set_option maxRecDepth 20000 in
theorem ggX15_signAt_X15_lastOf : GoodIn wsX15_signAt wsX15_lastOf := goodIn_r _ [7, 8, 9, 10, 11, 12, 13, 6, 14, 15, 16, 17, 18, 19, 20, 21, 22, 23, 24, 25, 26, 27, 28, 29, 30, 31, 32, 33, 34, 35, 36, 37, 38, 39, 40, 50, 51, 52, 53, 54, 55, 56, 57, 58, 59, 60, 61, 62, 63, 64, 65, 66, 67, 68, 69, 70, 71, 72, 73, 74, 75, 76, 77, 78, 79, 80, 81, 82, 83, 84, 85] rfl (by decide +kernel)
set_option maxRecDepth 20000 in
theorem gX15_signAt_X15_lastOf : GoodIn wsX15_signAt (wsV RX15 259 RX15 yX15_lastOf wsX15_lastOf) := goodIn_app (goodIn_of _ (by decide +kernel)) ggX15_signAt_X15_lastOf
theorem dX15_signAt_3 : decode cX15_signAt 3 = .ok (.invokevirtual 259, 3) := by decide +kernel
theorem dX15_signAt_6 : decode cX15_signAt 6 = .ok (.astore_n 3, 1) := by decide +kernel
theorem dX15_signAt_7 : decode cX15_signAt 7 = .ok (.aload_n 3, 1) := by decide +kernel
theorem dX15_signAt_8 : decode cX15_signAt 8 = .ok (.ifnull 17, 3) := by decide +kernel
theorem dX15_signAt_25 : decode cX15_signAt 25 = .ok (.iconst 0, 1) := by decide +kernel
theorem dX15_signAt_26 : decode cX15_signAt 26 = .ok (.goto 13, 3) := by decide +kernel
theorem dX15_signAt_39 : decode cX15_signAt 39 = .ok (.ireturn, 1) := by decide +kernel
theorem dX15_print_0 : decode cX15_print 0 = .ok (.aload_n 0, 1) := by decide +kernel
theorem dX15_print_1 : decode cX15_print 1 = .ok (.iload_n 1, 1) := by decide +kernel
theorem dX15_print_2 : decode cX15_print 2 = .ok (.iconst 2, 1) := by decide +kernel
set_option maxRecDepth 20000 in
theorem ggX15_print_X15_lastOf : GoodIn wsX15_print wsX15_lastOf := goodIn_r _ [5, 6, 7, 8, 9, 10, 11, 4, 12, 13, 14, 15, 16, 17, 18, 19, 20, 21, 22, 23, 24, 25, 26, 27, 28, 29, 30, 31, 32, 33, 34, 35, 36, 37, 38, 51, 52, 53, 54, 55, 56, 57, 58, 59, 60, 61, 62, 63, 64, 65, 66, 67, 68, 69, 70, 71, 72, 73, 74, 75, 76, 77, 78, 79, 80, 81, 82, 83, 84, 85, 86] rfl (by decide +kernel)
set_option maxRecDepth 20000 in
theorem gX15_print_X15_lastOf : GoodIn wsX15_print (wsV RX15 259 RX15 yX15_lastOf wsX15_lastOf) := goodIn_app (goodIn_of _ (by decide +kernel)) ggX15_print_X15_lastOf
theorem dX15_print_3 : decode cX15_print 3 = .ok (.invokevirtual 259, 3) := by decide +kernel
theorem dX15_print_6 : decode cX15_print 6 = .ok (.astore_n 2, 1) := by decide +kernel
theorem dX15_print_7 : decode cX15_print 7 = .ok (.aload_n 2, 1) := by decide +kernel
theorem dX15_print_8 : decode cX15_print 8 = .ok (.ifnonnull 7, 3) := by decide +kernel
theorem dX15_print_11 : decode cX15_print 11 = .ok (.lconst 0, 1) := by decide +kernel
theorem dX15_print_12 : decode cX15_print 12 = .ok (.goto 7, 3) := by decide +kernel
theorem dX15_print_19 : decode cX15_print 19 = .ok (.lreturn, 1) := by decide +kernel
theorem dX15_runsOf_0 : decode cX15_runsOf 0 = .ok (.aload_n 0, 1) := by decide +kernel
theorem dX15_runsOf_1 : decode cX15_runsOf 1 = .ok (.iload_n 1, 1) := by decide +kernel
theorem dX15_runsOf_2 : decode cX15_runsOf 2 = .ok (.iconst 2, 1) := by decide +kernel
set_option maxRecDepth 20000 in
theorem ggX15_runsOf_X15_lastOf : GoodIn wsX15_runsOf wsX15_lastOf := goodIn_r _ [5, 6, 7, 8, 9, 10, 11, 4, 12, 13, 14, 15, 16, 17, 18, 19, 20, 21, 22, 23, 24, 25, 26, 27, 28, 29, 30, 31, 32, 33, 34, 35, 36, 37, 38, 47, 48, 49, 50, 51, 52, 53, 54, 55, 56, 57, 58, 59, 60, 61, 62, 63, 64, 65, 66, 67, 68, 69, 70, 71, 72, 73, 74, 75, 76, 77, 78, 79, 80, 81, 82] rfl (by decide +kernel)
set_option maxRecDepth 20000 in
theorem gX15_runsOf_X15_lastOf : GoodIn wsX15_runsOf (wsV RX15 259 RX15 yX15_lastOf wsX15_lastOf) := goodIn_app (goodIn_of _ (by decide +kernel)) ggX15_runsOf_X15_lastOf
theorem dX15_runsOf_3 : decode cX15_runsOf 3 = .ok (.invokevirtual 259, 3) := by decide +kernel
theorem dX15_runsOf_6 : decode cX15_runsOf 6 = .ok (.astore_n 2, 1) := by decide +kernel
theorem dX15_runsOf_7 : decode cX15_runsOf 7 = .ok (.aload_n 2, 1) := by decide +kernel
theorem dX15_runsOf_8 : decode cX15_runsOf 8 = .ok (.ifnonnull 7, 3) := by decide +kernel
theorem dX15_runsOf_11 : decode cX15_runsOf 11 = .ok (.iconst 0, 1) := by decide +kernel
theorem dX15_runsOf_12 : decode cX15_runsOf 12 = .ok (.goto 7, 3) := by decide +kernel
theorem dX15_runsOf_19 : decode cX15_runsOf 19 = .ok (.ireturn, 1) := by decide +kernel
theorem dX15_walked_0 : decode cX15_walked 0 = .ok (.aload_n 0, 1) := by decide +kernel
theorem dX15_walked_1 : decode cX15_walked 1 = .ok (.iconst 0, 1) := by decide +kernel
theorem dX15_walked_2 : decode cX15_walked 2 = .ok (.putfield 209, 3) := by decide +kernel
theorem dX15_walked_5 : decode cX15_walked 5 = .ok (.aload_n 0, 1) := by decide +kernel
theorem dX15_walked_6 : decode cX15_walked 6 = .ok (.getfield 406, 3) := by decide +kernel
theorem dX15_walked_9 : decode cX15_walked 9 = .ok (.ireturn, 1) := by decide +kernel
theorem dX15_hasWalked_0 : decode cX15_hasWalked 0 = .ok (.aload_n 0, 1) := by decide +kernel
theorem dX15_hasWalked_1 : decode cX15_hasWalked 1 = .ok (.iconst 0, 1) := by decide +kernel
theorem dX15_hasWalked_2 : decode cX15_hasWalked 2 = .ok (.putfield 209, 3) := by decide +kernel
theorem dX15_hasWalked_5 : decode cX15_hasWalked 5 = .ok (.aload_n 0, 1) := by decide +kernel
theorem dX15_hasWalked_6 : decode cX15_hasWalked 6 = .ok (.getfield 415, 3) := by decide +kernel
theorem dX15_hasWalked_9 : decode cX15_hasWalked 9 = .ok (.ireturn, 1) := by decide +kernel
theorem dX15_isSound_0 : decode cX15_isSound 0 = .ok (.aload_n 0, 1) := by decide +kernel
theorem dX15_isSound_1 : decode cX15_isSound 1 = .ok (.iconst 0, 1) := by decide +kernel
theorem dX15_isSound_2 : decode cX15_isSound 2 = .ok (.putfield 209, 3) := by decide +kernel
theorem dX15_isSound_5 : decode cX15_isSound 5 = .ok (.iconst 1, 1) := by decide +kernel
theorem dX15_isSound_6 : decode cX15_isSound 6 = .ok (.ireturn, 1) := by decide +kernel
theorem dX15_uncount_0 : decode cX15_uncount 0 = .ok (.aload_n 0, 1) := by decide +kernel
theorem dX15_uncount_1 : decode cX15_uncount 1 = .ok (.iconst 0, 1) := by decide +kernel
theorem dX15_uncount_2 : decode cX15_uncount 2 = .ok (.putfield 209, 3) := by decide +kernel
theorem dX15_uncount_5 : decode cX15_uncount 5 = .ok (.aload_n 0, 1) := by decide +kernel
theorem dX15_uncount_6 : decode cX15_uncount 6 = .ok (.getfield 185, 3) := by decide +kernel
set_option maxRecDepth 20000 in
theorem ggX15_uncount_Jx4a65c_size_8abf5 : GoodIn wsX15_uncount wsJx4a65c_size_8abf5 := goodIn_r _ [7, 8, 37, 38, 39] rfl (by decide +kernel)
set_option maxRecDepth 20000 in
theorem gX15_uncount_Jx4a65c_size_8abf5 : GoodIn wsX15_uncount (wsV RX15 212 RJx4a65c yJx4a65c_size_8abf5 wsJx4a65c_size_8abf5) := goodIn_app (goodIn_of _ (by decide +kernel)) ggX15_uncount_Jx4a65c_size_8abf5
theorem dX15_uncount_9 : decode cX15_uncount 9 = .ok (.invokevirtual 212, 3) := by decide +kernel
theorem dX15_uncount_12 : decode cX15_uncount 12 = .ok (.istore_n 1, 1) := by decide +kernel
theorem dX15_uncount_13 : decode cX15_uncount 13 = .ok (.aload_n 0, 1) := by decide +kernel
theorem dX15_uncount_14 : decode cX15_uncount 14 = .ok (.getfield 185, 3) := by decide +kernel
set_option maxRecDepth 20000 in
theorem ggX15_uncount_Jx4a65c_clear_da8c8 : GoodIn wsX15_uncount wsJx4a65c_clear_da8c8 := goodIn_r _ [12, 13, 14, 15, 8, 37, 38, 39] rfl (by decide +kernel)
set_option maxRecDepth 20000 in
theorem gX15_uncount_Jx4a65c_clear_da8c8 : GoodIn wsX15_uncount (wsV RX15 358 RJx4a65c yJx4a65c_clear_da8c8 wsJx4a65c_clear_da8c8) := goodIn_app (goodIn_of _ (by decide +kernel)) ggX15_uncount_Jx4a65c_clear_da8c8
theorem dX15_uncount_17 : decode cX15_uncount 17 = .ok (.invokevirtual 358, 3) := by decide +kernel
theorem dX15_uncount_20 : decode cX15_uncount 20 = .ok (.iload_n 1, 1) := by decide +kernel
theorem dX15_uncount_21 : decode cX15_uncount 21 = .ok (.ireturn, 1) := by decide +kernel
theorem dX15_unwalk_0 : decode cX15_unwalk 0 = .ok (.aload_n 0, 1) := by decide +kernel
theorem dX15_unwalk_1 : decode cX15_unwalk 1 = .ok (.iconst 0, 1) := by decide +kernel
theorem dX15_unwalk_2 : decode cX15_unwalk 2 = .ok (.putfield 209, 3) := by decide +kernel
theorem dX15_unwalk_5 : decode cX15_unwalk 5 = .ok (.aload_n 0, 1) := by decide +kernel
theorem dX15_unwalk_6 : decode cX15_unwalk 6 = .ok (.getfield 206, 3) := by decide +kernel
set_option maxRecDepth 20000 in
theorem ggX15_unwalk_Jx4a65c_size_8abf5 : GoodIn wsX15_unwalk wsJx4a65c_size_8abf5 := goodIn_r _ [7, 8, 37, 38, 39] rfl (by decide +kernel)
set_option maxRecDepth 20000 in
theorem gX15_unwalk_Jx4a65c_size_8abf5 : GoodIn wsX15_unwalk (wsV RX15 212 RJx4a65c yJx4a65c_size_8abf5 wsJx4a65c_size_8abf5) := goodIn_app (goodIn_of _ (by decide +kernel)) ggX15_unwalk_Jx4a65c_size_8abf5
theorem dX15_unwalk_9 : decode cX15_unwalk 9 = .ok (.invokevirtual 212, 3) := by decide +kernel
theorem dX15_unwalk_12 : decode cX15_unwalk 12 = .ok (.istore_n 1, 1) := by decide +kernel
theorem dX15_unwalk_13 : decode cX15_unwalk 13 = .ok (.aload_n 0, 1) := by decide +kernel
theorem dX15_unwalk_14 : decode cX15_unwalk 14 = .ok (.getfield 206, 3) := by decide +kernel
set_option maxRecDepth 20000 in
theorem ggX15_unwalk_Jx4a65c_clear_da8c8 : GoodIn wsX15_unwalk wsJx4a65c_clear_da8c8 := goodIn_r _ [12, 13, 14, 15, 8, 37, 38, 39] rfl (by decide +kernel)
set_option maxRecDepth 20000 in
theorem gX15_unwalk_Jx4a65c_clear_da8c8 : GoodIn wsX15_unwalk (wsV RX15 358 RJx4a65c yJx4a65c_clear_da8c8 wsJx4a65c_clear_da8c8) := goodIn_app (goodIn_of _ (by decide +kernel)) ggX15_unwalk_Jx4a65c_clear_da8c8
theorem dX15_unwalk_17 : decode cX15_unwalk 17 = .ok (.invokevirtual 358, 3) := by decide +kernel
theorem dX15_unwalk_20 : decode cX15_unwalk 20 = .ok (.iload_n 1, 1) := by decide +kernel
theorem dX15_unwalk_21 : decode cX15_unwalk 21 = .ok (.ireturn, 1) := by decide +kernel
theorem dX15_holdouts_0 : decode cX15_holdouts 0 = .ok (.aload_n 0, 1) := by decide +kernel
theorem dX15_holdouts_1 : decode cX15_holdouts 1 = .ok (.iconst 0, 1) := by decide +kernel
theorem dX15_holdouts_2 : decode cX15_holdouts 2 = .ok (.putfield 209, 3) := by decide +kernel
theorem dX15_holdouts_5 : decode cX15_holdouts 5 = .ok (.iconst 0, 1) := by decide +kernel
theorem dX15_holdouts_6 : decode cX15_holdouts 6 = .ok (.istore_n 1, 1) := by decide +kernel
theorem dX15_holdouts_7 : decode cX15_holdouts 7 = .ok (.aload_n 0, 1) := by decide +kernel
theorem dX15_holdouts_8 : decode cX15_holdouts 8 = .ok (.getfield 181, 3) := by decide +kernel
set_option maxRecDepth 20000 in
theorem ggX15_holdouts_Jx4a65c_iterator_32c93 : GoodIn wsX15_holdouts wsJx4a65c_iterator_32c93 := goodIn_r _ [8, 9, 10, 11, 12, 13, 14, 15, 16, 17, 18, 19, 20, 21, 22, 228, 229, 230, 231, 232, 233, 234] rfl (by decide +kernel)
set_option maxRecDepth 20000 in
theorem gX15_holdouts_Jx4a65c_iterator_32c93 : GoodIn wsX15_holdouts (wsV RX15 343 RJx4a65c yJx4a65c_iterator_32c93 wsJx4a65c_iterator_32c93) := goodIn_app (goodIn_of _ (by decide +kernel)) ggX15_holdouts_Jx4a65c_iterator_32c93
theorem dX15_holdouts_11 : decode cX15_holdouts 11 = .ok (.invokevirtual 343, 3) := by decide +kernel
theorem dX15_holdouts_14 : decode cX15_holdouts 14 = .ok (.astore_n 2, 1) := by decide +kernel
theorem dX15_holdouts_15 : decode cX15_holdouts 15 = .ok (.aload_n 2, 1) := by decide +kernel
set_option maxRecDepth 20000 in
theorem ggX15_holdouts_Jx35411_hasNext_aae02 : GoodIn wsX15_holdouts wsJx35411_hasNext_aae02 := goodIn_r _ [26, 27, 15, 228, 229, 230, 231, 232, 233, 234] rfl (by decide +kernel)
set_option maxRecDepth 20000 in
theorem gX15_holdouts_Jx35411_hasNext_aae02_f347Jx35411 : GoodIn wsX15_holdouts (va_wsF RX15 347 RJx35411 ⟨"java/util/Iterator", "hasNext", "()Z"⟩ yJx35411_hasNext_aae02 wsJx35411_hasNext_aae02) := goodIn_app (goodIn_of _ (by decide +kernel)) ggX15_holdouts_Jx35411_hasNext_aae02
theorem dX15_holdouts_16 : decode cX15_holdouts 16 = .ok (.invokeinterface 347 1, 5) := by decide +kernel
theorem dX15_holdouts_21 : decode cX15_holdouts 21 = .ok (.ifCond .eq 32, 3) := by decide +kernel
theorem dX15_holdouts_53 : decode cX15_holdouts 53 = .ok (.iload_n 1, 1) := by decide +kernel
theorem dX15_holdouts_54 : decode cX15_holdouts 54 = .ok (.ireturn, 1) := by decide +kernel
theorem dX15_checksum_0 : decode cX15_checksum 0 = .ok (.aload_n 0, 1) := by decide +kernel
theorem dX15_checksum_1 : decode cX15_checksum 1 = .ok (.iconst 0, 1) := by decide +kernel
theorem dX15_checksum_2 : decode cX15_checksum 2 = .ok (.putfield 209, 3) := by decide +kernel
theorem dX15_checksum_5 : decode cX15_checksum 5 = .ok (.ldc2_w 418, 3) := by decide +kernel
theorem dX15_checksum_8 : decode cX15_checksum 8 = .ok (.lstore_n 1, 1) := by decide +kernel
theorem dX15_checksum_9 : decode cX15_checksum 9 = .ok (.aload_n 0, 1) := by decide +kernel
theorem dX15_checksum_10 : decode cX15_checksum 10 = .ok (.getfield 181, 3) := by decide +kernel
set_option maxRecDepth 20000 in
theorem ggX15_checksum_Jx4a65c_iterator_32c93 : GoodIn wsX15_checksum wsJx4a65c_iterator_32c93 := goodIn_r _ [10, 11, 12, 13, 14, 15, 16, 17, 18, 19, 20, 21, 22, 23, 24, 72, 73, 74, 75, 76, 77, 78] rfl (by decide +kernel)
set_option maxRecDepth 20000 in
theorem gX15_checksum_Jx4a65c_iterator_32c93 : GoodIn wsX15_checksum (wsV RX15 343 RJx4a65c yJx4a65c_iterator_32c93 wsJx4a65c_iterator_32c93) := goodIn_app (goodIn_of _ (by decide +kernel)) ggX15_checksum_Jx4a65c_iterator_32c93
theorem dX15_checksum_13 : decode cX15_checksum 13 = .ok (.invokevirtual 343, 3) := by decide +kernel
theorem dX15_checksum_16 : decode cX15_checksum 16 = .ok (.astore_n 3, 1) := by decide +kernel
theorem dX15_checksum_17 : decode cX15_checksum 17 = .ok (.aload_n 3, 1) := by decide +kernel
set_option maxRecDepth 20000 in
theorem ggX15_checksum_Jx35411_hasNext_aae02 : GoodIn wsX15_checksum wsJx35411_hasNext_aae02 := goodIn_r _ [28, 29, 17, 72, 73, 74, 75, 76, 77, 78] rfl (by decide +kernel)
set_option maxRecDepth 20000 in
theorem gX15_checksum_Jx35411_hasNext_aae02_f347Jx35411 : GoodIn wsX15_checksum (va_wsF RX15 347 RJx35411 ⟨"java/util/Iterator", "hasNext", "()Z"⟩ yJx35411_hasNext_aae02 wsJx35411_hasNext_aae02) := goodIn_app (goodIn_of _ (by decide +kernel)) ggX15_checksum_Jx35411_hasNext_aae02
theorem dX15_checksum_18 : decode cX15_checksum 18 = .ok (.invokeinterface 347 1, 5) := by decide +kernel
theorem dX15_checksum_23 : decode cX15_checksum 23 = .ok (.ifCond .eq 101, 3) := by decide +kernel
theorem dX15_checksum_124 : decode cX15_checksum 124 = .ok (.lload_n 1, 1) := by decide +kernel
theorem dX15_checksum_125 : decode cX15_checksum 125 = .ok (.lreturn, 1) := by decide +kernel
theorem dX15_meanMarks_0 : decode cX15_meanMarks 0 = .ok (.lconst 0, 1) := by decide +kernel
theorem dX15_meanMarks_1 : decode cX15_meanMarks 1 = .ok (.lstore_n 1, 1) := by decide +kernel
theorem dX15_meanMarks_2 : decode cX15_meanMarks 2 = .ok (.iconst 0, 1) := by decide +kernel
theorem dX15_meanMarks_3 : decode cX15_meanMarks 3 = .ok (.istore_n 3, 1) := by decide +kernel
theorem dX15_meanMarks_4 : decode cX15_meanMarks 4 = .ok (.aload_n 0, 1) := by decide +kernel
theorem dX15_meanMarks_5 : decode cX15_meanMarks 5 = .ok (.getfield 181, 3) := by decide +kernel
set_option maxRecDepth 20000 in
theorem ggX15_meanMarks_Jx4a65c_iterator_32c93 : GoodIn wsX15_meanMarks wsJx4a65c_iterator_32c93 := goodIn_r _ [8, 9, 10, 11, 12, 13, 14, 15, 16, 17, 18, 19, 20, 21, 22, 240, 241, 242, 243, 244, 245, 246] rfl (by decide +kernel)
set_option maxRecDepth 20000 in
theorem gX15_meanMarks_Jx4a65c_iterator_32c93 : GoodIn wsX15_meanMarks (wsV RX15 343 RJx4a65c yJx4a65c_iterator_32c93 wsJx4a65c_iterator_32c93) := goodIn_app (goodIn_of _ (by decide +kernel)) ggX15_meanMarks_Jx4a65c_iterator_32c93
theorem dX15_meanMarks_8 : decode cX15_meanMarks 8 = .ok (.invokevirtual 343, 3) := by decide +kernel
theorem dX15_meanMarks_11 : decode cX15_meanMarks 11 = .ok (.astore 4, 2) := by decide +kernel
theorem dX15_meanMarks_13 : decode cX15_meanMarks 13 = .ok (.aload 4, 2) := by decide +kernel
set_option maxRecDepth 20000 in
theorem ggX15_meanMarks_Jx35411_hasNext_aae02 : GoodIn wsX15_meanMarks wsJx35411_hasNext_aae02 := goodIn_r _ [26, 27, 15, 240, 241, 242, 243, 244, 245, 246] rfl (by decide +kernel)
set_option maxRecDepth 20000 in
theorem gX15_meanMarks_Jx35411_hasNext_aae02_f347Jx35411 : GoodIn wsX15_meanMarks (va_wsF RX15 347 RJx35411 ⟨"java/util/Iterator", "hasNext", "()Z"⟩ yJx35411_hasNext_aae02 wsJx35411_hasNext_aae02) := goodIn_app (goodIn_of _ (by decide +kernel)) ggX15_meanMarks_Jx35411_hasNext_aae02
theorem dX15_meanMarks_15 : decode cX15_meanMarks 15 = .ok (.invokeinterface 347 1, 5) := by decide +kernel
theorem dX15_meanMarks_20 : decode cX15_meanMarks 20 = .ok (.ifCond .eq 75, 3) := by decide +kernel
theorem dX15_meanMarks_95 : decode cX15_meanMarks 95 = .ok (.aload_n 0, 1) := by decide +kernel
theorem dX15_meanMarks_96 : decode cX15_meanMarks 96 = .ok (.iload_n 3, 1) := by decide +kernel
theorem dX15_meanMarks_97 : decode cX15_meanMarks 97 = .ok (.ifCond .ne 7, 3) := by decide +kernel
theorem dX15_meanMarks_100 : decode cX15_meanMarks 100 = .ok (.iconst 1, 1) := by decide +kernel
theorem dX15_meanMarks_101 : decode cX15_meanMarks 101 = .ok (.goto 4, 3) := by decide +kernel
theorem dX15_meanMarks_105 : decode cX15_meanMarks 105 = .ok (.putfield 209, 3) := by decide +kernel
theorem dX15_meanMarks_108 : decode cX15_meanMarks 108 = .ok (.aload_n 0, 1) := by decide +kernel
theorem dX15_meanMarks_109 : decode cX15_meanMarks 109 = .ok (.getfield 209, 3) := by decide +kernel
theorem dX15_meanMarks_112 : decode cX15_meanMarks 112 = .ok (.ifCond .le 7, 3) := by decide +kernel
theorem dX15_meanMarks_115 : decode cX15_meanMarks 115 = .ok (.dconst 0, 1) := by decide +kernel
theorem dX15_meanMarks_116 : decode cX15_meanMarks 116 = .ok (.goto 8, 3) := by decide +kernel
theorem dX15_meanMarks_124 : decode cX15_meanMarks 124 = .ok (.dreturn, 1) := by decide +kernel
theorem dX15_fitting_0 : decode cX15_fitting 0 = .ok (.aload_n 0, 1) := by decide +kernel
theorem dX15_fitting_1 : decode cX15_fitting 1 = .ok (.getfield 206, 3) := by decide +kernel
set_option maxRecDepth 20000 in
theorem ggX15_fitting_Jx4a65c_iterator_32c93 : GoodIn wsX15_fitting wsJx4a65c_iterator_32c93 := goodIn_r _ [7, 8, 9, 10, 11, 12, 13, 14, 15, 16, 17, 18, 19, 20, 21, 61, 62, 63, 64, 65, 66, 67] rfl (by decide +kernel)
set_option maxRecDepth 20000 in
theorem gX15_fitting_Jx4a65c_iterator_32c93 : GoodIn wsX15_fitting (wsV RX15 343 RJx4a65c yJx4a65c_iterator_32c93 wsJx4a65c_iterator_32c93) := goodIn_app (goodIn_of _ (by decide +kernel)) ggX15_fitting_Jx4a65c_iterator_32c93
theorem dX15_fitting_4 : decode cX15_fitting 4 = .ok (.invokevirtual 343, 3) := by decide +kernel
theorem dX15_fitting_7 : decode cX15_fitting 7 = .ok (.astore_n 3, 1) := by decide +kernel
theorem dX15_fitting_8 : decode cX15_fitting 8 = .ok (.aload_n 3, 1) := by decide +kernel
set_option maxRecDepth 20000 in
theorem ggX15_fitting_Jx35411_hasNext_aae02 : GoodIn wsX15_fitting wsJx35411_hasNext_aae02 := goodIn_r _ [25, 26, 14, 61, 62, 63, 64, 65, 66, 67] rfl (by decide +kernel)
set_option maxRecDepth 20000 in
theorem gX15_fitting_Jx35411_hasNext_aae02_f347Jx35411 : GoodIn wsX15_fitting (va_wsF RX15 347 RJx35411 ⟨"java/util/Iterator", "hasNext", "()Z"⟩ yJx35411_hasNext_aae02 wsJx35411_hasNext_aae02) := goodIn_app (goodIn_of _ (by decide +kernel)) ggX15_fitting_Jx35411_hasNext_aae02
theorem dX15_fitting_9 : decode cX15_fitting 9 = .ok (.invokeinterface 347 1, 5) := by decide +kernel
theorem dX15_fitting_14 : decode cX15_fitting 14 = .ok (.ifCond .eq 50, 3) := by decide +kernel
theorem dX15_fitting_64 : decode cX15_fitting 64 = .ok (.aconst_null, 1) := by decide +kernel
theorem dX15_fitting_65 : decode cX15_fitting 65 = .ok (.areturn, 1) := by decide +kernel
theorem dX15_holdoutAt_0 : decode cX15_holdoutAt 0 = .ok (.iload_n 1, 1) := by decide +kernel
theorem dX15_holdoutAt_1 : decode cX15_holdoutAt 1 = .ok (.istore_n 2, 1) := by decide +kernel
theorem dX15_holdoutAt_2 : decode cX15_holdoutAt 2 = .ok (.iconst 0, 1) := by decide +kernel
theorem dX15_holdoutAt_3 : decode cX15_holdoutAt 3 = .ok (.istore_n 3, 1) := by decide +kernel
theorem dX15_holdoutAt_4 : decode cX15_holdoutAt 4 = .ok (.iload_n 3, 1) := by decide +kernel
theorem dX15_holdoutAt_5 : decode cX15_holdoutAt 5 = .ok (.aload_n 0, 1) := by decide +kernel
theorem dX15_holdoutAt_6 : decode cX15_holdoutAt 6 = .ok (.getfield 181, 3) := by decide +kernel
set_option maxRecDepth 20000 in
theorem ggX15_holdoutAt_Jx4a65c_size_8abf5 : GoodIn wsX15_holdoutAt wsJx4a65c_size_8abf5 := goodIn_r _ [8, 9, 224, 225, 226] rfl (by decide +kernel)
set_option maxRecDepth 20000 in
theorem gX15_holdoutAt_Jx4a65c_size_8abf5 : GoodIn wsX15_holdoutAt (wsV RX15 212 RJx4a65c yJx4a65c_size_8abf5 wsJx4a65c_size_8abf5) := goodIn_app (goodIn_of _ (by decide +kernel)) ggX15_holdoutAt_Jx4a65c_size_8abf5
theorem dX15_holdoutAt_9 : decode cX15_holdoutAt 9 = .ok (.invokevirtual 212, 3) := by decide +kernel
theorem dX15_holdoutAt_12 : decode cX15_holdoutAt 12 = .ok (.if_icmp .ge 41, 3) := by decide +kernel
theorem dX15_holdoutAt_53 : decode cX15_holdoutAt 53 = .ok (.aload_n 0, 1) := by decide +kernel
theorem dX15_holdoutAt_54 : decode cX15_holdoutAt 54 = .ok (.iconst 1, 1) := by decide +kernel
set_option maxRecDepth 20000 in
theorem ggX15_holdoutAt_X15_raises : GoodIn wsX15_holdoutAt wsX15_raises := goodIn_r _ [202, 3, 203, 204, 205, 206, 207, 208, 209, 210, 211, 212, 213, 214, 215, 216, 217, 218, 219, 220, 221, 222, 223] rfl (by decide +kernel)
set_option maxRecDepth 20000 in
theorem gX15_holdoutAt_X15_raises : GoodIn wsX15_holdoutAt (wsV RX15 238 RX15 yX15_raises wsX15_raises) := goodIn_app (goodIn_of _ (by decide +kernel)) ggX15_holdoutAt_X15_raises
theorem dX15_holdoutAt_55 : decode cX15_holdoutAt 55 = .ok (.invokevirtual 238, 3) := by decide +kernel
theorem dX15_holdoutAt_58 : decode cX15_holdoutAt 58 = .ok (.ireturn, 1) := by decide +kernel
set_option maxHeartbeats 4000000 in
set_option maxRecDepth 100000 in
/-- X15_thrown -/
theorem c_X15_thrown (l : Launch) (dC : Nat → ClassId) (dI : Nat → Nat → Nat) (xm : Nat) (fs : List Value) (c9 : Int32) (hc : fs[5]? = some (.int c9)) (sz : Nat) : Met l yX15_thrown wsX15_thrown ({ frames := 0, cells := 0, slots := 0, locals := 0 }) (va_Pc [.ref xm] (cPC dC dI [(xm, .inr (20, fs))] [] sz)) (va_Qi (fun (r : Int32) (u : Unit) => r = c9) (fun (u : Unit) t => cQB dC dI [] [] (va_A [(xm, .inr (20, fs))] sz) t) (va_A [(xm, .inr (20, fs))] sz)) 0 0 (va_A [(xm, .inr (20, fs))] sz) := by
  refine Met.ofW (cc := cX15_thrown) (maxL := 1) (ret := (some .int)) (by decide) rfl ?_
  intro p e s m args below meth c s₁ B hml hv
  obtain ⟨rfl, hsz, hP, hK, hD0, hN⟩ := hv
  have hx := B.exec
  have hb := B.bytes
  have hr := B.returns
  have hts := atoms_spec (ws := wsX15_thrown) B.pre
  have hown : s.vm.findClass RX15 = some m.cls := findClass_of_methodNamed B.named
  have hlocks := B.notSynchronized
  subst hsz
  have hD := hD0.self (sz := s.heap.size)
  generalize hAe : va_A [(xm, .inr (20, fs))] s.heap.size = A at hD ⊢
  have hA : ∀ q : Nat, s.heap.size ≤ q → A q := fun q h => by rw [← hAe]; exact Or.inr h
  have hS : va_S A s.heap s.heap [] := va_S.rf
  have hP : va_P (dC, dI) vwCl [(xm, .inr (20, fs))] s.heap := hP
  have hD : va_D A [(xm, .inr (20, fs))] := hD
  have hl := lv_entry ([.ref xm]) (n := 1) (Nat.le_of_ble_eq_true rfl)
  rw [lg_entry_eq]
  generalize (lg_sl ([.ref xm]) ++ List.replicate (1 - (lg_sl ([.ref xm])).length) Slot.unset).toArray = ls at hl ⊢
  have hl : lv_has ls 1 [(0, .ref xm)] := hl
  have iWX15 : ∀ w ∈ u_ws RX15 TX15 21, w ∈ wsX15_thrown := by decide +kernel
  refine lv_aload_n hx hb dX15_thrown_0 rfl (lv_at hl 0 rfl) ?_
  refine va_get (D := (dC, dI)) (ci := 20) (v := .int c9) (C := RX15) (T := TX15) (N := 21) hx hb hts iWX15 hown hK hP 0 rfl rfl 5 (by decide) (hts (.fieldLink RX15 209 "BeaverhallModel" "thrown" "I") (by decide +kernel)) (fun _ h9 => h9) hc dX15_thrown_1 ?_
  have hP9 := hP.sub (ws' := []) [] rfl
  have hD9 := hD.sub (ws' := []) [] (by decide) rfl
  have hK9 := hK.sub (tys' := []) [] rfl
  exact W.iret (v := c9) hx hb hr (fun t ht hW => ⟨⟨c9, (), rfl, rfl, ⟨by rw [ht]; exact hP9, va_K.moved hW.alike hK9, hD9⟩⟩, hS.F ht⟩) hS.2.2 dX15_thrown_4

set_option maxHeartbeats 4000000 in
set_option maxRecDepth 100000 in
/-- X15_raises -/
theorem c_X15_raises (l : Launch) (dC : Nat → ClassId) (dI : Nat → Nat → Nat) (xm ml cl fl kn rg tr : Nat) (e0 : Nat) (aK aV : Nat → Nat) (c9 : Int32) (sz : Nat) : Met l yX15_raises wsX15_raises ({ frames := 0, cells := 0, slots := 0, locals := 0 }) (va_Pc [.ref xm, .int c9] (cPC dC dI [(xm, .inr (20, [.int 0, .int 0, .ref kn, .int 0, .int 0, .int 0, .ref ml, .ref cl, .ref rg, .ref tr, .ref (aK 0), .ref (aK 0), .ref fl, .int 0, .int 0, .int 0, .int 0, .int 0, .int 0, .int 0, .null]))] [] sz)) (va_Qi (fun (r : Int32) (u : Unit) => r = 0) (fun (u : Unit) t => cQB dC dI [(xm, .inr (20, [.int 0, .int 0, .ref kn, .int 0, .int 0, .int c9, .ref ml, .ref cl, .ref rg, .ref tr, .ref (aK 0), .ref (aK 0), .ref fl, .int 0, .int 0, .int 0, .int 0, .int 0, .int 0, .int 0, .null]))] [] (va_A [(xm, .inr (20, [.int 0, .int 0, .ref kn, .int 0, .int 0, .int 0, .ref ml, .ref cl, .ref rg, .ref tr, .ref (aK 0), .ref (aK 0), .ref fl, .int 0, .int 0, .int 0, .int 0, .int 0, .int 0, .int 0, .null]))] sz) t) (va_A [(xm, .inr (20, [.int 0, .int 0, .ref kn, .int 0, .int 0, .int 0, .ref ml, .ref cl, .ref rg, .ref tr, .ref (aK 0), .ref (aK 0), .ref fl, .int 0, .int 0, .int 0, .int 0, .int 0, .int 0, .int 0, .null]))] sz)) 0 0 (va_A [(xm, .inr (20, [.int 0, .int 0, .ref kn, .int 0, .int 0, .int 0, .ref ml, .ref cl, .ref rg, .ref tr, .ref (aK 0), .ref (aK 0), .ref fl, .int 0, .int 0, .int 0, .int 0, .int 0, .int 0, .int 0, .null]))] sz) := by
  refine Met.ofW (cc := cX15_raises) (maxL := 2) (ret := (some .int)) (by decide) rfl ?_
  intro p e s m args below meth c s₁ B hml hv
  obtain ⟨rfl, hsz, hP, hK, hD0, hN⟩ := hv
  have hx := B.exec
  have hb := B.bytes
  have hr := B.returns
  have hts := atoms_spec (ws := wsX15_raises) B.pre
  have hown : s.vm.findClass RX15 = some m.cls := findClass_of_methodNamed B.named
  have hlocks := B.notSynchronized
  subst hsz
  have hD := hD0.self (sz := s.heap.size)
  generalize hAe : va_A [(xm, .inr (20, [.int 0, .int 0, .ref kn, .int 0, .int 0, .int 0, .ref ml, .ref cl, .ref rg, .ref tr, .ref (aK 0), .ref (aK 0), .ref fl, .int 0, .int 0, .int 0, .int 0, .int 0, .int 0, .int 0, .null]))] s.heap.size = A at hD ⊢
  have hA : ∀ q : Nat, s.heap.size ≤ q → A q := fun q h => by rw [← hAe]; exact Or.inr h
  have hS : va_S A s.heap s.heap [] := va_S.rf
  have hP : va_P (dC, dI) vwCl [(xm, .inr (20, [.int 0, .int 0, .ref kn, .int 0, .int 0, .int 0, .ref ml, .ref cl, .ref rg, .ref tr, .ref (aK 0), .ref (aK 0), .ref fl, .int 0, .int 0, .int 0, .int 0, .int 0, .int 0, .int 0, .null]))] s.heap := hP
  have hD : va_D A [(xm, .inr (20, [.int 0, .int 0, .ref kn, .int 0, .int 0, .int 0, .ref ml, .ref cl, .ref rg, .ref tr, .ref (aK 0), .ref (aK 0), .ref fl, .int 0, .int 0, .int 0, .int 0, .int 0, .int 0, .int 0, .null]))] := hD
  have hl := lv_entry ([.ref xm, .int c9]) (n := 2) (Nat.le_of_ble_eq_true rfl)
  rw [lg_entry_eq]
  generalize (lg_sl ([.ref xm, .int c9]) ++ List.replicate (2 - (lg_sl ([.ref xm, .int c9])).length) Slot.unset).toArray = ls at hl ⊢
  have hl : lv_has ls 2 [(0, .ref xm), (1, .int c9)] := hl
  have iWX15 : ∀ w ∈ u_ws RX15 TX15 21, w ∈ wsX15_raises := by decide +kernel
  refine lv_aload_n hx hb dX15_raises_0 rfl (lv_at hl 0 rfl) ?_
  refine lv_iload_n hx hb dX15_raises_1 rfl (lv_at hl 1 rfl) ?_
  refine va_put (D := (dC, dI)) (ci := 20) (v := .int c9) (ty := .int) (C := RX15) (T := TX15) (N := 21) hx hb hts iWX15 tyX15 tyX15_ok nmX15 hown hK hP hD hS 0 rfl rfl 5 (by decide) (hts (.fieldLink RX15 209 "BeaverhallModel" "thrown" "I") (by decide +kernel)) (fun _ h9 => h9) rfl (by decide +kernel) rfl rfl (Nat.le_of_ble_eq_true rfl) dX15_raises_2 (fun H locs hP hD hS => ?_)
  have hP : va_P (dC, dI) vwCl [(xm, .inr (20, [.int 0, .int 0, .ref kn, .int 0, .int 0, .int c9, .ref ml, .ref cl, .ref rg, .ref tr, .ref (aK 0), .ref (aK 0), .ref fl, .int 0, .int 0, .int 0, .int 0, .int 0, .int 0, .int 0, .null]))] H := hP
  have hD : va_D A [(xm, .inr (20, [.int 0, .int 0, .ref kn, .int 0, .int 0, .int c9, .ref ml, .ref cl, .ref rg, .ref tr, .ref (aK 0), .ref (aK 0), .ref fl, .int 0, .int 0, .int 0, .int 0, .int 0, .int 0, .int 0, .null]))] := hD
  refine lv_iconst (v := 0) hx hb dX15_raises_5 (by decide) ?_
  have hP9 := hP.sub (ws' := [(xm, .inr (20, [.int 0, .int 0, .ref kn, .int 0, .int 0, .int c9, .ref ml, .ref cl, .ref rg, .ref tr, .ref (aK 0), .ref (aK 0), .ref fl, .int 0, .int 0, .int 0, .int 0, .int 0, .int 0, .int 0, .null]))]) [0] rfl
  have hD9 := hD.sub (ws' := [(xm, .inr (20, [.int 0, .int 0, .ref kn, .int 0, .int 0, .int c9, .ref ml, .ref cl, .ref rg, .ref tr, .ref (aK 0), .ref (aK 0), .ref fl, .int 0, .int 0, .int 0, .int 0, .int 0, .int 0, .int 0, .null]))]) [0] (by decide) rfl
  have hK9 := hK.sub (tys' := []) [] rfl
  exact W.iret (v := 0) hx hb hr (fun t ht hW => ⟨⟨0, (), rfl, rfl, ⟨by rw [ht]; exact hP9, va_K.moved hW.alike hK9, hD9⟩⟩, hS.F ht⟩) hS.2.2 dX15_raises_6

set_option maxHeartbeats 4000000 in
set_option maxRecDepth 100000 in
/-- X15_noMachine -/
theorem c_X15_noMachine (l : Launch) (dC : Nat → ClassId) (dI : Nat → Nat → Nat) (xm ml cl fl kn rg tr : Nat) (e0 : Nat) (aK aV : Nat → Nat) (i : Int32) (sz : Nat) : Met l yX15_noMachine wsX15_noMachine ({ frames := 1, cells := 0, slots := 0, locals := 27 }) (va_Pc [.ref xm, .int i] (cPC dC dI [(xm, .inr (20, [.int 0, .int 0, .ref kn, .int 0, .int 0, .int 0, .ref ml, .ref cl, .ref rg, .ref tr, .ref (aK 0), .ref (aK 0), .ref fl, .int 0, .int 0, .int 0, .int 0, .int 0, .int 0, .int 0, .null])), (ml, .inr (4, [.int 0, .ref e0, .int 0]))] [] sz)) (va_Qi (fun (r : Int32) (u : Unit) => r = 1) (fun (u : Unit) t => cQB dC dI [(xm, .inr (20, [.int 0, .int 0, .ref kn, .int 0, .int 0, .int 1, .ref ml, .ref cl, .ref rg, .ref tr, .ref (aK 0), .ref (aK 0), .ref fl, .int 0, .int 0, .int 0, .int 0, .int 0, .int 0, .int 0, .null])), (ml, .inr (4, [.int 0, .ref e0, .int 0]))] [] (va_A [(xm, .inr (20, [.int 0, .int 0, .ref kn, .int 0, .int 0, .int 0, .ref ml, .ref cl, .ref rg, .ref tr, .ref (aK 0), .ref (aK 0), .ref fl, .int 0, .int 0, .int 0, .int 0, .int 0, .int 0, .int 0, .null])), (ml, .inr (4, [.int 0, .ref e0, .int 0]))] sz) t) (va_A [(xm, .inr (20, [.int 0, .int 0, .ref kn, .int 0, .int 0, .int 0, .ref ml, .ref cl, .ref rg, .ref tr, .ref (aK 0), .ref (aK 0), .ref fl, .int 0, .int 0, .int 0, .int 0, .int 0, .int 0, .int 0, .null])), (ml, .inr (4, [.int 0, .ref e0, .int 0]))] sz)) 0 0 (va_A [(xm, .inr (20, [.int 0, .int 0, .ref kn, .int 0, .int 0, .int 0, .ref ml, .ref cl, .ref rg, .ref tr, .ref (aK 0), .ref (aK 0), .ref fl, .int 0, .int 0, .int 0, .int 0, .int 0, .int 0, .int 0, .null])), (ml, .inr (4, [.int 0, .ref e0, .int 0]))] sz) := by
  refine Met.ofW (cc := cX15_noMachine) (maxL := 2) (ret := (some .boolean)) (by decide) rfl ?_
  intro p e s m args below meth c s₁ B hml hv
  obtain ⟨rfl, hsz, hP, hK, hD0, hN⟩ := hv
  have hx := B.exec
  have hb := B.bytes
  have hr := B.returns
  have hts := atoms_spec (ws := wsX15_noMachine) B.pre
  have hown : s.vm.findClass RX15 = some m.cls := findClass_of_methodNamed B.named
  have hlocks := B.notSynchronized
  subst hsz
  have hD := hD0.self (sz := s.heap.size)
  generalize hAe : va_A [(xm, .inr (20, [.int 0, .int 0, .ref kn, .int 0, .int 0, .int 0, .ref ml, .ref cl, .ref rg, .ref tr, .ref (aK 0), .ref (aK 0), .ref fl, .int 0, .int 0, .int 0, .int 0, .int 0, .int 0, .int 0, .null])), (ml, .inr (4, [.int 0, .ref e0, .int 0]))] s.heap.size = A at hD ⊢
  have hA : ∀ q : Nat, s.heap.size ≤ q → A q := fun q h => by rw [← hAe]; exact Or.inr h
  have hS : va_S A s.heap s.heap [] := va_S.rf
  have hP : va_P (dC, dI) vwCl [(xm, .inr (20, [.int 0, .int 0, .ref kn, .int 0, .int 0, .int 0, .ref ml, .ref cl, .ref rg, .ref tr, .ref (aK 0), .ref (aK 0), .ref fl, .int 0, .int 0, .int 0, .int 0, .int 0, .int 0, .int 0, .null])), (ml, .inr (4, [.int 0, .ref e0, .int 0]))] s.heap := hP
  have hD : va_D A [(xm, .inr (20, [.int 0, .int 0, .ref kn, .int 0, .int 0, .int 0, .ref ml, .ref cl, .ref rg, .ref tr, .ref (aK 0), .ref (aK 0), .ref fl, .int 0, .int 0, .int 0, .int 0, .int 0, .int 0, .int 0, .null])), (ml, .inr (4, [.int 0, .ref e0, .int 0]))] := hD
  have hl := lv_entry ([.ref xm, .int i]) (n := 2) (Nat.le_of_ble_eq_true rfl)
  rw [lg_entry_eq]
  generalize (lg_sl ([.ref xm, .int i]) ++ List.replicate (2 - (lg_sl ([.ref xm, .int i])).length) Slot.unset).toArray = ls at hl ⊢
  have hl : lv_has ls 2 [(0, .ref xm), (1, .int i)] := hl
  have iWX15 : ∀ w ∈ u_ws RX15 TX15 21, w ∈ wsX15_noMachine := by decide +kernel
  refine lv_aload_n hx hb dX15_noMachine_0 rfl (lv_at hl 0 rfl) ?_
  refine lv_iload_n hx hb dX15_noMachine_1 rfl (lv_at hl 1 rfl) ?_
  refine lv_i2l hx hb dX15_noMachine_2 rfl ?_
  refine lv_lconst (v := 0) hx hb dX15_noMachine_3 (by decide) ?_
  refine lv_aload_n hx hb dX15_noMachine_4 rfl (lv_at hl 0 rfl) ?_
  refine va_get (D := (dC, dI)) (ci := 20) (v := .ref ml) (C := RX15) (T := TX15) (N := 21) hx hb hts iWX15 hown hK hP 0 rfl rfl 6 (by decide) (hts (.fieldLink RX15 181 "BeaverhallModel" "machines" "Ljava/util/ArrayList;") (by decide +kernel)) (fun _ h9 => h9) rfl dX15_noMachine_5 ?_
  have hPc := hP.sub (ws' := [(ml, .inr (4, [.int 0, .ref e0, .int 0]))]) [1] rfl
  have hDc := hD.sub (ws' := [(ml, .inr (4, [.int 0, .ref e0, .int 0]))]) [1] (by decide) rfl
  have hKc := hK.sub (tys' := []) [] rfl
  have hFc := va_free (wc := [(ml, .inr (4, [.int 0, .ref e0, .int 0]))]) hD hS hA [1] rfl
  refine va_calli (va_runV (As := []) (rest := [.long 0, .long i.toInt64, .ref xm]) ⟨hx, hb, hml, hown, hts⟩ (c_Jx4a65c_size_8abf5 l dC dI ml e0 0 0 s.heap.size) (cwV 0 hts gX15_noMachine_Jx4a65c_size_8abf5 rfl rfl rfl (by decide +kernel) ⟨Nat.le_of_ble_eq_true rfl, Nat.le_of_ble_eq_true rfl⟩) (pcV hPc hDc hKc hN (ci := 4) (q0 := 0) rfl rfl) rfl rfl hl.1 rfl (lv_room (Nat.le_of_ble_eq_true rfl)) dX15_noMachine_8 ⟨Nat.le_of_ble_eq_true rfl, Nat.le_of_ble_eq_true rfl⟩) hS (fun q _ h => hFc q h) hFc (fun r_1 u t H1 locs ht hvm hw_2 hB hz1 hk1 hS => ?_)
  obtain ⟨hP1, hK1, hD1⟩ := hB
  rw [ht] at hP1
  try dsimp only at hw_2
  obtain ⟨hP, hD⟩ := va_join (wr := [(xm, .inr (20, [.int 0, .int 0, .ref kn, .int 0, .int 0, .int 0, .ref ml, .ref cl, .ref rg, .ref tr, .ref (aK 0), .ref (aK 0), .ref fl, .int 0, .int 0, .int 0, .int 0, .int 0, .int 0, .int 0, .null]))]) (w1 := [(ml, .inr (4, [.int 0, .ref e0, .int 0]))]) hP hD [1] [0] rfl rfl (by decide) (by decide) hk1 hFc hP1 hD1
  generalize H1 = H at hP hS ⊢
  have hP : va_P (dC, dI) vwCl [(xm, .inr (20, [.int 0, .int 0, .ref kn, .int 0, .int 0, .int 0, .ref ml, .ref cl, .ref rg, .ref tr, .ref (aK 0), .ref (aK 0), .ref fl, .int 0, .int 0, .int 0, .int 0, .int 0, .int 0, .int 0, .null])), (ml, .inr (4, [.int 0, .ref e0, .int 0]))] H := hP
  have hD : va_D A [(xm, .inr (20, [.int 0, .int 0, .ref kn, .int 0, .int 0, .int 0, .ref ml, .ref cl, .ref rg, .ref tr, .ref (aK 0), .ref (aK 0), .ref fl, .int 0, .int 0, .int 0, .int 0, .int 0, .int 0, .int 0, .null])), (ml, .inr (4, [.int 0, .ref e0, .int 0]))] := hD
  subst hw_2
  refine lv_iconst (v := 1) hx hb dX15_noMachine_11 (by decide) ?_
  refine lv_isub hx hb dX15_noMachine_12 ?_
  refine lv_i2l hx hb dX15_noMachine_13 rfl ?_
  have hPc := hP.sub (ws' := []) [] rfl
  have hDc := hD.sub (ws' := []) [] (by decide) rfl
  have hKc := hK.sub (tys' := []) [] rfl
  have hFc := va_free (wc := []) hD hS hA [] rfl
  refine va_calli (va_runS (As := [.long i.toInt64, .long 0, .long (((0 : Int32) - 1).toInt64)]) (rest := [.ref xm]) ⟨hx, hb, hml, hown, hts⟩ (c_X15_in l dC dI i.toInt64 0 (((0 : Int32) - 1).toInt64) H.size) (va_cwS 3 hts gX15_noMachine_X15_in rfl rfl rfl (by decide +kernel) ⟨Nat.le_of_ble_eq_true rfl, Nat.le_of_ble_eq_true rfl⟩) (pcS hPc hDc hKc hN) rfl rfl hl.1 rfl (lv_room (Nat.le_of_ble_eq_true rfl)) dX15_noMachine_14 ⟨Nat.le_of_ble_eq_true rfl, Nat.le_of_ble_eq_true rfl⟩) hS (fun q _ h => hFc q h) hFc (fun r_3 u t H1 locs ht hvm hw_4 hB hz1 hk1 hS => ?_)
  obtain ⟨hP1, hK1, hD1⟩ := hB
  rw [ht] at hP1
  try dsimp only at hw_4
  obtain ⟨hP, hD⟩ := va_join (wr := [(xm, .inr (20, [.int 0, .int 0, .ref kn, .int 0, .int 0, .int 0, .ref ml, .ref cl, .ref rg, .ref tr, .ref (aK 0), .ref (aK 0), .ref fl, .int 0, .int 0, .int 0, .int 0, .int 0, .int 0, .int 0, .null])), (ml, .inr (4, [.int 0, .ref e0, .int 0]))]) (w1 := []) hP hD [] [0, 1] rfl rfl (by decide) (by decide) hk1 hFc hP1 hD1
  generalize H1 = H at hP hS ⊢
  have hP : va_P (dC, dI) vwCl [(xm, .inr (20, [.int 0, .int 0, .ref kn, .int 0, .int 0, .int 0, .ref ml, .ref cl, .ref rg, .ref tr, .ref (aK 0), .ref (aK 0), .ref fl, .int 0, .int 0, .int 0, .int 0, .int 0, .int 0, .int 0, .null])), (ml, .inr (4, [.int 0, .ref e0, .int 0]))] H := hP
  have hD : va_D A [(xm, .inr (20, [.int 0, .int 0, .ref kn, .int 0, .int 0, .int 0, .ref ml, .ref cl, .ref rg, .ref tr, .ref (aK 0), .ref (aK 0), .ref fl, .int 0, .int 0, .int 0, .int 0, .int 0, .int 0, .int 0, .null])), (ml, .inr (4, [.int 0, .ref e0, .int 0]))] := hD
  have hi_5 := in32 (0) (((0 : Int32) - 1)) (by decide) rfl hw_4
  refine lv_if_eq (tgt := 24) hx hb dX15_noMachine_17 (by decide) (fun c17_6 => ?_) (fun c17_6 => ?_)
  · have hn_7 := (hi_5).elim (fun h => absurd (h.1.symm.trans c17_6) (by decide)) (fun h => h.2)
    refine lv_iconst (v := 1) hx hb dX15_noMachine_24 (by decide) ?_
    refine va_put (D := (dC, dI)) (ci := 20) (v := .int 1) (ty := .int) (C := RX15) (T := TX15) (N := 21) hx hb hts iWX15 tyX15 tyX15_ok nmX15 hown hK hP hD hS 0 rfl rfl 5 (by decide) (hts (.fieldLink RX15 209 "BeaverhallModel" "thrown" "I") (by decide +kernel)) (fun _ h9 => h9) rfl (by decide +kernel) rfl rfl (Nat.le_of_ble_eq_true rfl) dX15_noMachine_25 (fun H locs hP hD hS => ?_)
    have hP : va_P (dC, dI) vwCl [(xm, .inr (20, [.int 0, .int 0, .ref kn, .int 0, .int 0, .int 1, .ref ml, .ref cl, .ref rg, .ref tr, .ref (aK 0), .ref (aK 0), .ref fl, .int 0, .int 0, .int 0, .int 0, .int 0, .int 0, .int 0, .null])), (ml, .inr (4, [.int 0, .ref e0, .int 0]))] H := hP
    have hD : va_D A [(xm, .inr (20, [.int 0, .int 0, .ref kn, .int 0, .int 0, .int 1, .ref ml, .ref cl, .ref rg, .ref tr, .ref (aK 0), .ref (aK 0), .ref fl, .int 0, .int 0, .int 0, .int 0, .int 0, .int 0, .int 0, .null])), (ml, .inr (4, [.int 0, .ref e0, .int 0]))] := hD
    refine lv_aload_n hx hb dX15_noMachine_28 rfl (lv_at hl 0 rfl) ?_
    refine va_get (D := (dC, dI)) (ci := 20) (v := .int 1) (C := RX15) (T := TX15) (N := 21) hx hb hts iWX15 hown hK hP 0 rfl rfl 5 (by decide) (hts (.fieldLink RX15 209 "BeaverhallModel" "thrown" "I") (by decide +kernel)) (fun _ h9 => h9) rfl dX15_noMachine_29 ?_
    refine lv_if_le (tgt := 39) hx hb dX15_noMachine_32 (by decide) (fun c32_8 => ?_) (fun c32_8 => ?_)
    · exact absurd c32_8 (by decide)
    · refine lv_iconst (v := 1) hx hb dX15_noMachine_35 (by decide) ?_
      refine lv_goto (tgt := 40) hx hb dX15_noMachine_36 (by decide) ?_
      have hP9 := hP.sub (ws' := [(xm, .inr (20, [.int 0, .int 0, .ref kn, .int 0, .int 0, .int 1, .ref ml, .ref cl, .ref rg, .ref tr, .ref (aK 0), .ref (aK 0), .ref fl, .int 0, .int 0, .int 0, .int 0, .int 0, .int 0, .int 0, .null])), (ml, .inr (4, [.int 0, .ref e0, .int 0]))]) [0, 1] rfl
      have hD9 := hD.sub (ws' := [(xm, .inr (20, [.int 0, .int 0, .ref kn, .int 0, .int 0, .int 1, .ref ml, .ref cl, .ref rg, .ref tr, .ref (aK 0), .ref (aK 0), .ref fl, .int 0, .int 0, .int 0, .int 0, .int 0, .int 0, .int 0, .null])), (ml, .inr (4, [.int 0, .ref e0, .int 0]))]) [0, 1] (by decide) rfl
      have hK9 := hK.sub (tys' := []) [] rfl
      exact W.zret (v := 1) hx hb hr (by rfl) (fun t ht hW => ⟨⟨1, (), rfl, rfl, ⟨by rw [ht]; exact hP9, va_K.moved hW.alike hK9, hD9⟩⟩, hS.F ht⟩) hS.2.2 dX15_noMachine_40
  · have hn_9 := (hi_5).elim (fun h => h.2) (fun h => absurd h.1 c17_6)
    exact absurd hn_9.2 (fun h9 => Int32.not_lt.mpr (Int32.le_trans hn_9.1 h9) (by decide))

set_option maxHeartbeats 4000000 in
set_option maxRecDepth 100000 in
/-- X15_lastOf -/
theorem c_X15_lastOf (l : Launch) (dC : Nat → ClassId) (dI : Nat → Nat → Nat) (xm ml cl fl kn rg tr : Nat) (e0 : Nat) (aK aV : Nat → Nat) (i j : Int32) (sz : Nat) : Met l yX15_lastOf wsX15_lastOf ({ frames := 2, cells := 0, slots := 0, locals := 54 }) (va_Pc [.ref xm, .int i, .int j] (cPC dC dI [(xm, .inr (20, [.int 0, .int 0, .ref kn, .int 0, .int 0, .int 0, .ref ml, .ref cl, .ref rg, .ref tr, .ref (aK 0), .ref (aK 0), .ref fl, .int 0, .int 0, .int 0, .int 0, .int 0, .int 0, .int 0, .null])), (ml, .inr (4, [.int 0, .ref e0, .int 0]))] [] sz)) (va_Qq (fun (r : Option Nat) (u : Unit) => r = none) (fun (u : Unit) t => cQB dC dI [(xm, .inr (20, [.int 0, .int 0, .ref kn, .int 0, .int 0, .int 1, .ref ml, .ref cl, .ref rg, .ref tr, .ref (aK 0), .ref (aK 0), .ref fl, .int 0, .int 0, .int 0, .int 0, .int 0, .int 0, .int 0, .null])), (ml, .inr (4, [.int 0, .ref e0, .int 0]))] [] (va_A [(xm, .inr (20, [.int 0, .int 0, .ref kn, .int 0, .int 0, .int 0, .ref ml, .ref cl, .ref rg, .ref tr, .ref (aK 0), .ref (aK 0), .ref fl, .int 0, .int 0, .int 0, .int 0, .int 0, .int 0, .int 0, .null])), (ml, .inr (4, [.int 0, .ref e0, .int 0]))] sz) t) (va_A [(xm, .inr (20, [.int 0, .int 0, .ref kn, .int 0, .int 0, .int 0, .ref ml, .ref cl, .ref rg, .ref tr, .ref (aK 0), .ref (aK 0), .ref fl, .int 0, .int 0, .int 0, .int 0, .int 0, .int 0, .int 0, .null])), (ml, .inr (4, [.int 0, .ref e0, .int 0]))] sz)) 0 0 (va_A [(xm, .inr (20, [.int 0, .int 0, .ref kn, .int 0, .int 0, .int 0, .ref ml, .ref cl, .ref rg, .ref tr, .ref (aK 0), .ref (aK 0), .ref fl, .int 0, .int 0, .int 0, .int 0, .int 0, .int 0, .int 0, .null])), (ml, .inr (4, [.int 0, .ref e0, .int 0]))] sz) := by
  refine Met.ofW (cc := cX15_lastOf) (maxL := 4) (ret := (some (.object "BeaverhallModel$Run"))) (by decide) rfl ?_
  intro p e s m args below meth c s₁ B hml hv
  obtain ⟨rfl, hsz, hP, hK, hD0, hN⟩ := hv
  have hx := B.exec
  have hb := B.bytes
  have hr := B.returns
  have hts := atoms_spec (ws := wsX15_lastOf) B.pre
  have hown : s.vm.findClass RX15 = some m.cls := findClass_of_methodNamed B.named
  have hlocks := B.notSynchronized
  subst hsz
  have hD := hD0.self (sz := s.heap.size)
  generalize hAe : va_A [(xm, .inr (20, [.int 0, .int 0, .ref kn, .int 0, .int 0, .int 0, .ref ml, .ref cl, .ref rg, .ref tr, .ref (aK 0), .ref (aK 0), .ref fl, .int 0, .int 0, .int 0, .int 0, .int 0, .int 0, .int 0, .null])), (ml, .inr (4, [.int 0, .ref e0, .int 0]))] s.heap.size = A at hD ⊢
  have hA : ∀ q : Nat, s.heap.size ≤ q → A q := fun q h => by rw [← hAe]; exact Or.inr h
  have hS : va_S A s.heap s.heap [] := va_S.rf
  have hP : va_P (dC, dI) vwCl [(xm, .inr (20, [.int 0, .int 0, .ref kn, .int 0, .int 0, .int 0, .ref ml, .ref cl, .ref rg, .ref tr, .ref (aK 0), .ref (aK 0), .ref fl, .int 0, .int 0, .int 0, .int 0, .int 0, .int 0, .int 0, .null])), (ml, .inr (4, [.int 0, .ref e0, .int 0]))] s.heap := hP
  have hD : va_D A [(xm, .inr (20, [.int 0, .int 0, .ref kn, .int 0, .int 0, .int 0, .ref ml, .ref cl, .ref rg, .ref tr, .ref (aK 0), .ref (aK 0), .ref fl, .int 0, .int 0, .int 0, .int 0, .int 0, .int 0, .int 0, .null])), (ml, .inr (4, [.int 0, .ref e0, .int 0]))] := hD
  have hl := lv_entry ([.ref xm, .int i, .int j]) (n := 4) (Nat.le_of_ble_eq_true rfl)
  rw [lg_entry_eq]
  generalize (lg_sl ([.ref xm, .int i, .int j]) ++ List.replicate (4 - (lg_sl ([.ref xm, .int i, .int j])).length) Slot.unset).toArray = ls at hl ⊢
  have hl : lv_has ls 4 [(0, .ref xm), (1, .int i), (2, .int j)] := hl
  have iWX13 : ∀ w ∈ u_ws RX13 TX13 12, w ∈ wsX15_lastOf := by decide +kernel
  have iWX15 : ∀ w ∈ u_ws RX15 TX15 21, w ∈ wsX15_lastOf := by decide +kernel
  refine lv_aload_n hx hb dX15_lastOf_0 rfl (lv_at hl 0 rfl) ?_
  refine lv_iload_n hx hb dX15_lastOf_1 rfl (lv_at hl 1 rfl) ?_
  have hPc := hP.sub (ws' := [(xm, .inr (20, [.int 0, .int 0, .ref kn, .int 0, .int 0, .int 0, .ref ml, .ref cl, .ref rg, .ref tr, .ref (aK 0), .ref (aK 0), .ref fl, .int 0, .int 0, .int 0, .int 0, .int 0, .int 0, .int 0, .null])), (ml, .inr (4, [.int 0, .ref e0, .int 0]))]) [0, 1] rfl
  have hDc := hD.sub (ws' := [(xm, .inr (20, [.int 0, .int 0, .ref kn, .int 0, .int 0, .int 0, .ref ml, .ref cl, .ref rg, .ref tr, .ref (aK 0), .ref (aK 0), .ref fl, .int 0, .int 0, .int 0, .int 0, .int 0, .int 0, .int 0, .null])), (ml, .inr (4, [.int 0, .ref e0, .int 0]))]) [0, 1] (by decide) rfl
  have hKc := hK.sub (tys' := []) [] rfl
  have hFc := va_free (wc := [(xm, .inr (20, [.int 0, .int 0, .ref kn, .int 0, .int 0, .int 0, .ref ml, .ref cl, .ref rg, .ref tr, .ref (aK 0), .ref (aK 0), .ref fl, .int 0, .int 0, .int 0, .int 0, .int 0, .int 0, .int 0, .null])), (ml, .inr (4, [.int 0, .ref e0, .int 0]))]) hD hS hA [0, 1] rfl
  refine va_calli (va_runV (As := [.int i]) (rest := []) ⟨hx, hb, hml, hown, hts⟩ (c_X15_noMachine l dC dI xm ml cl fl kn rg tr e0 aK aV i s.heap.size) (cwV 1 hts gX15_lastOf_X15_noMachine rfl rfl rfl (by decide +kernel) ⟨Nat.le_of_ble_eq_true rfl, Nat.le_of_ble_eq_true rfl⟩) (pcV hPc hDc hKc hN (ci := 20) (q0 := 0) rfl rfl) rfl rfl hl.1 rfl (lv_room (Nat.le_of_ble_eq_true rfl)) dX15_lastOf_2 ⟨Nat.le_of_ble_eq_true rfl, Nat.le_of_ble_eq_true rfl⟩) hS (fun q _ h => hFc q h) hFc (fun r_1 u t H1 locs ht hvm hw_2 hB hz1 hk1 hS => ?_)
  obtain ⟨hP1, hK1, hD1⟩ := hB
  rw [ht] at hP1
  try dsimp only at hw_2
  obtain ⟨hP, hD⟩ := va_join (wr := []) (w1 := [(xm, .inr (20, [.int 0, .int 0, .ref kn, .int 0, .int 0, .int 1, .ref ml, .ref cl, .ref rg, .ref tr, .ref (aK 0), .ref (aK 0), .ref fl, .int 0, .int 0, .int 0, .int 0, .int 0, .int 0, .int 0, .null])), (ml, .inr (4, [.int 0, .ref e0, .int 0]))]) hP hD [0, 1] [] rfl rfl (by decide) (by decide) hk1 hFc hP1 hD1
  generalize H1 = H at hP hS ⊢
  have hP : va_P (dC, dI) vwCl [(xm, .inr (20, [.int 0, .int 0, .ref kn, .int 0, .int 0, .int 1, .ref ml, .ref cl, .ref rg, .ref tr, .ref (aK 0), .ref (aK 0), .ref fl, .int 0, .int 0, .int 0, .int 0, .int 0, .int 0, .int 0, .null])), (ml, .inr (4, [.int 0, .ref e0, .int 0]))] H := hP
  have hD : va_D A [(xm, .inr (20, [.int 0, .int 0, .ref kn, .int 0, .int 0, .int 1, .ref ml, .ref cl, .ref rg, .ref tr, .ref (aK 0), .ref (aK 0), .ref fl, .int 0, .int 0, .int 0, .int 0, .int 0, .int 0, .int 0, .null])), (ml, .inr (4, [.int 0, .ref e0, .int 0]))] := hD
  subst hw_2
  refine lv_if_eq (tgt := 10) hx hb dX15_lastOf_5 (by decide) (fun c5_3 => ?_) (fun c5_3 => ?_)
  · exact absurd c5_3 (by decide)
  · refine lv_null hx hb dX15_lastOf_8 ?_
    have hP9 := hP.sub (ws' := [(xm, .inr (20, [.int 0, .int 0, .ref kn, .int 0, .int 0, .int 1, .ref ml, .ref cl, .ref rg, .ref tr, .ref (aK 0), .ref (aK 0), .ref fl, .int 0, .int 0, .int 0, .int 0, .int 0, .int 0, .int 0, .null])), (ml, .inr (4, [.int 0, .ref e0, .int 0]))]) [0, 1] rfl
    have hD9 := hD.sub (ws' := [(xm, .inr (20, [.int 0, .int 0, .ref kn, .int 0, .int 0, .int 1, .ref ml, .ref cl, .ref rg, .ref tr, .ref (aK 0), .ref (aK 0), .ref fl, .int 0, .int 0, .int 0, .int 0, .int 0, .int 0, .int 0, .null])), (ml, .inr (4, [.int 0, .ref e0, .int 0]))]) [0, 1] (by decide) rfl
    have hK9 := hK.sub (tys' := []) [] rfl
    exact W.aret (v := .null) hx hb hr (by first | exact Or.inl ⟨_, rfl⟩ | exact Or.inr ⟨_, rfl⟩) (Or.inl rfl) (fun t ht hW => ⟨⟨none, (), rfl, rfl, ⟨by rw [ht]; exact hP9, va_K.moved hW.alike hK9, hD9⟩⟩, hS.F ht⟩) hS.2.2 dX15_lastOf_9

set_option maxHeartbeats 4000000 in
set_option maxRecDepth 100000 in
/-- X15_order -/
theorem c_X15_order (l : Launch) (dC : Nat → ClassId) (dI : Nat → Nat → Nat) (xm ml cl fl kn rg tr : Nat) (e0 : Nat) (aK aV : Nat → Nat) (p0 p1 p2 p3 p4 p5 : Int32) (sz : Nat) : Met l yX15_order wsX15_order ({ frames := 3, cells := 0, slots := 0, locals := 90 }) (va_Pc [.ref xm, .int p0, .int p1, .int p2, .int p3, .int p4, .int p5] (cPC dC dI [(xm, .inr (20, [.int 0, .int 0, .ref kn, .int 0, .int 0, .int 0, .ref ml, .ref cl, .ref rg, .ref tr, .ref (aK 0), .ref (aK 0), .ref fl, .int 0, .int 0, .int 0, .int 0, .int 0, .int 0, .int 0, .null])), (ml, .inr (4, [.int 0, .ref e0, .int 0]))] [] sz)) (va_Qi (fun (r : Int32) (u : List Value) => u[5]? = some (.int 1)) (fun (u : List Value) t => cQB dC dI [(xm, .inr (20, u))] [] (va_A [(xm, .inr (20, [.int 0, .int 0, .ref kn, .int 0, .int 0, .int 0, .ref ml, .ref cl, .ref rg, .ref tr, .ref (aK 0), .ref (aK 0), .ref fl, .int 0, .int 0, .int 0, .int 0, .int 0, .int 0, .int 0, .null])), (ml, .inr (4, [.int 0, .ref e0, .int 0]))] sz) t) (va_A [(xm, .inr (20, [.int 0, .int 0, .ref kn, .int 0, .int 0, .int 0, .ref ml, .ref cl, .ref rg, .ref tr, .ref (aK 0), .ref (aK 0), .ref fl, .int 0, .int 0, .int 0, .int 0, .int 0, .int 0, .int 0, .null])), (ml, .inr (4, [.int 0, .ref e0, .int 0]))] sz)) 0 0 (va_A [(xm, .inr (20, [.int 0, .int 0, .ref kn, .int 0, .int 0, .int 0, .ref ml, .ref cl, .ref rg, .ref tr, .ref (aK 0), .ref (aK 0), .ref fl, .int 0, .int 0, .int 0, .int 0, .int 0, .int 0, .int 0, .null])), (ml, .inr (4, [.int 0, .ref e0, .int 0]))] sz) := by
  refine Met.ofW (cc := cX15_order) (maxL := 9) (ret := (some .int)) (by decide) rfl ?_
  intro p e s m args below meth c s₁ B hml hv
  obtain ⟨rfl, hsz, hP, hK, hD0, hN⟩ := hv
  have hx := B.exec
  have hb := B.bytes
  have hr := B.returns
  have hts := atoms_spec (ws := wsX15_order) B.pre
  have hown : s.vm.findClass RX15 = some m.cls := findClass_of_methodNamed B.named
  have hlocks := B.notSynchronized
  subst hsz
  have hD := hD0.self (sz := s.heap.size)
  generalize hAe : va_A [(xm, .inr (20, [.int 0, .int 0, .ref kn, .int 0, .int 0, .int 0, .ref ml, .ref cl, .ref rg, .ref tr, .ref (aK 0), .ref (aK 0), .ref fl, .int 0, .int 0, .int 0, .int 0, .int 0, .int 0, .int 0, .null])), (ml, .inr (4, [.int 0, .ref e0, .int 0]))] s.heap.size = A at hD ⊢
  have hA : ∀ q : Nat, s.heap.size ≤ q → A q := fun q h => by rw [← hAe]; exact Or.inr h
  have hS : va_S A s.heap s.heap [] := va_S.rf
  have hP : va_P (dC, dI) vwCl [(xm, .inr (20, [.int 0, .int 0, .ref kn, .int 0, .int 0, .int 0, .ref ml, .ref cl, .ref rg, .ref tr, .ref (aK 0), .ref (aK 0), .ref fl, .int 0, .int 0, .int 0, .int 0, .int 0, .int 0, .int 0, .null])), (ml, .inr (4, [.int 0, .ref e0, .int 0]))] s.heap := hP
  have hD : va_D A [(xm, .inr (20, [.int 0, .int 0, .ref kn, .int 0, .int 0, .int 0, .ref ml, .ref cl, .ref rg, .ref tr, .ref (aK 0), .ref (aK 0), .ref fl, .int 0, .int 0, .int 0, .int 0, .int 0, .int 0, .int 0, .null])), (ml, .inr (4, [.int 0, .ref e0, .int 0]))] := hD
  have hl := lv_entry ([.ref xm, .int p0, .int p1, .int p2, .int p3, .int p4, .int p5]) (n := 9) (Nat.le_of_ble_eq_true rfl)
  rw [lg_entry_eq]
  generalize (lg_sl ([.ref xm, .int p0, .int p1, .int p2, .int p3, .int p4, .int p5]) ++ List.replicate (9 - (lg_sl ([.ref xm, .int p0, .int p1, .int p2, .int p3, .int p4, .int p5])).length) Slot.unset).toArray = ls at hl ⊢
  have hl : lv_has ls 9 [(0, .ref xm), (1, .int p0), (2, .int p1), (3, .int p2), (4, .int p3), (5, .int p4), (6, .int p5)] := hl
  have iWX13 : ∀ w ∈ u_ws RX13 TX13 12, w ∈ wsX15_order := by decide +kernel
  have iWX15 : ∀ w ∈ u_ws RX15 TX15 21, w ∈ wsX15_order := by decide +kernel
  refine lv_aload_n hx hb dX15_order_0 rfl (lv_at hl 0 rfl) ?_
  refine lv_iload_n hx hb dX15_order_1 rfl (lv_at hl 1 rfl) ?_
  have hPc := hP.sub (ws' := [(xm, .inr (20, [.int 0, .int 0, .ref kn, .int 0, .int 0, .int 0, .ref ml, .ref cl, .ref rg, .ref tr, .ref (aK 0), .ref (aK 0), .ref fl, .int 0, .int 0, .int 0, .int 0, .int 0, .int 0, .int 0, .null])), (ml, .inr (4, [.int 0, .ref e0, .int 0]))]) [0, 1] rfl
  have hDc := hD.sub (ws' := [(xm, .inr (20, [.int 0, .int 0, .ref kn, .int 0, .int 0, .int 0, .ref ml, .ref cl, .ref rg, .ref tr, .ref (aK 0), .ref (aK 0), .ref fl, .int 0, .int 0, .int 0, .int 0, .int 0, .int 0, .int 0, .null])), (ml, .inr (4, [.int 0, .ref e0, .int 0]))]) [0, 1] (by decide) rfl
  have hKc := hK.sub (tys' := []) [] rfl
  have hFc := va_free (wc := [(xm, .inr (20, [.int 0, .int 0, .ref kn, .int 0, .int 0, .int 0, .ref ml, .ref cl, .ref rg, .ref tr, .ref (aK 0), .ref (aK 0), .ref fl, .int 0, .int 0, .int 0, .int 0, .int 0, .int 0, .int 0, .null])), (ml, .inr (4, [.int 0, .ref e0, .int 0]))]) hD hS hA [0, 1] rfl
  refine va_calli (va_runV (As := [.int p0]) (rest := []) ⟨hx, hb, hml, hown, hts⟩ (c_X15_noMachine l dC dI xm ml cl fl kn rg tr e0 aK aV p0 s.heap.size) (cwV 1 hts gX15_order_X15_noMachine rfl rfl rfl (by decide +kernel) ⟨Nat.le_of_ble_eq_true rfl, Nat.le_of_ble_eq_true rfl⟩) (pcV hPc hDc hKc hN (ci := 20) (q0 := 0) rfl rfl) rfl rfl hl.1 rfl (lv_room (Nat.le_of_ble_eq_true rfl)) dX15_order_2 ⟨Nat.le_of_ble_eq_true rfl, Nat.le_of_ble_eq_true rfl⟩) hS (fun q _ h => hFc q h) hFc (fun r_1 u t H1 locs ht hvm hw_2 hB hz1 hk1 hS => ?_)
  obtain ⟨hP1, hK1, hD1⟩ := hB
  rw [ht] at hP1
  try dsimp only at hw_2
  obtain ⟨hP, hD⟩ := va_join (wr := []) (w1 := [(xm, .inr (20, [.int 0, .int 0, .ref kn, .int 0, .int 0, .int 1, .ref ml, .ref cl, .ref rg, .ref tr, .ref (aK 0), .ref (aK 0), .ref fl, .int 0, .int 0, .int 0, .int 0, .int 0, .int 0, .int 0, .null])), (ml, .inr (4, [.int 0, .ref e0, .int 0]))]) hP hD [0, 1] [] rfl rfl (by decide) (by decide) hk1 hFc hP1 hD1
  generalize H1 = H at hP hS ⊢
  have hP : va_P (dC, dI) vwCl [(xm, .inr (20, [.int 0, .int 0, .ref kn, .int 0, .int 0, .int 1, .ref ml, .ref cl, .ref rg, .ref tr, .ref (aK 0), .ref (aK 0), .ref fl, .int 0, .int 0, .int 0, .int 0, .int 0, .int 0, .int 0, .null])), (ml, .inr (4, [.int 0, .ref e0, .int 0]))] H := hP
  have hD : va_D A [(xm, .inr (20, [.int 0, .int 0, .ref kn, .int 0, .int 0, .int 1, .ref ml, .ref cl, .ref rg, .ref tr, .ref (aK 0), .ref (aK 0), .ref fl, .int 0, .int 0, .int 0, .int 0, .int 0, .int 0, .int 0, .null])), (ml, .inr (4, [.int 0, .ref e0, .int 0]))] := hD
  subst hw_2
  refine lv_if_eq (tgt := 10) hx hb dX15_order_5 (by decide) (fun c5_3 => ?_) (fun c5_3 => ?_)
  · exact absurd c5_3 (by decide)
  · refine lv_iconst (v := 0) hx hb dX15_order_8 (by decide) ?_
    have hP9 := hP.sub (ws' := [(xm, .inr (20, [.int 0, .int 0, .ref kn, .int 0, .int 0, .int 1, .ref ml, .ref cl, .ref rg, .ref tr, .ref (aK 0), .ref (aK 0), .ref fl, .int 0, .int 0, .int 0, .int 0, .int 0, .int 0, .int 0, .null]))]) [0] rfl
    have hD9 := hD.sub (ws' := [(xm, .inr (20, [.int 0, .int 0, .ref kn, .int 0, .int 0, .int 1, .ref ml, .ref cl, .ref rg, .ref tr, .ref (aK 0), .ref (aK 0), .ref fl, .int 0, .int 0, .int 0, .int 0, .int 0, .int 0, .int 0, .null]))]) [0] (by decide) rfl
    have hK9 := hK.sub (tys' := []) [] rfl
    exact W.iret (v := 0) hx hb hr (fun t ht hW => ⟨⟨0, [.int 0, .int 0, .ref kn, .int 0, .int 0, .int 1, .ref ml, .ref cl, .ref rg, .ref tr, .ref (aK 0), .ref (aK 0), .ref fl, .int 0, .int 0, .int 0, .int 0, .int 0, .int 0, .int 0, .null], rfl, rfl, ⟨by rw [ht]; exact hP9, va_K.moved hW.alike hK9, hD9⟩⟩, hS.F ht⟩) hS.2.2 dX15_order_9

set_option maxHeartbeats 4000000 in
set_option maxRecDepth 100000 in
/-- X15_untell -/
theorem c_X15_untell (l : Launch) (dC : Nat → ClassId) (dI : Nat → Nat → Nat) (xm ml cl fl kn rg tr : Nat) (e0 : Nat) (aK aV : Nat → Nat) (p0 p1 p2 : Int32) (sz : Nat) : Met l yX15_untell wsX15_untell ({ frames := 3, cells := 0, slots := 0, locals := 90 }) (va_Pc [.ref xm, .int p0, .int p1, .int p2] (cPC dC dI [(xm, .inr (20, [.int 0, .int 0, .ref kn, .int 0, .int 0, .int 0, .ref ml, .ref cl, .ref rg, .ref tr, .ref (aK 0), .ref (aK 0), .ref fl, .int 0, .int 0, .int 0, .int 0, .int 0, .int 0, .int 0, .null])), (ml, .inr (4, [.int 0, .ref e0, .int 0]))] [] sz)) (va_Qi (fun (r : Int32) (u : List Value) => u[5]? = some (.int 1)) (fun (u : List Value) t => cQB dC dI [(xm, .inr (20, u))] [] (va_A [(xm, .inr (20, [.int 0, .int 0, .ref kn, .int 0, .int 0, .int 0, .ref ml, .ref cl, .ref rg, .ref tr, .ref (aK 0), .ref (aK 0), .ref fl, .int 0, .int 0, .int 0, .int 0, .int 0, .int 0, .int 0, .null])), (ml, .inr (4, [.int 0, .ref e0, .int 0]))] sz) t) (va_A [(xm, .inr (20, [.int 0, .int 0, .ref kn, .int 0, .int 0, .int 0, .ref ml, .ref cl, .ref rg, .ref tr, .ref (aK 0), .ref (aK 0), .ref fl, .int 0, .int 0, .int 0, .int 0, .int 0, .int 0, .int 0, .null])), (ml, .inr (4, [.int 0, .ref e0, .int 0]))] sz)) 0 0 (va_A [(xm, .inr (20, [.int 0, .int 0, .ref kn, .int 0, .int 0, .int 0, .ref ml, .ref cl, .ref rg, .ref tr, .ref (aK 0), .ref (aK 0), .ref fl, .int 0, .int 0, .int 0, .int 0, .int 0, .int 0, .int 0, .null])), (ml, .inr (4, [.int 0, .ref e0, .int 0]))] sz) := by
  refine Met.ofW (cc := cX15_untell) (maxL := 6) (ret := (some .int)) (by decide) rfl ?_
  intro p e s m args below meth c s₁ B hml hv
  obtain ⟨rfl, hsz, hP, hK, hD0, hN⟩ := hv
  have hx := B.exec
  have hb := B.bytes
  have hr := B.returns
  have hts := atoms_spec (ws := wsX15_untell) B.pre
  have hown : s.vm.findClass RX15 = some m.cls := findClass_of_methodNamed B.named
  have hlocks := B.notSynchronized
  subst hsz
  have hD := hD0.self (sz := s.heap.size)
  generalize hAe : va_A [(xm, .inr (20, [.int 0, .int 0, .ref kn, .int 0, .int 0, .int 0, .ref ml, .ref cl, .ref rg, .ref tr, .ref (aK 0), .ref (aK 0), .ref fl, .int 0, .int 0, .int 0, .int 0, .int 0, .int 0, .int 0, .null])), (ml, .inr (4, [.int 0, .ref e0, .int 0]))] s.heap.size = A at hD ⊢
  have hA : ∀ q : Nat, s.heap.size ≤ q → A q := fun q h => by rw [← hAe]; exact Or.inr h
  have hS : va_S A s.heap s.heap [] := va_S.rf
  have hP : va_P (dC, dI) vwCl [(xm, .inr (20, [.int 0, .int 0, .ref kn, .int 0, .int 0, .int 0, .ref ml, .ref cl, .ref rg, .ref tr, .ref (aK 0), .ref (aK 0), .ref fl, .int 0, .int 0, .int 0, .int 0, .int 0, .int 0, .int 0, .null])), (ml, .inr (4, [.int 0, .ref e0, .int 0]))] s.heap := hP
  have hD : va_D A [(xm, .inr (20, [.int 0, .int 0, .ref kn, .int 0, .int 0, .int 0, .ref ml, .ref cl, .ref rg, .ref tr, .ref (aK 0), .ref (aK 0), .ref fl, .int 0, .int 0, .int 0, .int 0, .int 0, .int 0, .int 0, .null])), (ml, .inr (4, [.int 0, .ref e0, .int 0]))] := hD
  have hl := lv_entry ([.ref xm, .int p0, .int p1, .int p2]) (n := 6) (Nat.le_of_ble_eq_true rfl)
  rw [lg_entry_eq]
  generalize (lg_sl ([.ref xm, .int p0, .int p1, .int p2]) ++ List.replicate (6 - (lg_sl ([.ref xm, .int p0, .int p1, .int p2])).length) Slot.unset).toArray = ls at hl ⊢
  have hl : lv_has ls 6 [(0, .ref xm), (1, .int p0), (2, .int p1), (3, .int p2)] := hl
  have iWX13 : ∀ w ∈ u_ws RX13 TX13 12, w ∈ wsX15_untell := by decide +kernel
  have iWX15 : ∀ w ∈ u_ws RX15 TX15 21, w ∈ wsX15_untell := by decide +kernel
  refine lv_aload_n hx hb dX15_untell_0 rfl (lv_at hl 0 rfl) ?_
  refine lv_iload_n hx hb dX15_untell_1 rfl (lv_at hl 1 rfl) ?_
  have hPc := hP.sub (ws' := [(xm, .inr (20, [.int 0, .int 0, .ref kn, .int 0, .int 0, .int 0, .ref ml, .ref cl, .ref rg, .ref tr, .ref (aK 0), .ref (aK 0), .ref fl, .int 0, .int 0, .int 0, .int 0, .int 0, .int 0, .int 0, .null])), (ml, .inr (4, [.int 0, .ref e0, .int 0]))]) [0, 1] rfl
  have hDc := hD.sub (ws' := [(xm, .inr (20, [.int 0, .int 0, .ref kn, .int 0, .int 0, .int 0, .ref ml, .ref cl, .ref rg, .ref tr, .ref (aK 0), .ref (aK 0), .ref fl, .int 0, .int 0, .int 0, .int 0, .int 0, .int 0, .int 0, .null])), (ml, .inr (4, [.int 0, .ref e0, .int 0]))]) [0, 1] (by decide) rfl
  have hKc := hK.sub (tys' := []) [] rfl
  have hFc := va_free (wc := [(xm, .inr (20, [.int 0, .int 0, .ref kn, .int 0, .int 0, .int 0, .ref ml, .ref cl, .ref rg, .ref tr, .ref (aK 0), .ref (aK 0), .ref fl, .int 0, .int 0, .int 0, .int 0, .int 0, .int 0, .int 0, .null])), (ml, .inr (4, [.int 0, .ref e0, .int 0]))]) hD hS hA [0, 1] rfl
  refine va_calli (va_runV (As := [.int p0]) (rest := []) ⟨hx, hb, hml, hown, hts⟩ (c_X15_noMachine l dC dI xm ml cl fl kn rg tr e0 aK aV p0 s.heap.size) (cwV 1 hts gX15_untell_X15_noMachine rfl rfl rfl (by decide +kernel) ⟨Nat.le_of_ble_eq_true rfl, Nat.le_of_ble_eq_true rfl⟩) (pcV hPc hDc hKc hN (ci := 20) (q0 := 0) rfl rfl) rfl rfl hl.1 rfl (lv_room (Nat.le_of_ble_eq_true rfl)) dX15_untell_2 ⟨Nat.le_of_ble_eq_true rfl, Nat.le_of_ble_eq_true rfl⟩) hS (fun q _ h => hFc q h) hFc (fun r_1 u t H1 locs ht hvm hw_2 hB hz1 hk1 hS => ?_)
  obtain ⟨hP1, hK1, hD1⟩ := hB
  rw [ht] at hP1
  try dsimp only at hw_2
  obtain ⟨hP, hD⟩ := va_join (wr := []) (w1 := [(xm, .inr (20, [.int 0, .int 0, .ref kn, .int 0, .int 0, .int 1, .ref ml, .ref cl, .ref rg, .ref tr, .ref (aK 0), .ref (aK 0), .ref fl, .int 0, .int 0, .int 0, .int 0, .int 0, .int 0, .int 0, .null])), (ml, .inr (4, [.int 0, .ref e0, .int 0]))]) hP hD [0, 1] [] rfl rfl (by decide) (by decide) hk1 hFc hP1 hD1
  generalize H1 = H at hP hS ⊢
  have hP : va_P (dC, dI) vwCl [(xm, .inr (20, [.int 0, .int 0, .ref kn, .int 0, .int 0, .int 1, .ref ml, .ref cl, .ref rg, .ref tr, .ref (aK 0), .ref (aK 0), .ref fl, .int 0, .int 0, .int 0, .int 0, .int 0, .int 0, .int 0, .null])), (ml, .inr (4, [.int 0, .ref e0, .int 0]))] H := hP
  have hD : va_D A [(xm, .inr (20, [.int 0, .int 0, .ref kn, .int 0, .int 0, .int 1, .ref ml, .ref cl, .ref rg, .ref tr, .ref (aK 0), .ref (aK 0), .ref fl, .int 0, .int 0, .int 0, .int 0, .int 0, .int 0, .int 0, .null])), (ml, .inr (4, [.int 0, .ref e0, .int 0]))] := hD
  subst hw_2
  refine lv_if_eq (tgt := 10) hx hb dX15_untell_5 (by decide) (fun c5_3 => ?_) (fun c5_3 => ?_)
  · exact absurd c5_3 (by decide)
  · refine lv_iconst (v := 0) hx hb dX15_untell_8 (by decide) ?_
    have hP9 := hP.sub (ws' := [(xm, .inr (20, [.int 0, .int 0, .ref kn, .int 0, .int 0, .int 1, .ref ml, .ref cl, .ref rg, .ref tr, .ref (aK 0), .ref (aK 0), .ref fl, .int 0, .int 0, .int 0, .int 0, .int 0, .int 0, .int 0, .null]))]) [0] rfl
    have hD9 := hD.sub (ws' := [(xm, .inr (20, [.int 0, .int 0, .ref kn, .int 0, .int 0, .int 1, .ref ml, .ref cl, .ref rg, .ref tr, .ref (aK 0), .ref (aK 0), .ref fl, .int 0, .int 0, .int 0, .int 0, .int 0, .int 0, .int 0, .null]))]) [0] (by decide) rfl
    have hK9 := hK.sub (tys' := []) [] rfl
    exact W.iret (v := 0) hx hb hr (fun t ht hW => ⟨⟨0, [.int 0, .int 0, .ref kn, .int 0, .int 0, .int 1, .ref ml, .ref cl, .ref rg, .ref tr, .ref (aK 0), .ref (aK 0), .ref fl, .int 0, .int 0, .int 0, .int 0, .int 0, .int 0, .int 0, .null], rfl, rfl, ⟨by rw [ht]; exact hP9, va_K.moved hW.alike hK9, hD9⟩⟩, hS.F ht⟩) hS.2.2 dX15_untell_9

set_option maxHeartbeats 4000000 in
set_option maxRecDepth 100000 in
/-- X15_copy -/
theorem c_X15_copy (l : Launch) (dC : Nat → ClassId) (dI : Nat → Nat → Nat) (xm ml cl fl kn rg tr : Nat) (e0 : Nat) (aK aV : Nat → Nat) (p0 : Int32) (sz : Nat) : Met l yX15_copy wsX15_copy ({ frames := 3, cells := 0, slots := 0, locals := 90 }) (va_Pc [.ref xm, .int p0] (cPC dC dI [(xm, .inr (20, [.int 0, .int 0, .ref kn, .int 0, .int 0, .int 0, .ref ml, .ref cl, .ref rg, .ref tr, .ref (aK 0), .ref (aK 0), .ref fl, .int 0, .int 0, .int 0, .int 0, .int 0, .int 0, .int 0, .null])), (ml, .inr (4, [.int 0, .ref e0, .int 0]))] [] sz)) (va_Qi (fun (r : Int32) (u : List Value) => u[5]? = some (.int 1)) (fun (u : List Value) t => cQB dC dI [(xm, .inr (20, u))] [] (va_A [(xm, .inr (20, [.int 0, .int 0, .ref kn, .int 0, .int 0, .int 0, .ref ml, .ref cl, .ref rg, .ref tr, .ref (aK 0), .ref (aK 0), .ref fl, .int 0, .int 0, .int 0, .int 0, .int 0, .int 0, .int 0, .null])), (ml, .inr (4, [.int 0, .ref e0, .int 0]))] sz) t) (va_A [(xm, .inr (20, [.int 0, .int 0, .ref kn, .int 0, .int 0, .int 0, .ref ml, .ref cl, .ref rg, .ref tr, .ref (aK 0), .ref (aK 0), .ref fl, .int 0, .int 0, .int 0, .int 0, .int 0, .int 0, .int 0, .null])), (ml, .inr (4, [.int 0, .ref e0, .int 0]))] sz)) 0 0 (va_A [(xm, .inr (20, [.int 0, .int 0, .ref kn, .int 0, .int 0, .int 0, .ref ml, .ref cl, .ref rg, .ref tr, .ref (aK 0), .ref (aK 0), .ref fl, .int 0, .int 0, .int 0, .int 0, .int 0, .int 0, .int 0, .null])), (ml, .inr (4, [.int 0, .ref e0, .int 0]))] sz) := by
  refine Met.ofW (cc := cX15_copy) (maxL := 2) (ret := (some .int)) (by decide) rfl ?_
  intro p e s m args below meth c s₁ B hml hv
  obtain ⟨rfl, hsz, hP, hK, hD0, hN⟩ := hv
  have hx := B.exec
  have hb := B.bytes
  have hr := B.returns
  have hts := atoms_spec (ws := wsX15_copy) B.pre
  have hown : s.vm.findClass RX15 = some m.cls := findClass_of_methodNamed B.named
  have hlocks := B.notSynchronized
  subst hsz
  have hD := hD0.self (sz := s.heap.size)
  generalize hAe : va_A [(xm, .inr (20, [.int 0, .int 0, .ref kn, .int 0, .int 0, .int 0, .ref ml, .ref cl, .ref rg, .ref tr, .ref (aK 0), .ref (aK 0), .ref fl, .int 0, .int 0, .int 0, .int 0, .int 0, .int 0, .int 0, .null])), (ml, .inr (4, [.int 0, .ref e0, .int 0]))] s.heap.size = A at hD ⊢
  have hA : ∀ q : Nat, s.heap.size ≤ q → A q := fun q h => by rw [← hAe]; exact Or.inr h
  have hS : va_S A s.heap s.heap [] := va_S.rf
  have hP : va_P (dC, dI) vwCl [(xm, .inr (20, [.int 0, .int 0, .ref kn, .int 0, .int 0, .int 0, .ref ml, .ref cl, .ref rg, .ref tr, .ref (aK 0), .ref (aK 0), .ref fl, .int 0, .int 0, .int 0, .int 0, .int 0, .int 0, .int 0, .null])), (ml, .inr (4, [.int 0, .ref e0, .int 0]))] s.heap := hP
  have hD : va_D A [(xm, .inr (20, [.int 0, .int 0, .ref kn, .int 0, .int 0, .int 0, .ref ml, .ref cl, .ref rg, .ref tr, .ref (aK 0), .ref (aK 0), .ref fl, .int 0, .int 0, .int 0, .int 0, .int 0, .int 0, .int 0, .null])), (ml, .inr (4, [.int 0, .ref e0, .int 0]))] := hD
  have hl := lv_entry ([.ref xm, .int p0]) (n := 2) (Nat.le_of_ble_eq_true rfl)
  rw [lg_entry_eq]
  generalize (lg_sl ([.ref xm, .int p0]) ++ List.replicate (2 - (lg_sl ([.ref xm, .int p0])).length) Slot.unset).toArray = ls at hl ⊢
  have hl : lv_has ls 2 [(0, .ref xm), (1, .int p0)] := hl
  have iWX15 : ∀ w ∈ u_ws RX15 TX15 21, w ∈ wsX15_copy := by decide +kernel
  refine lv_aload_n hx hb dX15_copy_0 rfl (lv_at hl 0 rfl) ?_
  refine lv_iload_n hx hb dX15_copy_1 rfl (lv_at hl 1 rfl) ?_
  have hPc := hP.sub (ws' := [(xm, .inr (20, [.int 0, .int 0, .ref kn, .int 0, .int 0, .int 0, .ref ml, .ref cl, .ref rg, .ref tr, .ref (aK 0), .ref (aK 0), .ref fl, .int 0, .int 0, .int 0, .int 0, .int 0, .int 0, .int 0, .null])), (ml, .inr (4, [.int 0, .ref e0, .int 0]))]) [0, 1] rfl
  have hDc := hD.sub (ws' := [(xm, .inr (20, [.int 0, .int 0, .ref kn, .int 0, .int 0, .int 0, .ref ml, .ref cl, .ref rg, .ref tr, .ref (aK 0), .ref (aK 0), .ref fl, .int 0, .int 0, .int 0, .int 0, .int 0, .int 0, .int 0, .null])), (ml, .inr (4, [.int 0, .ref e0, .int 0]))]) [0, 1] (by decide) rfl
  have hKc := hK.sub (tys' := []) [] rfl
  have hFc := va_free (wc := [(xm, .inr (20, [.int 0, .int 0, .ref kn, .int 0, .int 0, .int 0, .ref ml, .ref cl, .ref rg, .ref tr, .ref (aK 0), .ref (aK 0), .ref fl, .int 0, .int 0, .int 0, .int 0, .int 0, .int 0, .int 0, .null])), (ml, .inr (4, [.int 0, .ref e0, .int 0]))]) hD hS hA [0, 1] rfl
  refine va_calli (va_runV (As := [.int p0]) (rest := []) ⟨hx, hb, hml, hown, hts⟩ (c_X15_noMachine l dC dI xm ml cl fl kn rg tr e0 aK aV p0 s.heap.size) (cwV 1 hts gX15_copy_X15_noMachine rfl rfl rfl (by decide +kernel) ⟨Nat.le_of_ble_eq_true rfl, Nat.le_of_ble_eq_true rfl⟩) (pcV hPc hDc hKc hN (ci := 20) (q0 := 0) rfl rfl) rfl rfl hl.1 rfl (lv_room (Nat.le_of_ble_eq_true rfl)) dX15_copy_2 ⟨Nat.le_of_ble_eq_true rfl, Nat.le_of_ble_eq_true rfl⟩) hS (fun q _ h => hFc q h) hFc (fun r_1 u t H1 locs ht hvm hw_2 hB hz1 hk1 hS => ?_)
  obtain ⟨hP1, hK1, hD1⟩ := hB
  rw [ht] at hP1
  try dsimp only at hw_2
  obtain ⟨hP, hD⟩ := va_join (wr := []) (w1 := [(xm, .inr (20, [.int 0, .int 0, .ref kn, .int 0, .int 0, .int 1, .ref ml, .ref cl, .ref rg, .ref tr, .ref (aK 0), .ref (aK 0), .ref fl, .int 0, .int 0, .int 0, .int 0, .int 0, .int 0, .int 0, .null])), (ml, .inr (4, [.int 0, .ref e0, .int 0]))]) hP hD [0, 1] [] rfl rfl (by decide) (by decide) hk1 hFc hP1 hD1
  generalize H1 = H at hP hS ⊢
  have hP : va_P (dC, dI) vwCl [(xm, .inr (20, [.int 0, .int 0, .ref kn, .int 0, .int 0, .int 1, .ref ml, .ref cl, .ref rg, .ref tr, .ref (aK 0), .ref (aK 0), .ref fl, .int 0, .int 0, .int 0, .int 0, .int 0, .int 0, .int 0, .null])), (ml, .inr (4, [.int 0, .ref e0, .int 0]))] H := hP
  have hD : va_D A [(xm, .inr (20, [.int 0, .int 0, .ref kn, .int 0, .int 0, .int 1, .ref ml, .ref cl, .ref rg, .ref tr, .ref (aK 0), .ref (aK 0), .ref fl, .int 0, .int 0, .int 0, .int 0, .int 0, .int 0, .int 0, .null])), (ml, .inr (4, [.int 0, .ref e0, .int 0]))] := hD
  subst hw_2
  refine lv_if_eq (tgt := 10) hx hb dX15_copy_5 (by decide) (fun c5_3 => ?_) (fun c5_3 => ?_)
  · exact absurd c5_3 (by decide)
  · refine lv_iconst (v := 0) hx hb dX15_copy_8 (by decide) ?_
    have hP9 := hP.sub (ws' := [(xm, .inr (20, [.int 0, .int 0, .ref kn, .int 0, .int 0, .int 1, .ref ml, .ref cl, .ref rg, .ref tr, .ref (aK 0), .ref (aK 0), .ref fl, .int 0, .int 0, .int 0, .int 0, .int 0, .int 0, .int 0, .null]))]) [0] rfl
    have hD9 := hD.sub (ws' := [(xm, .inr (20, [.int 0, .int 0, .ref kn, .int 0, .int 0, .int 1, .ref ml, .ref cl, .ref rg, .ref tr, .ref (aK 0), .ref (aK 0), .ref fl, .int 0, .int 0, .int 0, .int 0, .int 0, .int 0, .int 0, .null]))]) [0] (by decide) rfl
    have hK9 := hK.sub (tys' := []) [] rfl
    exact W.iret (v := 0) hx hb hr (fun t ht hW => ⟨⟨0, [.int 0, .int 0, .ref kn, .int 0, .int 0, .int 1, .ref ml, .ref cl, .ref rg, .ref tr, .ref (aK 0), .ref (aK 0), .ref fl, .int 0, .int 0, .int 0, .int 0, .int 0, .int 0, .int 0, .null], rfl, rfl, ⟨by rw [ht]; exact hP9, va_K.moved hW.alike hK9, hD9⟩⟩, hS.F ht⟩) hS.2.2 dX15_copy_9

set_option maxHeartbeats 4000000 in
set_option maxRecDepth 100000 in
/-- X15_run -/
theorem c_X15_run (l : Launch) (dC : Nat → ClassId) (dI : Nat → Nat → Nat) (xm ml cl fl kn rg tr : Nat) (e0 : Nat) (aK aV : Nat → Nat) (p0 p1 : Int32) (sz : Nat) : Met l yX15_run wsX15_run ({ frames := 3, cells := 0, slots := 0, locals := 90 }) (va_Pc [.ref xm, .int p0, .int p1] (cPC dC dI [(xm, .inr (20, [.int 0, .int 0, .ref kn, .int 0, .int 0, .int 0, .ref ml, .ref cl, .ref rg, .ref tr, .ref (aK 0), .ref (aK 0), .ref fl, .int 0, .int 0, .int 0, .int 0, .int 0, .int 0, .int 0, .null])), (ml, .inr (4, [.int 0, .ref e0, .int 0]))] [] sz)) (va_Qi (fun (r : Int32) (u : List Value) => u[5]? = some (.int 1)) (fun (u : List Value) t => cQB dC dI [(xm, .inr (20, u))] [] (va_A [(xm, .inr (20, [.int 0, .int 0, .ref kn, .int 0, .int 0, .int 0, .ref ml, .ref cl, .ref rg, .ref tr, .ref (aK 0), .ref (aK 0), .ref fl, .int 0, .int 0, .int 0, .int 0, .int 0, .int 0, .int 0, .null])), (ml, .inr (4, [.int 0, .ref e0, .int 0]))] sz) t) (va_A [(xm, .inr (20, [.int 0, .int 0, .ref kn, .int 0, .int 0, .int 0, .ref ml, .ref cl, .ref rg, .ref tr, .ref (aK 0), .ref (aK 0), .ref fl, .int 0, .int 0, .int 0, .int 0, .int 0, .int 0, .int 0, .null])), (ml, .inr (4, [.int 0, .ref e0, .int 0]))] sz)) 0 0 (va_A [(xm, .inr (20, [.int 0, .int 0, .ref kn, .int 0, .int 0, .int 0, .ref ml, .ref cl, .ref rg, .ref tr, .ref (aK 0), .ref (aK 0), .ref fl, .int 0, .int 0, .int 0, .int 0, .int 0, .int 0, .int 0, .null])), (ml, .inr (4, [.int 0, .ref e0, .int 0]))] sz) := by
  refine Met.ofW (cc := cX15_run) (maxL := 4) (ret := (some .int)) (by decide) rfl ?_
  intro p e s m args below meth c s₁ B hml hv
  obtain ⟨rfl, hsz, hP, hK, hD0, hN⟩ := hv
  have hx := B.exec
  have hb := B.bytes
  have hr := B.returns
  have hts := atoms_spec (ws := wsX15_run) B.pre
  have hown : s.vm.findClass RX15 = some m.cls := findClass_of_methodNamed B.named
  have hlocks := B.notSynchronized
  subst hsz
  have hD := hD0.self (sz := s.heap.size)
  generalize hAe : va_A [(xm, .inr (20, [.int 0, .int 0, .ref kn, .int 0, .int 0, .int 0, .ref ml, .ref cl, .ref rg, .ref tr, .ref (aK 0), .ref (aK 0), .ref fl, .int 0, .int 0, .int 0, .int 0, .int 0, .int 0, .int 0, .null])), (ml, .inr (4, [.int 0, .ref e0, .int 0]))] s.heap.size = A at hD ⊢
  have hA : ∀ q : Nat, s.heap.size ≤ q → A q := fun q h => by rw [← hAe]; exact Or.inr h
  have hS : va_S A s.heap s.heap [] := va_S.rf
  have hP : va_P (dC, dI) vwCl [(xm, .inr (20, [.int 0, .int 0, .ref kn, .int 0, .int 0, .int 0, .ref ml, .ref cl, .ref rg, .ref tr, .ref (aK 0), .ref (aK 0), .ref fl, .int 0, .int 0, .int 0, .int 0, .int 0, .int 0, .int 0, .null])), (ml, .inr (4, [.int 0, .ref e0, .int 0]))] s.heap := hP
  have hD : va_D A [(xm, .inr (20, [.int 0, .int 0, .ref kn, .int 0, .int 0, .int 0, .ref ml, .ref cl, .ref rg, .ref tr, .ref (aK 0), .ref (aK 0), .ref fl, .int 0, .int 0, .int 0, .int 0, .int 0, .int 0, .int 0, .null])), (ml, .inr (4, [.int 0, .ref e0, .int 0]))] := hD
  have hl := lv_entry ([.ref xm, .int p0, .int p1]) (n := 4) (Nat.le_of_ble_eq_true rfl)
  rw [lg_entry_eq]
  generalize (lg_sl ([.ref xm, .int p0, .int p1]) ++ List.replicate (4 - (lg_sl ([.ref xm, .int p0, .int p1])).length) Slot.unset).toArray = ls at hl ⊢
  have hl : lv_has ls 4 [(0, .ref xm), (1, .int p0), (2, .int p1)] := hl
  have iWX13 : ∀ w ∈ u_ws RX13 TX13 12, w ∈ wsX15_run := by decide +kernel
  have iWX14 : ∀ w ∈ u_ws RX14 TX14 9, w ∈ wsX15_run := by decide +kernel
  have iWX15 : ∀ w ∈ u_ws RX15 TX15 21, w ∈ wsX15_run := by decide +kernel
  refine lv_aload_n hx hb dX15_run_0 rfl (lv_at hl 0 rfl) ?_
  refine lv_iload_n hx hb dX15_run_1 rfl (lv_at hl 1 rfl) ?_
  have hPc := hP.sub (ws' := [(xm, .inr (20, [.int 0, .int 0, .ref kn, .int 0, .int 0, .int 0, .ref ml, .ref cl, .ref rg, .ref tr, .ref (aK 0), .ref (aK 0), .ref fl, .int 0, .int 0, .int 0, .int 0, .int 0, .int 0, .int 0, .null])), (ml, .inr (4, [.int 0, .ref e0, .int 0]))]) [0, 1] rfl
  have hDc := hD.sub (ws' := [(xm, .inr (20, [.int 0, .int 0, .ref kn, .int 0, .int 0, .int 0, .ref ml, .ref cl, .ref rg, .ref tr, .ref (aK 0), .ref (aK 0), .ref fl, .int 0, .int 0, .int 0, .int 0, .int 0, .int 0, .int 0, .null])), (ml, .inr (4, [.int 0, .ref e0, .int 0]))]) [0, 1] (by decide) rfl
  have hKc := hK.sub (tys' := []) [] rfl
  have hFc := va_free (wc := [(xm, .inr (20, [.int 0, .int 0, .ref kn, .int 0, .int 0, .int 0, .ref ml, .ref cl, .ref rg, .ref tr, .ref (aK 0), .ref (aK 0), .ref fl, .int 0, .int 0, .int 0, .int 0, .int 0, .int 0, .int 0, .null])), (ml, .inr (4, [.int 0, .ref e0, .int 0]))]) hD hS hA [0, 1] rfl
  refine va_calli (va_runV (As := [.int p0]) (rest := []) ⟨hx, hb, hml, hown, hts⟩ (c_X15_noMachine l dC dI xm ml cl fl kn rg tr e0 aK aV p0 s.heap.size) (cwV 1 hts gX15_run_X15_noMachine rfl rfl rfl (by decide +kernel) ⟨Nat.le_of_ble_eq_true rfl, Nat.le_of_ble_eq_true rfl⟩) (pcV hPc hDc hKc hN (ci := 20) (q0 := 0) rfl rfl) rfl rfl hl.1 rfl (lv_room (Nat.le_of_ble_eq_true rfl)) dX15_run_2 ⟨Nat.le_of_ble_eq_true rfl, Nat.le_of_ble_eq_true rfl⟩) hS (fun q _ h => hFc q h) hFc (fun r_1 u t H1 locs ht hvm hw_2 hB hz1 hk1 hS => ?_)
  obtain ⟨hP1, hK1, hD1⟩ := hB
  rw [ht] at hP1
  try dsimp only at hw_2
  obtain ⟨hP, hD⟩ := va_join (wr := []) (w1 := [(xm, .inr (20, [.int 0, .int 0, .ref kn, .int 0, .int 0, .int 1, .ref ml, .ref cl, .ref rg, .ref tr, .ref (aK 0), .ref (aK 0), .ref fl, .int 0, .int 0, .int 0, .int 0, .int 0, .int 0, .int 0, .null])), (ml, .inr (4, [.int 0, .ref e0, .int 0]))]) hP hD [0, 1] [] rfl rfl (by decide) (by decide) hk1 hFc hP1 hD1
  generalize H1 = H at hP hS ⊢
  have hP : va_P (dC, dI) vwCl [(xm, .inr (20, [.int 0, .int 0, .ref kn, .int 0, .int 0, .int 1, .ref ml, .ref cl, .ref rg, .ref tr, .ref (aK 0), .ref (aK 0), .ref fl, .int 0, .int 0, .int 0, .int 0, .int 0, .int 0, .int 0, .null])), (ml, .inr (4, [.int 0, .ref e0, .int 0]))] H := hP
  have hD : va_D A [(xm, .inr (20, [.int 0, .int 0, .ref kn, .int 0, .int 0, .int 1, .ref ml, .ref cl, .ref rg, .ref tr, .ref (aK 0), .ref (aK 0), .ref fl, .int 0, .int 0, .int 0, .int 0, .int 0, .int 0, .int 0, .null])), (ml, .inr (4, [.int 0, .ref e0, .int 0]))] := hD
  subst hw_2
  refine lv_if_eq (tgt := 10) hx hb dX15_run_5 (by decide) (fun c5_3 => ?_) (fun c5_3 => ?_)
  · exact absurd c5_3 (by decide)
  · refine lv_iconst (v := 0) hx hb dX15_run_8 (by decide) ?_
    have hP9 := hP.sub (ws' := [(xm, .inr (20, [.int 0, .int 0, .ref kn, .int 0, .int 0, .int 1, .ref ml, .ref cl, .ref rg, .ref tr, .ref (aK 0), .ref (aK 0), .ref fl, .int 0, .int 0, .int 0, .int 0, .int 0, .int 0, .int 0, .null]))]) [0] rfl
    have hD9 := hD.sub (ws' := [(xm, .inr (20, [.int 0, .int 0, .ref kn, .int 0, .int 0, .int 1, .ref ml, .ref cl, .ref rg, .ref tr, .ref (aK 0), .ref (aK 0), .ref fl, .int 0, .int 0, .int 0, .int 0, .int 0, .int 0, .int 0, .null]))]) [0] (by decide) rfl
    have hK9 := hK.sub (tys' := []) [] rfl
    exact W.iret (v := 0) hx hb hr (fun t ht hW => ⟨⟨0, [.int 0, .int 0, .ref kn, .int 0, .int 0, .int 1, .ref ml, .ref cl, .ref rg, .ref tr, .ref (aK 0), .ref (aK 0), .ref fl, .int 0, .int 0, .int 0, .int 0, .int 0, .int 0, .int 0, .null], rfl, rfl, ⟨by rw [ht]; exact hP9, va_K.moved hW.alike hK9, hD9⟩⟩, hS.F ht⟩) hS.2.2 dX15_run_9

set_option maxHeartbeats 4000000 in
set_option maxRecDepth 100000 in
/-- X15_ran -/
theorem c_X15_ran (l : Launch) (dC : Nat → ClassId) (dI : Nat → Nat → Nat) (xm ml cl fl kn rg tr : Nat) (e0 : Nat) (aK aV : Nat → Nat) (p0 p1 : Int32) (sz : Nat) : Met l yX15_ran wsX15_ran ({ frames := 3, cells := 0, slots := 0, locals := 90 }) (va_Pc [.ref xm, .int p0, .int p1] (cPC dC dI [(xm, .inr (20, [.int 0, .int 0, .ref kn, .int 0, .int 0, .int 0, .ref ml, .ref cl, .ref rg, .ref tr, .ref (aK 0), .ref (aK 0), .ref fl, .int 0, .int 0, .int 0, .int 0, .int 0, .int 0, .int 0, .null])), (ml, .inr (4, [.int 0, .ref e0, .int 0]))] [] sz)) (va_Qi (fun (r : Int32) (u : List Value) => u[5]? = some (.int 1)) (fun (u : List Value) t => cQB dC dI [(xm, .inr (20, u))] [] (va_A [(xm, .inr (20, [.int 0, .int 0, .ref kn, .int 0, .int 0, .int 0, .ref ml, .ref cl, .ref rg, .ref tr, .ref (aK 0), .ref (aK 0), .ref fl, .int 0, .int 0, .int 0, .int 0, .int 0, .int 0, .int 0, .null])), (ml, .inr (4, [.int 0, .ref e0, .int 0]))] sz) t) (va_A [(xm, .inr (20, [.int 0, .int 0, .ref kn, .int 0, .int 0, .int 0, .ref ml, .ref cl, .ref rg, .ref tr, .ref (aK 0), .ref (aK 0), .ref fl, .int 0, .int 0, .int 0, .int 0, .int 0, .int 0, .int 0, .null])), (ml, .inr (4, [.int 0, .ref e0, .int 0]))] sz)) 0 0 (va_A [(xm, .inr (20, [.int 0, .int 0, .ref kn, .int 0, .int 0, .int 0, .ref ml, .ref cl, .ref rg, .ref tr, .ref (aK 0), .ref (aK 0), .ref fl, .int 0, .int 0, .int 0, .int 0, .int 0, .int 0, .int 0, .null])), (ml, .inr (4, [.int 0, .ref e0, .int 0]))] sz) := by
  refine Met.ofW (cc := cX15_ran) (maxL := 4) (ret := (some .int)) (by decide) rfl ?_
  intro p e s m args below meth c s₁ B hml hv
  obtain ⟨rfl, hsz, hP, hK, hD0, hN⟩ := hv
  have hx := B.exec
  have hb := B.bytes
  have hr := B.returns
  have hts := atoms_spec (ws := wsX15_ran) B.pre
  have hown : s.vm.findClass RX15 = some m.cls := findClass_of_methodNamed B.named
  have hlocks := B.notSynchronized
  subst hsz
  have hD := hD0.self (sz := s.heap.size)
  generalize hAe : va_A [(xm, .inr (20, [.int 0, .int 0, .ref kn, .int 0, .int 0, .int 0, .ref ml, .ref cl, .ref rg, .ref tr, .ref (aK 0), .ref (aK 0), .ref fl, .int 0, .int 0, .int 0, .int 0, .int 0, .int 0, .int 0, .null])), (ml, .inr (4, [.int 0, .ref e0, .int 0]))] s.heap.size = A at hD ⊢
  have hA : ∀ q : Nat, s.heap.size ≤ q → A q := fun q h => by rw [← hAe]; exact Or.inr h
  have hS : va_S A s.heap s.heap [] := va_S.rf
  have hP : va_P (dC, dI) vwCl [(xm, .inr (20, [.int 0, .int 0, .ref kn, .int 0, .int 0, .int 0, .ref ml, .ref cl, .ref rg, .ref tr, .ref (aK 0), .ref (aK 0), .ref fl, .int 0, .int 0, .int 0, .int 0, .int 0, .int 0, .int 0, .null])), (ml, .inr (4, [.int 0, .ref e0, .int 0]))] s.heap := hP
  have hD : va_D A [(xm, .inr (20, [.int 0, .int 0, .ref kn, .int 0, .int 0, .int 0, .ref ml, .ref cl, .ref rg, .ref tr, .ref (aK 0), .ref (aK 0), .ref fl, .int 0, .int 0, .int 0, .int 0, .int 0, .int 0, .int 0, .null])), (ml, .inr (4, [.int 0, .ref e0, .int 0]))] := hD
  have hl := lv_entry ([.ref xm, .int p0, .int p1]) (n := 4) (Nat.le_of_ble_eq_true rfl)
  rw [lg_entry_eq]
  generalize (lg_sl ([.ref xm, .int p0, .int p1]) ++ List.replicate (4 - (lg_sl ([.ref xm, .int p0, .int p1])).length) Slot.unset).toArray = ls at hl ⊢
  have hl : lv_has ls 4 [(0, .ref xm), (1, .int p0), (2, .int p1)] := hl
  have iWX14 : ∀ w ∈ u_ws RX14 TX14 9, w ∈ wsX15_ran := by decide +kernel
  refine lv_aload_n hx hb dX15_ran_0 rfl (lv_at hl 0 rfl) ?_
  refine lv_iload_n hx hb dX15_ran_1 rfl (lv_at hl 1 rfl) ?_
  have hPc := hP.sub (ws' := [(xm, .inr (20, [.int 0, .int 0, .ref kn, .int 0, .int 0, .int 0, .ref ml, .ref cl, .ref rg, .ref tr, .ref (aK 0), .ref (aK 0), .ref fl, .int 0, .int 0, .int 0, .int 0, .int 0, .int 0, .int 0, .null])), (ml, .inr (4, [.int 0, .ref e0, .int 0]))]) [0, 1] rfl
  have hDc := hD.sub (ws' := [(xm, .inr (20, [.int 0, .int 0, .ref kn, .int 0, .int 0, .int 0, .ref ml, .ref cl, .ref rg, .ref tr, .ref (aK 0), .ref (aK 0), .ref fl, .int 0, .int 0, .int 0, .int 0, .int 0, .int 0, .int 0, .null])), (ml, .inr (4, [.int 0, .ref e0, .int 0]))]) [0, 1] (by decide) rfl
  have hKc := hK.sub (tys' := []) [] rfl
  have hFc := va_free (wc := [(xm, .inr (20, [.int 0, .int 0, .ref kn, .int 0, .int 0, .int 0, .ref ml, .ref cl, .ref rg, .ref tr, .ref (aK 0), .ref (aK 0), .ref fl, .int 0, .int 0, .int 0, .int 0, .int 0, .int 0, .int 0, .null])), (ml, .inr (4, [.int 0, .ref e0, .int 0]))]) hD hS hA [0, 1] rfl
  refine va_calli (va_runV (As := [.int p0]) (rest := []) ⟨hx, hb, hml, hown, hts⟩ (c_X15_noMachine l dC dI xm ml cl fl kn rg tr e0 aK aV p0 s.heap.size) (cwV 1 hts gX15_ran_X15_noMachine rfl rfl rfl (by decide +kernel) ⟨Nat.le_of_ble_eq_true rfl, Nat.le_of_ble_eq_true rfl⟩) (pcV hPc hDc hKc hN (ci := 20) (q0 := 0) rfl rfl) rfl rfl hl.1 rfl (lv_room (Nat.le_of_ble_eq_true rfl)) dX15_ran_2 ⟨Nat.le_of_ble_eq_true rfl, Nat.le_of_ble_eq_true rfl⟩) hS (fun q _ h => hFc q h) hFc (fun r_1 u t H1 locs ht hvm hw_2 hB hz1 hk1 hS => ?_)
  obtain ⟨hP1, hK1, hD1⟩ := hB
  rw [ht] at hP1
  try dsimp only at hw_2
  obtain ⟨hP, hD⟩ := va_join (wr := []) (w1 := [(xm, .inr (20, [.int 0, .int 0, .ref kn, .int 0, .int 0, .int 1, .ref ml, .ref cl, .ref rg, .ref tr, .ref (aK 0), .ref (aK 0), .ref fl, .int 0, .int 0, .int 0, .int 0, .int 0, .int 0, .int 0, .null])), (ml, .inr (4, [.int 0, .ref e0, .int 0]))]) hP hD [0, 1] [] rfl rfl (by decide) (by decide) hk1 hFc hP1 hD1
  generalize H1 = H at hP hS ⊢
  have hP : va_P (dC, dI) vwCl [(xm, .inr (20, [.int 0, .int 0, .ref kn, .int 0, .int 0, .int 1, .ref ml, .ref cl, .ref rg, .ref tr, .ref (aK 0), .ref (aK 0), .ref fl, .int 0, .int 0, .int 0, .int 0, .int 0, .int 0, .int 0, .null])), (ml, .inr (4, [.int 0, .ref e0, .int 0]))] H := hP
  have hD : va_D A [(xm, .inr (20, [.int 0, .int 0, .ref kn, .int 0, .int 0, .int 1, .ref ml, .ref cl, .ref rg, .ref tr, .ref (aK 0), .ref (aK 0), .ref fl, .int 0, .int 0, .int 0, .int 0, .int 0, .int 0, .int 0, .null])), (ml, .inr (4, [.int 0, .ref e0, .int 0]))] := hD
  subst hw_2
  refine lv_if_eq (tgt := 10) hx hb dX15_ran_5 (by decide) (fun c5_3 => ?_) (fun c5_3 => ?_)
  · exact absurd c5_3 (by decide)
  · refine lv_iconst (v := 0) hx hb dX15_ran_8 (by decide) ?_
    have hP9 := hP.sub (ws' := [(xm, .inr (20, [.int 0, .int 0, .ref kn, .int 0, .int 0, .int 1, .ref ml, .ref cl, .ref rg, .ref tr, .ref (aK 0), .ref (aK 0), .ref fl, .int 0, .int 0, .int 0, .int 0, .int 0, .int 0, .int 0, .null]))]) [0] rfl
    have hD9 := hD.sub (ws' := [(xm, .inr (20, [.int 0, .int 0, .ref kn, .int 0, .int 0, .int 1, .ref ml, .ref cl, .ref rg, .ref tr, .ref (aK 0), .ref (aK 0), .ref fl, .int 0, .int 0, .int 0, .int 0, .int 0, .int 0, .int 0, .null]))]) [0] (by decide) rfl
    have hK9 := hK.sub (tys' := []) [] rfl
    exact W.iret (v := 0) hx hb hr (fun t ht hW => ⟨⟨0, [.int 0, .int 0, .ref kn, .int 0, .int 0, .int 1, .ref ml, .ref cl, .ref rg, .ref tr, .ref (aK 0), .ref (aK 0), .ref fl, .int 0, .int 0, .int 0, .int 0, .int 0, .int 0, .int 0, .null], rfl, rfl, ⟨by rw [ht]; exact hP9, va_K.moved hW.alike hK9, hD9⟩⟩, hS.F ht⟩) hS.2.2 dX15_ran_9

set_option maxHeartbeats 4000000 in
set_option maxRecDepth 100000 in
/-- X15_printByRuns -/
theorem c_X15_printByRuns (l : Launch) (dC : Nat → ClassId) (dI : Nat → Nat → Nat) (xm ml cl fl kn rg tr : Nat) (e0 : Nat) (aK aV : Nat → Nat) (p0 p1 : Int32) (sz : Nat) : Met l yX15_printByRuns wsX15_printByRuns ({ frames := 3, cells := 0, slots := 0, locals := 90 }) (va_Pc [.ref xm, .int p0, .int p1] (cPC dC dI [(xm, .inr (20, [.int 0, .int 0, .ref kn, .int 0, .int 0, .int 0, .ref ml, .ref cl, .ref rg, .ref tr, .ref (aK 0), .ref (aK 0), .ref fl, .int 0, .int 0, .int 0, .int 0, .int 0, .int 0, .int 0, .null])), (ml, .inr (4, [.int 0, .ref e0, .int 0]))] [] sz)) (va_Ql (fun (r : Int64) (u : List Value) => u[5]? = some (.int 1)) (fun (u : List Value) t => cQB dC dI [(xm, .inr (20, u))] [] (va_A [(xm, .inr (20, [.int 0, .int 0, .ref kn, .int 0, .int 0, .int 0, .ref ml, .ref cl, .ref rg, .ref tr, .ref (aK 0), .ref (aK 0), .ref fl, .int 0, .int 0, .int 0, .int 0, .int 0, .int 0, .int 0, .null])), (ml, .inr (4, [.int 0, .ref e0, .int 0]))] sz) t) (va_A [(xm, .inr (20, [.int 0, .int 0, .ref kn, .int 0, .int 0, .int 0, .ref ml, .ref cl, .ref rg, .ref tr, .ref (aK 0), .ref (aK 0), .ref fl, .int 0, .int 0, .int 0, .int 0, .int 0, .int 0, .int 0, .null])), (ml, .inr (4, [.int 0, .ref e0, .int 0]))] sz)) 0 0 (va_A [(xm, .inr (20, [.int 0, .int 0, .ref kn, .int 0, .int 0, .int 0, .ref ml, .ref cl, .ref rg, .ref tr, .ref (aK 0), .ref (aK 0), .ref fl, .int 0, .int 0, .int 0, .int 0, .int 0, .int 0, .int 0, .null])), (ml, .inr (4, [.int 0, .ref e0, .int 0]))] sz) := by
  refine Met.ofW (cc := cX15_printByRuns) (maxL := 3) (ret := (some .long)) (by decide) rfl ?_
  intro p e s m args below meth c s₁ B hml hv
  obtain ⟨rfl, hsz, hP, hK, hD0, hN⟩ := hv
  have hx := B.exec
  have hb := B.bytes
  have hr := B.returns
  have hts := atoms_spec (ws := wsX15_printByRuns) B.pre
  have hown : s.vm.findClass RX15 = some m.cls := findClass_of_methodNamed B.named
  have hlocks := B.notSynchronized
  subst hsz
  have hD := hD0.self (sz := s.heap.size)
  generalize hAe : va_A [(xm, .inr (20, [.int 0, .int 0, .ref kn, .int 0, .int 0, .int 0, .ref ml, .ref cl, .ref rg, .ref tr, .ref (aK 0), .ref (aK 0), .ref fl, .int 0, .int 0, .int 0, .int 0, .int 0, .int 0, .int 0, .null])), (ml, .inr (4, [.int 0, .ref e0, .int 0]))] s.heap.size = A at hD ⊢
  have hA : ∀ q : Nat, s.heap.size ≤ q → A q := fun q h => by rw [← hAe]; exact Or.inr h
  have hS : va_S A s.heap s.heap [] := va_S.rf
  have hP : va_P (dC, dI) vwCl [(xm, .inr (20, [.int 0, .int 0, .ref kn, .int 0, .int 0, .int 0, .ref ml, .ref cl, .ref rg, .ref tr, .ref (aK 0), .ref (aK 0), .ref fl, .int 0, .int 0, .int 0, .int 0, .int 0, .int 0, .int 0, .null])), (ml, .inr (4, [.int 0, .ref e0, .int 0]))] s.heap := hP
  have hD : va_D A [(xm, .inr (20, [.int 0, .int 0, .ref kn, .int 0, .int 0, .int 0, .ref ml, .ref cl, .ref rg, .ref tr, .ref (aK 0), .ref (aK 0), .ref fl, .int 0, .int 0, .int 0, .int 0, .int 0, .int 0, .int 0, .null])), (ml, .inr (4, [.int 0, .ref e0, .int 0]))] := hD
  have hl := lv_entry ([.ref xm, .int p0, .int p1]) (n := 3) (Nat.le_of_ble_eq_true rfl)
  rw [lg_entry_eq]
  generalize (lg_sl ([.ref xm, .int p0, .int p1]) ++ List.replicate (3 - (lg_sl ([.ref xm, .int p0, .int p1])).length) Slot.unset).toArray = ls at hl ⊢
  have hl : lv_has ls 3 [(0, .ref xm), (1, .int p0), (2, .int p1)] := hl
  have iWX14 : ∀ w ∈ u_ws RX14 TX14 9, w ∈ wsX15_printByRuns := by decide +kernel
  have iWX15 : ∀ w ∈ u_ws RX15 TX15 21, w ∈ wsX15_printByRuns := by decide +kernel
  refine lv_aload_n hx hb dX15_printByRuns_0 rfl (lv_at hl 0 rfl) ?_
  refine lv_iload_n hx hb dX15_printByRuns_1 rfl (lv_at hl 1 rfl) ?_
  have hPc := hP.sub (ws' := [(xm, .inr (20, [.int 0, .int 0, .ref kn, .int 0, .int 0, .int 0, .ref ml, .ref cl, .ref rg, .ref tr, .ref (aK 0), .ref (aK 0), .ref fl, .int 0, .int 0, .int 0, .int 0, .int 0, .int 0, .int 0, .null])), (ml, .inr (4, [.int 0, .ref e0, .int 0]))]) [0, 1] rfl
  have hDc := hD.sub (ws' := [(xm, .inr (20, [.int 0, .int 0, .ref kn, .int 0, .int 0, .int 0, .ref ml, .ref cl, .ref rg, .ref tr, .ref (aK 0), .ref (aK 0), .ref fl, .int 0, .int 0, .int 0, .int 0, .int 0, .int 0, .int 0, .null])), (ml, .inr (4, [.int 0, .ref e0, .int 0]))]) [0, 1] (by decide) rfl
  have hKc := hK.sub (tys' := []) [] rfl
  have hFc := va_free (wc := [(xm, .inr (20, [.int 0, .int 0, .ref kn, .int 0, .int 0, .int 0, .ref ml, .ref cl, .ref rg, .ref tr, .ref (aK 0), .ref (aK 0), .ref fl, .int 0, .int 0, .int 0, .int 0, .int 0, .int 0, .int 0, .null])), (ml, .inr (4, [.int 0, .ref e0, .int 0]))]) hD hS hA [0, 1] rfl
  refine va_calli (va_runV (As := [.int p0]) (rest := []) ⟨hx, hb, hml, hown, hts⟩ (c_X15_noMachine l dC dI xm ml cl fl kn rg tr e0 aK aV p0 s.heap.size) (cwV 1 hts gX15_printByRuns_X15_noMachine rfl rfl rfl (by decide +kernel) ⟨Nat.le_of_ble_eq_true rfl, Nat.le_of_ble_eq_true rfl⟩) (pcV hPc hDc hKc hN (ci := 20) (q0 := 0) rfl rfl) rfl rfl hl.1 rfl (lv_room (Nat.le_of_ble_eq_true rfl)) dX15_printByRuns_2 ⟨Nat.le_of_ble_eq_true rfl, Nat.le_of_ble_eq_true rfl⟩) hS (fun q _ h => hFc q h) hFc (fun r_1 u t H1 locs ht hvm hw_2 hB hz1 hk1 hS => ?_)
  obtain ⟨hP1, hK1, hD1⟩ := hB
  rw [ht] at hP1
  try dsimp only at hw_2
  obtain ⟨hP, hD⟩ := va_join (wr := []) (w1 := [(xm, .inr (20, [.int 0, .int 0, .ref kn, .int 0, .int 0, .int 1, .ref ml, .ref cl, .ref rg, .ref tr, .ref (aK 0), .ref (aK 0), .ref fl, .int 0, .int 0, .int 0, .int 0, .int 0, .int 0, .int 0, .null])), (ml, .inr (4, [.int 0, .ref e0, .int 0]))]) hP hD [0, 1] [] rfl rfl (by decide) (by decide) hk1 hFc hP1 hD1
  generalize H1 = H at hP hS ⊢
  have hP : va_P (dC, dI) vwCl [(xm, .inr (20, [.int 0, .int 0, .ref kn, .int 0, .int 0, .int 1, .ref ml, .ref cl, .ref rg, .ref tr, .ref (aK 0), .ref (aK 0), .ref fl, .int 0, .int 0, .int 0, .int 0, .int 0, .int 0, .int 0, .null])), (ml, .inr (4, [.int 0, .ref e0, .int 0]))] H := hP
  have hD : va_D A [(xm, .inr (20, [.int 0, .int 0, .ref kn, .int 0, .int 0, .int 1, .ref ml, .ref cl, .ref rg, .ref tr, .ref (aK 0), .ref (aK 0), .ref fl, .int 0, .int 0, .int 0, .int 0, .int 0, .int 0, .int 0, .null])), (ml, .inr (4, [.int 0, .ref e0, .int 0]))] := hD
  subst hw_2
  refine lv_if_eq (tgt := 10) hx hb dX15_printByRuns_5 (by decide) (fun c5_3 => ?_) (fun c5_3 => ?_)
  · exact absurd c5_3 (by decide)
  · refine lv_lconst (v := 0) hx hb dX15_printByRuns_8 (by decide) ?_
    have hP9 := hP.sub (ws' := [(xm, .inr (20, [.int 0, .int 0, .ref kn, .int 0, .int 0, .int 1, .ref ml, .ref cl, .ref rg, .ref tr, .ref (aK 0), .ref (aK 0), .ref fl, .int 0, .int 0, .int 0, .int 0, .int 0, .int 0, .int 0, .null]))]) [0] rfl
    have hD9 := hD.sub (ws' := [(xm, .inr (20, [.int 0, .int 0, .ref kn, .int 0, .int 0, .int 1, .ref ml, .ref cl, .ref rg, .ref tr, .ref (aK 0), .ref (aK 0), .ref fl, .int 0, .int 0, .int 0, .int 0, .int 0, .int 0, .int 0, .null]))]) [0] (by decide) rfl
    have hK9 := hK.sub (tys' := []) [] rfl
    exact W.lret (v := 0) hx hb hr (fun t ht hW => ⟨⟨0, [.int 0, .int 0, .ref kn, .int 0, .int 0, .int 1, .ref ml, .ref cl, .ref rg, .ref tr, .ref (aK 0), .ref (aK 0), .ref fl, .int 0, .int 0, .int 0, .int 0, .int 0, .int 0, .int 0, .null], rfl, rfl, ⟨by rw [ht]; exact hP9, va_K.moved hW.alike hK9, hD9⟩⟩, hS.F ht⟩) hS.2.2 dX15_printByRuns_9

set_option maxHeartbeats 4000000 in
set_option maxRecDepth 100000 in
/-- X15_decide -/
theorem c_X15_decide (l : Launch) (dC : Nat → ClassId) (dI : Nat → Nat → Nat) (xm ml cl fl kn rg tr : Nat) (e0 : Nat) (aK aV : Nat → Nat) (p0 p1 p2 : Int32) (sz : Nat) : Met l yX15_decide wsX15_decide ({ frames := 3, cells := 0, slots := 0, locals := 90 }) (va_Pc [.ref xm, .int p0, .int p1, .int p2] (cPC dC dI [(xm, .inr (20, [.int 0, .int 0, .ref kn, .int 0, .int 0, .int 0, .ref ml, .ref cl, .ref rg, .ref tr, .ref (aK 0), .ref (aK 0), .ref fl, .int 0, .int 0, .int 0, .int 0, .int 0, .int 0, .int 0, .null])), (ml, .inr (4, [.int 0, .ref e0, .int 0]))] [] sz)) (va_Qi (fun (r : Int32) (u : List Value) => u[5]? = some (.int 1)) (fun (u : List Value) t => cQB dC dI [(xm, .inr (20, u))] [] (va_A [(xm, .inr (20, [.int 0, .int 0, .ref kn, .int 0, .int 0, .int 0, .ref ml, .ref cl, .ref rg, .ref tr, .ref (aK 0), .ref (aK 0), .ref fl, .int 0, .int 0, .int 0, .int 0, .int 0, .int 0, .int 0, .null])), (ml, .inr (4, [.int 0, .ref e0, .int 0]))] sz) t) (va_A [(xm, .inr (20, [.int 0, .int 0, .ref kn, .int 0, .int 0, .int 0, .ref ml, .ref cl, .ref rg, .ref tr, .ref (aK 0), .ref (aK 0), .ref fl, .int 0, .int 0, .int 0, .int 0, .int 0, .int 0, .int 0, .null])), (ml, .inr (4, [.int 0, .ref e0, .int 0]))] sz)) 0 0 (va_A [(xm, .inr (20, [.int 0, .int 0, .ref kn, .int 0, .int 0, .int 0, .ref ml, .ref cl, .ref rg, .ref tr, .ref (aK 0), .ref (aK 0), .ref fl, .int 0, .int 0, .int 0, .int 0, .int 0, .int 0, .int 0, .null])), (ml, .inr (4, [.int 0, .ref e0, .int 0]))] sz) := by
  refine Met.ofW (cc := cX15_decide) (maxL := 6) (ret := (some .boolean)) (by decide) rfl ?_
  intro p e s m args below meth c s₁ B hml hv
  obtain ⟨rfl, hsz, hP, hK, hD0, hN⟩ := hv
  have hx := B.exec
  have hb := B.bytes
  have hr := B.returns
  have hts := atoms_spec (ws := wsX15_decide) B.pre
  have hown : s.vm.findClass RX15 = some m.cls := findClass_of_methodNamed B.named
  have hlocks := B.notSynchronized
  subst hsz
  have hD := hD0.self (sz := s.heap.size)
  generalize hAe : va_A [(xm, .inr (20, [.int 0, .int 0, .ref kn, .int 0, .int 0, .int 0, .ref ml, .ref cl, .ref rg, .ref tr, .ref (aK 0), .ref (aK 0), .ref fl, .int 0, .int 0, .int 0, .int 0, .int 0, .int 0, .int 0, .null])), (ml, .inr (4, [.int 0, .ref e0, .int 0]))] s.heap.size = A at hD ⊢
  have hA : ∀ q : Nat, s.heap.size ≤ q → A q := fun q h => by rw [← hAe]; exact Or.inr h
  have hS : va_S A s.heap s.heap [] := va_S.rf
  have hP : va_P (dC, dI) vwCl [(xm, .inr (20, [.int 0, .int 0, .ref kn, .int 0, .int 0, .int 0, .ref ml, .ref cl, .ref rg, .ref tr, .ref (aK 0), .ref (aK 0), .ref fl, .int 0, .int 0, .int 0, .int 0, .int 0, .int 0, .int 0, .null])), (ml, .inr (4, [.int 0, .ref e0, .int 0]))] s.heap := hP
  have hD : va_D A [(xm, .inr (20, [.int 0, .int 0, .ref kn, .int 0, .int 0, .int 0, .ref ml, .ref cl, .ref rg, .ref tr, .ref (aK 0), .ref (aK 0), .ref fl, .int 0, .int 0, .int 0, .int 0, .int 0, .int 0, .int 0, .null])), (ml, .inr (4, [.int 0, .ref e0, .int 0]))] := hD
  have hl := lv_entry ([.ref xm, .int p0, .int p1, .int p2]) (n := 6) (Nat.le_of_ble_eq_true rfl)
  rw [lg_entry_eq]
  generalize (lg_sl ([.ref xm, .int p0, .int p1, .int p2]) ++ List.replicate (6 - (lg_sl ([.ref xm, .int p0, .int p1, .int p2])).length) Slot.unset).toArray = ls at hl ⊢
  have hl : lv_has ls 6 [(0, .ref xm), (1, .int p0), (2, .int p1), (3, .int p2)] := hl
  have iWX13 : ∀ w ∈ u_ws RX13 TX13 12, w ∈ wsX15_decide := by decide +kernel
  have iWX15 : ∀ w ∈ u_ws RX15 TX15 21, w ∈ wsX15_decide := by decide +kernel
  refine lv_aload_n hx hb dX15_decide_0 rfl (lv_at hl 0 rfl) ?_
  refine lv_iload_n hx hb dX15_decide_1 rfl (lv_at hl 1 rfl) ?_
  have hPc := hP.sub (ws' := [(xm, .inr (20, [.int 0, .int 0, .ref kn, .int 0, .int 0, .int 0, .ref ml, .ref cl, .ref rg, .ref tr, .ref (aK 0), .ref (aK 0), .ref fl, .int 0, .int 0, .int 0, .int 0, .int 0, .int 0, .int 0, .null])), (ml, .inr (4, [.int 0, .ref e0, .int 0]))]) [0, 1] rfl
  have hDc := hD.sub (ws' := [(xm, .inr (20, [.int 0, .int 0, .ref kn, .int 0, .int 0, .int 0, .ref ml, .ref cl, .ref rg, .ref tr, .ref (aK 0), .ref (aK 0), .ref fl, .int 0, .int 0, .int 0, .int 0, .int 0, .int 0, .int 0, .null])), (ml, .inr (4, [.int 0, .ref e0, .int 0]))]) [0, 1] (by decide) rfl
  have hKc := hK.sub (tys' := []) [] rfl
  have hFc := va_free (wc := [(xm, .inr (20, [.int 0, .int 0, .ref kn, .int 0, .int 0, .int 0, .ref ml, .ref cl, .ref rg, .ref tr, .ref (aK 0), .ref (aK 0), .ref fl, .int 0, .int 0, .int 0, .int 0, .int 0, .int 0, .int 0, .null])), (ml, .inr (4, [.int 0, .ref e0, .int 0]))]) hD hS hA [0, 1] rfl
  refine va_calli (va_runV (As := [.int p0]) (rest := []) ⟨hx, hb, hml, hown, hts⟩ (c_X15_noMachine l dC dI xm ml cl fl kn rg tr e0 aK aV p0 s.heap.size) (cwV 1 hts gX15_decide_X15_noMachine rfl rfl rfl (by decide +kernel) ⟨Nat.le_of_ble_eq_true rfl, Nat.le_of_ble_eq_true rfl⟩) (pcV hPc hDc hKc hN (ci := 20) (q0 := 0) rfl rfl) rfl rfl hl.1 rfl (lv_room (Nat.le_of_ble_eq_true rfl)) dX15_decide_2 ⟨Nat.le_of_ble_eq_true rfl, Nat.le_of_ble_eq_true rfl⟩) hS (fun q _ h => hFc q h) hFc (fun r_1 u t H1 locs ht hvm hw_2 hB hz1 hk1 hS => ?_)
  obtain ⟨hP1, hK1, hD1⟩ := hB
  rw [ht] at hP1
  try dsimp only at hw_2
  obtain ⟨hP, hD⟩ := va_join (wr := []) (w1 := [(xm, .inr (20, [.int 0, .int 0, .ref kn, .int 0, .int 0, .int 1, .ref ml, .ref cl, .ref rg, .ref tr, .ref (aK 0), .ref (aK 0), .ref fl, .int 0, .int 0, .int 0, .int 0, .int 0, .int 0, .int 0, .null])), (ml, .inr (4, [.int 0, .ref e0, .int 0]))]) hP hD [0, 1] [] rfl rfl (by decide) (by decide) hk1 hFc hP1 hD1
  generalize H1 = H at hP hS ⊢
  have hP : va_P (dC, dI) vwCl [(xm, .inr (20, [.int 0, .int 0, .ref kn, .int 0, .int 0, .int 1, .ref ml, .ref cl, .ref rg, .ref tr, .ref (aK 0), .ref (aK 0), .ref fl, .int 0, .int 0, .int 0, .int 0, .int 0, .int 0, .int 0, .null])), (ml, .inr (4, [.int 0, .ref e0, .int 0]))] H := hP
  have hD : va_D A [(xm, .inr (20, [.int 0, .int 0, .ref kn, .int 0, .int 0, .int 1, .ref ml, .ref cl, .ref rg, .ref tr, .ref (aK 0), .ref (aK 0), .ref fl, .int 0, .int 0, .int 0, .int 0, .int 0, .int 0, .int 0, .null])), (ml, .inr (4, [.int 0, .ref e0, .int 0]))] := hD
  subst hw_2
  refine lv_if_eq (tgt := 10) hx hb dX15_decide_5 (by decide) (fun c5_3 => ?_) (fun c5_3 => ?_)
  · exact absurd c5_3 (by decide)
  · refine lv_iconst (v := 0) hx hb dX15_decide_8 (by decide) ?_
    have hP9 := hP.sub (ws' := [(xm, .inr (20, [.int 0, .int 0, .ref kn, .int 0, .int 0, .int 1, .ref ml, .ref cl, .ref rg, .ref tr, .ref (aK 0), .ref (aK 0), .ref fl, .int 0, .int 0, .int 0, .int 0, .int 0, .int 0, .int 0, .null]))]) [0] rfl
    have hD9 := hD.sub (ws' := [(xm, .inr (20, [.int 0, .int 0, .ref kn, .int 0, .int 0, .int 1, .ref ml, .ref cl, .ref rg, .ref tr, .ref (aK 0), .ref (aK 0), .ref fl, .int 0, .int 0, .int 0, .int 0, .int 0, .int 0, .int 0, .null]))]) [0] (by decide) rfl
    have hK9 := hK.sub (tys' := []) [] rfl
    exact W.zret (v := 0) hx hb hr (by rfl) (fun t ht hW => ⟨⟨0, [.int 0, .int 0, .ref kn, .int 0, .int 0, .int 1, .ref ml, .ref cl, .ref rg, .ref tr, .ref (aK 0), .ref (aK 0), .ref fl, .int 0, .int 0, .int 0, .int 0, .int 0, .int 0, .int 0, .null], rfl, rfl, ⟨by rw [ht]; exact hP9, va_K.moved hW.alike hK9, hD9⟩⟩, hS.F ht⟩) hS.2.2 dX15_decide_9

set_option maxHeartbeats 4000000 in
set_option maxRecDepth 100000 in
/-- X15_certificate -/
theorem c_X15_certificate (l : Launch) (dC : Nat → ClassId) (dI : Nat → Nat → Nat) (xm ml cl fl kn rg tr : Nat) (e0 : Nat) (aK aV : Nat → Nat) (p0 p1 : Int32) (sz : Nat) : Met l yX15_certificate wsX15_certificate ({ frames := 3, cells := 0, slots := 0, locals := 90 }) (va_Pc [.ref xm, .int p0, .int p1] (cPC dC dI [(xm, .inr (20, [.int 0, .int 0, .ref kn, .int 0, .int 0, .int 0, .ref ml, .ref cl, .ref rg, .ref tr, .ref (aK 0), .ref (aK 0), .ref fl, .int 0, .int 0, .int 0, .int 0, .int 0, .int 0, .int 0, .null])), (ml, .inr (4, [.int 0, .ref e0, .int 0]))] [] sz)) (va_Qi (fun (r : Int32) (u : List Value) => u[5]? = some (.int 1)) (fun (u : List Value) t => cQB dC dI [(xm, .inr (20, u))] [] (va_A [(xm, .inr (20, [.int 0, .int 0, .ref kn, .int 0, .int 0, .int 0, .ref ml, .ref cl, .ref rg, .ref tr, .ref (aK 0), .ref (aK 0), .ref fl, .int 0, .int 0, .int 0, .int 0, .int 0, .int 0, .int 0, .null])), (ml, .inr (4, [.int 0, .ref e0, .int 0]))] sz) t) (va_A [(xm, .inr (20, [.int 0, .int 0, .ref kn, .int 0, .int 0, .int 0, .ref ml, .ref cl, .ref rg, .ref tr, .ref (aK 0), .ref (aK 0), .ref fl, .int 0, .int 0, .int 0, .int 0, .int 0, .int 0, .int 0, .null])), (ml, .inr (4, [.int 0, .ref e0, .int 0]))] sz)) 0 0 (va_A [(xm, .inr (20, [.int 0, .int 0, .ref kn, .int 0, .int 0, .int 0, .ref ml, .ref cl, .ref rg, .ref tr, .ref (aK 0), .ref (aK 0), .ref fl, .int 0, .int 0, .int 0, .int 0, .int 0, .int 0, .int 0, .null])), (ml, .inr (4, [.int 0, .ref e0, .int 0]))] sz) := by
  refine Met.ofW (cc := cX15_certificate) (maxL := 4) (ret := (some .int)) (by decide) rfl ?_
  intro p e s m args below meth c s₁ B hml hv
  obtain ⟨rfl, hsz, hP, hK, hD0, hN⟩ := hv
  have hx := B.exec
  have hb := B.bytes
  have hr := B.returns
  have hts := atoms_spec (ws := wsX15_certificate) B.pre
  have hown : s.vm.findClass RX15 = some m.cls := findClass_of_methodNamed B.named
  have hlocks := B.notSynchronized
  subst hsz
  have hD := hD0.self (sz := s.heap.size)
  generalize hAe : va_A [(xm, .inr (20, [.int 0, .int 0, .ref kn, .int 0, .int 0, .int 0, .ref ml, .ref cl, .ref rg, .ref tr, .ref (aK 0), .ref (aK 0), .ref fl, .int 0, .int 0, .int 0, .int 0, .int 0, .int 0, .int 0, .null])), (ml, .inr (4, [.int 0, .ref e0, .int 0]))] s.heap.size = A at hD ⊢
  have hA : ∀ q : Nat, s.heap.size ≤ q → A q := fun q h => by rw [← hAe]; exact Or.inr h
  have hS : va_S A s.heap s.heap [] := va_S.rf
  have hP : va_P (dC, dI) vwCl [(xm, .inr (20, [.int 0, .int 0, .ref kn, .int 0, .int 0, .int 0, .ref ml, .ref cl, .ref rg, .ref tr, .ref (aK 0), .ref (aK 0), .ref fl, .int 0, .int 0, .int 0, .int 0, .int 0, .int 0, .int 0, .null])), (ml, .inr (4, [.int 0, .ref e0, .int 0]))] s.heap := hP
  have hD : va_D A [(xm, .inr (20, [.int 0, .int 0, .ref kn, .int 0, .int 0, .int 0, .ref ml, .ref cl, .ref rg, .ref tr, .ref (aK 0), .ref (aK 0), .ref fl, .int 0, .int 0, .int 0, .int 0, .int 0, .int 0, .int 0, .null])), (ml, .inr (4, [.int 0, .ref e0, .int 0]))] := hD
  have hl := lv_entry ([.ref xm, .int p0, .int p1]) (n := 4) (Nat.le_of_ble_eq_true rfl)
  rw [lg_entry_eq]
  generalize (lg_sl ([.ref xm, .int p0, .int p1]) ++ List.replicate (4 - (lg_sl ([.ref xm, .int p0, .int p1])).length) Slot.unset).toArray = ls at hl ⊢
  have hl : lv_has ls 4 [(0, .ref xm), (1, .int p0), (2, .int p1)] := hl
  have iWX13 : ∀ w ∈ u_ws RX13 TX13 12, w ∈ wsX15_certificate := by decide +kernel
  have iWX15 : ∀ w ∈ u_ws RX15 TX15 21, w ∈ wsX15_certificate := by decide +kernel
  refine lv_aload_n hx hb dX15_certificate_0 rfl (lv_at hl 0 rfl) ?_
  refine lv_iload_n hx hb dX15_certificate_1 rfl (lv_at hl 1 rfl) ?_
  have hPc := hP.sub (ws' := [(xm, .inr (20, [.int 0, .int 0, .ref kn, .int 0, .int 0, .int 0, .ref ml, .ref cl, .ref rg, .ref tr, .ref (aK 0), .ref (aK 0), .ref fl, .int 0, .int 0, .int 0, .int 0, .int 0, .int 0, .int 0, .null])), (ml, .inr (4, [.int 0, .ref e0, .int 0]))]) [0, 1] rfl
  have hDc := hD.sub (ws' := [(xm, .inr (20, [.int 0, .int 0, .ref kn, .int 0, .int 0, .int 0, .ref ml, .ref cl, .ref rg, .ref tr, .ref (aK 0), .ref (aK 0), .ref fl, .int 0, .int 0, .int 0, .int 0, .int 0, .int 0, .int 0, .null])), (ml, .inr (4, [.int 0, .ref e0, .int 0]))]) [0, 1] (by decide) rfl
  have hKc := hK.sub (tys' := []) [] rfl
  have hFc := va_free (wc := [(xm, .inr (20, [.int 0, .int 0, .ref kn, .int 0, .int 0, .int 0, .ref ml, .ref cl, .ref rg, .ref tr, .ref (aK 0), .ref (aK 0), .ref fl, .int 0, .int 0, .int 0, .int 0, .int 0, .int 0, .int 0, .null])), (ml, .inr (4, [.int 0, .ref e0, .int 0]))]) hD hS hA [0, 1] rfl
  refine va_calli (va_runV (As := [.int p0]) (rest := []) ⟨hx, hb, hml, hown, hts⟩ (c_X15_noMachine l dC dI xm ml cl fl kn rg tr e0 aK aV p0 s.heap.size) (cwV 1 hts gX15_certificate_X15_noMachine rfl rfl rfl (by decide +kernel) ⟨Nat.le_of_ble_eq_true rfl, Nat.le_of_ble_eq_true rfl⟩) (pcV hPc hDc hKc hN (ci := 20) (q0 := 0) rfl rfl) rfl rfl hl.1 rfl (lv_room (Nat.le_of_ble_eq_true rfl)) dX15_certificate_2 ⟨Nat.le_of_ble_eq_true rfl, Nat.le_of_ble_eq_true rfl⟩) hS (fun q _ h => hFc q h) hFc (fun r_1 u t H1 locs ht hvm hw_2 hB hz1 hk1 hS => ?_)
  obtain ⟨hP1, hK1, hD1⟩ := hB
  rw [ht] at hP1
  try dsimp only at hw_2
  obtain ⟨hP, hD⟩ := va_join (wr := []) (w1 := [(xm, .inr (20, [.int 0, .int 0, .ref kn, .int 0, .int 0, .int 1, .ref ml, .ref cl, .ref rg, .ref tr, .ref (aK 0), .ref (aK 0), .ref fl, .int 0, .int 0, .int 0, .int 0, .int 0, .int 0, .int 0, .null])), (ml, .inr (4, [.int 0, .ref e0, .int 0]))]) hP hD [0, 1] [] rfl rfl (by decide) (by decide) hk1 hFc hP1 hD1
  generalize H1 = H at hP hS ⊢
  have hP : va_P (dC, dI) vwCl [(xm, .inr (20, [.int 0, .int 0, .ref kn, .int 0, .int 0, .int 1, .ref ml, .ref cl, .ref rg, .ref tr, .ref (aK 0), .ref (aK 0), .ref fl, .int 0, .int 0, .int 0, .int 0, .int 0, .int 0, .int 0, .null])), (ml, .inr (4, [.int 0, .ref e0, .int 0]))] H := hP
  have hD : va_D A [(xm, .inr (20, [.int 0, .int 0, .ref kn, .int 0, .int 0, .int 1, .ref ml, .ref cl, .ref rg, .ref tr, .ref (aK 0), .ref (aK 0), .ref fl, .int 0, .int 0, .int 0, .int 0, .int 0, .int 0, .int 0, .null])), (ml, .inr (4, [.int 0, .ref e0, .int 0]))] := hD
  subst hw_2
  refine lv_if_eq (tgt := 10) hx hb dX15_certificate_5 (by decide) (fun c5_3 => ?_) (fun c5_3 => ?_)
  · exact absurd c5_3 (by decide)
  · refine lv_iconst (v := 0) hx hb dX15_certificate_8 (by decide) ?_
    have hP9 := hP.sub (ws' := [(xm, .inr (20, [.int 0, .int 0, .ref kn, .int 0, .int 0, .int 1, .ref ml, .ref cl, .ref rg, .ref tr, .ref (aK 0), .ref (aK 0), .ref fl, .int 0, .int 0, .int 0, .int 0, .int 0, .int 0, .int 0, .null]))]) [0] rfl
    have hD9 := hD.sub (ws' := [(xm, .inr (20, [.int 0, .int 0, .ref kn, .int 0, .int 0, .int 1, .ref ml, .ref cl, .ref rg, .ref tr, .ref (aK 0), .ref (aK 0), .ref fl, .int 0, .int 0, .int 0, .int 0, .int 0, .int 0, .int 0, .null]))]) [0] (by decide) rfl
    have hK9 := hK.sub (tys' := []) [] rfl
    exact W.iret (v := 0) hx hb hr (fun t ht hW => ⟨⟨0, [.int 0, .int 0, .ref kn, .int 0, .int 0, .int 1, .ref ml, .ref cl, .ref rg, .ref tr, .ref (aK 0), .ref (aK 0), .ref fl, .int 0, .int 0, .int 0, .int 0, .int 0, .int 0, .int 0, .null], rfl, rfl, ⟨by rw [ht]; exact hP9, va_K.moved hW.alike hK9, hD9⟩⟩, hS.F ht⟩) hS.2.2 dX15_certificate_9

set_option maxHeartbeats 4000000 in
set_option maxRecDepth 100000 in
/-- X15_forge -/
theorem c_X15_forge (l : Launch) (dC : Nat → ClassId) (dI : Nat → Nat → Nat) (xm ml cl fl kn rg tr : Nat) (e0 : Nat) (aK aV : Nat → Nat) (p0 p1 p2 : Int32) (sz : Nat) : Met l yX15_forge wsX15_forge ({ frames := 3, cells := 0, slots := 0, locals := 90 }) (va_Pc [.ref xm, .int p0, .int p1, .int p2] (cPC dC dI [(xm, .inr (20, [.int 0, .int 0, .ref kn, .int 0, .int 0, .int 0, .ref ml, .ref cl, .ref rg, .ref tr, .ref (aK 0), .ref (aK 0), .ref fl, .int 0, .int 0, .int 0, .int 0, .int 0, .int 0, .int 0, .null])), (ml, .inr (4, [.int 0, .ref e0, .int 0]))] [] sz)) (va_Qi (fun (r : Int32) (u : List Value) => u[5]? = some (.int 1)) (fun (u : List Value) t => cQB dC dI [(xm, .inr (20, u))] [] (va_A [(xm, .inr (20, [.int 0, .int 0, .ref kn, .int 0, .int 0, .int 0, .ref ml, .ref cl, .ref rg, .ref tr, .ref (aK 0), .ref (aK 0), .ref fl, .int 0, .int 0, .int 0, .int 0, .int 0, .int 0, .int 0, .null])), (ml, .inr (4, [.int 0, .ref e0, .int 0]))] sz) t) (va_A [(xm, .inr (20, [.int 0, .int 0, .ref kn, .int 0, .int 0, .int 0, .ref ml, .ref cl, .ref rg, .ref tr, .ref (aK 0), .ref (aK 0), .ref fl, .int 0, .int 0, .int 0, .int 0, .int 0, .int 0, .int 0, .null])), (ml, .inr (4, [.int 0, .ref e0, .int 0]))] sz)) 0 0 (va_A [(xm, .inr (20, [.int 0, .int 0, .ref kn, .int 0, .int 0, .int 0, .ref ml, .ref cl, .ref rg, .ref tr, .ref (aK 0), .ref (aK 0), .ref fl, .int 0, .int 0, .int 0, .int 0, .int 0, .int 0, .int 0, .null])), (ml, .inr (4, [.int 0, .ref e0, .int 0]))] sz) := by
  refine Met.ofW (cc := cX15_forge) (maxL := 6) (ret := (some .int)) (by decide) rfl ?_
  intro p e s m args below meth c s₁ B hml hv
  obtain ⟨rfl, hsz, hP, hK, hD0, hN⟩ := hv
  have hx := B.exec
  have hb := B.bytes
  have hr := B.returns
  have hts := atoms_spec (ws := wsX15_forge) B.pre
  have hown : s.vm.findClass RX15 = some m.cls := findClass_of_methodNamed B.named
  have hlocks := B.notSynchronized
  subst hsz
  have hD := hD0.self (sz := s.heap.size)
  generalize hAe : va_A [(xm, .inr (20, [.int 0, .int 0, .ref kn, .int 0, .int 0, .int 0, .ref ml, .ref cl, .ref rg, .ref tr, .ref (aK 0), .ref (aK 0), .ref fl, .int 0, .int 0, .int 0, .int 0, .int 0, .int 0, .int 0, .null])), (ml, .inr (4, [.int 0, .ref e0, .int 0]))] s.heap.size = A at hD ⊢
  have hA : ∀ q : Nat, s.heap.size ≤ q → A q := fun q h => by rw [← hAe]; exact Or.inr h
  have hS : va_S A s.heap s.heap [] := va_S.rf
  have hP : va_P (dC, dI) vwCl [(xm, .inr (20, [.int 0, .int 0, .ref kn, .int 0, .int 0, .int 0, .ref ml, .ref cl, .ref rg, .ref tr, .ref (aK 0), .ref (aK 0), .ref fl, .int 0, .int 0, .int 0, .int 0, .int 0, .int 0, .int 0, .null])), (ml, .inr (4, [.int 0, .ref e0, .int 0]))] s.heap := hP
  have hD : va_D A [(xm, .inr (20, [.int 0, .int 0, .ref kn, .int 0, .int 0, .int 0, .ref ml, .ref cl, .ref rg, .ref tr, .ref (aK 0), .ref (aK 0), .ref fl, .int 0, .int 0, .int 0, .int 0, .int 0, .int 0, .int 0, .null])), (ml, .inr (4, [.int 0, .ref e0, .int 0]))] := hD
  have hl := lv_entry ([.ref xm, .int p0, .int p1, .int p2]) (n := 6) (Nat.le_of_ble_eq_true rfl)
  rw [lg_entry_eq]
  generalize (lg_sl ([.ref xm, .int p0, .int p1, .int p2]) ++ List.replicate (6 - (lg_sl ([.ref xm, .int p0, .int p1, .int p2])).length) Slot.unset).toArray = ls at hl ⊢
  have hl : lv_has ls 6 [(0, .ref xm), (1, .int p0), (2, .int p1), (3, .int p2)] := hl
  have iWX13 : ∀ w ∈ u_ws RX13 TX13 12, w ∈ wsX15_forge := by decide +kernel
  have iWX15 : ∀ w ∈ u_ws RX15 TX15 21, w ∈ wsX15_forge := by decide +kernel
  refine lv_aload_n hx hb dX15_forge_0 rfl (lv_at hl 0 rfl) ?_
  refine lv_iload_n hx hb dX15_forge_1 rfl (lv_at hl 1 rfl) ?_
  have hPc := hP.sub (ws' := [(xm, .inr (20, [.int 0, .int 0, .ref kn, .int 0, .int 0, .int 0, .ref ml, .ref cl, .ref rg, .ref tr, .ref (aK 0), .ref (aK 0), .ref fl, .int 0, .int 0, .int 0, .int 0, .int 0, .int 0, .int 0, .null])), (ml, .inr (4, [.int 0, .ref e0, .int 0]))]) [0, 1] rfl
  have hDc := hD.sub (ws' := [(xm, .inr (20, [.int 0, .int 0, .ref kn, .int 0, .int 0, .int 0, .ref ml, .ref cl, .ref rg, .ref tr, .ref (aK 0), .ref (aK 0), .ref fl, .int 0, .int 0, .int 0, .int 0, .int 0, .int 0, .int 0, .null])), (ml, .inr (4, [.int 0, .ref e0, .int 0]))]) [0, 1] (by decide) rfl
  have hKc := hK.sub (tys' := []) [] rfl
  have hFc := va_free (wc := [(xm, .inr (20, [.int 0, .int 0, .ref kn, .int 0, .int 0, .int 0, .ref ml, .ref cl, .ref rg, .ref tr, .ref (aK 0), .ref (aK 0), .ref fl, .int 0, .int 0, .int 0, .int 0, .int 0, .int 0, .int 0, .null])), (ml, .inr (4, [.int 0, .ref e0, .int 0]))]) hD hS hA [0, 1] rfl
  refine va_calli (va_runV (As := [.int p0]) (rest := []) ⟨hx, hb, hml, hown, hts⟩ (c_X15_noMachine l dC dI xm ml cl fl kn rg tr e0 aK aV p0 s.heap.size) (cwV 1 hts gX15_forge_X15_noMachine rfl rfl rfl (by decide +kernel) ⟨Nat.le_of_ble_eq_true rfl, Nat.le_of_ble_eq_true rfl⟩) (pcV hPc hDc hKc hN (ci := 20) (q0 := 0) rfl rfl) rfl rfl hl.1 rfl (lv_room (Nat.le_of_ble_eq_true rfl)) dX15_forge_2 ⟨Nat.le_of_ble_eq_true rfl, Nat.le_of_ble_eq_true rfl⟩) hS (fun q _ h => hFc q h) hFc (fun r_1 u t H1 locs ht hvm hw_2 hB hz1 hk1 hS => ?_)
  obtain ⟨hP1, hK1, hD1⟩ := hB
  rw [ht] at hP1
  try dsimp only at hw_2
  obtain ⟨hP, hD⟩ := va_join (wr := []) (w1 := [(xm, .inr (20, [.int 0, .int 0, .ref kn, .int 0, .int 0, .int 1, .ref ml, .ref cl, .ref rg, .ref tr, .ref (aK 0), .ref (aK 0), .ref fl, .int 0, .int 0, .int 0, .int 0, .int 0, .int 0, .int 0, .null])), (ml, .inr (4, [.int 0, .ref e0, .int 0]))]) hP hD [0, 1] [] rfl rfl (by decide) (by decide) hk1 hFc hP1 hD1
  generalize H1 = H at hP hS ⊢
  have hP : va_P (dC, dI) vwCl [(xm, .inr (20, [.int 0, .int 0, .ref kn, .int 0, .int 0, .int 1, .ref ml, .ref cl, .ref rg, .ref tr, .ref (aK 0), .ref (aK 0), .ref fl, .int 0, .int 0, .int 0, .int 0, .int 0, .int 0, .int 0, .null])), (ml, .inr (4, [.int 0, .ref e0, .int 0]))] H := hP
  have hD : va_D A [(xm, .inr (20, [.int 0, .int 0, .ref kn, .int 0, .int 0, .int 1, .ref ml, .ref cl, .ref rg, .ref tr, .ref (aK 0), .ref (aK 0), .ref fl, .int 0, .int 0, .int 0, .int 0, .int 0, .int 0, .int 0, .null])), (ml, .inr (4, [.int 0, .ref e0, .int 0]))] := hD
  subst hw_2
  refine lv_if_eq (tgt := 10) hx hb dX15_forge_5 (by decide) (fun c5_3 => ?_) (fun c5_3 => ?_)
  · exact absurd c5_3 (by decide)
  · refine lv_iconst (v := 0) hx hb dX15_forge_8 (by decide) ?_
    have hP9 := hP.sub (ws' := [(xm, .inr (20, [.int 0, .int 0, .ref kn, .int 0, .int 0, .int 1, .ref ml, .ref cl, .ref rg, .ref tr, .ref (aK 0), .ref (aK 0), .ref fl, .int 0, .int 0, .int 0, .int 0, .int 0, .int 0, .int 0, .null]))]) [0] rfl
    have hD9 := hD.sub (ws' := [(xm, .inr (20, [.int 0, .int 0, .ref kn, .int 0, .int 0, .int 1, .ref ml, .ref cl, .ref rg, .ref tr, .ref (aK 0), .ref (aK 0), .ref fl, .int 0, .int 0, .int 0, .int 0, .int 0, .int 0, .int 0, .null]))]) [0] (by decide) rfl
    have hK9 := hK.sub (tys' := []) [] rfl
    exact W.iret (v := 0) hx hb hr (fun t ht hW => ⟨⟨0, [.int 0, .int 0, .ref kn, .int 0, .int 0, .int 1, .ref ml, .ref cl, .ref rg, .ref tr, .ref (aK 0), .ref (aK 0), .ref fl, .int 0, .int 0, .int 0, .int 0, .int 0, .int 0, .int 0, .null], rfl, rfl, ⟨by rw [ht]; exact hP9, va_K.moved hW.alike hK9, hD9⟩⟩, hS.F ht⟩) hS.2.2 dX15_forge_9

set_option maxHeartbeats 4000000 in
set_option maxRecDepth 100000 in
/-- X15_ways -/
theorem c_X15_ways (l : Launch) (dC : Nat → ClassId) (dI : Nat → Nat → Nat) (xm ml cl fl kn rg tr : Nat) (e0 : Nat) (aK aV : Nat → Nat) (p0 p1 : Int32) (sz : Nat) : Met l yX15_ways wsX15_ways ({ frames := 3, cells := 0, slots := 0, locals := 90 }) (va_Pc [.ref xm, .int p0, .int p1] (cPC dC dI [(xm, .inr (20, [.int 0, .int 0, .ref kn, .int 0, .int 0, .int 0, .ref ml, .ref cl, .ref rg, .ref tr, .ref (aK 0), .ref (aK 0), .ref fl, .int 0, .int 0, .int 0, .int 0, .int 0, .int 0, .int 0, .null])), (ml, .inr (4, [.int 0, .ref e0, .int 0]))] [] sz)) (va_Qi (fun (r : Int32) (u : List Value) => u[5]? = some (.int 1)) (fun (u : List Value) t => cQB dC dI [(xm, .inr (20, u))] [] (va_A [(xm, .inr (20, [.int 0, .int 0, .ref kn, .int 0, .int 0, .int 0, .ref ml, .ref cl, .ref rg, .ref tr, .ref (aK 0), .ref (aK 0), .ref fl, .int 0, .int 0, .int 0, .int 0, .int 0, .int 0, .int 0, .null])), (ml, .inr (4, [.int 0, .ref e0, .int 0]))] sz) t) (va_A [(xm, .inr (20, [.int 0, .int 0, .ref kn, .int 0, .int 0, .int 0, .ref ml, .ref cl, .ref rg, .ref tr, .ref (aK 0), .ref (aK 0), .ref fl, .int 0, .int 0, .int 0, .int 0, .int 0, .int 0, .int 0, .null])), (ml, .inr (4, [.int 0, .ref e0, .int 0]))] sz)) 0 0 (va_A [(xm, .inr (20, [.int 0, .int 0, .ref kn, .int 0, .int 0, .int 0, .ref ml, .ref cl, .ref rg, .ref tr, .ref (aK 0), .ref (aK 0), .ref fl, .int 0, .int 0, .int 0, .int 0, .int 0, .int 0, .int 0, .null])), (ml, .inr (4, [.int 0, .ref e0, .int 0]))] sz) := by
  refine Met.ofW (cc := cX15_ways) (maxL := 6) (ret := (some .int)) (by decide) rfl ?_
  intro p e s m args below meth c s₁ B hml hv
  obtain ⟨rfl, hsz, hP, hK, hD0, hN⟩ := hv
  have hx := B.exec
  have hb := B.bytes
  have hr := B.returns
  have hts := atoms_spec (ws := wsX15_ways) B.pre
  have hown : s.vm.findClass RX15 = some m.cls := findClass_of_methodNamed B.named
  have hlocks := B.notSynchronized
  subst hsz
  have hD := hD0.self (sz := s.heap.size)
  generalize hAe : va_A [(xm, .inr (20, [.int 0, .int 0, .ref kn, .int 0, .int 0, .int 0, .ref ml, .ref cl, .ref rg, .ref tr, .ref (aK 0), .ref (aK 0), .ref fl, .int 0, .int 0, .int 0, .int 0, .int 0, .int 0, .int 0, .null])), (ml, .inr (4, [.int 0, .ref e0, .int 0]))] s.heap.size = A at hD ⊢
  have hA : ∀ q : Nat, s.heap.size ≤ q → A q := fun q h => by rw [← hAe]; exact Or.inr h
  have hS : va_S A s.heap s.heap [] := va_S.rf
  have hP : va_P (dC, dI) vwCl [(xm, .inr (20, [.int 0, .int 0, .ref kn, .int 0, .int 0, .int 0, .ref ml, .ref cl, .ref rg, .ref tr, .ref (aK 0), .ref (aK 0), .ref fl, .int 0, .int 0, .int 0, .int 0, .int 0, .int 0, .int 0, .null])), (ml, .inr (4, [.int 0, .ref e0, .int 0]))] s.heap := hP
  have hD : va_D A [(xm, .inr (20, [.int 0, .int 0, .ref kn, .int 0, .int 0, .int 0, .ref ml, .ref cl, .ref rg, .ref tr, .ref (aK 0), .ref (aK 0), .ref fl, .int 0, .int 0, .int 0, .int 0, .int 0, .int 0, .int 0, .null])), (ml, .inr (4, [.int 0, .ref e0, .int 0]))] := hD
  have hl := lv_entry ([.ref xm, .int p0, .int p1]) (n := 6) (Nat.le_of_ble_eq_true rfl)
  rw [lg_entry_eq]
  generalize (lg_sl ([.ref xm, .int p0, .int p1]) ++ List.replicate (6 - (lg_sl ([.ref xm, .int p0, .int p1])).length) Slot.unset).toArray = ls at hl ⊢
  have hl : lv_has ls 6 [(0, .ref xm), (1, .int p0), (2, .int p1)] := hl
  have iWX13 : ∀ w ∈ u_ws RX13 TX13 12, w ∈ wsX15_ways := by decide +kernel
  have iWX15 : ∀ w ∈ u_ws RX15 TX15 21, w ∈ wsX15_ways := by decide +kernel
  refine lv_aload_n hx hb dX15_ways_0 rfl (lv_at hl 0 rfl) ?_
  refine lv_iload_n hx hb dX15_ways_1 rfl (lv_at hl 1 rfl) ?_
  have hPc := hP.sub (ws' := [(xm, .inr (20, [.int 0, .int 0, .ref kn, .int 0, .int 0, .int 0, .ref ml, .ref cl, .ref rg, .ref tr, .ref (aK 0), .ref (aK 0), .ref fl, .int 0, .int 0, .int 0, .int 0, .int 0, .int 0, .int 0, .null])), (ml, .inr (4, [.int 0, .ref e0, .int 0]))]) [0, 1] rfl
  have hDc := hD.sub (ws' := [(xm, .inr (20, [.int 0, .int 0, .ref kn, .int 0, .int 0, .int 0, .ref ml, .ref cl, .ref rg, .ref tr, .ref (aK 0), .ref (aK 0), .ref fl, .int 0, .int 0, .int 0, .int 0, .int 0, .int 0, .int 0, .null])), (ml, .inr (4, [.int 0, .ref e0, .int 0]))]) [0, 1] (by decide) rfl
  have hKc := hK.sub (tys' := []) [] rfl
  have hFc := va_free (wc := [(xm, .inr (20, [.int 0, .int 0, .ref kn, .int 0, .int 0, .int 0, .ref ml, .ref cl, .ref rg, .ref tr, .ref (aK 0), .ref (aK 0), .ref fl, .int 0, .int 0, .int 0, .int 0, .int 0, .int 0, .int 0, .null])), (ml, .inr (4, [.int 0, .ref e0, .int 0]))]) hD hS hA [0, 1] rfl
  refine va_calli (va_runV (As := [.int p0]) (rest := []) ⟨hx, hb, hml, hown, hts⟩ (c_X15_noMachine l dC dI xm ml cl fl kn rg tr e0 aK aV p0 s.heap.size) (cwV 1 hts gX15_ways_X15_noMachine rfl rfl rfl (by decide +kernel) ⟨Nat.le_of_ble_eq_true rfl, Nat.le_of_ble_eq_true rfl⟩) (pcV hPc hDc hKc hN (ci := 20) (q0 := 0) rfl rfl) rfl rfl hl.1 rfl (lv_room (Nat.le_of_ble_eq_true rfl)) dX15_ways_2 ⟨Nat.le_of_ble_eq_true rfl, Nat.le_of_ble_eq_true rfl⟩) hS (fun q _ h => hFc q h) hFc (fun r_1 u t H1 locs ht hvm hw_2 hB hz1 hk1 hS => ?_)
  obtain ⟨hP1, hK1, hD1⟩ := hB
  rw [ht] at hP1
  try dsimp only at hw_2
  obtain ⟨hP, hD⟩ := va_join (wr := []) (w1 := [(xm, .inr (20, [.int 0, .int 0, .ref kn, .int 0, .int 0, .int 1, .ref ml, .ref cl, .ref rg, .ref tr, .ref (aK 0), .ref (aK 0), .ref fl, .int 0, .int 0, .int 0, .int 0, .int 0, .int 0, .int 0, .null])), (ml, .inr (4, [.int 0, .ref e0, .int 0]))]) hP hD [0, 1] [] rfl rfl (by decide) (by decide) hk1 hFc hP1 hD1
  generalize H1 = H at hP hS ⊢
  have hP : va_P (dC, dI) vwCl [(xm, .inr (20, [.int 0, .int 0, .ref kn, .int 0, .int 0, .int 1, .ref ml, .ref cl, .ref rg, .ref tr, .ref (aK 0), .ref (aK 0), .ref fl, .int 0, .int 0, .int 0, .int 0, .int 0, .int 0, .int 0, .null])), (ml, .inr (4, [.int 0, .ref e0, .int 0]))] H := hP
  have hD : va_D A [(xm, .inr (20, [.int 0, .int 0, .ref kn, .int 0, .int 0, .int 1, .ref ml, .ref cl, .ref rg, .ref tr, .ref (aK 0), .ref (aK 0), .ref fl, .int 0, .int 0, .int 0, .int 0, .int 0, .int 0, .int 0, .null])), (ml, .inr (4, [.int 0, .ref e0, .int 0]))] := hD
  subst hw_2
  refine lv_if_eq (tgt := 10) hx hb dX15_ways_5 (by decide) (fun c5_3 => ?_) (fun c5_3 => ?_)
  · exact absurd c5_3 (by decide)
  · refine lv_iconst (v := 0) hx hb dX15_ways_8 (by decide) ?_
    have hP9 := hP.sub (ws' := [(xm, .inr (20, [.int 0, .int 0, .ref kn, .int 0, .int 0, .int 1, .ref ml, .ref cl, .ref rg, .ref tr, .ref (aK 0), .ref (aK 0), .ref fl, .int 0, .int 0, .int 0, .int 0, .int 0, .int 0, .int 0, .null]))]) [0] rfl
    have hD9 := hD.sub (ws' := [(xm, .inr (20, [.int 0, .int 0, .ref kn, .int 0, .int 0, .int 1, .ref ml, .ref cl, .ref rg, .ref tr, .ref (aK 0), .ref (aK 0), .ref fl, .int 0, .int 0, .int 0, .int 0, .int 0, .int 0, .int 0, .null]))]) [0] (by decide) rfl
    have hK9 := hK.sub (tys' := []) [] rfl
    exact W.iret (v := 0) hx hb hr (fun t ht hW => ⟨⟨0, [.int 0, .int 0, .ref kn, .int 0, .int 0, .int 1, .ref ml, .ref cl, .ref rg, .ref tr, .ref (aK 0), .ref (aK 0), .ref fl, .int 0, .int 0, .int 0, .int 0, .int 0, .int 0, .int 0, .null], rfl, rfl, ⟨by rw [ht]; exact hP9, va_K.moved hW.alike hK9, hD9⟩⟩, hS.F ht⟩) hS.2.2 dX15_ways_9

set_option maxHeartbeats 4000000 in
set_option maxRecDepth 100000 in
/-- X15_tell -/
theorem c_X15_tell (l : Launch) (dC : Nat → ClassId) (dI : Nat → Nat → Nat) (xm ml cl fl kn rg tr : Nat) (e0 : Nat) (aK aV : Nat → Nat) (p0 p1 p2 : Int32) (sz : Nat) : Met l yX15_tell wsX15_tell ({ frames := 3, cells := 0, slots := 0, locals := 90 }) (va_Pc [.ref xm, .int p0, .int p1, .int p2] (cPC dC dI [(xm, .inr (20, [.int 0, .int 0, .ref kn, .int 0, .int 0, .int 0, .ref ml, .ref cl, .ref rg, .ref tr, .ref (aK 0), .ref (aK 0), .ref fl, .int 0, .int 0, .int 0, .int 0, .int 0, .int 0, .int 0, .null])), (ml, .inr (4, [.int 0, .ref e0, .int 0]))] [] sz)) (va_Qi (fun (r : Int32) (u : List Value) => u[5]? = some (.int 1)) (fun (u : List Value) t => cQB dC dI [(xm, .inr (20, u))] [] (va_A [(xm, .inr (20, [.int 0, .int 0, .ref kn, .int 0, .int 0, .int 0, .ref ml, .ref cl, .ref rg, .ref tr, .ref (aK 0), .ref (aK 0), .ref fl, .int 0, .int 0, .int 0, .int 0, .int 0, .int 0, .int 0, .null])), (ml, .inr (4, [.int 0, .ref e0, .int 0]))] sz) t) (va_A [(xm, .inr (20, [.int 0, .int 0, .ref kn, .int 0, .int 0, .int 0, .ref ml, .ref cl, .ref rg, .ref tr, .ref (aK 0), .ref (aK 0), .ref fl, .int 0, .int 0, .int 0, .int 0, .int 0, .int 0, .int 0, .null])), (ml, .inr (4, [.int 0, .ref e0, .int 0]))] sz)) 0 0 (va_A [(xm, .inr (20, [.int 0, .int 0, .ref kn, .int 0, .int 0, .int 0, .ref ml, .ref cl, .ref rg, .ref tr, .ref (aK 0), .ref (aK 0), .ref fl, .int 0, .int 0, .int 0, .int 0, .int 0, .int 0, .int 0, .null])), (ml, .inr (4, [.int 0, .ref e0, .int 0]))] sz) := by
  refine Met.ofW (cc := cX15_tell) (maxL := 10) (ret := (some .int)) (by decide) rfl ?_
  intro p e s m args below meth c s₁ B hml hv
  obtain ⟨rfl, hsz, hP, hK, hD0, hN⟩ := hv
  have hx := B.exec
  have hb := B.bytes
  have hr := B.returns
  have hts := atoms_spec (ws := wsX15_tell) B.pre
  have hown : s.vm.findClass RX15 = some m.cls := findClass_of_methodNamed B.named
  have hlocks := B.notSynchronized
  subst hsz
  have hD := hD0.self (sz := s.heap.size)
  generalize hAe : va_A [(xm, .inr (20, [.int 0, .int 0, .ref kn, .int 0, .int 0, .int 0, .ref ml, .ref cl, .ref rg, .ref tr, .ref (aK 0), .ref (aK 0), .ref fl, .int 0, .int 0, .int 0, .int 0, .int 0, .int 0, .int 0, .null])), (ml, .inr (4, [.int 0, .ref e0, .int 0]))] s.heap.size = A at hD ⊢
  have hA : ∀ q : Nat, s.heap.size ≤ q → A q := fun q h => by rw [← hAe]; exact Or.inr h
  have hS : va_S A s.heap s.heap [] := va_S.rf
  have hP : va_P (dC, dI) vwCl [(xm, .inr (20, [.int 0, .int 0, .ref kn, .int 0, .int 0, .int 0, .ref ml, .ref cl, .ref rg, .ref tr, .ref (aK 0), .ref (aK 0), .ref fl, .int 0, .int 0, .int 0, .int 0, .int 0, .int 0, .int 0, .null])), (ml, .inr (4, [.int 0, .ref e0, .int 0]))] s.heap := hP
  have hD : va_D A [(xm, .inr (20, [.int 0, .int 0, .ref kn, .int 0, .int 0, .int 0, .ref ml, .ref cl, .ref rg, .ref tr, .ref (aK 0), .ref (aK 0), .ref fl, .int 0, .int 0, .int 0, .int 0, .int 0, .int 0, .int 0, .null])), (ml, .inr (4, [.int 0, .ref e0, .int 0]))] := hD
  have hl := lv_entry ([.ref xm, .int p0, .int p1, .int p2]) (n := 10) (Nat.le_of_ble_eq_true rfl)
  rw [lg_entry_eq]
  generalize (lg_sl ([.ref xm, .int p0, .int p1, .int p2]) ++ List.replicate (10 - (lg_sl ([.ref xm, .int p0, .int p1, .int p2])).length) Slot.unset).toArray = ls at hl ⊢
  have hl : lv_has ls 10 [(0, .ref xm), (1, .int p0), (2, .int p1), (3, .int p2)] := hl
  have iWX13 : ∀ w ∈ u_ws RX13 TX13 12, w ∈ wsX15_tell := by decide +kernel
  have iWX15 : ∀ w ∈ u_ws RX15 TX15 21, w ∈ wsX15_tell := by decide +kernel
  refine lv_aload_n hx hb dX15_tell_0 rfl (lv_at hl 0 rfl) ?_
  refine lv_iload_n hx hb dX15_tell_1 rfl (lv_at hl 2 rfl) ?_
  have hPc := hP.sub (ws' := [(xm, .inr (20, [.int 0, .int 0, .ref kn, .int 0, .int 0, .int 0, .ref ml, .ref cl, .ref rg, .ref tr, .ref (aK 0), .ref (aK 0), .ref fl, .int 0, .int 0, .int 0, .int 0, .int 0, .int 0, .int 0, .null])), (ml, .inr (4, [.int 0, .ref e0, .int 0]))]) [0, 1] rfl
  have hDc := hD.sub (ws' := [(xm, .inr (20, [.int 0, .int 0, .ref kn, .int 0, .int 0, .int 0, .ref ml, .ref cl, .ref rg, .ref tr, .ref (aK 0), .ref (aK 0), .ref fl, .int 0, .int 0, .int 0, .int 0, .int 0, .int 0, .int 0, .null])), (ml, .inr (4, [.int 0, .ref e0, .int 0]))]) [0, 1] (by decide) rfl
  have hKc := hK.sub (tys' := []) [] rfl
  have hFc := va_free (wc := [(xm, .inr (20, [.int 0, .int 0, .ref kn, .int 0, .int 0, .int 0, .ref ml, .ref cl, .ref rg, .ref tr, .ref (aK 0), .ref (aK 0), .ref fl, .int 0, .int 0, .int 0, .int 0, .int 0, .int 0, .int 0, .null])), (ml, .inr (4, [.int 0, .ref e0, .int 0]))]) hD hS hA [0, 1] rfl
  refine va_calli (va_runV (As := [.int p1]) (rest := []) ⟨hx, hb, hml, hown, hts⟩ (c_X15_noMachine l dC dI xm ml cl fl kn rg tr e0 aK aV p1 s.heap.size) (cwV 1 hts gX15_tell_X15_noMachine rfl rfl rfl (by decide +kernel) ⟨Nat.le_of_ble_eq_true rfl, Nat.le_of_ble_eq_true rfl⟩) (pcV hPc hDc hKc hN (ci := 20) (q0 := 0) rfl rfl) rfl rfl hl.1 rfl (lv_room (Nat.le_of_ble_eq_true rfl)) dX15_tell_2 ⟨Nat.le_of_ble_eq_true rfl, Nat.le_of_ble_eq_true rfl⟩) hS (fun q _ h => hFc q h) hFc (fun r_1 u t H1 locs ht hvm hw_2 hB hz1 hk1 hS => ?_)
  obtain ⟨hP1, hK1, hD1⟩ := hB
  rw [ht] at hP1
  try dsimp only at hw_2
  obtain ⟨hP, hD⟩ := va_join (wr := []) (w1 := [(xm, .inr (20, [.int 0, .int 0, .ref kn, .int 0, .int 0, .int 1, .ref ml, .ref cl, .ref rg, .ref tr, .ref (aK 0), .ref (aK 0), .ref fl, .int 0, .int 0, .int 0, .int 0, .int 0, .int 0, .int 0, .null])), (ml, .inr (4, [.int 0, .ref e0, .int 0]))]) hP hD [0, 1] [] rfl rfl (by decide) (by decide) hk1 hFc hP1 hD1
  generalize H1 = H at hP hS ⊢
  have hP : va_P (dC, dI) vwCl [(xm, .inr (20, [.int 0, .int 0, .ref kn, .int 0, .int 0, .int 1, .ref ml, .ref cl, .ref rg, .ref tr, .ref (aK 0), .ref (aK 0), .ref fl, .int 0, .int 0, .int 0, .int 0, .int 0, .int 0, .int 0, .null])), (ml, .inr (4, [.int 0, .ref e0, .int 0]))] H := hP
  have hD : va_D A [(xm, .inr (20, [.int 0, .int 0, .ref kn, .int 0, .int 0, .int 1, .ref ml, .ref cl, .ref rg, .ref tr, .ref (aK 0), .ref (aK 0), .ref fl, .int 0, .int 0, .int 0, .int 0, .int 0, .int 0, .int 0, .null])), (ml, .inr (4, [.int 0, .ref e0, .int 0]))] := hD
  subst hw_2
  refine lv_if_eq (tgt := 10) hx hb dX15_tell_5 (by decide) (fun c5_3 => ?_) (fun c5_3 => ?_)
  · exact absurd c5_3 (by decide)
  · refine lv_iconst (v := 0) hx hb dX15_tell_8 (by decide) ?_
    have hP9 := hP.sub (ws' := [(xm, .inr (20, [.int 0, .int 0, .ref kn, .int 0, .int 0, .int 1, .ref ml, .ref cl, .ref rg, .ref tr, .ref (aK 0), .ref (aK 0), .ref fl, .int 0, .int 0, .int 0, .int 0, .int 0, .int 0, .int 0, .null]))]) [0] rfl
    have hD9 := hD.sub (ws' := [(xm, .inr (20, [.int 0, .int 0, .ref kn, .int 0, .int 0, .int 1, .ref ml, .ref cl, .ref rg, .ref tr, .ref (aK 0), .ref (aK 0), .ref fl, .int 0, .int 0, .int 0, .int 0, .int 0, .int 0, .int 0, .null]))]) [0] (by decide) rfl
    have hK9 := hK.sub (tys' := []) [] rfl
    exact W.iret (v := 0) hx hb hr (fun t ht hW => ⟨⟨0, [.int 0, .int 0, .ref kn, .int 0, .int 0, .int 1, .ref ml, .ref cl, .ref rg, .ref tr, .ref (aK 0), .ref (aK 0), .ref fl, .int 0, .int 0, .int 0, .int 0, .int 0, .int 0, .int 0, .null], rfl, rfl, ⟨by rw [ht]; exact hP9, va_K.moved hW.alike hK9, hD9⟩⟩, hS.F ht⟩) hS.2.2 dX15_tell_9

set_option maxHeartbeats 4000000 in
set_option maxRecDepth 100000 in
/-- X15_verdict -/
theorem c_X15_verdict (l : Launch) (dC : Nat → ClassId) (dI : Nat → Nat → Nat) (xm ml cl fl kn rg tr : Nat) (e0 : Nat) (aK aV : Nat → Nat) (p0 : Int32) (sz : Nat) : Met l yX15_verdict wsX15_verdict ({ frames := 3, cells := 0, slots := 0, locals := 90 }) (va_Pc [.ref xm, .int p0] (cPC dC dI [(xm, .inr (20, [.int 0, .int 0, .ref kn, .int 0, .int 0, .int 0, .ref ml, .ref cl, .ref rg, .ref tr, .ref (aK 0), .ref (aK 0), .ref fl, .int 0, .int 0, .int 0, .int 0, .int 0, .int 0, .int 0, .null])), (ml, .inr (4, [.int 0, .ref e0, .int 0]))] [] sz)) (va_Qi (fun (r : Int32) (u : List Value) => u[5]? = some (.int 1)) (fun (u : List Value) t => cQB dC dI [(xm, .inr (20, u))] [] (va_A [(xm, .inr (20, [.int 0, .int 0, .ref kn, .int 0, .int 0, .int 0, .ref ml, .ref cl, .ref rg, .ref tr, .ref (aK 0), .ref (aK 0), .ref fl, .int 0, .int 0, .int 0, .int 0, .int 0, .int 0, .int 0, .null])), (ml, .inr (4, [.int 0, .ref e0, .int 0]))] sz) t) (va_A [(xm, .inr (20, [.int 0, .int 0, .ref kn, .int 0, .int 0, .int 0, .ref ml, .ref cl, .ref rg, .ref tr, .ref (aK 0), .ref (aK 0), .ref fl, .int 0, .int 0, .int 0, .int 0, .int 0, .int 0, .int 0, .null])), (ml, .inr (4, [.int 0, .ref e0, .int 0]))] sz)) 0 0 (va_A [(xm, .inr (20, [.int 0, .int 0, .ref kn, .int 0, .int 0, .int 0, .ref ml, .ref cl, .ref rg, .ref tr, .ref (aK 0), .ref (aK 0), .ref fl, .int 0, .int 0, .int 0, .int 0, .int 0, .int 0, .int 0, .null])), (ml, .inr (4, [.int 0, .ref e0, .int 0]))] sz) := by
  refine Met.ofW (cc := cX15_verdict) (maxL := 2) (ret := (some .char)) (by decide) rfl ?_
  intro p e s m args below meth c s₁ B hml hv
  obtain ⟨rfl, hsz, hP, hK, hD0, hN⟩ := hv
  have hx := B.exec
  have hb := B.bytes
  have hr := B.returns
  have hts := atoms_spec (ws := wsX15_verdict) B.pre
  have hown : s.vm.findClass RX15 = some m.cls := findClass_of_methodNamed B.named
  have hlocks := B.notSynchronized
  subst hsz
  have hD := hD0.self (sz := s.heap.size)
  generalize hAe : va_A [(xm, .inr (20, [.int 0, .int 0, .ref kn, .int 0, .int 0, .int 0, .ref ml, .ref cl, .ref rg, .ref tr, .ref (aK 0), .ref (aK 0), .ref fl, .int 0, .int 0, .int 0, .int 0, .int 0, .int 0, .int 0, .null])), (ml, .inr (4, [.int 0, .ref e0, .int 0]))] s.heap.size = A at hD ⊢
  have hA : ∀ q : Nat, s.heap.size ≤ q → A q := fun q h => by rw [← hAe]; exact Or.inr h
  have hS : va_S A s.heap s.heap [] := va_S.rf
  have hP : va_P (dC, dI) vwCl [(xm, .inr (20, [.int 0, .int 0, .ref kn, .int 0, .int 0, .int 0, .ref ml, .ref cl, .ref rg, .ref tr, .ref (aK 0), .ref (aK 0), .ref fl, .int 0, .int 0, .int 0, .int 0, .int 0, .int 0, .int 0, .null])), (ml, .inr (4, [.int 0, .ref e0, .int 0]))] s.heap := hP
  have hD : va_D A [(xm, .inr (20, [.int 0, .int 0, .ref kn, .int 0, .int 0, .int 0, .ref ml, .ref cl, .ref rg, .ref tr, .ref (aK 0), .ref (aK 0), .ref fl, .int 0, .int 0, .int 0, .int 0, .int 0, .int 0, .int 0, .null])), (ml, .inr (4, [.int 0, .ref e0, .int 0]))] := hD
  have hl := lv_entry ([.ref xm, .int p0]) (n := 2) (Nat.le_of_ble_eq_true rfl)
  rw [lg_entry_eq]
  generalize (lg_sl ([.ref xm, .int p0]) ++ List.replicate (2 - (lg_sl ([.ref xm, .int p0])).length) Slot.unset).toArray = ls at hl ⊢
  have hl : lv_has ls 2 [(0, .ref xm), (1, .int p0)] := hl
  have iWX15 : ∀ w ∈ u_ws RX15 TX15 21, w ∈ wsX15_verdict := by decide +kernel
  refine lv_aload_n hx hb dX15_verdict_0 rfl (lv_at hl 0 rfl) ?_
  refine lv_iload_n hx hb dX15_verdict_1 rfl (lv_at hl 1 rfl) ?_
  have hPc := hP.sub (ws' := [(xm, .inr (20, [.int 0, .int 0, .ref kn, .int 0, .int 0, .int 0, .ref ml, .ref cl, .ref rg, .ref tr, .ref (aK 0), .ref (aK 0), .ref fl, .int 0, .int 0, .int 0, .int 0, .int 0, .int 0, .int 0, .null])), (ml, .inr (4, [.int 0, .ref e0, .int 0]))]) [0, 1] rfl
  have hDc := hD.sub (ws' := [(xm, .inr (20, [.int 0, .int 0, .ref kn, .int 0, .int 0, .int 0, .ref ml, .ref cl, .ref rg, .ref tr, .ref (aK 0), .ref (aK 0), .ref fl, .int 0, .int 0, .int 0, .int 0, .int 0, .int 0, .int 0, .null])), (ml, .inr (4, [.int 0, .ref e0, .int 0]))]) [0, 1] (by decide) rfl
  have hKc := hK.sub (tys' := []) [] rfl
  have hFc := va_free (wc := [(xm, .inr (20, [.int 0, .int 0, .ref kn, .int 0, .int 0, .int 0, .ref ml, .ref cl, .ref rg, .ref tr, .ref (aK 0), .ref (aK 0), .ref fl, .int 0, .int 0, .int 0, .int 0, .int 0, .int 0, .int 0, .null])), (ml, .inr (4, [.int 0, .ref e0, .int 0]))]) hD hS hA [0, 1] rfl
  refine va_calli (va_runV (As := [.int p0]) (rest := []) ⟨hx, hb, hml, hown, hts⟩ (c_X15_noMachine l dC dI xm ml cl fl kn rg tr e0 aK aV p0 s.heap.size) (cwV 1 hts gX15_verdict_X15_noMachine rfl rfl rfl (by decide +kernel) ⟨Nat.le_of_ble_eq_true rfl, Nat.le_of_ble_eq_true rfl⟩) (pcV hPc hDc hKc hN (ci := 20) (q0 := 0) rfl rfl) rfl rfl hl.1 rfl (lv_room (Nat.le_of_ble_eq_true rfl)) dX15_verdict_2 ⟨Nat.le_of_ble_eq_true rfl, Nat.le_of_ble_eq_true rfl⟩) hS (fun q _ h => hFc q h) hFc (fun r_1 u t H1 locs ht hvm hw_2 hB hz1 hk1 hS => ?_)
  obtain ⟨hP1, hK1, hD1⟩ := hB
  rw [ht] at hP1
  try dsimp only at hw_2
  obtain ⟨hP, hD⟩ := va_join (wr := []) (w1 := [(xm, .inr (20, [.int 0, .int 0, .ref kn, .int 0, .int 0, .int 1, .ref ml, .ref cl, .ref rg, .ref tr, .ref (aK 0), .ref (aK 0), .ref fl, .int 0, .int 0, .int 0, .int 0, .int 0, .int 0, .int 0, .null])), (ml, .inr (4, [.int 0, .ref e0, .int 0]))]) hP hD [0, 1] [] rfl rfl (by decide) (by decide) hk1 hFc hP1 hD1
  generalize H1 = H at hP hS ⊢
  have hP : va_P (dC, dI) vwCl [(xm, .inr (20, [.int 0, .int 0, .ref kn, .int 0, .int 0, .int 1, .ref ml, .ref cl, .ref rg, .ref tr, .ref (aK 0), .ref (aK 0), .ref fl, .int 0, .int 0, .int 0, .int 0, .int 0, .int 0, .int 0, .null])), (ml, .inr (4, [.int 0, .ref e0, .int 0]))] H := hP
  have hD : va_D A [(xm, .inr (20, [.int 0, .int 0, .ref kn, .int 0, .int 0, .int 1, .ref ml, .ref cl, .ref rg, .ref tr, .ref (aK 0), .ref (aK 0), .ref fl, .int 0, .int 0, .int 0, .int 0, .int 0, .int 0, .int 0, .null])), (ml, .inr (4, [.int 0, .ref e0, .int 0]))] := hD
  subst hw_2
  refine lv_if_eq (tgt := 13) hx hb dX15_verdict_5 (by decide) (fun c5_3 => ?_) (fun c5_3 => ?_)
  · exact absurd c5_3 (by decide)
  · refine lv_bipush (v := 32) hx hb dX15_verdict_8 (by decide) ?_
    refine lv_goto (tgt := 27) hx hb dX15_verdict_10 (by decide) ?_
    have hP9 := hP.sub (ws' := [(xm, .inr (20, [.int 0, .int 0, .ref kn, .int 0, .int 0, .int 1, .ref ml, .ref cl, .ref rg, .ref tr, .ref (aK 0), .ref (aK 0), .ref fl, .int 0, .int 0, .int 0, .int 0, .int 0, .int 0, .int 0, .null]))]) [0] rfl
    have hD9 := hD.sub (ws' := [(xm, .inr (20, [.int 0, .int 0, .ref kn, .int 0, .int 0, .int 1, .ref ml, .ref cl, .ref rg, .ref tr, .ref (aK 0), .ref (aK 0), .ref fl, .int 0, .int 0, .int 0, .int 0, .int 0, .int 0, .int 0, .null]))]) [0] (by decide) rfl
    have hK9 := hK.sub (tys' := []) [] rfl
    exact W.zret (v := 32) hx hb hr (by rfl) (fun t ht hW => ⟨⟨32, [.int 0, .int 0, .ref kn, .int 0, .int 0, .int 1, .ref ml, .ref cl, .ref rg, .ref tr, .ref (aK 0), .ref (aK 0), .ref fl, .int 0, .int 0, .int 0, .int 0, .int 0, .int 0, .int 0, .null], rfl, rfl, ⟨by rw [ht]; exact hP9, va_K.moved hW.alike hK9, hD9⟩⟩, hS.F ht⟩) hS.2.2 dX15_verdict_27

set_option maxHeartbeats 4000000 in
set_option maxRecDepth 100000 in
/-- X15_passes -/
theorem c_X15_passes (l : Launch) (dC : Nat → ClassId) (dI : Nat → Nat → Nat) (xm ml cl fl kn rg tr : Nat) (e0 : Nat) (aK aV : Nat → Nat) (p0 : Int32) (sz : Nat) : Met l yX15_passes wsX15_passes ({ frames := 3, cells := 0, slots := 0, locals := 90 }) (va_Pc [.ref xm, .int p0] (cPC dC dI [(xm, .inr (20, [.int 0, .int 0, .ref kn, .int 0, .int 0, .int 0, .ref ml, .ref cl, .ref rg, .ref tr, .ref (aK 0), .ref (aK 0), .ref fl, .int 0, .int 0, .int 0, .int 0, .int 0, .int 0, .int 0, .null])), (ml, .inr (4, [.int 0, .ref e0, .int 0]))] [] sz)) (va_Qi (fun (r : Int32) (u : List Value) => u[5]? = some (.int 1)) (fun (u : List Value) t => cQB dC dI [(xm, .inr (20, u))] [] (va_A [(xm, .inr (20, [.int 0, .int 0, .ref kn, .int 0, .int 0, .int 0, .ref ml, .ref cl, .ref rg, .ref tr, .ref (aK 0), .ref (aK 0), .ref fl, .int 0, .int 0, .int 0, .int 0, .int 0, .int 0, .int 0, .null])), (ml, .inr (4, [.int 0, .ref e0, .int 0]))] sz) t) (va_A [(xm, .inr (20, [.int 0, .int 0, .ref kn, .int 0, .int 0, .int 0, .ref ml, .ref cl, .ref rg, .ref tr, .ref (aK 0), .ref (aK 0), .ref fl, .int 0, .int 0, .int 0, .int 0, .int 0, .int 0, .int 0, .null])), (ml, .inr (4, [.int 0, .ref e0, .int 0]))] sz)) 0 0 (va_A [(xm, .inr (20, [.int 0, .int 0, .ref kn, .int 0, .int 0, .int 0, .ref ml, .ref cl, .ref rg, .ref tr, .ref (aK 0), .ref (aK 0), .ref fl, .int 0, .int 0, .int 0, .int 0, .int 0, .int 0, .int 0, .null])), (ml, .inr (4, [.int 0, .ref e0, .int 0]))] sz) := by
  refine Met.ofW (cc := cX15_passes) (maxL := 2) (ret := (some .boolean)) (by decide) rfl ?_
  intro p e s m args below meth c s₁ B hml hv
  obtain ⟨rfl, hsz, hP, hK, hD0, hN⟩ := hv
  have hx := B.exec
  have hb := B.bytes
  have hr := B.returns
  have hts := atoms_spec (ws := wsX15_passes) B.pre
  have hown : s.vm.findClass RX15 = some m.cls := findClass_of_methodNamed B.named
  have hlocks := B.notSynchronized
  subst hsz
  have hD := hD0.self (sz := s.heap.size)
  generalize hAe : va_A [(xm, .inr (20, [.int 0, .int 0, .ref kn, .int 0, .int 0, .int 0, .ref ml, .ref cl, .ref rg, .ref tr, .ref (aK 0), .ref (aK 0), .ref fl, .int 0, .int 0, .int 0, .int 0, .int 0, .int 0, .int 0, .null])), (ml, .inr (4, [.int 0, .ref e0, .int 0]))] s.heap.size = A at hD ⊢
  have hA : ∀ q : Nat, s.heap.size ≤ q → A q := fun q h => by rw [← hAe]; exact Or.inr h
  have hS : va_S A s.heap s.heap [] := va_S.rf
  have hP : va_P (dC, dI) vwCl [(xm, .inr (20, [.int 0, .int 0, .ref kn, .int 0, .int 0, .int 0, .ref ml, .ref cl, .ref rg, .ref tr, .ref (aK 0), .ref (aK 0), .ref fl, .int 0, .int 0, .int 0, .int 0, .int 0, .int 0, .int 0, .null])), (ml, .inr (4, [.int 0, .ref e0, .int 0]))] s.heap := hP
  have hD : va_D A [(xm, .inr (20, [.int 0, .int 0, .ref kn, .int 0, .int 0, .int 0, .ref ml, .ref cl, .ref rg, .ref tr, .ref (aK 0), .ref (aK 0), .ref fl, .int 0, .int 0, .int 0, .int 0, .int 0, .int 0, .int 0, .null])), (ml, .inr (4, [.int 0, .ref e0, .int 0]))] := hD
  have hl := lv_entry ([.ref xm, .int p0]) (n := 2) (Nat.le_of_ble_eq_true rfl)
  rw [lg_entry_eq]
  generalize (lg_sl ([.ref xm, .int p0]) ++ List.replicate (2 - (lg_sl ([.ref xm, .int p0])).length) Slot.unset).toArray = ls at hl ⊢
  have hl : lv_has ls 2 [(0, .ref xm), (1, .int p0)] := hl
  have iWX15 : ∀ w ∈ u_ws RX15 TX15 21, w ∈ wsX15_passes := by decide +kernel
  refine lv_aload_n hx hb dX15_passes_0 rfl (lv_at hl 0 rfl) ?_
  refine lv_iload_n hx hb dX15_passes_1 rfl (lv_at hl 1 rfl) ?_
  have hPc := hP.sub (ws' := [(xm, .inr (20, [.int 0, .int 0, .ref kn, .int 0, .int 0, .int 0, .ref ml, .ref cl, .ref rg, .ref tr, .ref (aK 0), .ref (aK 0), .ref fl, .int 0, .int 0, .int 0, .int 0, .int 0, .int 0, .int 0, .null])), (ml, .inr (4, [.int 0, .ref e0, .int 0]))]) [0, 1] rfl
  have hDc := hD.sub (ws' := [(xm, .inr (20, [.int 0, .int 0, .ref kn, .int 0, .int 0, .int 0, .ref ml, .ref cl, .ref rg, .ref tr, .ref (aK 0), .ref (aK 0), .ref fl, .int 0, .int 0, .int 0, .int 0, .int 0, .int 0, .int 0, .null])), (ml, .inr (4, [.int 0, .ref e0, .int 0]))]) [0, 1] (by decide) rfl
  have hKc := hK.sub (tys' := []) [] rfl
  have hFc := va_free (wc := [(xm, .inr (20, [.int 0, .int 0, .ref kn, .int 0, .int 0, .int 0, .ref ml, .ref cl, .ref rg, .ref tr, .ref (aK 0), .ref (aK 0), .ref fl, .int 0, .int 0, .int 0, .int 0, .int 0, .int 0, .int 0, .null])), (ml, .inr (4, [.int 0, .ref e0, .int 0]))]) hD hS hA [0, 1] rfl
  refine va_calli (va_runV (As := [.int p0]) (rest := []) ⟨hx, hb, hml, hown, hts⟩ (c_X15_noMachine l dC dI xm ml cl fl kn rg tr e0 aK aV p0 s.heap.size) (cwV 1 hts gX15_passes_X15_noMachine rfl rfl rfl (by decide +kernel) ⟨Nat.le_of_ble_eq_true rfl, Nat.le_of_ble_eq_true rfl⟩) (pcV hPc hDc hKc hN (ci := 20) (q0 := 0) rfl rfl) rfl rfl hl.1 rfl (lv_room (Nat.le_of_ble_eq_true rfl)) dX15_passes_2 ⟨Nat.le_of_ble_eq_true rfl, Nat.le_of_ble_eq_true rfl⟩) hS (fun q _ h => hFc q h) hFc (fun r_1 u t H1 locs ht hvm hw_2 hB hz1 hk1 hS => ?_)
  obtain ⟨hP1, hK1, hD1⟩ := hB
  rw [ht] at hP1
  try dsimp only at hw_2
  obtain ⟨hP, hD⟩ := va_join (wr := []) (w1 := [(xm, .inr (20, [.int 0, .int 0, .ref kn, .int 0, .int 0, .int 1, .ref ml, .ref cl, .ref rg, .ref tr, .ref (aK 0), .ref (aK 0), .ref fl, .int 0, .int 0, .int 0, .int 0, .int 0, .int 0, .int 0, .null])), (ml, .inr (4, [.int 0, .ref e0, .int 0]))]) hP hD [0, 1] [] rfl rfl (by decide) (by decide) hk1 hFc hP1 hD1
  generalize H1 = H at hP hS ⊢
  have hP : va_P (dC, dI) vwCl [(xm, .inr (20, [.int 0, .int 0, .ref kn, .int 0, .int 0, .int 1, .ref ml, .ref cl, .ref rg, .ref tr, .ref (aK 0), .ref (aK 0), .ref fl, .int 0, .int 0, .int 0, .int 0, .int 0, .int 0, .int 0, .null])), (ml, .inr (4, [.int 0, .ref e0, .int 0]))] H := hP
  have hD : va_D A [(xm, .inr (20, [.int 0, .int 0, .ref kn, .int 0, .int 0, .int 1, .ref ml, .ref cl, .ref rg, .ref tr, .ref (aK 0), .ref (aK 0), .ref fl, .int 0, .int 0, .int 0, .int 0, .int 0, .int 0, .int 0, .null])), (ml, .inr (4, [.int 0, .ref e0, .int 0]))] := hD
  subst hw_2
  refine lv_if_ne (tgt := 30) hx hb dX15_passes_5 (by decide) (fun c5_3 => ?_) (fun c5_3 => ?_)
  · refine lv_iconst (v := 0) hx hb dX15_passes_30 (by decide) ?_
    have hP9 := hP.sub (ws' := [(xm, .inr (20, [.int 0, .int 0, .ref kn, .int 0, .int 0, .int 1, .ref ml, .ref cl, .ref rg, .ref tr, .ref (aK 0), .ref (aK 0), .ref fl, .int 0, .int 0, .int 0, .int 0, .int 0, .int 0, .int 0, .null]))]) [0] rfl
    have hD9 := hD.sub (ws' := [(xm, .inr (20, [.int 0, .int 0, .ref kn, .int 0, .int 0, .int 1, .ref ml, .ref cl, .ref rg, .ref tr, .ref (aK 0), .ref (aK 0), .ref fl, .int 0, .int 0, .int 0, .int 0, .int 0, .int 0, .int 0, .null]))]) [0] (by decide) rfl
    have hK9 := hK.sub (tys' := []) [] rfl
    exact W.zret (v := 0) hx hb hr (by rfl) (fun t ht hW => ⟨⟨0, [.int 0, .int 0, .ref kn, .int 0, .int 0, .int 1, .ref ml, .ref cl, .ref rg, .ref tr, .ref (aK 0), .ref (aK 0), .ref fl, .int 0, .int 0, .int 0, .int 0, .int 0, .int 0, .int 0, .null], rfl, rfl, ⟨by rw [ht]; exact hP9, va_K.moved hW.alike hK9, hD9⟩⟩, hS.F ht⟩) hS.2.2 dX15_passes_31
  · exact absurd c5_3 (by decide)

set_option maxHeartbeats 4000000 in
set_option maxRecDepth 100000 in
/-- X15_isDisputed -/
theorem c_X15_isDisputed (l : Launch) (dC : Nat → ClassId) (dI : Nat → Nat → Nat) (xm ml cl fl kn rg tr : Nat) (e0 : Nat) (aK aV : Nat → Nat) (p0 : Int32) (sz : Nat) : Met l yX15_isDisputed wsX15_isDisputed ({ frames := 3, cells := 0, slots := 0, locals := 90 }) (va_Pc [.ref xm, .int p0] (cPC dC dI [(xm, .inr (20, [.int 0, .int 0, .ref kn, .int 0, .int 0, .int 0, .ref ml, .ref cl, .ref rg, .ref tr, .ref (aK 0), .ref (aK 0), .ref fl, .int 0, .int 0, .int 0, .int 0, .int 0, .int 0, .int 0, .null])), (ml, .inr (4, [.int 0, .ref e0, .int 0]))] [] sz)) (va_Qi (fun (r : Int32) (u : List Value) => u[5]? = some (.int 1)) (fun (u : List Value) t => cQB dC dI [(xm, .inr (20, u))] [] (va_A [(xm, .inr (20, [.int 0, .int 0, .ref kn, .int 0, .int 0, .int 0, .ref ml, .ref cl, .ref rg, .ref tr, .ref (aK 0), .ref (aK 0), .ref fl, .int 0, .int 0, .int 0, .int 0, .int 0, .int 0, .int 0, .null])), (ml, .inr (4, [.int 0, .ref e0, .int 0]))] sz) t) (va_A [(xm, .inr (20, [.int 0, .int 0, .ref kn, .int 0, .int 0, .int 0, .ref ml, .ref cl, .ref rg, .ref tr, .ref (aK 0), .ref (aK 0), .ref fl, .int 0, .int 0, .int 0, .int 0, .int 0, .int 0, .int 0, .null])), (ml, .inr (4, [.int 0, .ref e0, .int 0]))] sz)) 0 0 (va_A [(xm, .inr (20, [.int 0, .int 0, .ref kn, .int 0, .int 0, .int 0, .ref ml, .ref cl, .ref rg, .ref tr, .ref (aK 0), .ref (aK 0), .ref fl, .int 0, .int 0, .int 0, .int 0, .int 0, .int 0, .int 0, .null])), (ml, .inr (4, [.int 0, .ref e0, .int 0]))] sz) := by
  refine Met.ofW (cc := cX15_isDisputed) (maxL := 9) (ret := (some .boolean)) (by decide) rfl ?_
  intro p e s m args below meth c s₁ B hml hv
  obtain ⟨rfl, hsz, hP, hK, hD0, hN⟩ := hv
  have hx := B.exec
  have hb := B.bytes
  have hr := B.returns
  have hts := atoms_spec (ws := wsX15_isDisputed) B.pre
  have hown : s.vm.findClass RX15 = some m.cls := findClass_of_methodNamed B.named
  have hlocks := B.notSynchronized
  subst hsz
  have hD := hD0.self (sz := s.heap.size)
  generalize hAe : va_A [(xm, .inr (20, [.int 0, .int 0, .ref kn, .int 0, .int 0, .int 0, .ref ml, .ref cl, .ref rg, .ref tr, .ref (aK 0), .ref (aK 0), .ref fl, .int 0, .int 0, .int 0, .int 0, .int 0, .int 0, .int 0, .null])), (ml, .inr (4, [.int 0, .ref e0, .int 0]))] s.heap.size = A at hD ⊢
  have hA : ∀ q : Nat, s.heap.size ≤ q → A q := fun q h => by rw [← hAe]; exact Or.inr h
  have hS : va_S A s.heap s.heap [] := va_S.rf
  have hP : va_P (dC, dI) vwCl [(xm, .inr (20, [.int 0, .int 0, .ref kn, .int 0, .int 0, .int 0, .ref ml, .ref cl, .ref rg, .ref tr, .ref (aK 0), .ref (aK 0), .ref fl, .int 0, .int 0, .int 0, .int 0, .int 0, .int 0, .int 0, .null])), (ml, .inr (4, [.int 0, .ref e0, .int 0]))] s.heap := hP
  have hD : va_D A [(xm, .inr (20, [.int 0, .int 0, .ref kn, .int 0, .int 0, .int 0, .ref ml, .ref cl, .ref rg, .ref tr, .ref (aK 0), .ref (aK 0), .ref fl, .int 0, .int 0, .int 0, .int 0, .int 0, .int 0, .int 0, .null])), (ml, .inr (4, [.int 0, .ref e0, .int 0]))] := hD
  have hl := lv_entry ([.ref xm, .int p0]) (n := 9) (Nat.le_of_ble_eq_true rfl)
  rw [lg_entry_eq]
  generalize (lg_sl ([.ref xm, .int p0]) ++ List.replicate (9 - (lg_sl ([.ref xm, .int p0])).length) Slot.unset).toArray = ls at hl ⊢
  have hl : lv_has ls 9 [(0, .ref xm), (1, .int p0)] := hl
  have iWX13 : ∀ w ∈ u_ws RX13 TX13 12, w ∈ wsX15_isDisputed := by decide +kernel
  have iWX15 : ∀ w ∈ u_ws RX15 TX15 21, w ∈ wsX15_isDisputed := by decide +kernel
  refine lv_aload_n hx hb dX15_isDisputed_0 rfl (lv_at hl 0 rfl) ?_
  refine lv_iload_n hx hb dX15_isDisputed_1 rfl (lv_at hl 1 rfl) ?_
  have hPc := hP.sub (ws' := [(xm, .inr (20, [.int 0, .int 0, .ref kn, .int 0, .int 0, .int 0, .ref ml, .ref cl, .ref rg, .ref tr, .ref (aK 0), .ref (aK 0), .ref fl, .int 0, .int 0, .int 0, .int 0, .int 0, .int 0, .int 0, .null])), (ml, .inr (4, [.int 0, .ref e0, .int 0]))]) [0, 1] rfl
  have hDc := hD.sub (ws' := [(xm, .inr (20, [.int 0, .int 0, .ref kn, .int 0, .int 0, .int 0, .ref ml, .ref cl, .ref rg, .ref tr, .ref (aK 0), .ref (aK 0), .ref fl, .int 0, .int 0, .int 0, .int 0, .int 0, .int 0, .int 0, .null])), (ml, .inr (4, [.int 0, .ref e0, .int 0]))]) [0, 1] (by decide) rfl
  have hKc := hK.sub (tys' := []) [] rfl
  have hFc := va_free (wc := [(xm, .inr (20, [.int 0, .int 0, .ref kn, .int 0, .int 0, .int 0, .ref ml, .ref cl, .ref rg, .ref tr, .ref (aK 0), .ref (aK 0), .ref fl, .int 0, .int 0, .int 0, .int 0, .int 0, .int 0, .int 0, .null])), (ml, .inr (4, [.int 0, .ref e0, .int 0]))]) hD hS hA [0, 1] rfl
  refine va_calli (va_runV (As := [.int p0]) (rest := []) ⟨hx, hb, hml, hown, hts⟩ (c_X15_noMachine l dC dI xm ml cl fl kn rg tr e0 aK aV p0 s.heap.size) (cwV 1 hts gX15_isDisputed_X15_noMachine rfl rfl rfl (by decide +kernel) ⟨Nat.le_of_ble_eq_true rfl, Nat.le_of_ble_eq_true rfl⟩) (pcV hPc hDc hKc hN (ci := 20) (q0 := 0) rfl rfl) rfl rfl hl.1 rfl (lv_room (Nat.le_of_ble_eq_true rfl)) dX15_isDisputed_2 ⟨Nat.le_of_ble_eq_true rfl, Nat.le_of_ble_eq_true rfl⟩) hS (fun q _ h => hFc q h) hFc (fun r_1 u t H1 locs ht hvm hw_2 hB hz1 hk1 hS => ?_)
  obtain ⟨hP1, hK1, hD1⟩ := hB
  rw [ht] at hP1
  try dsimp only at hw_2
  obtain ⟨hP, hD⟩ := va_join (wr := []) (w1 := [(xm, .inr (20, [.int 0, .int 0, .ref kn, .int 0, .int 0, .int 1, .ref ml, .ref cl, .ref rg, .ref tr, .ref (aK 0), .ref (aK 0), .ref fl, .int 0, .int 0, .int 0, .int 0, .int 0, .int 0, .int 0, .null])), (ml, .inr (4, [.int 0, .ref e0, .int 0]))]) hP hD [0, 1] [] rfl rfl (by decide) (by decide) hk1 hFc hP1 hD1
  generalize H1 = H at hP hS ⊢
  have hP : va_P (dC, dI) vwCl [(xm, .inr (20, [.int 0, .int 0, .ref kn, .int 0, .int 0, .int 1, .ref ml, .ref cl, .ref rg, .ref tr, .ref (aK 0), .ref (aK 0), .ref fl, .int 0, .int 0, .int 0, .int 0, .int 0, .int 0, .int 0, .null])), (ml, .inr (4, [.int 0, .ref e0, .int 0]))] H := hP
  have hD : va_D A [(xm, .inr (20, [.int 0, .int 0, .ref kn, .int 0, .int 0, .int 1, .ref ml, .ref cl, .ref rg, .ref tr, .ref (aK 0), .ref (aK 0), .ref fl, .int 0, .int 0, .int 0, .int 0, .int 0, .int 0, .int 0, .null])), (ml, .inr (4, [.int 0, .ref e0, .int 0]))] := hD
  subst hw_2
  refine lv_if_eq (tgt := 10) hx hb dX15_isDisputed_5 (by decide) (fun c5_3 => ?_) (fun c5_3 => ?_)
  · exact absurd c5_3 (by decide)
  · refine lv_iconst (v := 0) hx hb dX15_isDisputed_8 (by decide) ?_
    have hP9 := hP.sub (ws' := [(xm, .inr (20, [.int 0, .int 0, .ref kn, .int 0, .int 0, .int 1, .ref ml, .ref cl, .ref rg, .ref tr, .ref (aK 0), .ref (aK 0), .ref fl, .int 0, .int 0, .int 0, .int 0, .int 0, .int 0, .int 0, .null]))]) [0] rfl
    have hD9 := hD.sub (ws' := [(xm, .inr (20, [.int 0, .int 0, .ref kn, .int 0, .int 0, .int 1, .ref ml, .ref cl, .ref rg, .ref tr, .ref (aK 0), .ref (aK 0), .ref fl, .int 0, .int 0, .int 0, .int 0, .int 0, .int 0, .int 0, .null]))]) [0] (by decide) rfl
    have hK9 := hK.sub (tys' := []) [] rfl
    exact W.zret (v := 0) hx hb hr (by rfl) (fun t ht hW => ⟨⟨0, [.int 0, .int 0, .ref kn, .int 0, .int 0, .int 1, .ref ml, .ref cl, .ref rg, .ref tr, .ref (aK 0), .ref (aK 0), .ref fl, .int 0, .int 0, .int 0, .int 0, .int 0, .int 0, .int 0, .null], rfl, rfl, ⟨by rw [ht]; exact hP9, va_K.moved hW.alike hK9, hD9⟩⟩, hS.F ht⟩) hS.2.2 dX15_isDisputed_9

set_option maxHeartbeats 4000000 in
set_option maxRecDepth 100000 in
/-- X15_hasHalted -/
theorem c_X15_hasHalted (l : Launch) (dC : Nat → ClassId) (dI : Nat → Nat → Nat) (xm ml cl fl kn rg tr : Nat) (e0 : Nat) (aK aV : Nat → Nat) (p0 : Int32) (sz : Nat) : Met l yX15_hasHalted wsX15_hasHalted ({ frames := 3, cells := 0, slots := 0, locals := 90 }) (va_Pc [.ref xm, .int p0] (cPC dC dI [(xm, .inr (20, [.int 0, .int 0, .ref kn, .int 0, .int 0, .int 0, .ref ml, .ref cl, .ref rg, .ref tr, .ref (aK 0), .ref (aK 0), .ref fl, .int 0, .int 0, .int 0, .int 0, .int 0, .int 0, .int 0, .null])), (ml, .inr (4, [.int 0, .ref e0, .int 0]))] [] sz)) (va_Qi (fun (r : Int32) (u : List Value) => u[5]? = some (.int 1)) (fun (u : List Value) t => cQB dC dI [(xm, .inr (20, u))] [] (va_A [(xm, .inr (20, [.int 0, .int 0, .ref kn, .int 0, .int 0, .int 0, .ref ml, .ref cl, .ref rg, .ref tr, .ref (aK 0), .ref (aK 0), .ref fl, .int 0, .int 0, .int 0, .int 0, .int 0, .int 0, .int 0, .null])), (ml, .inr (4, [.int 0, .ref e0, .int 0]))] sz) t) (va_A [(xm, .inr (20, [.int 0, .int 0, .ref kn, .int 0, .int 0, .int 0, .ref ml, .ref cl, .ref rg, .ref tr, .ref (aK 0), .ref (aK 0), .ref fl, .int 0, .int 0, .int 0, .int 0, .int 0, .int 0, .int 0, .null])), (ml, .inr (4, [.int 0, .ref e0, .int 0]))] sz)) 0 0 (va_A [(xm, .inr (20, [.int 0, .int 0, .ref kn, .int 0, .int 0, .int 0, .ref ml, .ref cl, .ref rg, .ref tr, .ref (aK 0), .ref (aK 0), .ref fl, .int 0, .int 0, .int 0, .int 0, .int 0, .int 0, .int 0, .null])), (ml, .inr (4, [.int 0, .ref e0, .int 0]))] sz) := by
  refine Met.ofW (cc := cX15_hasHalted) (maxL := 3) (ret := (some .boolean)) (by decide) rfl ?_
  intro p e s m args below meth c s₁ B hml hv
  obtain ⟨rfl, hsz, hP, hK, hD0, hN⟩ := hv
  have hx := B.exec
  have hb := B.bytes
  have hr := B.returns
  have hts := atoms_spec (ws := wsX15_hasHalted) B.pre
  have hown : s.vm.findClass RX15 = some m.cls := findClass_of_methodNamed B.named
  have hlocks := B.notSynchronized
  subst hsz
  have hD := hD0.self (sz := s.heap.size)
  generalize hAe : va_A [(xm, .inr (20, [.int 0, .int 0, .ref kn, .int 0, .int 0, .int 0, .ref ml, .ref cl, .ref rg, .ref tr, .ref (aK 0), .ref (aK 0), .ref fl, .int 0, .int 0, .int 0, .int 0, .int 0, .int 0, .int 0, .null])), (ml, .inr (4, [.int 0, .ref e0, .int 0]))] s.heap.size = A at hD ⊢
  have hA : ∀ q : Nat, s.heap.size ≤ q → A q := fun q h => by rw [← hAe]; exact Or.inr h
  have hS : va_S A s.heap s.heap [] := va_S.rf
  have hP : va_P (dC, dI) vwCl [(xm, .inr (20, [.int 0, .int 0, .ref kn, .int 0, .int 0, .int 0, .ref ml, .ref cl, .ref rg, .ref tr, .ref (aK 0), .ref (aK 0), .ref fl, .int 0, .int 0, .int 0, .int 0, .int 0, .int 0, .int 0, .null])), (ml, .inr (4, [.int 0, .ref e0, .int 0]))] s.heap := hP
  have hD : va_D A [(xm, .inr (20, [.int 0, .int 0, .ref kn, .int 0, .int 0, .int 0, .ref ml, .ref cl, .ref rg, .ref tr, .ref (aK 0), .ref (aK 0), .ref fl, .int 0, .int 0, .int 0, .int 0, .int 0, .int 0, .int 0, .null])), (ml, .inr (4, [.int 0, .ref e0, .int 0]))] := hD
  have hl := lv_entry ([.ref xm, .int p0]) (n := 3) (Nat.le_of_ble_eq_true rfl)
  rw [lg_entry_eq]
  generalize (lg_sl ([.ref xm, .int p0]) ++ List.replicate (3 - (lg_sl ([.ref xm, .int p0])).length) Slot.unset).toArray = ls at hl ⊢
  have hl : lv_has ls 3 [(0, .ref xm), (1, .int p0)] := hl
  have iWX14 : ∀ w ∈ u_ws RX14 TX14 9, w ∈ wsX15_hasHalted := by decide +kernel
  refine lv_aload_n hx hb dX15_hasHalted_0 rfl (lv_at hl 0 rfl) ?_
  refine lv_iload_n hx hb dX15_hasHalted_1 rfl (lv_at hl 1 rfl) ?_
  refine lv_iconst (v := 2) hx hb dX15_hasHalted_2 (by decide) ?_
  have hPc := hP.sub (ws' := [(xm, .inr (20, [.int 0, .int 0, .ref kn, .int 0, .int 0, .int 0, .ref ml, .ref cl, .ref rg, .ref tr, .ref (aK 0), .ref (aK 0), .ref fl, .int 0, .int 0, .int 0, .int 0, .int 0, .int 0, .int 0, .null])), (ml, .inr (4, [.int 0, .ref e0, .int 0]))]) [0, 1] rfl
  have hDc := hD.sub (ws' := [(xm, .inr (20, [.int 0, .int 0, .ref kn, .int 0, .int 0, .int 0, .ref ml, .ref cl, .ref rg, .ref tr, .ref (aK 0), .ref (aK 0), .ref fl, .int 0, .int 0, .int 0, .int 0, .int 0, .int 0, .int 0, .null])), (ml, .inr (4, [.int 0, .ref e0, .int 0]))]) [0, 1] (by decide) rfl
  have hKc := hK.sub (tys' := []) [] rfl
  have hFc := va_free (wc := [(xm, .inr (20, [.int 0, .int 0, .ref kn, .int 0, .int 0, .int 0, .ref ml, .ref cl, .ref rg, .ref tr, .ref (aK 0), .ref (aK 0), .ref fl, .int 0, .int 0, .int 0, .int 0, .int 0, .int 0, .int 0, .null])), (ml, .inr (4, [.int 0, .ref e0, .int 0]))]) hD hS hA [0, 1] rfl
  refine va_callq (va_runV (As := [.int p0, .int 2]) (rest := []) ⟨hx, hb, hml, hown, hts⟩ (c_X15_lastOf l dC dI xm ml cl fl kn rg tr e0 aK aV p0 2 s.heap.size) (cwV 2 hts gX15_hasHalted_X15_lastOf rfl rfl rfl (by decide +kernel) ⟨Nat.le_of_ble_eq_true rfl, Nat.le_of_ble_eq_true rfl⟩) (pcV hPc hDc hKc hN (ci := 20) (q0 := 0) rfl rfl) rfl rfl hl.1 rfl (lv_room (Nat.le_of_ble_eq_true rfl)) dX15_hasHalted_3 ⟨Nat.le_of_ble_eq_true rfl, Nat.le_of_ble_eq_true rfl⟩) hS (fun q _ h => hFc q h) hFc (fun r_1 u t H1 locs ht hvm hw_2 hB hz1 hk1 hS => ?_)
  obtain ⟨hP1, hK1, hD1⟩ := hB
  rw [ht] at hP1
  try dsimp only at hw_2
  obtain ⟨hP, hD⟩ := va_join (wr := []) (w1 := [(xm, .inr (20, [.int 0, .int 0, .ref kn, .int 0, .int 0, .int 1, .ref ml, .ref cl, .ref rg, .ref tr, .ref (aK 0), .ref (aK 0), .ref fl, .int 0, .int 0, .int 0, .int 0, .int 0, .int 0, .int 0, .null])), (ml, .inr (4, [.int 0, .ref e0, .int 0]))]) hP hD [0, 1] [] rfl rfl (by decide) (by decide) hk1 hFc hP1 hD1
  generalize H1 = H at hP hS ⊢
  have hP : va_P (dC, dI) vwCl [(xm, .inr (20, [.int 0, .int 0, .ref kn, .int 0, .int 0, .int 1, .ref ml, .ref cl, .ref rg, .ref tr, .ref (aK 0), .ref (aK 0), .ref fl, .int 0, .int 0, .int 0, .int 0, .int 0, .int 0, .int 0, .null])), (ml, .inr (4, [.int 0, .ref e0, .int 0]))] H := hP
  have hD : va_D A [(xm, .inr (20, [.int 0, .int 0, .ref kn, .int 0, .int 0, .int 1, .ref ml, .ref cl, .ref rg, .ref tr, .ref (aK 0), .ref (aK 0), .ref fl, .int 0, .int 0, .int 0, .int 0, .int 0, .int 0, .int 0, .null])), (ml, .inr (4, [.int 0, .ref e0, .int 0]))] := hD
  subst hw_2
  refine lv_astore_nN (lv' := [(2, .null), (0, .ref xm), (1, .int p0)]) hx hb dX15_hasHalted_6 rfl hl (by decide) rfl (fun ls hl => ?_)
  refine lv_aload_nN hx hb dX15_hasHalted_7 rfl (lv_at hl 0 rfl) ?_
  refine lv_ifnullN (tgt := 22) hx hb dX15_hasHalted_8 (by decide) ?_
  refine lv_iconst (v := 0) hx hb dX15_hasHalted_22 (by decide) ?_
  have hP9 := hP.sub (ws' := [(xm, .inr (20, [.int 0, .int 0, .ref kn, .int 0, .int 0, .int 1, .ref ml, .ref cl, .ref rg, .ref tr, .ref (aK 0), .ref (aK 0), .ref fl, .int 0, .int 0, .int 0, .int 0, .int 0, .int 0, .int 0, .null]))]) [0] rfl
  have hD9 := hD.sub (ws' := [(xm, .inr (20, [.int 0, .int 0, .ref kn, .int 0, .int 0, .int 1, .ref ml, .ref cl, .ref rg, .ref tr, .ref (aK 0), .ref (aK 0), .ref fl, .int 0, .int 0, .int 0, .int 0, .int 0, .int 0, .int 0, .null]))]) [0] (by decide) rfl
  have hK9 := hK.sub (tys' := []) [] rfl
  exact W.zret (v := 0) hx hb hr (by rfl) (fun t ht hW => ⟨⟨0, [.int 0, .int 0, .ref kn, .int 0, .int 0, .int 1, .ref ml, .ref cl, .ref rg, .ref tr, .ref (aK 0), .ref (aK 0), .ref fl, .int 0, .int 0, .int 0, .int 0, .int 0, .int 0, .int 0, .null], rfl, rfl, ⟨by rw [ht]; exact hP9, va_K.moved hW.alike hK9, hD9⟩⟩, hS.F ht⟩) hS.2.2 dX15_hasHalted_23

set_option maxHeartbeats 4000000 in
set_option maxRecDepth 100000 in
/-- X15_signAt -/
theorem c_X15_signAt (l : Launch) (dC : Nat → ClassId) (dI : Nat → Nat → Nat) (xm ml cl fl kn rg tr : Nat) (e0 : Nat) (aK aV : Nat → Nat) (p0 p1 : Int32) (sz : Nat) : Met l yX15_signAt wsX15_signAt ({ frames := 3, cells := 0, slots := 0, locals := 90 }) (va_Pc [.ref xm, .int p0, .int p1] (cPC dC dI [(xm, .inr (20, [.int 0, .int 0, .ref kn, .int 0, .int 0, .int 0, .ref ml, .ref cl, .ref rg, .ref tr, .ref (aK 0), .ref (aK 0), .ref fl, .int 0, .int 0, .int 0, .int 0, .int 0, .int 0, .int 0, .null])), (ml, .inr (4, [.int 0, .ref e0, .int 0]))] [] sz)) (va_Qi (fun (r : Int32) (u : List Value) => u[5]? = some (.int 1)) (fun (u : List Value) t => cQB dC dI [(xm, .inr (20, u))] [] (va_A [(xm, .inr (20, [.int 0, .int 0, .ref kn, .int 0, .int 0, .int 0, .ref ml, .ref cl, .ref rg, .ref tr, .ref (aK 0), .ref (aK 0), .ref fl, .int 0, .int 0, .int 0, .int 0, .int 0, .int 0, .int 0, .null])), (ml, .inr (4, [.int 0, .ref e0, .int 0]))] sz) t) (va_A [(xm, .inr (20, [.int 0, .int 0, .ref kn, .int 0, .int 0, .int 0, .ref ml, .ref cl, .ref rg, .ref tr, .ref (aK 0), .ref (aK 0), .ref fl, .int 0, .int 0, .int 0, .int 0, .int 0, .int 0, .int 0, .null])), (ml, .inr (4, [.int 0, .ref e0, .int 0]))] sz)) 0 0 (va_A [(xm, .inr (20, [.int 0, .int 0, .ref kn, .int 0, .int 0, .int 0, .ref ml, .ref cl, .ref rg, .ref tr, .ref (aK 0), .ref (aK 0), .ref fl, .int 0, .int 0, .int 0, .int 0, .int 0, .int 0, .int 0, .null])), (ml, .inr (4, [.int 0, .ref e0, .int 0]))] sz) := by
  refine Met.ofW (cc := cX15_signAt) (maxL := 4) (ret := (some .int)) (by decide) rfl ?_
  intro p e s m args below meth c s₁ B hml hv
  obtain ⟨rfl, hsz, hP, hK, hD0, hN⟩ := hv
  have hx := B.exec
  have hb := B.bytes
  have hr := B.returns
  have hts := atoms_spec (ws := wsX15_signAt) B.pre
  have hown : s.vm.findClass RX15 = some m.cls := findClass_of_methodNamed B.named
  have hlocks := B.notSynchronized
  subst hsz
  have hD := hD0.self (sz := s.heap.size)
  generalize hAe : va_A [(xm, .inr (20, [.int 0, .int 0, .ref kn, .int 0, .int 0, .int 0, .ref ml, .ref cl, .ref rg, .ref tr, .ref (aK 0), .ref (aK 0), .ref fl, .int 0, .int 0, .int 0, .int 0, .int 0, .int 0, .int 0, .null])), (ml, .inr (4, [.int 0, .ref e0, .int 0]))] s.heap.size = A at hD ⊢
  have hA : ∀ q : Nat, s.heap.size ≤ q → A q := fun q h => by rw [← hAe]; exact Or.inr h
  have hS : va_S A s.heap s.heap [] := va_S.rf
  have hP : va_P (dC, dI) vwCl [(xm, .inr (20, [.int 0, .int 0, .ref kn, .int 0, .int 0, .int 0, .ref ml, .ref cl, .ref rg, .ref tr, .ref (aK 0), .ref (aK 0), .ref fl, .int 0, .int 0, .int 0, .int 0, .int 0, .int 0, .int 0, .null])), (ml, .inr (4, [.int 0, .ref e0, .int 0]))] s.heap := hP
  have hD : va_D A [(xm, .inr (20, [.int 0, .int 0, .ref kn, .int 0, .int 0, .int 0, .ref ml, .ref cl, .ref rg, .ref tr, .ref (aK 0), .ref (aK 0), .ref fl, .int 0, .int 0, .int 0, .int 0, .int 0, .int 0, .int 0, .null])), (ml, .inr (4, [.int 0, .ref e0, .int 0]))] := hD
  have hl := lv_entry ([.ref xm, .int p0, .int p1]) (n := 4) (Nat.le_of_ble_eq_true rfl)
  rw [lg_entry_eq]
  generalize (lg_sl ([.ref xm, .int p0, .int p1]) ++ List.replicate (4 - (lg_sl ([.ref xm, .int p0, .int p1])).length) Slot.unset).toArray = ls at hl ⊢
  have hl : lv_has ls 4 [(0, .ref xm), (1, .int p0), (2, .int p1)] := hl
  have iWX14 : ∀ w ∈ u_ws RX14 TX14 9, w ∈ wsX15_signAt := by decide +kernel
  refine lv_aload_n hx hb dX15_signAt_0 rfl (lv_at hl 0 rfl) ?_
  refine lv_iload_n hx hb dX15_signAt_1 rfl (lv_at hl 1 rfl) ?_
  refine lv_iconst (v := 2) hx hb dX15_signAt_2 (by decide) ?_
  have hPc := hP.sub (ws' := [(xm, .inr (20, [.int 0, .int 0, .ref kn, .int 0, .int 0, .int 0, .ref ml, .ref cl, .ref rg, .ref tr, .ref (aK 0), .ref (aK 0), .ref fl, .int 0, .int 0, .int 0, .int 0, .int 0, .int 0, .int 0, .null])), (ml, .inr (4, [.int 0, .ref e0, .int 0]))]) [0, 1] rfl
  have hDc := hD.sub (ws' := [(xm, .inr (20, [.int 0, .int 0, .ref kn, .int 0, .int 0, .int 0, .ref ml, .ref cl, .ref rg, .ref tr, .ref (aK 0), .ref (aK 0), .ref fl, .int 0, .int 0, .int 0, .int 0, .int 0, .int 0, .int 0, .null])), (ml, .inr (4, [.int 0, .ref e0, .int 0]))]) [0, 1] (by decide) rfl
  have hKc := hK.sub (tys' := []) [] rfl
  have hFc := va_free (wc := [(xm, .inr (20, [.int 0, .int 0, .ref kn, .int 0, .int 0, .int 0, .ref ml, .ref cl, .ref rg, .ref tr, .ref (aK 0), .ref (aK 0), .ref fl, .int 0, .int 0, .int 0, .int 0, .int 0, .int 0, .int 0, .null])), (ml, .inr (4, [.int 0, .ref e0, .int 0]))]) hD hS hA [0, 1] rfl
  refine va_callq (va_runV (As := [.int p0, .int 2]) (rest := []) ⟨hx, hb, hml, hown, hts⟩ (c_X15_lastOf l dC dI xm ml cl fl kn rg tr e0 aK aV p0 2 s.heap.size) (cwV 2 hts gX15_signAt_X15_lastOf rfl rfl rfl (by decide +kernel) ⟨Nat.le_of_ble_eq_true rfl, Nat.le_of_ble_eq_true rfl⟩) (pcV hPc hDc hKc hN (ci := 20) (q0 := 0) rfl rfl) rfl rfl hl.1 rfl (lv_room (Nat.le_of_ble_eq_true rfl)) dX15_signAt_3 ⟨Nat.le_of_ble_eq_true rfl, Nat.le_of_ble_eq_true rfl⟩) hS (fun q _ h => hFc q h) hFc (fun r_1 u t H1 locs ht hvm hw_2 hB hz1 hk1 hS => ?_)
  obtain ⟨hP1, hK1, hD1⟩ := hB
  rw [ht] at hP1
  try dsimp only at hw_2
  obtain ⟨hP, hD⟩ := va_join (wr := []) (w1 := [(xm, .inr (20, [.int 0, .int 0, .ref kn, .int 0, .int 0, .int 1, .ref ml, .ref cl, .ref rg, .ref tr, .ref (aK 0), .ref (aK 0), .ref fl, .int 0, .int 0, .int 0, .int 0, .int 0, .int 0, .int 0, .null])), (ml, .inr (4, [.int 0, .ref e0, .int 0]))]) hP hD [0, 1] [] rfl rfl (by decide) (by decide) hk1 hFc hP1 hD1
  generalize H1 = H at hP hS ⊢
  have hP : va_P (dC, dI) vwCl [(xm, .inr (20, [.int 0, .int 0, .ref kn, .int 0, .int 0, .int 1, .ref ml, .ref cl, .ref rg, .ref tr, .ref (aK 0), .ref (aK 0), .ref fl, .int 0, .int 0, .int 0, .int 0, .int 0, .int 0, .int 0, .null])), (ml, .inr (4, [.int 0, .ref e0, .int 0]))] H := hP
  have hD : va_D A [(xm, .inr (20, [.int 0, .int 0, .ref kn, .int 0, .int 0, .int 1, .ref ml, .ref cl, .ref rg, .ref tr, .ref (aK 0), .ref (aK 0), .ref fl, .int 0, .int 0, .int 0, .int 0, .int 0, .int 0, .int 0, .null])), (ml, .inr (4, [.int 0, .ref e0, .int 0]))] := hD
  subst hw_2
  refine lv_astore_nN (lv' := [(3, .null), (0, .ref xm), (1, .int p0), (2, .int p1)]) hx hb dX15_signAt_6 rfl hl (by decide) rfl (fun ls hl => ?_)
  refine lv_aload_nN hx hb dX15_signAt_7 rfl (lv_at hl 0 rfl) ?_
  refine lv_ifnullN (tgt := 25) hx hb dX15_signAt_8 (by decide) ?_
  refine lv_iconst (v := 0) hx hb dX15_signAt_25 (by decide) ?_
  refine lv_goto (tgt := 39) hx hb dX15_signAt_26 (by decide) ?_
  have hP9 := hP.sub (ws' := [(xm, .inr (20, [.int 0, .int 0, .ref kn, .int 0, .int 0, .int 1, .ref ml, .ref cl, .ref rg, .ref tr, .ref (aK 0), .ref (aK 0), .ref fl, .int 0, .int 0, .int 0, .int 0, .int 0, .int 0, .int 0, .null]))]) [0] rfl
  have hD9 := hD.sub (ws' := [(xm, .inr (20, [.int 0, .int 0, .ref kn, .int 0, .int 0, .int 1, .ref ml, .ref cl, .ref rg, .ref tr, .ref (aK 0), .ref (aK 0), .ref fl, .int 0, .int 0, .int 0, .int 0, .int 0, .int 0, .int 0, .null]))]) [0] (by decide) rfl
  have hK9 := hK.sub (tys' := []) [] rfl
  exact W.iret (v := 0) hx hb hr (fun t ht hW => ⟨⟨0, [.int 0, .int 0, .ref kn, .int 0, .int 0, .int 1, .ref ml, .ref cl, .ref rg, .ref tr, .ref (aK 0), .ref (aK 0), .ref fl, .int 0, .int 0, .int 0, .int 0, .int 0, .int 0, .int 0, .null], rfl, rfl, ⟨by rw [ht]; exact hP9, va_K.moved hW.alike hK9, hD9⟩⟩, hS.F ht⟩) hS.2.2 dX15_signAt_39

set_option maxHeartbeats 4000000 in
set_option maxRecDepth 100000 in
/-- X15_print -/
theorem c_X15_print (l : Launch) (dC : Nat → ClassId) (dI : Nat → Nat → Nat) (xm ml cl fl kn rg tr : Nat) (e0 : Nat) (aK aV : Nat → Nat) (p0 : Int32) (sz : Nat) : Met l yX15_print wsX15_print ({ frames := 3, cells := 0, slots := 0, locals := 90 }) (va_Pc [.ref xm, .int p0] (cPC dC dI [(xm, .inr (20, [.int 0, .int 0, .ref kn, .int 0, .int 0, .int 0, .ref ml, .ref cl, .ref rg, .ref tr, .ref (aK 0), .ref (aK 0), .ref fl, .int 0, .int 0, .int 0, .int 0, .int 0, .int 0, .int 0, .null])), (ml, .inr (4, [.int 0, .ref e0, .int 0]))] [] sz)) (va_Ql (fun (r : Int64) (u : List Value) => u[5]? = some (.int 1)) (fun (u : List Value) t => cQB dC dI [(xm, .inr (20, u))] [] (va_A [(xm, .inr (20, [.int 0, .int 0, .ref kn, .int 0, .int 0, .int 0, .ref ml, .ref cl, .ref rg, .ref tr, .ref (aK 0), .ref (aK 0), .ref fl, .int 0, .int 0, .int 0, .int 0, .int 0, .int 0, .int 0, .null])), (ml, .inr (4, [.int 0, .ref e0, .int 0]))] sz) t) (va_A [(xm, .inr (20, [.int 0, .int 0, .ref kn, .int 0, .int 0, .int 0, .ref ml, .ref cl, .ref rg, .ref tr, .ref (aK 0), .ref (aK 0), .ref fl, .int 0, .int 0, .int 0, .int 0, .int 0, .int 0, .int 0, .null])), (ml, .inr (4, [.int 0, .ref e0, .int 0]))] sz)) 0 0 (va_A [(xm, .inr (20, [.int 0, .int 0, .ref kn, .int 0, .int 0, .int 0, .ref ml, .ref cl, .ref rg, .ref tr, .ref (aK 0), .ref (aK 0), .ref fl, .int 0, .int 0, .int 0, .int 0, .int 0, .int 0, .int 0, .null])), (ml, .inr (4, [.int 0, .ref e0, .int 0]))] sz) := by
  refine Met.ofW (cc := cX15_print) (maxL := 3) (ret := (some .long)) (by decide) rfl ?_
  intro p e s m args below meth c s₁ B hml hv
  obtain ⟨rfl, hsz, hP, hK, hD0, hN⟩ := hv
  have hx := B.exec
  have hb := B.bytes
  have hr := B.returns
  have hts := atoms_spec (ws := wsX15_print) B.pre
  have hown : s.vm.findClass RX15 = some m.cls := findClass_of_methodNamed B.named
  have hlocks := B.notSynchronized
  subst hsz
  have hD := hD0.self (sz := s.heap.size)
  generalize hAe : va_A [(xm, .inr (20, [.int 0, .int 0, .ref kn, .int 0, .int 0, .int 0, .ref ml, .ref cl, .ref rg, .ref tr, .ref (aK 0), .ref (aK 0), .ref fl, .int 0, .int 0, .int 0, .int 0, .int 0, .int 0, .int 0, .null])), (ml, .inr (4, [.int 0, .ref e0, .int 0]))] s.heap.size = A at hD ⊢
  have hA : ∀ q : Nat, s.heap.size ≤ q → A q := fun q h => by rw [← hAe]; exact Or.inr h
  have hS : va_S A s.heap s.heap [] := va_S.rf
  have hP : va_P (dC, dI) vwCl [(xm, .inr (20, [.int 0, .int 0, .ref kn, .int 0, .int 0, .int 0, .ref ml, .ref cl, .ref rg, .ref tr, .ref (aK 0), .ref (aK 0), .ref fl, .int 0, .int 0, .int 0, .int 0, .int 0, .int 0, .int 0, .null])), (ml, .inr (4, [.int 0, .ref e0, .int 0]))] s.heap := hP
  have hD : va_D A [(xm, .inr (20, [.int 0, .int 0, .ref kn, .int 0, .int 0, .int 0, .ref ml, .ref cl, .ref rg, .ref tr, .ref (aK 0), .ref (aK 0), .ref fl, .int 0, .int 0, .int 0, .int 0, .int 0, .int 0, .int 0, .null])), (ml, .inr (4, [.int 0, .ref e0, .int 0]))] := hD
  have hl := lv_entry ([.ref xm, .int p0]) (n := 3) (Nat.le_of_ble_eq_true rfl)
  rw [lg_entry_eq]
  generalize (lg_sl ([.ref xm, .int p0]) ++ List.replicate (3 - (lg_sl ([.ref xm, .int p0])).length) Slot.unset).toArray = ls at hl ⊢
  have hl : lv_has ls 3 [(0, .ref xm), (1, .int p0)] := hl
  refine lv_aload_n hx hb dX15_print_0 rfl (lv_at hl 0 rfl) ?_
  refine lv_iload_n hx hb dX15_print_1 rfl (lv_at hl 1 rfl) ?_
  refine lv_iconst (v := 2) hx hb dX15_print_2 (by decide) ?_
  have hPc := hP.sub (ws' := [(xm, .inr (20, [.int 0, .int 0, .ref kn, .int 0, .int 0, .int 0, .ref ml, .ref cl, .ref rg, .ref tr, .ref (aK 0), .ref (aK 0), .ref fl, .int 0, .int 0, .int 0, .int 0, .int 0, .int 0, .int 0, .null])), (ml, .inr (4, [.int 0, .ref e0, .int 0]))]) [0, 1] rfl
  have hDc := hD.sub (ws' := [(xm, .inr (20, [.int 0, .int 0, .ref kn, .int 0, .int 0, .int 0, .ref ml, .ref cl, .ref rg, .ref tr, .ref (aK 0), .ref (aK 0), .ref fl, .int 0, .int 0, .int 0, .int 0, .int 0, .int 0, .int 0, .null])), (ml, .inr (4, [.int 0, .ref e0, .int 0]))]) [0, 1] (by decide) rfl
  have hKc := hK.sub (tys' := []) [] rfl
  have hFc := va_free (wc := [(xm, .inr (20, [.int 0, .int 0, .ref kn, .int 0, .int 0, .int 0, .ref ml, .ref cl, .ref rg, .ref tr, .ref (aK 0), .ref (aK 0), .ref fl, .int 0, .int 0, .int 0, .int 0, .int 0, .int 0, .int 0, .null])), (ml, .inr (4, [.int 0, .ref e0, .int 0]))]) hD hS hA [0, 1] rfl
  refine va_callq (va_runV (As := [.int p0, .int 2]) (rest := []) ⟨hx, hb, hml, hown, hts⟩ (c_X15_lastOf l dC dI xm ml cl fl kn rg tr e0 aK aV p0 2 s.heap.size) (cwV 2 hts gX15_print_X15_lastOf rfl rfl rfl (by decide +kernel) ⟨Nat.le_of_ble_eq_true rfl, Nat.le_of_ble_eq_true rfl⟩) (pcV hPc hDc hKc hN (ci := 20) (q0 := 0) rfl rfl) rfl rfl hl.1 rfl (lv_room (Nat.le_of_ble_eq_true rfl)) dX15_print_3 ⟨Nat.le_of_ble_eq_true rfl, Nat.le_of_ble_eq_true rfl⟩) hS (fun q _ h => hFc q h) hFc (fun r_1 u t H1 locs ht hvm hw_2 hB hz1 hk1 hS => ?_)
  obtain ⟨hP1, hK1, hD1⟩ := hB
  rw [ht] at hP1
  try dsimp only at hw_2
  obtain ⟨hP, hD⟩ := va_join (wr := []) (w1 := [(xm, .inr (20, [.int 0, .int 0, .ref kn, .int 0, .int 0, .int 1, .ref ml, .ref cl, .ref rg, .ref tr, .ref (aK 0), .ref (aK 0), .ref fl, .int 0, .int 0, .int 0, .int 0, .int 0, .int 0, .int 0, .null])), (ml, .inr (4, [.int 0, .ref e0, .int 0]))]) hP hD [0, 1] [] rfl rfl (by decide) (by decide) hk1 hFc hP1 hD1
  generalize H1 = H at hP hS ⊢
  have hP : va_P (dC, dI) vwCl [(xm, .inr (20, [.int 0, .int 0, .ref kn, .int 0, .int 0, .int 1, .ref ml, .ref cl, .ref rg, .ref tr, .ref (aK 0), .ref (aK 0), .ref fl, .int 0, .int 0, .int 0, .int 0, .int 0, .int 0, .int 0, .null])), (ml, .inr (4, [.int 0, .ref e0, .int 0]))] H := hP
  have hD : va_D A [(xm, .inr (20, [.int 0, .int 0, .ref kn, .int 0, .int 0, .int 1, .ref ml, .ref cl, .ref rg, .ref tr, .ref (aK 0), .ref (aK 0), .ref fl, .int 0, .int 0, .int 0, .int 0, .int 0, .int 0, .int 0, .null])), (ml, .inr (4, [.int 0, .ref e0, .int 0]))] := hD
  subst hw_2
  refine lv_astore_nN (lv' := [(2, .null), (0, .ref xm), (1, .int p0)]) hx hb dX15_print_6 rfl hl (by decide) rfl (fun ls hl => ?_)
  refine lv_aload_nN hx hb dX15_print_7 rfl (lv_at hl 0 rfl) ?_
  refine lv_ifnonnullN hx hb dX15_print_8 ?_
  refine lv_lconst (v := 0) hx hb dX15_print_11 (by decide) ?_
  refine lv_goto (tgt := 19) hx hb dX15_print_12 (by decide) ?_
  have hP9 := hP.sub (ws' := [(xm, .inr (20, [.int 0, .int 0, .ref kn, .int 0, .int 0, .int 1, .ref ml, .ref cl, .ref rg, .ref tr, .ref (aK 0), .ref (aK 0), .ref fl, .int 0, .int 0, .int 0, .int 0, .int 0, .int 0, .int 0, .null]))]) [0] rfl
  have hD9 := hD.sub (ws' := [(xm, .inr (20, [.int 0, .int 0, .ref kn, .int 0, .int 0, .int 1, .ref ml, .ref cl, .ref rg, .ref tr, .ref (aK 0), .ref (aK 0), .ref fl, .int 0, .int 0, .int 0, .int 0, .int 0, .int 0, .int 0, .null]))]) [0] (by decide) rfl
  have hK9 := hK.sub (tys' := []) [] rfl
  exact W.lret (v := 0) hx hb hr (fun t ht hW => ⟨⟨0, [.int 0, .int 0, .ref kn, .int 0, .int 0, .int 1, .ref ml, .ref cl, .ref rg, .ref tr, .ref (aK 0), .ref (aK 0), .ref fl, .int 0, .int 0, .int 0, .int 0, .int 0, .int 0, .int 0, .null], rfl, rfl, ⟨by rw [ht]; exact hP9, va_K.moved hW.alike hK9, hD9⟩⟩, hS.F ht⟩) hS.2.2 dX15_print_19

set_option maxHeartbeats 4000000 in
set_option maxRecDepth 100000 in
/-- X15_runsOf -/
theorem c_X15_runsOf (l : Launch) (dC : Nat → ClassId) (dI : Nat → Nat → Nat) (xm ml cl fl kn rg tr : Nat) (e0 : Nat) (aK aV : Nat → Nat) (p0 : Int32) (sz : Nat) : Met l yX15_runsOf wsX15_runsOf ({ frames := 3, cells := 0, slots := 0, locals := 90 }) (va_Pc [.ref xm, .int p0] (cPC dC dI [(xm, .inr (20, [.int 0, .int 0, .ref kn, .int 0, .int 0, .int 0, .ref ml, .ref cl, .ref rg, .ref tr, .ref (aK 0), .ref (aK 0), .ref fl, .int 0, .int 0, .int 0, .int 0, .int 0, .int 0, .int 0, .null])), (ml, .inr (4, [.int 0, .ref e0, .int 0]))] [] sz)) (va_Qi (fun (r : Int32) (u : List Value) => u[5]? = some (.int 1)) (fun (u : List Value) t => cQB dC dI [(xm, .inr (20, u))] [] (va_A [(xm, .inr (20, [.int 0, .int 0, .ref kn, .int 0, .int 0, .int 0, .ref ml, .ref cl, .ref rg, .ref tr, .ref (aK 0), .ref (aK 0), .ref fl, .int 0, .int 0, .int 0, .int 0, .int 0, .int 0, .int 0, .null])), (ml, .inr (4, [.int 0, .ref e0, .int 0]))] sz) t) (va_A [(xm, .inr (20, [.int 0, .int 0, .ref kn, .int 0, .int 0, .int 0, .ref ml, .ref cl, .ref rg, .ref tr, .ref (aK 0), .ref (aK 0), .ref fl, .int 0, .int 0, .int 0, .int 0, .int 0, .int 0, .int 0, .null])), (ml, .inr (4, [.int 0, .ref e0, .int 0]))] sz)) 0 0 (va_A [(xm, .inr (20, [.int 0, .int 0, .ref kn, .int 0, .int 0, .int 0, .ref ml, .ref cl, .ref rg, .ref tr, .ref (aK 0), .ref (aK 0), .ref fl, .int 0, .int 0, .int 0, .int 0, .int 0, .int 0, .int 0, .null])), (ml, .inr (4, [.int 0, .ref e0, .int 0]))] sz) := by
  refine Met.ofW (cc := cX15_runsOf) (maxL := 3) (ret := (some .int)) (by decide) rfl ?_
  intro p e s m args below meth c s₁ B hml hv
  obtain ⟨rfl, hsz, hP, hK, hD0, hN⟩ := hv
  have hx := B.exec
  have hb := B.bytes
  have hr := B.returns
  have hts := atoms_spec (ws := wsX15_runsOf) B.pre
  have hown : s.vm.findClass RX15 = some m.cls := findClass_of_methodNamed B.named
  have hlocks := B.notSynchronized
  subst hsz
  have hD := hD0.self (sz := s.heap.size)
  generalize hAe : va_A [(xm, .inr (20, [.int 0, .int 0, .ref kn, .int 0, .int 0, .int 0, .ref ml, .ref cl, .ref rg, .ref tr, .ref (aK 0), .ref (aK 0), .ref fl, .int 0, .int 0, .int 0, .int 0, .int 0, .int 0, .int 0, .null])), (ml, .inr (4, [.int 0, .ref e0, .int 0]))] s.heap.size = A at hD ⊢
  have hA : ∀ q : Nat, s.heap.size ≤ q → A q := fun q h => by rw [← hAe]; exact Or.inr h
  have hS : va_S A s.heap s.heap [] := va_S.rf
  have hP : va_P (dC, dI) vwCl [(xm, .inr (20, [.int 0, .int 0, .ref kn, .int 0, .int 0, .int 0, .ref ml, .ref cl, .ref rg, .ref tr, .ref (aK 0), .ref (aK 0), .ref fl, .int 0, .int 0, .int 0, .int 0, .int 0, .int 0, .int 0, .null])), (ml, .inr (4, [.int 0, .ref e0, .int 0]))] s.heap := hP
  have hD : va_D A [(xm, .inr (20, [.int 0, .int 0, .ref kn, .int 0, .int 0, .int 0, .ref ml, .ref cl, .ref rg, .ref tr, .ref (aK 0), .ref (aK 0), .ref fl, .int 0, .int 0, .int 0, .int 0, .int 0, .int 0, .int 0, .null])), (ml, .inr (4, [.int 0, .ref e0, .int 0]))] := hD
  have hl := lv_entry ([.ref xm, .int p0]) (n := 3) (Nat.le_of_ble_eq_true rfl)
  rw [lg_entry_eq]
  generalize (lg_sl ([.ref xm, .int p0]) ++ List.replicate (3 - (lg_sl ([.ref xm, .int p0])).length) Slot.unset).toArray = ls at hl ⊢
  have hl : lv_has ls 3 [(0, .ref xm), (1, .int p0)] := hl
  refine lv_aload_n hx hb dX15_runsOf_0 rfl (lv_at hl 0 rfl) ?_
  refine lv_iload_n hx hb dX15_runsOf_1 rfl (lv_at hl 1 rfl) ?_
  refine lv_iconst (v := 2) hx hb dX15_runsOf_2 (by decide) ?_
  have hPc := hP.sub (ws' := [(xm, .inr (20, [.int 0, .int 0, .ref kn, .int 0, .int 0, .int 0, .ref ml, .ref cl, .ref rg, .ref tr, .ref (aK 0), .ref (aK 0), .ref fl, .int 0, .int 0, .int 0, .int 0, .int 0, .int 0, .int 0, .null])), (ml, .inr (4, [.int 0, .ref e0, .int 0]))]) [0, 1] rfl
  have hDc := hD.sub (ws' := [(xm, .inr (20, [.int 0, .int 0, .ref kn, .int 0, .int 0, .int 0, .ref ml, .ref cl, .ref rg, .ref tr, .ref (aK 0), .ref (aK 0), .ref fl, .int 0, .int 0, .int 0, .int 0, .int 0, .int 0, .int 0, .null])), (ml, .inr (4, [.int 0, .ref e0, .int 0]))]) [0, 1] (by decide) rfl
  have hKc := hK.sub (tys' := []) [] rfl
  have hFc := va_free (wc := [(xm, .inr (20, [.int 0, .int 0, .ref kn, .int 0, .int 0, .int 0, .ref ml, .ref cl, .ref rg, .ref tr, .ref (aK 0), .ref (aK 0), .ref fl, .int 0, .int 0, .int 0, .int 0, .int 0, .int 0, .int 0, .null])), (ml, .inr (4, [.int 0, .ref e0, .int 0]))]) hD hS hA [0, 1] rfl
  refine va_callq (va_runV (As := [.int p0, .int 2]) (rest := []) ⟨hx, hb, hml, hown, hts⟩ (c_X15_lastOf l dC dI xm ml cl fl kn rg tr e0 aK aV p0 2 s.heap.size) (cwV 2 hts gX15_runsOf_X15_lastOf rfl rfl rfl (by decide +kernel) ⟨Nat.le_of_ble_eq_true rfl, Nat.le_of_ble_eq_true rfl⟩) (pcV hPc hDc hKc hN (ci := 20) (q0 := 0) rfl rfl) rfl rfl hl.1 rfl (lv_room (Nat.le_of_ble_eq_true rfl)) dX15_runsOf_3 ⟨Nat.le_of_ble_eq_true rfl, Nat.le_of_ble_eq_true rfl⟩) hS (fun q _ h => hFc q h) hFc (fun r_1 u t H1 locs ht hvm hw_2 hB hz1 hk1 hS => ?_)
  obtain ⟨hP1, hK1, hD1⟩ := hB
  rw [ht] at hP1
  try dsimp only at hw_2
  obtain ⟨hP, hD⟩ := va_join (wr := []) (w1 := [(xm, .inr (20, [.int 0, .int 0, .ref kn, .int 0, .int 0, .int 1, .ref ml, .ref cl, .ref rg, .ref tr, .ref (aK 0), .ref (aK 0), .ref fl, .int 0, .int 0, .int 0, .int 0, .int 0, .int 0, .int 0, .null])), (ml, .inr (4, [.int 0, .ref e0, .int 0]))]) hP hD [0, 1] [] rfl rfl (by decide) (by decide) hk1 hFc hP1 hD1
  generalize H1 = H at hP hS ⊢
  have hP : va_P (dC, dI) vwCl [(xm, .inr (20, [.int 0, .int 0, .ref kn, .int 0, .int 0, .int 1, .ref ml, .ref cl, .ref rg, .ref tr, .ref (aK 0), .ref (aK 0), .ref fl, .int 0, .int 0, .int 0, .int 0, .int 0, .int 0, .int 0, .null])), (ml, .inr (4, [.int 0, .ref e0, .int 0]))] H := hP
  have hD : va_D A [(xm, .inr (20, [.int 0, .int 0, .ref kn, .int 0, .int 0, .int 1, .ref ml, .ref cl, .ref rg, .ref tr, .ref (aK 0), .ref (aK 0), .ref fl, .int 0, .int 0, .int 0, .int 0, .int 0, .int 0, .int 0, .null])), (ml, .inr (4, [.int 0, .ref e0, .int 0]))] := hD
  subst hw_2
  refine lv_astore_nN (lv' := [(2, .null), (0, .ref xm), (1, .int p0)]) hx hb dX15_runsOf_6 rfl hl (by decide) rfl (fun ls hl => ?_)
  refine lv_aload_nN hx hb dX15_runsOf_7 rfl (lv_at hl 0 rfl) ?_
  refine lv_ifnonnullN hx hb dX15_runsOf_8 ?_
  refine lv_iconst (v := 0) hx hb dX15_runsOf_11 (by decide) ?_
  refine lv_goto (tgt := 19) hx hb dX15_runsOf_12 (by decide) ?_
  have hP9 := hP.sub (ws' := [(xm, .inr (20, [.int 0, .int 0, .ref kn, .int 0, .int 0, .int 1, .ref ml, .ref cl, .ref rg, .ref tr, .ref (aK 0), .ref (aK 0), .ref fl, .int 0, .int 0, .int 0, .int 0, .int 0, .int 0, .int 0, .null]))]) [0] rfl
  have hD9 := hD.sub (ws' := [(xm, .inr (20, [.int 0, .int 0, .ref kn, .int 0, .int 0, .int 1, .ref ml, .ref cl, .ref rg, .ref tr, .ref (aK 0), .ref (aK 0), .ref fl, .int 0, .int 0, .int 0, .int 0, .int 0, .int 0, .int 0, .null]))]) [0] (by decide) rfl
  have hK9 := hK.sub (tys' := []) [] rfl
  exact W.iret (v := 0) hx hb hr (fun t ht hW => ⟨⟨0, [.int 0, .int 0, .ref kn, .int 0, .int 0, .int 1, .ref ml, .ref cl, .ref rg, .ref tr, .ref (aK 0), .ref (aK 0), .ref fl, .int 0, .int 0, .int 0, .int 0, .int 0, .int 0, .int 0, .null], rfl, rfl, ⟨by rw [ht]; exact hP9, va_K.moved hW.alike hK9, hD9⟩⟩, hS.F ht⟩) hS.2.2 dX15_runsOf_19

set_option maxHeartbeats 4000000 in
set_option maxRecDepth 100000 in
/-- X15_walked -/
theorem c_X15_walked (l : Launch) (dC : Nat → ClassId) (dI : Nat → Nat → Nat) (xm ml cl fl kn rg tr : Nat) (e0 : Nat) (aK aV : Nat → Nat) (sz : Nat) : Met l yX15_walked wsX15_walked ({ frames := 0, cells := 0, slots := 0, locals := 0 }) (va_Pc [.ref xm] (cPC dC dI [(xm, .inr (20, [.int 0, .int 0, .ref kn, .int 0, .int 0, .int 0, .ref ml, .ref cl, .ref rg, .ref tr, .ref (aK 0), .ref (aK 0), .ref fl, .int 0, .int 0, .int 0, .int 0, .int 0, .int 0, .int 0, .null]))] [] sz)) (va_Qi (fun (r : Int32) (u : List Value) => u[5]? = some (.int 0) ∧ r = 0) (fun (u : List Value) t => cQB dC dI [(xm, .inr (20, u))] [] (va_A [(xm, .inr (20, [.int 0, .int 0, .ref kn, .int 0, .int 0, .int 0, .ref ml, .ref cl, .ref rg, .ref tr, .ref (aK 0), .ref (aK 0), .ref fl, .int 0, .int 0, .int 0, .int 0, .int 0, .int 0, .int 0, .null]))] sz) t) (va_A [(xm, .inr (20, [.int 0, .int 0, .ref kn, .int 0, .int 0, .int 0, .ref ml, .ref cl, .ref rg, .ref tr, .ref (aK 0), .ref (aK 0), .ref fl, .int 0, .int 0, .int 0, .int 0, .int 0, .int 0, .int 0, .null]))] sz)) 0 0 (va_A [(xm, .inr (20, [.int 0, .int 0, .ref kn, .int 0, .int 0, .int 0, .ref ml, .ref cl, .ref rg, .ref tr, .ref (aK 0), .ref (aK 0), .ref fl, .int 0, .int 0, .int 0, .int 0, .int 0, .int 0, .int 0, .null]))] sz) := by
  refine Met.ofW (cc := cX15_walked) (maxL := 1) (ret := (some .int)) (by decide) rfl ?_
  intro p e s m args below meth c s₁ B hml hv
  obtain ⟨rfl, hsz, hP, hK, hD0, hN⟩ := hv
  have hx := B.exec
  have hb := B.bytes
  have hr := B.returns
  have hts := atoms_spec (ws := wsX15_walked) B.pre
  have hown : s.vm.findClass RX15 = some m.cls := findClass_of_methodNamed B.named
  have hlocks := B.notSynchronized
  subst hsz
  have hD := hD0.self (sz := s.heap.size)
  generalize hAe : va_A [(xm, .inr (20, [.int 0, .int 0, .ref kn, .int 0, .int 0, .int 0, .ref ml, .ref cl, .ref rg, .ref tr, .ref (aK 0), .ref (aK 0), .ref fl, .int 0, .int 0, .int 0, .int 0, .int 0, .int 0, .int 0, .null]))] s.heap.size = A at hD ⊢
  have hA : ∀ q : Nat, s.heap.size ≤ q → A q := fun q h => by rw [← hAe]; exact Or.inr h
  have hS : va_S A s.heap s.heap [] := va_S.rf
  have hP : va_P (dC, dI) vwCl [(xm, .inr (20, [.int 0, .int 0, .ref kn, .int 0, .int 0, .int 0, .ref ml, .ref cl, .ref rg, .ref tr, .ref (aK 0), .ref (aK 0), .ref fl, .int 0, .int 0, .int 0, .int 0, .int 0, .int 0, .int 0, .null]))] s.heap := hP
  have hD : va_D A [(xm, .inr (20, [.int 0, .int 0, .ref kn, .int 0, .int 0, .int 0, .ref ml, .ref cl, .ref rg, .ref tr, .ref (aK 0), .ref (aK 0), .ref fl, .int 0, .int 0, .int 0, .int 0, .int 0, .int 0, .int 0, .null]))] := hD
  have hl := lv_entry ([.ref xm]) (n := 1) (Nat.le_of_ble_eq_true rfl)
  rw [lg_entry_eq]
  generalize (lg_sl ([.ref xm]) ++ List.replicate (1 - (lg_sl ([.ref xm])).length) Slot.unset).toArray = ls at hl ⊢
  have hl : lv_has ls 1 [(0, .ref xm)] := hl
  have iWX15 : ∀ w ∈ u_ws RX15 TX15 21, w ∈ wsX15_walked := by decide +kernel
  refine lv_aload_n hx hb dX15_walked_0 rfl (lv_at hl 0 rfl) ?_
  refine lv_iconst (v := 0) hx hb dX15_walked_1 (by decide) ?_
  refine va_put (D := (dC, dI)) (ci := 20) (v := .int 0) (ty := .int) (C := RX15) (T := TX15) (N := 21) hx hb hts iWX15 tyX15 tyX15_ok nmX15 hown hK hP hD hS 0 rfl rfl 5 (by decide) (hts (.fieldLink RX15 209 "BeaverhallModel" "thrown" "I") (by decide +kernel)) (fun _ h9 => h9) rfl (by decide +kernel) rfl rfl (Nat.le_of_ble_eq_true rfl) dX15_walked_2 (fun H locs hP hD hS => ?_)
  have hP : va_P (dC, dI) vwCl [(xm, .inr (20, [.int 0, .int 0, .ref kn, .int 0, .int 0, .int 0, .ref ml, .ref cl, .ref rg, .ref tr, .ref (aK 0), .ref (aK 0), .ref fl, .int 0, .int 0, .int 0, .int 0, .int 0, .int 0, .int 0, .null]))] H := hP
  have hD : va_D A [(xm, .inr (20, [.int 0, .int 0, .ref kn, .int 0, .int 0, .int 0, .ref ml, .ref cl, .ref rg, .ref tr, .ref (aK 0), .ref (aK 0), .ref fl, .int 0, .int 0, .int 0, .int 0, .int 0, .int 0, .int 0, .null]))] := hD
  refine lv_aload_n hx hb dX15_walked_5 rfl (lv_at hl 0 rfl) ?_
  refine va_get (D := (dC, dI)) (ci := 20) (v := .int 0) (C := RX15) (T := TX15) (N := 21) hx hb hts iWX15 hown hK hP 0 rfl rfl 13 (by decide) (hts (.fieldLink RX15 406 "BeaverhallModel" "walked" "I") (by decide +kernel)) (fun _ h9 => h9) rfl dX15_walked_6 ?_
  have hP9 := hP.sub (ws' := [(xm, .inr (20, [.int 0, .int 0, .ref kn, .int 0, .int 0, .int 0, .ref ml, .ref cl, .ref rg, .ref tr, .ref (aK 0), .ref (aK 0), .ref fl, .int 0, .int 0, .int 0, .int 0, .int 0, .int 0, .int 0, .null]))]) [0] rfl
  have hD9 := hD.sub (ws' := [(xm, .inr (20, [.int 0, .int 0, .ref kn, .int 0, .int 0, .int 0, .ref ml, .ref cl, .ref rg, .ref tr, .ref (aK 0), .ref (aK 0), .ref fl, .int 0, .int 0, .int 0, .int 0, .int 0, .int 0, .int 0, .null]))]) [0] (by decide) rfl
  have hK9 := hK.sub (tys' := []) [] rfl
  exact W.iret (v := 0) hx hb hr (fun t ht hW => ⟨⟨0, [.int 0, .int 0, .ref kn, .int 0, .int 0, .int 0, .ref ml, .ref cl, .ref rg, .ref tr, .ref (aK 0), .ref (aK 0), .ref fl, .int 0, .int 0, .int 0, .int 0, .int 0, .int 0, .int 0, .null], rfl, ⟨rfl, rfl⟩, ⟨by rw [ht]; exact hP9, va_K.moved hW.alike hK9, hD9⟩⟩, hS.F ht⟩) hS.2.2 dX15_walked_9

set_option maxHeartbeats 4000000 in
set_option maxRecDepth 100000 in
/-- X15_hasWalked -/
theorem c_X15_hasWalked (l : Launch) (dC : Nat → ClassId) (dI : Nat → Nat → Nat) (xm ml cl fl kn rg tr : Nat) (e0 : Nat) (aK aV : Nat → Nat) (sz : Nat) : Met l yX15_hasWalked wsX15_hasWalked ({ frames := 0, cells := 0, slots := 0, locals := 0 }) (va_Pc [.ref xm] (cPC dC dI [(xm, .inr (20, [.int 0, .int 0, .ref kn, .int 0, .int 0, .int 0, .ref ml, .ref cl, .ref rg, .ref tr, .ref (aK 0), .ref (aK 0), .ref fl, .int 0, .int 0, .int 0, .int 0, .int 0, .int 0, .int 0, .null]))] [] sz)) (va_Qi (fun (r : Int32) (u : List Value) => u[5]? = some (.int 0) ∧ r = 0) (fun (u : List Value) t => cQB dC dI [(xm, .inr (20, u))] [] (va_A [(xm, .inr (20, [.int 0, .int 0, .ref kn, .int 0, .int 0, .int 0, .ref ml, .ref cl, .ref rg, .ref tr, .ref (aK 0), .ref (aK 0), .ref fl, .int 0, .int 0, .int 0, .int 0, .int 0, .int 0, .int 0, .null]))] sz) t) (va_A [(xm, .inr (20, [.int 0, .int 0, .ref kn, .int 0, .int 0, .int 0, .ref ml, .ref cl, .ref rg, .ref tr, .ref (aK 0), .ref (aK 0), .ref fl, .int 0, .int 0, .int 0, .int 0, .int 0, .int 0, .int 0, .null]))] sz)) 0 0 (va_A [(xm, .inr (20, [.int 0, .int 0, .ref kn, .int 0, .int 0, .int 0, .ref ml, .ref cl, .ref rg, .ref tr, .ref (aK 0), .ref (aK 0), .ref fl, .int 0, .int 0, .int 0, .int 0, .int 0, .int 0, .int 0, .null]))] sz) := by
  refine Met.ofW (cc := cX15_hasWalked) (maxL := 1) (ret := (some .boolean)) (by decide) rfl ?_
  intro p e s m args below meth c s₁ B hml hv
  obtain ⟨rfl, hsz, hP, hK, hD0, hN⟩ := hv
  have hx := B.exec
  have hb := B.bytes
  have hr := B.returns
  have hts := atoms_spec (ws := wsX15_hasWalked) B.pre
  have hown : s.vm.findClass RX15 = some m.cls := findClass_of_methodNamed B.named
  have hlocks := B.notSynchronized
  subst hsz
  have hD := hD0.self (sz := s.heap.size)
  generalize hAe : va_A [(xm, .inr (20, [.int 0, .int 0, .ref kn, .int 0, .int 0, .int 0, .ref ml, .ref cl, .ref rg, .ref tr, .ref (aK 0), .ref (aK 0), .ref fl, .int 0, .int 0, .int 0, .int 0, .int 0, .int 0, .int 0, .null]))] s.heap.size = A at hD ⊢
  have hA : ∀ q : Nat, s.heap.size ≤ q → A q := fun q h => by rw [← hAe]; exact Or.inr h
  have hS : va_S A s.heap s.heap [] := va_S.rf
  have hP : va_P (dC, dI) vwCl [(xm, .inr (20, [.int 0, .int 0, .ref kn, .int 0, .int 0, .int 0, .ref ml, .ref cl, .ref rg, .ref tr, .ref (aK 0), .ref (aK 0), .ref fl, .int 0, .int 0, .int 0, .int 0, .int 0, .int 0, .int 0, .null]))] s.heap := hP
  have hD : va_D A [(xm, .inr (20, [.int 0, .int 0, .ref kn, .int 0, .int 0, .int 0, .ref ml, .ref cl, .ref rg, .ref tr, .ref (aK 0), .ref (aK 0), .ref fl, .int 0, .int 0, .int 0, .int 0, .int 0, .int 0, .int 0, .null]))] := hD
  have hl := lv_entry ([.ref xm]) (n := 1) (Nat.le_of_ble_eq_true rfl)
  rw [lg_entry_eq]
  generalize (lg_sl ([.ref xm]) ++ List.replicate (1 - (lg_sl ([.ref xm])).length) Slot.unset).toArray = ls at hl ⊢
  have hl : lv_has ls 1 [(0, .ref xm)] := hl
  have iWX15 : ∀ w ∈ u_ws RX15 TX15 21, w ∈ wsX15_hasWalked := by decide +kernel
  refine lv_aload_n hx hb dX15_hasWalked_0 rfl (lv_at hl 0 rfl) ?_
  refine lv_iconst (v := 0) hx hb dX15_hasWalked_1 (by decide) ?_
  refine va_put (D := (dC, dI)) (ci := 20) (v := .int 0) (ty := .int) (C := RX15) (T := TX15) (N := 21) hx hb hts iWX15 tyX15 tyX15_ok nmX15 hown hK hP hD hS 0 rfl rfl 5 (by decide) (hts (.fieldLink RX15 209 "BeaverhallModel" "thrown" "I") (by decide +kernel)) (fun _ h9 => h9) rfl (by decide +kernel) rfl rfl (Nat.le_of_ble_eq_true rfl) dX15_hasWalked_2 (fun H locs hP hD hS => ?_)
  have hP : va_P (dC, dI) vwCl [(xm, .inr (20, [.int 0, .int 0, .ref kn, .int 0, .int 0, .int 0, .ref ml, .ref cl, .ref rg, .ref tr, .ref (aK 0), .ref (aK 0), .ref fl, .int 0, .int 0, .int 0, .int 0, .int 0, .int 0, .int 0, .null]))] H := hP
  have hD : va_D A [(xm, .inr (20, [.int 0, .int 0, .ref kn, .int 0, .int 0, .int 0, .ref ml, .ref cl, .ref rg, .ref tr, .ref (aK 0), .ref (aK 0), .ref fl, .int 0, .int 0, .int 0, .int 0, .int 0, .int 0, .int 0, .null]))] := hD
  refine lv_aload_n hx hb dX15_hasWalked_5 rfl (lv_at hl 0 rfl) ?_
  refine va_get (D := (dC, dI)) (ci := 20) (v := .int 0) (C := RX15) (T := TX15) (N := 21) hx hb hts iWX15 hown hK hP 0 rfl rfl 14 (by decide) (hts (.fieldLink RX15 415 "BeaverhallModel" "hasWalked" "Z") (by decide +kernel)) (fun _ h9 => h9) rfl dX15_hasWalked_6 ?_
  have hP9 := hP.sub (ws' := [(xm, .inr (20, [.int 0, .int 0, .ref kn, .int 0, .int 0, .int 0, .ref ml, .ref cl, .ref rg, .ref tr, .ref (aK 0), .ref (aK 0), .ref fl, .int 0, .int 0, .int 0, .int 0, .int 0, .int 0, .int 0, .null]))]) [0] rfl
  have hD9 := hD.sub (ws' := [(xm, .inr (20, [.int 0, .int 0, .ref kn, .int 0, .int 0, .int 0, .ref ml, .ref cl, .ref rg, .ref tr, .ref (aK 0), .ref (aK 0), .ref fl, .int 0, .int 0, .int 0, .int 0, .int 0, .int 0, .int 0, .null]))]) [0] (by decide) rfl
  have hK9 := hK.sub (tys' := []) [] rfl
  exact W.zret (v := 0) hx hb hr (by rfl) (fun t ht hW => ⟨⟨0, [.int 0, .int 0, .ref kn, .int 0, .int 0, .int 0, .ref ml, .ref cl, .ref rg, .ref tr, .ref (aK 0), .ref (aK 0), .ref fl, .int 0, .int 0, .int 0, .int 0, .int 0, .int 0, .int 0, .null], rfl, ⟨rfl, rfl⟩, ⟨by rw [ht]; exact hP9, va_K.moved hW.alike hK9, hD9⟩⟩, hS.F ht⟩) hS.2.2 dX15_hasWalked_9

set_option maxHeartbeats 4000000 in
set_option maxRecDepth 100000 in
/-- X15_isSound -/
theorem c_X15_isSound (l : Launch) (dC : Nat → ClassId) (dI : Nat → Nat → Nat) (xm ml cl fl kn rg tr : Nat) (e0 : Nat) (aK aV : Nat → Nat) (sz : Nat) : Met l yX15_isSound wsX15_isSound ({ frames := 0, cells := 0, slots := 0, locals := 0 }) (va_Pc [.ref xm] (cPC dC dI [(xm, .inr (20, [.int 0, .int 0, .ref kn, .int 0, .int 0, .int 0, .ref ml, .ref cl, .ref rg, .ref tr, .ref (aK 0), .ref (aK 0), .ref fl, .int 0, .int 0, .int 0, .int 0, .int 0, .int 0, .int 0, .null]))] [] sz)) (va_Qi (fun (r : Int32) (u : List Value) => u[5]? = some (.int 0) ∧ r = 1) (fun (u : List Value) t => cQB dC dI [(xm, .inr (20, u))] [] (va_A [(xm, .inr (20, [.int 0, .int 0, .ref kn, .int 0, .int 0, .int 0, .ref ml, .ref cl, .ref rg, .ref tr, .ref (aK 0), .ref (aK 0), .ref fl, .int 0, .int 0, .int 0, .int 0, .int 0, .int 0, .int 0, .null]))] sz) t) (va_A [(xm, .inr (20, [.int 0, .int 0, .ref kn, .int 0, .int 0, .int 0, .ref ml, .ref cl, .ref rg, .ref tr, .ref (aK 0), .ref (aK 0), .ref fl, .int 0, .int 0, .int 0, .int 0, .int 0, .int 0, .int 0, .null]))] sz)) 0 0 (va_A [(xm, .inr (20, [.int 0, .int 0, .ref kn, .int 0, .int 0, .int 0, .ref ml, .ref cl, .ref rg, .ref tr, .ref (aK 0), .ref (aK 0), .ref fl, .int 0, .int 0, .int 0, .int 0, .int 0, .int 0, .int 0, .null]))] sz) := by
  refine Met.ofW (cc := cX15_isSound) (maxL := 1) (ret := (some .boolean)) (by decide) rfl ?_
  intro p e s m args below meth c s₁ B hml hv
  obtain ⟨rfl, hsz, hP, hK, hD0, hN⟩ := hv
  have hx := B.exec
  have hb := B.bytes
  have hr := B.returns
  have hts := atoms_spec (ws := wsX15_isSound) B.pre
  have hown : s.vm.findClass RX15 = some m.cls := findClass_of_methodNamed B.named
  have hlocks := B.notSynchronized
  subst hsz
  have hD := hD0.self (sz := s.heap.size)
  generalize hAe : va_A [(xm, .inr (20, [.int 0, .int 0, .ref kn, .int 0, .int 0, .int 0, .ref ml, .ref cl, .ref rg, .ref tr, .ref (aK 0), .ref (aK 0), .ref fl, .int 0, .int 0, .int 0, .int 0, .int 0, .int 0, .int 0, .null]))] s.heap.size = A at hD ⊢
  have hA : ∀ q : Nat, s.heap.size ≤ q → A q := fun q h => by rw [← hAe]; exact Or.inr h
  have hS : va_S A s.heap s.heap [] := va_S.rf
  have hP : va_P (dC, dI) vwCl [(xm, .inr (20, [.int 0, .int 0, .ref kn, .int 0, .int 0, .int 0, .ref ml, .ref cl, .ref rg, .ref tr, .ref (aK 0), .ref (aK 0), .ref fl, .int 0, .int 0, .int 0, .int 0, .int 0, .int 0, .int 0, .null]))] s.heap := hP
  have hD : va_D A [(xm, .inr (20, [.int 0, .int 0, .ref kn, .int 0, .int 0, .int 0, .ref ml, .ref cl, .ref rg, .ref tr, .ref (aK 0), .ref (aK 0), .ref fl, .int 0, .int 0, .int 0, .int 0, .int 0, .int 0, .int 0, .null]))] := hD
  have hl := lv_entry ([.ref xm]) (n := 1) (Nat.le_of_ble_eq_true rfl)
  rw [lg_entry_eq]
  generalize (lg_sl ([.ref xm]) ++ List.replicate (1 - (lg_sl ([.ref xm])).length) Slot.unset).toArray = ls at hl ⊢
  have hl : lv_has ls 1 [(0, .ref xm)] := hl
  have iWX15 : ∀ w ∈ u_ws RX15 TX15 21, w ∈ wsX15_isSound := by decide +kernel
  refine lv_aload_n hx hb dX15_isSound_0 rfl (lv_at hl 0 rfl) ?_
  refine lv_iconst (v := 0) hx hb dX15_isSound_1 (by decide) ?_
  refine va_put (D := (dC, dI)) (ci := 20) (v := .int 0) (ty := .int) (C := RX15) (T := TX15) (N := 21) hx hb hts iWX15 tyX15 tyX15_ok nmX15 hown hK hP hD hS 0 rfl rfl 5 (by decide) (hts (.fieldLink RX15 209 "BeaverhallModel" "thrown" "I") (by decide +kernel)) (fun _ h9 => h9) rfl (by decide +kernel) rfl rfl (Nat.le_of_ble_eq_true rfl) dX15_isSound_2 (fun H locs hP hD hS => ?_)
  have hP : va_P (dC, dI) vwCl [(xm, .inr (20, [.int 0, .int 0, .ref kn, .int 0, .int 0, .int 0, .ref ml, .ref cl, .ref rg, .ref tr, .ref (aK 0), .ref (aK 0), .ref fl, .int 0, .int 0, .int 0, .int 0, .int 0, .int 0, .int 0, .null]))] H := hP
  have hD : va_D A [(xm, .inr (20, [.int 0, .int 0, .ref kn, .int 0, .int 0, .int 0, .ref ml, .ref cl, .ref rg, .ref tr, .ref (aK 0), .ref (aK 0), .ref fl, .int 0, .int 0, .int 0, .int 0, .int 0, .int 0, .int 0, .null]))] := hD
  refine lv_iconst (v := 1) hx hb dX15_isSound_5 (by decide) ?_
  have hP9 := hP.sub (ws' := [(xm, .inr (20, [.int 0, .int 0, .ref kn, .int 0, .int 0, .int 0, .ref ml, .ref cl, .ref rg, .ref tr, .ref (aK 0), .ref (aK 0), .ref fl, .int 0, .int 0, .int 0, .int 0, .int 0, .int 0, .int 0, .null]))]) [0] rfl
  have hD9 := hD.sub (ws' := [(xm, .inr (20, [.int 0, .int 0, .ref kn, .int 0, .int 0, .int 0, .ref ml, .ref cl, .ref rg, .ref tr, .ref (aK 0), .ref (aK 0), .ref fl, .int 0, .int 0, .int 0, .int 0, .int 0, .int 0, .int 0, .null]))]) [0] (by decide) rfl
  have hK9 := hK.sub (tys' := []) [] rfl
  exact W.zret (v := 1) hx hb hr (by rfl) (fun t ht hW => ⟨⟨1, [.int 0, .int 0, .ref kn, .int 0, .int 0, .int 0, .ref ml, .ref cl, .ref rg, .ref tr, .ref (aK 0), .ref (aK 0), .ref fl, .int 0, .int 0, .int 0, .int 0, .int 0, .int 0, .int 0, .null], rfl, ⟨rfl, rfl⟩, ⟨by rw [ht]; exact hP9, va_K.moved hW.alike hK9, hD9⟩⟩, hS.F ht⟩) hS.2.2 dX15_isSound_6

set_option maxHeartbeats 4000000 in
set_option maxRecDepth 100000 in
/-- X15_uncount -/
theorem c_X15_uncount (l : Launch) (dC : Nat → ClassId) (dI : Nat → Nat → Nat) (xm ml cl fl kn rg tr : Nat) (e0 : Nat) (aK aV : Nat → Nat) (sz : Nat) : Met l yX15_uncount wsX15_uncount ({ frames := 1, cells := 0, slots := 0, locals := 27 }) (va_Pc [.ref xm] (cPCz (zM e0 aK aV) dC dI [(xm, .inr (20, [.int 0, .int 0, .ref kn, .int 0, .int 0, .int 0, .ref ml, .ref cl, .ref rg, .ref tr, .ref (aK 0), .ref (aK 0), .ref fl, .int 0, .int 0, .int 0, .int 0, .int 0, .int 0, .int 0, .null])), (cl, .inr (4, [.int 0, .ref e0, .int 0]))] [] sz)) (va_Qi (fun (r : Int32) (u : List Value) => u[5]? = some (.int 0) ∧ r = 0) (fun (u : List Value) t => cQB dC dI [(xm, .inr (20, u))] [] (va_A [(xm, .inr (20, [.int 0, .int 0, .ref kn, .int 0, .int 0, .int 0, .ref ml, .ref cl, .ref rg, .ref tr, .ref (aK 0), .ref (aK 0), .ref fl, .int 0, .int 0, .int 0, .int 0, .int 0, .int 0, .int 0, .null])), (cl, .inr (4, [.int 0, .ref e0, .int 0]))] sz) t) (va_A [(xm, .inr (20, [.int 0, .int 0, .ref kn, .int 0, .int 0, .int 0, .ref ml, .ref cl, .ref rg, .ref tr, .ref (aK 0), .ref (aK 0), .ref fl, .int 0, .int 0, .int 0, .int 0, .int 0, .int 0, .int 0, .null])), (cl, .inr (4, [.int 0, .ref e0, .int 0]))] sz)) 0 0 (va_A [(xm, .inr (20, [.int 0, .int 0, .ref kn, .int 0, .int 0, .int 0, .ref ml, .ref cl, .ref rg, .ref tr, .ref (aK 0), .ref (aK 0), .ref fl, .int 0, .int 0, .int 0, .int 0, .int 0, .int 0, .int 0, .null])), (cl, .inr (4, [.int 0, .ref e0, .int 0]))] sz) := by
  refine Met.ofW (cc := cX15_uncount) (maxL := 2) (ret := (some .int)) (by decide) rfl ?_
  intro p e s m args below meth c s₁ B hml hv
  obtain ⟨rfl, ⟨hsz, hP, hK, hD0, hN⟩, hZ⟩ := hv
  have hx := B.exec
  have hb := B.bytes
  have hr := B.returns
  have hts := atoms_spec (ws := wsX15_uncount) B.pre
  have hown : s.vm.findClass RX15 = some m.cls := findClass_of_methodNamed B.named
  have hlocks := B.notSynchronized
  subst hsz
  have hD := hD0.self (sz := s.heap.size)
  generalize hAe : va_A [(xm, .inr (20, [.int 0, .int 0, .ref kn, .int 0, .int 0, .int 0, .ref ml, .ref cl, .ref rg, .ref tr, .ref (aK 0), .ref (aK 0), .ref fl, .int 0, .int 0, .int 0, .int 0, .int 0, .int 0, .int 0, .null])), (cl, .inr (4, [.int 0, .ref e0, .int 0]))] s.heap.size = A at hD hZ ⊢
  have hA : ∀ q : Nat, s.heap.size ≤ q → A q := fun q h => by rw [← hAe]; exact Or.inr h
  have hS : va_S A s.heap s.heap [] := va_S.rf
  have hP : va_P (dC, dI) vwCl [(xm, .inr (20, [.int 0, .int 0, .ref kn, .int 0, .int 0, .int 0, .ref ml, .ref cl, .ref rg, .ref tr, .ref (aK 0), .ref (aK 0), .ref fl, .int 0, .int 0, .int 0, .int 0, .int 0, .int 0, .int 0, .null])), (cl, .inr (4, [.int 0, .ref e0, .int 0]))] s.heap := hP
  have hD : va_D A [(xm, .inr (20, [.int 0, .int 0, .ref kn, .int 0, .int 0, .int 0, .ref ml, .ref cl, .ref rg, .ref tr, .ref (aK 0), .ref (aK 0), .ref fl, .int 0, .int 0, .int 0, .int 0, .int 0, .int 0, .int 0, .null])), (cl, .inr (4, [.int 0, .ref e0, .int 0]))] := hD
  have hl := lv_entry ([.ref xm]) (n := 2) (Nat.le_of_ble_eq_true rfl)
  rw [lg_entry_eq]
  generalize (lg_sl ([.ref xm]) ++ List.replicate (2 - (lg_sl ([.ref xm])).length) Slot.unset).toArray = ls at hl ⊢
  have hl : lv_has ls 2 [(0, .ref xm)] := hl
  have iWX15 : ∀ w ∈ u_ws RX15 TX15 21, w ∈ wsX15_uncount := by decide +kernel
  refine lv_aload_n hx hb dX15_uncount_0 rfl (lv_at hl 0 rfl) ?_
  refine lv_iconst (v := 0) hx hb dX15_uncount_1 (by decide) ?_
  refine va_put (D := (dC, dI)) (ci := 20) (v := .int 0) (ty := .int) (C := RX15) (T := TX15) (N := 21) hx hb hts iWX15 tyX15 tyX15_ok nmX15 hown hK hP hD hS 0 rfl rfl 5 (by decide) (hts (.fieldLink RX15 209 "BeaverhallModel" "thrown" "I") (by decide +kernel)) (fun _ h9 => h9) rfl (by decide +kernel) rfl rfl (Nat.le_of_ble_eq_true rfl) dX15_uncount_2 (fun H locs hP hD hS => ?_)
  have hP : va_P (dC, dI) vwCl [(xm, .inr (20, [.int 0, .int 0, .ref kn, .int 0, .int 0, .int 0, .ref ml, .ref cl, .ref rg, .ref tr, .ref (aK 0), .ref (aK 0), .ref fl, .int 0, .int 0, .int 0, .int 0, .int 0, .int 0, .int 0, .null])), (cl, .inr (4, [.int 0, .ref e0, .int 0]))] H := hP
  have hD : va_D A [(xm, .inr (20, [.int 0, .int 0, .ref kn, .int 0, .int 0, .int 0, .ref ml, .ref cl, .ref rg, .ref tr, .ref (aK 0), .ref (aK 0), .ref fl, .int 0, .int 0, .int 0, .int 0, .int 0, .int 0, .int 0, .null])), (cl, .inr (4, [.int 0, .ref e0, .int 0]))] := hD
  refine lv_aload_n hx hb dX15_uncount_5 rfl (lv_at hl 0 rfl) ?_
  refine va_get (D := (dC, dI)) (ci := 20) (v := .ref cl) (C := RX15) (T := TX15) (N := 21) hx hb hts iWX15 hown hK hP 0 rfl rfl 7 (by decide) (hts (.fieldLink RX15 185 "BeaverhallModel" "counters" "Ljava/util/ArrayList;") (by decide +kernel)) (fun _ h9 => h9) rfl dX15_uncount_6 ?_
  have hPc := hP.sub (ws' := [(cl, .inr (4, [.int 0, .ref e0, .int 0]))]) [1] rfl
  have hDc := hD.sub (ws' := [(cl, .inr (4, [.int 0, .ref e0, .int 0]))]) [1] (by decide) rfl
  have hKc := hK.sub (tys' := []) [] rfl
  have hFc := va_free (wc := [(cl, .inr (4, [.int 0, .ref e0, .int 0]))]) hD hS hA [1] rfl
  refine va_calli (va_runV (As := []) (rest := []) ⟨hx, hb, hml, hown, hts⟩ (c_Jx4a65c_size_8abf5 l dC dI cl e0 0 0 H.size) (cwV 0 hts gX15_uncount_Jx4a65c_size_8abf5 rfl rfl rfl (by decide +kernel) ⟨Nat.le_of_ble_eq_true rfl, Nat.le_of_ble_eq_true rfl⟩) (pcV hPc hDc hKc hN (ci := 4) (q0 := 0) rfl rfl) rfl rfl hl.1 rfl (lv_room (Nat.le_of_ble_eq_true rfl)) dX15_uncount_9 ⟨Nat.le_of_ble_eq_true rfl, Nat.le_of_ble_eq_true rfl⟩) hS (fun q _ h => hFc q h) hFc (fun r_1 u t H1 locs ht hvm hw_2 hB hz1 hk1 hS => ?_)
  obtain ⟨hP1, hK1, hD1⟩ := hB
  rw [ht] at hP1
  try dsimp only at hw_2
  obtain ⟨hP, hD⟩ := va_join (wr := [(xm, .inr (20, [.int 0, .int 0, .ref kn, .int 0, .int 0, .int 0, .ref ml, .ref cl, .ref rg, .ref tr, .ref (aK 0), .ref (aK 0), .ref fl, .int 0, .int 0, .int 0, .int 0, .int 0, .int 0, .int 0, .null]))]) (w1 := [(cl, .inr (4, [.int 0, .ref e0, .int 0]))]) hP hD [1] [0] rfl rfl (by decide) (by decide) hk1 hFc hP1 hD1
  generalize H1 = H at hP hS ⊢
  have hP : va_P (dC, dI) vwCl [(xm, .inr (20, [.int 0, .int 0, .ref kn, .int 0, .int 0, .int 0, .ref ml, .ref cl, .ref rg, .ref tr, .ref (aK 0), .ref (aK 0), .ref fl, .int 0, .int 0, .int 0, .int 0, .int 0, .int 0, .int 0, .null])), (cl, .inr (4, [.int 0, .ref e0, .int 0]))] H := hP
  have hD : va_D A [(xm, .inr (20, [.int 0, .int 0, .ref kn, .int 0, .int 0, .int 0, .ref ml, .ref cl, .ref rg, .ref tr, .ref (aK 0), .ref (aK 0), .ref fl, .int 0, .int 0, .int 0, .int 0, .int 0, .int 0, .int 0, .null])), (cl, .inr (4, [.int 0, .ref e0, .int 0]))] := hD
  subst hw_2
  refine lv_istore_n (lv' := [(1, .int 0), (0, .ref xm)]) hx hb dX15_uncount_12 rfl hl (by decide) rfl (fun ls hl => ?_)
  refine lv_aload_n hx hb dX15_uncount_13 rfl (lv_at hl 1 rfl) ?_
  refine va_get (D := (dC, dI)) (ci := 20) (v := .ref cl) (C := RX15) (T := TX15) (N := 21) hx hb hts iWX15 hown hK hP 0 rfl rfl 7 (by decide) (hts (.fieldLink RX15 185 "BeaverhallModel" "counters" "Ljava/util/ArrayList;") (by decide +kernel)) (fun _ h9 => h9) rfl dX15_uncount_14 ?_
  have hPc := hP.sub (ws' := [(cl, .inr (4, [.int 0, .ref e0, .int 0]))]) [1] rfl
  have hDc := hD.sub (ws' := [(cl, .inr (4, [.int 0, .ref e0, .int 0]))]) [1] (by decide) rfl
  have hKc := hK.sub (tys' := []) [] rfl
  have hFc := va_free (wc := [(cl, .inr (4, [.int 0, .ref e0, .int 0]))]) hD hS hA [1] rfl
  refine va_callv (va_runV (As := []) (rest := []) ⟨hx, hb, hml, hown, hts⟩ (c_Jx4a65c_clear_da8c8 l dC dI e0 aK aV cl 0 H.size) (cwV 0 hts gX15_uncount_Jx4a65c_clear_da8c8 rfl rfl rfl (by decide +kernel) ⟨Nat.le_of_ble_eq_true rfl, Nat.le_of_ble_eq_true rfl⟩) (pcVz (zM_ok e0 aK aV) hPc hDc hKc hN hZ hS hFc (ci := 4) (q0 := 0) rfl rfl) rfl rfl hl.1 rfl (lv_room (Nat.le_of_ble_eq_true rfl)) dX15_uncount_17 ⟨Nat.le_of_ble_eq_true rfl, Nat.le_of_ble_eq_true rfl⟩) hS (fun q _ h => hFc q h) hFc (fun u t H1 locs ht hvm hw_4 hB hz1 hk1 hS => ?_)
  obtain ⟨hP1, hK1, hD1⟩ := hB
  rw [ht] at hP1
  try dsimp only at hw_4
  obtain ⟨hP, hD⟩ := va_join (wr := [(xm, .inr (20, [.int 0, .int 0, .ref kn, .int 0, .int 0, .int 0, .ref ml, .ref cl, .ref rg, .ref tr, .ref (aK 0), .ref (aK 0), .ref fl, .int 0, .int 0, .int 0, .int 0, .int 0, .int 0, .int 0, .null]))]) (w1 := [(cl, .inr (4, [.int u, .ref e0, .int 0]))]) hP hD [1] [0] rfl rfl (by decide) (by decide) hk1 hFc hP1 hD1
  generalize H1 = H at hP hS ⊢
  have hP : va_P (dC, dI) vwCl [(xm, .inr (20, [.int 0, .int 0, .ref kn, .int 0, .int 0, .int 0, .ref ml, .ref cl, .ref rg, .ref tr, .ref (aK 0), .ref (aK 0), .ref fl, .int 0, .int 0, .int 0, .int 0, .int 0, .int 0, .int 0, .null])), (cl, .inr (4, [.int u, .ref e0, .int 0]))] H := hP
  have hD : va_D A [(xm, .inr (20, [.int 0, .int 0, .ref kn, .int 0, .int 0, .int 0, .ref ml, .ref cl, .ref rg, .ref tr, .ref (aK 0), .ref (aK 0), .ref fl, .int 0, .int 0, .int 0, .int 0, .int 0, .int 0, .int 0, .null])), (cl, .inr (4, [.int u, .ref e0, .int 0]))] := hD
  obtain ⟨m_3, em_3⟩ : ∃ z, z = u := ⟨_, rfl⟩
  subst em_3
  refine lv_iload_n hx hb dX15_uncount_20 rfl (lv_at hl 0 rfl) ?_
  have hP9 := hP.sub (ws' := [(xm, .inr (20, [.int 0, .int 0, .ref kn, .int 0, .int 0, .int 0, .ref ml, .ref cl, .ref rg, .ref tr, .ref (aK 0), .ref (aK 0), .ref fl, .int 0, .int 0, .int 0, .int 0, .int 0, .int 0, .int 0, .null]))]) [0] rfl
  have hD9 := hD.sub (ws' := [(xm, .inr (20, [.int 0, .int 0, .ref kn, .int 0, .int 0, .int 0, .ref ml, .ref cl, .ref rg, .ref tr, .ref (aK 0), .ref (aK 0), .ref fl, .int 0, .int 0, .int 0, .int 0, .int 0, .int 0, .int 0, .null]))]) [0] (by decide) rfl
  have hK9 := hK.sub (tys' := []) [] rfl
  exact W.iret (v := 0) hx hb hr (fun t ht hW => ⟨⟨0, [.int 0, .int 0, .ref kn, .int 0, .int 0, .int 0, .ref ml, .ref cl, .ref rg, .ref tr, .ref (aK 0), .ref (aK 0), .ref fl, .int 0, .int 0, .int 0, .int 0, .int 0, .int 0, .int 0, .null], rfl, ⟨rfl, rfl⟩, ⟨by rw [ht]; exact hP9, va_K.moved hW.alike hK9, hD9⟩⟩, hS.F ht⟩) hS.2.2 dX15_uncount_21

set_option maxHeartbeats 4000000 in
set_option maxRecDepth 100000 in
/-- X15_unwalk -/
theorem c_X15_unwalk (l : Launch) (dC : Nat → ClassId) (dI : Nat → Nat → Nat) (xm ml cl fl kn rg tr : Nat) (e0 : Nat) (aK aV : Nat → Nat) (sz : Nat) : Met l yX15_unwalk wsX15_unwalk ({ frames := 1, cells := 0, slots := 0, locals := 27 }) (va_Pc [.ref xm] (cPCz (zM e0 aK aV) dC dI [(xm, .inr (20, [.int 0, .int 0, .ref kn, .int 0, .int 0, .int 0, .ref ml, .ref cl, .ref rg, .ref tr, .ref (aK 0), .ref (aK 0), .ref fl, .int 0, .int 0, .int 0, .int 0, .int 0, .int 0, .int 0, .null])), (fl, .inr (4, [.int 0, .ref e0, .int 0]))] [] sz)) (va_Qi (fun (r : Int32) (u : List Value) => u[5]? = some (.int 0) ∧ r = 0) (fun (u : List Value) t => cQB dC dI [(xm, .inr (20, u))] [] (va_A [(xm, .inr (20, [.int 0, .int 0, .ref kn, .int 0, .int 0, .int 0, .ref ml, .ref cl, .ref rg, .ref tr, .ref (aK 0), .ref (aK 0), .ref fl, .int 0, .int 0, .int 0, .int 0, .int 0, .int 0, .int 0, .null])), (fl, .inr (4, [.int 0, .ref e0, .int 0]))] sz) t) (va_A [(xm, .inr (20, [.int 0, .int 0, .ref kn, .int 0, .int 0, .int 0, .ref ml, .ref cl, .ref rg, .ref tr, .ref (aK 0), .ref (aK 0), .ref fl, .int 0, .int 0, .int 0, .int 0, .int 0, .int 0, .int 0, .null])), (fl, .inr (4, [.int 0, .ref e0, .int 0]))] sz)) 0 0 (va_A [(xm, .inr (20, [.int 0, .int 0, .ref kn, .int 0, .int 0, .int 0, .ref ml, .ref cl, .ref rg, .ref tr, .ref (aK 0), .ref (aK 0), .ref fl, .int 0, .int 0, .int 0, .int 0, .int 0, .int 0, .int 0, .null])), (fl, .inr (4, [.int 0, .ref e0, .int 0]))] sz) := by
  refine Met.ofW (cc := cX15_unwalk) (maxL := 2) (ret := (some .int)) (by decide) rfl ?_
  intro p e s m args below meth c s₁ B hml hv
  obtain ⟨rfl, ⟨hsz, hP, hK, hD0, hN⟩, hZ⟩ := hv
  have hx := B.exec
  have hb := B.bytes
  have hr := B.returns
  have hts := atoms_spec (ws := wsX15_unwalk) B.pre
  have hown : s.vm.findClass RX15 = some m.cls := findClass_of_methodNamed B.named
  have hlocks := B.notSynchronized
  subst hsz
  have hD := hD0.self (sz := s.heap.size)
  generalize hAe : va_A [(xm, .inr (20, [.int 0, .int 0, .ref kn, .int 0, .int 0, .int 0, .ref ml, .ref cl, .ref rg, .ref tr, .ref (aK 0), .ref (aK 0), .ref fl, .int 0, .int 0, .int 0, .int 0, .int 0, .int 0, .int 0, .null])), (fl, .inr (4, [.int 0, .ref e0, .int 0]))] s.heap.size = A at hD hZ ⊢
  have hA : ∀ q : Nat, s.heap.size ≤ q → A q := fun q h => by rw [← hAe]; exact Or.inr h
  have hS : va_S A s.heap s.heap [] := va_S.rf
  have hP : va_P (dC, dI) vwCl [(xm, .inr (20, [.int 0, .int 0, .ref kn, .int 0, .int 0, .int 0, .ref ml, .ref cl, .ref rg, .ref tr, .ref (aK 0), .ref (aK 0), .ref fl, .int 0, .int 0, .int 0, .int 0, .int 0, .int 0, .int 0, .null])), (fl, .inr (4, [.int 0, .ref e0, .int 0]))] s.heap := hP
  have hD : va_D A [(xm, .inr (20, [.int 0, .int 0, .ref kn, .int 0, .int 0, .int 0, .ref ml, .ref cl, .ref rg, .ref tr, .ref (aK 0), .ref (aK 0), .ref fl, .int 0, .int 0, .int 0, .int 0, .int 0, .int 0, .int 0, .null])), (fl, .inr (4, [.int 0, .ref e0, .int 0]))] := hD
  have hl := lv_entry ([.ref xm]) (n := 2) (Nat.le_of_ble_eq_true rfl)
  rw [lg_entry_eq]
  generalize (lg_sl ([.ref xm]) ++ List.replicate (2 - (lg_sl ([.ref xm])).length) Slot.unset).toArray = ls at hl ⊢
  have hl : lv_has ls 2 [(0, .ref xm)] := hl
  have iWX15 : ∀ w ∈ u_ws RX15 TX15 21, w ∈ wsX15_unwalk := by decide +kernel
  refine lv_aload_n hx hb dX15_unwalk_0 rfl (lv_at hl 0 rfl) ?_
  refine lv_iconst (v := 0) hx hb dX15_unwalk_1 (by decide) ?_
  refine va_put (D := (dC, dI)) (ci := 20) (v := .int 0) (ty := .int) (C := RX15) (T := TX15) (N := 21) hx hb hts iWX15 tyX15 tyX15_ok nmX15 hown hK hP hD hS 0 rfl rfl 5 (by decide) (hts (.fieldLink RX15 209 "BeaverhallModel" "thrown" "I") (by decide +kernel)) (fun _ h9 => h9) rfl (by decide +kernel) rfl rfl (Nat.le_of_ble_eq_true rfl) dX15_unwalk_2 (fun H locs hP hD hS => ?_)
  have hP : va_P (dC, dI) vwCl [(xm, .inr (20, [.int 0, .int 0, .ref kn, .int 0, .int 0, .int 0, .ref ml, .ref cl, .ref rg, .ref tr, .ref (aK 0), .ref (aK 0), .ref fl, .int 0, .int 0, .int 0, .int 0, .int 0, .int 0, .int 0, .null])), (fl, .inr (4, [.int 0, .ref e0, .int 0]))] H := hP
  have hD : va_D A [(xm, .inr (20, [.int 0, .int 0, .ref kn, .int 0, .int 0, .int 0, .ref ml, .ref cl, .ref rg, .ref tr, .ref (aK 0), .ref (aK 0), .ref fl, .int 0, .int 0, .int 0, .int 0, .int 0, .int 0, .int 0, .null])), (fl, .inr (4, [.int 0, .ref e0, .int 0]))] := hD
  refine lv_aload_n hx hb dX15_unwalk_5 rfl (lv_at hl 0 rfl) ?_
  refine va_get (D := (dC, dI)) (ci := 20) (v := .ref fl) (C := RX15) (T := TX15) (N := 21) hx hb hts iWX15 hown hK hP 0 rfl rfl 12 (by decide) (hts (.fieldLink RX15 206 "BeaverhallModel" "fractions" "Ljava/util/ArrayList;") (by decide +kernel)) (fun _ h9 => h9) rfl dX15_unwalk_6 ?_
  have hPc := hP.sub (ws' := [(fl, .inr (4, [.int 0, .ref e0, .int 0]))]) [1] rfl
  have hDc := hD.sub (ws' := [(fl, .inr (4, [.int 0, .ref e0, .int 0]))]) [1] (by decide) rfl
  have hKc := hK.sub (tys' := []) [] rfl
  have hFc := va_free (wc := [(fl, .inr (4, [.int 0, .ref e0, .int 0]))]) hD hS hA [1] rfl
  refine va_calli (va_runV (As := []) (rest := []) ⟨hx, hb, hml, hown, hts⟩ (c_Jx4a65c_size_8abf5 l dC dI fl e0 0 0 H.size) (cwV 0 hts gX15_unwalk_Jx4a65c_size_8abf5 rfl rfl rfl (by decide +kernel) ⟨Nat.le_of_ble_eq_true rfl, Nat.le_of_ble_eq_true rfl⟩) (pcV hPc hDc hKc hN (ci := 4) (q0 := 0) rfl rfl) rfl rfl hl.1 rfl (lv_room (Nat.le_of_ble_eq_true rfl)) dX15_unwalk_9 ⟨Nat.le_of_ble_eq_true rfl, Nat.le_of_ble_eq_true rfl⟩) hS (fun q _ h => hFc q h) hFc (fun r_1 u t H1 locs ht hvm hw_2 hB hz1 hk1 hS => ?_)
  obtain ⟨hP1, hK1, hD1⟩ := hB
  rw [ht] at hP1
  try dsimp only at hw_2
  obtain ⟨hP, hD⟩ := va_join (wr := [(xm, .inr (20, [.int 0, .int 0, .ref kn, .int 0, .int 0, .int 0, .ref ml, .ref cl, .ref rg, .ref tr, .ref (aK 0), .ref (aK 0), .ref fl, .int 0, .int 0, .int 0, .int 0, .int 0, .int 0, .int 0, .null]))]) (w1 := [(fl, .inr (4, [.int 0, .ref e0, .int 0]))]) hP hD [1] [0] rfl rfl (by decide) (by decide) hk1 hFc hP1 hD1
  generalize H1 = H at hP hS ⊢
  have hP : va_P (dC, dI) vwCl [(xm, .inr (20, [.int 0, .int 0, .ref kn, .int 0, .int 0, .int 0, .ref ml, .ref cl, .ref rg, .ref tr, .ref (aK 0), .ref (aK 0), .ref fl, .int 0, .int 0, .int 0, .int 0, .int 0, .int 0, .int 0, .null])), (fl, .inr (4, [.int 0, .ref e0, .int 0]))] H := hP
  have hD : va_D A [(xm, .inr (20, [.int 0, .int 0, .ref kn, .int 0, .int 0, .int 0, .ref ml, .ref cl, .ref rg, .ref tr, .ref (aK 0), .ref (aK 0), .ref fl, .int 0, .int 0, .int 0, .int 0, .int 0, .int 0, .int 0, .null])), (fl, .inr (4, [.int 0, .ref e0, .int 0]))] := hD
  subst hw_2
  refine lv_istore_n (lv' := [(1, .int 0), (0, .ref xm)]) hx hb dX15_unwalk_12 rfl hl (by decide) rfl (fun ls hl => ?_)
  refine lv_aload_n hx hb dX15_unwalk_13 rfl (lv_at hl 1 rfl) ?_
  refine va_get (D := (dC, dI)) (ci := 20) (v := .ref fl) (C := RX15) (T := TX15) (N := 21) hx hb hts iWX15 hown hK hP 0 rfl rfl 12 (by decide) (hts (.fieldLink RX15 206 "BeaverhallModel" "fractions" "Ljava/util/ArrayList;") (by decide +kernel)) (fun _ h9 => h9) rfl dX15_unwalk_14 ?_
  have hPc := hP.sub (ws' := [(fl, .inr (4, [.int 0, .ref e0, .int 0]))]) [1] rfl
  have hDc := hD.sub (ws' := [(fl, .inr (4, [.int 0, .ref e0, .int 0]))]) [1] (by decide) rfl
  have hKc := hK.sub (tys' := []) [] rfl
  have hFc := va_free (wc := [(fl, .inr (4, [.int 0, .ref e0, .int 0]))]) hD hS hA [1] rfl
  refine va_callv (va_runV (As := []) (rest := []) ⟨hx, hb, hml, hown, hts⟩ (c_Jx4a65c_clear_da8c8 l dC dI e0 aK aV fl 0 H.size) (cwV 0 hts gX15_unwalk_Jx4a65c_clear_da8c8 rfl rfl rfl (by decide +kernel) ⟨Nat.le_of_ble_eq_true rfl, Nat.le_of_ble_eq_true rfl⟩) (pcVz (zM_ok e0 aK aV) hPc hDc hKc hN hZ hS hFc (ci := 4) (q0 := 0) rfl rfl) rfl rfl hl.1 rfl (lv_room (Nat.le_of_ble_eq_true rfl)) dX15_unwalk_17 ⟨Nat.le_of_ble_eq_true rfl, Nat.le_of_ble_eq_true rfl⟩) hS (fun q _ h => hFc q h) hFc (fun u t H1 locs ht hvm hw_4 hB hz1 hk1 hS => ?_)
  obtain ⟨hP1, hK1, hD1⟩ := hB
  rw [ht] at hP1
  try dsimp only at hw_4
  obtain ⟨hP, hD⟩ := va_join (wr := [(xm, .inr (20, [.int 0, .int 0, .ref kn, .int 0, .int 0, .int 0, .ref ml, .ref cl, .ref rg, .ref tr, .ref (aK 0), .ref (aK 0), .ref fl, .int 0, .int 0, .int 0, .int 0, .int 0, .int 0, .int 0, .null]))]) (w1 := [(fl, .inr (4, [.int u, .ref e0, .int 0]))]) hP hD [1] [0] rfl rfl (by decide) (by decide) hk1 hFc hP1 hD1
  generalize H1 = H at hP hS ⊢
  have hP : va_P (dC, dI) vwCl [(xm, .inr (20, [.int 0, .int 0, .ref kn, .int 0, .int 0, .int 0, .ref ml, .ref cl, .ref rg, .ref tr, .ref (aK 0), .ref (aK 0), .ref fl, .int 0, .int 0, .int 0, .int 0, .int 0, .int 0, .int 0, .null])), (fl, .inr (4, [.int u, .ref e0, .int 0]))] H := hP
  have hD : va_D A [(xm, .inr (20, [.int 0, .int 0, .ref kn, .int 0, .int 0, .int 0, .ref ml, .ref cl, .ref rg, .ref tr, .ref (aK 0), .ref (aK 0), .ref fl, .int 0, .int 0, .int 0, .int 0, .int 0, .int 0, .int 0, .null])), (fl, .inr (4, [.int u, .ref e0, .int 0]))] := hD
  obtain ⟨m_3, em_3⟩ : ∃ z, z = u := ⟨_, rfl⟩
  subst em_3
  refine lv_iload_n hx hb dX15_unwalk_20 rfl (lv_at hl 0 rfl) ?_
  have hP9 := hP.sub (ws' := [(xm, .inr (20, [.int 0, .int 0, .ref kn, .int 0, .int 0, .int 0, .ref ml, .ref cl, .ref rg, .ref tr, .ref (aK 0), .ref (aK 0), .ref fl, .int 0, .int 0, .int 0, .int 0, .int 0, .int 0, .int 0, .null]))]) [0] rfl
  have hD9 := hD.sub (ws' := [(xm, .inr (20, [.int 0, .int 0, .ref kn, .int 0, .int 0, .int 0, .ref ml, .ref cl, .ref rg, .ref tr, .ref (aK 0), .ref (aK 0), .ref fl, .int 0, .int 0, .int 0, .int 0, .int 0, .int 0, .int 0, .null]))]) [0] (by decide) rfl
  have hK9 := hK.sub (tys' := []) [] rfl
  exact W.iret (v := 0) hx hb hr (fun t ht hW => ⟨⟨0, [.int 0, .int 0, .ref kn, .int 0, .int 0, .int 0, .ref ml, .ref cl, .ref rg, .ref tr, .ref (aK 0), .ref (aK 0), .ref fl, .int 0, .int 0, .int 0, .int 0, .int 0, .int 0, .int 0, .null], rfl, ⟨rfl, rfl⟩, ⟨by rw [ht]; exact hP9, va_K.moved hW.alike hK9, hD9⟩⟩, hS.F ht⟩) hS.2.2 dX15_unwalk_21

set_option maxHeartbeats 4000000 in
set_option maxRecDepth 100000 in
/-- X15_holdouts -/
theorem c_X15_holdouts (l : Launch) (dC : Nat → ClassId) (dI : Nat → Nat → Nat) (xm ml cl fl kn rg tr : Nat) (e0 : Nat) (aK aV : Nat → Nat) (sz : Nat) : Met l yX15_holdouts wsX15_holdouts ({ frames := 3, cells := 1, slots := 4, locals := 80 }) (va_Pc [.ref xm] (cPCz (zM e0 aK aV) dC dI [(xm, .inr (20, [.int 0, .int 0, .ref kn, .int 0, .int 0, .int 0, .ref ml, .ref cl, .ref rg, .ref tr, .ref (aK 0), .ref (aK 0), .ref fl, .int 0, .int 0, .int 0, .int 0, .int 0, .int 0, .int 0, .null])), (ml, .inr (4, [.int 0, .ref e0, .int 0]))] [] sz)) (va_Qi (fun (r : Int32) (u : List Value) => u[5]? = some (.int 0) ∧ r = 0) (fun (u : List Value) t => cQB dC dI [(xm, .inr (20, u))] [] (va_A [(xm, .inr (20, [.int 0, .int 0, .ref kn, .int 0, .int 0, .int 0, .ref ml, .ref cl, .ref rg, .ref tr, .ref (aK 0), .ref (aK 0), .ref fl, .int 0, .int 0, .int 0, .int 0, .int 0, .int 0, .int 0, .null])), (ml, .inr (4, [.int 0, .ref e0, .int 0]))] sz) t) (va_A [(xm, .inr (20, [.int 0, .int 0, .ref kn, .int 0, .int 0, .int 0, .ref ml, .ref cl, .ref rg, .ref tr, .ref (aK 0), .ref (aK 0), .ref fl, .int 0, .int 0, .int 0, .int 0, .int 0, .int 0, .int 0, .null])), (ml, .inr (4, [.int 0, .ref e0, .int 0]))] sz)) 1 4 (va_A [(xm, .inr (20, [.int 0, .int 0, .ref kn, .int 0, .int 0, .int 0, .ref ml, .ref cl, .ref rg, .ref tr, .ref (aK 0), .ref (aK 0), .ref fl, .int 0, .int 0, .int 0, .int 0, .int 0, .int 0, .int 0, .null])), (ml, .inr (4, [.int 0, .ref e0, .int 0]))] sz) := by
  refine Met.ofW (cc := cX15_holdouts) (maxL := 4) (ret := (some .int)) (by decide) rfl ?_
  intro p e s m args below meth c s₁ B hml hv
  obtain ⟨rfl, ⟨hsz, hP, hK, hD0, hN⟩, hZ⟩ := hv
  have hx := B.exec
  have hb := B.bytes
  have hr := B.returns
  have hts := atoms_spec (ws := wsX15_holdouts) B.pre
  have hown : s.vm.findClass RX15 = some m.cls := findClass_of_methodNamed B.named
  have hlocks := B.notSynchronized
  subst hsz
  have hD := hD0.self (sz := s.heap.size)
  generalize hAe : va_A [(xm, .inr (20, [.int 0, .int 0, .ref kn, .int 0, .int 0, .int 0, .ref ml, .ref cl, .ref rg, .ref tr, .ref (aK 0), .ref (aK 0), .ref fl, .int 0, .int 0, .int 0, .int 0, .int 0, .int 0, .int 0, .null])), (ml, .inr (4, [.int 0, .ref e0, .int 0]))] s.heap.size = A at hD hZ ⊢
  have hA : ∀ q : Nat, s.heap.size ≤ q → A q := fun q h => by rw [← hAe]; exact Or.inr h
  have hS : va_S A s.heap s.heap [] := va_S.rf
  have hP : va_P (dC, dI) vwCl [(xm, .inr (20, [.int 0, .int 0, .ref kn, .int 0, .int 0, .int 0, .ref ml, .ref cl, .ref rg, .ref tr, .ref (aK 0), .ref (aK 0), .ref fl, .int 0, .int 0, .int 0, .int 0, .int 0, .int 0, .int 0, .null])), (ml, .inr (4, [.int 0, .ref e0, .int 0]))] s.heap := hP
  have hD : va_D A [(xm, .inr (20, [.int 0, .int 0, .ref kn, .int 0, .int 0, .int 0, .ref ml, .ref cl, .ref rg, .ref tr, .ref (aK 0), .ref (aK 0), .ref fl, .int 0, .int 0, .int 0, .int 0, .int 0, .int 0, .int 0, .null])), (ml, .inr (4, [.int 0, .ref e0, .int 0]))] := hD
  have hl := lv_entry ([.ref xm]) (n := 4) (Nat.le_of_ble_eq_true rfl)
  rw [lg_entry_eq]
  generalize (lg_sl ([.ref xm]) ++ List.replicate (4 - (lg_sl ([.ref xm])).length) Slot.unset).toArray = ls at hl ⊢
  have hl : lv_has ls 4 [(0, .ref xm)] := hl
  have iWX15 : ∀ w ∈ u_ws RX15 TX15 21, w ∈ wsX15_holdouts := by decide +kernel
  refine lv_aload_n hx hb dX15_holdouts_0 rfl (lv_at hl 0 rfl) ?_
  refine lv_iconst (v := 0) hx hb dX15_holdouts_1 (by decide) ?_
  refine va_put (D := (dC, dI)) (ci := 20) (v := .int 0) (ty := .int) (C := RX15) (T := TX15) (N := 21) hx hb hts iWX15 tyX15 tyX15_ok nmX15 hown hK hP hD hS 0 rfl rfl 5 (by decide) (hts (.fieldLink RX15 209 "BeaverhallModel" "thrown" "I") (by decide +kernel)) (fun _ h9 => h9) rfl (by decide +kernel) rfl rfl (Nat.le_of_ble_eq_true rfl) dX15_holdouts_2 (fun H locs hP hD hS => ?_)
  have hP : va_P (dC, dI) vwCl [(xm, .inr (20, [.int 0, .int 0, .ref kn, .int 0, .int 0, .int 0, .ref ml, .ref cl, .ref rg, .ref tr, .ref (aK 0), .ref (aK 0), .ref fl, .int 0, .int 0, .int 0, .int 0, .int 0, .int 0, .int 0, .null])), (ml, .inr (4, [.int 0, .ref e0, .int 0]))] H := hP
  have hD : va_D A [(xm, .inr (20, [.int 0, .int 0, .ref kn, .int 0, .int 0, .int 0, .ref ml, .ref cl, .ref rg, .ref tr, .ref (aK 0), .ref (aK 0), .ref fl, .int 0, .int 0, .int 0, .int 0, .int 0, .int 0, .int 0, .null])), (ml, .inr (4, [.int 0, .ref e0, .int 0]))] := hD
  refine lv_iconst (v := 0) hx hb dX15_holdouts_5 (by decide) ?_
  refine lv_istore_n (lv' := [(1, .int 0), (0, .ref xm)]) hx hb dX15_holdouts_6 rfl hl (by decide) rfl (fun ls hl => ?_)
  refine lv_aload_n hx hb dX15_holdouts_7 rfl (lv_at hl 1 rfl) ?_
  refine va_get (D := (dC, dI)) (ci := 20) (v := .ref ml) (C := RX15) (T := TX15) (N := 21) hx hb hts iWX15 hown hK hP 0 rfl rfl 6 (by decide) (hts (.fieldLink RX15 181 "BeaverhallModel" "machines" "Ljava/util/ArrayList;") (by decide +kernel)) (fun _ h9 => h9) rfl dX15_holdouts_8 ?_
  have hPc := hP.sub (ws' := [(ml, .inr (4, [.int 0, .ref e0, .int 0]))]) [1] rfl
  have hDc := hD.sub (ws' := [(ml, .inr (4, [.int 0, .ref e0, .int 0]))]) [1] (by decide) rfl
  have hKc := hK.sub (tys' := []) [] rfl
  have hFc := va_free (wc := [(ml, .inr (4, [.int 0, .ref e0, .int 0]))]) hD hS hA [1] rfl
  refine va_callr (va_runV (As := []) (rest := []) ⟨hx, hb, hml, hown, hts⟩ (c_Jx4a65c_iterator_32c93 l dC dI ml e0 0 0 H.size) (cwV 0 hts gX15_holdouts_Jx4a65c_iterator_32c93 rfl rfl rfl (by decide +kernel) ⟨Nat.le_of_ble_eq_true rfl, Nat.le_of_ble_eq_true rfl⟩) (pcV hPc hDc hKc hN (ci := 4) (q0 := 0) rfl rfl) rfl rfl hl.1 rfl (lv_room (Nat.le_of_ble_eq_true rfl)) dX15_holdouts_11 ⟨Nat.le_of_ble_eq_true rfl, Nat.le_of_ble_eq_true rfl⟩) hS (fun q _ h => hFc q h) hFc (fun u r_1 t H1 locs ht hvm hw_2 hB hz1 hk1 hS => ?_)
  obtain ⟨hP1, hK1, hD1⟩ := hB
  rw [ht] at hP1
  try dsimp only at hw_2
  obtain ⟨hP, hD⟩ := va_join (wr := [(xm, .inr (20, [.int 0, .int 0, .ref kn, .int 0, .int 0, .int 0, .ref ml, .ref cl, .ref rg, .ref tr, .ref (aK 0), .ref (aK 0), .ref fl, .int 0, .int 0, .int 0, .int 0, .int 0, .int 0, .int 0, .null]))]) (w1 := [(ml, .inr (4, [.int 0, .ref e0, .int 0])), (r_1, .inr (3, [.int 0, .int (-1), .int 0, .ref ml]))]) hP hD [1] [0] rfl rfl (by decide) (by decide) hk1 hFc hP1 hD1
  generalize H1 = H at hP hS ⊢
  have hP : va_P (dC, dI) vwCl [(xm, .inr (20, [.int 0, .int 0, .ref kn, .int 0, .int 0, .int 0, .ref ml, .ref cl, .ref rg, .ref tr, .ref (aK 0), .ref (aK 0), .ref fl, .int 0, .int 0, .int 0, .int 0, .int 0, .int 0, .int 0, .null])), (ml, .inr (4, [.int 0, .ref e0, .int 0])), (r_1, .inr (3, [.int 0, .int (-1), .int 0, .ref ml]))] H := hP
  have hD : va_D A [(xm, .inr (20, [.int 0, .int 0, .ref kn, .int 0, .int 0, .int 0, .ref ml, .ref cl, .ref rg, .ref tr, .ref (aK 0), .ref (aK 0), .ref fl, .int 0, .int 0, .int 0, .int 0, .int 0, .int 0, .int 0, .null])), (ml, .inr (4, [.int 0, .ref e0, .int 0])), (r_1, .inr (3, [.int 0, .int (-1), .int 0, .ref ml]))] := hD
  refine W.widen (k := 1) (n := 4) (Nat.le_of_ble_eq_true rfl) (Nat.le_of_ble_eq_true rfl) ?_
  refine lv_astore_n (lv' := [(2, .ref r_1), (1, .int 0), (0, .ref xm)]) hx hb dX15_holdouts_14 rfl hl (by decide) rfl (fun ls hl => ?_)
  refine lv_aload_n hx hb dX15_holdouts_15 rfl (lv_at hl 0 rfl) ?_
  have hPc := hP.sub (ws' := [(r_1, .inr (3, [.int 0, .int (-1), .int 0, .ref ml])), (ml, .inr (4, [.int 0, .ref e0, .int 0]))]) [2, 1] rfl
  have hDc := hD.sub (ws' := [(r_1, .inr (3, [.int 0, .int (-1), .int 0, .ref ml])), (ml, .inr (4, [.int 0, .ref e0, .int 0]))]) [2, 1] (by decide) rfl
  have hKc := hK.sub (tys' := []) [] rfl
  have hFc := va_free (wc := [(r_1, .inr (3, [.int 0, .int (-1), .int 0, .ref ml])), (ml, .inr (4, [.int 0, .ref e0, .int 0]))]) hD hS hA [2, 1] rfl
  refine va_callFi (va_runF (As := []) (rest := []) (hK.1 3 _ rfl).2 ⟨hx, hb, hml, hown, hts⟩ (c_Jx35411_hasNext_aae02 l dC dI e0 aK aV r_1 ml e0 0 0 H.size) (va_cwF 0 hts gX15_holdouts_Jx35411_hasNext_aae02_f347Jx35411 rfl rfl rfl hZ.2.2.2.2.2.2.1 (by decide +kernel) ⟨Nat.le_of_ble_eq_true rfl, Nat.le_of_ble_eq_true rfl⟩) (pcVz (zM_ok e0 aK aV) hPc hDc hKc hN hZ hS hFc (ci := 3) (q0 := 0) rfl rfl) rfl rfl hl.1 rfl (lv_room (Nat.le_of_ble_eq_true rfl)) dX15_holdouts_16 ⟨Nat.le_of_ble_eq_true rfl, Nat.le_of_ble_eq_true rfl⟩) hS (fun q _ h => hFc q h) hFc (fun r_3 u t H1 locs ht hvm hw_4 hB hz1 hk1 hS => ?_)
  obtain ⟨hP1, hK1, hD1⟩ := hB
  rw [ht] at hP1
  try dsimp only at hw_4
  obtain ⟨hP, hD⟩ := va_join (wr := [(xm, .inr (20, [.int 0, .int 0, .ref kn, .int 0, .int 0, .int 0, .ref ml, .ref cl, .ref rg, .ref tr, .ref (aK 0), .ref (aK 0), .ref fl, .int 0, .int 0, .int 0, .int 0, .int 0, .int 0, .int 0, .null]))]) (w1 := [(r_1, .inr (3, [.int 0, .int (-1), .int 0, .ref ml])), (ml, .inr (4, [.int 0, .ref e0, .int 0]))]) hP hD [2, 1] [0] rfl rfl (by decide) (by decide) hk1 hFc hP1 hD1
  generalize H1 = H at hP hS ⊢
  have hP : va_P (dC, dI) vwCl [(xm, .inr (20, [.int 0, .int 0, .ref kn, .int 0, .int 0, .int 0, .ref ml, .ref cl, .ref rg, .ref tr, .ref (aK 0), .ref (aK 0), .ref fl, .int 0, .int 0, .int 0, .int 0, .int 0, .int 0, .int 0, .null])), (r_1, .inr (3, [.int 0, .int (-1), .int 0, .ref ml])), (ml, .inr (4, [.int 0, .ref e0, .int 0]))] H := hP
  have hD : va_D A [(xm, .inr (20, [.int 0, .int 0, .ref kn, .int 0, .int 0, .int 0, .ref ml, .ref cl, .ref rg, .ref tr, .ref (aK 0), .ref (aK 0), .ref fl, .int 0, .int 0, .int 0, .int 0, .int 0, .int 0, .int 0, .null])), (r_1, .inr (3, [.int 0, .int (-1), .int 0, .ref ml])), (ml, .inr (4, [.int 0, .ref e0, .int 0]))] := hD
  subst hw_4
  refine lv_if_eq (tgt := 53) hx hb dX15_holdouts_21 (by decide) (fun c21_5 => ?_) (fun c21_5 => ?_)
  · refine lv_iload_n hx hb dX15_holdouts_53 rfl (lv_at hl 1 rfl) ?_
    have hP9 := hP.sub (ws' := [(xm, .inr (20, [.int 0, .int 0, .ref kn, .int 0, .int 0, .int 0, .ref ml, .ref cl, .ref rg, .ref tr, .ref (aK 0), .ref (aK 0), .ref fl, .int 0, .int 0, .int 0, .int 0, .int 0, .int 0, .int 0, .null]))]) [0] rfl
    have hD9 := hD.sub (ws' := [(xm, .inr (20, [.int 0, .int 0, .ref kn, .int 0, .int 0, .int 0, .ref ml, .ref cl, .ref rg, .ref tr, .ref (aK 0), .ref (aK 0), .ref fl, .int 0, .int 0, .int 0, .int 0, .int 0, .int 0, .int 0, .null]))]) [0] (by decide) rfl
    have hK9 := hK.sub (tys' := []) [] rfl
    exact W.iret (v := 0) hx hb hr (fun t ht hW => ⟨⟨0, [.int 0, .int 0, .ref kn, .int 0, .int 0, .int 0, .ref ml, .ref cl, .ref rg, .ref tr, .ref (aK 0), .ref (aK 0), .ref fl, .int 0, .int 0, .int 0, .int 0, .int 0, .int 0, .int 0, .null], rfl, ⟨rfl, rfl⟩, ⟨by rw [ht]; exact hP9, va_K.moved hW.alike hK9, hD9⟩⟩, hS.F ht⟩) hS.2.2 dX15_holdouts_54
  · exact (c21_5 (by decide)).elim

set_option maxHeartbeats 4000000 in
set_option maxRecDepth 100000 in
/-- X15_checksum -/
theorem c_X15_checksum (l : Launch) (dC : Nat → ClassId) (dI : Nat → Nat → Nat) (xm ml cl fl kn rg tr : Nat) (e0 : Nat) (aK aV : Nat → Nat) (sz : Nat) : Met l yX15_checksum wsX15_checksum ({ frames := 3, cells := 1, slots := 4, locals := 80 }) (va_Pc [.ref xm] (cPCz (zM e0 aK aV) dC dI [(xm, .inr (20, [.int 0, .int 0, .ref kn, .int 0, .int 0, .int 0, .ref ml, .ref cl, .ref rg, .ref tr, .ref (aK 0), .ref (aK 0), .ref fl, .int 0, .int 0, .int 0, .int 0, .int 0, .int 0, .int 0, .null])), (ml, .inr (4, [.int 0, .ref e0, .int 0]))] [] sz)) (va_Ql (fun (r : Int64) (u : List Value) => u[5]? = some (.int 0) ∧ r = 7) (fun (u : List Value) t => cQB dC dI [(xm, .inr (20, u))] [] (va_A [(xm, .inr (20, [.int 0, .int 0, .ref kn, .int 0, .int 0, .int 0, .ref ml, .ref cl, .ref rg, .ref tr, .ref (aK 0), .ref (aK 0), .ref fl, .int 0, .int 0, .int 0, .int 0, .int 0, .int 0, .int 0, .null])), (ml, .inr (4, [.int 0, .ref e0, .int 0]))] sz) t) (va_A [(xm, .inr (20, [.int 0, .int 0, .ref kn, .int 0, .int 0, .int 0, .ref ml, .ref cl, .ref rg, .ref tr, .ref (aK 0), .ref (aK 0), .ref fl, .int 0, .int 0, .int 0, .int 0, .int 0, .int 0, .int 0, .null])), (ml, .inr (4, [.int 0, .ref e0, .int 0]))] sz)) 1 4 (va_A [(xm, .inr (20, [.int 0, .int 0, .ref kn, .int 0, .int 0, .int 0, .ref ml, .ref cl, .ref rg, .ref tr, .ref (aK 0), .ref (aK 0), .ref fl, .int 0, .int 0, .int 0, .int 0, .int 0, .int 0, .int 0, .null])), (ml, .inr (4, [.int 0, .ref e0, .int 0]))] sz) := by
  refine Met.ofW (cc := cX15_checksum) (maxL := 6) (ret := (some .long)) (by decide) rfl ?_
  intro p e s m args below meth c s₁ B hml hv
  obtain ⟨rfl, ⟨hsz, hP, hK, hD0, hN⟩, hZ⟩ := hv
  have hx := B.exec
  have hb := B.bytes
  have hr := B.returns
  have hts := atoms_spec (ws := wsX15_checksum) B.pre
  have hown : s.vm.findClass RX15 = some m.cls := findClass_of_methodNamed B.named
  have hlocks := B.notSynchronized
  subst hsz
  have hD := hD0.self (sz := s.heap.size)
  generalize hAe : va_A [(xm, .inr (20, [.int 0, .int 0, .ref kn, .int 0, .int 0, .int 0, .ref ml, .ref cl, .ref rg, .ref tr, .ref (aK 0), .ref (aK 0), .ref fl, .int 0, .int 0, .int 0, .int 0, .int 0, .int 0, .int 0, .null])), (ml, .inr (4, [.int 0, .ref e0, .int 0]))] s.heap.size = A at hD hZ ⊢
  have hA : ∀ q : Nat, s.heap.size ≤ q → A q := fun q h => by rw [← hAe]; exact Or.inr h
  have hS : va_S A s.heap s.heap [] := va_S.rf
  have hP : va_P (dC, dI) vwCl [(xm, .inr (20, [.int 0, .int 0, .ref kn, .int 0, .int 0, .int 0, .ref ml, .ref cl, .ref rg, .ref tr, .ref (aK 0), .ref (aK 0), .ref fl, .int 0, .int 0, .int 0, .int 0, .int 0, .int 0, .int 0, .null])), (ml, .inr (4, [.int 0, .ref e0, .int 0]))] s.heap := hP
  have hD : va_D A [(xm, .inr (20, [.int 0, .int 0, .ref kn, .int 0, .int 0, .int 0, .ref ml, .ref cl, .ref rg, .ref tr, .ref (aK 0), .ref (aK 0), .ref fl, .int 0, .int 0, .int 0, .int 0, .int 0, .int 0, .int 0, .null])), (ml, .inr (4, [.int 0, .ref e0, .int 0]))] := hD
  have hl := lv_entry ([.ref xm]) (n := 6) (Nat.le_of_ble_eq_true rfl)
  rw [lg_entry_eq]
  generalize (lg_sl ([.ref xm]) ++ List.replicate (6 - (lg_sl ([.ref xm])).length) Slot.unset).toArray = ls at hl ⊢
  have hl : lv_has ls 6 [(0, .ref xm)] := hl
  have iWX13 : ∀ w ∈ u_ws RX13 TX13 12, w ∈ wsX15_checksum := by decide +kernel
  have iWX15 : ∀ w ∈ u_ws RX15 TX15 21, w ∈ wsX15_checksum := by decide +kernel
  refine lv_aload_n hx hb dX15_checksum_0 rfl (lv_at hl 0 rfl) ?_
  refine lv_iconst (v := 0) hx hb dX15_checksum_1 (by decide) ?_
  refine va_put (D := (dC, dI)) (ci := 20) (v := .int 0) (ty := .int) (C := RX15) (T := TX15) (N := 21) hx hb hts iWX15 tyX15 tyX15_ok nmX15 hown hK hP hD hS 0 rfl rfl 5 (by decide) (hts (.fieldLink RX15 209 "BeaverhallModel" "thrown" "I") (by decide +kernel)) (fun _ h9 => h9) rfl (by decide +kernel) rfl rfl (Nat.le_of_ble_eq_true rfl) dX15_checksum_2 (fun H locs hP hD hS => ?_)
  have hP : va_P (dC, dI) vwCl [(xm, .inr (20, [.int 0, .int 0, .ref kn, .int 0, .int 0, .int 0, .ref ml, .ref cl, .ref rg, .ref tr, .ref (aK 0), .ref (aK 0), .ref fl, .int 0, .int 0, .int 0, .int 0, .int 0, .int 0, .int 0, .null])), (ml, .inr (4, [.int 0, .ref e0, .int 0]))] H := hP
  have hD : va_D A [(xm, .inr (20, [.int 0, .int 0, .ref kn, .int 0, .int 0, .int 0, .ref ml, .ref cl, .ref rg, .ref tr, .ref (aK 0), .ref (aK 0), .ref fl, .int 0, .int 0, .int 0, .int 0, .int 0, .int 0, .int 0, .null])), (ml, .inr (4, [.int 0, .ref e0, .int 0]))] := hD
  refine lv_ldc2 (v := (7)) hx hb hown (hts (.constantLong RX15 418 (7)) (by decide +kernel)) dX15_checksum_5 ?_
  refine lv_lstore_n (lv' := [(1, .long (7)), (0, .ref xm)]) hx hb dX15_checksum_8 rfl hl (by decide) rfl (fun ls hl => ?_)
  refine lv_aload_n hx hb dX15_checksum_9 rfl (lv_at hl 1 rfl) ?_
  refine va_get (D := (dC, dI)) (ci := 20) (v := .ref ml) (C := RX15) (T := TX15) (N := 21) hx hb hts iWX15 hown hK hP 0 rfl rfl 6 (by decide) (hts (.fieldLink RX15 181 "BeaverhallModel" "machines" "Ljava/util/ArrayList;") (by decide +kernel)) (fun _ h9 => h9) rfl dX15_checksum_10 ?_
  have hPc := hP.sub (ws' := [(ml, .inr (4, [.int 0, .ref e0, .int 0]))]) [1] rfl
  have hDc := hD.sub (ws' := [(ml, .inr (4, [.int 0, .ref e0, .int 0]))]) [1] (by decide) rfl
  have hKc := hK.sub (tys' := []) [] rfl
  have hFc := va_free (wc := [(ml, .inr (4, [.int 0, .ref e0, .int 0]))]) hD hS hA [1] rfl
  refine va_callr (va_runV (As := []) (rest := []) ⟨hx, hb, hml, hown, hts⟩ (c_Jx4a65c_iterator_32c93 l dC dI ml e0 0 0 H.size) (cwV 0 hts gX15_checksum_Jx4a65c_iterator_32c93 rfl rfl rfl (by decide +kernel) ⟨Nat.le_of_ble_eq_true rfl, Nat.le_of_ble_eq_true rfl⟩) (pcV hPc hDc hKc hN (ci := 4) (q0 := 0) rfl rfl) rfl rfl hl.1 rfl (lv_room (Nat.le_of_ble_eq_true rfl)) dX15_checksum_13 ⟨Nat.le_of_ble_eq_true rfl, Nat.le_of_ble_eq_true rfl⟩) hS (fun q _ h => hFc q h) hFc (fun u r_1 t H1 locs ht hvm hw_2 hB hz1 hk1 hS => ?_)
  obtain ⟨hP1, hK1, hD1⟩ := hB
  rw [ht] at hP1
  try dsimp only at hw_2
  obtain ⟨hP, hD⟩ := va_join (wr := [(xm, .inr (20, [.int 0, .int 0, .ref kn, .int 0, .int 0, .int 0, .ref ml, .ref cl, .ref rg, .ref tr, .ref (aK 0), .ref (aK 0), .ref fl, .int 0, .int 0, .int 0, .int 0, .int 0, .int 0, .int 0, .null]))]) (w1 := [(ml, .inr (4, [.int 0, .ref e0, .int 0])), (r_1, .inr (3, [.int 0, .int (-1), .int 0, .ref ml]))]) hP hD [1] [0] rfl rfl (by decide) (by decide) hk1 hFc hP1 hD1
  generalize H1 = H at hP hS ⊢
  have hP : va_P (dC, dI) vwCl [(xm, .inr (20, [.int 0, .int 0, .ref kn, .int 0, .int 0, .int 0, .ref ml, .ref cl, .ref rg, .ref tr, .ref (aK 0), .ref (aK 0), .ref fl, .int 0, .int 0, .int 0, .int 0, .int 0, .int 0, .int 0, .null])), (ml, .inr (4, [.int 0, .ref e0, .int 0])), (r_1, .inr (3, [.int 0, .int (-1), .int 0, .ref ml]))] H := hP
  have hD : va_D A [(xm, .inr (20, [.int 0, .int 0, .ref kn, .int 0, .int 0, .int 0, .ref ml, .ref cl, .ref rg, .ref tr, .ref (aK 0), .ref (aK 0), .ref fl, .int 0, .int 0, .int 0, .int 0, .int 0, .int 0, .int 0, .null])), (ml, .inr (4, [.int 0, .ref e0, .int 0])), (r_1, .inr (3, [.int 0, .int (-1), .int 0, .ref ml]))] := hD
  refine W.widen (k := 1) (n := 4) (Nat.le_of_ble_eq_true rfl) (Nat.le_of_ble_eq_true rfl) ?_
  refine lv_astore_n (lv' := [(3, .ref r_1), (1, .long (7)), (0, .ref xm)]) hx hb dX15_checksum_16 rfl hl (by decide) rfl (fun ls hl => ?_)
  refine lv_aload_n hx hb dX15_checksum_17 rfl (lv_at hl 0 rfl) ?_
  have hPc := hP.sub (ws' := [(r_1, .inr (3, [.int 0, .int (-1), .int 0, .ref ml])), (ml, .inr (4, [.int 0, .ref e0, .int 0]))]) [2, 1] rfl
  have hDc := hD.sub (ws' := [(r_1, .inr (3, [.int 0, .int (-1), .int 0, .ref ml])), (ml, .inr (4, [.int 0, .ref e0, .int 0]))]) [2, 1] (by decide) rfl
  have hKc := hK.sub (tys' := []) [] rfl
  have hFc := va_free (wc := [(r_1, .inr (3, [.int 0, .int (-1), .int 0, .ref ml])), (ml, .inr (4, [.int 0, .ref e0, .int 0]))]) hD hS hA [2, 1] rfl
  refine va_callFi (va_runF (As := []) (rest := []) (hK.1 3 _ rfl).2 ⟨hx, hb, hml, hown, hts⟩ (c_Jx35411_hasNext_aae02 l dC dI e0 aK aV r_1 ml e0 0 0 H.size) (va_cwF 0 hts gX15_checksum_Jx35411_hasNext_aae02_f347Jx35411 rfl rfl rfl hZ.2.2.2.2.2.2.1 (by decide +kernel) ⟨Nat.le_of_ble_eq_true rfl, Nat.le_of_ble_eq_true rfl⟩) (pcVz (zM_ok e0 aK aV) hPc hDc hKc hN hZ hS hFc (ci := 3) (q0 := 0) rfl rfl) rfl rfl hl.1 rfl (lv_room (Nat.le_of_ble_eq_true rfl)) dX15_checksum_18 ⟨Nat.le_of_ble_eq_true rfl, Nat.le_of_ble_eq_true rfl⟩) hS (fun q _ h => hFc q h) hFc (fun r_3 u t H1 locs ht hvm hw_4 hB hz1 hk1 hS => ?_)
  obtain ⟨hP1, hK1, hD1⟩ := hB
  rw [ht] at hP1
  try dsimp only at hw_4
  obtain ⟨hP, hD⟩ := va_join (wr := [(xm, .inr (20, [.int 0, .int 0, .ref kn, .int 0, .int 0, .int 0, .ref ml, .ref cl, .ref rg, .ref tr, .ref (aK 0), .ref (aK 0), .ref fl, .int 0, .int 0, .int 0, .int 0, .int 0, .int 0, .int 0, .null]))]) (w1 := [(r_1, .inr (3, [.int 0, .int (-1), .int 0, .ref ml])), (ml, .inr (4, [.int 0, .ref e0, .int 0]))]) hP hD [2, 1] [0] rfl rfl (by decide) (by decide) hk1 hFc hP1 hD1
  generalize H1 = H at hP hS ⊢
  have hP : va_P (dC, dI) vwCl [(xm, .inr (20, [.int 0, .int 0, .ref kn, .int 0, .int 0, .int 0, .ref ml, .ref cl, .ref rg, .ref tr, .ref (aK 0), .ref (aK 0), .ref fl, .int 0, .int 0, .int 0, .int 0, .int 0, .int 0, .int 0, .null])), (r_1, .inr (3, [.int 0, .int (-1), .int 0, .ref ml])), (ml, .inr (4, [.int 0, .ref e0, .int 0]))] H := hP
  have hD : va_D A [(xm, .inr (20, [.int 0, .int 0, .ref kn, .int 0, .int 0, .int 0, .ref ml, .ref cl, .ref rg, .ref tr, .ref (aK 0), .ref (aK 0), .ref fl, .int 0, .int 0, .int 0, .int 0, .int 0, .int 0, .int 0, .null])), (r_1, .inr (3, [.int 0, .int (-1), .int 0, .ref ml])), (ml, .inr (4, [.int 0, .ref e0, .int 0]))] := hD
  subst hw_4
  refine lv_if_eq (tgt := 124) hx hb dX15_checksum_23 (by decide) (fun c23_5 => ?_) (fun c23_5 => ?_)
  · refine lv_lload_n hx hb dX15_checksum_124 rfl (lv_at hl 1 rfl) ?_
    have hP9 := hP.sub (ws' := [(xm, .inr (20, [.int 0, .int 0, .ref kn, .int 0, .int 0, .int 0, .ref ml, .ref cl, .ref rg, .ref tr, .ref (aK 0), .ref (aK 0), .ref fl, .int 0, .int 0, .int 0, .int 0, .int 0, .int 0, .int 0, .null]))]) [0] rfl
    have hD9 := hD.sub (ws' := [(xm, .inr (20, [.int 0, .int 0, .ref kn, .int 0, .int 0, .int 0, .ref ml, .ref cl, .ref rg, .ref tr, .ref (aK 0), .ref (aK 0), .ref fl, .int 0, .int 0, .int 0, .int 0, .int 0, .int 0, .int 0, .null]))]) [0] (by decide) rfl
    have hK9 := hK.sub (tys' := []) [] rfl
    exact W.lret (v := (7)) hx hb hr (fun t ht hW => ⟨⟨(7), [.int 0, .int 0, .ref kn, .int 0, .int 0, .int 0, .ref ml, .ref cl, .ref rg, .ref tr, .ref (aK 0), .ref (aK 0), .ref fl, .int 0, .int 0, .int 0, .int 0, .int 0, .int 0, .int 0, .null], rfl, ⟨rfl, rfl⟩, ⟨by rw [ht]; exact hP9, va_K.moved hW.alike hK9, hD9⟩⟩, hS.F ht⟩) hS.2.2 dX15_checksum_125
  · exact (c23_5 (by decide)).elim

set_option maxHeartbeats 4000000 in
set_option maxRecDepth 100000 in
/-- X15_meanMarks -/
theorem c_X15_meanMarks (l : Launch) (dC : Nat → ClassId) (dI : Nat → Nat → Nat) (xm ml cl fl kn rg tr : Nat) (e0 : Nat) (aK aV : Nat → Nat) (sz : Nat) : Met l yX15_meanMarks wsX15_meanMarks ({ frames := 3, cells := 1, slots := 4, locals := 80 }) (va_Pc [.ref xm] (cPCz (zM e0 aK aV) dC dI [(xm, .inr (20, [.int 0, .int 0, .ref kn, .int 0, .int 0, .int 0, .ref ml, .ref cl, .ref rg, .ref tr, .ref (aK 0), .ref (aK 0), .ref fl, .int 0, .int 0, .int 0, .int 0, .int 0, .int 0, .int 0, .null])), (ml, .inr (4, [.int 0, .ref e0, .int 0]))] [] sz)) (va_Qd (fun (r : UInt64) (u : List Value) => u[5]? = some (.int 1)) (fun (u : List Value) t => cQB dC dI [(xm, .inr (20, u))] [] (va_A [(xm, .inr (20, [.int 0, .int 0, .ref kn, .int 0, .int 0, .int 0, .ref ml, .ref cl, .ref rg, .ref tr, .ref (aK 0), .ref (aK 0), .ref fl, .int 0, .int 0, .int 0, .int 0, .int 0, .int 0, .int 0, .null])), (ml, .inr (4, [.int 0, .ref e0, .int 0]))] sz) t) (va_A [(xm, .inr (20, [.int 0, .int 0, .ref kn, .int 0, .int 0, .int 0, .ref ml, .ref cl, .ref rg, .ref tr, .ref (aK 0), .ref (aK 0), .ref fl, .int 0, .int 0, .int 0, .int 0, .int 0, .int 0, .int 0, .null])), (ml, .inr (4, [.int 0, .ref e0, .int 0]))] sz)) 1 4 (va_A [(xm, .inr (20, [.int 0, .int 0, .ref kn, .int 0, .int 0, .int 0, .ref ml, .ref cl, .ref rg, .ref tr, .ref (aK 0), .ref (aK 0), .ref fl, .int 0, .int 0, .int 0, .int 0, .int 0, .int 0, .int 0, .null])), (ml, .inr (4, [.int 0, .ref e0, .int 0]))] sz) := by
  refine Met.ofW (cc := cX15_meanMarks) (maxL := 7) (ret := (some .double)) (by decide) rfl ?_
  intro p e s m args below meth c s₁ B hml hv
  obtain ⟨rfl, ⟨hsz, hP, hK, hD0, hN⟩, hZ⟩ := hv
  have hx := B.exec
  have hb := B.bytes
  have hr := B.returns
  have hts := atoms_spec (ws := wsX15_meanMarks) B.pre
  have hown : s.vm.findClass RX15 = some m.cls := findClass_of_methodNamed B.named
  have hlocks := B.notSynchronized
  subst hsz
  have hD := hD0.self (sz := s.heap.size)
  generalize hAe : va_A [(xm, .inr (20, [.int 0, .int 0, .ref kn, .int 0, .int 0, .int 0, .ref ml, .ref cl, .ref rg, .ref tr, .ref (aK 0), .ref (aK 0), .ref fl, .int 0, .int 0, .int 0, .int 0, .int 0, .int 0, .int 0, .null])), (ml, .inr (4, [.int 0, .ref e0, .int 0]))] s.heap.size = A at hD hZ ⊢
  have hA : ∀ q : Nat, s.heap.size ≤ q → A q := fun q h => by rw [← hAe]; exact Or.inr h
  have hS : va_S A s.heap s.heap [] := va_S.rf
  have hP : va_P (dC, dI) vwCl [(xm, .inr (20, [.int 0, .int 0, .ref kn, .int 0, .int 0, .int 0, .ref ml, .ref cl, .ref rg, .ref tr, .ref (aK 0), .ref (aK 0), .ref fl, .int 0, .int 0, .int 0, .int 0, .int 0, .int 0, .int 0, .null])), (ml, .inr (4, [.int 0, .ref e0, .int 0]))] s.heap := hP
  have hD : va_D A [(xm, .inr (20, [.int 0, .int 0, .ref kn, .int 0, .int 0, .int 0, .ref ml, .ref cl, .ref rg, .ref tr, .ref (aK 0), .ref (aK 0), .ref fl, .int 0, .int 0, .int 0, .int 0, .int 0, .int 0, .int 0, .null])), (ml, .inr (4, [.int 0, .ref e0, .int 0]))] := hD
  have hl := lv_entry ([.ref xm]) (n := 7) (Nat.le_of_ble_eq_true rfl)
  rw [lg_entry_eq]
  generalize (lg_sl ([.ref xm]) ++ List.replicate (7 - (lg_sl ([.ref xm])).length) Slot.unset).toArray = ls at hl ⊢
  have hl : lv_has ls 7 [(0, .ref xm)] := hl
  have iWX13 : ∀ w ∈ u_ws RX13 TX13 12, w ∈ wsX15_meanMarks := by decide +kernel
  have iWX15 : ∀ w ∈ u_ws RX15 TX15 21, w ∈ wsX15_meanMarks := by decide +kernel
  refine lv_lconst (v := 0) hx hb dX15_meanMarks_0 (by decide) ?_
  refine lv_lstore_n (lv' := [(1, .long 0), (0, .ref xm)]) hx hb dX15_meanMarks_1 rfl hl (by decide) rfl (fun ls hl => ?_)
  refine lv_iconst (v := 0) hx hb dX15_meanMarks_2 (by decide) ?_
  refine lv_istore_n (lv' := [(3, .int 0), (1, .long 0), (0, .ref xm)]) hx hb dX15_meanMarks_3 rfl hl (by decide) rfl (fun ls hl => ?_)
  refine lv_aload_n hx hb dX15_meanMarks_4 rfl (lv_at hl 2 rfl) ?_
  refine va_get (D := (dC, dI)) (ci := 20) (v := .ref ml) (C := RX15) (T := TX15) (N := 21) hx hb hts iWX15 hown hK hP 0 rfl rfl 6 (by decide) (hts (.fieldLink RX15 181 "BeaverhallModel" "machines" "Ljava/util/ArrayList;") (by decide +kernel)) (fun _ h9 => h9) rfl dX15_meanMarks_5 ?_
  have hPc := hP.sub (ws' := [(ml, .inr (4, [.int 0, .ref e0, .int 0]))]) [1] rfl
  have hDc := hD.sub (ws' := [(ml, .inr (4, [.int 0, .ref e0, .int 0]))]) [1] (by decide) rfl
  have hKc := hK.sub (tys' := []) [] rfl
  have hFc := va_free (wc := [(ml, .inr (4, [.int 0, .ref e0, .int 0]))]) hD hS hA [1] rfl
  refine va_callr (va_runV (As := []) (rest := []) ⟨hx, hb, hml, hown, hts⟩ (c_Jx4a65c_iterator_32c93 l dC dI ml e0 0 0 s.heap.size) (cwV 0 hts gX15_meanMarks_Jx4a65c_iterator_32c93 rfl rfl rfl (by decide +kernel) ⟨Nat.le_of_ble_eq_true rfl, Nat.le_of_ble_eq_true rfl⟩) (pcV hPc hDc hKc hN (ci := 4) (q0 := 0) rfl rfl) rfl rfl hl.1 rfl (lv_room (Nat.le_of_ble_eq_true rfl)) dX15_meanMarks_8 ⟨Nat.le_of_ble_eq_true rfl, Nat.le_of_ble_eq_true rfl⟩) hS (fun q _ h => hFc q h) hFc (fun u r_1 t H1 locs ht hvm hw_2 hB hz1 hk1 hS => ?_)
  obtain ⟨hP1, hK1, hD1⟩ := hB
  rw [ht] at hP1
  try dsimp only at hw_2
  obtain ⟨hP, hD⟩ := va_join (wr := [(xm, .inr (20, [.int 0, .int 0, .ref kn, .int 0, .int 0, .int 0, .ref ml, .ref cl, .ref rg, .ref tr, .ref (aK 0), .ref (aK 0), .ref fl, .int 0, .int 0, .int 0, .int 0, .int 0, .int 0, .int 0, .null]))]) (w1 := [(ml, .inr (4, [.int 0, .ref e0, .int 0])), (r_1, .inr (3, [.int 0, .int (-1), .int 0, .ref ml]))]) hP hD [1] [0] rfl rfl (by decide) (by decide) hk1 hFc hP1 hD1
  generalize H1 = H at hP hS ⊢
  have hP : va_P (dC, dI) vwCl [(xm, .inr (20, [.int 0, .int 0, .ref kn, .int 0, .int 0, .int 0, .ref ml, .ref cl, .ref rg, .ref tr, .ref (aK 0), .ref (aK 0), .ref fl, .int 0, .int 0, .int 0, .int 0, .int 0, .int 0, .int 0, .null])), (ml, .inr (4, [.int 0, .ref e0, .int 0])), (r_1, .inr (3, [.int 0, .int (-1), .int 0, .ref ml]))] H := hP
  have hD : va_D A [(xm, .inr (20, [.int 0, .int 0, .ref kn, .int 0, .int 0, .int 0, .ref ml, .ref cl, .ref rg, .ref tr, .ref (aK 0), .ref (aK 0), .ref fl, .int 0, .int 0, .int 0, .int 0, .int 0, .int 0, .int 0, .null])), (ml, .inr (4, [.int 0, .ref e0, .int 0])), (r_1, .inr (3, [.int 0, .int (-1), .int 0, .ref ml]))] := hD
  refine W.widen (k := 1) (n := 4) (Nat.le_of_ble_eq_true rfl) (Nat.le_of_ble_eq_true rfl) ?_
  refine lv_astore (lv' := [(4, .ref r_1), (3, .int 0), (1, .long 0), (0, .ref xm)]) hx hb dX15_meanMarks_11 hl (by decide) rfl (fun ls hl => ?_)
  refine lv_aload hx hb dX15_meanMarks_13 (lv_at hl 0 rfl) ?_
  have hPc := hP.sub (ws' := [(r_1, .inr (3, [.int 0, .int (-1), .int 0, .ref ml])), (ml, .inr (4, [.int 0, .ref e0, .int 0]))]) [2, 1] rfl
  have hDc := hD.sub (ws' := [(r_1, .inr (3, [.int 0, .int (-1), .int 0, .ref ml])), (ml, .inr (4, [.int 0, .ref e0, .int 0]))]) [2, 1] (by decide) rfl
  have hKc := hK.sub (tys' := []) [] rfl
  have hFc := va_free (wc := [(r_1, .inr (3, [.int 0, .int (-1), .int 0, .ref ml])), (ml, .inr (4, [.int 0, .ref e0, .int 0]))]) hD hS hA [2, 1] rfl
  refine va_callFi (va_runF (As := []) (rest := []) (hK.1 3 _ rfl).2 ⟨hx, hb, hml, hown, hts⟩ (c_Jx35411_hasNext_aae02 l dC dI e0 aK aV r_1 ml e0 0 0 H.size) (va_cwF 0 hts gX15_meanMarks_Jx35411_hasNext_aae02_f347Jx35411 rfl rfl rfl hZ.2.2.2.2.2.2.1 (by decide +kernel) ⟨Nat.le_of_ble_eq_true rfl, Nat.le_of_ble_eq_true rfl⟩) (pcVz (zM_ok e0 aK aV) hPc hDc hKc hN hZ hS hFc (ci := 3) (q0 := 0) rfl rfl) rfl rfl hl.1 rfl (lv_room (Nat.le_of_ble_eq_true rfl)) dX15_meanMarks_15 ⟨Nat.le_of_ble_eq_true rfl, Nat.le_of_ble_eq_true rfl⟩) hS (fun q _ h => hFc q h) hFc (fun r_3 u t H1 locs ht hvm hw_4 hB hz1 hk1 hS => ?_)
  obtain ⟨hP1, hK1, hD1⟩ := hB
  rw [ht] at hP1
  try dsimp only at hw_4
  obtain ⟨hP, hD⟩ := va_join (wr := [(xm, .inr (20, [.int 0, .int 0, .ref kn, .int 0, .int 0, .int 0, .ref ml, .ref cl, .ref rg, .ref tr, .ref (aK 0), .ref (aK 0), .ref fl, .int 0, .int 0, .int 0, .int 0, .int 0, .int 0, .int 0, .null]))]) (w1 := [(r_1, .inr (3, [.int 0, .int (-1), .int 0, .ref ml])), (ml, .inr (4, [.int 0, .ref e0, .int 0]))]) hP hD [2, 1] [0] rfl rfl (by decide) (by decide) hk1 hFc hP1 hD1
  generalize H1 = H at hP hS ⊢
  have hP : va_P (dC, dI) vwCl [(xm, .inr (20, [.int 0, .int 0, .ref kn, .int 0, .int 0, .int 0, .ref ml, .ref cl, .ref rg, .ref tr, .ref (aK 0), .ref (aK 0), .ref fl, .int 0, .int 0, .int 0, .int 0, .int 0, .int 0, .int 0, .null])), (r_1, .inr (3, [.int 0, .int (-1), .int 0, .ref ml])), (ml, .inr (4, [.int 0, .ref e0, .int 0]))] H := hP
  have hD : va_D A [(xm, .inr (20, [.int 0, .int 0, .ref kn, .int 0, .int 0, .int 0, .ref ml, .ref cl, .ref rg, .ref tr, .ref (aK 0), .ref (aK 0), .ref fl, .int 0, .int 0, .int 0, .int 0, .int 0, .int 0, .int 0, .null])), (r_1, .inr (3, [.int 0, .int (-1), .int 0, .ref ml])), (ml, .inr (4, [.int 0, .ref e0, .int 0]))] := hD
  subst hw_4
  refine lv_if_eq (tgt := 95) hx hb dX15_meanMarks_20 (by decide) (fun c20_5 => ?_) (fun c20_5 => ?_)
  · refine lv_aload_n hx hb dX15_meanMarks_95 rfl (lv_at hl 3 rfl) ?_
    refine lv_iload_n hx hb dX15_meanMarks_96 rfl (lv_at hl 1 rfl) ?_
    refine lv_if_ne (tgt := 104) hx hb dX15_meanMarks_97 (by decide) (fun c97_6 => ?_) (fun c97_6 => ?_)
    · exact (c97_6 (by decide)).elim
    · refine lv_iconst (v := 1) hx hb dX15_meanMarks_100 (by decide) ?_
      refine lv_goto (tgt := 105) hx hb dX15_meanMarks_101 (by decide) ?_
      refine va_put (D := (dC, dI)) (ci := 20) (v := .int 1) (ty := .int) (C := RX15) (T := TX15) (N := 21) hx hb hts iWX15 tyX15 tyX15_ok nmX15 hown hK hP hD hS 0 rfl rfl 5 (by decide) (hts (.fieldLink RX15 209 "BeaverhallModel" "thrown" "I") (by decide +kernel)) (fun _ h9 => h9) rfl (by decide +kernel) rfl rfl (Nat.le_of_ble_eq_true rfl) dX15_meanMarks_105 (fun H locs hP hD hS => ?_)
      have hP : va_P (dC, dI) vwCl [(xm, .inr (20, [.int 0, .int 0, .ref kn, .int 0, .int 0, .int 1, .ref ml, .ref cl, .ref rg, .ref tr, .ref (aK 0), .ref (aK 0), .ref fl, .int 0, .int 0, .int 0, .int 0, .int 0, .int 0, .int 0, .null])), (r_1, .inr (3, [.int 0, .int (-1), .int 0, .ref ml])), (ml, .inr (4, [.int 0, .ref e0, .int 0]))] H := hP
      have hD : va_D A [(xm, .inr (20, [.int 0, .int 0, .ref kn, .int 0, .int 0, .int 1, .ref ml, .ref cl, .ref rg, .ref tr, .ref (aK 0), .ref (aK 0), .ref fl, .int 0, .int 0, .int 0, .int 0, .int 0, .int 0, .int 0, .null])), (r_1, .inr (3, [.int 0, .int (-1), .int 0, .ref ml])), (ml, .inr (4, [.int 0, .ref e0, .int 0]))] := hD
      refine lv_aload_n hx hb dX15_meanMarks_108 rfl (lv_at hl 3 rfl) ?_
      refine va_get (D := (dC, dI)) (ci := 20) (v := .int 1) (C := RX15) (T := TX15) (N := 21) hx hb hts iWX15 hown hK hP 0 rfl rfl 5 (by decide) (hts (.fieldLink RX15 209 "BeaverhallModel" "thrown" "I") (by decide +kernel)) (fun _ h9 => h9) rfl dX15_meanMarks_109 ?_
      refine lv_if_le (tgt := 119) hx hb dX15_meanMarks_112 (by decide) (fun c112_7 => ?_) (fun c112_7 => ?_)
      · exact absurd c112_7 (by decide)
      · refine lv_dconst0 hx hb dX15_meanMarks_115 ?_
        refine lv_goto (tgt := 124) hx hb dX15_meanMarks_116 (by decide) ?_
        have hP9 := hP.sub (ws' := [(xm, .inr (20, [.int 0, .int 0, .ref kn, .int 0, .int 0, .int 1, .ref ml, .ref cl, .ref rg, .ref tr, .ref (aK 0), .ref (aK 0), .ref fl, .int 0, .int 0, .int 0, .int 0, .int 0, .int 0, .int 0, .null]))]) [0] rfl
        have hD9 := hD.sub (ws' := [(xm, .inr (20, [.int 0, .int 0, .ref kn, .int 0, .int 0, .int 1, .ref ml, .ref cl, .ref rg, .ref tr, .ref (aK 0), .ref (aK 0), .ref fl, .int 0, .int 0, .int 0, .int 0, .int 0, .int 0, .int 0, .null]))]) [0] (by decide) rfl
        have hK9 := hK.sub (tys' := []) [] rfl
        exact W.dret (v := 0) hx hb hr (fun t ht hW => ⟨⟨0, [.int 0, .int 0, .ref kn, .int 0, .int 0, .int 1, .ref ml, .ref cl, .ref rg, .ref tr, .ref (aK 0), .ref (aK 0), .ref fl, .int 0, .int 0, .int 0, .int 0, .int 0, .int 0, .int 0, .null], rfl, rfl, ⟨by rw [ht]; exact hP9, va_K.moved hW.alike hK9, hD9⟩⟩, hS.F ht⟩) hS.2.2 dX15_meanMarks_124
  · exact (c20_5 (by decide)).elim

set_option maxHeartbeats 4000000 in
set_option maxRecDepth 100000 in
/-- X15_fitting -/
theorem c_X15_fitting (l : Launch) (dC : Nat → ClassId) (dI : Nat → Nat → Nat) (xm ml cl fl kn rg tr : Nat) (e0 : Nat) (aK aV : Nat → Nat) (n : Int64) (sz : Nat) : Met l yX15_fitting wsX15_fitting ({ frames := 3, cells := 1, slots := 4, locals := 80 }) (va_Pc [.ref xm, .long n] (cPCz (zM e0 aK aV) dC dI [(xm, .inr (20, [.int 0, .int 0, .ref kn, .int 0, .int 0, .int 0, .ref ml, .ref cl, .ref rg, .ref tr, .ref (aK 0), .ref (aK 0), .ref fl, .int 0, .int 0, .int 0, .int 0, .int 0, .int 0, .int 0, .null])), (fl, .inr (4, [.int 0, .ref e0, .int 0]))] [] sz)) (va_Qq (fun (r : Option Nat) (u : Unit) => r = none) (fun (u : Unit) t => cQB dC dI [(xm, .inr (20, [.int 0, .int 0, .ref kn, .int 0, .int 0, .int 0, .ref ml, .ref cl, .ref rg, .ref tr, .ref (aK 0), .ref (aK 0), .ref fl, .int 0, .int 0, .int 0, .int 0, .int 0, .int 0, .int 0, .null])), (fl, .inr (4, [.int 0, .ref e0, .int 0]))] [] (va_A [(xm, .inr (20, [.int 0, .int 0, .ref kn, .int 0, .int 0, .int 0, .ref ml, .ref cl, .ref rg, .ref tr, .ref (aK 0), .ref (aK 0), .ref fl, .int 0, .int 0, .int 0, .int 0, .int 0, .int 0, .int 0, .null])), (fl, .inr (4, [.int 0, .ref e0, .int 0]))] sz) t) (va_A [(xm, .inr (20, [.int 0, .int 0, .ref kn, .int 0, .int 0, .int 0, .ref ml, .ref cl, .ref rg, .ref tr, .ref (aK 0), .ref (aK 0), .ref fl, .int 0, .int 0, .int 0, .int 0, .int 0, .int 0, .int 0, .null])), (fl, .inr (4, [.int 0, .ref e0, .int 0]))] sz)) 1 4 (va_A [(xm, .inr (20, [.int 0, .int 0, .ref kn, .int 0, .int 0, .int 0, .ref ml, .ref cl, .ref rg, .ref tr, .ref (aK 0), .ref (aK 0), .ref fl, .int 0, .int 0, .int 0, .int 0, .int 0, .int 0, .int 0, .null])), (fl, .inr (4, [.int 0, .ref e0, .int 0]))] sz) := by
  refine Met.ofW (cc := cX15_fitting) (maxL := 7) (ret := (some (.array .int))) (by decide) rfl ?_
  intro p e s m args below meth c s₁ B hml hv
  obtain ⟨rfl, ⟨hsz, hP, hK, hD0, hN⟩, hZ⟩ := hv
  have hx := B.exec
  have hb := B.bytes
  have hr := B.returns
  have hts := atoms_spec (ws := wsX15_fitting) B.pre
  have hown : s.vm.findClass RX15 = some m.cls := findClass_of_methodNamed B.named
  have hlocks := B.notSynchronized
  subst hsz
  have hD := hD0.self (sz := s.heap.size)
  generalize hAe : va_A [(xm, .inr (20, [.int 0, .int 0, .ref kn, .int 0, .int 0, .int 0, .ref ml, .ref cl, .ref rg, .ref tr, .ref (aK 0), .ref (aK 0), .ref fl, .int 0, .int 0, .int 0, .int 0, .int 0, .int 0, .int 0, .null])), (fl, .inr (4, [.int 0, .ref e0, .int 0]))] s.heap.size = A at hD hZ ⊢
  have hA : ∀ q : Nat, s.heap.size ≤ q → A q := fun q h => by rw [← hAe]; exact Or.inr h
  have hS : va_S A s.heap s.heap [] := va_S.rf
  have hP : va_P (dC, dI) vwCl [(xm, .inr (20, [.int 0, .int 0, .ref kn, .int 0, .int 0, .int 0, .ref ml, .ref cl, .ref rg, .ref tr, .ref (aK 0), .ref (aK 0), .ref fl, .int 0, .int 0, .int 0, .int 0, .int 0, .int 0, .int 0, .null])), (fl, .inr (4, [.int 0, .ref e0, .int 0]))] s.heap := hP
  have hD : va_D A [(xm, .inr (20, [.int 0, .int 0, .ref kn, .int 0, .int 0, .int 0, .ref ml, .ref cl, .ref rg, .ref tr, .ref (aK 0), .ref (aK 0), .ref fl, .int 0, .int 0, .int 0, .int 0, .int 0, .int 0, .int 0, .null])), (fl, .inr (4, [.int 0, .ref e0, .int 0]))] := hD
  have hl := lv_entry ([.ref xm, .long n]) (n := 7) (Nat.le_of_ble_eq_true rfl)
  rw [lg_entry_eq]
  generalize (lg_sl ([.ref xm, .long n]) ++ List.replicate (7 - (lg_sl ([.ref xm, .long n])).length) Slot.unset).toArray = ls at hl ⊢
  have hl : lv_has ls 7 [(0, .ref xm), (1, .long n)] := hl
  have iWX15 : ∀ w ∈ u_ws RX15 TX15 21, w ∈ wsX15_fitting := by decide +kernel
  refine lv_aload_n hx hb dX15_fitting_0 rfl (lv_at hl 0 rfl) ?_
  refine va_get (D := (dC, dI)) (ci := 20) (v := .ref fl) (C := RX15) (T := TX15) (N := 21) hx hb hts iWX15 hown hK hP 0 rfl rfl 12 (by decide) (hts (.fieldLink RX15 206 "BeaverhallModel" "fractions" "Ljava/util/ArrayList;") (by decide +kernel)) (fun _ h9 => h9) rfl dX15_fitting_1 ?_
  have hPc := hP.sub (ws' := [(fl, .inr (4, [.int 0, .ref e0, .int 0]))]) [1] rfl
  have hDc := hD.sub (ws' := [(fl, .inr (4, [.int 0, .ref e0, .int 0]))]) [1] (by decide) rfl
  have hKc := hK.sub (tys' := []) [] rfl
  have hFc := va_free (wc := [(fl, .inr (4, [.int 0, .ref e0, .int 0]))]) hD hS hA [1] rfl
  refine va_callr (va_runV (As := []) (rest := []) ⟨hx, hb, hml, hown, hts⟩ (c_Jx4a65c_iterator_32c93 l dC dI fl e0 0 0 s.heap.size) (cwV 0 hts gX15_fitting_Jx4a65c_iterator_32c93 rfl rfl rfl (by decide +kernel) ⟨Nat.le_of_ble_eq_true rfl, Nat.le_of_ble_eq_true rfl⟩) (pcV hPc hDc hKc hN (ci := 4) (q0 := 0) rfl rfl) rfl rfl hl.1 rfl (lv_room (Nat.le_of_ble_eq_true rfl)) dX15_fitting_4 ⟨Nat.le_of_ble_eq_true rfl, Nat.le_of_ble_eq_true rfl⟩) hS (fun q _ h => hFc q h) hFc (fun u r_1 t H1 locs ht hvm hw_2 hB hz1 hk1 hS => ?_)
  obtain ⟨hP1, hK1, hD1⟩ := hB
  rw [ht] at hP1
  try dsimp only at hw_2
  obtain ⟨hP, hD⟩ := va_join (wr := [(xm, .inr (20, [.int 0, .int 0, .ref kn, .int 0, .int 0, .int 0, .ref ml, .ref cl, .ref rg, .ref tr, .ref (aK 0), .ref (aK 0), .ref fl, .int 0, .int 0, .int 0, .int 0, .int 0, .int 0, .int 0, .null]))]) (w1 := [(fl, .inr (4, [.int 0, .ref e0, .int 0])), (r_1, .inr (3, [.int 0, .int (-1), .int 0, .ref fl]))]) hP hD [1] [0] rfl rfl (by decide) (by decide) hk1 hFc hP1 hD1
  generalize H1 = H at hP hS ⊢
  have hP : va_P (dC, dI) vwCl [(xm, .inr (20, [.int 0, .int 0, .ref kn, .int 0, .int 0, .int 0, .ref ml, .ref cl, .ref rg, .ref tr, .ref (aK 0), .ref (aK 0), .ref fl, .int 0, .int 0, .int 0, .int 0, .int 0, .int 0, .int 0, .null])), (fl, .inr (4, [.int 0, .ref e0, .int 0])), (r_1, .inr (3, [.int 0, .int (-1), .int 0, .ref fl]))] H := hP
  have hD : va_D A [(xm, .inr (20, [.int 0, .int 0, .ref kn, .int 0, .int 0, .int 0, .ref ml, .ref cl, .ref rg, .ref tr, .ref (aK 0), .ref (aK 0), .ref fl, .int 0, .int 0, .int 0, .int 0, .int 0, .int 0, .int 0, .null])), (fl, .inr (4, [.int 0, .ref e0, .int 0])), (r_1, .inr (3, [.int 0, .int (-1), .int 0, .ref fl]))] := hD
  refine W.widen (k := 1) (n := 4) (Nat.le_of_ble_eq_true rfl) (Nat.le_of_ble_eq_true rfl) ?_
  refine lv_astore_n (lv' := [(3, .ref r_1), (0, .ref xm), (1, .long n)]) hx hb dX15_fitting_7 rfl hl (by decide) rfl (fun ls hl => ?_)
  refine lv_aload_n hx hb dX15_fitting_8 rfl (lv_at hl 0 rfl) ?_
  have hPc := hP.sub (ws' := [(r_1, .inr (3, [.int 0, .int (-1), .int 0, .ref fl])), (fl, .inr (4, [.int 0, .ref e0, .int 0]))]) [2, 1] rfl
  have hDc := hD.sub (ws' := [(r_1, .inr (3, [.int 0, .int (-1), .int 0, .ref fl])), (fl, .inr (4, [.int 0, .ref e0, .int 0]))]) [2, 1] (by decide) rfl
  have hKc := hK.sub (tys' := []) [] rfl
  have hFc := va_free (wc := [(r_1, .inr (3, [.int 0, .int (-1), .int 0, .ref fl])), (fl, .inr (4, [.int 0, .ref e0, .int 0]))]) hD hS hA [2, 1] rfl
  refine va_callFi (va_runF (As := []) (rest := []) (hK.1 3 _ rfl).2 ⟨hx, hb, hml, hown, hts⟩ (c_Jx35411_hasNext_aae02 l dC dI e0 aK aV r_1 fl e0 0 0 H.size) (va_cwF 0 hts gX15_fitting_Jx35411_hasNext_aae02_f347Jx35411 rfl rfl rfl hZ.2.2.2.2.2.2.1 (by decide +kernel) ⟨Nat.le_of_ble_eq_true rfl, Nat.le_of_ble_eq_true rfl⟩) (pcVz (zM_ok e0 aK aV) hPc hDc hKc hN hZ hS hFc (ci := 3) (q0 := 0) rfl rfl) rfl rfl hl.1 rfl (lv_room (Nat.le_of_ble_eq_true rfl)) dX15_fitting_9 ⟨Nat.le_of_ble_eq_true rfl, Nat.le_of_ble_eq_true rfl⟩) hS (fun q _ h => hFc q h) hFc (fun r_3 u t H1 locs ht hvm hw_4 hB hz1 hk1 hS => ?_)
  obtain ⟨hP1, hK1, hD1⟩ := hB
  rw [ht] at hP1
  try dsimp only at hw_4
  obtain ⟨hP, hD⟩ := va_join (wr := [(xm, .inr (20, [.int 0, .int 0, .ref kn, .int 0, .int 0, .int 0, .ref ml, .ref cl, .ref rg, .ref tr, .ref (aK 0), .ref (aK 0), .ref fl, .int 0, .int 0, .int 0, .int 0, .int 0, .int 0, .int 0, .null]))]) (w1 := [(r_1, .inr (3, [.int 0, .int (-1), .int 0, .ref fl])), (fl, .inr (4, [.int 0, .ref e0, .int 0]))]) hP hD [2, 1] [0] rfl rfl (by decide) (by decide) hk1 hFc hP1 hD1
  generalize H1 = H at hP hS ⊢
  have hP : va_P (dC, dI) vwCl [(xm, .inr (20, [.int 0, .int 0, .ref kn, .int 0, .int 0, .int 0, .ref ml, .ref cl, .ref rg, .ref tr, .ref (aK 0), .ref (aK 0), .ref fl, .int 0, .int 0, .int 0, .int 0, .int 0, .int 0, .int 0, .null])), (r_1, .inr (3, [.int 0, .int (-1), .int 0, .ref fl])), (fl, .inr (4, [.int 0, .ref e0, .int 0]))] H := hP
  have hD : va_D A [(xm, .inr (20, [.int 0, .int 0, .ref kn, .int 0, .int 0, .int 0, .ref ml, .ref cl, .ref rg, .ref tr, .ref (aK 0), .ref (aK 0), .ref fl, .int 0, .int 0, .int 0, .int 0, .int 0, .int 0, .int 0, .null])), (r_1, .inr (3, [.int 0, .int (-1), .int 0, .ref fl])), (fl, .inr (4, [.int 0, .ref e0, .int 0]))] := hD
  subst hw_4
  refine lv_if_eq (tgt := 64) hx hb dX15_fitting_14 (by decide) (fun c14_5 => ?_) (fun c14_5 => ?_)
  · refine lv_null hx hb dX15_fitting_64 ?_
    have hP9 := hP.sub (ws' := [(xm, .inr (20, [.int 0, .int 0, .ref kn, .int 0, .int 0, .int 0, .ref ml, .ref cl, .ref rg, .ref tr, .ref (aK 0), .ref (aK 0), .ref fl, .int 0, .int 0, .int 0, .int 0, .int 0, .int 0, .int 0, .null])), (fl, .inr (4, [.int 0, .ref e0, .int 0]))]) [0, 2] rfl
    have hD9 := hD.sub (ws' := [(xm, .inr (20, [.int 0, .int 0, .ref kn, .int 0, .int 0, .int 0, .ref ml, .ref cl, .ref rg, .ref tr, .ref (aK 0), .ref (aK 0), .ref fl, .int 0, .int 0, .int 0, .int 0, .int 0, .int 0, .int 0, .null])), (fl, .inr (4, [.int 0, .ref e0, .int 0]))]) [0, 2] (by decide) rfl
    have hK9 := hK.sub (tys' := []) [] rfl
    exact W.aret (v := .null) hx hb hr (by first | exact Or.inl ⟨_, rfl⟩ | exact Or.inr ⟨_, rfl⟩) (Or.inl rfl) (fun t ht hW => ⟨⟨none, (), rfl, rfl, ⟨by rw [ht]; exact hP9, va_K.moved hW.alike hK9, hD9⟩⟩, hS.F ht⟩) hS.2.2 dX15_fitting_65
  · exact (c14_5 (by decide)).elim

set_option maxHeartbeats 4000000 in
set_option maxRecDepth 100000 in
/-- X15_holdoutAt -/
theorem c_X15_holdoutAt (l : Launch) (dC : Nat → ClassId) (dI : Nat → Nat → Nat) (xm ml cl fl kn rg tr : Nat) (e0 : Nat) (aK aV : Nat → Nat) (p0 : Int32) (sz : Nat) : Met l yX15_holdoutAt wsX15_holdoutAt ({ frames := 1, cells := 0, slots := 0, locals := 27 }) (va_Pc [.ref xm, .int p0] (cPC dC dI [(xm, .inr (20, [.int 0, .int 0, .ref kn, .int 0, .int 0, .int 0, .ref ml, .ref cl, .ref rg, .ref tr, .ref (aK 0), .ref (aK 0), .ref fl, .int 0, .int 0, .int 0, .int 0, .int 0, .int 0, .int 0, .null])), (ml, .inr (4, [.int 0, .ref e0, .int 0]))] [] sz)) (va_Qi (fun (r : Int32) (u : List Value) => u[5]? = some (.int 1)) (fun (u : List Value) t => cQB dC dI [(xm, .inr (20, u))] [] (va_A [(xm, .inr (20, [.int 0, .int 0, .ref kn, .int 0, .int 0, .int 0, .ref ml, .ref cl, .ref rg, .ref tr, .ref (aK 0), .ref (aK 0), .ref fl, .int 0, .int 0, .int 0, .int 0, .int 0, .int 0, .int 0, .null])), (ml, .inr (4, [.int 0, .ref e0, .int 0]))] sz) t) (va_A [(xm, .inr (20, [.int 0, .int 0, .ref kn, .int 0, .int 0, .int 0, .ref ml, .ref cl, .ref rg, .ref tr, .ref (aK 0), .ref (aK 0), .ref fl, .int 0, .int 0, .int 0, .int 0, .int 0, .int 0, .int 0, .null])), (ml, .inr (4, [.int 0, .ref e0, .int 0]))] sz)) 0 0 (va_A [(xm, .inr (20, [.int 0, .int 0, .ref kn, .int 0, .int 0, .int 0, .ref ml, .ref cl, .ref rg, .ref tr, .ref (aK 0), .ref (aK 0), .ref fl, .int 0, .int 0, .int 0, .int 0, .int 0, .int 0, .int 0, .null])), (ml, .inr (4, [.int 0, .ref e0, .int 0]))] sz) := by
  refine Met.ofW (cc := cX15_holdoutAt) (maxL := 4) (ret := (some .int)) (by decide) rfl ?_
  intro p e s m args below meth c s₁ B hml hv
  obtain ⟨rfl, hsz, hP, hK, hD0, hN⟩ := hv
  have hx := B.exec
  have hb := B.bytes
  have hr := B.returns
  have hts := atoms_spec (ws := wsX15_holdoutAt) B.pre
  have hown : s.vm.findClass RX15 = some m.cls := findClass_of_methodNamed B.named
  have hlocks := B.notSynchronized
  subst hsz
  have hD := hD0.self (sz := s.heap.size)
  generalize hAe : va_A [(xm, .inr (20, [.int 0, .int 0, .ref kn, .int 0, .int 0, .int 0, .ref ml, .ref cl, .ref rg, .ref tr, .ref (aK 0), .ref (aK 0), .ref fl, .int 0, .int 0, .int 0, .int 0, .int 0, .int 0, .int 0, .null])), (ml, .inr (4, [.int 0, .ref e0, .int 0]))] s.heap.size = A at hD ⊢
  have hA : ∀ q : Nat, s.heap.size ≤ q → A q := fun q h => by rw [← hAe]; exact Or.inr h
  have hS : va_S A s.heap s.heap [] := va_S.rf
  have hP : va_P (dC, dI) vwCl [(xm, .inr (20, [.int 0, .int 0, .ref kn, .int 0, .int 0, .int 0, .ref ml, .ref cl, .ref rg, .ref tr, .ref (aK 0), .ref (aK 0), .ref fl, .int 0, .int 0, .int 0, .int 0, .int 0, .int 0, .int 0, .null])), (ml, .inr (4, [.int 0, .ref e0, .int 0]))] s.heap := hP
  have hD : va_D A [(xm, .inr (20, [.int 0, .int 0, .ref kn, .int 0, .int 0, .int 0, .ref ml, .ref cl, .ref rg, .ref tr, .ref (aK 0), .ref (aK 0), .ref fl, .int 0, .int 0, .int 0, .int 0, .int 0, .int 0, .int 0, .null])), (ml, .inr (4, [.int 0, .ref e0, .int 0]))] := hD
  have hl := lv_entry ([.ref xm, .int p0]) (n := 4) (Nat.le_of_ble_eq_true rfl)
  rw [lg_entry_eq]
  generalize (lg_sl ([.ref xm, .int p0]) ++ List.replicate (4 - (lg_sl ([.ref xm, .int p0])).length) Slot.unset).toArray = ls at hl ⊢
  have hl : lv_has ls 4 [(0, .ref xm), (1, .int p0)] := hl
  have iWX15 : ∀ w ∈ u_ws RX15 TX15 21, w ∈ wsX15_holdoutAt := by decide +kernel
  refine lv_iload_n hx hb dX15_holdoutAt_0 rfl (lv_at hl 1 rfl) ?_
  refine lv_istore_n (lv' := [(2, .int p0), (0, .ref xm), (1, .int p0)]) hx hb dX15_holdoutAt_1 rfl hl (by decide) rfl (fun ls hl => ?_)
  refine lv_iconst (v := 0) hx hb dX15_holdoutAt_2 (by decide) ?_
  refine lv_istore_n (lv' := [(3, .int 0), (2, .int p0), (0, .ref xm), (1, .int p0)]) hx hb dX15_holdoutAt_3 rfl hl (by decide) rfl (fun ls hl => ?_)
  refine lv_iload_n hx hb dX15_holdoutAt_4 rfl (lv_at hl 0 rfl) ?_
  refine lv_aload_n hx hb dX15_holdoutAt_5 rfl (lv_at hl 2 rfl) ?_
  refine va_get (D := (dC, dI)) (ci := 20) (v := .ref ml) (C := RX15) (T := TX15) (N := 21) hx hb hts iWX15 hown hK hP 0 rfl rfl 6 (by decide) (hts (.fieldLink RX15 181 "BeaverhallModel" "machines" "Ljava/util/ArrayList;") (by decide +kernel)) (fun _ h9 => h9) rfl dX15_holdoutAt_6 ?_
  have hPc := hP.sub (ws' := [(ml, .inr (4, [.int 0, .ref e0, .int 0]))]) [1] rfl
  have hDc := hD.sub (ws' := [(ml, .inr (4, [.int 0, .ref e0, .int 0]))]) [1] (by decide) rfl
  have hKc := hK.sub (tys' := []) [] rfl
  have hFc := va_free (wc := [(ml, .inr (4, [.int 0, .ref e0, .int 0]))]) hD hS hA [1] rfl
  refine va_calli (va_runV (As := []) (rest := [.int 0]) ⟨hx, hb, hml, hown, hts⟩ (c_Jx4a65c_size_8abf5 l dC dI ml e0 0 0 s.heap.size) (cwV 0 hts gX15_holdoutAt_Jx4a65c_size_8abf5 rfl rfl rfl (by decide +kernel) ⟨Nat.le_of_ble_eq_true rfl, Nat.le_of_ble_eq_true rfl⟩) (pcV hPc hDc hKc hN (ci := 4) (q0 := 0) rfl rfl) rfl rfl hl.1 rfl (lv_room (Nat.le_of_ble_eq_true rfl)) dX15_holdoutAt_9 ⟨Nat.le_of_ble_eq_true rfl, Nat.le_of_ble_eq_true rfl⟩) hS (fun q _ h => hFc q h) hFc (fun r_1 u t H1 locs ht hvm hw_2 hB hz1 hk1 hS => ?_)
  obtain ⟨hP1, hK1, hD1⟩ := hB
  rw [ht] at hP1
  try dsimp only at hw_2
  obtain ⟨hP, hD⟩ := va_join (wr := [(xm, .inr (20, [.int 0, .int 0, .ref kn, .int 0, .int 0, .int 0, .ref ml, .ref cl, .ref rg, .ref tr, .ref (aK 0), .ref (aK 0), .ref fl, .int 0, .int 0, .int 0, .int 0, .int 0, .int 0, .int 0, .null]))]) (w1 := [(ml, .inr (4, [.int 0, .ref e0, .int 0]))]) hP hD [1] [0] rfl rfl (by decide) (by decide) hk1 hFc hP1 hD1
  generalize H1 = H at hP hS ⊢
  have hP : va_P (dC, dI) vwCl [(xm, .inr (20, [.int 0, .int 0, .ref kn, .int 0, .int 0, .int 0, .ref ml, .ref cl, .ref rg, .ref tr, .ref (aK 0), .ref (aK 0), .ref fl, .int 0, .int 0, .int 0, .int 0, .int 0, .int 0, .int 0, .null])), (ml, .inr (4, [.int 0, .ref e0, .int 0]))] H := hP
  have hD : va_D A [(xm, .inr (20, [.int 0, .int 0, .ref kn, .int 0, .int 0, .int 0, .ref ml, .ref cl, .ref rg, .ref tr, .ref (aK 0), .ref (aK 0), .ref fl, .int 0, .int 0, .int 0, .int 0, .int 0, .int 0, .int 0, .null])), (ml, .inr (4, [.int 0, .ref e0, .int 0]))] := hD
  subst hw_2
  refine lv_icmp_ge (tgt := 53) hx hb dX15_holdoutAt_12 (by decide) (fun c12_3 => ?_) (fun c12_3 => ?_)
  · refine lv_aload_n hx hb dX15_holdoutAt_53 rfl (lv_at hl 2 rfl) ?_
    refine lv_iconst (v := 1) hx hb dX15_holdoutAt_54 (by decide) ?_
    have hPc := hP.sub (ws' := [(xm, .inr (20, [.int 0, .int 0, .ref kn, .int 0, .int 0, .int 0, .ref ml, .ref cl, .ref rg, .ref tr, .ref (aK 0), .ref (aK 0), .ref fl, .int 0, .int 0, .int 0, .int 0, .int 0, .int 0, .int 0, .null]))]) [0] rfl
    have hDc := hD.sub (ws' := [(xm, .inr (20, [.int 0, .int 0, .ref kn, .int 0, .int 0, .int 0, .ref ml, .ref cl, .ref rg, .ref tr, .ref (aK 0), .ref (aK 0), .ref fl, .int 0, .int 0, .int 0, .int 0, .int 0, .int 0, .int 0, .null]))]) [0] (by decide) rfl
    have hKc := hK.sub (tys' := []) [] rfl
    have hFc := va_free (wc := [(xm, .inr (20, [.int 0, .int 0, .ref kn, .int 0, .int 0, .int 0, .ref ml, .ref cl, .ref rg, .ref tr, .ref (aK 0), .ref (aK 0), .ref fl, .int 0, .int 0, .int 0, .int 0, .int 0, .int 0, .int 0, .null]))]) hD hS hA [0] rfl
    refine va_calli (va_runV (As := [.int 1]) (rest := []) ⟨hx, hb, hml, hown, hts⟩ (c_X15_raises l dC dI xm ml cl fl kn rg tr e0 aK aV 1 H.size) (cwV 1 hts gX15_holdoutAt_X15_raises rfl rfl rfl (by decide +kernel) ⟨Nat.le_of_ble_eq_true rfl, Nat.le_of_ble_eq_true rfl⟩) (pcV hPc hDc hKc hN (ci := 20) (q0 := 0) rfl rfl) rfl rfl hl.1 rfl (lv_room (Nat.le_of_ble_eq_true rfl)) dX15_holdoutAt_55 ⟨Nat.le_of_ble_eq_true rfl, Nat.le_of_ble_eq_true rfl⟩) hS (fun q _ h => hFc q h) hFc (fun r_4 u t H1 locs ht hvm hw_5 hB hz1 hk1 hS => ?_)
    obtain ⟨hP1, hK1, hD1⟩ := hB
    rw [ht] at hP1
    try dsimp only at hw_5
    obtain ⟨hP, hD⟩ := va_join (wr := [(ml, .inr (4, [.int 0, .ref e0, .int 0]))]) (w1 := [(xm, .inr (20, [.int 0, .int 0, .ref kn, .int 0, .int 0, .int 1, .ref ml, .ref cl, .ref rg, .ref tr, .ref (aK 0), .ref (aK 0), .ref fl, .int 0, .int 0, .int 0, .int 0, .int 0, .int 0, .int 0, .null]))]) hP hD [0] [1] rfl rfl (by decide) (by decide) hk1 hFc hP1 hD1
    generalize H1 = H at hP hS ⊢
    have hP : va_P (dC, dI) vwCl [(ml, .inr (4, [.int 0, .ref e0, .int 0])), (xm, .inr (20, [.int 0, .int 0, .ref kn, .int 0, .int 0, .int 1, .ref ml, .ref cl, .ref rg, .ref tr, .ref (aK 0), .ref (aK 0), .ref fl, .int 0, .int 0, .int 0, .int 0, .int 0, .int 0, .int 0, .null]))] H := hP
    have hD : va_D A [(ml, .inr (4, [.int 0, .ref e0, .int 0])), (xm, .inr (20, [.int 0, .int 0, .ref kn, .int 0, .int 0, .int 1, .ref ml, .ref cl, .ref rg, .ref tr, .ref (aK 0), .ref (aK 0), .ref fl, .int 0, .int 0, .int 0, .int 0, .int 0, .int 0, .int 0, .null]))] := hD
    subst hw_5
    have hP9 := hP.sub (ws' := [(xm, .inr (20, [.int 0, .int 0, .ref kn, .int 0, .int 0, .int 1, .ref ml, .ref cl, .ref rg, .ref tr, .ref (aK 0), .ref (aK 0), .ref fl, .int 0, .int 0, .int 0, .int 0, .int 0, .int 0, .int 0, .null]))]) [1] rfl
    have hD9 := hD.sub (ws' := [(xm, .inr (20, [.int 0, .int 0, .ref kn, .int 0, .int 0, .int 1, .ref ml, .ref cl, .ref rg, .ref tr, .ref (aK 0), .ref (aK 0), .ref fl, .int 0, .int 0, .int 0, .int 0, .int 0, .int 0, .int 0, .null]))]) [1] (by decide) rfl
    have hK9 := hK.sub (tys' := []) [] rfl
    exact W.iret (v := 0) hx hb hr (fun t ht hW => ⟨⟨0, [.int 0, .int 0, .ref kn, .int 0, .int 0, .int 1, .ref ml, .ref cl, .ref rg, .ref tr, .ref (aK 0), .ref (aK 0), .ref fl, .int 0, .int 0, .int 0, .int 0, .int 0, .int 0, .int 0, .null], rfl, rfl, ⟨by rw [ht]; exact hP9, va_K.moved hW.alike hK9, hD9⟩⟩, hS.F ht⟩) hS.2.2 dX15_holdoutAt_58
  · exact (c12_3 (by decide)).elim
