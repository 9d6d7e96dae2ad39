theorem dL_order_0 : decode cL_order 0 = .ok (.aload 7, 2) := by decide +kernel
theorem dL_order_2 : decode cL_order 2 = .ok (.iconst 0, 1) := by decide +kernel
theorem dL_order_3 : decode cL_order 3 = .ok (.aload_n 0, 1) := by decide +kernel
theorem dL_order_4 : decode cL_order 4 = .ok (.iload_n 1, 1) := by decide +kernel
theorem dL_order_5 : decode cL_order 5 = .ok (.iload_n 2, 1) := by decide +kernel
theorem dL_order_6 : decode cL_order 6 = .ok (.iload_n 3, 1) := by decide +kernel
theorem dL_order_7 : decode cL_order 7 = .ok (.iload 4, 2) := by decide +kernel
theorem dL_order_9 : decode cL_order 9 = .ok (.iload 5, 2) := by decide +kernel
theorem dL_order_11 : decode cL_order 11 = .ok (.iload 6, 2) := by decide +kernel
set_option maxRecDepth 20000 in
theorem ggL_order_X11_order : GoodIn wsL_order wsX11_order := goodIn_ca (goodIn_ca (goodIn_ca (goodIn_r _ [7, 8, 9, 10, 11, 6, 12, 13, 14, 15, 16, 17, 18, 19, 20, 21, 22, 23, 24, 25, 26, 27, 28, 29, 30, 31, 32, 33, 34, 35, 36, 37, 38, 39, 40, 41, 42, 43, 44, 45, 46, 47, 48, 49, 50, 51, 52, 53, 54, 55, 56, 57, 58, 59, 60, 61, 62, 63, 64, 65, 66, 67, 68] (by decide +kernel) (by decide +kernel)) (goodIn_sub (fun _ h => List.mem_cons_of_mem _ (List.mem_append_left _ (List.mem_append_right _ h))) (by decide +kernel))) (goodIn_sub (fun _ h => List.mem_cons_of_mem _ (List.mem_append_right _ h)) (by decide +kernel))) (goodIn_sub (fun _ h => List.mem_cons_of_mem _ (List.mem_append_left _ (List.mem_append_left _ (List.mem_append_right _ h)))) (by decide +kernel))
set_option maxRecDepth 20000 in
theorem gL_order_X11_order : GoodIn wsL_order (wsV RL 17 RX11 yX11_order wsX11_order) := goodIn_app (goodIn_of _ (by decide +kernel)) ggL_order_X11_order
theorem dL_order_13 : decode cL_order 13 = .ok (.invokevirtual 17, 3) := by decide +kernel
theorem dL_order_21 : decode cL_order 21 = .ok (.astore 8, 2) := by decide +kernel
theorem dL_order_23 : decode cL_order 23 = .ok (.iconst 1, 1) := by decide +kernel
theorem dL_order_24 : decode cL_order 24 = .ok (.ireturn, 1) := by decide +kernel
theorem dL_untell_0 : decode cL_untell 0 = .ok (.aload 4, 2) := by decide +kernel
theorem dL_untell_2 : decode cL_untell 2 = .ok (.iconst 0, 1) := by decide +kernel
theorem dL_untell_3 : decode cL_untell 3 = .ok (.aload_n 0, 1) := by decide +kernel
theorem dL_untell_4 : decode cL_untell 4 = .ok (.iload_n 1, 1) := by decide +kernel
theorem dL_untell_5 : decode cL_untell 5 = .ok (.iload_n 2, 1) := by decide +kernel
theorem dL_untell_6 : decode cL_untell 6 = .ok (.iload_n 3, 1) := by decide +kernel
set_option maxRecDepth 20000 in
theorem ggL_untell_X11_untell : GoodIn wsL_untell wsX11_untell := goodIn_ca (goodIn_ca (goodIn_ca (goodIn_ca (goodIn_r _ [8, 9, 10, 11, 12, 7, 13, 14, 15, 16, 17, 18, 19, 20, 21, 22, 23, 24, 25, 26, 27, 28, 29, 30, 31, 32, 33, 34, 35, 36, 37, 38, 39, 40, 41, 42, 43, 44, 45, 46, 47, 48, 49, 50, 51, 52, 53, 54, 55, 56, 57, 58, 59, 60, 61, 62, 63, 64, 65, 66, 67, 68, 69, 70, 71, 72] (by decide +kernel) (by decide +kernel)) (goodIn_sub (fun _ h => List.mem_cons_of_mem _ (List.mem_append_left _ (List.mem_append_left _ (List.mem_append_right _ h)))) (by decide +kernel))) (goodIn_sub (fun _ h => List.mem_cons_of_mem _ (List.mem_append_left _ (List.mem_append_right _ h))) (by decide +kernel))) (goodIn_sub (fun _ h => List.mem_cons_of_mem _ (List.mem_append_left _ (List.mem_append_left _ (List.mem_append_left _ (List.mem_append_right _ h))))) (by decide +kernel))) (goodIn_sub (fun _ h => List.mem_cons_of_mem _ (List.mem_append_right _ h)) (by decide +kernel))
set_option maxRecDepth 20000 in
theorem gL_untell_X11_untell : GoodIn wsL_untell (wsV RL 23 RX11 yX11_untell wsX11_untell) := goodIn_app (goodIn_of _ (by decide +kernel)) ggL_untell_X11_untell
theorem dL_untell_7 : decode cL_untell 7 = .ok (.invokevirtual 23, 3) := by decide +kernel
theorem dL_untell_15 : decode cL_untell 15 = .ok (.astore 5, 2) := by decide +kernel
theorem dL_untell_17 : decode cL_untell 17 = .ok (.iconst 1, 1) := by decide +kernel
theorem dL_untell_18 : decode cL_untell 18 = .ok (.ireturn, 1) := by decide +kernel
theorem dL_copy_0 : decode cL_copy 0 = .ok (.aload_n 2, 1) := by decide +kernel
theorem dL_copy_1 : decode cL_copy 1 = .ok (.iconst 0, 1) := by decide +kernel
theorem dL_copy_2 : decode cL_copy 2 = .ok (.aload_n 0, 1) := by decide +kernel
theorem dL_copy_3 : decode cL_copy 3 = .ok (.iload_n 1, 1) := by decide +kernel
set_option maxRecDepth 20000 in
theorem ggL_copy_X11_copy : GoodIn wsL_copy wsX11_copy := goodIn_ca (goodIn_ca (goodIn_ca (goodIn_r _ [7, 8, 9, 10, 11, 12, 13, 14, 15, 16, 6, 17, 18, 19, 20, 21, 22, 23, 24, 25, 26, 27, 28, 29, 30, 31, 32, 33, 34, 35, 36, 37, 38, 39, 40, 41, 42, 43, 44, 45, 46, 47, 48, 49, 50, 51, 52, 53, 54, 55, 56, 57, 58, 59, 60, 61, 62, 63, 64, 65, 66, 67, 68, 69, 70, 71, 72, 73, 74, 75, 76, 77, 78, 79, 80, 81, 82, 83, 84, 85, 86, 87, 88, 89, 90, 91, 92, 93, 94, 95, 96, 97, 98, 99, 100, 101, 102, 103, 104, 105] (by decide +kernel) (by decide +kernel)) (goodIn_sub (fun _ h => List.mem_cons_of_mem _ (List.mem_append_left _ (List.mem_append_right _ h))) (by decide +kernel))) (goodIn_sub (fun _ h => List.mem_cons_of_mem _ (List.mem_append_right _ h)) (by decide +kernel))) (goodIn_sub (fun _ h => List.mem_cons_of_mem _ (List.mem_append_left _ (List.mem_append_left _ (List.mem_append_right _ h)))) (by decide +kernel))
set_option maxRecDepth 20000 in
theorem gL_copy_X11_copy : GoodIn wsL_copy (wsV RL 29 RX11 yX11_copy wsX11_copy) := goodIn_app (goodIn_of _ (by decide +kernel)) ggL_copy_X11_copy
theorem dL_copy_4 : decode cL_copy 4 = .ok (.invokevirtual 29, 3) := by decide +kernel
theorem dL_copy_12 : decode cL_copy 12 = .ok (.astore_n 3, 1) := by decide +kernel
theorem dL_copy_13 : decode cL_copy 13 = .ok (.iconst 1, 1) := by decide +kernel
theorem dL_copy_14 : decode cL_copy 14 = .ok (.ireturn, 1) := by decide +kernel
theorem dL_run_0 : decode cL_run 0 = .ok (.aload_n 3, 1) := by decide +kernel
theorem dL_run_1 : decode cL_run 1 = .ok (.iconst 0, 1) := by decide +kernel
theorem dL_run_2 : decode cL_run 2 = .ok (.aload_n 0, 1) := by decide +kernel
theorem dL_run_3 : decode cL_run 3 = .ok (.iload_n 1, 1) := by decide +kernel
theorem dL_run_4 : decode cL_run 4 = .ok (.iload_n 2, 1) := by decide +kernel
set_option maxRecDepth 20000 in
theorem ggL_run_X11_run : GoodIn wsL_run wsX11_run := goodIn_ca (goodIn_ca (goodIn_ca (goodIn_r _ [7, 8, 9, 10, 11, 12, 13, 6, 14, 15, 16, 17, 18, 19, 20, 21, 22, 23, 24, 25, 26, 27, 28, 29, 30, 31, 32, 33, 34, 35, 36, 37, 38, 39, 40, 41, 42, 43, 44, 45, 46, 47, 48, 49, 50, 51, 52, 53, 54, 55, 56, 57, 58, 59, 60, 61, 62, 63, 64, 65, 66, 67, 68, 69, 70, 71, 72, 73, 74, 75, 76, 77, 78, 79, 80, 81, 82, 83, 84, 85, 86, 87, 88, 89, 90, 91, 92, 93, 94, 95, 96, 97, 98, 99, 100, 101, 102, 103, 104, 105, 106, 107, 108] (by decide +kernel) (by decide +kernel)) (goodIn_sub (fun _ h => List.mem_cons_of_mem _ (List.mem_append_left _ (List.mem_append_right _ h))) (by decide +kernel))) (goodIn_sub (fun _ h => List.mem_cons_of_mem _ (List.mem_append_right _ h)) (by decide +kernel))) (goodIn_sub (fun _ h => List.mem_cons_of_mem _ (List.mem_append_left _ (List.mem_append_left _ (List.mem_append_right _ h)))) (by decide +kernel))
set_option maxRecDepth 20000 in
theorem gL_run_X11_run : GoodIn wsL_run (wsV RL 33 RX11 yX11_run wsX11_run) := goodIn_app (goodIn_of _ (by decide +kernel)) ggL_run_X11_run
theorem dL_run_5 : decode cL_run 5 = .ok (.invokevirtual 33, 3) := by decide +kernel
theorem dL_run_13 : decode cL_run 13 = .ok (.astore 4, 2) := by decide +kernel
theorem dL_run_15 : decode cL_run 15 = .ok (.iconst 1, 1) := by decide +kernel
theorem dL_run_16 : decode cL_run 16 = .ok (.ireturn, 1) := by decide +kernel
theorem dL_hasHalted_0 : decode cL_hasHalted 0 = .ok (.aload_n 2, 1) := by decide +kernel
theorem dL_hasHalted_1 : decode cL_hasHalted 1 = .ok (.iconst 0, 1) := by decide +kernel
theorem dL_hasHalted_2 : decode cL_hasHalted 2 = .ok (.aload_n 0, 1) := by decide +kernel
theorem dL_hasHalted_3 : decode cL_hasHalted 3 = .ok (.iload_n 1, 1) := by decide +kernel
set_option maxRecDepth 20000 in
theorem ggL_hasHalted_X11_hasHalted : GoodIn wsL_hasHalted wsX11_hasHalted := goodIn_ca (goodIn_ca (goodIn_ca (goodIn_r _ [7, 8, 9, 10, 11, 12, 6, 13, 14, 15, 16, 17, 18, 19, 20, 21, 22, 23, 24, 25, 26, 27, 28, 29, 30, 31, 32, 33, 34, 35, 36, 37, 38, 39, 40, 41, 42, 43, 44, 45, 46, 47, 48, 49, 50, 51, 52, 53, 54, 55, 56, 57, 58, 59, 60, 61, 62, 63, 64, 65, 66, 67, 68] (by decide +kernel) (by decide +kernel)) (goodIn_sub (fun _ h => List.mem_cons_of_mem _ (List.mem_append_left _ (List.mem_append_right _ h))) (by decide +kernel))) (goodIn_sub (fun _ h => List.mem_cons_of_mem _ (List.mem_append_right _ h)) (by decide +kernel))) (goodIn_sub (fun _ h => List.mem_cons_of_mem _ (List.mem_append_left _ (List.mem_append_left _ (List.mem_append_right _ h)))) (by decide +kernel))
set_option maxRecDepth 20000 in
theorem gL_hasHalted_X11_hasHalted : GoodIn wsL_hasHalted (wsV RL 37 RX11 yX11_hasHalted wsX11_hasHalted) := goodIn_app (goodIn_of _ (by decide +kernel)) ggL_hasHalted_X11_hasHalted
theorem dL_hasHalted_4 : decode cL_hasHalted 4 = .ok (.invokevirtual 37, 3) := by decide +kernel
theorem dL_hasHalted_19 : decode cL_hasHalted 19 = .ok (.astore_n 3, 1) := by decide +kernel
theorem dL_hasHalted_20 : decode cL_hasHalted 20 = .ok (.iconst 1, 1) := by decide +kernel
theorem dL_hasHalted_21 : decode cL_hasHalted 21 = .ok (.ireturn, 1) := by decide +kernel
theorem dL_ran_0 : decode cL_ran 0 = .ok (.aload_n 3, 1) := by decide +kernel
theorem dL_ran_1 : decode cL_ran 1 = .ok (.iconst 0, 1) := by decide +kernel
theorem dL_ran_2 : decode cL_ran 2 = .ok (.aload_n 0, 1) := by decide +kernel
theorem dL_ran_3 : decode cL_ran 3 = .ok (.iload_n 1, 1) := by decide +kernel
theorem dL_ran_4 : decode cL_ran 4 = .ok (.iload_n 2, 1) := by decide +kernel
set_option maxRecDepth 20000 in
theorem ggL_ran_X11_ran : GoodIn wsL_ran wsX11_ran := goodIn_ca (goodIn_ca (goodIn_ca (goodIn_ca (goodIn_r _ [8, 9, 10, 11, 12, 13, 7, 14, 15, 16, 17, 18, 19, 20, 21, 22, 23, 24, 25, 26, 27, 28, 29, 30, 31, 32, 33, 34, 35, 36, 37, 38, 39, 40, 41, 42, 43, 44, 45, 46, 47, 48, 49, 50, 51, 52, 53, 54, 55, 56, 57, 58, 59, 60, 61, 62, 63, 64, 65, 66, 67, 68, 69, 70, 71] (by decide +kernel) (by decide +kernel)) (goodIn_sub (fun _ h => List.mem_cons_of_mem _ (List.mem_append_left _ (List.mem_append_left _ (List.mem_append_right _ h)))) (by decide +kernel))) (goodIn_sub (fun _ h => List.mem_cons_of_mem _ (List.mem_append_left _ (List.mem_append_right _ h))) (by decide +kernel))) (goodIn_sub (fun _ h => List.mem_cons_of_mem _ (List.mem_append_right _ h)) (by decide +kernel))) (goodIn_sub (fun _ h => List.mem_cons_of_mem _ (List.mem_append_left _ (List.mem_append_left _ (List.mem_append_left _ (List.mem_append_right _ h))))) (by decide +kernel))
set_option maxRecDepth 20000 in
theorem gL_ran_X11_ran : GoodIn wsL_ran (wsV RL 41 RX11 yX11_ran wsX11_ran) := goodIn_app (goodIn_of _ (by decide +kernel)) ggL_ran_X11_ran
theorem dL_ran_5 : decode cL_ran 5 = .ok (.invokevirtual 41, 3) := by decide +kernel
theorem dL_ran_13 : decode cL_ran 13 = .ok (.astore 4, 2) := by decide +kernel
theorem dL_ran_15 : decode cL_ran 15 = .ok (.iconst 1, 1) := by decide +kernel
theorem dL_ran_16 : decode cL_ran 16 = .ok (.ireturn, 1) := by decide +kernel
theorem dL_signAt_0 : decode cL_signAt 0 = .ok (.aload_n 3, 1) := by decide +kernel
theorem dL_signAt_1 : decode cL_signAt 1 = .ok (.iconst 0, 1) := by decide +kernel
theorem dL_signAt_2 : decode cL_signAt 2 = .ok (.aload_n 0, 1) := by decide +kernel
theorem dL_signAt_3 : decode cL_signAt 3 = .ok (.iload_n 1, 1) := by decide +kernel
theorem dL_signAt_4 : decode cL_signAt 4 = .ok (.iload_n 2, 1) := by decide +kernel
set_option maxRecDepth 20000 in
theorem ggL_signAt_X11_signAt : GoodIn wsL_signAt wsX11_signAt := goodIn_ca (goodIn_ca (goodIn_ca (goodIn_r _ [7, 8, 9, 10, 11, 12, 6, 13, 14, 15, 16, 17, 18, 19, 20, 21, 22, 23, 24, 25, 26, 27, 28, 29, 30, 31, 32, 33, 34, 35, 36, 37, 38, 39, 40, 41, 42, 43, 44, 45, 46, 47, 48, 49, 50, 51, 52, 53] (by decide +kernel) (by decide +kernel)) (goodIn_sub (fun _ h => List.mem_cons_of_mem _ (List.mem_append_left _ (List.mem_append_right _ h))) (by decide +kernel))) (goodIn_sub (fun _ h => List.mem_cons_of_mem _ (List.mem_append_right _ h)) (by decide +kernel))) (goodIn_sub (fun _ h => List.mem_cons_of_mem _ (List.mem_append_left _ (List.mem_append_left _ (List.mem_append_right _ h)))) (by decide +kernel))
set_option maxRecDepth 20000 in
theorem gL_signAt_X11_signAt : GoodIn wsL_signAt (wsV RL 45 RX11 yX11_signAt wsX11_signAt) := goodIn_app (goodIn_of _ (by decide +kernel)) ggL_signAt_X11_signAt
theorem dL_signAt_5 : decode cL_signAt 5 = .ok (.invokevirtual 45, 3) := by decide +kernel
theorem dL_signAt_13 : decode cL_signAt 13 = .ok (.astore 4, 2) := by decide +kernel
theorem dL_signAt_15 : decode cL_signAt 15 = .ok (.iconst 1, 1) := by decide +kernel
theorem dL_signAt_16 : decode cL_signAt 16 = .ok (.ireturn, 1) := by decide +kernel
theorem dL_print_0 : decode cL_print 0 = .ok (.aload_n 2, 1) := by decide +kernel
theorem dL_print_1 : decode cL_print 1 = .ok (.iconst 0, 1) := by decide +kernel
theorem dL_print_2 : decode cL_print 2 = .ok (.aload_n 0, 1) := by decide +kernel
theorem dL_print_3 : decode cL_print 3 = .ok (.iload_n 1, 1) := by decide +kernel
set_option maxRecDepth 20000 in
theorem ggL_print_X11_print : GoodIn wsL_print wsX11_print := goodIn_ca (goodIn_ca (goodIn_ca (goodIn_r _ [7, 8, 9, 10, 11, 12, 6, 13, 14, 15, 16, 17, 18, 19, 20, 21, 22, 23, 24, 25, 26, 27, 28, 29, 30, 31, 32, 33, 34, 35, 36, 37, 38, 39, 40, 41, 42, 43, 44, 45, 46, 47, 48, 49, 50, 51, 52, 53, 54, 55, 56, 57, 58, 59, 60, 61, 62, 63] (by decide +kernel) (by decide +kernel)) (goodIn_sub (fun _ h => List.mem_cons_of_mem _ (List.mem_append_left _ (List.mem_append_right _ h))) (by decide +kernel))) (goodIn_sub (fun _ h => List.mem_cons_of_mem _ (List.mem_append_right _ h)) (by decide +kernel))) (goodIn_sub (fun _ h => List.mem_cons_of_mem _ (List.mem_append_left _ (List.mem_append_left _ (List.mem_append_right _ h)))) (by decide +kernel))
set_option maxRecDepth 20000 in
theorem gL_print_X11_print : GoodIn wsL_print (wsV RL 48 RX11 yX11_print wsX11_print) := goodIn_app (goodIn_of _ (by decide +kernel)) ggL_print_X11_print
theorem dL_print_4 : decode cL_print 4 = .ok (.invokevirtual 48, 3) := by decide +kernel
theorem dL_print_11 : decode cL_print 11 = .ok (.astore_n 3, 1) := by decide +kernel
theorem dL_print_12 : decode cL_print 12 = .ok (.iconst 1, 1) := by decide +kernel
theorem dL_print_13 : decode cL_print 13 = .ok (.ireturn, 1) := by decide +kernel
theorem dL_printByRuns_0 : decode cL_printByRuns 0 = .ok (.aload_n 3, 1) := by decide +kernel
theorem dL_printByRuns_1 : decode cL_printByRuns 1 = .ok (.iconst 0, 1) := by decide +kernel
theorem dL_printByRuns_2 : decode cL_printByRuns 2 = .ok (.aload_n 0, 1) := by decide +kernel
theorem dL_printByRuns_3 : decode cL_printByRuns 3 = .ok (.iload_n 1, 1) := by decide +kernel
theorem dL_printByRuns_4 : decode cL_printByRuns 4 = .ok (.iload_n 2, 1) := by decide +kernel
set_option maxRecDepth 20000 in
theorem ggL_printByRuns_X11_printByRuns : GoodIn wsL_printByRuns wsX11_printByRuns := goodIn_ca (goodIn_ca (goodIn_ca (goodIn_r _ [7, 8, 9, 10, 11, 6, 12, 13, 14, 15, 16, 17, 18, 19, 20, 21, 22, 23, 24, 25, 26, 27, 28, 29, 30, 31, 32, 33, 34, 35, 36, 37, 38, 39, 40, 41, 42, 43, 44, 45, 46, 47, 48, 49, 50, 51, 52, 53, 54, 55, 56, 57, 58, 59, 60, 61, 62, 63, 64, 65, 66, 67, 68, 69, 70, 71, 72, 73, 74, 75, 76, 77, 78, 79, 80, 81, 82, 83, 84, 85, 86, 87, 88, 89, 90, 91, 92, 93, 94, 95, 96, 97, 98, 99, 100, 101, 102, 103, 104, 105, 106, 107, 108, 109, 110, 111, 112, 113, 114, 115, 116, 117, 118, 119, 120, 121, 122, 123] (by decide +kernel) (by decide +kernel)) (goodIn_sub (fun _ h => List.mem_cons_of_mem _ (List.mem_append_left _ (List.mem_append_right _ h))) (by decide +kernel))) (goodIn_sub (fun _ h => List.mem_cons_of_mem _ (List.mem_append_right _ h)) (by decide +kernel))) (goodIn_sub (fun _ h => List.mem_cons_of_mem _ (List.mem_append_left _ (List.mem_append_left _ (List.mem_append_right _ h)))) (by decide +kernel))
set_option maxRecDepth 20000 in
theorem gL_printByRuns_X11_printByRuns : GoodIn wsL_printByRuns (wsV RL 52 RX11 yX11_printByRuns wsX11_printByRuns) := goodIn_app (goodIn_of _ (by decide +kernel)) ggL_printByRuns_X11_printByRuns
theorem dL_printByRuns_5 : decode cL_printByRuns 5 = .ok (.invokevirtual 52, 3) := by decide +kernel
theorem dL_printByRuns_12 : decode cL_printByRuns 12 = .ok (.astore 4, 2) := by decide +kernel
theorem dL_printByRuns_14 : decode cL_printByRuns 14 = .ok (.iconst 1, 1) := by decide +kernel
theorem dL_printByRuns_15 : decode cL_printByRuns 15 = .ok (.ireturn, 1) := by decide +kernel
theorem dL_runsOf_0 : decode cL_runsOf 0 = .ok (.aload_n 2, 1) := by decide +kernel
theorem dL_runsOf_1 : decode cL_runsOf 1 = .ok (.iconst 0, 1) := by decide +kernel
theorem dL_runsOf_2 : decode cL_runsOf 2 = .ok (.aload_n 0, 1) := by decide +kernel
theorem dL_runsOf_3 : decode cL_runsOf 3 = .ok (.iload_n 1, 1) := by decide +kernel
set_option maxRecDepth 20000 in
theorem ggL_runsOf_X11_runsOf : GoodIn wsL_runsOf wsX11_runsOf := goodIn_ca (goodIn_ca (goodIn_ca (goodIn_r _ [7, 8, 9, 10, 11, 12, 6, 13, 14, 15, 16, 17, 18, 19, 20, 21, 22, 23, 24, 25, 26, 27, 28, 29, 30, 31, 32, 33, 34, 35, 36, 37, 38, 39, 40, 41, 42, 43, 44, 45, 46, 47, 48, 49, 50, 51, 52, 53, 54, 55, 56, 57, 58, 59] (by decide +kernel) (by decide +kernel)) (goodIn_sub (fun _ h => List.mem_cons_of_mem _ (List.mem_append_left _ (List.mem_append_right _ h))) (by decide +kernel))) (goodIn_sub (fun _ h => List.mem_cons_of_mem _ (List.mem_append_right _ h)) (by decide +kernel))) (goodIn_sub (fun _ h => List.mem_cons_of_mem _ (List.mem_append_left _ (List.mem_append_left _ (List.mem_append_right _ h)))) (by decide +kernel))
set_option maxRecDepth 20000 in
theorem gL_runsOf_X11_runsOf : GoodIn wsL_runsOf (wsV RL 56 RX11 yX11_runsOf wsX11_runsOf) := goodIn_app (goodIn_of _ (by decide +kernel)) ggL_runsOf_X11_runsOf
theorem dL_runsOf_4 : decode cL_runsOf 4 = .ok (.invokevirtual 56, 3) := by decide +kernel
theorem dL_runsOf_12 : decode cL_runsOf 12 = .ok (.astore_n 3, 1) := by decide +kernel
theorem dL_runsOf_13 : decode cL_runsOf 13 = .ok (.iconst 1, 1) := by decide +kernel
theorem dL_runsOf_14 : decode cL_runsOf 14 = .ok (.ireturn, 1) := by decide +kernel
theorem dL_decide_0 : decode cL_decide 0 = .ok (.aload 4, 2) := by decide +kernel
theorem dL_decide_2 : decode cL_decide 2 = .ok (.iconst 0, 1) := by decide +kernel
theorem dL_decide_3 : decode cL_decide 3 = .ok (.aload_n 0, 1) := by decide +kernel
theorem dL_decide_4 : decode cL_decide 4 = .ok (.iload_n 1, 1) := by decide +kernel
theorem dL_decide_5 : decode cL_decide 5 = .ok (.iload_n 2, 1) := by decide +kernel
theorem dL_decide_6 : decode cL_decide 6 = .ok (.iload_n 3, 1) := by decide +kernel
set_option maxRecDepth 20000 in
theorem ggL_decide_X11_decide : GoodIn wsL_decide wsX11_decide := goodIn_ca (goodIn_ca (goodIn_ca (goodIn_ca (goodIn_r _ [8, 9, 10, 11, 12, 13, 14, 15, 7, 16, 17, 18, 19, 20, 21, 22, 23, 24, 25, 26, 27, 28, 29, 30, 31, 32, 33, 34, 35, 36, 37, 38, 39, 40, 41, 42, 43, 44, 45, 46, 47, 48, 49, 50, 51, 52, 53, 54, 55, 56, 57, 58, 59, 60, 61, 62, 63, 64, 65, 66, 67, 68, 69, 70, 71, 72, 73, 74, 75, 76, 77, 78, 79, 80, 81, 82, 83, 84, 85, 86, 87, 88, 89, 90, 91, 92, 93, 94, 95, 96, 97, 98, 99, 100, 101, 102, 103, 104, 105, 106, 107, 108, 109, 110, 111, 112, 113, 114, 115, 116, 117, 118, 119, 120, 121, 122, 123, 124, 125, 126, 127, 128, 129, 130, 131, 132, 133, 134, 135, 136, 137, 138, 139, 140, 141, 142, 143, 144, 145, 146, 147, 148, 149, 150, 151, 152, 153, 154, 155, 156, 157, 158, 159, 160, 161, 162, 163, 164, 165, 166, 167, 168, 169, 170, 171, 172, 173, 174, 175, 176, 177, 178, 179, 180, 181, 182, 183, 184, 185, 186, 187, 188, 189, 190, 191, 192, 193, 194, 195, 196, 197, 198, 199, 200, 201, 202, 203, 204, 205, 206, 207, 208, 209, 210, 211, 212, 213, 214, 215, 216, 217, 218, 219, 220, 221, 222, 223, 224, 225, 226, 227, 228, 229, 230, 231, 232, 233, 234, 235, 236, 237, 238, 239, 240, 241, 242, 243, 244, 245, 246, 247, 248, 249, 250, 251, 252, 253, 254, 255, 256, 257, 258, 259, 260, 261, 262, 263, 264, 265, 266, 267, 268, 269, 270, 271, 272, 273, 274, 275, 276, 277, 278, 279, 280, 281, 282, 283, 284, 285, 286, 287, 288, 289, 290, 291, 292, 293, 294, 295, 296, 297, 298, 299, 300, 301, 302, 303, 304, 305, 306, 307, 308, 309, 310, 311, 312, 313, 314, 315, 316, 317, 318, 319] (by decide +kernel) (by decide +kernel)) (goodIn_sub (fun _ h => List.mem_cons_of_mem _ (List.mem_append_left _ (List.mem_append_left _ (List.mem_append_right _ h)))) (by decide +kernel))) (goodIn_sub (fun _ h => List.mem_cons_of_mem _ (List.mem_append_left _ (List.mem_append_right _ h))) (by decide +kernel))) (goodIn_sub (fun _ h => List.mem_cons_of_mem _ (List.mem_append_right _ h)) (by decide +kernel))) (goodIn_sub (fun _ h => List.mem_cons_of_mem _ (List.mem_append_left _ (List.mem_append_left _ (List.mem_append_left _ (List.mem_append_right _ h))))) (by decide +kernel))
set_option maxRecDepth 20000 in
theorem gL_decide_X11_decide : GoodIn wsL_decide (wsV RL 59 RX11 yX11_decide wsX11_decide) := goodIn_app (goodIn_of _ (by decide +kernel)) ggL_decide_X11_decide
theorem dL_decide_7 : decode cL_decide 7 = .ok (.invokevirtual 59, 3) := by decide +kernel
theorem dL_decide_22 : decode cL_decide 22 = .ok (.astore 5, 2) := by decide +kernel
theorem dL_decide_24 : decode cL_decide 24 = .ok (.iconst 1, 1) := by decide +kernel
theorem dL_decide_25 : decode cL_decide 25 = .ok (.ireturn, 1) := by decide +kernel
theorem dL_verdict_0 : decode cL_verdict 0 = .ok (.aload_n 2, 1) := by decide +kernel
theorem dL_verdict_1 : decode cL_verdict 1 = .ok (.iconst 0, 1) := by decide +kernel
theorem dL_verdict_2 : decode cL_verdict 2 = .ok (.aload_n 0, 1) := by decide +kernel
theorem dL_verdict_3 : decode cL_verdict 3 = .ok (.iload_n 1, 1) := by decide +kernel
set_option maxRecDepth 20000 in
theorem ggL_verdict_X11_verdict : GoodIn wsL_verdict wsX11_verdict := goodIn_ca (goodIn_r _ [6, 7, 8, 9, 5, 10, 11, 12, 13, 14, 15, 16, 17, 18, 19, 20, 21, 22, 23, 24, 25, 26, 27, 28, 29, 30, 31, 32, 33, 34, 35, 36, 37, 38] (by decide +kernel) (by decide +kernel)) (goodIn_sub (fun _ h => List.mem_cons_of_mem _ (List.mem_append_right _ h)) (by decide +kernel))
set_option maxRecDepth 20000 in
theorem gL_verdict_X11_verdict : GoodIn wsL_verdict (wsV RL 65 RX11 yX11_verdict wsX11_verdict) := goodIn_app (goodIn_of _ (by decide +kernel)) ggL_verdict_X11_verdict
theorem dL_verdict_4 : decode cL_verdict 4 = .ok (.invokevirtual 65, 3) := by decide +kernel
theorem dL_verdict_12 : decode cL_verdict 12 = .ok (.astore_n 3, 1) := by decide +kernel
theorem dL_verdict_13 : decode cL_verdict 13 = .ok (.iconst 1, 1) := by decide +kernel
theorem dL_verdict_14 : decode cL_verdict 14 = .ok (.ireturn, 1) := by decide +kernel
theorem dL_certificate_0 : decode cL_certificate 0 = .ok (.aload_n 3, 1) := by decide +kernel
theorem dL_certificate_1 : decode cL_certificate 1 = .ok (.iconst 0, 1) := by decide +kernel
theorem dL_certificate_2 : decode cL_certificate 2 = .ok (.aload_n 0, 1) := by decide +kernel
theorem dL_certificate_3 : decode cL_certificate 3 = .ok (.iload_n 1, 1) := by decide +kernel
theorem dL_certificate_4 : decode cL_certificate 4 = .ok (.iload_n 2, 1) := by decide +kernel
set_option maxRecDepth 20000 in
theorem ggL_certificate_X11_certificate : GoodIn wsL_certificate wsX11_certificate := goodIn_ca (goodIn_ca (goodIn_ca (goodIn_r _ [8, 9, 10, 11, 12, 13, 14, 7, 15, 16, 17, 18, 19, 20, 21, 22, 23, 24, 25, 26, 27, 28, 29, 30, 31, 32, 33, 34, 35, 36, 37, 38, 39, 40, 41, 42, 43, 44, 45, 46, 47] (by decide +kernel) (by decide +kernel)) (goodIn_sub (fun _ h => List.mem_cons_of_mem _ (List.mem_append_left _ (List.mem_append_left _ (List.mem_append_right _ h)))) (by decide +kernel))) (goodIn_sub (fun _ h => List.mem_cons_of_mem _ (List.mem_append_left _ (List.mem_append_right _ h))) (by decide +kernel))) (goodIn_sub (fun _ h => List.mem_cons_of_mem _ (List.mem_append_right _ h)) (by decide +kernel))
set_option maxRecDepth 20000 in
theorem gL_certificate_X11_certificate : GoodIn wsL_certificate (wsV RL 69 RX11 yX11_certificate wsX11_certificate) := goodIn_app (goodIn_of _ (by decide +kernel)) ggL_certificate_X11_certificate
theorem dL_certificate_5 : decode cL_certificate 5 = .ok (.invokevirtual 69, 3) := by decide +kernel
theorem dL_certificate_13 : decode cL_certificate 13 = .ok (.astore 4, 2) := by decide +kernel
theorem dL_certificate_15 : decode cL_certificate 15 = .ok (.iconst 1, 1) := by decide +kernel
theorem dL_certificate_16 : decode cL_certificate 16 = .ok (.ireturn, 1) := by decide +kernel
theorem dL_forge_0 : decode cL_forge 0 = .ok (.aload 4, 2) := by decide +kernel
theorem dL_forge_2 : decode cL_forge 2 = .ok (.iconst 0, 1) := by decide +kernel
theorem dL_forge_3 : decode cL_forge 3 = .ok (.aload_n 0, 1) := by decide +kernel
theorem dL_forge_4 : decode cL_forge 4 = .ok (.iload_n 1, 1) := by decide +kernel
theorem dL_forge_5 : decode cL_forge 5 = .ok (.iload_n 2, 1) := by decide +kernel
theorem dL_forge_6 : decode cL_forge 6 = .ok (.iload_n 3, 1) := by decide +kernel
set_option maxRecDepth 20000 in
theorem ggL_forge_X11_forge : GoodIn wsL_forge wsX11_forge := goodIn_ca (goodIn_ca (goodIn_ca (goodIn_r _ [8, 9, 10, 11, 12, 13, 14, 7, 15, 16, 17, 18, 19, 20, 21, 22, 23, 24, 25, 26, 27, 28, 29, 30, 31, 32, 33, 34, 35, 36, 37, 38, 39, 40, 41, 42, 43, 44, 45, 46, 47, 48, 49, 50] (by decide +kernel) (by decide +kernel)) (goodIn_sub (fun _ h => List.mem_cons_of_mem _ (List.mem_append_left _ (List.mem_append_left _ (List.mem_append_right _ h)))) (by decide +kernel))) (goodIn_sub (fun _ h => List.mem_cons_of_mem _ (List.mem_append_left _ (List.mem_append_right _ h))) (by decide +kernel))) (goodIn_sub (fun _ h => List.mem_cons_of_mem _ (List.mem_append_right _ h)) (by decide +kernel))
set_option maxRecDepth 20000 in
theorem gL_forge_X11_forge : GoodIn wsL_forge (wsV RL 72 RX11 yX11_forge wsX11_forge) := goodIn_app (goodIn_of _ (by decide +kernel)) ggL_forge_X11_forge
theorem dL_forge_7 : decode cL_forge 7 = .ok (.invokevirtual 72, 3) := by decide +kernel
theorem dL_forge_15 : decode cL_forge 15 = .ok (.astore 5, 2) := by decide +kernel
theorem dL_forge_17 : decode cL_forge 17 = .ok (.iconst 1, 1) := by decide +kernel
theorem dL_forge_18 : decode cL_forge 18 = .ok (.ireturn, 1) := by decide +kernel
theorem dL_passes_0 : decode cL_passes 0 = .ok (.aload_n 2, 1) := by decide +kernel
theorem dL_passes_1 : decode cL_passes 1 = .ok (.iconst 0, 1) := by decide +kernel
theorem dL_passes_2 : decode cL_passes 2 = .ok (.aload_n 0, 1) := by decide +kernel
theorem dL_passes_3 : decode cL_passes 3 = .ok (.iload_n 1, 1) := by decide +kernel
set_option maxRecDepth 20000 in
theorem ggL_passes_X11_passes : GoodIn wsL_passes wsX11_passes := goodIn_ca (goodIn_ca (goodIn_r _ [6, 7, 8, 9, 10, 5, 11, 12, 13, 14, 15, 16, 17, 18, 19, 20, 21, 22, 23, 24, 25, 26, 27, 28, 29, 30, 31, 32, 33, 34, 35, 36, 37, 38, 39, 40, 41, 42, 43, 44, 45, 46, 47, 48, 49, 50, 51, 52, 53, 54, 55, 56, 57, 58, 59, 60, 61, 62, 63, 64, 65, 66, 67, 68, 69, 70, 71, 72, 73, 74, 75, 76, 77, 78, 79, 80, 81, 82, 83, 84, 85, 86, 87, 88, 89, 90, 91, 92, 93, 94, 95, 96, 97, 98, 99, 100, 101, 102, 103, 104, 105, 106, 107, 108, 109, 110, 111, 112, 113, 114, 115, 116, 117, 118, 119, 120, 121, 122, 123, 124, 125, 126, 127, 128, 129, 130, 131, 132, 133, 134, 135, 136, 137, 138, 139, 140, 141, 142, 143, 144, 145, 146, 147, 148, 149, 150, 151, 152, 153, 154, 155, 156, 157, 158, 159, 160, 161, 162, 163, 164, 165, 166, 167, 168, 169, 170, 171, 172, 173, 174, 175, 176, 177, 178, 179, 180, 181, 182, 183, 184, 185, 186, 187, 188, 189, 190, 191, 192, 193, 194, 195, 196, 197, 198, 199, 200, 201, 202, 203, 204, 205, 206, 207, 208, 209, 210, 211, 212, 213, 214, 215, 216, 217, 218, 219, 220, 221, 222, 223, 224, 225, 226, 227, 228, 229, 230, 231, 232, 233, 234, 235, 236, 237, 238, 239, 240, 241, 242, 243, 244, 245, 246, 247, 248, 249, 250, 251, 252, 253, 254, 255, 256, 257, 258, 259, 260, 261, 262, 263, 264, 265, 266, 267, 268, 269] (by decide +kernel) (by decide +kernel)) (goodIn_sub (fun _ h => List.mem_cons_of_mem _ (List.mem_append_right _ h)) (by decide +kernel))) (goodIn_sub (fun _ h => List.mem_cons_of_mem _ (List.mem_append_left _ (List.mem_append_right _ h))) (by decide +kernel))
set_option maxRecDepth 20000 in
theorem gL_passes_X11_passes : GoodIn wsL_passes (wsV RL 76 RX11 yX11_passes wsX11_passes) := goodIn_app (goodIn_of _ (by decide +kernel)) ggL_passes_X11_passes
theorem dL_passes_4 : decode cL_passes 4 = .ok (.invokevirtual 76, 3) := by decide +kernel
theorem dL_passes_19 : decode cL_passes 19 = .ok (.astore_n 3, 1) := by decide +kernel
theorem dL_passes_20 : decode cL_passes 20 = .ok (.iconst 1, 1) := by decide +kernel
theorem dL_passes_21 : decode cL_passes 21 = .ok (.ireturn, 1) := by decide +kernel
theorem dL_ways_0 : decode cL_ways 0 = .ok (.aload_n 3, 1) := by decide +kernel
theorem dL_ways_1 : decode cL_ways 1 = .ok (.iconst 0, 1) := by decide +kernel
theorem dL_ways_2 : decode cL_ways 2 = .ok (.aload_n 0, 1) := by decide +kernel
theorem dL_ways_3 : decode cL_ways 3 = .ok (.iload_n 1, 1) := by decide +kernel
theorem dL_ways_4 : decode cL_ways 4 = .ok (.iload_n 2, 1) := by decide +kernel
set_option maxRecDepth 20000 in
theorem ggL_ways_X11_ways : GoodIn wsL_ways wsX11_ways := goodIn_ca (goodIn_ca (goodIn_ca (goodIn_r _ [7, 8, 9, 10, 11, 12, 6, 13, 14, 15, 16, 17, 18, 19, 20, 21, 22, 23, 24, 25, 26, 27, 28, 29, 30, 31, 32, 33, 34, 35, 36, 37, 38, 39, 40, 41, 42, 43, 44, 45, 46, 47, 48, 49, 50, 51, 52, 53, 54, 55, 56, 57, 58, 59, 60, 61, 62, 63, 64, 65, 66, 67, 68, 69, 70, 71, 72, 73, 74, 75, 76, 77, 78, 79, 80, 81, 82, 83, 84, 85, 86, 87, 88, 89, 90, 91, 92, 93, 94, 95, 96, 97, 98, 99, 100, 101, 102, 103, 104, 105, 106, 107, 108, 109, 110] (by decide +kernel) (by decide +kernel)) (goodIn_sub (fun _ h => List.mem_cons_of_mem _ (List.mem_append_left _ (List.mem_append_right _ h))) (by decide +kernel))) (goodIn_sub (fun _ h => List.mem_cons_of_mem _ (List.mem_append_right _ h)) (by decide +kernel))) (goodIn_sub (fun _ h => List.mem_cons_of_mem _ (List.mem_append_left _ (List.mem_append_left _ (List.mem_append_right _ h)))) (by decide +kernel))
set_option maxRecDepth 20000 in
theorem gL_ways_X11_ways : GoodIn wsL_ways (wsV RL 79 RX11 yX11_ways wsX11_ways) := goodIn_app (goodIn_of _ (by decide +kernel)) ggL_ways_X11_ways
theorem dL_ways_5 : decode cL_ways 5 = .ok (.invokevirtual 79, 3) := by decide +kernel
theorem dL_ways_13 : decode cL_ways 13 = .ok (.astore 4, 2) := by decide +kernel
theorem dL_ways_15 : decode cL_ways 15 = .ok (.iconst 1, 1) := by decide +kernel
theorem dL_ways_16 : decode cL_ways 16 = .ok (.ireturn, 1) := by decide +kernel
theorem dL_tell_0 : decode cL_tell 0 = .ok (.aload 4, 2) := by decide +kernel
theorem dL_tell_2 : decode cL_tell 2 = .ok (.iconst 0, 1) := by decide +kernel
theorem dL_tell_3 : decode cL_tell 3 = .ok (.aload_n 0, 1) := by decide +kernel
theorem dL_tell_4 : decode cL_tell 4 = .ok (.iload_n 1, 1) := by decide +kernel
theorem dL_tell_5 : decode cL_tell 5 = .ok (.iload_n 2, 1) := by decide +kernel
theorem dL_tell_6 : decode cL_tell 6 = .ok (.iload_n 3, 1) := by decide +kernel
set_option maxRecDepth 20000 in
theorem ggL_tell_X11_tell : GoodIn wsL_tell wsX11_tell := goodIn_ca (goodIn_ca (goodIn_ca (goodIn_r _ [7, 8, 9, 10, 6, 11, 12, 13, 14, 15, 16, 17, 18, 19, 20, 21, 22, 23, 24, 25, 26, 27, 28, 29, 30, 31, 32, 33, 34, 35, 36, 37, 38, 39, 40, 41, 42, 43, 44, 45, 46, 47, 48, 49] (by decide +kernel) (by decide +kernel)) (goodIn_sub (fun _ h => List.mem_cons_of_mem _ (List.mem_append_left _ (List.mem_append_right _ h))) (by decide +kernel))) (goodIn_sub (fun _ h => List.mem_cons_of_mem _ (List.mem_append_right _ h)) (by decide +kernel))) (goodIn_sub (fun _ h => List.mem_cons_of_mem _ (List.mem_append_left _ (List.mem_append_left _ (List.mem_append_right _ h)))) (by decide +kernel))
set_option maxRecDepth 20000 in
theorem gL_tell_X11_tell : GoodIn wsL_tell (wsV RL 97 RX11 yX11_tell wsX11_tell) := goodIn_app (goodIn_of _ (by decide +kernel)) ggL_tell_X11_tell
theorem dL_tell_7 : decode cL_tell 7 = .ok (.invokevirtual 97, 3) := by decide +kernel
theorem dL_tell_15 : decode cL_tell 15 = .ok (.astore 5, 2) := by decide +kernel
theorem dL_tell_17 : decode cL_tell 17 = .ok (.iconst 1, 1) := by decide +kernel
theorem dL_tell_18 : decode cL_tell 18 = .ok (.ireturn, 1) := by decide +kernel
theorem dL_isDisputed_0 : decode cL_isDisputed 0 = .ok (.aload_n 2, 1) := by decide +kernel
theorem dL_isDisputed_1 : decode cL_isDisputed 1 = .ok (.iconst 0, 1) := by decide +kernel
theorem dL_isDisputed_2 : decode cL_isDisputed 2 = .ok (.aload_n 0, 1) := by decide +kernel
theorem dL_isDisputed_3 : decode cL_isDisputed 3 = .ok (.iload_n 1, 1) := by decide +kernel
set_option maxRecDepth 20000 in
theorem ggL_isDisputed_X11_isDisputed : GoodIn wsL_isDisputed wsX11_isDisputed := goodIn_ca (goodIn_ca (goodIn_r _ [6, 7, 8, 9, 5, 10, 11, 12, 13, 14, 15, 16, 17, 18, 19, 20, 21, 22, 23, 24, 25, 26, 27, 28, 29, 30, 31, 32, 33, 34, 35, 36, 37, 38, 39, 40, 41, 42, 43] (by decide +kernel) (by decide +kernel)) (goodIn_sub (fun _ h => List.mem_cons_of_mem _ (List.mem_append_right _ h)) (by decide +kernel))) (goodIn_sub (fun _ h => List.mem_cons_of_mem _ (List.mem_append_left _ (List.mem_append_right _ h))) (by decide +kernel))
set_option maxRecDepth 20000 in
theorem gL_isDisputed_X11_isDisputed : GoodIn wsL_isDisputed (wsV RL 100 RX11 yX11_isDisputed wsX11_isDisputed) := goodIn_app (goodIn_of _ (by decide +kernel)) ggL_isDisputed_X11_isDisputed
theorem dL_isDisputed_4 : decode cL_isDisputed 4 = .ok (.invokevirtual 100, 3) := by decide +kernel
theorem dL_isDisputed_19 : decode cL_isDisputed 19 = .ok (.astore_n 3, 1) := by decide +kernel
theorem dL_isDisputed_20 : decode cL_isDisputed 20 = .ok (.iconst 1, 1) := by decide +kernel
theorem dL_isDisputed_21 : decode cL_isDisputed 21 = .ok (.ireturn, 1) := by decide +kernel
theorem dL_holdoutAt_0 : decode cL_holdoutAt 0 = .ok (.aload_n 2, 1) := by decide +kernel
theorem dL_holdoutAt_1 : decode cL_holdoutAt 1 = .ok (.iconst 0, 1) := by decide +kernel
theorem dL_holdoutAt_2 : decode cL_holdoutAt 2 = .ok (.aload_n 0, 1) := by decide +kernel
theorem dL_holdoutAt_3 : decode cL_holdoutAt 3 = .ok (.iload_n 1, 1) := by decide +kernel
set_option maxRecDepth 20000 in
theorem ggL_holdoutAt_X11_holdoutAt : GoodIn wsL_holdoutAt wsX11_holdoutAt := goodIn_ca (goodIn_ca (goodIn_ca (goodIn_r _ [6, 7, 8, 9, 10, 11, 5, 12, 13, 14, 15, 16, 17, 18, 19, 20, 21, 22, 23, 24, 25, 26, 27, 28, 29, 30, 31, 32, 33, 34, 35, 36, 37, 38, 39, 40, 41, 42, 43, 44, 45, 46, 47, 48, 49, 50, 51, 52, 53, 54, 55, 56, 57, 58, 59, 60, 61, 62, 63, 64, 65, 66, 67, 68, 69, 70, 71, 72, 73, 74, 75, 76, 77, 78, 79, 80, 81, 82, 83, 84, 85, 86, 87, 88, 89, 90, 91, 92, 93, 94, 95, 96, 97, 98, 99, 100, 101, 102, 103, 104, 105, 106, 107, 108, 109, 110, 111, 112, 113, 114, 115, 116, 117, 118, 119, 120, 121, 122, 123, 124, 125, 126, 127, 128, 129, 130, 131, 132, 133, 134, 135, 136, 137, 138, 139, 140, 141, 142, 143, 144, 145, 146, 147, 148, 149, 150, 151, 152, 153, 154, 155, 156, 157, 158, 159, 160, 161, 162, 163, 164, 165, 166, 167, 168, 169, 170, 171, 172, 173, 174, 175, 176, 177, 178, 179, 180, 181, 182, 183, 184, 185, 186, 187, 188, 189, 190, 191, 192, 193, 194, 195, 196, 197, 198, 199, 200, 201, 202, 203, 204, 205, 206, 207, 208, 209, 210, 211, 212, 213, 214, 215, 216, 217, 218, 219, 220, 221, 222, 223, 224, 225, 226, 227, 228, 229, 230, 231, 232, 233, 234, 235, 236, 237, 238, 239, 240, 241, 242, 243, 244, 245, 246, 247, 248, 249, 250, 251, 252, 253, 254, 255, 256, 257, 258, 259, 260, 261, 262, 263, 264, 265, 266, 267, 268, 269, 270, 271, 272, 273, 274] (by decide +kernel) (by decide +kernel)) (goodIn_sub (fun _ h => List.mem_cons_of_mem _ (List.mem_append_left _ (List.mem_append_right _ h))) (by decide +kernel))) (goodIn_sub (fun _ h => List.mem_cons_of_mem _ (List.mem_append_left _ (List.mem_append_left _ (List.mem_append_right _ h)))) (by decide +kernel))) (goodIn_sub (fun _ h => List.mem_cons_of_mem _ (List.mem_append_right _ h)) (by decide +kernel))
set_option maxRecDepth 20000 in
theorem gL_holdoutAt_X11_holdoutAt : GoodIn wsL_holdoutAt (wsV RL 103 RX11 yX11_holdoutAt wsX11_holdoutAt) := goodIn_app (goodIn_of _ (by decide +kernel)) ggL_holdoutAt_X11_holdoutAt
theorem dL_holdoutAt_4 : decode cL_holdoutAt 4 = .ok (.invokevirtual 103, 3) := by decide +kernel
theorem dL_holdoutAt_12 : decode cL_holdoutAt 12 = .ok (.astore_n 3, 1) := by decide +kernel
theorem dL_holdoutAt_13 : decode cL_holdoutAt 13 = .ok (.iconst 1, 1) := by decide +kernel
theorem dL_holdoutAt_14 : decode cL_holdoutAt 14 = .ok (.ireturn, 1) := by decide +kernel
theorem dL_tagLetter_0 : decode cL_tagLetter 0 = .ok (.aload_n 2, 1) := by decide +kernel
theorem dL_tagLetter_1 : decode cL_tagLetter 1 = .ok (.iconst 0, 1) := by decide +kernel
theorem dL_tagLetter_2 : decode cL_tagLetter 2 = .ok (.aload_n 0, 1) := by decide +kernel
theorem dL_tagLetter_3 : decode cL_tagLetter 3 = .ok (.iload_n 1, 1) := by decide +kernel
set_option maxRecDepth 20000 in
theorem ggL_tagLetter_X11_tagLetter : GoodIn wsL_tagLetter wsX11_tagLetter := goodIn_ca (goodIn_ca (goodIn_r _ [6, 7, 8, 9, 10, 5, 11, 12, 13, 14, 15, 16, 17, 18, 19, 20, 21, 22, 23, 24, 25, 26, 27, 28, 29, 30, 31, 32, 33, 34, 35, 36, 37] (by decide +kernel) (by decide +kernel)) (goodIn_sub (fun _ h => List.mem_cons_of_mem _ (List.mem_append_right _ h)) (by decide +kernel))) (goodIn_sub (fun _ h => List.mem_cons_of_mem _ (List.mem_append_left _ (List.mem_append_right _ h))) (by decide +kernel))
set_option maxRecDepth 20000 in
theorem gL_tagLetter_X11_tagLetter : GoodIn wsL_tagLetter (wsV RL 126 RX11 yX11_tagLetter wsX11_tagLetter) := goodIn_app (goodIn_of _ (by decide +kernel)) ggL_tagLetter_X11_tagLetter
theorem dL_tagLetter_4 : decode cL_tagLetter 4 = .ok (.invokevirtual 126, 3) := by decide +kernel
theorem dL_tagLetter_12 : decode cL_tagLetter 12 = .ok (.astore_n 3, 1) := by decide +kernel
theorem dL_tagLetter_13 : decode cL_tagLetter 13 = .ok (.iconst 1, 1) := by decide +kernel
theorem dL_tagLetter_14 : decode cL_tagLetter 14 = .ok (.ireturn, 1) := by decide +kernel
theorem dL_meanMarks_0 : decode cL_meanMarks 0 = .ok (.aload_n 1, 1) := by decide +kernel
theorem dL_meanMarks_1 : decode cL_meanMarks 1 = .ok (.iconst 0, 1) := by decide +kernel
theorem dL_meanMarks_2 : decode cL_meanMarks 2 = .ok (.aload_n 0, 1) := by decide +kernel
set_option maxRecDepth 20000 in
theorem ggL_meanMarks_X11_meanMarks : GoodIn wsL_meanMarks wsX11_meanMarks := goodIn_ca (goodIn_ca (goodIn_ca (goodIn_r _ [6, 7, 8, 9, 10, 11, 12, 13, 5, 14, 15, 16, 17, 18, 19, 20, 21, 22, 23, 24, 25, 26, 27, 28, 29, 30, 31, 32, 33, 34, 35, 36, 37, 38, 39, 40, 41, 42, 43, 44, 45, 46, 47, 48, 49, 50, 51, 52, 53, 54, 55, 56, 57, 58, 59, 60, 61, 62, 63, 64, 65, 66, 67, 68, 69, 70, 71, 72, 73, 74, 75, 76, 77, 78, 79, 80, 81, 82, 83, 84, 85, 86, 87, 88, 89, 90, 91, 92, 93, 94, 95, 96, 97, 98, 99, 100, 101, 102, 103, 104, 105, 106, 107, 108, 109, 110, 111, 112, 113, 114, 115, 116, 117, 118, 119, 120, 121, 122, 123, 124, 125, 126, 127, 128, 129, 130, 131, 132, 133, 134, 135, 136, 137, 138, 139, 140, 141, 142, 143, 144, 145, 146, 147, 148, 149, 150, 151, 152, 153, 154, 155, 156, 157, 158, 159, 160, 161, 162, 163, 164, 165, 166, 167, 168, 169, 170, 171, 172, 173, 174, 175, 176, 177, 178, 179, 180, 181, 182, 183, 184, 185, 186, 187, 188, 189, 190, 191, 192, 193, 194, 195, 196, 197, 198, 199, 200, 201, 202, 203, 204, 205, 206, 207, 208, 209, 210, 211, 212, 213, 214, 215, 216, 217, 218, 219, 220, 221, 222, 223, 224, 225, 226, 227, 228, 229, 230, 231, 232, 233, 234, 235, 236, 237, 238, 239, 240, 241, 242, 243, 244, 245, 246, 247, 248, 249, 250, 251, 252, 253, 254, 255, 256, 257, 258, 259, 260, 261, 262, 263, 264, 265, 266, 267, 268, 269, 270, 271, 272, 273, 274, 275, 276, 277, 278, 279, 280, 281] (by decide +kernel) (by decide +kernel)) (goodIn_sub (fun _ h => List.mem_cons_of_mem _ (List.mem_append_left _ (List.mem_append_right _ h))) (by decide +kernel))) (goodIn_sub (fun _ h => List.mem_cons_of_mem _ (List.mem_append_right _ h)) (by decide +kernel))) (goodIn_sub (fun _ h => List.mem_cons_of_mem _ (List.mem_append_left _ (List.mem_append_left _ (List.mem_append_right _ h)))) (by decide +kernel))
set_option maxRecDepth 20000 in
theorem gL_meanMarks_X11_meanMarks : GoodIn wsL_meanMarks (wsV RL 136 RX11 yX11_meanMarks wsX11_meanMarks) := goodIn_app (goodIn_of _ (by decide +kernel)) ggL_meanMarks_X11_meanMarks
theorem dL_meanMarks_3 : decode cL_meanMarks 3 = .ok (.invokevirtual 136, 3) := by decide +kernel
theorem dL_meanMarks_10 : decode cL_meanMarks 10 = .ok (.astore_n 2, 1) := by decide +kernel
theorem dL_meanMarks_11 : decode cL_meanMarks 11 = .ok (.iconst 1, 1) := by decide +kernel
theorem dL_meanMarks_12 : decode cL_meanMarks 12 = .ok (.ireturn, 1) := by decide +kernel
theorem dL_record_0 : decode cL_record 0 = .ok (.aload_n 2, 1) := by decide +kernel
theorem dL_record_1 : decode cL_record 1 = .ok (.iconst 0, 1) := by decide +kernel
theorem dL_record_2 : decode cL_record 2 = .ok (.aload_n 0, 1) := by decide +kernel
theorem dL_record_3 : decode cL_record 3 = .ok (.iload_n 1, 1) := by decide +kernel
set_option maxRecDepth 20000 in
theorem ggL_record_X11_record : GoodIn wsL_record wsX11_record := goodIn_ca (goodIn_ca (goodIn_ca (goodIn_ca (goodIn_r _ [7, 8, 9, 10, 11, 12, 6, 13, 14, 15, 16, 17, 18, 19, 20, 21, 22, 23, 24, 25, 26, 27, 28, 29, 30, 31, 32, 33, 34, 35, 36, 37, 38, 39, 40, 41, 42, 43, 44, 45, 46, 47, 48, 49, 50, 51, 52, 53, 54, 55, 56, 57, 58, 59, 60, 61, 62, 63, 64, 65, 66, 67, 68, 69, 70, 71, 72, 73, 74, 75, 76, 77, 78, 79, 80, 81, 82, 83, 84, 85, 86, 87, 88, 89, 90, 91, 92, 93, 94, 95, 96, 97, 98, 99, 100, 101, 102, 103, 104, 105, 106, 107, 108, 109, 110, 111, 112, 113, 114, 115, 116, 117, 118, 119, 120, 121, 122, 123, 124, 125, 126, 127, 128, 129, 130, 131, 132, 133, 134, 135, 136, 137, 138, 139, 140, 141, 142, 143, 144, 145, 146, 147, 148, 149, 150, 151, 152, 153, 154, 155, 156, 157, 158, 159, 160, 161, 162, 163, 164, 165, 166, 167, 168, 169, 170, 171, 172, 173, 174, 175, 176, 177, 178, 179, 180, 181, 182, 183, 184, 185, 186, 187, 188, 189, 190, 191, 192, 193, 194, 195, 196, 197, 198, 199, 200, 201, 202, 203, 204, 205, 206, 207, 208, 209, 210, 211, 212, 213, 214, 215, 216, 217, 218, 219, 220, 221, 222, 223, 224, 225, 226, 227, 228, 229, 230, 231, 232, 233, 234, 235, 236, 237, 238, 239, 240, 241, 242, 243, 244, 245, 246, 247, 248, 249, 250, 251, 252, 253, 254, 255, 256, 257, 258, 259, 260, 261, 262, 263, 264, 265, 266, 267, 268, 269, 270, 271, 272, 273, 274, 275, 276, 277, 278, 279, 280, 281, 282, 283, 284, 285, 286, 287, 288, 289, 290, 291] (by decide +kernel) (by decide +kernel)) (goodIn_sub (fun _ h => List.mem_cons_of_mem _ (List.mem_append_left _ (List.mem_append_left _ (List.mem_append_right _ h)))) (by decide +kernel))) (goodIn_sub (fun _ h => List.mem_cons_of_mem _ (List.mem_append_left _ (List.mem_append_right _ h))) (by decide +kernel))) (goodIn_sub (fun _ h => List.mem_cons_of_mem _ (List.mem_append_left _ (List.mem_append_left _ (List.mem_append_left _ (List.mem_append_right _ h))))) (by decide +kernel))) (goodIn_sub (fun _ h => List.mem_cons_of_mem _ (List.mem_append_right _ h)) (by decide +kernel))
set_option maxRecDepth 20000 in
theorem gL_record_X11_record : GoodIn wsL_record (wsV RL 93 RX11 yX11_record wsX11_record) := goodIn_app (goodIn_of _ (by decide +kernel)) ggL_record_X11_record
theorem dL_record_4 : decode cL_record 4 = .ok (.invokevirtual 93, 3) := by decide +kernel
theorem dL_record_12 : decode cL_record 12 = .ok (.astore_n 3, 1) := by decide +kernel
theorem dL_record_13 : decode cL_record 13 = .ok (.iconst 1, 1) := by decide +kernel
theorem dL_record_14 : decode cL_record 14 = .ok (.ireturn, 1) := by decide +kernel
theorem dL_record_15 : decode cL_record 15 = .ok (.astore_n 3, 1) := by decide +kernel
theorem dL_record_16 : decode cL_record 16 = .ok (.iconst 2, 1) := by decide +kernel
theorem dL_record_17 : decode cL_record 17 = .ok (.ireturn, 1) := by decide +kernel
theorem dL_machine_0 : decode cL_machine 0 = .ok (.aload 4, 2) := by decide +kernel
theorem dL_machine_2 : decode cL_machine 2 = .ok (.iconst 0, 1) := by decide +kernel
theorem dL_machine_3 : decode cL_machine 3 = .ok (.aload_n 0, 1) := by decide +kernel
theorem dL_machine_4 : decode cL_machine 4 = .ok (.iload_n 1, 1) := by decide +kernel
theorem dL_machine_5 : decode cL_machine 5 = .ok (.iload_n 2, 1) := by decide +kernel
theorem dL_machine_6 : decode cL_machine 6 = .ok (.iload_n 3, 1) := by decide +kernel
set_option maxRecDepth 20000 in
theorem ggL_machine_X11_machine : GoodIn wsL_machine wsX11_machine := goodIn_ca (goodIn_ca (goodIn_r _ [7, 8, 9, 10, 11, 12, 6, 13, 14, 15, 16, 17, 18, 19, 20, 21, 22, 23, 24, 25, 26, 27, 28, 29, 30, 31, 32, 33, 34, 35, 36, 37, 38, 39, 40, 41, 42, 43, 44, 45, 46, 47, 48, 49, 50, 51, 52, 53, 54, 55, 56, 57, 58, 59, 60, 61, 62, 63, 64, 65, 66, 67, 68, 69, 70, 71, 72, 73, 74, 75, 76, 77, 78, 79, 80, 81, 82, 83, 84, 85, 86] (by decide +kernel) (by decide +kernel)) (goodIn_sub (fun _ h => List.mem_cons_of_mem _ (List.mem_append_left _ (List.mem_append_right _ h))) (by decide +kernel))) (goodIn_sub (fun _ h => List.mem_cons_of_mem _ (List.mem_append_right _ h)) (by decide +kernel))
set_option maxRecDepth 20000 in
theorem gL_machine_X11_machine : GoodIn wsL_machine (wsV RL 7 RX11 yX11_machine wsX11_machine) := goodIn_app (goodIn_of _ (by decide +kernel)) ggL_machine_X11_machine
theorem dL_machine_7 : decode cL_machine 7 = .ok (.invokevirtual 7, 3) := by decide +kernel
theorem dL_machine_15 : decode cL_machine 15 = .ok (.astore 5, 2) := by decide +kernel
theorem dL_machine_17 : decode cL_machine 17 = .ok (.iconst 1, 1) := by decide +kernel
theorem dL_machine_18 : decode cL_machine 18 = .ok (.ireturn, 1) := by decide +kernel
theorem dL_machine_10 : decode cL_machine 10 = .ok (.i2l, 1) := by decide +kernel
theorem dL_machine_11 : decode cL_machine 11 = .ok (.lastore, 1) := by decide +kernel
theorem dL_machine_12 : decode cL_machine 12 = .ok (.goto 11, 3) := by decide +kernel
theorem dL_machine_23 : decode cL_machine 23 = .ok (.iconst 0, 1) := by decide +kernel
theorem dL_machine_24 : decode cL_machine 24 = .ok (.ireturn, 1) := by decide +kernel
theorem dL_count_0 : decode cL_count 0 = .ok (.aload 5, 2) := by decide +kernel
theorem dL_count_2 : decode cL_count 2 = .ok (.iconst 0, 1) := by decide +kernel
theorem dL_count_3 : decode cL_count 3 = .ok (.aload_n 0, 1) := by decide +kernel
theorem dL_count_4 : decode cL_count 4 = .ok (.iload_n 1, 1) := by decide +kernel
theorem dL_count_5 : decode cL_count 5 = .ok (.iload_n 2, 1) := by decide +kernel
theorem dL_count_6 : decode cL_count 6 = .ok (.iload_n 3, 1) := by decide +kernel
theorem dL_count_7 : decode cL_count 7 = .ok (.iload 4, 2) := by decide +kernel
set_option maxRecDepth 20000 in
theorem ggL_count_X11_count : GoodIn wsL_count wsX11_count := goodIn_ca (goodIn_ca (goodIn_ca (goodIn_r _ [7, 8, 9, 10, 11, 12, 13, 6, 14, 15, 16, 17, 18, 19, 20, 21, 22, 23, 24, 25, 26, 27, 28, 29, 30, 31, 32, 33, 34, 35, 36, 37, 38, 39, 40, 41, 42, 43, 44, 45, 46, 47, 48] (by decide +kernel) (by decide +kernel)) (goodIn_sub (fun _ h => List.mem_cons_of_mem _ (List.mem_append_left _ (List.mem_append_right _ h))) (by decide +kernel))) (goodIn_sub (fun _ h => List.mem_cons_of_mem _ (List.mem_append_right _ h)) (by decide +kernel))) (goodIn_sub (fun _ h => List.mem_cons_of_mem _ (List.mem_append_left _ (List.mem_append_left _ (List.mem_append_right _ h)))) (by decide +kernel))
set_option maxRecDepth 20000 in
theorem gL_count_X11_count : GoodIn wsL_count (wsV RL 106 RX11 yX11_count wsX11_count) := goodIn_app (goodIn_of _ (by decide +kernel)) ggL_count_X11_count
theorem dL_count_9 : decode cL_count 9 = .ok (.invokevirtual 106, 3) := by decide +kernel
theorem dL_count_17 : decode cL_count 17 = .ok (.astore 6, 2) := by decide +kernel
theorem dL_count_19 : decode cL_count 19 = .ok (.iconst 1, 1) := by decide +kernel
theorem dL_count_20 : decode cL_count 20 = .ok (.ireturn, 1) := by decide +kernel
theorem dL_count_12 : decode cL_count 12 = .ok (.i2l, 1) := by decide +kernel
theorem dL_count_13 : decode cL_count 13 = .ok (.lastore, 1) := by decide +kernel
theorem dL_count_14 : decode cL_count 14 = .ok (.goto 11, 3) := by decide +kernel
theorem dL_count_25 : decode cL_count 25 = .ok (.iconst 0, 1) := by decide +kernel
theorem dL_count_26 : decode cL_count 26 = .ok (.ireturn, 1) := by decide +kernel
theorem dL_runCounters_0 : decode cL_runCounters 0 = .ok (.aload 4, 2) := by decide +kernel
theorem dL_runCounters_2 : decode cL_runCounters 2 = .ok (.iconst 0, 1) := by decide +kernel
theorem dL_runCounters_3 : decode cL_runCounters 3 = .ok (.aload_n 0, 1) := by decide +kernel
theorem dL_runCounters_4 : decode cL_runCounters 4 = .ok (.iload_n 1, 1) := by decide +kernel
theorem dL_runCounters_5 : decode cL_runCounters 5 = .ok (.iload_n 2, 1) := by decide +kernel
theorem dL_runCounters_6 : decode cL_runCounters 6 = .ok (.iload_n 3, 1) := by decide +kernel
set_option maxRecDepth 20000 in
theorem ggL_runCounters_X11_runCounters : GoodIn wsL_runCounters wsX11_runCounters := goodIn_ca (goodIn_ca (goodIn_r _ [6, 7, 8, 9, 5, 10, 11, 12, 13, 14, 15, 16, 17, 18, 19, 20, 21, 22, 23, 24, 25, 26, 27, 28, 29, 30, 31, 32, 33, 34, 35, 36, 37, 38, 39, 40, 41, 42, 43, 44, 45, 46, 47, 48, 49, 50, 51] (by decide +kernel) (by decide +kernel)) (goodIn_sub (fun _ h => List.mem_cons_of_mem _ (List.mem_append_right _ h)) (by decide +kernel))) (goodIn_sub (fun _ h => List.mem_cons_of_mem _ (List.mem_append_left _ (List.mem_append_right _ h))) (by decide +kernel))
set_option maxRecDepth 20000 in
theorem gL_runCounters_X11_runCounters : GoodIn wsL_runCounters (wsV RL 110 RX11 yX11_runCounters wsX11_runCounters) := goodIn_app (goodIn_of _ (by decide +kernel)) ggL_runCounters_X11_runCounters
theorem dL_runCounters_7 : decode cL_runCounters 7 = .ok (.invokevirtual 110, 3) := by decide +kernel
theorem dL_runCounters_15 : decode cL_runCounters 15 = .ok (.astore 5, 2) := by decide +kernel
theorem dL_runCounters_17 : decode cL_runCounters 17 = .ok (.iconst 1, 1) := by decide +kernel
theorem dL_runCounters_18 : decode cL_runCounters 18 = .ok (.ireturn, 1) := by decide +kernel
theorem dL_runCounters_10 : decode cL_runCounters 10 = .ok (.i2l, 1) := by decide +kernel
theorem dL_runCounters_11 : decode cL_runCounters 11 = .ok (.lastore, 1) := by decide +kernel
theorem dL_runCounters_12 : decode cL_runCounters 12 = .ok (.goto 7, 3) := by decide +kernel
theorem dL_runCounters_19 : decode cL_runCounters 19 = .ok (.iconst 0, 1) := by decide +kernel
theorem dL_runCounters_20 : decode cL_runCounters 20 = .ok (.ireturn, 1) := by decide +kernel
theorem dL_register_0 : decode cL_register 0 = .ok (.aload_n 2, 1) := by decide +kernel
theorem dL_register_1 : decode cL_register 1 = .ok (.iconst 0, 1) := by decide +kernel
theorem dL_register_2 : decode cL_register 2 = .ok (.aload_n 0, 1) := by decide +kernel
theorem dL_register_3 : decode cL_register 3 = .ok (.iload_n 1, 1) := by decide +kernel
set_option maxRecDepth 20000 in
theorem ggL_register_X11_register : GoodIn wsL_register wsX11_register := goodIn_ca (goodIn_ca (goodIn_r _ [6, 7, 8, 9, 10, 11, 12, 5, 13, 14, 15, 16, 17, 18, 19, 20, 21, 22, 23, 24, 25, 26, 27, 28, 29] (by decide +kernel) (by decide +kernel)) (goodIn_sub (fun _ h => List.mem_cons_of_mem _ (List.mem_append_right _ h)) (by decide +kernel))) (goodIn_sub (fun _ h => List.mem_cons_of_mem _ (List.mem_append_left _ (List.mem_append_right _ h))) (by decide +kernel))
set_option maxRecDepth 20000 in
theorem gL_register_X11_register : GoodIn wsL_register (wsV RL 113 RX11 yX11_register wsX11_register) := goodIn_app (goodIn_of _ (by decide +kernel)) ggL_register_X11_register
theorem dL_register_4 : decode cL_register 4 = .ok (.invokevirtual 113, 3) := by decide +kernel
theorem dL_register_12 : decode cL_register 12 = .ok (.astore_n 3, 1) := by decide +kernel
theorem dL_register_13 : decode cL_register 13 = .ok (.iconst 1, 1) := by decide +kernel
theorem dL_register_14 : decode cL_register 14 = .ok (.ireturn, 1) := by decide +kernel
theorem dL_register_7 : decode cL_register 7 = .ok (.i2l, 1) := by decide +kernel
theorem dL_register_8 : decode cL_register 8 = .ok (.lastore, 1) := by decide +kernel
theorem dL_register_9 : decode cL_register 9 = .ok (.goto 6, 3) := by decide +kernel
theorem dL_register_15 : decode cL_register 15 = .ok (.iconst 0, 1) := by decide +kernel
theorem dL_register_16 : decode cL_register 16 = .ok (.ireturn, 1) := by decide +kernel
theorem dL_tagRow_0 : decode cL_tagRow 0 = .ok (.aload_n 3, 1) := by decide +kernel
theorem dL_tagRow_1 : decode cL_tagRow 1 = .ok (.iconst 0, 1) := by decide +kernel
theorem dL_tagRow_2 : decode cL_tagRow 2 = .ok (.aload_n 0, 1) := by decide +kernel
theorem dL_tagRow_3 : decode cL_tagRow 3 = .ok (.iload_n 1, 1) := by decide +kernel
theorem dL_tagRow_4 : decode cL_tagRow 4 = .ok (.iload_n 2, 1) := by decide +kernel
set_option maxRecDepth 20000 in
theorem ggL_tagRow_X11_tagRow : GoodIn wsL_tagRow wsX11_tagRow := goodIn_ca (goodIn_ca (goodIn_ca (goodIn_r _ [7, 8, 9, 10, 11, 12, 6, 13, 14, 15, 16, 17, 18, 19, 20, 21, 22, 23, 24, 25, 26, 27, 28, 29, 30, 31, 32, 33, 34, 35, 36, 37, 38, 39, 40, 41, 42, 43, 44, 45, 46] (by decide +kernel) (by decide +kernel)) (goodIn_sub (fun _ h => List.mem_cons_of_mem _ (List.mem_append_left _ (List.mem_append_right _ h))) (by decide +kernel))) (goodIn_sub (fun _ h => List.mem_cons_of_mem _ (List.mem_append_right _ h)) (by decide +kernel))) (goodIn_sub (fun _ h => List.mem_cons_of_mem _ (List.mem_append_left _ (List.mem_append_left _ (List.mem_append_right _ h)))) (by decide +kernel))
set_option maxRecDepth 20000 in
theorem gL_tagRow_X11_tagRow : GoodIn wsL_tagRow (wsV RL 116 RX11 yX11_tagRow wsX11_tagRow) := goodIn_app (goodIn_of _ (by decide +kernel)) ggL_tagRow_X11_tagRow
theorem dL_tagRow_5 : decode cL_tagRow 5 = .ok (.invokevirtual 116, 3) := by decide +kernel
theorem dL_tagRow_13 : decode cL_tagRow 13 = .ok (.astore 4, 2) := by decide +kernel
theorem dL_tagRow_15 : decode cL_tagRow 15 = .ok (.iconst 1, 1) := by decide +kernel
theorem dL_tagRow_16 : decode cL_tagRow 16 = .ok (.ireturn, 1) := by decide +kernel
theorem dL_tagRow_8 : decode cL_tagRow 8 = .ok (.i2l, 1) := by decide +kernel
theorem dL_tagRow_9 : decode cL_tagRow 9 = .ok (.lastore, 1) := by decide +kernel
theorem dL_tagRow_10 : decode cL_tagRow 10 = .ok (.goto 11, 3) := by decide +kernel
theorem dL_tagRow_21 : decode cL_tagRow 21 = .ok (.iconst 0, 1) := by decide +kernel
theorem dL_tagRow_22 : decode cL_tagRow 22 = .ok (.ireturn, 1) := by decide +kernel
theorem dL_tagStart_0 : decode cL_tagStart 0 = .ok (.aload_n 2, 1) := by decide +kernel
theorem dL_tagStart_1 : decode cL_tagStart 1 = .ok (.iconst 0, 1) := by decide +kernel
theorem dL_tagStart_2 : decode cL_tagStart 2 = .ok (.aload_n 0, 1) := by decide +kernel
theorem dL_tagStart_3 : decode cL_tagStart 3 = .ok (.iload_n 1, 1) := by decide +kernel
set_option maxRecDepth 20000 in
theorem ggL_tagStart_X11_tagStart : GoodIn wsL_tagStart wsX11_tagStart := goodIn_ca (goodIn_ca (goodIn_ca (goodIn_r _ [7, 8, 9, 10, 11, 12, 13, 6, 14, 15, 16, 17, 18, 19, 20, 21, 22, 23, 24, 25, 26, 27, 28, 29, 30, 31, 32, 33, 34, 35, 36, 37, 38, 39, 40, 41] (by decide +kernel) (by decide +kernel)) (goodIn_sub (fun _ h => List.mem_cons_of_mem _ (List.mem_append_left _ (List.mem_append_right _ h))) (by decide +kernel))) (goodIn_sub (fun _ h => List.mem_cons_of_mem _ (List.mem_append_right _ h)) (by decide +kernel))) (goodIn_sub (fun _ h => List.mem_cons_of_mem _ (List.mem_append_left _ (List.mem_append_left _ (List.mem_append_right _ h)))) (by decide +kernel))
set_option maxRecDepth 20000 in
theorem gL_tagStart_X11_tagStart : GoodIn wsL_tagStart (wsV RL 120 RX11 yX11_tagStart wsX11_tagStart) := goodIn_app (goodIn_of _ (by decide +kernel)) ggL_tagStart_X11_tagStart
theorem dL_tagStart_4 : decode cL_tagStart 4 = .ok (.invokevirtual 120, 3) := by decide +kernel
theorem dL_tagStart_12 : decode cL_tagStart 12 = .ok (.astore_n 3, 1) := by decide +kernel
theorem dL_tagStart_13 : decode cL_tagStart 13 = .ok (.iconst 1, 1) := by decide +kernel
theorem dL_tagStart_14 : decode cL_tagStart 14 = .ok (.ireturn, 1) := by decide +kernel
theorem dL_tagStart_7 : decode cL_tagStart 7 = .ok (.i2l, 1) := by decide +kernel
theorem dL_tagStart_8 : decode cL_tagStart 8 = .ok (.lastore, 1) := by decide +kernel
theorem dL_tagStart_9 : decode cL_tagStart 9 = .ok (.goto 9, 3) := by decide +kernel
theorem dL_tagStart_18 : decode cL_tagStart 18 = .ok (.iconst 0, 1) := by decide +kernel
theorem dL_tagStart_19 : decode cL_tagStart 19 = .ok (.ireturn, 1) := by decide +kernel
theorem dL_tag_0 : decode cL_tag 0 = .ok (.aload_n 3, 1) := by decide +kernel
theorem dL_tag_1 : decode cL_tag 1 = .ok (.iconst 0, 1) := by decide +kernel
theorem dL_tag_2 : decode cL_tag 2 = .ok (.aload_n 0, 1) := by decide +kernel
theorem dL_tag_3 : decode cL_tag 3 = .ok (.iload_n 1, 1) := by decide +kernel
theorem dL_tag_4 : decode cL_tag 4 = .ok (.iload_n 2, 1) := by decide +kernel
set_option maxRecDepth 20000 in
theorem ggL_tag_X11_tag : GoodIn wsL_tag wsX11_tag := goodIn_ca (goodIn_ca (goodIn_r _ [6, 7, 8, 9, 5, 10, 11, 12, 13, 14, 15, 16, 17, 18, 19, 20, 21, 22, 23, 24, 25, 26, 27, 28, 29, 30, 31, 32, 33, 34, 35, 36, 37, 38, 39, 40, 41, 42, 43, 44, 45, 46, 47, 48, 49, 50, 51] (by decide +kernel) (by decide +kernel)) (goodIn_sub (fun _ h => List.mem_cons_of_mem _ (List.mem_append_right _ h)) (by decide +kernel))) (goodIn_sub (fun _ h => List.mem_cons_of_mem _ (List.mem_append_left _ (List.mem_append_right _ h))) (by decide +kernel))
set_option maxRecDepth 20000 in
theorem gL_tag_X11_tag : GoodIn wsL_tag (wsV RL 123 RX11 yX11_tag wsX11_tag) := goodIn_app (goodIn_of _ (by decide +kernel)) ggL_tag_X11_tag
theorem dL_tag_5 : decode cL_tag 5 = .ok (.invokevirtual 123, 3) := by decide +kernel
theorem dL_tag_13 : decode cL_tag 13 = .ok (.astore 4, 2) := by decide +kernel
theorem dL_tag_15 : decode cL_tag 15 = .ok (.iconst 1, 1) := by decide +kernel
theorem dL_tag_16 : decode cL_tag 16 = .ok (.ireturn, 1) := by decide +kernel
theorem dL_tag_8 : decode cL_tag 8 = .ok (.i2l, 1) := by decide +kernel
theorem dL_tag_9 : decode cL_tag 9 = .ok (.lastore, 1) := by decide +kernel
theorem dL_tag_10 : decode cL_tag 10 = .ok (.goto 7, 3) := by decide +kernel
theorem dL_tag_17 : decode cL_tag 17 = .ok (.iconst 0, 1) := by decide +kernel
theorem dL_tag_18 : decode cL_tag 18 = .ok (.ireturn, 1) := by decide +kernel
theorem dL_fraction_0 : decode cL_fraction 0 = .ok (.aload_n 3, 1) := by decide +kernel
theorem dL_fraction_1 : decode cL_fraction 1 = .ok (.iconst 0, 1) := by decide +kernel
theorem dL_fraction_2 : decode cL_fraction 2 = .ok (.aload_n 0, 1) := by decide +kernel
theorem dL_fraction_3 : decode cL_fraction 3 = .ok (.iload_n 1, 1) := by decide +kernel
theorem dL_fraction_4 : decode cL_fraction 4 = .ok (.iload_n 2, 1) := by decide +kernel
set_option maxRecDepth 20000 in
theorem ggL_fraction_X11_fraction : GoodIn wsL_fraction wsX11_fraction := goodIn_ca (goodIn_ca (goodIn_ca (goodIn_ca (goodIn_r _ [7, 8, 9, 10, 11, 12, 13, 6, 14, 15, 16, 17, 18, 19, 20, 21, 22, 23, 24, 25, 26, 27, 28, 29, 30, 31, 32, 33, 34, 35, 36, 37, 38, 39, 40, 41, 42, 43, 44, 45] (by decide +kernel) (by decide +kernel)) (goodIn_sub (fun _ h => List.mem_cons_of_mem _ (List.mem_append_left _ (List.mem_append_left _ (List.mem_append_right _ h)))) (by decide +kernel))) (goodIn_sub (fun _ h => List.mem_cons_of_mem _ (List.mem_append_left _ (List.mem_append_right _ h))) (by decide +kernel))) (goodIn_sub (fun _ h => List.mem_cons_of_mem _ (List.mem_append_right _ h)) (by decide +kernel))) (goodIn_sub (fun _ h => List.mem_cons_of_mem _ (List.mem_append_left _ (List.mem_append_left _ (List.mem_append_left _ (List.mem_append_right _ h))))) (by decide +kernel))
set_option maxRecDepth 20000 in
theorem gL_fraction_X11_fraction : GoodIn wsL_fraction (wsV RL 129 RX11 yX11_fraction wsX11_fraction) := goodIn_app (goodIn_of _ (by decide +kernel)) ggL_fraction_X11_fraction
theorem dL_fraction_5 : decode cL_fraction 5 = .ok (.invokevirtual 129, 3) := by decide +kernel
theorem dL_fraction_13 : decode cL_fraction 13 = .ok (.astore 4, 2) := by decide +kernel
theorem dL_fraction_15 : decode cL_fraction 15 = .ok (.iconst 1, 1) := by decide +kernel
theorem dL_fraction_16 : decode cL_fraction 16 = .ok (.ireturn, 1) := by decide +kernel
theorem dL_fraction_8 : decode cL_fraction 8 = .ok (.i2l, 1) := by decide +kernel
theorem dL_fraction_9 : decode cL_fraction 9 = .ok (.lastore, 1) := by decide +kernel
theorem dL_fraction_10 : decode cL_fraction 10 = .ok (.goto 11, 3) := by decide +kernel
theorem dL_fraction_21 : decode cL_fraction 21 = .ok (.iconst 0, 1) := by decide +kernel
theorem dL_fraction_22 : decode cL_fraction 22 = .ok (.ireturn, 1) := by decide +kernel
theorem dL_walk_0 : decode cL_walk 0 = .ok (.aload 4, 2) := by decide +kernel
theorem dL_walk_2 : decode cL_walk 2 = .ok (.iconst 0, 1) := by decide +kernel
theorem dL_walk_3 : decode cL_walk 3 = .ok (.aload_n 0, 1) := by decide +kernel
theorem dL_walk_4 : decode cL_walk 4 = .ok (.lload_n 1, 1) := by decide +kernel
theorem dL_walk_5 : decode cL_walk 5 = .ok (.iload_n 3, 1) := by decide +kernel
set_option maxRecDepth 20000 in
theorem ggL_walk_X11_walk : GoodIn wsL_walk wsX11_walk := goodIn_ca (goodIn_ca (goodIn_ca (goodIn_r _ [6, 7, 8, 9, 10, 5, 11, 12, 13, 14, 15, 16, 17, 18, 19, 20, 21, 22, 23, 24, 25, 26, 27, 28, 29, 30, 31, 32, 33, 34, 35, 36, 37, 38, 39, 40, 41, 42, 43, 44, 45, 46, 47, 48, 49, 50, 51] (by decide +kernel) (by decide +kernel)) (goodIn_sub (fun _ h => List.mem_cons_of_mem _ (List.mem_append_left _ (List.mem_append_right _ h))) (by decide +kernel))) (goodIn_sub (fun _ h => List.mem_cons_of_mem _ (List.mem_append_right _ h)) (by decide +kernel))) (goodIn_sub (fun _ h => List.mem_cons_of_mem _ (List.mem_append_left _ (List.mem_append_left _ (List.mem_append_right _ h)))) (by decide +kernel))
set_option maxRecDepth 20000 in
theorem gL_walk_X11_walk : GoodIn wsL_walk (wsV RL 132 RX11 yX11_walk wsX11_walk) := goodIn_app (goodIn_of _ (by decide +kernel)) ggL_walk_X11_walk
theorem dL_walk_6 : decode cL_walk 6 = .ok (.invokevirtual 132, 3) := by decide +kernel
theorem dL_walk_13 : decode cL_walk 13 = .ok (.astore 5, 2) := by decide +kernel
theorem dL_walk_15 : decode cL_walk 15 = .ok (.iconst 1, 1) := by decide +kernel
theorem dL_walk_16 : decode cL_walk 16 = .ok (.ireturn, 1) := by decide +kernel
theorem dL_walk_9 : decode cL_walk 9 = .ok (.lastore, 1) := by decide +kernel
theorem dL_walk_10 : decode cL_walk 10 = .ok (.goto 7, 3) := by decide +kernel
theorem dL_walk_17 : decode cL_walk 17 = .ok (.iconst 0, 1) := by decide +kernel
theorem dL_walk_18 : decode cL_walk 18 = .ok (.ireturn, 1) := by decide +kernel
theorem dL_listed_0 : decode cL_listed 0 = .ok (.aload 4, 2) := by decide +kernel
theorem dL_listed_2 : decode cL_listed 2 = .ok (.iconst 0, 1) := by decide +kernel
theorem dL_listed_3 : decode cL_listed 3 = .ok (.aload_n 0, 1) := by decide +kernel
theorem dL_listed_4 : decode cL_listed 4 = .ok (.iload_n 1, 1) := by decide +kernel
theorem dL_listed_5 : decode cL_listed 5 = .ok (.iload_n 2, 1) := by decide +kernel
theorem dL_listed_6 : decode cL_listed 6 = .ok (.iload_n 3, 1) := by decide +kernel
set_option maxRecDepth 20000 in
theorem ggL_listed_X11_listed : GoodIn wsL_listed wsX11_listed := goodIn_ca (goodIn_ca (goodIn_r _ [6, 7, 8, 9, 10, 5, 11, 12, 13, 14, 15, 16, 17, 18, 19, 20, 21, 22, 23, 24, 25, 26, 27, 28, 29, 30, 31, 32, 33, 34, 35, 36, 37, 38, 39, 40, 41, 42, 43, 44, 45, 46, 47, 48, 49, 50, 51, 52, 53, 54, 55, 56, 57, 58, 59, 60, 61, 62, 63, 64, 65, 66, 67, 68, 69, 70, 71, 72, 73, 74, 75, 76, 77, 78, 79, 80, 81, 82, 83, 84, 85, 86, 87, 88, 89, 90, 91, 92, 93, 94, 95, 96, 97, 98, 99, 100, 101, 102, 103, 104, 105, 106, 107, 108, 109, 110, 111, 112, 113, 114, 115, 116, 117, 118, 119, 120, 121, 122, 123, 124, 125, 126, 127, 128, 129, 130, 131, 132, 133, 134, 135, 136, 137, 138, 139, 140, 141, 142, 143, 144, 145, 146, 147, 148, 149, 150, 151, 152, 153, 154, 155, 156, 157, 158, 159, 160, 161, 162, 163, 164, 165, 166, 167, 168, 169, 170, 171, 172, 173, 174, 175, 176, 177, 178, 179, 180, 181, 182, 183, 184, 185, 186, 187, 188, 189, 190, 191, 192, 193, 194, 195, 196, 197, 198, 199, 200, 201, 202, 203, 204, 205, 206, 207, 208, 209, 210, 211, 212, 213, 214, 215, 216, 217, 218, 219, 220, 221, 222, 223, 224, 225, 226, 227, 228, 229, 230, 231, 232, 233, 234, 235, 236, 237, 238, 239, 240, 241, 242, 243, 244, 245, 246, 247, 248, 249, 250, 251] (by decide +kernel) (by decide +kernel)) (goodIn_sub (fun _ h => List.mem_cons_of_mem _ (List.mem_append_right _ h)) (by decide +kernel))) (goodIn_sub (fun _ h => List.mem_cons_of_mem _ (List.mem_append_left _ (List.mem_append_right _ h))) (by decide +kernel))
set_option maxRecDepth 20000 in
theorem gL_listed_X11_listed : GoodIn wsL_listed (wsV RL 82 RX11 yX11_listed wsX11_listed) := goodIn_app (goodIn_of _ (by decide +kernel)) ggL_listed_X11_listed
theorem dL_listed_7 : decode cL_listed 7 = .ok (.invokevirtual 82, 3) := by decide +kernel
theorem dL_listed_15 : decode cL_listed 15 = .ok (.astore 5, 2) := by decide +kernel
theorem dL_listed_17 : decode cL_listed 17 = .ok (.iconst 1, 1) := by decide +kernel
theorem dL_listed_18 : decode cL_listed 18 = .ok (.ireturn, 1) := by decide +kernel
theorem dL_listed_10 : decode cL_listed 10 = .ok (.i2l, 1) := by decide +kernel
theorem dL_listed_11 : decode cL_listed 11 = .ok (.lastore, 1) := by decide +kernel
theorem dL_listed_12 : decode cL_listed 12 = .ok (.goto 7, 3) := by decide +kernel
theorem dL_listed_19 : decode cL_listed 19 = .ok (.iconst 0, 1) := by decide +kernel
theorem dL_listed_20 : decode cL_listed 20 = .ok (.ireturn, 1) := by decide +kernel
theorem dL_champion_0 : decode cL_champion 0 = .ok (.aload_n 3, 1) := by decide +kernel
theorem dL_champion_1 : decode cL_champion 1 = .ok (.iconst 0, 1) := by decide +kernel
theorem dL_champion_2 : decode cL_champion 2 = .ok (.aload_n 0, 1) := by decide +kernel
theorem dL_champion_3 : decode cL_champion 3 = .ok (.iload_n 1, 1) := by decide +kernel
theorem dL_champion_4 : decode cL_champion 4 = .ok (.iload_n 2, 1) := by decide +kernel
set_option maxRecDepth 20000 in
theorem ggL_champion_X11_champion : GoodIn wsL_champion wsX11_champion := goodIn_ca (goodIn_ca (goodIn_ca (goodIn_r _ [7, 8, 9, 10, 11, 12, 13, 14, 15, 6, 16, 17, 18, 19, 20, 21, 22, 23, 24, 25, 26, 27, 28, 29, 30, 31, 32, 33, 34, 35, 36, 37, 38, 39, 40, 41, 42, 43, 44, 45, 46, 47, 48, 49, 50, 51, 52, 53, 54, 55, 56, 57, 58, 59, 60, 61, 62, 63, 64, 65, 66, 67, 68, 69, 70, 71, 72, 73, 74, 75, 76, 77, 78, 79, 80, 81, 82, 83, 84, 85, 86, 87, 88, 89, 90, 91, 92, 93, 94, 95, 96, 97, 98, 99, 100, 101, 102, 103, 104, 105, 106, 107, 108, 109, 110, 111, 112, 113, 114, 115, 116, 117, 118, 119, 120, 121, 122, 123, 124, 125, 126, 127, 128, 129, 130, 131, 132, 133, 134, 135, 136, 137, 138, 139, 140, 141, 142, 143, 144, 145, 146, 147, 148, 149, 150, 151, 152, 153, 154, 155, 156, 157, 158, 159, 160, 161, 162, 163, 164, 165, 166, 167, 168, 169, 170, 171, 172, 173, 174, 175, 176, 177, 178, 179, 180, 181, 182, 183, 184, 185, 186, 187, 188, 189, 190, 191, 192, 193, 194, 195, 196, 197, 198, 199, 200, 201, 202, 203, 204, 205, 206, 207, 208, 209, 210, 211, 212, 213, 214, 215, 216, 217, 218, 219, 220, 221, 222, 223, 224, 225, 226, 227, 228, 229, 230, 231, 232, 233, 234, 235, 236, 237, 238, 239, 240, 241, 242, 243, 244, 245, 246, 247, 248, 249, 250, 251, 252, 253, 254, 255, 256, 257, 258, 259, 260, 261, 262, 263, 264, 265, 266, 267, 268, 269, 270, 271, 272, 273, 274, 275, 276, 277, 278, 279, 280, 281, 282, 283] (by decide +kernel) (by decide +kernel)) (goodIn_sub (fun _ h => List.mem_cons_of_mem _ (List.mem_append_left _ (List.mem_append_right _ h))) (by decide +kernel))) (goodIn_sub (fun _ h => List.mem_cons_of_mem _ (List.mem_append_right _ h)) (by decide +kernel))) (goodIn_sub (fun _ h => List.mem_cons_of_mem _ (List.mem_append_left _ (List.mem_append_left _ (List.mem_append_right _ h)))) (by decide +kernel))
set_option maxRecDepth 20000 in
theorem gL_champion_X11_champion : GoodIn wsL_champion (wsV RL 86 RX11 yX11_champion wsX11_champion) := goodIn_app (goodIn_of _ (by decide +kernel)) ggL_champion_X11_champion
theorem dL_champion_5 : decode cL_champion 5 = .ok (.invokevirtual 86, 3) := by decide +kernel
theorem dL_champion_13 : decode cL_champion 13 = .ok (.astore 4, 2) := by decide +kernel
theorem dL_champion_15 : decode cL_champion 15 = .ok (.iconst 1, 1) := by decide +kernel
theorem dL_champion_16 : decode cL_champion 16 = .ok (.ireturn, 1) := by decide +kernel
theorem dL_champion_8 : decode cL_champion 8 = .ok (.i2l, 1) := by decide +kernel
theorem dL_champion_9 : decode cL_champion 9 = .ok (.lastore, 1) := by decide +kernel
theorem dL_champion_10 : decode cL_champion 10 = .ok (.goto 11, 3) := by decide +kernel
theorem dL_champion_21 : decode cL_champion 21 = .ok (.iconst 0, 1) := by decide +kernel
theorem dL_champion_22 : decode cL_champion 22 = .ok (.ireturn, 1) := by decide +kernel
theorem dL_haltingShare_0 : decode cL_haltingShare 0 = .ok (.aload_n 3, 1) := by decide +kernel
theorem dL_haltingShare_1 : decode cL_haltingShare 1 = .ok (.iconst 0, 1) := by decide +kernel
theorem dL_haltingShare_2 : decode cL_haltingShare 2 = .ok (.aload_n 0, 1) := by decide +kernel
theorem dL_haltingShare_3 : decode cL_haltingShare 3 = .ok (.iload_n 1, 1) := by decide +kernel
theorem dL_haltingShare_4 : decode cL_haltingShare 4 = .ok (.iload_n 2, 1) := by decide +kernel
set_option maxRecDepth 20000 in
theorem ggL_haltingShare_X11_haltingShare : GoodIn wsL_haltingShare wsX11_haltingShare := goodIn_ca (goodIn_ca (goodIn_r _ [6, 7, 8, 9, 10, 11, 12, 13, 5, 14, 15, 16, 17, 18, 19, 20, 21, 22, 23, 24, 25, 26, 27, 28, 29, 30, 31, 32, 33, 34, 35, 36, 37, 38, 39, 40, 41, 42, 43, 44, 45, 46, 47, 48, 49, 50, 51, 52, 53, 54, 55, 56, 57, 58, 59, 60, 61, 62, 63, 64, 65, 66, 67, 68, 69, 70, 71, 72, 73, 74, 75, 76, 77, 78, 79, 80, 81, 82, 83, 84, 85, 86, 87, 88, 89, 90, 91, 92, 93, 94, 95, 96, 97, 98, 99, 100, 101, 102, 103, 104, 105, 106, 107, 108, 109, 110, 111, 112, 113, 114, 115, 116, 117, 118, 119, 120, 121, 122, 123, 124, 125, 126, 127, 128, 129, 130, 131, 132, 133, 134, 135, 136, 137, 138, 139, 140, 141, 142, 143, 144, 145, 146, 147, 148, 149, 150, 151, 152, 153, 154, 155, 156, 157, 158, 159, 160, 161, 162, 163, 164, 165, 166, 167, 168, 169, 170, 171, 172, 173, 174, 175, 176, 177, 178, 179, 180, 181, 182, 183, 184, 185, 186, 187, 188, 189, 190, 191, 192, 193, 194, 195, 196, 197, 198, 199, 200, 201, 202, 203, 204, 205, 206, 207, 208, 209, 210, 211, 212, 213, 214, 215, 216, 217, 218, 219, 220, 221, 222, 223, 224, 225, 226, 227, 228, 229, 230, 231, 232, 233, 234, 235, 236, 237, 238, 239, 240, 241, 242, 243, 244, 245, 246, 247, 248, 249, 250] (by decide +kernel) (by decide +kernel)) (goodIn_sub (fun _ h => List.mem_cons_of_mem _ (List.mem_append_right _ h)) (by decide +kernel))) (goodIn_sub (fun _ h => List.mem_cons_of_mem _ (List.mem_append_left _ (List.mem_append_right _ h))) (by decide +kernel))
set_option maxRecDepth 20000 in
theorem gL_haltingShare_X11_haltingShare : GoodIn wsL_haltingShare (wsV RL 89 RX11 yX11_haltingShare wsX11_haltingShare) := goodIn_app (goodIn_of _ (by decide +kernel)) ggL_haltingShare_X11_haltingShare
theorem dL_haltingShare_5 : decode cL_haltingShare 5 = .ok (.invokevirtual 89, 3) := by decide +kernel
theorem dL_haltingShare_13 : decode cL_haltingShare 13 = .ok (.astore 4, 2) := by decide +kernel
theorem dL_haltingShare_15 : decode cL_haltingShare 15 = .ok (.iconst 1, 1) := by decide +kernel
theorem dL_haltingShare_16 : decode cL_haltingShare 16 = .ok (.ireturn, 1) := by decide +kernel
theorem dL_haltingShare_8 : decode cL_haltingShare 8 = .ok (.f2d, 1) := by decide +kernel
theorem dL_haltingShare_9 : decode cL_haltingShare 9 = .ok (.dastore, 1) := by decide +kernel
theorem dL_haltingShare_10 : decode cL_haltingShare 10 = .ok (.goto 7, 3) := by decide +kernel
theorem dL_haltingShare_17 : decode cL_haltingShare 17 = .ok (.iconst 0, 1) := by decide +kernel
theorem dL_haltingShare_18 : decode cL_haltingShare 18 = .ok (.ireturn, 1) := by decide +kernel
theorem P_nil {D : va_G} {cl : List vw_C} {H : Heap} : va_P D cl [] H := fun k q h => by cases h
theorem D_nil {A : Nat → Prop} : va_D A [] := ⟨fun i j p q h => by cases h, fun k q h => by cases h⟩
theorem up0 {f : Nat → Int64} {v : Int64} : vp_updL f (0 : Int32).toNatClampNeg v 0 = v := pk_uLs
theorem up0d {f : Nat → UInt64} {v : UInt64} : vf_upd f (0 : Int32).toNatClampNeg v 0 = v := if_pos rfl
set_option maxHeartbeats 4000000 in
set_option maxRecDepth 100000 in
/-- L_order -/
theorem c_L_order (l : Launch) (hfl : l.stackTraces = false) (dC : Nat → ClassId) (dI : Nat → Nat → Nat) (ya ms ju li ct tg fw : Nat) (a1 a2 a3 a4 a5 a6 : Int32) (cL : ClassId) (ou : Nat) (of9 : Nat → Int64) (sz : Nat) : vx_Met l yL_order wsL_order ({ frames := 8, cells := 1, slots := 6, locals := 149 }) (va_Pc [.ref ya, .int a1, .int a2, .int a3, .int a4, .int a5, .int a6, .ref ou] (cPCz (zX) dC dI [(ya, .inr (16, [.ref ms, .int 0, .ref ju, .ref li, .ref ct, .ref tg, .ref fw])), (ou, .inl (cL, 1, .inr (.inl of9)))] [(cL, .long)] sz)) (va_Qi (fun (r : Int32) (u : Nat → Int64) => r = 1) (fun (u : Nat → Int64) t => cQB dC dI [(ou, .inl (cL, 1, .inr (.inl u)))] [(cL, .long)] (va_A [(ya, .inr (16, [.ref ms, .int 0, .ref ju, .ref li, .ref ct, .ref tg, .ref fw])), (ou, .inl (cL, 1, .inr (.inl of9)))] sz) t) (va_A [(ya, .inr (16, [.ref ms, .int 0, .ref ju, .ref li, .ref ct, .ref tg, .ref fw])), (ou, .inl (cL, 1, .inr (.inl of9)))] sz)) (vx_X (fun (_ : Unit) => True) (fun (E9 : String) (_ : Unit) (_ : State) => False) (va_A [(ya, .inr (16, [.ref ms, .int 0, .ref ju, .ref li, .ref ct, .ref tg, .ref fw])), (ou, .inl (cL, 1, .inr (.inl of9)))] sz)) 1 6 (va_A [(ya, .inr (16, [.ref ms, .int 0, .ref ju, .ref li, .ref ct, .ref tg, .ref fw])), (ou, .inl (cL, 1, .inr (.inl of9)))] sz) := by
  refine vx_ofWH (cc := cL_order) (maxL := 9) (ret := (some .int)) (hh := [(0, 18, 21, 21), (0, 18, 25, 13)]) (by decide) rfl ?_
  intro p e s m args below meth c s₁ B hml hv
  obtain ⟨rfl, ⟨hsz, hP, hK, hD0, hN⟩, hZ⟩ := hv
  have hx := B.exec
  have hb := B.bytes
  have hr := B.returns
  have hts := atoms_spec (ws := wsL_order) B.pre
  have hown : s.vm.findClass RL = some m.cls := findClass_of_methodNamed B.named
  have hlocks := B.notSynchronized
  subst hsz
  have hD := hD0.self (sz := s.heap.size)
  generalize hAe : va_A [(ya, .inr (16, [.ref ms, .int 0, .ref ju, .ref li, .ref ct, .ref tg, .ref fw])), (ou, .inl (cL, 1, .inr (.inl of9)))] s.heap.size = A at hD hZ ⊢
  have hA : ∀ q : Nat, s.heap.size ≤ q → A q := fun q h => by rw [← hAe]; exact Or.inr h
  have hS : va_S A s.heap s.heap [] := va_S.rf
  have hP : va_P (dC, dI) vwCl [(ya, .inr (16, [.ref ms, .int 0, .ref ju, .ref li, .ref ct, .ref tg, .ref fw])), (ou, .inl (cL, 1, .inr (.inl of9)))] s.heap := hP
  have hD : va_D A [(ya, .inr (16, [.ref ms, .int 0, .ref ju, .ref li, .ref ct, .ref tg, .ref fw])), (ou, .inl (cL, 1, .inr (.inl of9)))] := hD
  have hl := lv_entry ([.ref ya, .int a1, .int a2, .int a3, .int a4, .int a5, .int a6, .ref ou]) (n := 9) (Nat.le_of_ble_eq_true rfl)
  rw [lg_entry_eq]
  generalize (lg_sl ([.ref ya, .int a1, .int a2, .int a3, .int a4, .int a5, .int a6, .ref ou]) ++ List.replicate (9 - (lg_sl ([.ref ya, .int a1, .int a2, .int a3, .int a4, .int a5, .int a6, .ref ou])).length) Slot.unset).toArray = ls at hl ⊢
  have hl : lv_has ls 9 [(0, .ref ya), (1, .int a1), (2, .int a2), (3, .int a3), (4, .int a4), (5, .int a5), (6, .int a6), (7, .ref ou)] := hl
  have htab : c.exceptionTable.toList = tableOf [(0, 18, 21, 21), (0, 18, 25, 13)] := vx_table B (hts (.codeWith yL_order cL_order 9 (some .int) [(0, 18, 21, 21), (0, 18, 25, 13)]) (show _ ∈ wsL_order from List.mem_cons_self))
  refine lv_aload hx hb dL_order_0 (lv_at hl 7 rfl) ?_
  refine lv_iconst (v := 0) hx hb dL_order_2 (by decide) ?_
  refine lv_aload_n hx hb dL_order_3 rfl (lv_at hl 0 rfl) ?_
  refine lv_iload_n hx hb dL_order_4 rfl (lv_at hl 1 rfl) ?_
  refine lv_iload_n hx hb dL_order_5 rfl (lv_at hl 2 rfl) ?_
  refine lv_iload_n hx hb dL_order_6 rfl (lv_at hl 3 rfl) ?_
  refine lv_iload hx hb dL_order_7 (lv_at hl 4 rfl) ?_
  refine lv_iload hx hb dL_order_9 (lv_at hl 5 rfl) ?_
  refine lv_iload hx hb dL_order_11 (lv_at hl 6 rfl) ?_
  have hPc := hP.sub (ws' := [(ya, .inr (16, [.ref ms, .int 0, .ref ju, .ref li, .ref ct, .ref tg, .ref fw]))]) [0] rfl
  have hDc := hD.sub (ws' := [(ya, .inr (16, [.ref ms, .int 0, .ref ju, .ref li, .ref ct, .ref tg, .ref fw]))]) [0] (by decide) rfl
  have hKc := hK.sub (tys' := []) [] rfl
  have hFc := va_free (wc := [(ya, .inr (16, [.ref ms, .int 0, .ref ju, .ref li, .ref ct, .ref tg, .ref fw]))]) hD hS hA [0] rfl
  refine vx_callX (vx_runV (As := [.int a1, .int a2, .int a3, .int a4, .int a5, .int a6]) (rest := [.int 0, .ref ou]) ⟨hx, hb, hml, hown, hts⟩ (c_X11_order l hfl dC dI ya ms ju li ct tg fw a1 a2 a3 a4 a5 a6 s.heap.size) (cwV 6 hts gL_order_X11_order rfl rfl rfl (by decide +kernel) ⟨Nat.le_of_ble_eq_true rfl, Nat.le_of_ble_eq_true rfl⟩) (pcVz (zX_ok) hPc hDc hKc hN hZ hS hFc (ci := 16) (q0 := 0) rfl rfl) rfl rfl hl.1 rfl (lv_room (Nat.le_of_ble_eq_true rfl)) dL_order_13 ⟨Nat.le_of_ble_eq_true rfl, Nat.le_of_ble_eq_true rfl⟩) hS hFc (fun q _ h => hFc q h) (fun _ _ _ h => h) (fun E9 ce9 q9 u9 t9 H9 locs9 ht9 hvm9 hp9 hE9 hz9 hk9 hS9 hc9 hv9 hcl9 => ?_)
  subst hE9
  refine vx_catch (name := "java/lang/IndexOutOfBoundsException") hown [] ⟨0, 18, 21, 21⟩ [⟨0, 18, 25, 13⟩] htab (fun z hz => by cases hz) (by decide) (by decide) (hts (.classLink RL 21 "java/lang/IndexOutOfBoundsException") (by decide +kernel)) (zX_use hZ (.castable "java/lang/IndexOutOfBoundsException" "java/lang/IndexOutOfBoundsException") (by decide)) hc9 hv9 hcl9 ?_
  refine W.eq (g2 := F0 m 21 ls [.ref q9]) rfl ?_
  obtain ⟨hP, hD⟩ := va_join (wr := [(ou, .inl (cL, 1, .inr (.inl of9)))]) (w1 := []) hP hD [0] [1] rfl rfl (by decide) (by decide) hk9 hFc P_nil D_nil
  have hS := hS9
  generalize H9 = H at hP hS ⊢
  have hP : va_P (dC, dI) vwCl [(ou, .inl (cL, 1, .inr (.inl of9)))] H := hP
  have hD : va_D A [(ou, .inl (cL, 1, .inr (.inl of9)))] := hD
  refine W.widen (k := 1) (n := 6) (Nat.le_of_ble_eq_true rfl) (Nat.le_of_ble_eq_true rfl) ?_
  refine lv_astore (lv' := [(8, .ref q9), (0, .ref ya), (1, .int a1), (2, .int a2), (3, .int a3), (4, .int a4), (5, .int a5), (6, .int a6), (7, .ref ou)]) hx hb dL_order_21 hl (by decide) rfl (fun ls hl => ?_)
  refine lv_iconst (v := 1) hx hb dL_order_23 (by decide) ?_
  refine vx_ret ?_
  have hP9 := hP.sub (ws' := [(ou, .inl (cL, 1, .inr (.inl of9)))]) [0] rfl
  have hD9 := hD.sub (ws' := [(ou, .inl (cL, 1, .inr (.inl of9)))]) [0] (by decide) rfl
  have hK9 := hK.sub (tys' := [(cL, .long)]) [0] rfl
  exact W.iret (v := 1) hx hb hr (fun t ht hW => ⟨⟨1, of9, rfl, rfl, ⟨by rw [ht]; exact hP9, va_K.moved hW.alike hK9, hD9⟩⟩, hS.F ht⟩) hS.2.2 dL_order_24

set_option maxHeartbeats 4000000 in
set_option maxRecDepth 100000 in
/-- L_untell -/
theorem c_L_untell (l : Launch) (hfl : l.stackTraces = false) (dC : Nat → ClassId) (dI : Nat → Nat → Nat) (ya ms ju li ct tg fw : Nat) (a1 a2 a3 : Int32) (cL : ClassId) (ou : Nat) (of9 : Nat → Int64) (sz : Nat) : vx_Met l yL_untell wsL_untell ({ frames := 8, cells := 1, slots := 6, locals := 146 }) (va_Pc [.ref ya, .int a1, .int a2, .int a3, .ref ou] (cPCz (zX) dC dI [(ya, .inr (16, [.ref ms, .int 0, .ref ju, .ref li, .ref ct, .ref tg, .ref fw])), (ou, .inl (cL, 1, .inr (.inl of9)))] [(cL, .long)] sz)) (va_Qi (fun (r : Int32) (u : Nat → Int64) => r = 1) (fun (u : Nat → Int64) t => cQB dC dI [(ou, .inl (cL, 1, .inr (.inl u)))] [(cL, .long)] (va_A [(ya, .inr (16, [.ref ms, .int 0, .ref ju, .ref li, .ref ct, .ref tg, .ref fw])), (ou, .inl (cL, 1, .inr (.inl of9)))] sz) t) (va_A [(ya, .inr (16, [.ref ms, .int 0, .ref ju, .ref li, .ref ct, .ref tg, .ref fw])), (ou, .inl (cL, 1, .inr (.inl of9)))] sz)) (vx_X (fun (_ : Unit) => True) (fun (E9 : String) (_ : Unit) (_ : State) => False) (va_A [(ya, .inr (16, [.ref ms, .int 0, .ref ju, .ref li, .ref ct, .ref tg, .ref fw])), (ou, .inl (cL, 1, .inr (.inl of9)))] sz)) 1 6 (va_A [(ya, .inr (16, [.ref ms, .int 0, .ref ju, .ref li, .ref ct, .ref tg, .ref fw])), (ou, .inl (cL, 1, .inr (.inl of9)))] sz) := by
  refine vx_ofWH (cc := cL_untell) (maxL := 6) (ret := (some .int)) (hh := [(0, 12, 15, 21), (0, 12, 19, 13), (0, 12, 23, 27)]) (by decide) rfl ?_
  intro p e s m args below meth c s₁ B hml hv
  obtain ⟨rfl, ⟨hsz, hP, hK, hD0, hN⟩, hZ⟩ := hv
  have hx := B.exec
  have hb := B.bytes
  have hr := B.returns
  have hts := atoms_spec (ws := wsL_untell) B.pre
  have hown : s.vm.findClass RL = some m.cls := findClass_of_methodNamed B.named
  have hlocks := B.notSynchronized
  subst hsz
  have hD := hD0.self (sz := s.heap.size)
  generalize hAe : va_A [(ya, .inr (16, [.ref ms, .int 0, .ref ju, .ref li, .ref ct, .ref tg, .ref fw])), (ou, .inl (cL, 1, .inr (.inl of9)))] s.heap.size = A at hD hZ ⊢
  have hA : ∀ q : Nat, s.heap.size ≤ q → A q := fun q h => by rw [← hAe]; exact Or.inr h
  have hS : va_S A s.heap s.heap [] := va_S.rf
  have hP : va_P (dC, dI) vwCl [(ya, .inr (16, [.ref ms, .int 0, .ref ju, .ref li, .ref ct, .ref tg, .ref fw])), (ou, .inl (cL, 1, .inr (.inl of9)))] s.heap := hP
  have hD : va_D A [(ya, .inr (16, [.ref ms, .int 0, .ref ju, .ref li, .ref ct, .ref tg, .ref fw])), (ou, .inl (cL, 1, .inr (.inl of9)))] := hD
  have hl := lv_entry ([.ref ya, .int a1, .int a2, .int a3, .ref ou]) (n := 6) (Nat.le_of_ble_eq_true rfl)
  rw [lg_entry_eq]
  generalize (lg_sl ([.ref ya, .int a1, .int a2, .int a3, .ref ou]) ++ List.replicate (6 - (lg_sl ([.ref ya, .int a1, .int a2, .int a3, .ref ou])).length) Slot.unset).toArray = ls at hl ⊢
  have hl : lv_has ls 6 [(0, .ref ya), (1, .int a1), (2, .int a2), (3, .int a3), (4, .ref ou)] := hl
  have htab : c.exceptionTable.toList = tableOf [(0, 12, 15, 21), (0, 12, 19, 13), (0, 12, 23, 27)] := vx_table B (hts (.codeWith yL_untell cL_untell 6 (some .int) [(0, 12, 15, 21), (0, 12, 19, 13), (0, 12, 23, 27)]) (show _ ∈ wsL_untell from List.mem_cons_self))
  refine lv_aload hx hb dL_untell_0 (lv_at hl 4 rfl) ?_
  refine lv_iconst (v := 0) hx hb dL_untell_2 (by decide) ?_
  refine lv_aload_n hx hb dL_untell_3 rfl (lv_at hl 0 rfl) ?_
  refine lv_iload_n hx hb dL_untell_4 rfl (lv_at hl 1 rfl) ?_
  refine lv_iload_n hx hb dL_untell_5 rfl (lv_at hl 2 rfl) ?_
  refine lv_iload_n hx hb dL_untell_6 rfl (lv_at hl 3 rfl) ?_
  have hPc := hP.sub (ws' := [(ya, .inr (16, [.ref ms, .int 0, .ref ju, .ref li, .ref ct, .ref tg, .ref fw]))]) [0] rfl
  have hDc := hD.sub (ws' := [(ya, .inr (16, [.ref ms, .int 0, .ref ju, .ref li, .ref ct, .ref tg, .ref fw]))]) [0] (by decide) rfl
  have hKc := hK.sub (tys' := []) [] rfl
  have hFc := va_free (wc := [(ya, .inr (16, [.ref ms, .int 0, .ref ju, .ref li, .ref ct, .ref tg, .ref fw]))]) hD hS hA [0] rfl
  refine vx_callX (vx_runV (As := [.int a1, .int a2, .int a3]) (rest := [.int 0, .ref ou]) ⟨hx, hb, hml, hown, hts⟩ (c_X11_untell l hfl dC dI ya ms ju li ct tg fw a1 a2 a3 s.heap.size) (cwV 3 hts gL_untell_X11_untell rfl rfl rfl (by decide +kernel) ⟨Nat.le_of_ble_eq_true rfl, Nat.le_of_ble_eq_true rfl⟩) (pcVz (zX_ok) hPc hDc hKc hN hZ hS hFc (ci := 16) (q0 := 0) rfl rfl) rfl rfl hl.1 rfl (lv_room (Nat.le_of_ble_eq_true rfl)) dL_untell_7 ⟨Nat.le_of_ble_eq_true rfl, Nat.le_of_ble_eq_true rfl⟩) hS hFc (fun q _ h => hFc q h) (fun _ _ _ h => h) (fun E9 ce9 q9 u9 t9 H9 locs9 ht9 hvm9 hp9 hE9 hz9 hk9 hS9 hc9 hv9 hcl9 => ?_)
  subst hE9
  refine vx_catch (name := "java/lang/IndexOutOfBoundsException") hown [] ⟨0, 12, 15, 21⟩ [⟨0, 12, 19, 13⟩, ⟨0, 12, 23, 27⟩] htab (fun z hz => by cases hz) (by decide) (by decide) (hts (.classLink RL 21 "java/lang/IndexOutOfBoundsException") (by decide +kernel)) (zX_use hZ (.castable "java/lang/IndexOutOfBoundsException" "java/lang/IndexOutOfBoundsException") (by decide)) hc9 hv9 hcl9 ?_
  refine W.eq (g2 := F0 m 15 ls [.ref q9]) rfl ?_
  obtain ⟨hP, hD⟩ := va_join (wr := [(ou, .inl (cL, 1, .inr (.inl of9)))]) (w1 := []) hP hD [0] [1] rfl rfl (by decide) (by decide) hk9 hFc P_nil D_nil
  have hS := hS9
  generalize H9 = H at hP hS ⊢
  have hP : va_P (dC, dI) vwCl [(ou, .inl (cL, 1, .inr (.inl of9)))] H := hP
  have hD : va_D A [(ou, .inl (cL, 1, .inr (.inl of9)))] := hD
  refine W.widen (k := 1) (n := 6) (Nat.le_of_ble_eq_true rfl) (Nat.le_of_ble_eq_true rfl) ?_
  refine lv_astore (lv' := [(5, .ref q9), (0, .ref ya), (1, .int a1), (2, .int a2), (3, .int a3), (4, .ref ou)]) hx hb dL_untell_15 hl (by decide) rfl (fun ls hl => ?_)
  refine lv_iconst (v := 1) hx hb dL_untell_17 (by decide) ?_
  refine vx_ret ?_
  have hP9 := hP.sub (ws' := [(ou, .inl (cL, 1, .inr (.inl of9)))]) [0] rfl
  have hD9 := hD.sub (ws' := [(ou, .inl (cL, 1, .inr (.inl of9)))]) [0] (by decide) rfl
  have hK9 := hK.sub (tys' := [(cL, .long)]) [0] rfl
  exact W.iret (v := 1) hx hb hr (fun t ht hW => ⟨⟨1, of9, rfl, rfl, ⟨by rw [ht]; exact hP9, va_K.moved hW.alike hK9, hD9⟩⟩, hS.F ht⟩) hS.2.2 dL_untell_18

set_option maxHeartbeats 4000000 in
set_option maxRecDepth 100000 in
/-- L_copy -/
theorem c_L_copy (l : Launch) (hfl : l.stackTraces = false) (dC : Nat → ClassId) (dI : Nat → Nat → Nat) (ya ms ju li ct tg fw : Nat) (a1 : Int32) (cL : ClassId) (ou : Nat) (of9 : Nat → Int64) (sz : Nat) : vx_Met l yL_copy wsL_copy ({ frames := 8, cells := 1, slots := 6, locals := 145 }) (va_Pc [.ref ya, .int a1, .ref ou] (cPCz (zX) dC dI [(ya, .inr (16, [.ref ms, .int 0, .ref ju, .ref li, .ref ct, .ref tg, .ref fw])), (ou, .inl (cL, 1, .inr (.inl of9)))] [(cL, .long)] sz)) (va_Qi (fun (r : Int32) (u : Nat → Int64) => r = 1) (fun (u : Nat → Int64) t => cQB dC dI [(ou, .inl (cL, 1, .inr (.inl u)))] [(cL, .long)] (va_A [(ya, .inr (16, [.ref ms, .int 0, .ref ju, .ref li, .ref ct, .ref tg, .ref fw])), (ou, .inl (cL, 1, .inr (.inl of9)))] sz) t) (va_A [(ya, .inr (16, [.ref ms, .int 0, .ref ju, .ref li, .ref ct, .ref tg, .ref fw])), (ou, .inl (cL, 1, .inr (.inl of9)))] sz)) (vx_X (fun (_ : Unit) => True) (fun (E9 : String) (_ : Unit) (_ : State) => False) (va_A [(ya, .inr (16, [.ref ms, .int 0, .ref ju, .ref li, .ref ct, .ref tg, .ref fw])), (ou, .inl (cL, 1, .inr (.inl of9)))] sz)) 1 6 (va_A [(ya, .inr (16, [.ref ms, .int 0, .ref ju, .ref li, .ref ct, .ref tg, .ref fw])), (ou, .inl (cL, 1, .inr (.inl of9)))] sz) := by
  refine vx_ofWH (cc := cL_copy) (maxL := 4) (ret := (some .int)) (hh := [(0, 9, 12, 21), (0, 9, 15, 15)]) (by decide) rfl ?_
  intro p e s m args below meth c s₁ B hml hv
  obtain ⟨rfl, ⟨hsz, hP, hK, hD0, hN⟩, hZ⟩ := hv
  have hx := B.exec
  have hb := B.bytes
  have hr := B.returns
  have hts := atoms_spec (ws := wsL_copy) B.pre
  have hown : s.vm.findClass RL = some m.cls := findClass_of_methodNamed B.named
  have hlocks := B.notSynchronized
  subst hsz
  have hD := hD0.self (sz := s.heap.size)
  generalize hAe : va_A [(ya, .inr (16, [.ref ms, .int 0, .ref ju, .ref li, .ref ct, .ref tg, .ref fw])), (ou, .inl (cL, 1, .inr (.inl of9)))] s.heap.size = A at hD hZ ⊢
  have hA : ∀ q : Nat, s.heap.size ≤ q → A q := fun q h => by rw [← hAe]; exact Or.inr h
  have hS : va_S A s.heap s.heap [] := va_S.rf
  have hP : va_P (dC, dI) vwCl [(ya, .inr (16, [.ref ms, .int 0, .ref ju, .ref li, .ref ct, .ref tg, .ref fw])), (ou, .inl (cL, 1, .inr (.inl of9)))] s.heap := hP
  have hD : va_D A [(ya, .inr (16, [.ref ms, .int 0, .ref ju, .ref li, .ref ct, .ref tg, .ref fw])), (ou, .inl (cL, 1, .inr (.inl of9)))] := hD
  have hl := lv_entry ([.ref ya, .int a1, .ref ou]) (n := 4) (Nat.le_of_ble_eq_true rfl)
  rw [lg_entry_eq]
  generalize (lg_sl ([.ref ya, .int a1, .ref ou]) ++ List.replicate (4 - (lg_sl ([.ref ya, .int a1, .ref ou])).length) Slot.unset).toArray = ls at hl ⊢
  have hl : lv_has ls 4 [(0, .ref ya), (1, .int a1), (2, .ref ou)] := hl
  have htab : c.exceptionTable.toList = tableOf [(0, 9, 12, 21), (0, 9, 15, 15)] := vx_table B (hts (.codeWith yL_copy cL_copy 4 (some .int) [(0, 9, 12, 21), (0, 9, 15, 15)]) (show _ ∈ wsL_copy from List.mem_cons_self))
  refine lv_aload_n hx hb dL_copy_0 rfl (lv_at hl 2 rfl) ?_
  refine lv_iconst (v := 0) hx hb dL_copy_1 (by decide) ?_
  refine lv_aload_n hx hb dL_copy_2 rfl (lv_at hl 0 rfl) ?_
  refine lv_iload_n hx hb dL_copy_3 rfl (lv_at hl 1 rfl) ?_
  have hPc := hP.sub (ws' := [(ya, .inr (16, [.ref ms, .int 0, .ref ju, .ref li, .ref ct, .ref tg, .ref fw]))]) [0] rfl
  have hDc := hD.sub (ws' := [(ya, .inr (16, [.ref ms, .int 0, .ref ju, .ref li, .ref ct, .ref tg, .ref fw]))]) [0] (by decide) rfl
  have hKc := hK.sub (tys' := []) [] rfl
  have hFc := va_free (wc := [(ya, .inr (16, [.ref ms, .int 0, .ref ju, .ref li, .ref ct, .ref tg, .ref fw]))]) hD hS hA [0] rfl
  refine vx_callX (vx_runV (As := [.int a1]) (rest := [.int 0, .ref ou]) ⟨hx, hb, hml, hown, hts⟩ (c_X11_copy l hfl dC dI ya ms ju li ct tg fw a1 s.heap.size) (cwV 1 hts gL_copy_X11_copy rfl rfl rfl (by decide +kernel) ⟨Nat.le_of_ble_eq_true rfl, Nat.le_of_ble_eq_true rfl⟩) (pcVz (zX_ok) hPc hDc hKc hN hZ hS hFc (ci := 16) (q0 := 0) rfl rfl) rfl rfl hl.1 rfl (lv_room (Nat.le_of_ble_eq_true rfl)) dL_copy_4 ⟨Nat.le_of_ble_eq_true rfl, Nat.le_of_ble_eq_true rfl⟩) hS hFc (fun q _ h => hFc q h) (fun _ _ _ h => h) (fun E9 ce9 q9 u9 t9 H9 locs9 ht9 hvm9 hp9 hE9 hz9 hk9 hS9 hc9 hv9 hcl9 => ?_)
  subst hE9
  refine vx_catch (name := "java/lang/IndexOutOfBoundsException") hown [] ⟨0, 9, 12, 21⟩ [⟨0, 9, 15, 15⟩] htab (fun z hz => by cases hz) (by decide) (by decide) (hts (.classLink RL 21 "java/lang/IndexOutOfBoundsException") (by decide +kernel)) (zX_use hZ (.castable "java/lang/IndexOutOfBoundsException" "java/lang/IndexOutOfBoundsException") (by decide)) hc9 hv9 hcl9 ?_
  refine W.eq (g2 := F0 m 12 ls [.ref q9]) rfl ?_
  obtain ⟨hP, hD⟩ := va_join (wr := [(ou, .inl (cL, 1, .inr (.inl of9)))]) (w1 := []) hP hD [0] [1] rfl rfl (by decide) (by decide) hk9 hFc P_nil D_nil
  have hS := hS9
  generalize H9 = H at hP hS ⊢
  have hP : va_P (dC, dI) vwCl [(ou, .inl (cL, 1, .inr (.inl of9)))] H := hP
  have hD : va_D A [(ou, .inl (cL, 1, .inr (.inl of9)))] := hD
  refine W.widen (k := 1) (n := 6) (Nat.le_of_ble_eq_true rfl) (Nat.le_of_ble_eq_true rfl) ?_
  refine lv_astore_n (lv' := [(3, .ref q9), (0, .ref ya), (1, .int a1), (2, .ref ou)]) hx hb dL_copy_12 rfl hl (by decide) rfl (fun ls hl => ?_)
  refine lv_iconst (v := 1) hx hb dL_copy_13 (by decide) ?_
  refine vx_ret ?_
  have hP9 := hP.sub (ws' := [(ou, .inl (cL, 1, .inr (.inl of9)))]) [0] rfl
  have hD9 := hD.sub (ws' := [(ou, .inl (cL, 1, .inr (.inl of9)))]) [0] (by decide) rfl
  have hK9 := hK.sub (tys' := [(cL, .long)]) [0] rfl
  exact W.iret (v := 1) hx hb hr (fun t ht hW => ⟨⟨1, of9, rfl, rfl, ⟨by rw [ht]; exact hP9, va_K.moved hW.alike hK9, hD9⟩⟩, hS.F ht⟩) hS.2.2 dL_copy_14

set_option maxHeartbeats 4000000 in
set_option maxRecDepth 100000 in
/-- L_run -/
theorem c_L_run (l : Launch) (hfl : l.stackTraces = false) (dC : Nat → ClassId) (dI : Nat → Nat → Nat) (ya ms ju li ct tg fw : Nat) (a1 a2 : Int32) (cL : ClassId) (ou : Nat) (of9 : Nat → Int64) (sz : Nat) : vx_Met l yL_run wsL_run ({ frames := 8, cells := 1, slots := 6, locals := 145 }) (va_Pc [.ref ya, .int a1, .int a2, .ref ou] (cPCz (zX) dC dI [(ya, .inr (16, [.ref ms, .int 0, .ref ju, .ref li, .ref ct, .ref tg, .ref fw])), (ou, .inl (cL, 1, .inr (.inl of9)))] [(cL, .long)] sz)) (va_Qi (fun (r : Int32) (u : Nat → Int64) => r = 1) (fun (u : Nat → Int64) t => cQB dC dI [(ou, .inl (cL, 1, .inr (.inl u)))] [(cL, .long)] (va_A [(ya, .inr (16, [.ref ms, .int 0, .ref ju, .ref li, .ref ct, .ref tg, .ref fw])), (ou, .inl (cL, 1, .inr (.inl of9)))] sz) t) (va_A [(ya, .inr (16, [.ref ms, .int 0, .ref ju, .ref li, .ref ct, .ref tg, .ref fw])), (ou, .inl (cL, 1, .inr (.inl of9)))] sz)) (vx_X (fun (_ : Unit) => True) (fun (E9 : String) (_ : Unit) (_ : State) => False) (va_A [(ya, .inr (16, [.ref ms, .int 0, .ref ju, .ref li, .ref ct, .ref tg, .ref fw])), (ou, .inl (cL, 1, .inr (.inl of9)))] sz)) 1 6 (va_A [(ya, .inr (16, [.ref ms, .int 0, .ref ju, .ref li, .ref ct, .ref tg, .ref fw])), (ou, .inl (cL, 1, .inr (.inl of9)))] sz) := by
  refine vx_ofWH (cc := cL_run) (maxL := 5) (ret := (some .int)) (hh := [(0, 10, 13, 21), (0, 10, 17, 13)]) (by decide) rfl ?_
  intro p e s m args below meth c s₁ B hml hv
  obtain ⟨rfl, ⟨hsz, hP, hK, hD0, hN⟩, hZ⟩ := hv
  have hx := B.exec
  have hb := B.bytes
  have hr := B.returns
  have hts := atoms_spec (ws := wsL_run) B.pre
  have hown : s.vm.findClass RL = some m.cls := findClass_of_methodNamed B.named
  have hlocks := B.notSynchronized
  subst hsz
  have hD := hD0.self (sz := s.heap.size)
  generalize hAe : va_A [(ya, .inr (16, [.ref ms, .int 0, .ref ju, .ref li, .ref ct, .ref tg, .ref fw])), (ou, .inl (cL, 1, .inr (.inl of9)))] s.heap.size = A at hD hZ ⊢
  have hA : ∀ q : Nat, s.heap.size ≤ q → A q := fun q h => by rw [← hAe]; exact Or.inr h
  have hS : va_S A s.heap s.heap [] := va_S.rf
  have hP : va_P (dC, dI) vwCl [(ya, .inr (16, [.ref ms, .int 0, .ref ju, .ref li, .ref ct, .ref tg, .ref fw])), (ou, .inl (cL, 1, .inr (.inl of9)))] s.heap := hP
  have hD : va_D A [(ya, .inr (16, [.ref ms, .int 0, .ref ju, .ref li, .ref ct, .ref tg, .ref fw])), (ou, .inl (cL, 1, .inr (.inl of9)))] := hD
  have hl := lv_entry ([.ref ya, .int a1, .int a2, .ref ou]) (n := 5) (Nat.le_of_ble_eq_true rfl)
  rw [lg_entry_eq]
  generalize (lg_sl ([.ref ya, .int a1, .int a2, .ref ou]) ++ List.replicate (5 - (lg_sl ([.ref ya, .int a1, .int a2, .ref ou])).length) Slot.unset).toArray = ls at hl ⊢
  have hl : lv_has ls 5 [(0, .ref ya), (1, .int a1), (2, .int a2), (3, .ref ou)] := hl
  have htab : c.exceptionTable.toList = tableOf [(0, 10, 13, 21), (0, 10, 17, 13)] := vx_table B (hts (.codeWith yL_run cL_run 5 (some .int) [(0, 10, 13, 21), (0, 10, 17, 13)]) (show _ ∈ wsL_run from List.mem_cons_self))
  refine lv_aload_n hx hb dL_run_0 rfl (lv_at hl 3 rfl) ?_
  refine lv_iconst (v := 0) hx hb dL_run_1 (by decide) ?_
  refine lv_aload_n hx hb dL_run_2 rfl (lv_at hl 0 rfl) ?_
  refine lv_iload_n hx hb dL_run_3 rfl (lv_at hl 1 rfl) ?_
  refine lv_iload_n hx hb dL_run_4 rfl (lv_at hl 2 rfl) ?_
  have hPc := hP.sub (ws' := [(ya, .inr (16, [.ref ms, .int 0, .ref ju, .ref li, .ref ct, .ref tg, .ref fw]))]) [0] rfl
  have hDc := hD.sub (ws' := [(ya, .inr (16, [.ref ms, .int 0, .ref ju, .ref li, .ref ct, .ref tg, .ref fw]))]) [0] (by decide) rfl
  have hKc := hK.sub (tys' := []) [] rfl
  have hFc := va_free (wc := [(ya, .inr (16, [.ref ms, .int 0, .ref ju, .ref li, .ref ct, .ref tg, .ref fw]))]) hD hS hA [0] rfl
  refine vx_callX (vx_runV (As := [.int a1, .int a2]) (rest := [.int 0, .ref ou]) ⟨hx, hb, hml, hown, hts⟩ (c_X11_run l hfl dC dI ya ms ju li ct tg fw a1 a2 s.heap.size) (cwV 2 hts gL_run_X11_run rfl rfl rfl (by decide +kernel) ⟨Nat.le_of_ble_eq_true rfl, Nat.le_of_ble_eq_true rfl⟩) (pcVz (zX_ok) hPc hDc hKc hN hZ hS hFc (ci := 16) (q0 := 0) rfl rfl) rfl rfl hl.1 rfl (lv_room (Nat.le_of_ble_eq_true rfl)) dL_run_5 ⟨Nat.le_of_ble_eq_true rfl, Nat.le_of_ble_eq_true rfl⟩) hS hFc (fun q _ h => hFc q h) (fun _ _ _ h => h) (fun E9 ce9 q9 u9 t9 H9 locs9 ht9 hvm9 hp9 hE9 hz9 hk9 hS9 hc9 hv9 hcl9 => ?_)
  subst hE9
  refine vx_catch (name := "java/lang/IndexOutOfBoundsException") hown [] ⟨0, 10, 13, 21⟩ [⟨0, 10, 17, 13⟩] htab (fun z hz => by cases hz) (by decide) (by decide) (hts (.classLink RL 21 "java/lang/IndexOutOfBoundsException") (by decide +kernel)) (zX_use hZ (.castable "java/lang/IndexOutOfBoundsException" "java/lang/IndexOutOfBoundsException") (by decide)) hc9 hv9 hcl9 ?_
  refine W.eq (g2 := F0 m 13 ls [.ref q9]) rfl ?_
  obtain ⟨hP, hD⟩ := va_join (wr := [(ou, .inl (cL, 1, .inr (.inl of9)))]) (w1 := []) hP hD [0] [1] rfl rfl (by decide) (by decide) hk9 hFc P_nil D_nil
  have hS := hS9
  generalize H9 = H at hP hS ⊢
  have hP : va_P (dC, dI) vwCl [(ou, .inl (cL, 1, .inr (.inl of9)))] H := hP
  have hD : va_D A [(ou, .inl (cL, 1, .inr (.inl of9)))] := hD
  refine W.widen (k := 1) (n := 6) (Nat.le_of_ble_eq_true rfl) (Nat.le_of_ble_eq_true rfl) ?_
  refine lv_astore (lv' := [(4, .ref q9), (0, .ref ya), (1, .int a1), (2, .int a2), (3, .ref ou)]) hx hb dL_run_13 hl (by decide) rfl (fun ls hl => ?_)
  refine lv_iconst (v := 1) hx hb dL_run_15 (by decide) ?_
  refine vx_ret ?_
  have hP9 := hP.sub (ws' := [(ou, .inl (cL, 1, .inr (.inl of9)))]) [0] rfl
  have hD9 := hD.sub (ws' := [(ou, .inl (cL, 1, .inr (.inl of9)))]) [0] (by decide) rfl
  have hK9 := hK.sub (tys' := [(cL, .long)]) [0] rfl
  exact W.iret (v := 1) hx hb hr (fun t ht hW => ⟨⟨1, of9, rfl, rfl, ⟨by rw [ht]; exact hP9, va_K.moved hW.alike hK9, hD9⟩⟩, hS.F ht⟩) hS.2.2 dL_run_16

set_option maxHeartbeats 4000000 in
set_option maxRecDepth 100000 in
/-- L_hasHalted -/
theorem c_L_hasHalted (l : Launch) (hfl : l.stackTraces = false) (dC : Nat → ClassId) (dI : Nat → Nat → Nat) (ya ms ju li ct tg fw : Nat) (a1 : Int32) (cL : ClassId) (ou : Nat) (of9 : Nat → Int64) (sz : Nat) : vx_Met l yL_hasHalted wsL_hasHalted ({ frames := 8, cells := 1, slots := 6, locals := 144 }) (va_Pc [.ref ya, .int a1, .ref ou] (cPCz (zX) dC dI [(ya, .inr (16, [.ref ms, .int 0, .ref ju, .ref li, .ref ct, .ref tg, .ref fw])), (ou, .inl (cL, 1, .inr (.inl of9)))] [(cL, .long)] sz)) (va_Qi (fun (r : Int32) (u : Nat → Int64) => r = 1) (fun (u : Nat → Int64) t => cQB dC dI [(ou, .inl (cL, 1, .inr (.inl u)))] [(cL, .long)] (va_A [(ya, .inr (16, [.ref ms, .int 0, .ref ju, .ref li, .ref ct, .ref tg, .ref fw])), (ou, .inl (cL, 1, .inr (.inl of9)))] sz) t) (va_A [(ya, .inr (16, [.ref ms, .int 0, .ref ju, .ref li, .ref ct, .ref tg, .ref fw])), (ou, .inl (cL, 1, .inr (.inl of9)))] sz)) (vx_X (fun (_ : Unit) => True) (fun (E9 : String) (_ : Unit) (_ : State) => False) (va_A [(ya, .inr (16, [.ref ms, .int 0, .ref ju, .ref li, .ref ct, .ref tg, .ref fw])), (ou, .inl (cL, 1, .inr (.inl of9)))] sz)) 1 6 (va_A [(ya, .inr (16, [.ref ms, .int 0, .ref ju, .ref li, .ref ct, .ref tg, .ref fw])), (ou, .inl (cL, 1, .inr (.inl of9)))] sz) := by
  refine vx_ofWH (cc := cL_hasHalted) (maxL := 4) (ret := (some .int)) (hh := [(0, 16, 19, 21), (0, 16, 22, 27)]) (by decide) rfl ?_
  intro p e s m args below meth c s₁ B hml hv
  obtain ⟨rfl, ⟨hsz, hP, hK, hD0, hN⟩, hZ⟩ := hv
  have hx := B.exec
  have hb := B.bytes
  have hr := B.returns
  have hts := atoms_spec (ws := wsL_hasHalted) B.pre
  have hown : s.vm.findClass RL = some m.cls := findClass_of_methodNamed B.named
  have hlocks := B.notSynchronized
  subst hsz
  have hD := hD0.self (sz := s.heap.size)
  generalize hAe : va_A [(ya, .inr (16, [.ref ms, .int 0, .ref ju, .ref li, .ref ct, .ref tg, .ref fw])), (ou, .inl (cL, 1, .inr (.inl of9)))] s.heap.size = A at hD hZ ⊢
  have hA : ∀ q : Nat, s.heap.size ≤ q → A q := fun q h => by rw [← hAe]; exact Or.inr h
  have hS : va_S A s.heap s.heap [] := va_S.rf
  have hP : va_P (dC, dI) vwCl [(ya, .inr (16, [.ref ms, .int 0, .ref ju, .ref li, .ref ct, .ref tg, .ref fw])), (ou, .inl (cL, 1, .inr (.inl of9)))] s.heap := hP
  have hD : va_D A [(ya, .inr (16, [.ref ms, .int 0, .ref ju, .ref li, .ref ct, .ref tg, .ref fw])), (ou, .inl (cL, 1, .inr (.inl of9)))] := hD
  have hl := lv_entry ([.ref ya, .int a1, .ref ou]) (n := 4) (Nat.le_of_ble_eq_true rfl)
  rw [lg_entry_eq]
  generalize (lg_sl ([.ref ya, .int a1, .ref ou]) ++ List.replicate (4 - (lg_sl ([.ref ya, .int a1, .ref ou])).length) Slot.unset).toArray = ls at hl ⊢
  have hl : lv_has ls 4 [(0, .ref ya), (1, .int a1), (2, .ref ou)] := hl
  have htab : c.exceptionTable.toList = tableOf [(0, 16, 19, 21), (0, 16, 22, 27)] := vx_table B (hts (.codeWith yL_hasHalted cL_hasHalted 4 (some .int) [(0, 16, 19, 21), (0, 16, 22, 27)]) (show _ ∈ wsL_hasHalted from List.mem_cons_self))
  refine lv_aload_n hx hb dL_hasHalted_0 rfl (lv_at hl 2 rfl) ?_
  refine lv_iconst (v := 0) hx hb dL_hasHalted_1 (by decide) ?_
  refine lv_aload_n hx hb dL_hasHalted_2 rfl (lv_at hl 0 rfl) ?_
  refine lv_iload_n hx hb dL_hasHalted_3 rfl (lv_at hl 1 rfl) ?_
  have hPc := hP.sub (ws' := [(ya, .inr (16, [.ref ms, .int 0, .ref ju, .ref li, .ref ct, .ref tg, .ref fw]))]) [0] rfl
  have hDc := hD.sub (ws' := [(ya, .inr (16, [.ref ms, .int 0, .ref ju, .ref li, .ref ct, .ref tg, .ref fw]))]) [0] (by decide) rfl
  have hKc := hK.sub (tys' := []) [] rfl
  have hFc := va_free (wc := [(ya, .inr (16, [.ref ms, .int 0, .ref ju, .ref li, .ref ct, .ref tg, .ref fw]))]) hD hS hA [0] rfl
  refine vx_callX (vx_runV (As := [.int a1]) (rest := [.int 0, .ref ou]) ⟨hx, hb, hml, hown, hts⟩ (c_X11_hasHalted l hfl dC dI ya ms ju li ct tg fw a1 s.heap.size) (cwV 1 hts gL_hasHalted_X11_hasHalted rfl rfl rfl (by decide +kernel) ⟨Nat.le_of_ble_eq_true rfl, Nat.le_of_ble_eq_true rfl⟩) (pcVz (zX_ok) hPc hDc hKc hN hZ hS hFc (ci := 16) (q0 := 0) rfl rfl) rfl rfl hl.1 rfl (lv_room (Nat.le_of_ble_eq_true rfl)) dL_hasHalted_4 ⟨Nat.le_of_ble_eq_true rfl, Nat.le_of_ble_eq_true rfl⟩) hS hFc (fun q _ h => hFc q h) (fun _ _ _ h => h) (fun E9 ce9 q9 u9 t9 H9 locs9 ht9 hvm9 hp9 hE9 hz9 hk9 hS9 hc9 hv9 hcl9 => ?_)
  subst hE9
  refine vx_catch (name := "java/lang/IndexOutOfBoundsException") hown [] ⟨0, 16, 19, 21⟩ [⟨0, 16, 22, 27⟩] htab (fun z hz => by cases hz) (by decide) (by decide) (hts (.classLink RL 21 "java/lang/IndexOutOfBoundsException") (by decide +kernel)) (zX_use hZ (.castable "java/lang/IndexOutOfBoundsException" "java/lang/IndexOutOfBoundsException") (by decide)) hc9 hv9 hcl9 ?_
  refine W.eq (g2 := F0 m 19 ls [.ref q9]) rfl ?_
  obtain ⟨hP, hD⟩ := va_join (wr := [(ou, .inl (cL, 1, .inr (.inl of9)))]) (w1 := []) hP hD [0] [1] rfl rfl (by decide) (by decide) hk9 hFc P_nil D_nil
  have hS := hS9
  generalize H9 = H at hP hS ⊢
  have hP : va_P (dC, dI) vwCl [(ou, .inl (cL, 1, .inr (.inl of9)))] H := hP
  have hD : va_D A [(ou, .inl (cL, 1, .inr (.inl of9)))] := hD
  refine W.widen (k := 1) (n := 6) (Nat.le_of_ble_eq_true rfl) (Nat.le_of_ble_eq_true rfl) ?_
  refine lv_astore_n (lv' := [(3, .ref q9), (0, .ref ya), (1, .int a1), (2, .ref ou)]) hx hb dL_hasHalted_19 rfl hl (by decide) rfl (fun ls hl => ?_)
  refine lv_iconst (v := 1) hx hb dL_hasHalted_20 (by decide) ?_
  refine vx_ret ?_
  have hP9 := hP.sub (ws' := [(ou, .inl (cL, 1, .inr (.inl of9)))]) [0] rfl
  have hD9 := hD.sub (ws' := [(ou, .inl (cL, 1, .inr (.inl of9)))]) [0] (by decide) rfl
  have hK9 := hK.sub (tys' := [(cL, .long)]) [0] rfl
  exact W.iret (v := 1) hx hb hr (fun t ht hW => ⟨⟨1, of9, rfl, rfl, ⟨by rw [ht]; exact hP9, va_K.moved hW.alike hK9, hD9⟩⟩, hS.F ht⟩) hS.2.2 dL_hasHalted_21

set_option maxHeartbeats 4000000 in
set_option maxRecDepth 100000 in
/-- L_ran -/
theorem c_L_ran (l : Launch) (hfl : l.stackTraces = false) (dC : Nat → ClassId) (dI : Nat → Nat → Nat) (ya ms ju li ct tg fw : Nat) (a1 a2 : Int32) (cL : ClassId) (ou : Nat) (of9 : Nat → Int64) (sz : Nat) : vx_Met l yL_ran wsL_ran ({ frames := 8, cells := 1, slots := 6, locals := 145 }) (va_Pc [.ref ya, .int a1, .int a2, .ref ou] (cPCz (zX) dC dI [(ya, .inr (16, [.ref ms, .int 0, .ref ju, .ref li, .ref ct, .ref tg, .ref fw])), (ou, .inl (cL, 1, .inr (.inl of9)))] [(cL, .long)] sz)) (va_Qi (fun (r : Int32) (u : Nat → Int64) => r = 1) (fun (u : Nat → Int64) t => cQB dC dI [(ou, .inl (cL, 1, .inr (.inl u)))] [(cL, .long)] (va_A [(ya, .inr (16, [.ref ms, .int 0, .ref ju, .ref li, .ref ct, .ref tg, .ref fw])), (ou, .inl (cL, 1, .inr (.inl of9)))] sz) t) (va_A [(ya, .inr (16, [.ref ms, .int 0, .ref ju, .ref li, .ref ct, .ref tg, .ref fw])), (ou, .inl (cL, 1, .inr (.inl of9)))] sz)) (vx_X (fun (_ : Unit) => True) (fun (E9 : String) (_ : Unit) (_ : State) => False) (va_A [(ya, .inr (16, [.ref ms, .int 0, .ref ju, .ref li, .ref ct, .ref tg, .ref fw])), (ou, .inl (cL, 1, .inr (.inl of9)))] sz)) 1 6 (va_A [(ya, .inr (16, [.ref ms, .int 0, .ref ju, .ref li, .ref ct, .ref tg, .ref fw])), (ou, .inl (cL, 1, .inr (.inl of9)))] sz) := by
  refine vx_ofWH (cc := cL_ran) (maxL := 5) (ret := (some .int)) (hh := [(0, 10, 13, 21), (0, 10, 17, 13), (0, 10, 21, 27)]) (by decide) rfl ?_
  intro p e s m args below meth c s₁ B hml hv
  obtain ⟨rfl, ⟨hsz, hP, hK, hD0, hN⟩, hZ⟩ := hv
  have hx := B.exec
  have hb := B.bytes
  have hr := B.returns
  have hts := atoms_spec (ws := wsL_ran) B.pre
  have hown : s.vm.findClass RL = some m.cls := findClass_of_methodNamed B.named
  have hlocks := B.notSynchronized
  subst hsz
  have hD := hD0.self (sz := s.heap.size)
  generalize hAe : va_A [(ya, .inr (16, [.ref ms, .int 0, .ref ju, .ref li, .ref ct, .ref tg, .ref fw])), (ou, .inl (cL, 1, .inr (.inl of9)))] s.heap.size = A at hD hZ ⊢
  have hA : ∀ q : Nat, s.heap.size ≤ q → A q := fun q h => by rw [← hAe]; exact Or.inr h
  have hS : va_S A s.heap s.heap [] := va_S.rf
  have hP : va_P (dC, dI) vwCl [(ya, .inr (16, [.ref ms, .int 0, .ref ju, .ref li, .ref ct, .ref tg, .ref fw])), (ou, .inl (cL, 1, .inr (.inl of9)))] s.heap := hP
  have hD : va_D A [(ya, .inr (16, [.ref ms, .int 0, .ref ju, .ref li, .ref ct, .ref tg, .ref fw])), (ou, .inl (cL, 1, .inr (.inl of9)))] := hD
  have hl := lv_entry ([.ref ya, .int a1, .int a2, .ref ou]) (n := 5) (Nat.le_of_ble_eq_true rfl)
  rw [lg_entry_eq]
  generalize (lg_sl ([.ref ya, .int a1, .int a2, .ref ou]) ++ List.replicate (5 - (lg_sl ([.ref ya, .int a1, .int a2, .ref ou])).length) Slot.unset).toArray = ls at hl ⊢
  have hl : lv_has ls 5 [(0, .ref ya), (1, .int a1), (2, .int a2), (3, .ref ou)] := hl
  have htab : c.exceptionTable.toList = tableOf [(0, 10, 13, 21), (0, 10, 17, 13), (0, 10, 21, 27)] := vx_table B (hts (.codeWith yL_ran cL_ran 5 (some .int) [(0, 10, 13, 21), (0, 10, 17, 13), (0, 10, 21, 27)]) (show _ ∈ wsL_ran from List.mem_cons_self))
  refine lv_aload_n hx hb dL_ran_0 rfl (lv_at hl 3 rfl) ?_
  refine lv_iconst (v := 0) hx hb dL_ran_1 (by decide) ?_
  refine lv_aload_n hx hb dL_ran_2 rfl (lv_at hl 0 rfl) ?_
  refine lv_iload_n hx hb dL_ran_3 rfl (lv_at hl 1 rfl) ?_
  refine lv_iload_n hx hb dL_ran_4 rfl (lv_at hl 2 rfl) ?_
  have hPc := hP.sub (ws' := [(ya, .inr (16, [.ref ms, .int 0, .ref ju, .ref li, .ref ct, .ref tg, .ref fw]))]) [0] rfl
  have hDc := hD.sub (ws' := [(ya, .inr (16, [.ref ms, .int 0, .ref ju, .ref li, .ref ct, .ref tg, .ref fw]))]) [0] (by decide) rfl
  have hKc := hK.sub (tys' := []) [] rfl
  have hFc := va_free (wc := [(ya, .inr (16, [.ref ms, .int 0, .ref ju, .ref li, .ref ct, .ref tg, .ref fw]))]) hD hS hA [0] rfl
  refine vx_callX (vx_runV (As := [.int a1, .int a2]) (rest := [.int 0, .ref ou]) ⟨hx, hb, hml, hown, hts⟩ (c_X11_ran l hfl dC dI ya ms ju li ct tg fw a1 a2 s.heap.size) (cwV 2 hts gL_ran_X11_ran rfl rfl rfl (by decide +kernel) ⟨Nat.le_of_ble_eq_true rfl, Nat.le_of_ble_eq_true rfl⟩) (pcVz (zX_ok) hPc hDc hKc hN hZ hS hFc (ci := 16) (q0 := 0) rfl rfl) rfl rfl hl.1 rfl (lv_room (Nat.le_of_ble_eq_true rfl)) dL_ran_5 ⟨Nat.le_of_ble_eq_true rfl, Nat.le_of_ble_eq_true rfl⟩) hS hFc (fun q _ h => hFc q h) (fun _ _ _ h => h) (fun E9 ce9 q9 u9 t9 H9 locs9 ht9 hvm9 hp9 hE9 hz9 hk9 hS9 hc9 hv9 hcl9 => ?_)
  subst hE9
  refine vx_catch (name := "java/lang/IndexOutOfBoundsException") hown [] ⟨0, 10, 13, 21⟩ [⟨0, 10, 17, 13⟩, ⟨0, 10, 21, 27⟩] htab (fun z hz => by cases hz) (by decide) (by decide) (hts (.classLink RL 21 "java/lang/IndexOutOfBoundsException") (by decide +kernel)) (zX_use hZ (.castable "java/lang/IndexOutOfBoundsException" "java/lang/IndexOutOfBoundsException") (by decide)) hc9 hv9 hcl9 ?_
  refine W.eq (g2 := F0 m 13 ls [.ref q9]) rfl ?_
  obtain ⟨hP, hD⟩ := va_join (wr := [(ou, .inl (cL, 1, .inr (.inl of9)))]) (w1 := []) hP hD [0] [1] rfl rfl (by decide) (by decide) hk9 hFc P_nil D_nil
  have hS := hS9
  generalize H9 = H at hP hS ⊢
  have hP : va_P (dC, dI) vwCl [(ou, .inl (cL, 1, .inr (.inl of9)))] H := hP
  have hD : va_D A [(ou, .inl (cL, 1, .inr (.inl of9)))] := hD
  refine W.widen (k := 1) (n := 6) (Nat.le_of_ble_eq_true rfl) (Nat.le_of_ble_eq_true rfl) ?_
  refine lv_astore (lv' := [(4, .ref q9), (0, .ref ya), (1, .int a1), (2, .int a2), (3, .ref ou)]) hx hb dL_ran_13 hl (by decide) rfl (fun ls hl => ?_)
  refine lv_iconst (v := 1) hx hb dL_ran_15 (by decide) ?_
  refine vx_ret ?_
  have hP9 := hP.sub (ws' := [(ou, .inl (cL, 1, .inr (.inl of9)))]) [0] rfl
  have hD9 := hD.sub (ws' := [(ou, .inl (cL, 1, .inr (.inl of9)))]) [0] (by decide) rfl
  have hK9 := hK.sub (tys' := [(cL, .long)]) [0] rfl
  exact W.iret (v := 1) hx hb hr (fun t ht hW => ⟨⟨1, of9, rfl, rfl, ⟨by rw [ht]; exact hP9, va_K.moved hW.alike hK9, hD9⟩⟩, hS.F ht⟩) hS.2.2 dL_ran_16

set_option maxHeartbeats 4000000 in
set_option maxRecDepth 100000 in
/-- L_signAt -/
theorem c_L_signAt (l : Launch) (hfl : l.stackTraces = false) (dC : Nat → ClassId) (dI : Nat → Nat → Nat) (ya ms ju li ct tg fw : Nat) (a1 a2 : Int32) (cL : ClassId) (ou : Nat) (of9 : Nat → Int64) (sz : Nat) : vx_Met l yL_signAt wsL_signAt ({ frames := 8, cells := 1, slots := 6, locals := 145 }) (va_Pc [.ref ya, .int a1, .int a2, .ref ou] (cPCz (zX) dC dI [(ya, .inr (16, [.ref ms, .int 0, .ref ju, .ref li, .ref ct, .ref tg, .ref fw])), (ou, .inl (cL, 1, .inr (.inl of9)))] [(cL, .long)] sz)) (va_Qi (fun (r : Int32) (u : Nat → Int64) => r = 1) (fun (u : Nat → Int64) t => cQB dC dI [(ou, .inl (cL, 1, .inr (.inl u)))] [(cL, .long)] (va_A [(ya, .inr (16, [.ref ms, .int 0, .ref ju, .ref li, .ref ct, .ref tg, .ref fw])), (ou, .inl (cL, 1, .inr (.inl of9)))] sz) t) (va_A [(ya, .inr (16, [.ref ms, .int 0, .ref ju, .ref li, .ref ct, .ref tg, .ref fw])), (ou, .inl (cL, 1, .inr (.inl of9)))] sz)) (vx_X (fun (_ : Unit) => True) (fun (E9 : String) (_ : Unit) (_ : State) => False) (va_A [(ya, .inr (16, [.ref ms, .int 0, .ref ju, .ref li, .ref ct, .ref tg, .ref fw])), (ou, .inl (cL, 1, .inr (.inl of9)))] sz)) 1 6 (va_A [(ya, .inr (16, [.ref ms, .int 0, .ref ju, .ref li, .ref ct, .ref tg, .ref fw])), (ou, .inl (cL, 1, .inr (.inl of9)))] sz) := by
  refine vx_ofWH (cc := cL_signAt) (maxL := 5) (ret := (some .int)) (hh := [(0, 10, 13, 21), (0, 10, 17, 27)]) (by decide) rfl ?_
  intro p e s m args below meth c s₁ B hml hv
  obtain ⟨rfl, ⟨hsz, hP, hK, hD0, hN⟩, hZ⟩ := hv
  have hx := B.exec
  have hb := B.bytes
  have hr := B.returns
  have hts := atoms_spec (ws := wsL_signAt) B.pre
  have hown : s.vm.findClass RL = some m.cls := findClass_of_methodNamed B.named
  have hlocks := B.notSynchronized
  subst hsz
  have hD := hD0.self (sz := s.heap.size)
  generalize hAe : va_A [(ya, .inr (16, [.ref ms, .int 0, .ref ju, .ref li, .ref ct, .ref tg, .ref fw])), (ou, .inl (cL, 1, .inr (.inl of9)))] s.heap.size = A at hD hZ ⊢
  have hA : ∀ q : Nat, s.heap.size ≤ q → A q := fun q h => by rw [← hAe]; exact Or.inr h
  have hS : va_S A s.heap s.heap [] := va_S.rf
  have hP : va_P (dC, dI) vwCl [(ya, .inr (16, [.ref ms, .int 0, .ref ju, .ref li, .ref ct, .ref tg, .ref fw])), (ou, .inl (cL, 1, .inr (.inl of9)))] s.heap := hP
  have hD : va_D A [(ya, .inr (16, [.ref ms, .int 0, .ref ju, .ref li, .ref ct, .ref tg, .ref fw])), (ou, .inl (cL, 1, .inr (.inl of9)))] := hD
  have hl := lv_entry ([.ref ya, .int a1, .int a2, .ref ou]) (n := 5) (Nat.le_of_ble_eq_true rfl)
  rw [lg_entry_eq]
  generalize (lg_sl ([.ref ya, .int a1, .int a2, .ref ou]) ++ List.replicate (5 - (lg_sl ([.ref ya, .int a1, .int a2, .ref ou])).length) Slot.unset).toArray = ls at hl ⊢
  have hl : lv_has ls 5 [(0, .ref ya), (1, .int a1), (2, .int a2), (3, .ref ou)] := hl
  have htab : c.exceptionTable.toList = tableOf [(0, 10, 13, 21), (0, 10, 17, 27)] := vx_table B (hts (.codeWith yL_signAt cL_signAt 5 (some .int) [(0, 10, 13, 21), (0, 10, 17, 27)]) (show _ ∈ wsL_signAt from List.mem_cons_self))
  refine lv_aload_n hx hb dL_signAt_0 rfl (lv_at hl 3 rfl) ?_
  refine lv_iconst (v := 0) hx hb dL_signAt_1 (by decide) ?_
  refine lv_aload_n hx hb dL_signAt_2 rfl (lv_at hl 0 rfl) ?_
  refine lv_iload_n hx hb dL_signAt_3 rfl (lv_at hl 1 rfl) ?_
  refine lv_iload_n hx hb dL_signAt_4 rfl (lv_at hl 2 rfl) ?_
  have hPc := hP.sub (ws' := [(ya, .inr (16, [.ref ms, .int 0, .ref ju, .ref li, .ref ct, .ref tg, .ref fw]))]) [0] rfl
  have hDc := hD.sub (ws' := [(ya, .inr (16, [.ref ms, .int 0, .ref ju, .ref li, .ref ct, .ref tg, .ref fw]))]) [0] (by decide) rfl
  have hKc := hK.sub (tys' := []) [] rfl
  have hFc := va_free (wc := [(ya, .inr (16, [.ref ms, .int 0, .ref ju, .ref li, .ref ct, .ref tg, .ref fw]))]) hD hS hA [0] rfl
  refine vx_callX (vx_runV (As := [.int a1, .int a2]) (rest := [.int 0, .ref ou]) ⟨hx, hb, hml, hown, hts⟩ (c_X11_signAt l hfl dC dI ya ms ju li ct tg fw a1 a2 s.heap.size) (cwV 2 hts gL_signAt_X11_signAt rfl rfl rfl (by decide +kernel) ⟨Nat.le_of_ble_eq_true rfl, Nat.le_of_ble_eq_true rfl⟩) (pcVz (zX_ok) hPc hDc hKc hN hZ hS hFc (ci := 16) (q0 := 0) rfl rfl) rfl rfl hl.1 rfl (lv_room (Nat.le_of_ble_eq_true rfl)) dL_signAt_5 ⟨Nat.le_of_ble_eq_true rfl, Nat.le_of_ble_eq_true rfl⟩) hS hFc (fun q _ h => hFc q h) (fun _ _ _ h => h) (fun E9 ce9 q9 u9 t9 H9 locs9 ht9 hvm9 hp9 hE9 hz9 hk9 hS9 hc9 hv9 hcl9 => ?_)
  subst hE9
  refine vx_catch (name := "java/lang/IndexOutOfBoundsException") hown [] ⟨0, 10, 13, 21⟩ [⟨0, 10, 17, 27⟩] htab (fun z hz => by cases hz) (by decide) (by decide) (hts (.classLink RL 21 "java/lang/IndexOutOfBoundsException") (by decide +kernel)) (zX_use hZ (.castable "java/lang/IndexOutOfBoundsException" "java/lang/IndexOutOfBoundsException") (by decide)) hc9 hv9 hcl9 ?_
  refine W.eq (g2 := F0 m 13 ls [.ref q9]) rfl ?_
  obtain ⟨hP, hD⟩ := va_join (wr := [(ou, .inl (cL, 1, .inr (.inl of9)))]) (w1 := []) hP hD [0] [1] rfl rfl (by decide) (by decide) hk9 hFc P_nil D_nil
  have hS := hS9
  generalize H9 = H at hP hS ⊢
  have hP : va_P (dC, dI) vwCl [(ou, .inl (cL, 1, .inr (.inl of9)))] H := hP
  have hD : va_D A [(ou, .inl (cL, 1, .inr (.inl of9)))] := hD
  refine W.widen (k := 1) (n := 6) (Nat.le_of_ble_eq_true rfl) (Nat.le_of_ble_eq_true rfl) ?_
  refine lv_astore (lv' := [(4, .ref q9), (0, .ref ya), (1, .int a1), (2, .int a2), (3, .ref ou)]) hx hb dL_signAt_13 hl (by decide) rfl (fun ls hl => ?_)
  refine lv_iconst (v := 1) hx hb dL_signAt_15 (by decide) ?_
  refine vx_ret ?_
  have hP9 := hP.sub (ws' := [(ou, .inl (cL, 1, .inr (.inl of9)))]) [0] rfl
  have hD9 := hD.sub (ws' := [(ou, .inl (cL, 1, .inr (.inl of9)))]) [0] (by decide) rfl
  have hK9 := hK.sub (tys' := [(cL, .long)]) [0] rfl
  exact W.iret (v := 1) hx hb hr (fun t ht hW => ⟨⟨1, of9, rfl, rfl, ⟨by rw [ht]; exact hP9, va_K.moved hW.alike hK9, hD9⟩⟩, hS.F ht⟩) hS.2.2 dL_signAt_16

set_option maxHeartbeats 4000000 in
set_option maxRecDepth 100000 in
/-- L_print -/
theorem c_L_print (l : Launch) (hfl : l.stackTraces = false) (dC : Nat → ClassId) (dI : Nat → Nat → Nat) (ya ms ju li ct tg fw : Nat) (a1 : Int32) (cL : ClassId) (ou : Nat) (of9 : Nat → Int64) (sz : Nat) : vx_Met l yL_print wsL_print ({ frames := 8, cells := 1, slots := 6, locals := 144 }) (va_Pc [.ref ya, .int a1, .ref ou] (cPCz (zX) dC dI [(ya, .inr (16, [.ref ms, .int 0, .ref ju, .ref li, .ref ct, .ref tg, .ref fw])), (ou, .inl (cL, 1, .inr (.inl of9)))] [(cL, .long)] sz)) (va_Qi (fun (r : Int32) (u : Nat → Int64) => r = 1) (fun (u : Nat → Int64) t => cQB dC dI [(ou, .inl (cL, 1, .inr (.inl u)))] [(cL, .long)] (va_A [(ya, .inr (16, [.ref ms, .int 0, .ref ju, .ref li, .ref ct, .ref tg, .ref fw])), (ou, .inl (cL, 1, .inr (.inl of9)))] sz) t) (va_A [(ya, .inr (16, [.ref ms, .int 0, .ref ju, .ref li, .ref ct, .ref tg, .ref fw])), (ou, .inl (cL, 1, .inr (.inl of9)))] sz)) (vx_X (fun (_ : Unit) => True) (fun (E9 : String) (_ : Unit) (_ : State) => False) (va_A [(ya, .inr (16, [.ref ms, .int 0, .ref ju, .ref li, .ref ct, .ref tg, .ref fw])), (ou, .inl (cL, 1, .inr (.inl of9)))] sz)) 1 6 (va_A [(ya, .inr (16, [.ref ms, .int 0, .ref ju, .ref li, .ref ct, .ref tg, .ref fw])), (ou, .inl (cL, 1, .inr (.inl of9)))] sz) := by
  refine vx_ofWH (cc := cL_print) (maxL := 4) (ret := (some .int)) (hh := [(0, 8, 11, 21), (0, 8, 14, 27)]) (by decide) rfl ?_
  intro p e s m args below meth c s₁ B hml hv
  obtain ⟨rfl, ⟨hsz, hP, hK, hD0, hN⟩, hZ⟩ := hv
  have hx := B.exec
  have hb := B.bytes
  have hr := B.returns
  have hts := atoms_spec (ws := wsL_print) B.pre
  have hown : s.vm.findClass RL = some m.cls := findClass_of_methodNamed B.named
  have hlocks := B.notSynchronized
  subst hsz
  have hD := hD0.self (sz := s.heap.size)
  generalize hAe : va_A [(ya, .inr (16, [.ref ms, .int 0, .ref ju, .ref li, .ref ct, .ref tg, .ref fw])), (ou, .inl (cL, 1, .inr (.inl of9)))] s.heap.size = A at hD hZ ⊢
  have hA : ∀ q : Nat, s.heap.size ≤ q → A q := fun q h => by rw [← hAe]; exact Or.inr h
  have hS : va_S A s.heap s.heap [] := va_S.rf
  have hP : va_P (dC, dI) vwCl [(ya, .inr (16, [.ref ms, .int 0, .ref ju, .ref li, .ref ct, .ref tg, .ref fw])), (ou, .inl (cL, 1, .inr (.inl of9)))] s.heap := hP
  have hD : va_D A [(ya, .inr (16, [.ref ms, .int 0, .ref ju, .ref li, .ref ct, .ref tg, .ref fw])), (ou, .inl (cL, 1, .inr (.inl of9)))] := hD
  have hl := lv_entry ([.ref ya, .int a1, .ref ou]) (n := 4) (Nat.le_of_ble_eq_true rfl)
  rw [lg_entry_eq]
  generalize (lg_sl ([.ref ya, .int a1, .ref ou]) ++ List.replicate (4 - (lg_sl ([.ref ya, .int a1, .ref ou])).length) Slot.unset).toArray = ls at hl ⊢
  have hl : lv_has ls 4 [(0, .ref ya), (1, .int a1), (2, .ref ou)] := hl
  have htab : c.exceptionTable.toList = tableOf [(0, 8, 11, 21), (0, 8, 14, 27)] := vx_table B (hts (.codeWith yL_print cL_print 4 (some .int) [(0, 8, 11, 21), (0, 8, 14, 27)]) (show _ ∈ wsL_print from List.mem_cons_self))
  refine lv_aload_n hx hb dL_print_0 rfl (lv_at hl 2 rfl) ?_
  refine lv_iconst (v := 0) hx hb dL_print_1 (by decide) ?_
  refine lv_aload_n hx hb dL_print_2 rfl (lv_at hl 0 rfl) ?_
  refine lv_iload_n hx hb dL_print_3 rfl (lv_at hl 1 rfl) ?_
  have hPc := hP.sub (ws' := [(ya, .inr (16, [.ref ms, .int 0, .ref ju, .ref li, .ref ct, .ref tg, .ref fw]))]) [0] rfl
  have hDc := hD.sub (ws' := [(ya, .inr (16, [.ref ms, .int 0, .ref ju, .ref li, .ref ct, .ref tg, .ref fw]))]) [0] (by decide) rfl
  have hKc := hK.sub (tys' := []) [] rfl
  have hFc := va_free (wc := [(ya, .inr (16, [.ref ms, .int 0, .ref ju, .ref li, .ref ct, .ref tg, .ref fw]))]) hD hS hA [0] rfl
  refine vx_callX (vx_runV (As := [.int a1]) (rest := [.int 0, .ref ou]) ⟨hx, hb, hml, hown, hts⟩ (c_X11_print l hfl dC dI ya ms ju li ct tg fw a1 s.heap.size) (cwV 1 hts gL_print_X11_print rfl rfl rfl (by decide +kernel) ⟨Nat.le_of_ble_eq_true rfl, Nat.le_of_ble_eq_true rfl⟩) (pcVz (zX_ok) hPc hDc hKc hN hZ hS hFc (ci := 16) (q0 := 0) rfl rfl) rfl rfl hl.1 rfl (lv_room (Nat.le_of_ble_eq_true rfl)) dL_print_4 ⟨Nat.le_of_ble_eq_true rfl, Nat.le_of_ble_eq_true rfl⟩) hS hFc (fun q _ h => hFc q h) (fun _ _ _ h => h) (fun E9 ce9 q9 u9 t9 H9 locs9 ht9 hvm9 hp9 hE9 hz9 hk9 hS9 hc9 hv9 hcl9 => ?_)
  subst hE9
  refine vx_catch (name := "java/lang/IndexOutOfBoundsException") hown [] ⟨0, 8, 11, 21⟩ [⟨0, 8, 14, 27⟩] htab (fun z hz => by cases hz) (by decide) (by decide) (hts (.classLink RL 21 "java/lang/IndexOutOfBoundsException") (by decide +kernel)) (zX_use hZ (.castable "java/lang/IndexOutOfBoundsException" "java/lang/IndexOutOfBoundsException") (by decide)) hc9 hv9 hcl9 ?_
  refine W.eq (g2 := F0 m 11 ls [.ref q9]) rfl ?_
  obtain ⟨hP, hD⟩ := va_join (wr := [(ou, .inl (cL, 1, .inr (.inl of9)))]) (w1 := []) hP hD [0] [1] rfl rfl (by decide) (by decide) hk9 hFc P_nil D_nil
  have hS := hS9
  generalize H9 = H at hP hS ⊢
  have hP : va_P (dC, dI) vwCl [(ou, .inl (cL, 1, .inr (.inl of9)))] H := hP
  have hD : va_D A [(ou, .inl (cL, 1, .inr (.inl of9)))] := hD
  refine W.widen (k := 1) (n := 6) (Nat.le_of_ble_eq_true rfl) (Nat.le_of_ble_eq_true rfl) ?_
  refine lv_astore_n (lv' := [(3, .ref q9), (0, .ref ya), (1, .int a1), (2, .ref ou)]) hx hb dL_print_11 rfl hl (by decide) rfl (fun ls hl => ?_)
  refine lv_iconst (v := 1) hx hb dL_print_12 (by decide) ?_
  refine vx_ret ?_
  have hP9 := hP.sub (ws' := [(ou, .inl (cL, 1, .inr (.inl of9)))]) [0] rfl
  have hD9 := hD.sub (ws' := [(ou, .inl (cL, 1, .inr (.inl of9)))]) [0] (by decide) rfl
  have hK9 := hK.sub (tys' := [(cL, .long)]) [0] rfl
  exact W.iret (v := 1) hx hb hr (fun t ht hW => ⟨⟨1, of9, rfl, rfl, ⟨by rw [ht]; exact hP9, va_K.moved hW.alike hK9, hD9⟩⟩, hS.F ht⟩) hS.2.2 dL_print_13

set_option maxHeartbeats 4000000 in
set_option maxRecDepth 100000 in
/-- L_printByRuns -/
theorem c_L_printByRuns (l : Launch) (hfl : l.stackTraces = false) (dC : Nat → ClassId) (dI : Nat → Nat → Nat) (ya ms ju li ct tg fw : Nat) (a1 a2 : Int32) (cL : ClassId) (ou : Nat) (of9 : Nat → Int64) (sz : Nat) : vx_Met l yL_printByRuns wsL_printByRuns ({ frames := 8, cells := 1, slots := 6, locals := 145 }) (va_Pc [.ref ya, .int a1, .int a2, .ref ou] (cPCz (zX) dC dI [(ya, .inr (16, [.ref ms, .int 0, .ref ju, .ref li, .ref ct, .ref tg, .ref fw])), (ou, .inl (cL, 1, .inr (.inl of9)))] [(cL, .long)] sz)) (va_Qi (fun (r : Int32) (u : Nat → Int64) => r = 1) (fun (u : Nat → Int64) t => cQB dC dI [(ou, .inl (cL, 1, .inr (.inl u)))] [(cL, .long)] (va_A [(ya, .inr (16, [.ref ms, .int 0, .ref ju, .ref li, .ref ct, .ref tg, .ref fw])), (ou, .inl (cL, 1, .inr (.inl of9)))] sz) t) (va_A [(ya, .inr (16, [.ref ms, .int 0, .ref ju, .ref li, .ref ct, .ref tg, .ref fw])), (ou, .inl (cL, 1, .inr (.inl of9)))] sz)) (vx_X (fun (_ : Unit) => True) (fun (E9 : String) (_ : Unit) (_ : State) => False) (va_A [(ya, .inr (16, [.ref ms, .int 0, .ref ju, .ref li, .ref ct, .ref tg, .ref fw])), (ou, .inl (cL, 1, .inr (.inl of9)))] sz)) 1 6 (va_A [(ya, .inr (16, [.ref ms, .int 0, .ref ju, .ref li, .ref ct, .ref tg, .ref fw])), (ou, .inl (cL, 1, .inr (.inl of9)))] sz) := by
  refine vx_ofWH (cc := cL_printByRuns) (maxL := 5) (ret := (some .int)) (hh := [(0, 9, 12, 21), (0, 9, 16, 13)]) (by decide) rfl ?_
  intro p e s m args below meth c s₁ B hml hv
  obtain ⟨rfl, ⟨hsz, hP, hK, hD0, hN⟩, hZ⟩ := hv
  have hx := B.exec
  have hb := B.bytes
  have hr := B.returns
  have hts := atoms_spec (ws := wsL_printByRuns) B.pre
  have hown : s.vm.findClass RL = some m.cls := findClass_of_methodNamed B.named
  have hlocks := B.notSynchronized
  subst hsz
  have hD := hD0.self (sz := s.heap.size)
  generalize hAe : va_A [(ya, .inr (16, [.ref ms, .int 0, .ref ju, .ref li, .ref ct, .ref tg, .ref fw])), (ou, .inl (cL, 1, .inr (.inl of9)))] s.heap.size = A at hD hZ ⊢
  have hA : ∀ q : Nat, s.heap.size ≤ q → A q := fun q h => by rw [← hAe]; exact Or.inr h
  have hS : va_S A s.heap s.heap [] := va_S.rf
  have hP : va_P (dC, dI) vwCl [(ya, .inr (16, [.ref ms, .int 0, .ref ju, .ref li, .ref ct, .ref tg, .ref fw])), (ou, .inl (cL, 1, .inr (.inl of9)))] s.heap := hP
  have hD : va_D A [(ya, .inr (16, [.ref ms, .int 0, .ref ju, .ref li, .ref ct, .ref tg, .ref fw])), (ou, .inl (cL, 1, .inr (.inl of9)))] := hD
  have hl := lv_entry ([.ref ya, .int a1, .int a2, .ref ou]) (n := 5) (Nat.le_of_ble_eq_true rfl)
  rw [lg_entry_eq]
  generalize (lg_sl ([.ref ya, .int a1, .int a2, .ref ou]) ++ List.replicate (5 - (lg_sl ([.ref ya, .int a1, .int a2, .ref ou])).length) Slot.unset).toArray = ls at hl ⊢
  have hl : lv_has ls 5 [(0, .ref ya), (1, .int a1), (2, .int a2), (3, .ref ou)] := hl
  have htab : c.exceptionTable.toList = tableOf [(0, 9, 12, 21), (0, 9, 16, 13)] := vx_table B (hts (.codeWith yL_printByRuns cL_printByRuns 5 (some .int) [(0, 9, 12, 21), (0, 9, 16, 13)]) (show _ ∈ wsL_printByRuns from List.mem_cons_self))
  refine lv_aload_n hx hb dL_printByRuns_0 rfl (lv_at hl 3 rfl) ?_
  refine lv_iconst (v := 0) hx hb dL_printByRuns_1 (by decide) ?_
  refine lv_aload_n hx hb dL_printByRuns_2 rfl (lv_at hl 0 rfl) ?_
  refine lv_iload_n hx hb dL_printByRuns_3 rfl (lv_at hl 1 rfl) ?_
  refine lv_iload_n hx hb dL_printByRuns_4 rfl (lv_at hl 2 rfl) ?_
  have hPc := hP.sub (ws' := [(ya, .inr (16, [.ref ms, .int 0, .ref ju, .ref li, .ref ct, .ref tg, .ref fw]))]) [0] rfl
  have hDc := hD.sub (ws' := [(ya, .inr (16, [.ref ms, .int 0, .ref ju, .ref li, .ref ct, .ref tg, .ref fw]))]) [0] (by decide) rfl
  have hKc := hK.sub (tys' := []) [] rfl
  have hFc := va_free (wc := [(ya, .inr (16, [.ref ms, .int 0, .ref ju, .ref li, .ref ct, .ref tg, .ref fw]))]) hD hS hA [0] rfl
  refine vx_callX (vx_runV (As := [.int a1, .int a2]) (rest := [.int 0, .ref ou]) ⟨hx, hb, hml, hown, hts⟩ (c_X11_printByRuns l hfl dC dI ya ms ju li ct tg fw a1 a2 s.heap.size) (cwV 2 hts gL_printByRuns_X11_printByRuns rfl rfl rfl (by decide +kernel) ⟨Nat.le_of_ble_eq_true rfl, Nat.le_of_ble_eq_true rfl⟩) (pcVz (zX_ok) hPc hDc hKc hN hZ hS hFc (ci := 16) (q0 := 0) rfl rfl) rfl rfl hl.1 rfl (lv_room (Nat.le_of_ble_eq_true rfl)) dL_printByRuns_5 ⟨Nat.le_of_ble_eq_true rfl, Nat.le_of_ble_eq_true rfl⟩) hS hFc (fun q _ h => hFc q h) (fun _ _ _ h => h) (fun E9 ce9 q9 u9 t9 H9 locs9 ht9 hvm9 hp9 hE9 hz9 hk9 hS9 hc9 hv9 hcl9 => ?_)
  subst hE9
  refine vx_catch (name := "java/lang/IndexOutOfBoundsException") hown [] ⟨0, 9, 12, 21⟩ [⟨0, 9, 16, 13⟩] htab (fun z hz => by cases hz) (by decide) (by decide) (hts (.classLink RL 21 "java/lang/IndexOutOfBoundsException") (by decide +kernel)) (zX_use hZ (.castable "java/lang/IndexOutOfBoundsException" "java/lang/IndexOutOfBoundsException") (by decide)) hc9 hv9 hcl9 ?_
  refine W.eq (g2 := F0 m 12 ls [.ref q9]) rfl ?_
  obtain ⟨hP, hD⟩ := va_join (wr := [(ou, .inl (cL, 1, .inr (.inl of9)))]) (w1 := []) hP hD [0] [1] rfl rfl (by decide) (by decide) hk9 hFc P_nil D_nil
  have hS := hS9
  generalize H9 = H at hP hS ⊢
  have hP : va_P (dC, dI) vwCl [(ou, .inl (cL, 1, .inr (.inl of9)))] H := hP
  have hD : va_D A [(ou, .inl (cL, 1, .inr (.inl of9)))] := hD
  refine W.widen (k := 1) (n := 6) (Nat.le_of_ble_eq_true rfl) (Nat.le_of_ble_eq_true rfl) ?_
  refine lv_astore (lv' := [(4, .ref q9), (0, .ref ya), (1, .int a1), (2, .int a2), (3, .ref ou)]) hx hb dL_printByRuns_12 hl (by decide) rfl (fun ls hl => ?_)
  refine lv_iconst (v := 1) hx hb dL_printByRuns_14 (by decide) ?_
  refine vx_ret ?_
  have hP9 := hP.sub (ws' := [(ou, .inl (cL, 1, .inr (.inl of9)))]) [0] rfl
  have hD9 := hD.sub (ws' := [(ou, .inl (cL, 1, .inr (.inl of9)))]) [0] (by decide) rfl
  have hK9 := hK.sub (tys' := [(cL, .long)]) [0] rfl
  exact W.iret (v := 1) hx hb hr (fun t ht hW => ⟨⟨1, of9, rfl, rfl, ⟨by rw [ht]; exact hP9, va_K.moved hW.alike hK9, hD9⟩⟩, hS.F ht⟩) hS.2.2 dL_printByRuns_15

set_option maxHeartbeats 4000000 in
set_option maxRecDepth 100000 in
/-- L_runsOf -/
theorem c_L_runsOf (l : Launch) (hfl : l.stackTraces = false) (dC : Nat → ClassId) (dI : Nat → Nat → Nat) (ya ms ju li ct tg fw : Nat) (a1 : Int32) (cL : ClassId) (ou : Nat) (of9 : Nat → Int64) (sz : Nat) : vx_Met l yL_runsOf wsL_runsOf ({ frames := 8, cells := 1, slots := 6, locals := 144 }) (va_Pc [.ref ya, .int a1, .ref ou] (cPCz (zX) dC dI [(ya, .inr (16, [.ref ms, .int 0, .ref ju, .ref li, .ref ct, .ref tg, .ref fw])), (ou, .inl (cL, 1, .inr (.inl of9)))] [(cL, .long)] sz)) (va_Qi (fun (r : Int32) (u : Nat → Int64) => r = 1) (fun (u : Nat → Int64) t => cQB dC dI [(ou, .inl (cL, 1, .inr (.inl u)))] [(cL, .long)] (va_A [(ya, .inr (16, [.ref ms, .int 0, .ref ju, .ref li, .ref ct, .ref tg, .ref fw])), (ou, .inl (cL, 1, .inr (.inl of9)))] sz) t) (va_A [(ya, .inr (16, [.ref ms, .int 0, .ref ju, .ref li, .ref ct, .ref tg, .ref fw])), (ou, .inl (cL, 1, .inr (.inl of9)))] sz)) (vx_X (fun (_ : Unit) => True) (fun (E9 : String) (_ : Unit) (_ : State) => False) (va_A [(ya, .inr (16, [.ref ms, .int 0, .ref ju, .ref li, .ref ct, .ref tg, .ref fw])), (ou, .inl (cL, 1, .inr (.inl of9)))] sz)) 1 6 (va_A [(ya, .inr (16, [.ref ms, .int 0, .ref ju, .ref li, .ref ct, .ref tg, .ref fw])), (ou, .inl (cL, 1, .inr (.inl of9)))] sz) := by
  refine vx_ofWH (cc := cL_runsOf) (maxL := 4) (ret := (some .int)) (hh := [(0, 9, 12, 21), (0, 9, 15, 27)]) (by decide) rfl ?_
  intro p e s m args below meth c s₁ B hml hv
  obtain ⟨rfl, ⟨hsz, hP, hK, hD0, hN⟩, hZ⟩ := hv
  have hx := B.exec
  have hb := B.bytes
  have hr := B.returns
  have hts := atoms_spec (ws := wsL_runsOf) B.pre
  have hown : s.vm.findClass RL = some m.cls := findClass_of_methodNamed B.named
  have hlocks := B.notSynchronized
  subst hsz
  have hD := hD0.self (sz := s.heap.size)
  generalize hAe : va_A [(ya, .inr (16, [.ref ms, .int 0, .ref ju, .ref li, .ref ct, .ref tg, .ref fw])), (ou, .inl (cL, 1, .inr (.inl of9)))] s.heap.size = A at hD hZ ⊢
  have hA : ∀ q : Nat, s.heap.size ≤ q → A q := fun q h => by rw [← hAe]; exact Or.inr h
  have hS : va_S A s.heap s.heap [] := va_S.rf
  have hP : va_P (dC, dI) vwCl [(ya, .inr (16, [.ref ms, .int 0, .ref ju, .ref li, .ref ct, .ref tg, .ref fw])), (ou, .inl (cL, 1, .inr (.inl of9)))] s.heap := hP
  have hD : va_D A [(ya, .inr (16, [.ref ms, .int 0, .ref ju, .ref li, .ref ct, .ref tg, .ref fw])), (ou, .inl (cL, 1, .inr (.inl of9)))] := hD
  have hl := lv_entry ([.ref ya, .int a1, .ref ou]) (n := 4) (Nat.le_of_ble_eq_true rfl)
  rw [lg_entry_eq]
  generalize (lg_sl ([.ref ya, .int a1, .ref ou]) ++ List.replicate (4 - (lg_sl ([.ref ya, .int a1, .ref ou])).length) Slot.unset).toArray = ls at hl ⊢
  have hl : lv_has ls 4 [(0, .ref ya), (1, .int a1), (2, .ref ou)] := hl
  have htab : c.exceptionTable.toList = tableOf [(0, 9, 12, 21), (0, 9, 15, 27)] := vx_table B (hts (.codeWith yL_runsOf cL_runsOf 4 (some .int) [(0, 9, 12, 21), (0, 9, 15, 27)]) (show _ ∈ wsL_runsOf from List.mem_cons_self))
  refine lv_aload_n hx hb dL_runsOf_0 rfl (lv_at hl 2 rfl) ?_
  refine lv_iconst (v := 0) hx hb dL_runsOf_1 (by decide) ?_
  refine lv_aload_n hx hb dL_runsOf_2 rfl (lv_at hl 0 rfl) ?_
  refine lv_iload_n hx hb dL_runsOf_3 rfl (lv_at hl 1 rfl) ?_
  have hPc := hP.sub (ws' := [(ya, .inr (16, [.ref ms, .int 0, .ref ju, .ref li, .ref ct, .ref tg, .ref fw]))]) [0] rfl
  have hDc := hD.sub (ws' := [(ya, .inr (16, [.ref ms, .int 0, .ref ju, .ref li, .ref ct, .ref tg, .ref fw]))]) [0] (by decide) rfl
  have hKc := hK.sub (tys' := []) [] rfl
  have hFc := va_free (wc := [(ya, .inr (16, [.ref ms, .int 0, .ref ju, .ref li, .ref ct, .ref tg, .ref fw]))]) hD hS hA [0] rfl
  refine vx_callX (vx_runV (As := [.int a1]) (rest := [.int 0, .ref ou]) ⟨hx, hb, hml, hown, hts⟩ (c_X11_runsOf l hfl dC dI ya ms ju li ct tg fw a1 s.heap.size) (cwV 1 hts gL_runsOf_X11_runsOf rfl rfl rfl (by decide +kernel) ⟨Nat.le_of_ble_eq_true rfl, Nat.le_of_ble_eq_true rfl⟩) (pcVz (zX_ok) hPc hDc hKc hN hZ hS hFc (ci := 16) (q0 := 0) rfl rfl) rfl rfl hl.1 rfl (lv_room (Nat.le_of_ble_eq_true rfl)) dL_runsOf_4 ⟨Nat.le_of_ble_eq_true rfl, Nat.le_of_ble_eq_true rfl⟩) hS hFc (fun q _ h => hFc q h) (fun _ _ _ h => h) (fun E9 ce9 q9 u9 t9 H9 locs9 ht9 hvm9 hp9 hE9 hz9 hk9 hS9 hc9 hv9 hcl9 => ?_)
  subst hE9
  refine vx_catch (name := "java/lang/IndexOutOfBoundsException") hown [] ⟨0, 9, 12, 21⟩ [⟨0, 9, 15, 27⟩] htab (fun z hz => by cases hz) (by decide) (by decide) (hts (.classLink RL 21 "java/lang/IndexOutOfBoundsException") (by decide +kernel)) (zX_use hZ (.castable "java/lang/IndexOutOfBoundsException" "java/lang/IndexOutOfBoundsException") (by decide)) hc9 hv9 hcl9 ?_
  refine W.eq (g2 := F0 m 12 ls [.ref q9]) rfl ?_
  obtain ⟨hP, hD⟩ := va_join (wr := [(ou, .inl (cL, 1, .inr (.inl of9)))]) (w1 := []) hP hD [0] [1] rfl rfl (by decide) (by decide) hk9 hFc P_nil D_nil
  have hS := hS9
  generalize H9 = H at hP hS ⊢
  have hP : va_P (dC, dI) vwCl [(ou, .inl (cL, 1, .inr (.inl of9)))] H := hP
  have hD : va_D A [(ou, .inl (cL, 1, .inr (.inl of9)))] := hD
  refine W.widen (k := 1) (n := 6) (Nat.le_of_ble_eq_true rfl) (Nat.le_of_ble_eq_true rfl) ?_
  refine lv_astore_n (lv' := [(3, .ref q9), (0, .ref ya), (1, .int a1), (2, .ref ou)]) hx hb dL_runsOf_12 rfl hl (by decide) rfl (fun ls hl => ?_)
  refine lv_iconst (v := 1) hx hb dL_runsOf_13 (by decide) ?_
  refine vx_ret ?_
  have hP9 := hP.sub (ws' := [(ou, .inl (cL, 1, .inr (.inl of9)))]) [0] rfl
  have hD9 := hD.sub (ws' := [(ou, .inl (cL, 1, .inr (.inl of9)))]) [0] (by decide) rfl
  have hK9 := hK.sub (tys' := [(cL, .long)]) [0] rfl
  exact W.iret (v := 1) hx hb hr (fun t ht hW => ⟨⟨1, of9, rfl, rfl, ⟨by rw [ht]; exact hP9, va_K.moved hW.alike hK9, hD9⟩⟩, hS.F ht⟩) hS.2.2 dL_runsOf_14

set_option maxHeartbeats 4000000 in
set_option maxRecDepth 100000 in
/-- L_decide -/
theorem c_L_decide (l : Launch) (hfl : l.stackTraces = false) (dC : Nat → ClassId) (dI : Nat → Nat → Nat) (ya ms ju li ct tg fw : Nat) (a1 a2 a3 : Int32) (cL : ClassId) (ou : Nat) (of9 : Nat → Int64) (sz : Nat) : vx_Met l yL_decide wsL_decide ({ frames := 8, cells := 1, slots := 6, locals := 146 }) (va_Pc [.ref ya, .int a1, .int a2, .int a3, .ref ou] (cPCz (zX) dC dI [(ya, .inr (16, [.ref ms, .int 0, .ref ju, .ref li, .ref ct, .ref tg, .ref fw])), (ou, .inl (cL, 1, .inr (.inl of9)))] [(cL, .long)] sz)) (va_Qi (fun (r : Int32) (u : Nat → Int64) => r = 1) (fun (u : Nat → Int64) t => cQB dC dI [(ou, .inl (cL, 1, .inr (.inl u)))] [(cL, .long)] (va_A [(ya, .inr (16, [.ref ms, .int 0, .ref ju, .ref li, .ref ct, .ref tg, .ref fw])), (ou, .inl (cL, 1, .inr (.inl of9)))] sz) t) (va_A [(ya, .inr (16, [.ref ms, .int 0, .ref ju, .ref li, .ref ct, .ref tg, .ref fw])), (ou, .inl (cL, 1, .inr (.inl of9)))] sz)) (vx_X (fun (_ : Unit) => True) (fun (E9 : String) (_ : Unit) (_ : State) => False) (va_A [(ya, .inr (16, [.ref ms, .int 0, .ref ju, .ref li, .ref ct, .ref tg, .ref fw])), (ou, .inl (cL, 1, .inr (.inl of9)))] sz)) 1 6 (va_A [(ya, .inr (16, [.ref ms, .int 0, .ref ju, .ref li, .ref ct, .ref tg, .ref fw])), (ou, .inl (cL, 1, .inr (.inl of9)))] sz) := by
  refine vx_ofWH (cc := cL_decide) (maxL := 6) (ret := (some .int)) (hh := [(0, 19, 22, 21), (0, 19, 26, 13), (0, 19, 30, 63)]) (by decide) rfl ?_
  intro p e s m args below meth c s₁ B hml hv
  obtain ⟨rfl, ⟨hsz, hP, hK, hD0, hN⟩, hZ⟩ := hv
  have hx := B.exec
  have hb := B.bytes
  have hr := B.returns
  have hts := atoms_spec (ws := wsL_decide) B.pre
  have hown : s.vm.findClass RL = some m.cls := findClass_of_methodNamed B.named
  have hlocks := B.notSynchronized
  subst hsz
  have hD := hD0.self (sz := s.heap.size)
  generalize hAe : va_A [(ya, .inr (16, [.ref ms, .int 0, .ref ju, .ref li, .ref ct, .ref tg, .ref fw])), (ou, .inl (cL, 1, .inr (.inl of9)))] s.heap.size = A at hD hZ ⊢
  have hA : ∀ q : Nat, s.heap.size ≤ q → A q := fun q h => by rw [← hAe]; exact Or.inr h
  have hS : va_S A s.heap s.heap [] := va_S.rf
  have hP : va_P (dC, dI) vwCl [(ya, .inr (16, [.ref ms, .int 0, .ref ju, .ref li, .ref ct, .ref tg, .ref fw])), (ou, .inl (cL, 1, .inr (.inl of9)))] s.heap := hP
  have hD : va_D A [(ya, .inr (16, [.ref ms, .int 0, .ref ju, .ref li, .ref ct, .ref tg, .ref fw])), (ou, .inl (cL, 1, .inr (.inl of9)))] := hD
  have hl := lv_entry ([.ref ya, .int a1, .int a2, .int a3, .ref ou]) (n := 6) (Nat.le_of_ble_eq_true rfl)
  rw [lg_entry_eq]
  generalize (lg_sl ([.ref ya, .int a1, .int a2, .int a3, .ref ou]) ++ List.replicate (6 - (lg_sl ([.ref ya, .int a1, .int a2, .int a3, .ref ou])).length) Slot.unset).toArray = ls at hl ⊢
  have hl : lv_has ls 6 [(0, .ref ya), (1, .int a1), (2, .int a2), (3, .int a3), (4, .ref ou)] := hl
  have htab : c.exceptionTable.toList = tableOf [(0, 19, 22, 21), (0, 19, 26, 13), (0, 19, 30, 63)] := vx_table B (hts (.codeWith yL_decide cL_decide 6 (some .int) [(0, 19, 22, 21), (0, 19, 26, 13), (0, 19, 30, 63)]) (show _ ∈ wsL_decide from List.mem_cons_self))
  refine lv_aload hx hb dL_decide_0 (lv_at hl 4 rfl) ?_
  refine lv_iconst (v := 0) hx hb dL_decide_2 (by decide) ?_
  refine lv_aload_n hx hb dL_decide_3 rfl (lv_at hl 0 rfl) ?_
  refine lv_iload_n hx hb dL_decide_4 rfl (lv_at hl 1 rfl) ?_
  refine lv_iload_n hx hb dL_decide_5 rfl (lv_at hl 2 rfl) ?_
  refine lv_iload_n hx hb dL_decide_6 rfl (lv_at hl 3 rfl) ?_
  have hPc := hP.sub (ws' := [(ya, .inr (16, [.ref ms, .int 0, .ref ju, .ref li, .ref ct, .ref tg, .ref fw]))]) [0] rfl
  have hDc := hD.sub (ws' := [(ya, .inr (16, [.ref ms, .int 0, .ref ju, .ref li, .ref ct, .ref tg, .ref fw]))]) [0] (by decide) rfl
  have hKc := hK.sub (tys' := []) [] rfl
  have hFc := va_free (wc := [(ya, .inr (16, [.ref ms, .int 0, .ref ju, .ref li, .ref ct, .ref tg, .ref fw]))]) hD hS hA [0] rfl
  refine vx_callX (vx_runV (As := [.int a1, .int a2, .int a3]) (rest := [.int 0, .ref ou]) ⟨hx, hb, hml, hown, hts⟩ (c_X11_decide l hfl dC dI ya ms ju li ct tg fw a1 a2 a3 s.heap.size) (cwV 3 hts gL_decide_X11_decide rfl rfl rfl (by decide +kernel) ⟨Nat.le_of_ble_eq_true rfl, Nat.le_of_ble_eq_true rfl⟩) (pcVz (zX_ok) hPc hDc hKc hN hZ hS hFc (ci := 16) (q0 := 0) rfl rfl) rfl rfl hl.1 rfl (lv_room (Nat.le_of_ble_eq_true rfl)) dL_decide_7 ⟨Nat.le_of_ble_eq_true rfl, Nat.le_of_ble_eq_true rfl⟩) hS hFc (fun q _ h => hFc q h) (fun _ _ _ h => h) (fun E9 ce9 q9 u9 t9 H9 locs9 ht9 hvm9 hp9 hE9 hz9 hk9 hS9 hc9 hv9 hcl9 => ?_)
  subst hE9
  refine vx_catch (name := "java/lang/IndexOutOfBoundsException") hown [] ⟨0, 19, 22, 21⟩ [⟨0, 19, 26, 13⟩, ⟨0, 19, 30, 63⟩] htab (fun z hz => by cases hz) (by decide) (by decide) (hts (.classLink RL 21 "java/lang/IndexOutOfBoundsException") (by decide +kernel)) (zX_use hZ (.castable "java/lang/IndexOutOfBoundsException" "java/lang/IndexOutOfBoundsException") (by decide)) hc9 hv9 hcl9 ?_
  refine W.eq (g2 := F0 m 22 ls [.ref q9]) rfl ?_
  obtain ⟨hP, hD⟩ := va_join (wr := [(ou, .inl (cL, 1, .inr (.inl of9)))]) (w1 := []) hP hD [0] [1] rfl rfl (by decide) (by decide) hk9 hFc P_nil D_nil
  have hS := hS9
  generalize H9 = H at hP hS ⊢
  have hP : va_P (dC, dI) vwCl [(ou, .inl (cL, 1, .inr (.inl of9)))] H := hP
  have hD : va_D A [(ou, .inl (cL, 1, .inr (.inl of9)))] := hD
  refine W.widen (k := 1) (n := 6) (Nat.le_of_ble_eq_true rfl) (Nat.le_of_ble_eq_true rfl) ?_
  refine lv_astore (lv' := [(5, .ref q9), (0, .ref ya), (1, .int a1), (2, .int a2), (3, .int a3), (4, .ref ou)]) hx hb dL_decide_22 hl (by decide) rfl (fun ls hl => ?_)
  refine lv_iconst (v := 1) hx hb dL_decide_24 (by decide) ?_
  refine vx_ret ?_
  have hP9 := hP.sub (ws' := [(ou, .inl (cL, 1, .inr (.inl of9)))]) [0] rfl
  have hD9 := hD.sub (ws' := [(ou, .inl (cL, 1, .inr (.inl of9)))]) [0] (by decide) rfl
  have hK9 := hK.sub (tys' := [(cL, .long)]) [0] rfl
  exact W.iret (v := 1) hx hb hr (fun t ht hW => ⟨⟨1, of9, rfl, rfl, ⟨by rw [ht]; exact hP9, va_K.moved hW.alike hK9, hD9⟩⟩, hS.F ht⟩) hS.2.2 dL_decide_25

set_option maxHeartbeats 4000000 in
set_option maxRecDepth 100000 in
/-- L_verdict -/
theorem c_L_verdict (l : Launch) (hfl : l.stackTraces = false) (dC : Nat → ClassId) (dI : Nat → Nat → Nat) (ya ms ju li ct tg fw : Nat) (a1 : Int32) (cL : ClassId) (ou : Nat) (of9 : Nat → Int64) (sz : Nat) : vx_Met l yL_verdict wsL_verdict ({ frames := 8, cells := 1, slots := 6, locals := 143 }) (va_Pc [.ref ya, .int a1, .ref ou] (cPCz (zX) dC dI [(ya, .inr (16, [.ref ms, .int 0, .ref ju, .ref li, .ref ct, .ref tg, .ref fw])), (ou, .inl (cL, 1, .inr (.inl of9)))] [(cL, .long)] sz)) (va_Qi (fun (r : Int32) (u : Nat → Int64) => r = 1) (fun (u : Nat → Int64) t => cQB dC dI [(ou, .inl (cL, 1, .inr (.inl u)))] [(cL, .long)] (va_A [(ya, .inr (16, [.ref ms, .int 0, .ref ju, .ref li, .ref ct, .ref tg, .ref fw])), (ou, .inl (cL, 1, .inr (.inl of9)))] sz) t) (va_A [(ya, .inr (16, [.ref ms, .int 0, .ref ju, .ref li, .ref ct, .ref tg, .ref fw])), (ou, .inl (cL, 1, .inr (.inl of9)))] sz)) (vx_X (fun (_ : Unit) => True) (fun (E9 : String) (_ : Unit) (_ : State) => False) (va_A [(ya, .inr (16, [.ref ms, .int 0, .ref ju, .ref li, .ref ct, .ref tg, .ref fw])), (ou, .inl (cL, 1, .inr (.inl of9)))] sz)) 1 6 (va_A [(ya, .inr (16, [.ref ms, .int 0, .ref ju, .ref li, .ref ct, .ref tg, .ref fw])), (ou, .inl (cL, 1, .inr (.inl of9)))] sz) := by
  refine vx_ofWH (cc := cL_verdict) (maxL := 4) (ret := (some .int)) (hh := [(0, 9, 12, 21)]) (by decide) rfl ?_
  intro p e s m args below meth c s₁ B hml hv
  obtain ⟨rfl, ⟨hsz, hP, hK, hD0, hN⟩, hZ⟩ := hv
  have hx := B.exec
  have hb := B.bytes
  have hr := B.returns
  have hts := atoms_spec (ws := wsL_verdict) B.pre
  have hown : s.vm.findClass RL = some m.cls := findClass_of_methodNamed B.named
  have hlocks := B.notSynchronized
  subst hsz
  have hD := hD0.self (sz := s.heap.size)
  generalize hAe : va_A [(ya, .inr (16, [.ref ms, .int 0, .ref ju, .ref li, .ref ct, .ref tg, .ref fw])), (ou, .inl (cL, 1, .inr (.inl of9)))] s.heap.size = A at hD hZ ⊢
  have hA : ∀ q : Nat, s.heap.size ≤ q → A q := fun q h => by rw [← hAe]; exact Or.inr h
  have hS : va_S A s.heap s.heap [] := va_S.rf
  have hP : va_P (dC, dI) vwCl [(ya, .inr (16, [.ref ms, .int 0, .ref ju, .ref li, .ref ct, .ref tg, .ref fw])), (ou, .inl (cL, 1, .inr (.inl of9)))] s.heap := hP
  have hD : va_D A [(ya, .inr (16, [.ref ms, .int 0, .ref ju, .ref li, .ref ct, .ref tg, .ref fw])), (ou, .inl (cL, 1, .inr (.inl of9)))] := hD
  have hl := lv_entry ([.ref ya, .int a1, .ref ou]) (n := 4) (Nat.le_of_ble_eq_true rfl)
  rw [lg_entry_eq]
  generalize (lg_sl ([.ref ya, .int a1, .ref ou]) ++ List.replicate (4 - (lg_sl ([.ref ya, .int a1, .ref ou])).length) Slot.unset).toArray = ls at hl ⊢
  have hl : lv_has ls 4 [(0, .ref ya), (1, .int a1), (2, .ref ou)] := hl
  have htab : c.exceptionTable.toList = tableOf [(0, 9, 12, 21)] := vx_table B (hts (.codeWith yL_verdict cL_verdict 4 (some .int) [(0, 9, 12, 21)]) (show _ ∈ wsL_verdict from List.mem_cons_self))
  refine lv_aload_n hx hb dL_verdict_0 rfl (lv_at hl 2 rfl) ?_
  refine lv_iconst (v := 0) hx hb dL_verdict_1 (by decide) ?_
  refine lv_aload_n hx hb dL_verdict_2 rfl (lv_at hl 0 rfl) ?_
  refine lv_iload_n hx hb dL_verdict_3 rfl (lv_at hl 1 rfl) ?_
  have hPc := hP.sub (ws' := [(ya, .inr (16, [.ref ms, .int 0, .ref ju, .ref li, .ref ct, .ref tg, .ref fw]))]) [0] rfl
  have hDc := hD.sub (ws' := [(ya, .inr (16, [.ref ms, .int 0, .ref ju, .ref li, .ref ct, .ref tg, .ref fw]))]) [0] (by decide) rfl
  have hKc := hK.sub (tys' := []) [] rfl
  have hFc := va_free (wc := [(ya, .inr (16, [.ref ms, .int 0, .ref ju, .ref li, .ref ct, .ref tg, .ref fw]))]) hD hS hA [0] rfl
  refine vx_callX (vx_runV (As := [.int a1]) (rest := [.int 0, .ref ou]) ⟨hx, hb, hml, hown, hts⟩ (c_X11_verdict l hfl dC dI ya ms ju li ct tg fw a1 s.heap.size) (cwV 1 hts gL_verdict_X11_verdict rfl rfl rfl (by decide +kernel) ⟨Nat.le_of_ble_eq_true rfl, Nat.le_of_ble_eq_true rfl⟩) (pcVz (zX_ok) hPc hDc hKc hN hZ hS hFc (ci := 16) (q0 := 0) rfl rfl) rfl rfl hl.1 rfl (lv_room (Nat.le_of_ble_eq_true rfl)) dL_verdict_4 ⟨Nat.le_of_ble_eq_true rfl, Nat.le_of_ble_eq_true rfl⟩) hS hFc (fun q _ h => hFc q h) (fun _ _ _ h => h) (fun E9 ce9 q9 u9 t9 H9 locs9 ht9 hvm9 hp9 hE9 hz9 hk9 hS9 hc9 hv9 hcl9 => ?_)
  subst hE9
  refine vx_catch (name := "java/lang/IndexOutOfBoundsException") hown [] ⟨0, 9, 12, 21⟩ [] htab (fun z hz => by cases hz) (by decide) (by decide) (hts (.classLink RL 21 "java/lang/IndexOutOfBoundsException") (by decide +kernel)) (zX_use hZ (.castable "java/lang/IndexOutOfBoundsException" "java/lang/IndexOutOfBoundsException") (by decide)) hc9 hv9 hcl9 ?_
  refine W.eq (g2 := F0 m 12 ls [.ref q9]) rfl ?_
  obtain ⟨hP, hD⟩ := va_join (wr := [(ou, .inl (cL, 1, .inr (.inl of9)))]) (w1 := []) hP hD [0] [1] rfl rfl (by decide) (by decide) hk9 hFc P_nil D_nil
  have hS := hS9
  generalize H9 = H at hP hS ⊢
  have hP : va_P (dC, dI) vwCl [(ou, .inl (cL, 1, .inr (.inl of9)))] H := hP
  have hD : va_D A [(ou, .inl (cL, 1, .inr (.inl of9)))] := hD
  refine W.widen (k := 1) (n := 6) (Nat.le_of_ble_eq_true rfl) (Nat.le_of_ble_eq_true rfl) ?_
  refine lv_astore_n (lv' := [(3, .ref q9), (0, .ref ya), (1, .int a1), (2, .ref ou)]) hx hb dL_verdict_12 rfl hl (by decide) rfl (fun ls hl => ?_)
  refine lv_iconst (v := 1) hx hb dL_verdict_13 (by decide) ?_
  refine vx_ret ?_
  have hP9 := hP.sub (ws' := [(ou, .inl (cL, 1, .inr (.inl of9)))]) [0] rfl
  have hD9 := hD.sub (ws' := [(ou, .inl (cL, 1, .inr (.inl of9)))]) [0] (by decide) rfl
  have hK9 := hK.sub (tys' := [(cL, .long)]) [0] rfl
  exact W.iret (v := 1) hx hb hr (fun t ht hW => ⟨⟨1, of9, rfl, rfl, ⟨by rw [ht]; exact hP9, va_K.moved hW.alike hK9, hD9⟩⟩, hS.F ht⟩) hS.2.2 dL_verdict_14

set_option maxHeartbeats 4000000 in
set_option maxRecDepth 100000 in
/-- L_certificate -/
theorem c_L_certificate (l : Launch) (hfl : l.stackTraces = false) (dC : Nat → ClassId) (dI : Nat → Nat → Nat) (ya ms ju li ct tg fw : Nat) (a1 a2 : Int32) (cL : ClassId) (ou : Nat) (of9 : Nat → Int64) (sz : Nat) : vx_Met l yL_certificate wsL_certificate ({ frames := 8, cells := 1, slots := 6, locals := 145 }) (va_Pc [.ref ya, .int a1, .int a2, .ref ou] (cPCz (zX) dC dI [(ya, .inr (16, [.ref ms, .int 0, .ref ju, .ref li, .ref ct, .ref tg, .ref fw])), (ou, .inl (cL, 1, .inr (.inl of9)))] [(cL, .long)] sz)) (va_Qi (fun (r : Int32) (u : Nat → Int64) => r = 1) (fun (u : Nat → Int64) t => cQB dC dI [(ou, .inl (cL, 1, .inr (.inl u)))] [(cL, .long)] (va_A [(ya, .inr (16, [.ref ms, .int 0, .ref ju, .ref li, .ref ct, .ref tg, .ref fw])), (ou, .inl (cL, 1, .inr (.inl of9)))] sz) t) (va_A [(ya, .inr (16, [.ref ms, .int 0, .ref ju, .ref li, .ref ct, .ref tg, .ref fw])), (ou, .inl (cL, 1, .inr (.inl of9)))] sz)) (vx_X (fun (_ : Unit) => True) (fun (E9 : String) (_ : Unit) (_ : State) => False) (va_A [(ya, .inr (16, [.ref ms, .int 0, .ref ju, .ref li, .ref ct, .ref tg, .ref fw])), (ou, .inl (cL, 1, .inr (.inl of9)))] sz)) 1 6 (va_A [(ya, .inr (16, [.ref ms, .int 0, .ref ju, .ref li, .ref ct, .ref tg, .ref fw])), (ou, .inl (cL, 1, .inr (.inl of9)))] sz) := by
  refine vx_ofWH (cc := cL_certificate) (maxL := 5) (ret := (some .int)) (hh := [(0, 10, 13, 21), (0, 10, 17, 13), (0, 10, 21, 27)]) (by decide) rfl ?_
  intro p e s m args below meth c s₁ B hml hv
  obtain ⟨rfl, ⟨hsz, hP, hK, hD0, hN⟩, hZ⟩ := hv
  have hx := B.exec
  have hb := B.bytes
  have hr := B.returns
  have hts := atoms_spec (ws := wsL_certificate) B.pre
  have hown : s.vm.findClass RL = some m.cls := findClass_of_methodNamed B.named
  have hlocks := B.notSynchronized
  subst hsz
  have hD := hD0.self (sz := s.heap.size)
  generalize hAe : va_A [(ya, .inr (16, [.ref ms, .int 0, .ref ju, .ref li, .ref ct, .ref tg, .ref fw])), (ou, .inl (cL, 1, .inr (.inl of9)))] s.heap.size = A at hD hZ ⊢
  have hA : ∀ q : Nat, s.heap.size ≤ q → A q := fun q h => by rw [← hAe]; exact Or.inr h
  have hS : va_S A s.heap s.heap [] := va_S.rf
  have hP : va_P (dC, dI) vwCl [(ya, .inr (16, [.ref ms, .int 0, .ref ju, .ref li, .ref ct, .ref tg, .ref fw])), (ou, .inl (cL, 1, .inr (.inl of9)))] s.heap := hP
  have hD : va_D A [(ya, .inr (16, [.ref ms, .int 0, .ref ju, .ref li, .ref ct, .ref tg, .ref fw])), (ou, .inl (cL, 1, .inr (.inl of9)))] := hD
  have hl := lv_entry ([.ref ya, .int a1, .int a2, .ref ou]) (n := 5) (Nat.le_of_ble_eq_true rfl)
  rw [lg_entry_eq]
  generalize (lg_sl ([.ref ya, .int a1, .int a2, .ref ou]) ++ List.replicate (5 - (lg_sl ([.ref ya, .int a1, .int a2, .ref ou])).length) Slot.unset).toArray = ls at hl ⊢
  have hl : lv_has ls 5 [(0, .ref ya), (1, .int a1), (2, .int a2), (3, .ref ou)] := hl
  have htab : c.exceptionTable.toList = tableOf [(0, 10, 13, 21), (0, 10, 17, 13), (0, 10, 21, 27)] := vx_table B (hts (.codeWith yL_certificate cL_certificate 5 (some .int) [(0, 10, 13, 21), (0, 10, 17, 13), (0, 10, 21, 27)]) (show _ ∈ wsL_certificate from List.mem_cons_self))
  refine lv_aload_n hx hb dL_certificate_0 rfl (lv_at hl 3 rfl) ?_
  refine lv_iconst (v := 0) hx hb dL_certificate_1 (by decide) ?_
  refine lv_aload_n hx hb dL_certificate_2 rfl (lv_at hl 0 rfl) ?_
  refine lv_iload_n hx hb dL_certificate_3 rfl (lv_at hl 1 rfl) ?_
  refine lv_iload_n hx hb dL_certificate_4 rfl (lv_at hl 2 rfl) ?_
  have hPc := hP.sub (ws' := [(ya, .inr (16, [.ref ms, .int 0, .ref ju, .ref li, .ref ct, .ref tg, .ref fw]))]) [0] rfl
  have hDc := hD.sub (ws' := [(ya, .inr (16, [.ref ms, .int 0, .ref ju, .ref li, .ref ct, .ref tg, .ref fw]))]) [0] (by decide) rfl
  have hKc := hK.sub (tys' := []) [] rfl
  have hFc := va_free (wc := [(ya, .inr (16, [.ref ms, .int 0, .ref ju, .ref li, .ref ct, .ref tg, .ref fw]))]) hD hS hA [0] rfl
  refine vx_callX (vx_runV (As := [.int a1, .int a2]) (rest := [.int 0, .ref ou]) ⟨hx, hb, hml, hown, hts⟩ (c_X11_certificate l hfl dC dI ya ms ju li ct tg fw a1 a2 s.heap.size) (cwV 2 hts gL_certificate_X11_certificate rfl rfl rfl (by decide +kernel) ⟨Nat.le_of_ble_eq_true rfl, Nat.le_of_ble_eq_true rfl⟩) (pcVz (zX_ok) hPc hDc hKc hN hZ hS hFc (ci := 16) (q0 := 0) rfl rfl) rfl rfl hl.1 rfl (lv_room (Nat.le_of_ble_eq_true rfl)) dL_certificate_5 ⟨Nat.le_of_ble_eq_true rfl, Nat.le_of_ble_eq_true rfl⟩) hS hFc (fun q _ h => hFc q h) (fun _ _ _ h => h) (fun E9 ce9 q9 u9 t9 H9 locs9 ht9 hvm9 hp9 hE9 hz9 hk9 hS9 hc9 hv9 hcl9 => ?_)
  subst hE9
  refine vx_catch (name := "java/lang/IndexOutOfBoundsException") hown [] ⟨0, 10, 13, 21⟩ [⟨0, 10, 17, 13⟩, ⟨0, 10, 21, 27⟩] htab (fun z hz => by cases hz) (by decide) (by decide) (hts (.classLink RL 21 "java/lang/IndexOutOfBoundsException") (by decide +kernel)) (zX_use hZ (.castable "java/lang/IndexOutOfBoundsException" "java/lang/IndexOutOfBoundsException") (by decide)) hc9 hv9 hcl9 ?_
  refine W.eq (g2 := F0 m 13 ls [.ref q9]) rfl ?_
  obtain ⟨hP, hD⟩ := va_join (wr := [(ou, .inl (cL, 1, .inr (.inl of9)))]) (w1 := []) hP hD [0] [1] rfl rfl (by decide) (by decide) hk9 hFc P_nil D_nil
  have hS := hS9
  generalize H9 = H at hP hS ⊢
  have hP : va_P (dC, dI) vwCl [(ou, .inl (cL, 1, .inr (.inl of9)))] H := hP
  have hD : va_D A [(ou, .inl (cL, 1, .inr (.inl of9)))] := hD
  refine W.widen (k := 1) (n := 6) (Nat.le_of_ble_eq_true rfl) (Nat.le_of_ble_eq_true rfl) ?_
  refine lv_astore (lv' := [(4, .ref q9), (0, .ref ya), (1, .int a1), (2, .int a2), (3, .ref ou)]) hx hb dL_certificate_13 hl (by decide) rfl (fun ls hl => ?_)
  refine lv_iconst (v := 1) hx hb dL_certificate_15 (by decide) ?_
  refine vx_ret ?_
  have hP9 := hP.sub (ws' := [(ou, .inl (cL, 1, .inr (.inl of9)))]) [0] rfl
  have hD9 := hD.sub (ws' := [(ou, .inl (cL, 1, .inr (.inl of9)))]) [0] (by decide) rfl
  have hK9 := hK.sub (tys' := [(cL, .long)]) [0] rfl
  exact W.iret (v := 1) hx hb hr (fun t ht hW => ⟨⟨1, of9, rfl, rfl, ⟨by rw [ht]; exact hP9, va_K.moved hW.alike hK9, hD9⟩⟩, hS.F ht⟩) hS.2.2 dL_certificate_16

set_option maxHeartbeats 4000000 in
set_option maxRecDepth 100000 in
/-- L_forge -/
theorem c_L_forge (l : Launch) (hfl : l.stackTraces = false) (dC : Nat → ClassId) (dI : Nat → Nat → Nat) (ya ms ju li ct tg fw : Nat) (a1 a2 a3 : Int32) (cL : ClassId) (ou : Nat) (of9 : Nat → Int64) (sz : Nat) : vx_Met l yL_forge wsL_forge ({ frames := 8, cells := 1, slots := 6, locals := 147 }) (va_Pc [.ref ya, .int a1, .int a2, .int a3, .ref ou] (cPCz (zX) dC dI [(ya, .inr (16, [.ref ms, .int 0, .ref ju, .ref li, .ref ct, .ref tg, .ref fw])), (ou, .inl (cL, 1, .inr (.inl of9)))] [(cL, .long)] sz)) (va_Qi (fun (r : Int32) (u : Nat → Int64) => r = 1) (fun (u : Nat → Int64) t => cQB dC dI [(ou, .inl (cL, 1, .inr (.inl u)))] [(cL, .long)] (va_A [(ya, .inr (16, [.ref ms, .int 0, .ref ju, .ref li, .ref ct, .ref tg, .ref fw])), (ou, .inl (cL, 1, .inr (.inl of9)))] sz) t) (va_A [(ya, .inr (16, [.ref ms, .int 0, .ref ju, .ref li, .ref ct, .ref tg, .ref fw])), (ou, .inl (cL, 1, .inr (.inl of9)))] sz)) (vx_X (fun (_ : Unit) => True) (fun (E9 : String) (_ : Unit) (_ : State) => False) (va_A [(ya, .inr (16, [.ref ms, .int 0, .ref ju, .ref li, .ref ct, .ref tg, .ref fw])), (ou, .inl (cL, 1, .inr (.inl of9)))] sz)) 1 6 (va_A [(ya, .inr (16, [.ref ms, .int 0, .ref ju, .ref li, .ref ct, .ref tg, .ref fw])), (ou, .inl (cL, 1, .inr (.inl of9)))] sz) := by
  refine vx_ofWH (cc := cL_forge) (maxL := 6) (ret := (some .int)) (hh := [(0, 12, 15, 21), (0, 12, 19, 13), (0, 12, 23, 27)]) (by decide) rfl ?_
  intro p e s m args below meth c s₁ B hml hv
  obtain ⟨rfl, ⟨hsz, hP, hK, hD0, hN⟩, hZ⟩ := hv
  have hx := B.exec
  have hb := B.bytes
  have hr := B.returns
  have hts := atoms_spec (ws := wsL_forge) B.pre
  have hown : s.vm.findClass RL = some m.cls := findClass_of_methodNamed B.named
  have hlocks := B.notSynchronized
  subst hsz
  have hD := hD0.self (sz := s.heap.size)
  generalize hAe : va_A [(ya, .inr (16, [.ref ms, .int 0, .ref ju, .ref li, .ref ct, .ref tg, .ref fw])), (ou, .inl (cL, 1, .inr (.inl of9)))] s.heap.size = A at hD hZ ⊢
  have hA : ∀ q : Nat, s.heap.size ≤ q → A q := fun q h => by rw [← hAe]; exact Or.inr h
  have hS : va_S A s.heap s.heap [] := va_S.rf
  have hP : va_P (dC, dI) vwCl [(ya, .inr (16, [.ref ms, .int 0, .ref ju, .ref li, .ref ct, .ref tg, .ref fw])), (ou, .inl (cL, 1, .inr (.inl of9)))] s.heap := hP
  have hD : va_D A [(ya, .inr (16, [.ref ms, .int 0, .ref ju, .ref li, .ref ct, .ref tg, .ref fw])), (ou, .inl (cL, 1, .inr (.inl of9)))] := hD
  have hl := lv_entry ([.ref ya, .int a1, .int a2, .int a3, .ref ou]) (n := 6) (Nat.le_of_ble_eq_true rfl)
  rw [lg_entry_eq]
  generalize (lg_sl ([.ref ya, .int a1, .int a2, .int a3, .ref ou]) ++ List.replicate (6 - (lg_sl ([.ref ya, .int a1, .int a2, .int a3, .ref ou])).length) Slot.unset).toArray = ls at hl ⊢
  have hl : lv_has ls 6 [(0, .ref ya), (1, .int a1), (2, .int a2), (3, .int a3), (4, .ref ou)] := hl
  have htab : c.exceptionTable.toList = tableOf [(0, 12, 15, 21), (0, 12, 19, 13), (0, 12, 23, 27)] := vx_table B (hts (.codeWith yL_forge cL_forge 6 (some .int) [(0, 12, 15, 21), (0, 12, 19, 13), (0, 12, 23, 27)]) (show _ ∈ wsL_forge from List.mem_cons_self))
  refine lv_aload hx hb dL_forge_0 (lv_at hl 4 rfl) ?_
  refine lv_iconst (v := 0) hx hb dL_forge_2 (by decide) ?_
  refine lv_aload_n hx hb dL_forge_3 rfl (lv_at hl 0 rfl) ?_
  refine lv_iload_n hx hb dL_forge_4 rfl (lv_at hl 1 rfl) ?_
  refine lv_iload_n hx hb dL_forge_5 rfl (lv_at hl 2 rfl) ?_
  refine lv_iload_n hx hb dL_forge_6 rfl (lv_at hl 3 rfl) ?_
  have hPc := hP.sub (ws' := [(ya, .inr (16, [.ref ms, .int 0, .ref ju, .ref li, .ref ct, .ref tg, .ref fw]))]) [0] rfl
  have hDc := hD.sub (ws' := [(ya, .inr (16, [.ref ms, .int 0, .ref ju, .ref li, .ref ct, .ref tg, .ref fw]))]) [0] (by decide) rfl
  have hKc := hK.sub (tys' := []) [] rfl
  have hFc := va_free (wc := [(ya, .inr (16, [.ref ms, .int 0, .ref ju, .ref li, .ref ct, .ref tg, .ref fw]))]) hD hS hA [0] rfl
  refine vx_callX (vx_runV (As := [.int a1, .int a2, .int a3]) (rest := [.int 0, .ref ou]) ⟨hx, hb, hml, hown, hts⟩ (c_X11_forge l hfl dC dI ya ms ju li ct tg fw a1 a2 a3 s.heap.size) (cwV 3 hts gL_forge_X11_forge rfl rfl rfl (by decide +kernel) ⟨Nat.le_of_ble_eq_true rfl, Nat.le_of_ble_eq_true rfl⟩) (pcVz (zX_ok) hPc hDc hKc hN hZ hS hFc (ci := 16) (q0 := 0) rfl rfl) rfl rfl hl.1 rfl (lv_room (Nat.le_of_ble_eq_true rfl)) dL_forge_7 ⟨Nat.le_of_ble_eq_true rfl, Nat.le_of_ble_eq_true rfl⟩) hS hFc (fun q _ h => hFc q h) (fun _ _ _ h => h) (fun E9 ce9 q9 u9 t9 H9 locs9 ht9 hvm9 hp9 hE9 hz9 hk9 hS9 hc9 hv9 hcl9 => ?_)
  subst hE9
  refine vx_catch (name := "java/lang/IndexOutOfBoundsException") hown [] ⟨0, 12, 15, 21⟩ [⟨0, 12, 19, 13⟩, ⟨0, 12, 23, 27⟩] htab (fun z hz => by cases hz) (by decide) (by decide) (hts (.classLink RL 21 "java/lang/IndexOutOfBoundsException") (by decide +kernel)) (zX_use hZ (.castable "java/lang/IndexOutOfBoundsException" "java/lang/IndexOutOfBoundsException") (by decide)) hc9 hv9 hcl9 ?_
  refine W.eq (g2 := F0 m 15 ls [.ref q9]) rfl ?_
  obtain ⟨hP, hD⟩ := va_join (wr := [(ou, .inl (cL, 1, .inr (.inl of9)))]) (w1 := []) hP hD [0] [1] rfl rfl (by decide) (by decide) hk9 hFc P_nil D_nil
  have hS := hS9
  generalize H9 = H at hP hS ⊢
  have hP : va_P (dC, dI) vwCl [(ou, .inl (cL, 1, .inr (.inl of9)))] H := hP
  have hD : va_D A [(ou, .inl (cL, 1, .inr (.inl of9)))] := hD
  refine W.widen (k := 1) (n := 6) (Nat.le_of_ble_eq_true rfl) (Nat.le_of_ble_eq_true rfl) ?_
  refine lv_astore (lv' := [(5, .ref q9), (0, .ref ya), (1, .int a1), (2, .int a2), (3, .int a3), (4, .ref ou)]) hx hb dL_forge_15 hl (by decide) rfl (fun ls hl => ?_)
  refine lv_iconst (v := 1) hx hb dL_forge_17 (by decide) ?_
  refine vx_ret ?_
  have hP9 := hP.sub (ws' := [(ou, .inl (cL, 1, .inr (.inl of9)))]) [0] rfl
  have hD9 := hD.sub (ws' := [(ou, .inl (cL, 1, .inr (.inl of9)))]) [0] (by decide) rfl
  have hK9 := hK.sub (tys' := [(cL, .long)]) [0] rfl
  exact W.iret (v := 1) hx hb hr (fun t ht hW => ⟨⟨1, of9, rfl, rfl, ⟨by rw [ht]; exact hP9, va_K.moved hW.alike hK9, hD9⟩⟩, hS.F ht⟩) hS.2.2 dL_forge_18

set_option maxHeartbeats 4000000 in
set_option maxRecDepth 100000 in
/-- L_passes -/
theorem c_L_passes (l : Launch) (hfl : l.stackTraces = false) (dC : Nat → ClassId) (dI : Nat → Nat → Nat) (ya ms ju li ct tg fw : Nat) (a1 : Int32) (cL : ClassId) (ou : Nat) (of9 : Nat → Int64) (sz : Nat) : vx_Met l yL_passes wsL_passes ({ frames := 8, cells := 1, slots := 6, locals := 143 }) (va_Pc [.ref ya, .int a1, .ref ou] (cPCz (zX) dC dI [(ya, .inr (16, [.ref ms, .int 0, .ref ju, .ref li, .ref ct, .ref tg, .ref fw])), (ou, .inl (cL, 1, .inr (.inl of9)))] [(cL, .long)] sz)) (va_Qi (fun (r : Int32) (u : Nat → Int64) => r = 1) (fun (u : Nat → Int64) t => cQB dC dI [(ou, .inl (cL, 1, .inr (.inl u)))] [(cL, .long)] (va_A [(ya, .inr (16, [.ref ms, .int 0, .ref ju, .ref li, .ref ct, .ref tg, .ref fw])), (ou, .inl (cL, 1, .inr (.inl of9)))] sz) t) (va_A [(ya, .inr (16, [.ref ms, .int 0, .ref ju, .ref li, .ref ct, .ref tg, .ref fw])), (ou, .inl (cL, 1, .inr (.inl of9)))] sz)) (vx_X (fun (_ : Unit) => True) (fun (E9 : String) (_ : Unit) (_ : State) => False) (va_A [(ya, .inr (16, [.ref ms, .int 0, .ref ju, .ref li, .ref ct, .ref tg, .ref fw])), (ou, .inl (cL, 1, .inr (.inl of9)))] sz)) 1 6 (va_A [(ya, .inr (16, [.ref ms, .int 0, .ref ju, .ref li, .ref ct, .ref tg, .ref fw])), (ou, .inl (cL, 1, .inr (.inl of9)))] sz) := by
  refine vx_ofWH (cc := cL_passes) (maxL := 4) (ret := (some .int)) (hh := [(0, 16, 19, 21)]) (by decide) rfl ?_
  intro p e s m args below meth c s₁ B hml hv
  obtain ⟨rfl, ⟨hsz, hP, hK, hD0, hN⟩, hZ⟩ := hv
  have hx := B.exec
  have hb := B.bytes
  have hr := B.returns
  have hts := atoms_spec (ws := wsL_passes) B.pre
  have hown : s.vm.findClass RL = some m.cls := findClass_of_methodNamed B.named
  have hlocks := B.notSynchronized
  subst hsz
  have hD := hD0.self (sz := s.heap.size)
  generalize hAe : va_A [(ya, .inr (16, [.ref ms, .int 0, .ref ju, .ref li, .ref ct, .ref tg, .ref fw])), (ou, .inl (cL, 1, .inr (.inl of9)))] s.heap.size = A at hD hZ ⊢
  have hA : ∀ q : Nat, s.heap.size ≤ q → A q := fun q h => by rw [← hAe]; exact Or.inr h
  have hS : va_S A s.heap s.heap [] := va_S.rf
  have hP : va_P (dC, dI) vwCl [(ya, .inr (16, [.ref ms, .int 0, .ref ju, .ref li, .ref ct, .ref tg, .ref fw])), (ou, .inl (cL, 1, .inr (.inl of9)))] s.heap := hP
  have hD : va_D A [(ya, .inr (16, [.ref ms, .int 0, .ref ju, .ref li, .ref ct, .ref tg, .ref fw])), (ou, .inl (cL, 1, .inr (.inl of9)))] := hD
  have hl := lv_entry ([.ref ya, .int a1, .ref ou]) (n := 4) (Nat.le_of_ble_eq_true rfl)
  rw [lg_entry_eq]
  generalize (lg_sl ([.ref ya, .int a1, .ref ou]) ++ List.replicate (4 - (lg_sl ([.ref ya, .int a1, .ref ou])).length) Slot.unset).toArray = ls at hl ⊢
  have hl : lv_has ls 4 [(0, .ref ya), (1, .int a1), (2, .ref ou)] := hl
  have htab : c.exceptionTable.toList = tableOf [(0, 16, 19, 21)] := vx_table B (hts (.codeWith yL_passes cL_passes 4 (some .int) [(0, 16, 19, 21)]) (show _ ∈ wsL_passes from List.mem_cons_self))
  refine lv_aload_n hx hb dL_passes_0 rfl (lv_at hl 2 rfl) ?_
  refine lv_iconst (v := 0) hx hb dL_passes_1 (by decide) ?_
  refine lv_aload_n hx hb dL_passes_2 rfl (lv_at hl 0 rfl) ?_
  refine lv_iload_n hx hb dL_passes_3 rfl (lv_at hl 1 rfl) ?_
  have hPc := hP.sub (ws' := [(ya, .inr (16, [.ref ms, .int 0, .ref ju, .ref li, .ref ct, .ref tg, .ref fw]))]) [0] rfl
  have hDc := hD.sub (ws' := [(ya, .inr (16, [.ref ms, .int 0, .ref ju, .ref li, .ref ct, .ref tg, .ref fw]))]) [0] (by decide) rfl
  have hKc := hK.sub (tys' := []) [] rfl
  have hFc := va_free (wc := [(ya, .inr (16, [.ref ms, .int 0, .ref ju, .ref li, .ref ct, .ref tg, .ref fw]))]) hD hS hA [0] rfl
  refine vx_callX (vx_runV (As := [.int a1]) (rest := [.int 0, .ref ou]) ⟨hx, hb, hml, hown, hts⟩ (c_X11_passes l hfl dC dI ya ms ju li ct tg fw a1 s.heap.size) (cwV 1 hts gL_passes_X11_passes rfl rfl rfl (by decide +kernel) ⟨Nat.le_of_ble_eq_true rfl, Nat.le_of_ble_eq_true rfl⟩) (pcVz (zX_ok) hPc hDc hKc hN hZ hS hFc (ci := 16) (q0 := 0) rfl rfl) rfl rfl hl.1 rfl (lv_room (Nat.le_of_ble_eq_true rfl)) dL_passes_4 ⟨Nat.le_of_ble_eq_true rfl, Nat.le_of_ble_eq_true rfl⟩) hS hFc (fun q _ h => hFc q h) (fun _ _ _ h => h) (fun E9 ce9 q9 u9 t9 H9 locs9 ht9 hvm9 hp9 hE9 hz9 hk9 hS9 hc9 hv9 hcl9 => ?_)
  subst hE9
  refine vx_catch (name := "java/lang/IndexOutOfBoundsException") hown [] ⟨0, 16, 19, 21⟩ [] htab (fun z hz => by cases hz) (by decide) (by decide) (hts (.classLink RL 21 "java/lang/IndexOutOfBoundsException") (by decide +kernel)) (zX_use hZ (.castable "java/lang/IndexOutOfBoundsException" "java/lang/IndexOutOfBoundsException") (by decide)) hc9 hv9 hcl9 ?_
  refine W.eq (g2 := F0 m 19 ls [.ref q9]) rfl ?_
  obtain ⟨hP, hD⟩ := va_join (wr := [(ou, .inl (cL, 1, .inr (.inl of9)))]) (w1 := []) hP hD [0] [1] rfl rfl (by decide) (by decide) hk9 hFc P_nil D_nil
  have hS := hS9
  generalize H9 = H at hP hS ⊢
  have hP : va_P (dC, dI) vwCl [(ou, .inl (cL, 1, .inr (.inl of9)))] H := hP
  have hD : va_D A [(ou, .inl (cL, 1, .inr (.inl of9)))] := hD
  refine W.widen (k := 1) (n := 6) (Nat.le_of_ble_eq_true rfl) (Nat.le_of_ble_eq_true rfl) ?_
  refine lv_astore_n (lv' := [(3, .ref q9), (0, .ref ya), (1, .int a1), (2, .ref ou)]) hx hb dL_passes_19 rfl hl (by decide) rfl (fun ls hl => ?_)
  refine lv_iconst (v := 1) hx hb dL_passes_20 (by decide) ?_
  refine vx_ret ?_
  have hP9 := hP.sub (ws' := [(ou, .inl (cL, 1, .inr (.inl of9)))]) [0] rfl
  have hD9 := hD.sub (ws' := [(ou, .inl (cL, 1, .inr (.inl of9)))]) [0] (by decide) rfl
  have hK9 := hK.sub (tys' := [(cL, .long)]) [0] rfl
  exact W.iret (v := 1) hx hb hr (fun t ht hW => ⟨⟨1, of9, rfl, rfl, ⟨by rw [ht]; exact hP9, va_K.moved hW.alike hK9, hD9⟩⟩, hS.F ht⟩) hS.2.2 dL_passes_21

set_option maxHeartbeats 4000000 in
set_option maxRecDepth 100000 in
/-- L_ways -/
theorem c_L_ways (l : Launch) (hfl : l.stackTraces = false) (dC : Nat → ClassId) (dI : Nat → Nat → Nat) (ya ms ju li ct tg fw : Nat) (a1 a2 : Int32) (cL : ClassId) (ou : Nat) (of9 : Nat → Int64) (sz : Nat) : vx_Met l yL_ways wsL_ways ({ frames := 8, cells := 1, slots := 6, locals := 145 }) (va_Pc [.ref ya, .int a1, .int a2, .ref ou] (cPCz (zX) dC dI [(ya, .inr (16, [.ref ms, .int 0, .ref ju, .ref li, .ref ct, .ref tg, .ref fw])), (ou, .inl (cL, 1, .inr (.inl of9)))] [(cL, .long)] sz)) (va_Qi (fun (r : Int32) (u : Nat → Int64) => r = 1) (fun (u : Nat → Int64) t => cQB dC dI [(ou, .inl (cL, 1, .inr (.inl u)))] [(cL, .long)] (va_A [(ya, .inr (16, [.ref ms, .int 0, .ref ju, .ref li, .ref ct, .ref tg, .ref fw])), (ou, .inl (cL, 1, .inr (.inl of9)))] sz) t) (va_A [(ya, .inr (16, [.ref ms, .int 0, .ref ju, .ref li, .ref ct, .ref tg, .ref fw])), (ou, .inl (cL, 1, .inr (.inl of9)))] sz)) (vx_X (fun (_ : Unit) => True) (fun (E9 : String) (_ : Unit) (_ : State) => False) (va_A [(ya, .inr (16, [.ref ms, .int 0, .ref ju, .ref li, .ref ct, .ref tg, .ref fw])), (ou, .inl (cL, 1, .inr (.inl of9)))] sz)) 1 6 (va_A [(ya, .inr (16, [.ref ms, .int 0, .ref ju, .ref li, .ref ct, .ref tg, .ref fw])), (ou, .inl (cL, 1, .inr (.inl of9)))] sz) := by
  refine vx_ofWH (cc := cL_ways) (maxL := 5) (ret := (some .int)) (hh := [(0, 10, 13, 21), (0, 10, 17, 13)]) (by decide) rfl ?_
  intro p e s m args below meth c s₁ B hml hv
  obtain ⟨rfl, ⟨hsz, hP, hK, hD0, hN⟩, hZ⟩ := hv
  have hx := B.exec
  have hb := B.bytes
  have hr := B.returns
  have hts := atoms_spec (ws := wsL_ways) B.pre
  have hown : s.vm.findClass RL = some m.cls := findClass_of_methodNamed B.named
  have hlocks := B.notSynchronized
  subst hsz
  have hD := hD0.self (sz := s.heap.size)
  generalize hAe : va_A [(ya, .inr (16, [.ref ms, .int 0, .ref ju, .ref li, .ref ct, .ref tg, .ref fw])), (ou, .inl (cL, 1, .inr (.inl of9)))] s.heap.size = A at hD hZ ⊢
  have hA : ∀ q : Nat, s.heap.size ≤ q → A q := fun q h => by rw [← hAe]; exact Or.inr h
  have hS : va_S A s.heap s.heap [] := va_S.rf
  have hP : va_P (dC, dI) vwCl [(ya, .inr (16, [.ref ms, .int 0, .ref ju, .ref li, .ref ct, .ref tg, .ref fw])), (ou, .inl (cL, 1, .inr (.inl of9)))] s.heap := hP
  have hD : va_D A [(ya, .inr (16, [.ref ms, .int 0, .ref ju, .ref li, .ref ct, .ref tg, .ref fw])), (ou, .inl (cL, 1, .inr (.inl of9)))] := hD
  have hl := lv_entry ([.ref ya, .int a1, .int a2, .ref ou]) (n := 5) (Nat.le_of_ble_eq_true rfl)
  rw [lg_entry_eq]
  generalize (lg_sl ([.ref ya, .int a1, .int a2, .ref ou]) ++ List.replicate (5 - (lg_sl ([.ref ya, .int a1, .int a2, .ref ou])).length) Slot.unset).toArray = ls at hl ⊢
  have hl : lv_has ls 5 [(0, .ref ya), (1, .int a1), (2, .int a2), (3, .ref ou)] := hl
  have htab : c.exceptionTable.toList = tableOf [(0, 10, 13, 21), (0, 10, 17, 13)] := vx_table B (hts (.codeWith yL_ways cL_ways 5 (some .int) [(0, 10, 13, 21), (0, 10, 17, 13)]) (show _ ∈ wsL_ways from List.mem_cons_self))
  refine lv_aload_n hx hb dL_ways_0 rfl (lv_at hl 3 rfl) ?_
  refine lv_iconst (v := 0) hx hb dL_ways_1 (by decide) ?_
  refine lv_aload_n hx hb dL_ways_2 rfl (lv_at hl 0 rfl) ?_
  refine lv_iload_n hx hb dL_ways_3 rfl (lv_at hl 1 rfl) ?_
  refine lv_iload_n hx hb dL_ways_4 rfl (lv_at hl 2 rfl) ?_
  have hPc := hP.sub (ws' := [(ya, .inr (16, [.ref ms, .int 0, .ref ju, .ref li, .ref ct, .ref tg, .ref fw]))]) [0] rfl
  have hDc := hD.sub (ws' := [(ya, .inr (16, [.ref ms, .int 0, .ref ju, .ref li, .ref ct, .ref tg, .ref fw]))]) [0] (by decide) rfl
  have hKc := hK.sub (tys' := []) [] rfl
  have hFc := va_free (wc := [(ya, .inr (16, [.ref ms, .int 0, .ref ju, .ref li, .ref ct, .ref tg, .ref fw]))]) hD hS hA [0] rfl
  refine vx_callX (vx_runV (As := [.int a1, .int a2]) (rest := [.int 0, .ref ou]) ⟨hx, hb, hml, hown, hts⟩ (c_X11_ways l hfl dC dI ya ms ju li ct tg fw a1 a2 s.heap.size) (cwV 2 hts gL_ways_X11_ways rfl rfl rfl (by decide +kernel) ⟨Nat.le_of_ble_eq_true rfl, Nat.le_of_ble_eq_true rfl⟩) (pcVz (zX_ok) hPc hDc hKc hN hZ hS hFc (ci := 16) (q0 := 0) rfl rfl) rfl rfl hl.1 rfl (lv_room (Nat.le_of_ble_eq_true rfl)) dL_ways_5 ⟨Nat.le_of_ble_eq_true rfl, Nat.le_of_ble_eq_true rfl⟩) hS hFc (fun q _ h => hFc q h) (fun _ _ _ h => h) (fun E9 ce9 q9 u9 t9 H9 locs9 ht9 hvm9 hp9 hE9 hz9 hk9 hS9 hc9 hv9 hcl9 => ?_)
  subst hE9
  refine vx_catch (name := "java/lang/IndexOutOfBoundsException") hown [] ⟨0, 10, 13, 21⟩ [⟨0, 10, 17, 13⟩] htab (fun z hz => by cases hz) (by decide) (by decide) (hts (.classLink RL 21 "java/lang/IndexOutOfBoundsException") (by decide +kernel)) (zX_use hZ (.castable "java/lang/IndexOutOfBoundsException" "java/lang/IndexOutOfBoundsException") (by decide)) hc9 hv9 hcl9 ?_
  refine W.eq (g2 := F0 m 13 ls [.ref q9]) rfl ?_
  obtain ⟨hP, hD⟩ := va_join (wr := [(ou, .inl (cL, 1, .inr (.inl of9)))]) (w1 := []) hP hD [0] [1] rfl rfl (by decide) (by decide) hk9 hFc P_nil D_nil
  have hS := hS9
  generalize H9 = H at hP hS ⊢
  have hP : va_P (dC, dI) vwCl [(ou, .inl (cL, 1, .inr (.inl of9)))] H := hP
  have hD : va_D A [(ou, .inl (cL, 1, .inr (.inl of9)))] := hD
  refine W.widen (k := 1) (n := 6) (Nat.le_of_ble_eq_true rfl) (Nat.le_of_ble_eq_true rfl) ?_
  refine lv_astore (lv' := [(4, .ref q9), (0, .ref ya), (1, .int a1), (2, .int a2), (3, .ref ou)]) hx hb dL_ways_13 hl (by decide) rfl (fun ls hl => ?_)
  refine lv_iconst (v := 1) hx hb dL_ways_15 (by decide) ?_
  refine vx_ret ?_
  have hP9 := hP.sub (ws' := [(ou, .inl (cL, 1, .inr (.inl of9)))]) [0] rfl
  have hD9 := hD.sub (ws' := [(ou, .inl (cL, 1, .inr (.inl of9)))]) [0] (by decide) rfl
  have hK9 := hK.sub (tys' := [(cL, .long)]) [0] rfl
  exact W.iret (v := 1) hx hb hr (fun t ht hW => ⟨⟨1, of9, rfl, rfl, ⟨by rw [ht]; exact hP9, va_K.moved hW.alike hK9, hD9⟩⟩, hS.F ht⟩) hS.2.2 dL_ways_16

set_option maxHeartbeats 4000000 in
set_option maxRecDepth 100000 in
/-- L_tell -/
theorem c_L_tell (l : Launch) (hfl : l.stackTraces = false) (dC : Nat → ClassId) (dI : Nat → Nat → Nat) (ya ms ju li ct tg fw : Nat) (a1 a2 a3 : Int32) (cL : ClassId) (ou : Nat) (of9 : Nat → Int64) (sz : Nat) : vx_Met l yL_tell wsL_tell ({ frames := 8, cells := 1, slots := 6, locals := 146 }) (va_Pc [.ref ya, .int a1, .int a2, .int a3, .ref ou] (cPCz (zX) dC dI [(ya, .inr (16, [.ref ms, .int 0, .ref ju, .ref li, .ref ct, .ref tg, .ref fw])), (ou, .inl (cL, 1, .inr (.inl of9)))] [(cL, .long)] sz)) (va_Qi (fun (r : Int32) (u : Nat → Int64) => r = 1) (fun (u : Nat → Int64) t => cQB dC dI [(ou, .inl (cL, 1, .inr (.inl u)))] [(cL, .long)] (va_A [(ya, .inr (16, [.ref ms, .int 0, .ref ju, .ref li, .ref ct, .ref tg, .ref fw])), (ou, .inl (cL, 1, .inr (.inl of9)))] sz) t) (va_A [(ya, .inr (16, [.ref ms, .int 0, .ref ju, .ref li, .ref ct, .ref tg, .ref fw])), (ou, .inl (cL, 1, .inr (.inl of9)))] sz)) (vx_X (fun (_ : Unit) => True) (fun (E9 : String) (_ : Unit) (_ : State) => False) (va_A [(ya, .inr (16, [.ref ms, .int 0, .ref ju, .ref li, .ref ct, .ref tg, .ref fw])), (ou, .inl (cL, 1, .inr (.inl of9)))] sz)) 1 6 (va_A [(ya, .inr (16, [.ref ms, .int 0, .ref ju, .ref li, .ref ct, .ref tg, .ref fw])), (ou, .inl (cL, 1, .inr (.inl of9)))] sz) := by
  refine vx_ofWH (cc := cL_tell) (maxL := 6) (ret := (some .int)) (hh := [(0, 12, 15, 21), (0, 12, 19, 13)]) (by decide) rfl ?_
  intro p e s m args below meth c s₁ B hml hv
  obtain ⟨rfl, ⟨hsz, hP, hK, hD0, hN⟩, hZ⟩ := hv
  have hx := B.exec
  have hb := B.bytes
  have hr := B.returns
  have hts := atoms_spec (ws := wsL_tell) B.pre
  have hown : s.vm.findClass RL = some m.cls := findClass_of_methodNamed B.named
  have hlocks := B.notSynchronized
  subst hsz
  have hD := hD0.self (sz := s.heap.size)
  generalize hAe : va_A [(ya, .inr (16, [.ref ms, .int 0, .ref ju, .ref li, .ref ct, .ref tg, .ref fw])), (ou, .inl (cL, 1, .inr (.inl of9)))] s.heap.size = A at hD hZ ⊢
  have hA : ∀ q : Nat, s.heap.size ≤ q → A q := fun q h => by rw [← hAe]; exact Or.inr h
  have hS : va_S A s.heap s.heap [] := va_S.rf
  have hP : va_P (dC, dI) vwCl [(ya, .inr (16, [.ref ms, .int 0, .ref ju, .ref li, .ref ct, .ref tg, .ref fw])), (ou, .inl (cL, 1, .inr (.inl of9)))] s.heap := hP
  have hD : va_D A [(ya, .inr (16, [.ref ms, .int 0, .ref ju, .ref li, .ref ct, .ref tg, .ref fw])), (ou, .inl (cL, 1, .inr (.inl of9)))] := hD
  have hl := lv_entry ([.ref ya, .int a1, .int a2, .int a3, .ref ou]) (n := 6) (Nat.le_of_ble_eq_true rfl)
  rw [lg_entry_eq]
  generalize (lg_sl ([.ref ya, .int a1, .int a2, .int a3, .ref ou]) ++ List.replicate (6 - (lg_sl ([.ref ya, .int a1, .int a2, .int a3, .ref ou])).length) Slot.unset).toArray = ls at hl ⊢
  have hl : lv_has ls 6 [(0, .ref ya), (1, .int a1), (2, .int a2), (3, .int a3), (4, .ref ou)] := hl
  have htab : c.exceptionTable.toList = tableOf [(0, 12, 15, 21), (0, 12, 19, 13)] := vx_table B (hts (.codeWith yL_tell cL_tell 6 (some .int) [(0, 12, 15, 21), (0, 12, 19, 13)]) (show _ ∈ wsL_tell from List.mem_cons_self))
  refine lv_aload hx hb dL_tell_0 (lv_at hl 4 rfl) ?_
  refine lv_iconst (v := 0) hx hb dL_tell_2 (by decide) ?_
  refine lv_aload_n hx hb dL_tell_3 rfl (lv_at hl 0 rfl) ?_
  refine lv_iload_n hx hb dL_tell_4 rfl (lv_at hl 1 rfl) ?_
  refine lv_iload_n hx hb dL_tell_5 rfl (lv_at hl 2 rfl) ?_
  refine lv_iload_n hx hb dL_tell_6 rfl (lv_at hl 3 rfl) ?_
  have hPc := hP.sub (ws' := [(ya, .inr (16, [.ref ms, .int 0, .ref ju, .ref li, .ref ct, .ref tg, .ref fw]))]) [0] rfl
  have hDc := hD.sub (ws' := [(ya, .inr (16, [.ref ms, .int 0, .ref ju, .ref li, .ref ct, .ref tg, .ref fw]))]) [0] (by decide) rfl
  have hKc := hK.sub (tys' := []) [] rfl
  have hFc := va_free (wc := [(ya, .inr (16, [.ref ms, .int 0, .ref ju, .ref li, .ref ct, .ref tg, .ref fw]))]) hD hS hA [0] rfl
  refine vx_callX (vx_runV (As := [.int a1, .int a2, .int a3]) (rest := [.int 0, .ref ou]) ⟨hx, hb, hml, hown, hts⟩ (c_X11_tell l hfl dC dI ya ms ju li ct tg fw a1 a2 a3 s.heap.size) (cwV 3 hts gL_tell_X11_tell rfl rfl rfl (by decide +kernel) ⟨Nat.le_of_ble_eq_true rfl, Nat.le_of_ble_eq_true rfl⟩) (pcVz (zX_ok) hPc hDc hKc hN hZ hS hFc (ci := 16) (q0 := 0) rfl rfl) rfl rfl hl.1 rfl (lv_room (Nat.le_of_ble_eq_true rfl)) dL_tell_7 ⟨Nat.le_of_ble_eq_true rfl, Nat.le_of_ble_eq_true rfl⟩) hS hFc (fun q _ h => hFc q h) (fun _ _ _ h => h) (fun E9 ce9 q9 u9 t9 H9 locs9 ht9 hvm9 hp9 hE9 hz9 hk9 hS9 hc9 hv9 hcl9 => ?_)
  subst hE9
  refine vx_catch (name := "java/lang/IndexOutOfBoundsException") hown [] ⟨0, 12, 15, 21⟩ [⟨0, 12, 19, 13⟩] htab (fun z hz => by cases hz) (by decide) (by decide) (hts (.classLink RL 21 "java/lang/IndexOutOfBoundsException") (by decide +kernel)) (zX_use hZ (.castable "java/lang/IndexOutOfBoundsException" "java/lang/IndexOutOfBoundsException") (by decide)) hc9 hv9 hcl9 ?_
  refine W.eq (g2 := F0 m 15 ls [.ref q9]) rfl ?_
  obtain ⟨hP, hD⟩ := va_join (wr := [(ou, .inl (cL, 1, .inr (.inl of9)))]) (w1 := []) hP hD [0] [1] rfl rfl (by decide) (by decide) hk9 hFc P_nil D_nil
  have hS := hS9
  generalize H9 = H at hP hS ⊢
  have hP : va_P (dC, dI) vwCl [(ou, .inl (cL, 1, .inr (.inl of9)))] H := hP
  have hD : va_D A [(ou, .inl (cL, 1, .inr (.inl of9)))] := hD
  refine W.widen (k := 1) (n := 6) (Nat.le_of_ble_eq_true rfl) (Nat.le_of_ble_eq_true rfl) ?_
  refine lv_astore (lv' := [(5, .ref q9), (0, .ref ya), (1, .int a1), (2, .int a2), (3, .int a3), (4, .ref ou)]) hx hb dL_tell_15 hl (by decide) rfl (fun ls hl => ?_)
  refine lv_iconst (v := 1) hx hb dL_tell_17 (by decide) ?_
  refine vx_ret ?_
  have hP9 := hP.sub (ws' := [(ou, .inl (cL, 1, .inr (.inl of9)))]) [0] rfl
  have hD9 := hD.sub (ws' := [(ou, .inl (cL, 1, .inr (.inl of9)))]) [0] (by decide) rfl
  have hK9 := hK.sub (tys' := [(cL, .long)]) [0] rfl
  exact W.iret (v := 1) hx hb hr (fun t ht hW => ⟨⟨1, of9, rfl, rfl, ⟨by rw [ht]; exact hP9, va_K.moved hW.alike hK9, hD9⟩⟩, hS.F ht⟩) hS.2.2 dL_tell_18

set_option maxHeartbeats 4000000 in
set_option maxRecDepth 100000 in
/-- L_isDisputed -/
theorem c_L_isDisputed (l : Launch) (hfl : l.stackTraces = false) (dC : Nat → ClassId) (dI : Nat → Nat → Nat) (ya ms ju li ct tg fw : Nat) (a1 : Int32) (cL : ClassId) (ou : Nat) (of9 : Nat → Int64) (sz : Nat) : vx_Met l yL_isDisputed wsL_isDisputed ({ frames := 8, cells := 1, slots := 6, locals := 143 }) (va_Pc [.ref ya, .int a1, .ref ou] (cPCz (zX) dC dI [(ya, .inr (16, [.ref ms, .int 0, .ref ju, .ref li, .ref ct, .ref tg, .ref fw])), (ou, .inl (cL, 1, .inr (.inl of9)))] [(cL, .long)] sz)) (va_Qi (fun (r : Int32) (u : Nat → Int64) => r = 1) (fun (u : Nat → Int64) t => cQB dC dI [(ou, .inl (cL, 1, .inr (.inl u)))] [(cL, .long)] (va_A [(ya, .inr (16, [.ref ms, .int 0, .ref ju, .ref li, .ref ct, .ref tg, .ref fw])), (ou, .inl (cL, 1, .inr (.inl of9)))] sz) t) (va_A [(ya, .inr (16, [.ref ms, .int 0, .ref ju, .ref li, .ref ct, .ref tg, .ref fw])), (ou, .inl (cL, 1, .inr (.inl of9)))] sz)) (vx_X (fun (_ : Unit) => True) (fun (E9 : String) (_ : Unit) (_ : State) => False) (va_A [(ya, .inr (16, [.ref ms, .int 0, .ref ju, .ref li, .ref ct, .ref tg, .ref fw])), (ou, .inl (cL, 1, .inr (.inl of9)))] sz)) 1 6 (va_A [(ya, .inr (16, [.ref ms, .int 0, .ref ju, .ref li, .ref ct, .ref tg, .ref fw])), (ou, .inl (cL, 1, .inr (.inl of9)))] sz) := by
  refine vx_ofWH (cc := cL_isDisputed) (maxL := 4) (ret := (some .int)) (hh := [(0, 16, 19, 21)]) (by decide) rfl ?_
  intro p e s m args below meth c s₁ B hml hv
  obtain ⟨rfl, ⟨hsz, hP, hK, hD0, hN⟩, hZ⟩ := hv
  have hx := B.exec
  have hb := B.bytes
  have hr := B.returns
  have hts := atoms_spec (ws := wsL_isDisputed) B.pre
  have hown : s.vm.findClass RL = some m.cls := findClass_of_methodNamed B.named
  have hlocks := B.notSynchronized
  subst hsz
  have hD := hD0.self (sz := s.heap.size)
  generalize hAe : va_A [(ya, .inr (16, [.ref ms, .int 0, .ref ju, .ref li, .ref ct, .ref tg, .ref fw])), (ou, .inl (cL, 1, .inr (.inl of9)))] s.heap.size = A at hD hZ ⊢
  have hA : ∀ q : Nat, s.heap.size ≤ q → A q := fun q h => by rw [← hAe]; exact Or.inr h
  have hS : va_S A s.heap s.heap [] := va_S.rf
  have hP : va_P (dC, dI) vwCl [(ya, .inr (16, [.ref ms, .int 0, .ref ju, .ref li, .ref ct, .ref tg, .ref fw])), (ou, .inl (cL, 1, .inr (.inl of9)))] s.heap := hP
  have hD : va_D A [(ya, .inr (16, [.ref ms, .int 0, .ref ju, .ref li, .ref ct, .ref tg, .ref fw])), (ou, .inl (cL, 1, .inr (.inl of9)))] := hD
  have hl := lv_entry ([.ref ya, .int a1, .ref ou]) (n := 4) (Nat.le_of_ble_eq_true rfl)
  rw [lg_entry_eq]
  generalize (lg_sl ([.ref ya, .int a1, .ref ou]) ++ List.replicate (4 - (lg_sl ([.ref ya, .int a1, .ref ou])).length) Slot.unset).toArray = ls at hl ⊢
  have hl : lv_has ls 4 [(0, .ref ya), (1, .int a1), (2, .ref ou)] := hl
  have htab : c.exceptionTable.toList = tableOf [(0, 16, 19, 21)] := vx_table B (hts (.codeWith yL_isDisputed cL_isDisputed 4 (some .int) [(0, 16, 19, 21)]) (show _ ∈ wsL_isDisputed from List.mem_cons_self))
  refine lv_aload_n hx hb dL_isDisputed_0 rfl (lv_at hl 2 rfl) ?_
  refine lv_iconst (v := 0) hx hb dL_isDisputed_1 (by decide) ?_
  refine lv_aload_n hx hb dL_isDisputed_2 rfl (lv_at hl 0 rfl) ?_
  refine lv_iload_n hx hb dL_isDisputed_3 rfl (lv_at hl 1 rfl) ?_
  have hPc := hP.sub (ws' := [(ya, .inr (16, [.ref ms, .int 0, .ref ju, .ref li, .ref ct, .ref tg, .ref fw]))]) [0] rfl
  have hDc := hD.sub (ws' := [(ya, .inr (16, [.ref ms, .int 0, .ref ju, .ref li, .ref ct, .ref tg, .ref fw]))]) [0] (by decide) rfl
  have hKc := hK.sub (tys' := []) [] rfl
  have hFc := va_free (wc := [(ya, .inr (16, [.ref ms, .int 0, .ref ju, .ref li, .ref ct, .ref tg, .ref fw]))]) hD hS hA [0] rfl
  refine vx_callX (vx_runV (As := [.int a1]) (rest := [.int 0, .ref ou]) ⟨hx, hb, hml, hown, hts⟩ (c_X11_isDisputed l hfl dC dI ya ms ju li ct tg fw a1 s.heap.size) (cwV 1 hts gL_isDisputed_X11_isDisputed rfl rfl rfl (by decide +kernel) ⟨Nat.le_of_ble_eq_true rfl, Nat.le_of_ble_eq_true rfl⟩) (pcVz (zX_ok) hPc hDc hKc hN hZ hS hFc (ci := 16) (q0 := 0) rfl rfl) rfl rfl hl.1 rfl (lv_room (Nat.le_of_ble_eq_true rfl)) dL_isDisputed_4 ⟨Nat.le_of_ble_eq_true rfl, Nat.le_of_ble_eq_true rfl⟩) hS hFc (fun q _ h => hFc q h) (fun _ _ _ h => h) (fun E9 ce9 q9 u9 t9 H9 locs9 ht9 hvm9 hp9 hE9 hz9 hk9 hS9 hc9 hv9 hcl9 => ?_)
  subst hE9
  refine vx_catch (name := "java/lang/IndexOutOfBoundsException") hown [] ⟨0, 16, 19, 21⟩ [] htab (fun z hz => by cases hz) (by decide) (by decide) (hts (.classLink RL 21 "java/lang/IndexOutOfBoundsException") (by decide +kernel)) (zX_use hZ (.castable "java/lang/IndexOutOfBoundsException" "java/lang/IndexOutOfBoundsException") (by decide)) hc9 hv9 hcl9 ?_
  refine W.eq (g2 := F0 m 19 ls [.ref q9]) rfl ?_
  obtain ⟨hP, hD⟩ := va_join (wr := [(ou, .inl (cL, 1, .inr (.inl of9)))]) (w1 := []) hP hD [0] [1] rfl rfl (by decide) (by decide) hk9 hFc P_nil D_nil
  have hS := hS9
  generalize H9 = H at hP hS ⊢
  have hP : va_P (dC, dI) vwCl [(ou, .inl (cL, 1, .inr (.inl of9)))] H := hP
  have hD : va_D A [(ou, .inl (cL, 1, .inr (.inl of9)))] := hD
  refine W.widen (k := 1) (n := 6) (Nat.le_of_ble_eq_true rfl) (Nat.le_of_ble_eq_true rfl) ?_
  refine lv_astore_n (lv' := [(3, .ref q9), (0, .ref ya), (1, .int a1), (2, .ref ou)]) hx hb dL_isDisputed_19 rfl hl (by decide) rfl (fun ls hl => ?_)
  refine lv_iconst (v := 1) hx hb dL_isDisputed_20 (by decide) ?_
  refine vx_ret ?_
  have hP9 := hP.sub (ws' := [(ou, .inl (cL, 1, .inr (.inl of9)))]) [0] rfl
  have hD9 := hD.sub (ws' := [(ou, .inl (cL, 1, .inr (.inl of9)))]) [0] (by decide) rfl
  have hK9 := hK.sub (tys' := [(cL, .long)]) [0] rfl
  exact W.iret (v := 1) hx hb hr (fun t ht hW => ⟨⟨1, of9, rfl, rfl, ⟨by rw [ht]; exact hP9, va_K.moved hW.alike hK9, hD9⟩⟩, hS.F ht⟩) hS.2.2 dL_isDisputed_21

set_option maxHeartbeats 4000000 in
set_option maxRecDepth 100000 in
/-- L_holdoutAt -/
theorem c_L_holdoutAt (l : Launch) (hfl : l.stackTraces = false) (dC : Nat → ClassId) (dI : Nat → Nat → Nat) (ya ms ju li ct tg fw : Nat) (a1 : Int32) (cL : ClassId) (ou : Nat) (of9 : Nat → Int64) (sz : Nat) : vx_Met l yL_holdoutAt wsL_holdoutAt ({ frames := 8, cells := 1, slots := 6, locals := 144 }) (va_Pc [.ref ya, .int a1, .ref ou] (cPCz (zX) dC dI [(ya, .inr (16, [.ref ms, .int 0, .ref ju, .ref li, .ref ct, .ref tg, .ref fw])), (ou, .inl (cL, 1, .inr (.inl of9)))] [(cL, .long)] sz)) (va_Qi (fun (r : Int32) (u : Nat → Int64) => r = 1) (fun (u : Nat → Int64) t => cQB dC dI [(ou, .inl (cL, 1, .inr (.inl u)))] [(cL, .long)] (va_A [(ya, .inr (16, [.ref ms, .int 0, .ref ju, .ref li, .ref ct, .ref tg, .ref fw])), (ou, .inl (cL, 1, .inr (.inl of9)))] sz) t) (va_A [(ya, .inr (16, [.ref ms, .int 0, .ref ju, .ref li, .ref ct, .ref tg, .ref fw])), (ou, .inl (cL, 1, .inr (.inl of9)))] sz)) (vx_X (fun (_ : Unit) => True) (fun (E9 : String) (_ : Unit) (_ : State) => False) (va_A [(ya, .inr (16, [.ref ms, .int 0, .ref ju, .ref li, .ref ct, .ref tg, .ref fw])), (ou, .inl (cL, 1, .inr (.inl of9)))] sz)) 1 6 (va_A [(ya, .inr (16, [.ref ms, .int 0, .ref ju, .ref li, .ref ct, .ref tg, .ref fw])), (ou, .inl (cL, 1, .inr (.inl of9)))] sz) := by
  refine vx_ofWH (cc := cL_holdoutAt) (maxL := 4) (ret := (some .int)) (hh := [(0, 9, 12, 27)]) (by decide) rfl ?_
  intro p e s m args below meth c s₁ B hml hv
  obtain ⟨rfl, ⟨hsz, hP, hK, hD0, hN⟩, hZ⟩ := hv
  have hx := B.exec
  have hb := B.bytes
  have hr := B.returns
  have hts := atoms_spec (ws := wsL_holdoutAt) B.pre
  have hown : s.vm.findClass RL = some m.cls := findClass_of_methodNamed B.named
  have hlocks := B.notSynchronized
  subst hsz
  have hD := hD0.self (sz := s.heap.size)
  generalize hAe : va_A [(ya, .inr (16, [.ref ms, .int 0, .ref ju, .ref li, .ref ct, .ref tg, .ref fw])), (ou, .inl (cL, 1, .inr (.inl of9)))] s.heap.size = A at hD hZ ⊢
  have hA : ∀ q : Nat, s.heap.size ≤ q → A q := fun q h => by rw [← hAe]; exact Or.inr h
  have hS : va_S A s.heap s.heap [] := va_S.rf
  have hP : va_P (dC, dI) vwCl [(ya, .inr (16, [.ref ms, .int 0, .ref ju, .ref li, .ref ct, .ref tg, .ref fw])), (ou, .inl (cL, 1, .inr (.inl of9)))] s.heap := hP
  have hD : va_D A [(ya, .inr (16, [.ref ms, .int 0, .ref ju, .ref li, .ref ct, .ref tg, .ref fw])), (ou, .inl (cL, 1, .inr (.inl of9)))] := hD
  have hl := lv_entry ([.ref ya, .int a1, .ref ou]) (n := 4) (Nat.le_of_ble_eq_true rfl)
  rw [lg_entry_eq]
  generalize (lg_sl ([.ref ya, .int a1, .ref ou]) ++ List.replicate (4 - (lg_sl ([.ref ya, .int a1, .ref ou])).length) Slot.unset).toArray = ls at hl ⊢
  have hl : lv_has ls 4 [(0, .ref ya), (1, .int a1), (2, .ref ou)] := hl
  have htab : c.exceptionTable.toList = tableOf [(0, 9, 12, 27)] := vx_table B (hts (.codeWith yL_holdoutAt cL_holdoutAt 4 (some .int) [(0, 9, 12, 27)]) (show _ ∈ wsL_holdoutAt from List.mem_cons_self))
  refine lv_aload_n hx hb dL_holdoutAt_0 rfl (lv_at hl 2 rfl) ?_
  refine lv_iconst (v := 0) hx hb dL_holdoutAt_1 (by decide) ?_
  refine lv_aload_n hx hb dL_holdoutAt_2 rfl (lv_at hl 0 rfl) ?_
  refine lv_iload_n hx hb dL_holdoutAt_3 rfl (lv_at hl 1 rfl) ?_
  have hPc := hP.sub (ws' := [(ya, .inr (16, [.ref ms, .int 0, .ref ju, .ref li, .ref ct, .ref tg, .ref fw]))]) [0] rfl
  have hDc := hD.sub (ws' := [(ya, .inr (16, [.ref ms, .int 0, .ref ju, .ref li, .ref ct, .ref tg, .ref fw]))]) [0] (by decide) rfl
  have hKc := hK.sub (tys' := []) [] rfl
  have hFc := va_free (wc := [(ya, .inr (16, [.ref ms, .int 0, .ref ju, .ref li, .ref ct, .ref tg, .ref fw]))]) hD hS hA [0] rfl
  refine vx_callX (vx_runV (As := [.int a1]) (rest := [.int 0, .ref ou]) ⟨hx, hb, hml, hown, hts⟩ (c_X11_holdoutAt l hfl dC dI ya ms ju li ct tg fw a1 s.heap.size) (cwV 1 hts gL_holdoutAt_X11_holdoutAt rfl rfl rfl (by decide +kernel) ⟨Nat.le_of_ble_eq_true rfl, Nat.le_of_ble_eq_true rfl⟩) (pcVz (zX_ok) hPc hDc hKc hN hZ hS hFc (ci := 16) (q0 := 0) rfl rfl) rfl rfl hl.1 rfl (lv_room (Nat.le_of_ble_eq_true rfl)) dL_holdoutAt_4 ⟨Nat.le_of_ble_eq_true rfl, Nat.le_of_ble_eq_true rfl⟩) hS hFc (fun q _ h => hFc q h) (fun _ _ _ h => h) (fun E9 ce9 q9 u9 t9 H9 locs9 ht9 hvm9 hp9 hE9 hz9 hk9 hS9 hc9 hv9 hcl9 => ?_)
  subst hE9
  refine vx_catch (name := "java/util/NoSuchElementException") hown [] ⟨0, 9, 12, 27⟩ [] htab (fun z hz => by cases hz) (by decide) (by decide) (hts (.classLink RL 27 "java/util/NoSuchElementException") (by decide +kernel)) (zX_use hZ (.castable "java/util/NoSuchElementException" "java/util/NoSuchElementException") (by decide)) hc9 hv9 hcl9 ?_
  refine W.eq (g2 := F0 m 12 ls [.ref q9]) rfl ?_
  obtain ⟨hP, hD⟩ := va_join (wr := [(ou, .inl (cL, 1, .inr (.inl of9)))]) (w1 := []) hP hD [0] [1] rfl rfl (by decide) (by decide) hk9 hFc P_nil D_nil
  have hS := hS9
  generalize H9 = H at hP hS ⊢
  have hP : va_P (dC, dI) vwCl [(ou, .inl (cL, 1, .inr (.inl of9)))] H := hP
  have hD : va_D A [(ou, .inl (cL, 1, .inr (.inl of9)))] := hD
  refine W.widen (k := 1) (n := 6) (Nat.le_of_ble_eq_true rfl) (Nat.le_of_ble_eq_true rfl) ?_
  refine lv_astore_n (lv' := [(3, .ref q9), (0, .ref ya), (1, .int a1), (2, .ref ou)]) hx hb dL_holdoutAt_12 rfl hl (by decide) rfl (fun ls hl => ?_)
  refine lv_iconst (v := 1) hx hb dL_holdoutAt_13 (by decide) ?_
  refine vx_ret ?_
  have hP9 := hP.sub (ws' := [(ou, .inl (cL, 1, .inr (.inl of9)))]) [0] rfl
  have hD9 := hD.sub (ws' := [(ou, .inl (cL, 1, .inr (.inl of9)))]) [0] (by decide) rfl
  have hK9 := hK.sub (tys' := [(cL, .long)]) [0] rfl
  exact W.iret (v := 1) hx hb hr (fun t ht hW => ⟨⟨1, of9, rfl, rfl, ⟨by rw [ht]; exact hP9, va_K.moved hW.alike hK9, hD9⟩⟩, hS.F ht⟩) hS.2.2 dL_holdoutAt_14

set_option maxHeartbeats 4000000 in
set_option maxRecDepth 100000 in
/-- L_tagLetter -/
theorem c_L_tagLetter (l : Launch) (hfl : l.stackTraces = false) (dC : Nat → ClassId) (dI : Nat → Nat → Nat) (ya ms ju li ct tg fw : Nat) (ts tr tk te : Nat) (a1 : Int32) (cL : ClassId) (ou : Nat) (of9 : Nat → Int64) (sz : Nat) : vx_Met l yL_tagLetter wsL_tagLetter ({ frames := 8, cells := 1, slots := 6, locals := 141 }) (va_Pc [.ref ya, .int a1, .ref ou] (cPCz (zX) dC dI [(ya, .inr (16, [.ref ms, .int 0, .ref ju, .ref li, .ref ct, .ref tg, .ref fw])), (tg, .inr (14, [.int 0, .int 0, .ref ts, .ref tr, .ref tk, .ref te])), (ou, .inl (cL, 1, .inr (.inl of9)))] [(cL, .long)] sz)) (va_Qi (fun (r : Int32) (u : Nat → Int64) => r = 1) (fun (u : Nat → Int64) t => cQB dC dI [(ou, .inl (cL, 1, .inr (.inl u)))] [(cL, .long)] (va_A [(ya, .inr (16, [.ref ms, .int 0, .ref ju, .ref li, .ref ct, .ref tg, .ref fw])), (tg, .inr (14, [.int 0, .int 0, .ref ts, .ref tr, .ref tk, .ref te])), (ou, .inl (cL, 1, .inr (.inl of9)))] sz) t) (va_A [(ya, .inr (16, [.ref ms, .int 0, .ref ju, .ref li, .ref ct, .ref tg, .ref fw])), (tg, .inr (14, [.int 0, .int 0, .ref ts, .ref tr, .ref tk, .ref te])), (ou, .inl (cL, 1, .inr (.inl of9)))] sz)) (vx_X (fun (_ : Unit) => True) (fun (E9 : String) (_ : Unit) (_ : State) => False) (va_A [(ya, .inr (16, [.ref ms, .int 0, .ref ju, .ref li, .ref ct, .ref tg, .ref fw])), (tg, .inr (14, [.int 0, .int 0, .ref ts, .ref tr, .ref tk, .ref te])), (ou, .inl (cL, 1, .inr (.inl of9)))] sz)) 1 6 (va_A [(ya, .inr (16, [.ref ms, .int 0, .ref ju, .ref li, .ref ct, .ref tg, .ref fw])), (tg, .inr (14, [.int 0, .int 0, .ref ts, .ref tr, .ref tk, .ref te])), (ou, .inl (cL, 1, .inr (.inl of9)))] sz) := by
  refine vx_ofWH (cc := cL_tagLetter) (maxL := 4) (ret := (some .int)) (hh := [(0, 9, 12, 27)]) (by decide) rfl ?_
  intro p e s m args below meth c s₁ B hml hv
  obtain ⟨rfl, ⟨hsz, hP, hK, hD0, hN⟩, hZ⟩ := hv
  have hx := B.exec
  have hb := B.bytes
  have hr := B.returns
  have hts := atoms_spec (ws := wsL_tagLetter) B.pre
  have hown : s.vm.findClass RL = some m.cls := findClass_of_methodNamed B.named
  have hlocks := B.notSynchronized
  subst hsz
  have hD := hD0.self (sz := s.heap.size)
  generalize hAe : va_A [(ya, .inr (16, [.ref ms, .int 0, .ref ju, .ref li, .ref ct, .ref tg, .ref fw])), (tg, .inr (14, [.int 0, .int 0, .ref ts, .ref tr, .ref tk, .ref te])), (ou, .inl (cL, 1, .inr (.inl of9)))] s.heap.size = A at hD hZ ⊢
  have hA : ∀ q : Nat, s.heap.size ≤ q → A q := fun q h => by rw [← hAe]; exact Or.inr h
  have hS : va_S A s.heap s.heap [] := va_S.rf
  have hP : va_P (dC, dI) vwCl [(ya, .inr (16, [.ref ms, .int 0, .ref ju, .ref li, .ref ct, .ref tg, .ref fw])), (tg, .inr (14, [.int 0, .int 0, .ref ts, .ref tr, .ref tk, .ref te])), (ou, .inl (cL, 1, .inr (.inl of9)))] s.heap := hP
  have hD : va_D A [(ya, .inr (16, [.ref ms, .int 0, .ref ju, .ref li, .ref ct, .ref tg, .ref fw])), (tg, .inr (14, [.int 0, .int 0, .ref ts, .ref tr, .ref tk, .ref te])), (ou, .inl (cL, 1, .inr (.inl of9)))] := hD
  have hl := lv_entry ([.ref ya, .int a1, .ref ou]) (n := 4) (Nat.le_of_ble_eq_true rfl)
  rw [lg_entry_eq]
  generalize (lg_sl ([.ref ya, .int a1, .ref ou]) ++ List.replicate (4 - (lg_sl ([.ref ya, .int a1, .ref ou])).length) Slot.unset).toArray = ls at hl ⊢
  have hl : lv_has ls 4 [(0, .ref ya), (1, .int a1), (2, .ref ou)] := hl
  have htab : c.exceptionTable.toList = tableOf [(0, 9, 12, 27)] := vx_table B (hts (.codeWith yL_tagLetter cL_tagLetter 4 (some .int) [(0, 9, 12, 27)]) (show _ ∈ wsL_tagLetter from List.mem_cons_self))
  refine lv_aload_n hx hb dL_tagLetter_0 rfl (lv_at hl 2 rfl) ?_
  refine lv_iconst (v := 0) hx hb dL_tagLetter_1 (by decide) ?_
  refine lv_aload_n hx hb dL_tagLetter_2 rfl (lv_at hl 0 rfl) ?_
  refine lv_iload_n hx hb dL_tagLetter_3 rfl (lv_at hl 1 rfl) ?_
  have hPc := hP.sub (ws' := [(ya, .inr (16, [.ref ms, .int 0, .ref ju, .ref li, .ref ct, .ref tg, .ref fw])), (tg, .inr (14, [.int 0, .int 0, .ref ts, .ref tr, .ref tk, .ref te]))]) [0, 1] rfl
  have hDc := hD.sub (ws' := [(ya, .inr (16, [.ref ms, .int 0, .ref ju, .ref li, .ref ct, .ref tg, .ref fw])), (tg, .inr (14, [.int 0, .int 0, .ref ts, .ref tr, .ref tk, .ref te]))]) [0, 1] (by decide) rfl
  have hKc := hK.sub (tys' := []) [] rfl
  have hFc := va_free (wc := [(ya, .inr (16, [.ref ms, .int 0, .ref ju, .ref li, .ref ct, .ref tg, .ref fw])), (tg, .inr (14, [.int 0, .int 0, .ref ts, .ref tr, .ref tk, .ref te]))]) hD hS hA [0, 1] rfl
  refine vx_callX (vx_runV (As := [.int a1]) (rest := [.int 0, .ref ou]) ⟨hx, hb, hml, hown, hts⟩ (c_X11_tagLetter l hfl dC dI ya ms ju li ct tg fw ts tr tk te a1 s.heap.size) (cwV 1 hts gL_tagLetter_X11_tagLetter rfl rfl rfl (by decide +kernel) ⟨Nat.le_of_ble_eq_true rfl, Nat.le_of_ble_eq_true rfl⟩) (pcVz (zX_ok) hPc hDc hKc hN hZ hS hFc (ci := 16) (q0 := 0) rfl rfl) rfl rfl hl.1 rfl (lv_room (Nat.le_of_ble_eq_true rfl)) dL_tagLetter_4 ⟨Nat.le_of_ble_eq_true rfl, Nat.le_of_ble_eq_true rfl⟩) hS hFc (fun q _ h => hFc q h) (fun _ _ _ h => h) (fun E9 ce9 q9 u9 t9 H9 locs9 ht9 hvm9 hp9 hE9 hz9 hk9 hS9 hc9 hv9 hcl9 => ?_)
  subst hE9
  refine vx_catch (name := "java/util/NoSuchElementException") hown [] ⟨0, 9, 12, 27⟩ [] htab (fun z hz => by cases hz) (by decide) (by decide) (hts (.classLink RL 27 "java/util/NoSuchElementException") (by decide +kernel)) (zX_use hZ (.castable "java/util/NoSuchElementException" "java/util/NoSuchElementException") (by decide)) hc9 hv9 hcl9 ?_
  refine W.eq (g2 := F0 m 12 ls [.ref q9]) rfl ?_
  obtain ⟨hP, hD⟩ := va_join (wr := [(ou, .inl (cL, 1, .inr (.inl of9)))]) (w1 := []) hP hD [0, 1] [2] rfl rfl (by decide) (by decide) hk9 hFc P_nil D_nil
  have hS := hS9
  generalize H9 = H at hP hS ⊢
  have hP : va_P (dC, dI) vwCl [(ou, .inl (cL, 1, .inr (.inl of9)))] H := hP
  have hD : va_D A [(ou, .inl (cL, 1, .inr (.inl of9)))] := hD
  refine W.widen (k := 1) (n := 6) (Nat.le_of_ble_eq_true rfl) (Nat.le_of_ble_eq_true rfl) ?_
  refine lv_astore_n (lv' := [(3, .ref q9), (0, .ref ya), (1, .int a1), (2, .ref ou)]) hx hb dL_tagLetter_12 rfl hl (by decide) rfl (fun ls hl => ?_)
  refine lv_iconst (v := 1) hx hb dL_tagLetter_13 (by decide) ?_
  refine vx_ret ?_
  have hP9 := hP.sub (ws' := [(ou, .inl (cL, 1, .inr (.inl of9)))]) [0] rfl
  have hD9 := hD.sub (ws' := [(ou, .inl (cL, 1, .inr (.inl of9)))]) [0] (by decide) rfl
  have hK9 := hK.sub (tys' := [(cL, .long)]) [0] rfl
  exact W.iret (v := 1) hx hb hr (fun t ht hW => ⟨⟨1, of9, rfl, rfl, ⟨by rw [ht]; exact hP9, va_K.moved hW.alike hK9, hD9⟩⟩, hS.F ht⟩) hS.2.2 dL_tagLetter_14

set_option maxHeartbeats 4000000 in
set_option maxRecDepth 100000 in
/-- L_meanMarks -/
theorem c_L_meanMarks (l : Launch) (hfl : l.stackTraces = false) (dC : Nat → ClassId) (dI : Nat → Nat → Nat) (ya ms ju li ct tg fw : Nat) (cD : ClassId) (ou : Nat) (of9 : Nat → UInt64) (sz : Nat) : vx_Met l yL_meanMarks wsL_meanMarks ({ frames := 7, cells := 1, slots := 6, locals := 125 }) (va_Pc [.ref ya, .ref ou] (cPCz (zX) dC dI [(ya, .inr (16, [.ref ms, .int 0, .ref ju, .ref li, .ref ct, .ref tg, .ref fw])), (ou, .inl (cD, 1, .inr (.inr (.inr (.inl of9)))))] [(cD, .double)] sz)) (va_Qi (fun (r : Int32) (u : Nat → UInt64) => r = 1) (fun (u : Nat → UInt64) t => cQB dC dI [(ou, .inl (cD, 1, .inr (.inr (.inr (.inl u)))))] [(cD, .double)] (va_A [(ya, .inr (16, [.ref ms, .int 0, .ref ju, .ref li, .ref ct, .ref tg, .ref fw])), (ou, .inl (cD, 1, .inr (.inr (.inr (.inl of9)))))] sz) t) (va_A [(ya, .inr (16, [.ref ms, .int 0, .ref ju, .ref li, .ref ct, .ref tg, .ref fw])), (ou, .inl (cD, 1, .inr (.inr (.inr (.inl of9)))))] sz)) (vx_X (fun (_ : Unit) => True) (fun (E9 : String) (_ : Unit) (_ : State) => False) (va_A [(ya, .inr (16, [.ref ms, .int 0, .ref ju, .ref li, .ref ct, .ref tg, .ref fw])), (ou, .inl (cD, 1, .inr (.inr (.inr (.inl of9)))))] sz)) 1 6 (va_A [(ya, .inr (16, [.ref ms, .int 0, .ref ju, .ref li, .ref ct, .ref tg, .ref fw])), (ou, .inl (cD, 1, .inr (.inr (.inr (.inl of9)))))] sz) := by
  refine vx_ofWH (cc := cL_meanMarks) (maxL := 3) (ret := (some .int)) (hh := [(0, 7, 10, 140)]) (by decide) rfl ?_
  intro p e s m args below meth c s₁ B hml hv
  obtain ⟨rfl, ⟨hsz, hP, hK, hD0, hN⟩, hZ⟩ := hv
  have hx := B.exec
  have hb := B.bytes
  have hr := B.returns
  have hts := atoms_spec (ws := wsL_meanMarks) B.pre
  have hown : s.vm.findClass RL = some m.cls := findClass_of_methodNamed B.named
  have hlocks := B.notSynchronized
  subst hsz
  have hD := hD0.self (sz := s.heap.size)
  generalize hAe : va_A [(ya, .inr (16, [.ref ms, .int 0, .ref ju, .ref li, .ref ct, .ref tg, .ref fw])), (ou, .inl (cD, 1, .inr (.inr (.inr (.inl of9)))))] s.heap.size = A at hD hZ ⊢
  have hA : ∀ q : Nat, s.heap.size ≤ q → A q := fun q h => by rw [← hAe]; exact Or.inr h
  have hS : va_S A s.heap s.heap [] := va_S.rf
  have hP : va_P (dC, dI) vwCl [(ya, .inr (16, [.ref ms, .int 0, .ref ju, .ref li, .ref ct, .ref tg, .ref fw])), (ou, .inl (cD, 1, .inr (.inr (.inr (.inl of9)))))] s.heap := hP
  have hD : va_D A [(ya, .inr (16, [.ref ms, .int 0, .ref ju, .ref li, .ref ct, .ref tg, .ref fw])), (ou, .inl (cD, 1, .inr (.inr (.inr (.inl of9)))))] := hD
  have hl := lv_entry ([.ref ya, .ref ou]) (n := 3) (Nat.le_of_ble_eq_true rfl)
  rw [lg_entry_eq]
  generalize (lg_sl ([.ref ya, .ref ou]) ++ List.replicate (3 - (lg_sl ([.ref ya, .ref ou])).length) Slot.unset).toArray = ls at hl ⊢
  have hl : lv_has ls 3 [(0, .ref ya), (1, .ref ou)] := hl
  have htab : c.exceptionTable.toList = tableOf [(0, 7, 10, 140)] := vx_table B (hts (.codeWith yL_meanMarks cL_meanMarks 3 (some .int) [(0, 7, 10, 140)]) (show _ ∈ wsL_meanMarks from List.mem_cons_self))
  refine lv_aload_n hx hb dL_meanMarks_0 rfl (lv_at hl 1 rfl) ?_
  refine lv_iconst (v := 0) hx hb dL_meanMarks_1 (by decide) ?_
  refine lv_aload_n hx hb dL_meanMarks_2 rfl (lv_at hl 0 rfl) ?_
  have hPc := hP.sub (ws' := [(ya, .inr (16, [.ref ms, .int 0, .ref ju, .ref li, .ref ct, .ref tg, .ref fw]))]) [0] rfl
  have hDc := hD.sub (ws' := [(ya, .inr (16, [.ref ms, .int 0, .ref ju, .ref li, .ref ct, .ref tg, .ref fw]))]) [0] (by decide) rfl
  have hKc := hK.sub (tys' := []) [] rfl
  have hFc := va_free (wc := [(ya, .inr (16, [.ref ms, .int 0, .ref ju, .ref li, .ref ct, .ref tg, .ref fw]))]) hD hS hA [0] rfl
  refine vx_callX (vx_runV (As := []) (rest := [.int 0, .ref ou]) ⟨hx, hb, hml, hown, hts⟩ (c_X11_meanMarks l hfl dC dI ya ms ju li ct tg fw s.heap.size) (cwV 0 hts gL_meanMarks_X11_meanMarks rfl rfl rfl (by decide +kernel) ⟨Nat.le_of_ble_eq_true rfl, Nat.le_of_ble_eq_true rfl⟩) (pcVz (zX_ok) hPc hDc hKc hN hZ hS hFc (ci := 16) (q0 := 0) rfl rfl) rfl rfl hl.1 rfl (lv_room (Nat.le_of_ble_eq_true rfl)) dL_meanMarks_3 ⟨Nat.le_of_ble_eq_true rfl, Nat.le_of_ble_eq_true rfl⟩) hS hFc (fun q _ h => hFc q h) (fun _ _ _ h => h) (fun E9 ce9 q9 u9 t9 H9 locs9 ht9 hvm9 hp9 hE9 hz9 hk9 hS9 hc9 hv9 hcl9 => ?_)
  subst hE9
  refine vx_catch (name := "java/lang/ArithmeticException") hown [] ⟨0, 7, 10, 140⟩ [] htab (fun z hz => by cases hz) (by decide) (by decide) (hts (.classLink RL 140 "java/lang/ArithmeticException") (by decide +kernel)) (zX_use hZ (.castable "java/lang/ArithmeticException" "java/lang/ArithmeticException") (by decide)) hc9 hv9 hcl9 ?_
  refine W.eq (g2 := F0 m 10 ls [.ref q9]) rfl ?_
  obtain ⟨hP, hD⟩ := va_join (wr := [(ou, .inl (cD, 1, .inr (.inr (.inr (.inl of9)))))]) (w1 := []) hP hD [0] [1] rfl rfl (by decide) (by decide) hk9 hFc P_nil D_nil
  have hS := hS9
  generalize H9 = H at hP hS ⊢
  have hP : va_P (dC, dI) vwCl [(ou, .inl (cD, 1, .inr (.inr (.inr (.inl of9)))))] H := hP
  have hD : va_D A [(ou, .inl (cD, 1, .inr (.inr (.inr (.inl of9)))))] := hD
  refine W.widen (k := 1) (n := 6) (Nat.le_of_ble_eq_true rfl) (Nat.le_of_ble_eq_true rfl) ?_
  refine lv_astore_n (lv' := [(2, .ref q9), (0, .ref ya), (1, .ref ou)]) hx hb dL_meanMarks_10 rfl hl (by decide) rfl (fun ls hl => ?_)
  refine lv_iconst (v := 1) hx hb dL_meanMarks_11 (by decide) ?_
  refine vx_ret ?_
  have hP9 := hP.sub (ws' := [(ou, .inl (cD, 1, .inr (.inr (.inr (.inl of9)))))]) [0] rfl
  have hD9 := hD.sub (ws' := [(ou, .inl (cD, 1, .inr (.inr (.inr (.inl of9)))))]) [0] (by decide) rfl
  have hK9 := hK.sub (tys' := [(cD, .double)]) [0] rfl
  exact W.iret (v := 1) hx hb hr (fun t ht hW => ⟨⟨1, of9, rfl, rfl, ⟨by rw [ht]; exact hP9, va_K.moved hW.alike hK9, hD9⟩⟩, hS.F ht⟩) hS.2.2 dL_meanMarks_12

set_option maxHeartbeats 4000000 in
set_option maxRecDepth 100000 in
/-- L_record -/
theorem c_L_record (l : Launch) (hfl : l.stackTraces = false) (dC : Nat → ClassId) (dI : Nat → Nat → Nat) (ya ms ju li ct tg fw : Nat) (a1 : Int32) (cL : ClassId) (ou : Nat) (of9 : Nat → Int64) (sz : Nat) : vx_Met l yL_record wsL_record ({ frames := 8, cells := 2, slots := 12, locals := 146 }) (va_Pc [.ref ya, .int a1, .ref ou] (cPCz (zX) dC dI [(ya, .inr (16, [.ref ms, .int 0, .ref ju, .ref li, .ref ct, .ref tg, .ref fw])), (ou, .inl (cL, 1, .inr (.inl of9)))] [(cL, .long)] sz)) (va_Qi (fun (r : Int32) (u : Nat → Int64) => (r = 1 ∧ ¬ (a1 = 115 ∨ a1 = 109)) ∨ (r = 2 ∧ (a1 = 115 ∨ a1 = 109))) (fun (u : Nat → Int64) t => cQB dC dI [(ou, .inl (cL, 1, .inr (.inl u)))] [(cL, .long)] (va_A [(ya, .inr (16, [.ref ms, .int 0, .ref ju, .ref li, .ref ct, .ref tg, .ref fw])), (ou, .inl (cL, 1, .inr (.inl of9)))] sz) t) (va_A [(ya, .inr (16, [.ref ms, .int 0, .ref ju, .ref li, .ref ct, .ref tg, .ref fw])), (ou, .inl (cL, 1, .inr (.inl of9)))] sz)) (vx_X (fun (_ : Unit) => True) (fun (E9 : String) (_ : Unit) (_ : State) => False) (va_A [(ya, .inr (16, [.ref ms, .int 0, .ref ju, .ref li, .ref ct, .ref tg, .ref fw])), (ou, .inl (cL, 1, .inr (.inl of9)))] sz)) 2 12 (va_A [(ya, .inr (16, [.ref ms, .int 0, .ref ju, .ref li, .ref ct, .ref tg, .ref fw])), (ou, .inl (cL, 1, .inr (.inl of9)))] sz) := by
  refine vx_ofWH (cc := cL_record) (maxL := 4) (ret := (some .int)) (hh := [(0, 9, 12, 13), (0, 9, 15, 27)]) (by decide) rfl ?_
  intro p e s m args below meth c s₁ B hml hv
  obtain ⟨rfl, ⟨hsz, hP, hK, hD0, hN⟩, hZ⟩ := hv
  have hx := B.exec
  have hb := B.bytes
  have hr := B.returns
  have hts := atoms_spec (ws := wsL_record) B.pre
  have hown : s.vm.findClass RL = some m.cls := findClass_of_methodNamed B.named
  have hlocks := B.notSynchronized
  subst hsz
  have hD := hD0.self (sz := s.heap.size)
  generalize hAe : va_A [(ya, .inr (16, [.ref ms, .int 0, .ref ju, .ref li, .ref ct, .ref tg, .ref fw])), (ou, .inl (cL, 1, .inr (.inl of9)))] s.heap.size = A at hD hZ ⊢
  have hA : ∀ q : Nat, s.heap.size ≤ q → A q := fun q h => by rw [← hAe]; exact Or.inr h
  have hS : va_S A s.heap s.heap [] := va_S.rf
  have hP : va_P (dC, dI) vwCl [(ya, .inr (16, [.ref ms, .int 0, .ref ju, .ref li, .ref ct, .ref tg, .ref fw])), (ou, .inl (cL, 1, .inr (.inl of9)))] s.heap := hP
  have hD : va_D A [(ya, .inr (16, [.ref ms, .int 0, .ref ju, .ref li, .ref ct, .ref tg, .ref fw])), (ou, .inl (cL, 1, .inr (.inl of9)))] := hD
  have hl := lv_entry ([.ref ya, .int a1, .ref ou]) (n := 4) (Nat.le_of_ble_eq_true rfl)
  rw [lg_entry_eq]
  generalize (lg_sl ([.ref ya, .int a1, .ref ou]) ++ List.replicate (4 - (lg_sl ([.ref ya, .int a1, .ref ou])).length) Slot.unset).toArray = ls at hl ⊢
  have hl : lv_has ls 4 [(0, .ref ya), (1, .int a1), (2, .ref ou)] := hl
  have htab : c.exceptionTable.toList = tableOf [(0, 9, 12, 13), (0, 9, 15, 27)] := vx_table B (hts (.codeWith yL_record cL_record 4 (some .int) [(0, 9, 12, 13), (0, 9, 15, 27)]) (show _ ∈ wsL_record from List.mem_cons_self))
  refine lv_aload_n hx hb dL_record_0 rfl (lv_at hl 2 rfl) ?_
  refine lv_iconst (v := 0) hx hb dL_record_1 (by decide) ?_
  refine lv_aload_n hx hb dL_record_2 rfl (lv_at hl 0 rfl) ?_
  refine lv_iload_n hx hb dL_record_3 rfl (lv_at hl 1 rfl) ?_
  have hPc := hP.sub (ws' := [(ya, .inr (16, [.ref ms, .int 0, .ref ju, .ref li, .ref ct, .ref tg, .ref fw]))]) [0] rfl
  have hDc := hD.sub (ws' := [(ya, .inr (16, [.ref ms, .int 0, .ref ju, .ref li, .ref ct, .ref tg, .ref fw]))]) [0] (by decide) rfl
  have hKc := hK.sub (tys' := []) [] rfl
  have hFc := va_free (wc := [(ya, .inr (16, [.ref ms, .int 0, .ref ju, .ref li, .ref ct, .ref tg, .ref fw]))]) hD hS hA [0] rfl
  refine vx_callX (vx_runV (As := [.int a1]) (rest := [.int 0, .ref ou]) ⟨hx, hb, hml, hown, hts⟩ (c_X11_record l hfl dC dI ya ms ju li ct tg fw a1 s.heap.size) (cwV 1 hts gL_record_X11_record rfl rfl rfl (by decide +kernel) ⟨Nat.le_of_ble_eq_true rfl, Nat.le_of_ble_eq_true rfl⟩) (pcVz (zX_ok) hPc hDc hKc hN hZ hS hFc (ci := 16) (q0 := 0) rfl rfl) rfl rfl hl.1 rfl (lv_room (Nat.le_of_ble_eq_true rfl)) dL_record_4 ⟨Nat.le_of_ble_eq_true rfl, Nat.le_of_ble_eq_true rfl⟩) hS hFc (fun q _ h => hFc q h) (fun _ _ _ h => h) (fun E9 ce9 q9 u9 t9 H9 locs9 ht9 hvm9 hp9 hE9 hz9 hk9 hS9 hc9 hv9 hcl9 => ?_)
  rcases hE9 with hE9 | hE9
  · obtain ⟨rfl, hno⟩ := hE9
    refine vx_catch (name := "java/lang/IllegalArgumentException") hown [] ⟨0, 9, 12, 13⟩ [⟨0, 9, 15, 27⟩] htab (fun z hz => by cases hz) (by decide) (by decide) (hts (.classLink RL 13 "java/lang/IllegalArgumentException") (by decide +kernel)) (zX_use hZ (.castable "java/lang/IllegalArgumentException" "java/lang/IllegalArgumentException") (by decide)) hc9 hv9 hcl9 ?_
    refine W.eq (g2 := F0 m 12 ls [.ref q9]) rfl ?_
    obtain ⟨hP, hD⟩ := va_join (wr := [(ou, .inl (cL, 1, .inr (.inl of9)))]) (w1 := []) hP hD [0] [1] rfl rfl (by decide) (by decide) hk9 hFc P_nil D_nil
    have hS := hS9
    generalize H9 = H at hP hS ⊢
    have hP : va_P (dC, dI) vwCl [(ou, .inl (cL, 1, .inr (.inl of9)))] H := hP
    have hD : va_D A [(ou, .inl (cL, 1, .inr (.inl of9)))] := hD
    refine W.widen (k := 2) (n := 12) (Nat.le_of_ble_eq_true rfl) (Nat.le_of_ble_eq_true rfl) ?_
    refine lv_astore_n (lv' := [(3, .ref q9), (0, .ref ya), (1, .int a1), (2, .ref ou)]) hx hb dL_record_12 rfl hl (by decide) rfl (fun ls hl => ?_)
    refine lv_iconst (v := 1) hx hb dL_record_13 (by decide) ?_
    refine vx_ret ?_
    have hP9 := hP.sub (ws' := [(ou, .inl (cL, 1, .inr (.inl of9)))]) [0] rfl
    have hD9 := hD.sub (ws' := [(ou, .inl (cL, 1, .inr (.inl of9)))]) [0] (by decide) rfl
    have hK9 := hK.sub (tys' := [(cL, .long)]) [0] rfl
    exact W.iret (v := 1) hx hb hr (fun t ht hW => ⟨⟨1, of9, rfl, Or.inl ⟨rfl, hno⟩, ⟨by rw [ht]; exact hP9, va_K.moved hW.alike hK9, hD9⟩⟩, hS.F ht⟩) hS.2.2 dL_record_14
  · obtain ⟨rfl, hno⟩ := hE9
    refine vx_catch (name := "java/util/NoSuchElementException") hown [⟨0, 9, 12, 13⟩] ⟨0, 9, 15, 27⟩ [] htab (fun z hz => by obtain rfl := List.mem_singleton.mp hz; exact Or.inr ⟨by decide, _, hts (.classLink RL 13 "java/lang/IllegalArgumentException") (by decide +kernel), hZ.2.2.2.moved (Vm.Alike.refl _)⟩) (by decide) (by decide) (hts (.classLink RL 27 "java/util/NoSuchElementException") (by decide +kernel)) (zX_use hZ (.castable "java/util/NoSuchElementException" "java/util/NoSuchElementException") (by decide)) hc9 hv9 hcl9 ?_
    refine W.eq (g2 := F0 m 15 ls [.ref q9]) rfl ?_
    obtain ⟨hP, hD⟩ := va_join (wr := [(ou, .inl (cL, 1, .inr (.inl of9)))]) (w1 := []) hP hD [0] [1] rfl rfl (by decide) (by decide) hk9 hFc P_nil D_nil
    have hS := hS9
    generalize H9 = H at hP hS ⊢
    have hP : va_P (dC, dI) vwCl [(ou, .inl (cL, 1, .inr (.inl of9)))] H := hP
    have hD : va_D A [(ou, .inl (cL, 1, .inr (.inl of9)))] := hD
    refine W.widen (k := 2) (n := 12) (Nat.le_of_ble_eq_true rfl) (Nat.le_of_ble_eq_true rfl) ?_
    refine lv_astore_n (lv' := [(3, .ref q9), (0, .ref ya), (1, .int a1), (2, .ref ou)]) hx hb dL_record_15 rfl hl (by decide) rfl (fun ls hl => ?_)
    refine lv_iconst (v := 2) hx hb dL_record_16 (by decide) ?_
    refine vx_ret ?_
    have hP9 := hP.sub (ws' := [(ou, .inl (cL, 1, .inr (.inl of9)))]) [0] rfl
    have hD9 := hD.sub (ws' := [(ou, .inl (cL, 1, .inr (.inl of9)))]) [0] (by decide) rfl
    have hK9 := hK.sub (tys' := [(cL, .long)]) [0] rfl
    exact W.iret (v := 2) hx hb hr (fun t ht hW => ⟨⟨2, of9, rfl, Or.inr ⟨rfl, hno⟩, ⟨by rw [ht]; exact hP9, va_K.moved hW.alike hK9, hD9⟩⟩, hS.F ht⟩) hS.2.2 dL_record_17

set_option maxHeartbeats 4000000 in
set_option maxRecDepth 100000 in
/-- L_machine -/
theorem c_L_machine (l : Launch) (hfl : l.stackTraces = false) (dC : Nat → ClassId) (dI : Nat → Nat → Nat) (cI cM : ClassId) (ya ms ju li ct tg fw : Nat) (a1 a2 a3 : Int32) (cL : ClassId) (ou : Nat) (of9 : Nat → Int64) (sz : Nat) : vx_Met l yL_machine wsL_machine ({ frames := 8, cells := 7, slots := 1059, locals := 143 }) (va_Pc [.ref ya, .int a1, .int a2, .int a3, .ref ou] (cPCz (zX) dC dI [(ya, .inr (16, [.ref ms, .int 0, .ref ju, .ref li, .ref ct, .ref tg, .ref fw])), (ms, .inl (cM, 16, .inr (.inr (.inr (.inr (fun _ => none)))))), (ou, .inl (cL, 1, .inr (.inl of9)))] [(cI, .int), (cM, .object "Beaverhall$Machine"), (cL, .long)] sz)) (va_Qi (fun (r : Int32) (u : Nat → Int64) => (r = 0 ∧ pMachine a1 a2 a3 ∧ u 0 = (0 : Int32).toInt64) ∨ (r = 1 ∧ ¬ pMachine a1 a2 a3)) (fun (u : Nat → Int64) t => cQB dC dI [(ou, .inl (cL, 1, .inr (.inl u)))] [(cL, .long)] (va_A [(ya, .inr (16, [.ref ms, .int 0, .ref ju, .ref li, .ref ct, .ref tg, .ref fw])), (ms, .inl (cM, 16, .inr (.inr (.inr (.inr (fun _ => none)))))), (ou, .inl (cL, 1, .inr (.inl of9)))] sz) t) (va_A [(ya, .inr (16, [.ref ms, .int 0, .ref ju, .ref li, .ref ct, .ref tg, .ref fw])), (ms, .inl (cM, 16, .inr (.inr (.inr (.inr (fun _ => none)))))), (ou, .inl (cL, 1, .inr (.inl of9)))] sz)) (vx_X (fun (_ : Unit) => True) (fun (E9 : String) (_ : Unit) (_ : State) => False) (va_A [(ya, .inr (16, [.ref ms, .int 0, .ref ju, .ref li, .ref ct, .ref tg, .ref fw])), (ms, .inl (cM, 16, .inr (.inr (.inr (.inr (fun _ => none)))))), (ou, .inl (cL, 1, .inr (.inl of9)))] sz)) 7 1059 (va_A [(ya, .inr (16, [.ref ms, .int 0, .ref ju, .ref li, .ref ct, .ref tg, .ref fw])), (ms, .inl (cM, 16, .inr (.inr (.inr (.inr (fun _ => none)))))), (ou, .inl (cL, 1, .inr (.inl of9)))] sz) := by
  refine vx_ofWH (cc := cL_machine) (maxL := 6) (ret := (some .int)) (hh := [(0, 12, 15, 13), (0, 12, 19, 15)]) (by decide) rfl ?_
  intro p e s m args below meth c s₁ B hml hv
  obtain ⟨rfl, ⟨hsz, hP, hK, hD0, hN⟩, hZ⟩ := hv
  have hx := B.exec
  have hb := B.bytes
  have hr := B.returns
  have hts := atoms_spec (ws := wsL_machine) B.pre
  have hown : s.vm.findClass RL = some m.cls := findClass_of_methodNamed B.named
  have hlocks := B.notSynchronized
  subst hsz
  have hD := hD0.self (sz := s.heap.size)
  generalize hAe : va_A [(ya, .inr (16, [.ref ms, .int 0, .ref ju, .ref li, .ref ct, .ref tg, .ref fw])), (ms, .inl (cM, 16, .inr (.inr (.inr (.inr (fun _ => none)))))), (ou, .inl (cL, 1, .inr (.inl of9)))] s.heap.size = A at hD hZ ⊢
  have hA : ∀ q : Nat, s.heap.size ≤ q → A q := fun q h => by rw [← hAe]; exact Or.inr h
  have hS : va_S A s.heap s.heap [] := va_S.rf
  have hP : va_P (dC, dI) vwCl [(ya, .inr (16, [.ref ms, .int 0, .ref ju, .ref li, .ref ct, .ref tg, .ref fw])), (ms, .inl (cM, 16, .inr (.inr (.inr (.inr (fun _ => none)))))), (ou, .inl (cL, 1, .inr (.inl of9)))] s.heap := hP
  have hD : va_D A [(ya, .inr (16, [.ref ms, .int 0, .ref ju, .ref li, .ref ct, .ref tg, .ref fw])), (ms, .inl (cM, 16, .inr (.inr (.inr (.inr (fun _ => none)))))), (ou, .inl (cL, 1, .inr (.inl of9)))] := hD
  have hl := lv_entry ([.ref ya, .int a1, .int a2, .int a3, .ref ou]) (n := 6) (Nat.le_of_ble_eq_true rfl)
  rw [lg_entry_eq]
  generalize (lg_sl ([.ref ya, .int a1, .int a2, .int a3, .ref ou]) ++ List.replicate (6 - (lg_sl ([.ref ya, .int a1, .int a2, .int a3, .ref ou])).length) Slot.unset).toArray = ls at hl ⊢
  have hl : lv_has ls 6 [(0, .ref ya), (1, .int a1), (2, .int a2), (3, .int a3), (4, .ref ou)] := hl
  have htab : c.exceptionTable.toList = tableOf [(0, 12, 15, 13), (0, 12, 19, 15)] := vx_table B (hts (.codeWith yL_machine cL_machine 6 (some .int) [(0, 12, 15, 13), (0, 12, 19, 15)]) (show _ ∈ wsL_machine from List.mem_cons_self))
  refine lv_aload hx hb dL_machine_0 (lv_at hl 4 rfl) ?_
  refine lv_iconst (v := 0) hx hb dL_machine_2 (by decide) ?_
  refine lv_aload_n hx hb dL_machine_3 rfl (lv_at hl 0 rfl) ?_
  refine lv_iload_n hx hb dL_machine_4 rfl (lv_at hl 1 rfl) ?_
  refine lv_iload_n hx hb dL_machine_5 rfl (lv_at hl 2 rfl) ?_
  refine lv_iload_n hx hb dL_machine_6 rfl (lv_at hl 3 rfl) ?_
  have hPc := hP.sub (ws' := [(ya, .inr (16, [.ref ms, .int 0, .ref ju, .ref li, .ref ct, .ref tg, .ref fw])), (ms, .inl (cM, 16, .inr (.inr (.inr (.inr (fun _ => none))))))]) [0, 1] rfl
  have hDc := hD.sub (ws' := [(ya, .inr (16, [.ref ms, .int 0, .ref ju, .ref li, .ref ct, .ref tg, .ref fw])), (ms, .inl (cM, 16, .inr (.inr (.inr (.inr (fun _ => none))))))]) [0, 1] (by decide) rfl
  have hKc := hK.sub (tys' := [(cI, .int), (cM, .object "Beaverhall$Machine")]) [0, 1] rfl
  have hFc := va_free (wc := [(ya, .inr (16, [.ref ms, .int 0, .ref ju, .ref li, .ref ct, .ref tg, .ref fw])), (ms, .inl (cM, 16, .inr (.inr (.inr (.inr (fun _ => none))))))]) hD hS hA [0, 1] rfl
  refine vx_calli (vx_runV (As := [.int a1, .int a2, .int a3]) (rest := [.int 0, .ref ou]) ⟨hx, hb, hml, hown, hts⟩ (c_X11_machine l hfl dC dI cI cM ya ms ju li ct tg fw a1 a2 a3 s.heap.size) (cwV 3 hts gL_machine_X11_machine rfl rfl rfl (by decide +kernel) ⟨Nat.le_of_ble_eq_true rfl, Nat.le_of_ble_eq_true rfl⟩) (pcVz (zX_ok) hPc hDc hKc hN hZ hS hFc (ci := 16) (q0 := 0) rfl rfl) rfl rfl hl.1 rfl (lv_room (Nat.le_of_ble_eq_true rfl)) dL_machine_7 ⟨Nat.le_of_ble_eq_true rfl, Nat.le_of_ble_eq_true rfl⟩) hS (fun q _ h => hFc q h) hFc (fun q _ h => hFc q h) (fun E9 ce9 q9 u9 t9 H9 locs9 ht9 hvm9 hp9 hE9 hz9 hk9 hS9 hc9 hv9 hcl9 => ?_) (fun r_1 u t H1 locs ht hvm hw_2 hB hz1 hk1 hS => ?_)
  · obtain ⟨rfl, hno⟩ := hE9
    refine vx_catch (name := "java/lang/IllegalArgumentException") hown [] ⟨0, 12, 15, 13⟩ [⟨0, 12, 19, 15⟩] htab (fun z hz => by cases hz) (by decide) (by decide) (hts (.classLink RL 13 "java/lang/IllegalArgumentException") (by decide +kernel)) (zX_use hZ (.castable "java/lang/IllegalArgumentException" "java/lang/IllegalArgumentException") (by decide)) hc9 hv9 hcl9 ?_
    refine W.eq (g2 := F0 m 15 ls [.ref q9]) rfl ?_
    obtain ⟨hP, hD⟩ := va_join (wr := [(ou, .inl (cL, 1, .inr (.inl of9)))]) (w1 := []) hP hD [0, 1] [2] rfl rfl (by decide) (by decide) hk9 hFc P_nil D_nil
    have hS := hS9
    generalize H9 = H at hP hS ⊢
    have hP : va_P (dC, dI) vwCl [(ou, .inl (cL, 1, .inr (.inl of9)))] H := hP
    have hD : va_D A [(ou, .inl (cL, 1, .inr (.inl of9)))] := hD
    refine W.widen (k := 7) (n := 1059) (Nat.le_of_ble_eq_true rfl) (Nat.le_of_ble_eq_true rfl) ?_
    refine lv_astore (lv' := [(5, .ref q9), (0, .ref ya), (1, .int a1), (2, .int a2), (3, .int a3), (4, .ref ou)]) hx hb dL_machine_15 hl (by decide) rfl (fun ls hl => ?_)
    refine lv_iconst (v := 1) hx hb dL_machine_17 (by decide) ?_
    refine vx_ret ?_
    have hP9 := hP.sub (ws' := [(ou, .inl (cL, 1, .inr (.inl of9)))]) [0] rfl
    have hD9 := hD.sub (ws' := [(ou, .inl (cL, 1, .inr (.inl of9)))]) [0] (by decide) rfl
    have hK9 := hK.sub (tys' := [(cL, .long)]) [2] rfl
    exact W.iret (v := 1) hx hb hr (fun t ht hW => ⟨⟨1, of9, rfl, Or.inr ⟨rfl, hno⟩, ⟨by rw [ht]; exact hP9, va_K.moved hW.alike hK9, hD9⟩⟩, hS.F ht⟩) hS.2.2 dL_machine_18
  · skip
    obtain ⟨hP1, hK1, hD1⟩ := hB
    rw [ht] at hP1
    try dsimp only at hw_2
    obtain ⟨hP, hD⟩ := va_join (wr := [(ou, .inl (cL, 1, .inr (.inl of9)))]) (w1 := []) hP hD [0, 1] [2] rfl rfl (by decide) (by decide) hk1 hFc hP1 hD1
    generalize H1 = H at hP hS ⊢
    have hP : va_P (dC, dI) vwCl [(ou, .inl (cL, 1, .inr (.inl of9)))] H := hP
    have hD : va_D A [(ou, .inl (cL, 1, .inr (.inl of9)))] := hD
    refine W.widen (k := 7) (n := 1059) (Nat.le_of_ble_eq_true rfl) (Nat.le_of_ble_eq_true rfl) ?_
    refine lv_i2l hx hb dL_machine_10 rfl ?_
    refine va_last hx hb hK hP hD hS 0 2 rfl rfl (show vp_in (nI 0) 1 from vp_in_nI (by decide) (by decide)) dL_machine_11 (fun H locs hP hD hS => ?_)
    obtain ⟨f_3, ef_3⟩ : ∃ z, z = (vp_updL of9 ((0 : Int32)).toNatClampNeg r_1.toInt64) := ⟨_, rfl⟩
    have hP : va_P (dC, dI) vwCl [(ou, .inl (cL, 1, .inr (.inl f_3)))] H := by rw [ef_3]; exact hP
    have hD : va_D A [(ou, .inl (cL, 1, .inr (.inl f_3)))] := by rw [ef_3]; exact hD
    refine lv_goto (tgt := 23) hx hb dL_machine_12 (by decide) ?_
    refine lv_iconst (v := 0) hx hb dL_machine_23 (by decide) ?_
    refine vx_ret ?_
    have hP9 := hP.sub (ws' := [(ou, .inl (cL, 1, .inr (.inl f_3)))]) [0] rfl
    have hD9 := hD.sub (ws' := [(ou, .inl (cL, 1, .inr (.inl f_3)))]) [0] (by decide) rfl
    have hK9 := hK.sub (tys' := [(cL, .long)]) [2] rfl
    exact W.iret (v := 0) hx hb hr (fun t ht hW => ⟨⟨0, f_3, rfl, Or.inl ⟨rfl, hw_2.2, by rw [ef_3, hw_2.1]; exact up0⟩, ⟨by rw [ht]; exact hP9, va_K.moved hW.alike hK9, hD9⟩⟩, hS.F ht⟩) hS.2.2 dL_machine_24

set_option maxHeartbeats 4000000 in
set_option maxRecDepth 100000 in
/-- L_count -/
theorem c_L_count (l : Launch) (hfl : l.stackTraces = false) (dC : Nat → ClassId) (dI : Nat → Nat → Nat) (cI : ClassId) (ya ms ju li ct tg fw : Nat) (cr cu cg cp co : Nat) (f1 f2 f3 f4 : Nat → Int32) (a1 a2 a3 a4 : Int32) (cL : ClassId) (ou : Nat) (of9 : Nat → Int64) (sz : Nat) : vx_Met l yL_count wsL_count ({ frames := 8, cells := 3, slots := 18, locals := 144 }) (va_Pc [.ref ya, .int a1, .int a2, .int a3, .int a4, .ref ou] (cPCz (zX) dC dI [(ya, .inr (16, [.ref ms, .int 0, .ref ju, .ref li, .ref ct, .ref tg, .ref fw])), (ct, .inr (5, [.int 0, .ref cr, .ref cu, .ref cg, .ref cp, .ref co])), (cu, .inl (cI, 12, .inl f1)), (cg, .inl (cI, 12, .inl f2)), (cp, .inl (cI, 12, .inl f3)), (co, .inl (cI, 12, .inl f4)), (ou, .inl (cL, 1, .inr (.inl of9)))] [(cI, .int), (cL, .long)] sz)) (va_Qi (fun (r : Int32) (u : Nat → Int64) => (r = 0 ∧ pCount a1 a2 a3 a4 ∧ u 0 = (1 : Int32).toInt64) ∨ (r = 1 ∧ ¬ pCount a1 a2 a3 a4)) (fun (u : Nat → Int64) t => cQB dC dI [(ou, .inl (cL, 1, .inr (.inl u)))] [(cL, .long)] (va_A [(ya, .inr (16, [.ref ms, .int 0, .ref ju, .ref li, .ref ct, .ref tg, .ref fw])), (ct, .inr (5, [.int 0, .ref cr, .ref cu, .ref cg, .ref cp, .ref co])), (cu, .inl (cI, 12, .inl f1)), (cg, .inl (cI, 12, .inl f2)), (cp, .inl (cI, 12, .inl f3)), (co, .inl (cI, 12, .inl f4)), (ou, .inl (cL, 1, .inr (.inl of9)))] sz) t) (va_A [(ya, .inr (16, [.ref ms, .int 0, .ref ju, .ref li, .ref ct, .ref tg, .ref fw])), (ct, .inr (5, [.int 0, .ref cr, .ref cu, .ref cg, .ref cp, .ref co])), (cu, .inl (cI, 12, .inl f1)), (cg, .inl (cI, 12, .inl f2)), (cp, .inl (cI, 12, .inl f3)), (co, .inl (cI, 12, .inl f4)), (ou, .inl (cL, 1, .inr (.inl of9)))] sz)) (vx_X (fun (_ : Unit) => True) (fun (E9 : String) (_ : Unit) (_ : State) => False) (va_A [(ya, .inr (16, [.ref ms, .int 0, .ref ju, .ref li, .ref ct, .ref tg, .ref fw])), (ct, .inr (5, [.int 0, .ref cr, .ref cu, .ref cg, .ref cp, .ref co])), (cu, .inl (cI, 12, .inl f1)), (cg, .inl (cI, 12, .inl f2)), (cp, .inl (cI, 12, .inl f3)), (co, .inl (cI, 12, .inl f4)), (ou, .inl (cL, 1, .inr (.inl of9)))] sz)) 3 18 (va_A [(ya, .inr (16, [.ref ms, .int 0, .ref ju, .ref li, .ref ct, .ref tg, .ref fw])), (ct, .inr (5, [.int 0, .ref cr, .ref cu, .ref cg, .ref cp, .ref co])), (cu, .inl (cI, 12, .inl f1)), (cg, .inl (cI, 12, .inl f2)), (cp, .inl (cI, 12, .inl f3)), (co, .inl (cI, 12, .inl f4)), (ou, .inl (cL, 1, .inr (.inl of9)))] sz) := by
  refine vx_ofWH (cc := cL_count) (maxL := 7) (ret := (some .int)) (hh := [(0, 14, 17, 13), (0, 14, 21, 15)]) (by decide) rfl ?_
  intro p e s m args below meth c s₁ B hml hv
  obtain ⟨rfl, ⟨hsz, hP, hK, hD0, hN⟩, hZ⟩ := hv
  have hx := B.exec
  have hb := B.bytes
  have hr := B.returns
  have hts := atoms_spec (ws := wsL_count) B.pre
  have hown : s.vm.findClass RL = some m.cls := findClass_of_methodNamed B.named
  have hlocks := B.notSynchronized
  subst hsz
  have hD := hD0.self (sz := s.heap.size)
  generalize hAe : va_A [(ya, .inr (16, [.ref ms, .int 0, .ref ju, .ref li, .ref ct, .ref tg, .ref fw])), (ct, .inr (5, [.int 0, .ref cr, .ref cu, .ref cg, .ref cp, .ref co])), (cu, .inl (cI, 12, .inl f1)), (cg, .inl (cI, 12, .inl f2)), (cp, .inl (cI, 12, .inl f3)), (co, .inl (cI, 12, .inl f4)), (ou, .inl (cL, 1, .inr (.inl of9)))] s.heap.size = A at hD hZ ⊢
  have hA : ∀ q : Nat, s.heap.size ≤ q → A q := fun q h => by rw [← hAe]; exact Or.inr h
  have hS : va_S A s.heap s.heap [] := va_S.rf
  have hP : va_P (dC, dI) vwCl [(ya, .inr (16, [.ref ms, .int 0, .ref ju, .ref li, .ref ct, .ref tg, .ref fw])), (ct, .inr (5, [.int 0, .ref cr, .ref cu, .ref cg, .ref cp, .ref co])), (cu, .inl (cI, 12, .inl f1)), (cg, .inl (cI, 12, .inl f2)), (cp, .inl (cI, 12, .inl f3)), (co, .inl (cI, 12, .inl f4)), (ou, .inl (cL, 1, .inr (.inl of9)))] s.heap := hP
  have hD : va_D A [(ya, .inr (16, [.ref ms, .int 0, .ref ju, .ref li, .ref ct, .ref tg, .ref fw])), (ct, .inr (5, [.int 0, .ref cr, .ref cu, .ref cg, .ref cp, .ref co])), (cu, .inl (cI, 12, .inl f1)), (cg, .inl (cI, 12, .inl f2)), (cp, .inl (cI, 12, .inl f3)), (co, .inl (cI, 12, .inl f4)), (ou, .inl (cL, 1, .inr (.inl of9)))] := hD
  have hl := lv_entry ([.ref ya, .int a1, .int a2, .int a3, .int a4, .ref ou]) (n := 7) (Nat.le_of_ble_eq_true rfl)
  rw [lg_entry_eq]
  generalize (lg_sl ([.ref ya, .int a1, .int a2, .int a3, .int a4, .ref ou]) ++ List.replicate (7 - (lg_sl ([.ref ya, .int a1, .int a2, .int a3, .int a4, .ref ou])).length) Slot.unset).toArray = ls at hl ⊢
  have hl : lv_has ls 7 [(0, .ref ya), (1, .int a1), (2, .int a2), (3, .int a3), (4, .int a4), (5, .ref ou)] := hl
  have htab : c.exceptionTable.toList = tableOf [(0, 14, 17, 13), (0, 14, 21, 15)] := vx_table B (hts (.codeWith yL_count cL_count 7 (some .int) [(0, 14, 17, 13), (0, 14, 21, 15)]) (show _ ∈ wsL_count from List.mem_cons_self))
  refine lv_aload hx hb dL_count_0 (lv_at hl 5 rfl) ?_
  refine lv_iconst (v := 0) hx hb dL_count_2 (by decide) ?_
  refine lv_aload_n hx hb dL_count_3 rfl (lv_at hl 0 rfl) ?_
  refine lv_iload_n hx hb dL_count_4 rfl (lv_at hl 1 rfl) ?_
  refine lv_iload_n hx hb dL_count_5 rfl (lv_at hl 2 rfl) ?_
  refine lv_iload_n hx hb dL_count_6 rfl (lv_at hl 3 rfl) ?_
  refine lv_iload hx hb dL_count_7 (lv_at hl 4 rfl) ?_
  have hPc := hP.sub (ws' := [(ya, .inr (16, [.ref ms, .int 0, .ref ju, .ref li, .ref ct, .ref tg, .ref fw])), (ct, .inr (5, [.int 0, .ref cr, .ref cu, .ref cg, .ref cp, .ref co])), (cu, .inl (cI, 12, .inl f1)), (cg, .inl (cI, 12, .inl f2)), (cp, .inl (cI, 12, .inl f3)), (co, .inl (cI, 12, .inl f4))]) [0, 1, 2, 3, 4, 5] rfl
  have hDc := hD.sub (ws' := [(ya, .inr (16, [.ref ms, .int 0, .ref ju, .ref li, .ref ct, .ref tg, .ref fw])), (ct, .inr (5, [.int 0, .ref cr, .ref cu, .ref cg, .ref cp, .ref co])), (cu, .inl (cI, 12, .inl f1)), (cg, .inl (cI, 12, .inl f2)), (cp, .inl (cI, 12, .inl f3)), (co, .inl (cI, 12, .inl f4))]) [0, 1, 2, 3, 4, 5] (by decide) rfl
  have hKc := hK.sub (tys' := [(cI, .int)]) [0] rfl
  have hFc := va_free (wc := [(ya, .inr (16, [.ref ms, .int 0, .ref ju, .ref li, .ref ct, .ref tg, .ref fw])), (ct, .inr (5, [.int 0, .ref cr, .ref cu, .ref cg, .ref cp, .ref co])), (cu, .inl (cI, 12, .inl f1)), (cg, .inl (cI, 12, .inl f2)), (cp, .inl (cI, 12, .inl f3)), (co, .inl (cI, 12, .inl f4))]) hD hS hA [0, 1, 2, 3, 4, 5] rfl
  refine vx_calli (vx_runV (As := [.int a1, .int a2, .int a3, .int a4]) (rest := [.int 0, .ref ou]) ⟨hx, hb, hml, hown, hts⟩ (c_X11_count l hfl dC dI cI ya ms ju li ct tg fw cr cu cg cp co f1 f2 f3 f4 a1 a2 a3 a4 s.heap.size) (cwV 4 hts gL_count_X11_count rfl rfl rfl (by decide +kernel) ⟨Nat.le_of_ble_eq_true rfl, Nat.le_of_ble_eq_true rfl⟩) (pcVz (zX_ok) hPc hDc hKc hN hZ hS hFc (ci := 16) (q0 := 0) rfl rfl) rfl rfl hl.1 rfl (lv_room (Nat.le_of_ble_eq_true rfl)) dL_count_9 ⟨Nat.le_of_ble_eq_true rfl, Nat.le_of_ble_eq_true rfl⟩) hS (fun q _ h => hFc q h) hFc (fun q _ h => hFc q h) (fun E9 ce9 q9 u9 t9 H9 locs9 ht9 hvm9 hp9 hE9 hz9 hk9 hS9 hc9 hv9 hcl9 => ?_) (fun r_1 u t H1 locs ht hvm hw_2 hB hz1 hk1 hS => ?_)
  · obtain ⟨rfl, hno⟩ := hE9
    refine vx_catch (name := "java/lang/IllegalArgumentException") hown [] ⟨0, 14, 17, 13⟩ [⟨0, 14, 21, 15⟩] htab (fun z hz => by cases hz) (by decide) (by decide) (hts (.classLink RL 13 "java/lang/IllegalArgumentException") (by decide +kernel)) (zX_use hZ (.castable "java/lang/IllegalArgumentException" "java/lang/IllegalArgumentException") (by decide)) hc9 hv9 hcl9 ?_
    refine W.eq (g2 := F0 m 17 ls [.ref q9]) rfl ?_
    obtain ⟨hP, hD⟩ := va_join (wr := [(ou, .inl (cL, 1, .inr (.inl of9)))]) (w1 := []) hP hD [0, 1, 2, 3, 4, 5] [6] rfl rfl (by decide) (by decide) hk9 hFc P_nil D_nil
    have hS := hS9
    generalize H9 = H at hP hS ⊢
    have hP : va_P (dC, dI) vwCl [(ou, .inl (cL, 1, .inr (.inl of9)))] H := hP
    have hD : va_D A [(ou, .inl (cL, 1, .inr (.inl of9)))] := hD
    refine W.widen (k := 3) (n := 18) (Nat.le_of_ble_eq_true rfl) (Nat.le_of_ble_eq_true rfl) ?_
    refine lv_astore (lv' := [(6, .ref q9), (0, .ref ya), (1, .int a1), (2, .int a2), (3, .int a3), (4, .int a4), (5, .ref ou)]) hx hb dL_count_17 hl (by decide) rfl (fun ls hl => ?_)
    refine lv_iconst (v := 1) hx hb dL_count_19 (by decide) ?_
    refine vx_ret ?_
    have hP9 := hP.sub (ws' := [(ou, .inl (cL, 1, .inr (.inl of9)))]) [0] rfl
    have hD9 := hD.sub (ws' := [(ou, .inl (cL, 1, .inr (.inl of9)))]) [0] (by decide) rfl
    have hK9 := hK.sub (tys' := [(cL, .long)]) [1] rfl
    exact W.iret (v := 1) hx hb hr (fun t ht hW => ⟨⟨1, of9, rfl, Or.inr ⟨rfl, hno⟩, ⟨by rw [ht]; exact hP9, va_K.moved hW.alike hK9, hD9⟩⟩, hS.F ht⟩) hS.2.2 dL_count_20
  · skip
    obtain ⟨hP1, hK1, hD1⟩ := hB
    rw [ht] at hP1
    try dsimp only at hw_2
    obtain ⟨hP, hD⟩ := va_join (wr := [(ou, .inl (cL, 1, .inr (.inl of9)))]) (w1 := []) hP hD [0, 1, 2, 3, 4, 5] [6] rfl rfl (by decide) (by decide) hk1 hFc hP1 hD1
    generalize H1 = H at hP hS ⊢
    have hP : va_P (dC, dI) vwCl [(ou, .inl (cL, 1, .inr (.inl of9)))] H := hP
    have hD : va_D A [(ou, .inl (cL, 1, .inr (.inl of9)))] := hD
    refine W.widen (k := 3) (n := 18) (Nat.le_of_ble_eq_true rfl) (Nat.le_of_ble_eq_true rfl) ?_
    refine lv_i2l hx hb dL_count_12 rfl ?_
    refine va_last hx hb hK hP hD hS 0 1 rfl rfl (show vp_in (nI 0) 1 from vp_in_nI (by decide) (by decide)) dL_count_13 (fun H locs hP hD hS => ?_)
    obtain ⟨f_3, ef_3⟩ : ∃ z, z = (vp_updL of9 ((0 : Int32)).toNatClampNeg r_1.toInt64) := ⟨_, rfl⟩
    have hP : va_P (dC, dI) vwCl [(ou, .inl (cL, 1, .inr (.inl f_3)))] H := by rw [ef_3]; exact hP
    have hD : va_D A [(ou, .inl (cL, 1, .inr (.inl f_3)))] := by rw [ef_3]; exact hD
    refine lv_goto (tgt := 25) hx hb dL_count_14 (by decide) ?_
    refine lv_iconst (v := 0) hx hb dL_count_25 (by decide) ?_
    refine vx_ret ?_
    have hP9 := hP.sub (ws' := [(ou, .inl (cL, 1, .inr (.inl f_3)))]) [0] rfl
    have hD9 := hD.sub (ws' := [(ou, .inl (cL, 1, .inr (.inl f_3)))]) [0] (by decide) rfl
    have hK9 := hK.sub (tys' := [(cL, .long)]) [1] rfl
    exact W.iret (v := 0) hx hb hr (fun t ht hW => ⟨⟨0, f_3, rfl, Or.inl ⟨rfl, hw_2.2, by rw [ef_3, hw_2.1]; exact up0⟩, ⟨by rw [ht]; exact hP9, va_K.moved hW.alike hK9, hD9⟩⟩, hS.F ht⟩) hS.2.2 dL_count_26

set_option maxHeartbeats 4000000 in
set_option maxRecDepth 100000 in
/-- L_runCounters -/
theorem c_L_runCounters (l : Launch) (hfl : l.stackTraces = false) (dC : Nat → ClassId) (dI : Nat → Nat → Nat) (cI : ClassId) (ya ms ju li ct tg fw : Nat) (cr cu cg cp co : Nat) (f1 : Nat → Int32) (a1 a2 a3 : Int32) (cL : ClassId) (ou : Nat) (of9 : Nat → Int64) (sz : Nat) : vx_Met l yL_runCounters wsL_runCounters ({ frames := 8, cells := 2, slots := 12, locals := 143 }) (va_Pc [.ref ya, .int a1, .int a2, .int a3, .ref ou] (cPCz (zX) dC dI [(ya, .inr (16, [.ref ms, .int 0, .ref ju, .ref li, .ref ct, .ref tg, .ref fw])), (ct, .inr (5, [.int 0, .ref cr, .ref cu, .ref cg, .ref cp, .ref co])), (cr, .inl (cI, 4, .inl f1)), (ou, .inl (cL, 1, .inr (.inl of9)))] [(cI, .int), (cL, .long)] sz)) (va_Qi (fun (r : Int32) (u : Nat → Int64) => (r = 0 ∧ pRunC a1 a2 a3 ∧ u 0 = (0 : Int32).toInt64) ∨ (r = 1 ∧ ¬ pRunC a1 a2 a3)) (fun (u : Nat → Int64) t => cQB dC dI [(ou, .inl (cL, 1, .inr (.inl u)))] [(cL, .long)] (va_A [(ya, .inr (16, [.ref ms, .int 0, .ref ju, .ref li, .ref ct, .ref tg, .ref fw])), (ct, .inr (5, [.int 0, .ref cr, .ref cu, .ref cg, .ref cp, .ref co])), (cr, .inl (cI, 4, .inl f1)), (ou, .inl (cL, 1, .inr (.inl of9)))] sz) t) (va_A [(ya, .inr (16, [.ref ms, .int 0, .ref ju, .ref li, .ref ct, .ref tg, .ref fw])), (ct, .inr (5, [.int 0, .ref cr, .ref cu, .ref cg, .ref cp, .ref co])), (cr, .inl (cI, 4, .inl f1)), (ou, .inl (cL, 1, .inr (.inl of9)))] sz)) (vx_X (fun (_ : Unit) => True) (fun (E9 : String) (_ : Unit) (_ : State) => False) (va_A [(ya, .inr (16, [.ref ms, .int 0, .ref ju, .ref li, .ref ct, .ref tg, .ref fw])), (ct, .inr (5, [.int 0, .ref cr, .ref cu, .ref cg, .ref cp, .ref co])), (cr, .inl (cI, 4, .inl f1)), (ou, .inl (cL, 1, .inr (.inl of9)))] sz)) 2 12 (va_A [(ya, .inr (16, [.ref ms, .int 0, .ref ju, .ref li, .ref ct, .ref tg, .ref fw])), (ct, .inr (5, [.int 0, .ref cr, .ref cu, .ref cg, .ref cp, .ref co])), (cr, .inl (cI, 4, .inl f1)), (ou, .inl (cL, 1, .inr (.inl of9)))] sz) := by
  refine vx_ofWH (cc := cL_runCounters) (maxL := 6) (ret := (some .int)) (hh := [(0, 12, 15, 13)]) (by decide) rfl ?_
  intro p e s m args below meth c s₁ B hml hv
  obtain ⟨rfl, ⟨hsz, hP, hK, hD0, hN⟩, hZ⟩ := hv
  have hx := B.exec
  have hb := B.bytes
  have hr := B.returns
  have hts := atoms_spec (ws := wsL_runCounters) B.pre
  have hown : s.vm.findClass RL = some m.cls := findClass_of_methodNamed B.named
  have hlocks := B.notSynchronized
  subst hsz
  have hD := hD0.self (sz := s.heap.size)
  generalize hAe : va_A [(ya, .inr (16, [.ref ms, .int 0, .ref ju, .ref li, .ref ct, .ref tg, .ref fw])), (ct, .inr (5, [.int 0, .ref cr, .ref cu, .ref cg, .ref cp, .ref co])), (cr, .inl (cI, 4, .inl f1)), (ou, .inl (cL, 1, .inr (.inl of9)))] s.heap.size = A at hD hZ ⊢
  have hA : ∀ q : Nat, s.heap.size ≤ q → A q := fun q h => by rw [← hAe]; exact Or.inr h
  have hS : va_S A s.heap s.heap [] := va_S.rf
  have hP : va_P (dC, dI) vwCl [(ya, .inr (16, [.ref ms, .int 0, .ref ju, .ref li, .ref ct, .ref tg, .ref fw])), (ct, .inr (5, [.int 0, .ref cr, .ref cu, .ref cg, .ref cp, .ref co])), (cr, .inl (cI, 4, .inl f1)), (ou, .inl (cL, 1, .inr (.inl of9)))] s.heap := hP
  have hD : va_D A [(ya, .inr (16, [.ref ms, .int 0, .ref ju, .ref li, .ref ct, .ref tg, .ref fw])), (ct, .inr (5, [.int 0, .ref cr, .ref cu, .ref cg, .ref cp, .ref co])), (cr, .inl (cI, 4, .inl f1)), (ou, .inl (cL, 1, .inr (.inl of9)))] := hD
  have hl := lv_entry ([.ref ya, .int a1, .int a2, .int a3, .ref ou]) (n := 6) (Nat.le_of_ble_eq_true rfl)
  rw [lg_entry_eq]
  generalize (lg_sl ([.ref ya, .int a1, .int a2, .int a3, .ref ou]) ++ List.replicate (6 - (lg_sl ([.ref ya, .int a1, .int a2, .int a3, .ref ou])).length) Slot.unset).toArray = ls at hl ⊢
  have hl : lv_has ls 6 [(0, .ref ya), (1, .int a1), (2, .int a2), (3, .int a3), (4, .ref ou)] := hl
  have htab : c.exceptionTable.toList = tableOf [(0, 12, 15, 13)] := vx_table B (hts (.codeWith yL_runCounters cL_runCounters 6 (some .int) [(0, 12, 15, 13)]) (show _ ∈ wsL_runCounters from List.mem_cons_self))
  refine lv_aload hx hb dL_runCounters_0 (lv_at hl 4 rfl) ?_
  refine lv_iconst (v := 0) hx hb dL_runCounters_2 (by decide) ?_
  refine lv_aload_n hx hb dL_runCounters_3 rfl (lv_at hl 0 rfl) ?_
  refine lv_iload_n hx hb dL_runCounters_4 rfl (lv_at hl 1 rfl) ?_
  refine lv_iload_n hx hb dL_runCounters_5 rfl (lv_at hl 2 rfl) ?_
  refine lv_iload_n hx hb dL_runCounters_6 rfl (lv_at hl 3 rfl) ?_
  have hPc := hP.sub (ws' := [(ya, .inr (16, [.ref ms, .int 0, .ref ju, .ref li, .ref ct, .ref tg, .ref fw])), (ct, .inr (5, [.int 0, .ref cr, .ref cu, .ref cg, .ref cp, .ref co])), (cr, .inl (cI, 4, .inl f1))]) [0, 1, 2] rfl
  have hDc := hD.sub (ws' := [(ya, .inr (16, [.ref ms, .int 0, .ref ju, .ref li, .ref ct, .ref tg, .ref fw])), (ct, .inr (5, [.int 0, .ref cr, .ref cu, .ref cg, .ref cp, .ref co])), (cr, .inl (cI, 4, .inl f1))]) [0, 1, 2] (by decide) rfl
  have hKc := hK.sub (tys' := [(cI, .int)]) [0] rfl
  have hFc := va_free (wc := [(ya, .inr (16, [.ref ms, .int 0, .ref ju, .ref li, .ref ct, .ref tg, .ref fw])), (ct, .inr (5, [.int 0, .ref cr, .ref cu, .ref cg, .ref cp, .ref co])), (cr, .inl (cI, 4, .inl f1))]) hD hS hA [0, 1, 2] rfl
  refine vx_calli (vx_runV (As := [.int a1, .int a2, .int a3]) (rest := [.int 0, .ref ou]) ⟨hx, hb, hml, hown, hts⟩ (c_X11_runCounters l hfl dC dI cI ya ms ju li ct tg fw cr cu cg cp co f1 a1 a2 a3 s.heap.size) (cwV 3 hts gL_runCounters_X11_runCounters rfl rfl rfl (by decide +kernel) ⟨Nat.le_of_ble_eq_true rfl, Nat.le_of_ble_eq_true rfl⟩) (pcVz (zX_ok) hPc hDc hKc hN hZ hS hFc (ci := 16) (q0 := 0) rfl rfl) rfl rfl hl.1 rfl (lv_room (Nat.le_of_ble_eq_true rfl)) dL_runCounters_7 ⟨Nat.le_of_ble_eq_true rfl, Nat.le_of_ble_eq_true rfl⟩) hS (fun q _ h => hFc q h) hFc (fun q _ h => hFc q h) (fun E9 ce9 q9 u9 t9 H9 locs9 ht9 hvm9 hp9 hE9 hz9 hk9 hS9 hc9 hv9 hcl9 => ?_) (fun r_1 u t H1 locs ht hvm hw_2 hB hz1 hk1 hS => ?_)
  · obtain ⟨rfl, hno⟩ := hE9
    refine vx_catch (name := "java/lang/IllegalArgumentException") hown [] ⟨0, 12, 15, 13⟩ [] htab (fun z hz => by cases hz) (by decide) (by decide) (hts (.classLink RL 13 "java/lang/IllegalArgumentException") (by decide +kernel)) (zX_use hZ (.castable "java/lang/IllegalArgumentException" "java/lang/IllegalArgumentException") (by decide)) hc9 hv9 hcl9 ?_
    refine W.eq (g2 := F0 m 15 ls [.ref q9]) rfl ?_
    obtain ⟨hP, hD⟩ := va_join (wr := [(ou, .inl (cL, 1, .inr (.inl of9)))]) (w1 := []) hP hD [0, 1, 2] [3] rfl rfl (by decide) (by decide) hk9 hFc P_nil D_nil
    have hS := hS9
    generalize H9 = H at hP hS ⊢
    have hP : va_P (dC, dI) vwCl [(ou, .inl (cL, 1, .inr (.inl of9)))] H := hP
    have hD : va_D A [(ou, .inl (cL, 1, .inr (.inl of9)))] := hD
    refine W.widen (k := 2) (n := 12) (Nat.le_of_ble_eq_true rfl) (Nat.le_of_ble_eq_true rfl) ?_
    refine lv_astore (lv' := [(5, .ref q9), (0, .ref ya), (1, .int a1), (2, .int a2), (3, .int a3), (4, .ref ou)]) hx hb dL_runCounters_15 hl (by decide) rfl (fun ls hl => ?_)
    refine lv_iconst (v := 1) hx hb dL_runCounters_17 (by decide) ?_
    refine vx_ret ?_
    have hP9 := hP.sub (ws' := [(ou, .inl (cL, 1, .inr (.inl of9)))]) [0] rfl
    have hD9 := hD.sub (ws' := [(ou, .inl (cL, 1, .inr (.inl of9)))]) [0] (by decide) rfl
    have hK9 := hK.sub (tys' := [(cL, .long)]) [1] rfl
    exact W.iret (v := 1) hx hb hr (fun t ht hW => ⟨⟨1, of9, rfl, Or.inr ⟨rfl, hno⟩, ⟨by rw [ht]; exact hP9, va_K.moved hW.alike hK9, hD9⟩⟩, hS.F ht⟩) hS.2.2 dL_runCounters_18
  · skip
    obtain ⟨hP1, hK1, hD1⟩ := hB
    rw [ht] at hP1
    try dsimp only at hw_2
    obtain ⟨hP, hD⟩ := va_join (wr := [(ou, .inl (cL, 1, .inr (.inl of9)))]) (w1 := []) hP hD [0, 1, 2] [3] rfl rfl (by decide) (by decide) hk1 hFc hP1 hD1
    generalize H1 = H at hP hS ⊢
    have hP : va_P (dC, dI) vwCl [(ou, .inl (cL, 1, .inr (.inl of9)))] H := hP
    have hD : va_D A [(ou, .inl (cL, 1, .inr (.inl of9)))] := hD
    refine W.widen (k := 2) (n := 12) (Nat.le_of_ble_eq_true rfl) (Nat.le_of_ble_eq_true rfl) ?_
    refine lv_i2l hx hb dL_runCounters_10 rfl ?_
    refine va_last hx hb hK hP hD hS 0 1 rfl rfl (show vp_in (nI 0) 1 from vp_in_nI (by decide) (by decide)) dL_runCounters_11 (fun H locs hP hD hS => ?_)
    obtain ⟨f_3, ef_3⟩ : ∃ z, z = (vp_updL of9 ((0 : Int32)).toNatClampNeg r_1.toInt64) := ⟨_, rfl⟩
    have hP : va_P (dC, dI) vwCl [(ou, .inl (cL, 1, .inr (.inl f_3)))] H := by rw [ef_3]; exact hP
    have hD : va_D A [(ou, .inl (cL, 1, .inr (.inl f_3)))] := by rw [ef_3]; exact hD
    refine lv_goto (tgt := 19) hx hb dL_runCounters_12 (by decide) ?_
    refine lv_iconst (v := 0) hx hb dL_runCounters_19 (by decide) ?_
    refine vx_ret ?_
    have hP9 := hP.sub (ws' := [(ou, .inl (cL, 1, .inr (.inl f_3)))]) [0] rfl
    have hD9 := hD.sub (ws' := [(ou, .inl (cL, 1, .inr (.inl f_3)))]) [0] (by decide) rfl
    have hK9 := hK.sub (tys' := [(cL, .long)]) [1] rfl
    exact W.iret (v := 0) hx hb hr (fun t ht hW => ⟨⟨0, f_3, rfl, Or.inl ⟨rfl, hw_2.2, by rw [ef_3, hw_2.1]; exact up0⟩, ⟨by rw [ht]; exact hP9, va_K.moved hW.alike hK9, hD9⟩⟩, hS.F ht⟩) hS.2.2 dL_runCounters_20

set_option maxHeartbeats 4000000 in
set_option maxRecDepth 100000 in
/-- L_register -/
theorem c_L_register (l : Launch) (hfl : l.stackTraces = false) (dC : Nat → ClassId) (dI : Nat → Nat → Nat) (cI : ClassId) (ya ms ju li ct tg fw : Nat) (cr cu cg cp co : Nat) (a1 : Int32) (cL : ClassId) (ou : Nat) (of9 : Nat → Int64) (sz : Nat) : vx_Met l yL_register wsL_register ({ frames := 7, cells := 1, slots := 6, locals := 121 }) (va_Pc [.ref ya, .int a1, .ref ou] (cPCz (zX) dC dI [(ya, .inr (16, [.ref ms, .int 0, .ref ju, .ref li, .ref ct, .ref tg, .ref fw])), (ct, .inr (5, [.int 0, .ref cr, .ref cu, .ref cg, .ref cp, .ref co])), (cr, .inl (cI, 4, .inl (fun _ => 0))), (ou, .inl (cL, 1, .inr (.inl of9)))] [(cI, .int), (cL, .long)] sz)) (va_Qi (fun (r : Int32) (u : Nat → Int64) => (r = 0 ∧ pReg a1 ∧ u 0 = (0 : Int32).toInt64) ∨ (r = 1 ∧ ¬ pReg a1)) (fun (u : Nat → Int64) t => cQB dC dI [(ou, .inl (cL, 1, .inr (.inl u)))] [(cL, .long)] (va_A [(ya, .inr (16, [.ref ms, .int 0, .ref ju, .ref li, .ref ct, .ref tg, .ref fw])), (ct, .inr (5, [.int 0, .ref cr, .ref cu, .ref cg, .ref cp, .ref co])), (cr, .inl (cI, 4, .inl (fun _ => 0))), (ou, .inl (cL, 1, .inr (.inl of9)))] sz) t) (va_A [(ya, .inr (16, [.ref ms, .int 0, .ref ju, .ref li, .ref ct, .ref tg, .ref fw])), (ct, .inr (5, [.int 0, .ref cr, .ref cu, .ref cg, .ref cp, .ref co])), (cr, .inl (cI, 4, .inl (fun _ => 0))), (ou, .inl (cL, 1, .inr (.inl of9)))] sz)) (vx_X (fun (_ : Unit) => True) (fun (E9 : String) (_ : Unit) (_ : State) => False) (va_A [(ya, .inr (16, [.ref ms, .int 0, .ref ju, .ref li, .ref ct, .ref tg, .ref fw])), (ct, .inr (5, [.int 0, .ref cr, .ref cu, .ref cg, .ref cp, .ref co])), (cr, .inl (cI, 4, .inl (fun _ => 0))), (ou, .inl (cL, 1, .inr (.inl of9)))] sz)) 1 6 (va_A [(ya, .inr (16, [.ref ms, .int 0, .ref ju, .ref li, .ref ct, .ref tg, .ref fw])), (ct, .inr (5, [.int 0, .ref cr, .ref cu, .ref cg, .ref cp, .ref co])), (cr, .inl (cI, 4, .inl (fun _ => 0))), (ou, .inl (cL, 1, .inr (.inl of9)))] sz) := by
  refine vx_ofWH (cc := cL_register) (maxL := 4) (ret := (some .int)) (hh := [(0, 9, 12, 21)]) (by decide) rfl ?_
  intro p e s m args below meth c s₁ B hml hv
  obtain ⟨rfl, ⟨hsz, hP, hK, hD0, hN⟩, hZ⟩ := hv
  have hx := B.exec
  have hb := B.bytes
  have hr := B.returns
  have hts := atoms_spec (ws := wsL_register) B.pre
  have hown : s.vm.findClass RL = some m.cls := findClass_of_methodNamed B.named
  have hlocks := B.notSynchronized
  subst hsz
  have hD := hD0.self (sz := s.heap.size)
  generalize hAe : va_A [(ya, .inr (16, [.ref ms, .int 0, .ref ju, .ref li, .ref ct, .ref tg, .ref fw])), (ct, .inr (5, [.int 0, .ref cr, .ref cu, .ref cg, .ref cp, .ref co])), (cr, .inl (cI, 4, .inl (fun _ => 0))), (ou, .inl (cL, 1, .inr (.inl of9)))] s.heap.size = A at hD hZ ⊢
  have hA : ∀ q : Nat, s.heap.size ≤ q → A q := fun q h => by rw [← hAe]; exact Or.inr h
  have hS : va_S A s.heap s.heap [] := va_S.rf
  have hP : va_P (dC, dI) vwCl [(ya, .inr (16, [.ref ms, .int 0, .ref ju, .ref li, .ref ct, .ref tg, .ref fw])), (ct, .inr (5, [.int 0, .ref cr, .ref cu, .ref cg, .ref cp, .ref co])), (cr, .inl (cI, 4, .inl (fun _ => 0))), (ou, .inl (cL, 1, .inr (.inl of9)))] s.heap := hP
  have hD : va_D A [(ya, .inr (16, [.ref ms, .int 0, .ref ju, .ref li, .ref ct, .ref tg, .ref fw])), (ct, .inr (5, [.int 0, .ref cr, .ref cu, .ref cg, .ref cp, .ref co])), (cr, .inl (cI, 4, .inl (fun _ => 0))), (ou, .inl (cL, 1, .inr (.inl of9)))] := hD
  have hl := lv_entry ([.ref ya, .int a1, .ref ou]) (n := 4) (Nat.le_of_ble_eq_true rfl)
  rw [lg_entry_eq]
  generalize (lg_sl ([.ref ya, .int a1, .ref ou]) ++ List.replicate (4 - (lg_sl ([.ref ya, .int a1, .ref ou])).length) Slot.unset).toArray = ls at hl ⊢
  have hl : lv_has ls 4 [(0, .ref ya), (1, .int a1), (2, .ref ou)] := hl
  have htab : c.exceptionTable.toList = tableOf [(0, 9, 12, 21)] := vx_table B (hts (.codeWith yL_register cL_register 4 (some .int) [(0, 9, 12, 21)]) (show _ ∈ wsL_register from List.mem_cons_self))
  refine lv_aload_n hx hb dL_register_0 rfl (lv_at hl 2 rfl) ?_
  refine lv_iconst (v := 0) hx hb dL_register_1 (by decide) ?_
  refine lv_aload_n hx hb dL_register_2 rfl (lv_at hl 0 rfl) ?_
  refine lv_iload_n hx hb dL_register_3 rfl (lv_at hl 1 rfl) ?_
  have hPc := hP.sub (ws' := [(ya, .inr (16, [.ref ms, .int 0, .ref ju, .ref li, .ref ct, .ref tg, .ref fw])), (ct, .inr (5, [.int 0, .ref cr, .ref cu, .ref cg, .ref cp, .ref co])), (cr, .inl (cI, 4, .inl (fun _ => 0)))]) [0, 1, 2] rfl
  have hDc := hD.sub (ws' := [(ya, .inr (16, [.ref ms, .int 0, .ref ju, .ref li, .ref ct, .ref tg, .ref fw])), (ct, .inr (5, [.int 0, .ref cr, .ref cu, .ref cg, .ref cp, .ref co])), (cr, .inl (cI, 4, .inl (fun _ => 0)))]) [0, 1, 2] (by decide) rfl
  have hKc := hK.sub (tys' := [(cI, .int)]) [0] rfl
  have hFc := va_free (wc := [(ya, .inr (16, [.ref ms, .int 0, .ref ju, .ref li, .ref ct, .ref tg, .ref fw])), (ct, .inr (5, [.int 0, .ref cr, .ref cu, .ref cg, .ref cp, .ref co])), (cr, .inl (cI, 4, .inl (fun _ => 0)))]) hD hS hA [0, 1, 2] rfl
  refine vx_calli (vx_runV (As := [.int a1]) (rest := [.int 0, .ref ou]) ⟨hx, hb, hml, hown, hts⟩ (c_X11_register l hfl dC dI cI ya ms ju li ct tg fw cr cu cg cp co a1 s.heap.size) (cwV 1 hts gL_register_X11_register rfl rfl rfl (by decide +kernel) ⟨Nat.le_of_ble_eq_true rfl, Nat.le_of_ble_eq_true rfl⟩) (pcVz (zX_ok) hPc hDc hKc hN hZ hS hFc (ci := 16) (q0 := 0) rfl rfl) rfl rfl hl.1 rfl (lv_room (Nat.le_of_ble_eq_true rfl)) dL_register_4 ⟨Nat.le_of_ble_eq_true rfl, Nat.le_of_ble_eq_true rfl⟩) hS (fun q _ h => hFc q h) hFc (fun q _ h => hFc q h) (fun E9 ce9 q9 u9 t9 H9 locs9 ht9 hvm9 hp9 hE9 hz9 hk9 hS9 hc9 hv9 hcl9 => ?_) (fun r_1 u t H1 locs ht hvm hw_2 hB hz1 hk1 hS => ?_)
  · obtain ⟨rfl, hno⟩ := hE9
    refine vx_catch (name := "java/lang/IndexOutOfBoundsException") hown [] ⟨0, 9, 12, 21⟩ [] htab (fun z hz => by cases hz) (by decide) (by decide) (hts (.classLink RL 21 "java/lang/IndexOutOfBoundsException") (by decide +kernel)) (zX_use hZ (.castable "java/lang/IndexOutOfBoundsException" "java/lang/IndexOutOfBoundsException") (by decide)) hc9 hv9 hcl9 ?_
    refine W.eq (g2 := F0 m 12 ls [.ref q9]) rfl ?_
    obtain ⟨hP, hD⟩ := va_join (wr := [(ou, .inl (cL, 1, .inr (.inl of9)))]) (w1 := []) hP hD [0, 1, 2] [3] rfl rfl (by decide) (by decide) hk9 hFc P_nil D_nil
    have hS := hS9
    generalize H9 = H at hP hS ⊢
    have hP : va_P (dC, dI) vwCl [(ou, .inl (cL, 1, .inr (.inl of9)))] H := hP
    have hD : va_D A [(ou, .inl (cL, 1, .inr (.inl of9)))] := hD
    refine W.widen (k := 1) (n := 6) (Nat.le_of_ble_eq_true rfl) (Nat.le_of_ble_eq_true rfl) ?_
    refine lv_astore_n (lv' := [(3, .ref q9), (0, .ref ya), (1, .int a1), (2, .ref ou)]) hx hb dL_register_12 rfl hl (by decide) rfl (fun ls hl => ?_)
    refine lv_iconst (v := 1) hx hb dL_register_13 (by decide) ?_
    refine vx_ret ?_
    have hP9 := hP.sub (ws' := [(ou, .inl (cL, 1, .inr (.inl of9)))]) [0] rfl
    have hD9 := hD.sub (ws' := [(ou, .inl (cL, 1, .inr (.inl of9)))]) [0] (by decide) rfl
    have hK9 := hK.sub (tys' := [(cL, .long)]) [1] rfl
    exact W.iret (v := 1) hx hb hr (fun t ht hW => ⟨⟨1, of9, rfl, Or.inr ⟨rfl, hno⟩, ⟨by rw [ht]; exact hP9, va_K.moved hW.alike hK9, hD9⟩⟩, hS.F ht⟩) hS.2.2 dL_register_14
  · skip
    obtain ⟨hP1, hK1, hD1⟩ := hB
    rw [ht] at hP1
    try dsimp only at hw_2
    obtain ⟨hP, hD⟩ := va_join (wr := [(ou, .inl (cL, 1, .inr (.inl of9)))]) (w1 := []) hP hD [0, 1, 2] [3] rfl rfl (by decide) (by decide) hk1 hFc hP1 hD1
    generalize H1 = H at hP hS ⊢
    have hP : va_P (dC, dI) vwCl [(ou, .inl (cL, 1, .inr (.inl of9)))] H := hP
    have hD : va_D A [(ou, .inl (cL, 1, .inr (.inl of9)))] := hD
    refine W.widen (k := 1) (n := 6) (Nat.le_of_ble_eq_true rfl) (Nat.le_of_ble_eq_true rfl) ?_
    refine lv_i2l hx hb dL_register_7 rfl ?_
    refine va_last hx hb hK hP hD hS 0 1 rfl rfl (show vp_in (nI 0) 1 from vp_in_nI (by decide) (by decide)) dL_register_8 (fun H locs hP hD hS => ?_)
    obtain ⟨f_3, ef_3⟩ : ∃ z, z = (vp_updL of9 ((0 : Int32)).toNatClampNeg r_1.toInt64) := ⟨_, rfl⟩
    have hP : va_P (dC, dI) vwCl [(ou, .inl (cL, 1, .inr (.inl f_3)))] H := by rw [ef_3]; exact hP
    have hD : va_D A [(ou, .inl (cL, 1, .inr (.inl f_3)))] := by rw [ef_3]; exact hD
    refine lv_goto (tgt := 15) hx hb dL_register_9 (by decide) ?_
    refine lv_iconst (v := 0) hx hb dL_register_15 (by decide) ?_
    refine vx_ret ?_
    have hP9 := hP.sub (ws' := [(ou, .inl (cL, 1, .inr (.inl f_3)))]) [0] rfl
    have hD9 := hD.sub (ws' := [(ou, .inl (cL, 1, .inr (.inl f_3)))]) [0] (by decide) rfl
    have hK9 := hK.sub (tys' := [(cL, .long)]) [1] rfl
    exact W.iret (v := 0) hx hb hr (fun t ht hW => ⟨⟨0, f_3, rfl, Or.inl ⟨rfl, hw_2.2, by rw [ef_3, hw_2.1]; exact up0⟩, ⟨by rw [ht]; exact hP9, va_K.moved hW.alike hK9, hD9⟩⟩, hS.F ht⟩) hS.2.2 dL_register_16

set_option maxHeartbeats 4000000 in
set_option maxRecDepth 100000 in
/-- L_tagRow -/
theorem c_L_tagRow (l : Launch) (hfl : l.stackTraces = false) (dC : Nat → ClassId) (dI : Nat → Nat → Nat) (cI : ClassId) (ya ms ju li ct tg fw : Nat) (ts tr tk te : Nat) (f1 : Nat → Int32) (a1 a2 : Int32) (cL : ClassId) (ou : Nat) (of9 : Nat → Int64) (sz : Nat) : vx_Met l yL_tagRow wsL_tagRow ({ frames := 8, cells := 1, slots := 6, locals := 142 }) (va_Pc [.ref ya, .int a1, .int a2, .ref ou] (cPCz (zX) dC dI [(ya, .inr (16, [.ref ms, .int 0, .ref ju, .ref li, .ref ct, .ref tg, .ref fw])), (tg, .inr (14, [.int 0, .int 0, .ref ts, .ref tr, .ref tk, .ref te])), (tr, .inl (cI, 24, .inl f1)), (tk, .inl (cI, 4, .inl (fun _ => 0))), (ou, .inl (cL, 1, .inr (.inl of9)))] [(cI, .int), (cL, .long)] sz)) (va_Qi (fun (r : Int32) (u : Nat → Int64) => (r = 0 ∧ (pLetter a1 ∧ pLetter a2) ∧ u 0 = (1 : Int32).toInt64) ∨ (r = 1 ∧ ¬ (pLetter a1 ∧ pLetter a2))) (fun (u : Nat → Int64) t => cQB dC dI [(ou, .inl (cL, 1, .inr (.inl u)))] [(cL, .long)] (va_A [(ya, .inr (16, [.ref ms, .int 0, .ref ju, .ref li, .ref ct, .ref tg, .ref fw])), (tg, .inr (14, [.int 0, .int 0, .ref ts, .ref tr, .ref tk, .ref te])), (tr, .inl (cI, 24, .inl f1)), (tk, .inl (cI, 4, .inl (fun _ => 0))), (ou, .inl (cL, 1, .inr (.inl of9)))] sz) t) (va_A [(ya, .inr (16, [.ref ms, .int 0, .ref ju, .ref li, .ref ct, .ref tg, .ref fw])), (tg, .inr (14, [.int 0, .int 0, .ref ts, .ref tr, .ref tk, .ref te])), (tr, .inl (cI, 24, .inl f1)), (tk, .inl (cI, 4, .inl (fun _ => 0))), (ou, .inl (cL, 1, .inr (.inl of9)))] sz)) (vx_X (fun (_ : Unit) => True) (fun (E9 : String) (_ : Unit) (_ : State) => False) (va_A [(ya, .inr (16, [.ref ms, .int 0, .ref ju, .ref li, .ref ct, .ref tg, .ref fw])), (tg, .inr (14, [.int 0, .int 0, .ref ts, .ref tr, .ref tk, .ref te])), (tr, .inl (cI, 24, .inl f1)), (tk, .inl (cI, 4, .inl (fun _ => 0))), (ou, .inl (cL, 1, .inr (.inl of9)))] sz)) 1 6 (va_A [(ya, .inr (16, [.ref ms, .int 0, .ref ju, .ref li, .ref ct, .ref tg, .ref fw])), (tg, .inr (14, [.int 0, .int 0, .ref ts, .ref tr, .ref tk, .ref te])), (tr, .inl (cI, 24, .inl f1)), (tk, .inl (cI, 4, .inl (fun _ => 0))), (ou, .inl (cL, 1, .inr (.inl of9)))] sz) := by
  refine vx_ofWH (cc := cL_tagRow) (maxL := 5) (ret := (some .int)) (hh := [(0, 10, 13, 13), (0, 10, 17, 15)]) (by decide) rfl ?_
  intro p e s m args below meth c s₁ B hml hv
  obtain ⟨rfl, ⟨hsz, hP, hK, hD0, hN⟩, hZ⟩ := hv
  have hx := B.exec
  have hb := B.bytes
  have hr := B.returns
  have hts := atoms_spec (ws := wsL_tagRow) B.pre
  have hown : s.vm.findClass RL = some m.cls := findClass_of_methodNamed B.named
  have hlocks := B.notSynchronized
  subst hsz
  have hD := hD0.self (sz := s.heap.size)
  generalize hAe : va_A [(ya, .inr (16, [.ref ms, .int 0, .ref ju, .ref li, .ref ct, .ref tg, .ref fw])), (tg, .inr (14, [.int 0, .int 0, .ref ts, .ref tr, .ref tk, .ref te])), (tr, .inl (cI, 24, .inl f1)), (tk, .inl (cI, 4, .inl (fun _ => 0))), (ou, .inl (cL, 1, .inr (.inl of9)))] s.heap.size = A at hD hZ ⊢
  have hA : ∀ q : Nat, s.heap.size ≤ q → A q := fun q h => by rw [← hAe]; exact Or.inr h
  have hS : va_S A s.heap s.heap [] := va_S.rf
  have hP : va_P (dC, dI) vwCl [(ya, .inr (16, [.ref ms, .int 0, .ref ju, .ref li, .ref ct, .ref tg, .ref fw])), (tg, .inr (14, [.int 0, .int 0, .ref ts, .ref tr, .ref tk, .ref te])), (tr, .inl (cI, 24, .inl f1)), (tk, .inl (cI, 4, .inl (fun _ => 0))), (ou, .inl (cL, 1, .inr (.inl of9)))] s.heap := hP
  have hD : va_D A [(ya, .inr (16, [.ref ms, .int 0, .ref ju, .ref li, .ref ct, .ref tg, .ref fw])), (tg, .inr (14, [.int 0, .int 0, .ref ts, .ref tr, .ref tk, .ref te])), (tr, .inl (cI, 24, .inl f1)), (tk, .inl (cI, 4, .inl (fun _ => 0))), (ou, .inl (cL, 1, .inr (.inl of9)))] := hD
  have hl := lv_entry ([.ref ya, .int a1, .int a2, .ref ou]) (n := 5) (Nat.le_of_ble_eq_true rfl)
  rw [lg_entry_eq]
  generalize (lg_sl ([.ref ya, .int a1, .int a2, .ref ou]) ++ List.replicate (5 - (lg_sl ([.ref ya, .int a1, .int a2, .ref ou])).length) Slot.unset).toArray = ls at hl ⊢
  have hl : lv_has ls 5 [(0, .ref ya), (1, .int a1), (2, .int a2), (3, .ref ou)] := hl
  have htab : c.exceptionTable.toList = tableOf [(0, 10, 13, 13), (0, 10, 17, 15)] := vx_table B (hts (.codeWith yL_tagRow cL_tagRow 5 (some .int) [(0, 10, 13, 13), (0, 10, 17, 15)]) (show _ ∈ wsL_tagRow from List.mem_cons_self))
  refine lv_aload_n hx hb dL_tagRow_0 rfl (lv_at hl 3 rfl) ?_
  refine lv_iconst (v := 0) hx hb dL_tagRow_1 (by decide) ?_
  refine lv_aload_n hx hb dL_tagRow_2 rfl (lv_at hl 0 rfl) ?_
  refine lv_iload_n hx hb dL_tagRow_3 rfl (lv_at hl 1 rfl) ?_
  refine lv_iload_n hx hb dL_tagRow_4 rfl (lv_at hl 2 rfl) ?_
  have hPc := hP.sub (ws' := [(ya, .inr (16, [.ref ms, .int 0, .ref ju, .ref li, .ref ct, .ref tg, .ref fw])), (tg, .inr (14, [.int 0, .int 0, .ref ts, .ref tr, .ref tk, .ref te])), (tr, .inl (cI, 24, .inl f1)), (tk, .inl (cI, 4, .inl (fun _ => 0)))]) [0, 1, 2, 3] rfl
  have hDc := hD.sub (ws' := [(ya, .inr (16, [.ref ms, .int 0, .ref ju, .ref li, .ref ct, .ref tg, .ref fw])), (tg, .inr (14, [.int 0, .int 0, .ref ts, .ref tr, .ref tk, .ref te])), (tr, .inl (cI, 24, .inl f1)), (tk, .inl (cI, 4, .inl (fun _ => 0)))]) [0, 1, 2, 3] (by decide) rfl
  have hKc := hK.sub (tys' := [(cI, .int)]) [0] rfl
  have hFc := va_free (wc := [(ya, .inr (16, [.ref ms, .int 0, .ref ju, .ref li, .ref ct, .ref tg, .ref fw])), (tg, .inr (14, [.int 0, .int 0, .ref ts, .ref tr, .ref tk, .ref te])), (tr, .inl (cI, 24, .inl f1)), (tk, .inl (cI, 4, .inl (fun _ => 0)))]) hD hS hA [0, 1, 2, 3] rfl
  refine vx_calli (vx_runV (As := [.int a1, .int a2]) (rest := [.int 0, .ref ou]) ⟨hx, hb, hml, hown, hts⟩ (c_X11_tagRow l hfl dC dI cI ya ms ju li ct tg fw ts tr tk te f1 a1 a2 s.heap.size) (cwV 2 hts gL_tagRow_X11_tagRow rfl rfl rfl (by decide +kernel) ⟨Nat.le_of_ble_eq_true rfl, Nat.le_of_ble_eq_true rfl⟩) (pcVz (zX_ok) hPc hDc hKc hN hZ hS hFc (ci := 16) (q0 := 0) rfl rfl) rfl rfl hl.1 rfl (lv_room (Nat.le_of_ble_eq_true rfl)) dL_tagRow_5 ⟨Nat.le_of_ble_eq_true rfl, Nat.le_of_ble_eq_true rfl⟩) hS (fun q _ h => hFc q h) hFc (fun q _ h => hFc q h) (fun E9 ce9 q9 u9 t9 H9 locs9 ht9 hvm9 hp9 hE9 hz9 hk9 hS9 hc9 hv9 hcl9 => ?_) (fun r_1 u t H1 locs ht hvm hw_2 hB hz1 hk1 hS => ?_)
  · obtain ⟨rfl, hno⟩ := hE9
    refine vx_catch (name := "java/lang/IllegalArgumentException") hown [] ⟨0, 10, 13, 13⟩ [⟨0, 10, 17, 15⟩] htab (fun z hz => by cases hz) (by decide) (by decide) (hts (.classLink RL 13 "java/lang/IllegalArgumentException") (by decide +kernel)) (zX_use hZ (.castable "java/lang/IllegalArgumentException" "java/lang/IllegalArgumentException") (by decide)) hc9 hv9 hcl9 ?_
    refine W.eq (g2 := F0 m 13 ls [.ref q9]) rfl ?_
    obtain ⟨hP, hD⟩ := va_join (wr := [(ou, .inl (cL, 1, .inr (.inl of9)))]) (w1 := []) hP hD [0, 1, 2, 3] [4] rfl rfl (by decide) (by decide) hk9 hFc P_nil D_nil
    have hS := hS9
    generalize H9 = H at hP hS ⊢
    have hP : va_P (dC, dI) vwCl [(ou, .inl (cL, 1, .inr (.inl of9)))] H := hP
    have hD : va_D A [(ou, .inl (cL, 1, .inr (.inl of9)))] := hD
    refine W.widen (k := 1) (n := 6) (Nat.le_of_ble_eq_true rfl) (Nat.le_of_ble_eq_true rfl) ?_
    refine lv_astore (lv' := [(4, .ref q9), (0, .ref ya), (1, .int a1), (2, .int a2), (3, .ref ou)]) hx hb dL_tagRow_13 hl (by decide) rfl (fun ls hl => ?_)
    refine lv_iconst (v := 1) hx hb dL_tagRow_15 (by decide) ?_
    refine vx_ret ?_
    have hP9 := hP.sub (ws' := [(ou, .inl (cL, 1, .inr (.inl of9)))]) [0] rfl
    have hD9 := hD.sub (ws' := [(ou, .inl (cL, 1, .inr (.inl of9)))]) [0] (by decide) rfl
    have hK9 := hK.sub (tys' := [(cL, .long)]) [1] rfl
    exact W.iret (v := 1) hx hb hr (fun t ht hW => ⟨⟨1, of9, rfl, Or.inr ⟨rfl, hno⟩, ⟨by rw [ht]; exact hP9, va_K.moved hW.alike hK9, hD9⟩⟩, hS.F ht⟩) hS.2.2 dL_tagRow_16
  · skip
    obtain ⟨hP1, hK1, hD1⟩ := hB
    rw [ht] at hP1
    try dsimp only at hw_2
    obtain ⟨hP, hD⟩ := va_join (wr := [(ou, .inl (cL, 1, .inr (.inl of9)))]) (w1 := []) hP hD [0, 1, 2, 3] [4] rfl rfl (by decide) (by decide) hk1 hFc hP1 hD1
    generalize H1 = H at hP hS ⊢
    have hP : va_P (dC, dI) vwCl [(ou, .inl (cL, 1, .inr (.inl of9)))] H := hP
    have hD : va_D A [(ou, .inl (cL, 1, .inr (.inl of9)))] := hD
    refine W.widen (k := 1) (n := 6) (Nat.le_of_ble_eq_true rfl) (Nat.le_of_ble_eq_true rfl) ?_
    refine lv_i2l hx hb dL_tagRow_8 rfl ?_
    refine va_last hx hb hK hP hD hS 0 1 rfl rfl (show vp_in (nI 0) 1 from vp_in_nI (by decide) (by decide)) dL_tagRow_9 (fun H locs hP hD hS => ?_)
    obtain ⟨f_3, ef_3⟩ : ∃ z, z = (vp_updL of9 ((0 : Int32)).toNatClampNeg r_1.toInt64) := ⟨_, rfl⟩
    have hP : va_P (dC, dI) vwCl [(ou, .inl (cL, 1, .inr (.inl f_3)))] H := by rw [ef_3]; exact hP
    have hD : va_D A [(ou, .inl (cL, 1, .inr (.inl f_3)))] := by rw [ef_3]; exact hD
    refine lv_goto (tgt := 21) hx hb dL_tagRow_10 (by decide) ?_
    refine lv_iconst (v := 0) hx hb dL_tagRow_21 (by decide) ?_
    refine vx_ret ?_
    have hP9 := hP.sub (ws' := [(ou, .inl (cL, 1, .inr (.inl f_3)))]) [0] rfl
    have hD9 := hD.sub (ws' := [(ou, .inl (cL, 1, .inr (.inl f_3)))]) [0] (by decide) rfl
    have hK9 := hK.sub (tys' := [(cL, .long)]) [1] rfl
    exact W.iret (v := 0) hx hb hr (fun t ht hW => ⟨⟨0, f_3, rfl, Or.inl ⟨rfl, hw_2.2, by rw [ef_3, hw_2.1]; exact up0⟩, ⟨by rw [ht]; exact hP9, va_K.moved hW.alike hK9, hD9⟩⟩, hS.F ht⟩) hS.2.2 dL_tagRow_22

set_option maxHeartbeats 4000000 in
set_option maxRecDepth 100000 in
/-- L_tagStart -/
theorem c_L_tagStart (l : Launch) (hfl : l.stackTraces = false) (dC : Nat → ClassId) (dI : Nat → Nat → Nat) (cI : ClassId) (ya ms ju li ct tg fw : Nat) (ts tr tk te : Nat) (f1 : Nat → Int32) (a1 : Int32) (cL : ClassId) (ou : Nat) (of9 : Nat → Int64) (sz : Nat) : vx_Met l yL_tagStart wsL_tagStart ({ frames := 8, cells := 1, slots := 6, locals := 141 }) (va_Pc [.ref ya, .int a1, .ref ou] (cPCz (zX) dC dI [(ya, .inr (16, [.ref ms, .int 0, .ref ju, .ref li, .ref ct, .ref tg, .ref fw])), (tg, .inr (14, [.int 0, .int 0, .ref ts, .ref tr, .ref tk, .ref te])), (ts, .inl (cI, 40, .inl f1)), (ou, .inl (cL, 1, .inr (.inl of9)))] [(cI, .int), (cL, .long)] sz)) (va_Qi (fun (r : Int32) (u : Nat → Int64) => (r = 0 ∧ pLetter a1 ∧ u 0 = (1 : Int32).toInt64) ∨ (r = 1 ∧ ¬ pLetter a1)) (fun (u : Nat → Int64) t => cQB dC dI [(ou, .inl (cL, 1, .inr (.inl u)))] [(cL, .long)] (va_A [(ya, .inr (16, [.ref ms, .int 0, .ref ju, .ref li, .ref ct, .ref tg, .ref fw])), (tg, .inr (14, [.int 0, .int 0, .ref ts, .ref tr, .ref tk, .ref te])), (ts, .inl (cI, 40, .inl f1)), (ou, .inl (cL, 1, .inr (.inl of9)))] sz) t) (va_A [(ya, .inr (16, [.ref ms, .int 0, .ref ju, .ref li, .ref ct, .ref tg, .ref fw])), (tg, .inr (14, [.int 0, .int 0, .ref ts, .ref tr, .ref tk, .ref te])), (ts, .inl (cI, 40, .inl f1)), (ou, .inl (cL, 1, .inr (.inl of9)))] sz)) (vx_X (fun (_ : Unit) => True) (fun (E9 : String) (_ : Unit) (_ : State) => False) (va_A [(ya, .inr (16, [.ref ms, .int 0, .ref ju, .ref li, .ref ct, .ref tg, .ref fw])), (tg, .inr (14, [.int 0, .int 0, .ref ts, .ref tr, .ref tk, .ref te])), (ts, .inl (cI, 40, .inl f1)), (ou, .inl (cL, 1, .inr (.inl of9)))] sz)) 1 6 (va_A [(ya, .inr (16, [.ref ms, .int 0, .ref ju, .ref li, .ref ct, .ref tg, .ref fw])), (tg, .inr (14, [.int 0, .int 0, .ref ts, .ref tr, .ref tk, .ref te])), (ts, .inl (cI, 40, .inl f1)), (ou, .inl (cL, 1, .inr (.inl of9)))] sz) := by
  refine vx_ofWH (cc := cL_tagStart) (maxL := 4) (ret := (some .int)) (hh := [(0, 9, 12, 13), (0, 9, 15, 15)]) (by decide) rfl ?_
  intro p e s m args below meth c s₁ B hml hv
  obtain ⟨rfl, ⟨hsz, hP, hK, hD0, hN⟩, hZ⟩ := hv
  have hx := B.exec
  have hb := B.bytes
  have hr := B.returns
  have hts := atoms_spec (ws := wsL_tagStart) B.pre
  have hown : s.vm.findClass RL = some m.cls := findClass_of_methodNamed B.named
  have hlocks := B.notSynchronized
  subst hsz
  have hD := hD0.self (sz := s.heap.size)
  generalize hAe : va_A [(ya, .inr (16, [.ref ms, .int 0, .ref ju, .ref li, .ref ct, .ref tg, .ref fw])), (tg, .inr (14, [.int 0, .int 0, .ref ts, .ref tr, .ref tk, .ref te])), (ts, .inl (cI, 40, .inl f1)), (ou, .inl (cL, 1, .inr (.inl of9)))] s.heap.size = A at hD hZ ⊢
  have hA : ∀ q : Nat, s.heap.size ≤ q → A q := fun q h => by rw [← hAe]; exact Or.inr h
  have hS : va_S A s.heap s.heap [] := va_S.rf
  have hP : va_P (dC, dI) vwCl [(ya, .inr (16, [.ref ms, .int 0, .ref ju, .ref li, .ref ct, .ref tg, .ref fw])), (tg, .inr (14, [.int 0, .int 0, .ref ts, .ref tr, .ref tk, .ref te])), (ts, .inl (cI, 40, .inl f1)), (ou, .inl (cL, 1, .inr (.inl of9)))] s.heap := hP
  have hD : va_D A [(ya, .inr (16, [.ref ms, .int 0, .ref ju, .ref li, .ref ct, .ref tg, .ref fw])), (tg, .inr (14, [.int 0, .int 0, .ref ts, .ref tr, .ref tk, .ref te])), (ts, .inl (cI, 40, .inl f1)), (ou, .inl (cL, 1, .inr (.inl of9)))] := hD
  have hl := lv_entry ([.ref ya, .int a1, .ref ou]) (n := 4) (Nat.le_of_ble_eq_true rfl)
  rw [lg_entry_eq]
  generalize (lg_sl ([.ref ya, .int a1, .ref ou]) ++ List.replicate (4 - (lg_sl ([.ref ya, .int a1, .ref ou])).length) Slot.unset).toArray = ls at hl ⊢
  have hl : lv_has ls 4 [(0, .ref ya), (1, .int a1), (2, .ref ou)] := hl
  have htab : c.exceptionTable.toList = tableOf [(0, 9, 12, 13), (0, 9, 15, 15)] := vx_table B (hts (.codeWith yL_tagStart cL_tagStart 4 (some .int) [(0, 9, 12, 13), (0, 9, 15, 15)]) (show _ ∈ wsL_tagStart from List.mem_cons_self))
  refine lv_aload_n hx hb dL_tagStart_0 rfl (lv_at hl 2 rfl) ?_
  refine lv_iconst (v := 0) hx hb dL_tagStart_1 (by decide) ?_
  refine lv_aload_n hx hb dL_tagStart_2 rfl (lv_at hl 0 rfl) ?_
  refine lv_iload_n hx hb dL_tagStart_3 rfl (lv_at hl 1 rfl) ?_
  have hPc := hP.sub (ws' := [(ya, .inr (16, [.ref ms, .int 0, .ref ju, .ref li, .ref ct, .ref tg, .ref fw])), (tg, .inr (14, [.int 0, .int 0, .ref ts, .ref tr, .ref tk, .ref te])), (ts, .inl (cI, 40, .inl f1))]) [0, 1, 2] rfl
  have hDc := hD.sub (ws' := [(ya, .inr (16, [.ref ms, .int 0, .ref ju, .ref li, .ref ct, .ref tg, .ref fw])), (tg, .inr (14, [.int 0, .int 0, .ref ts, .ref tr, .ref tk, .ref te])), (ts, .inl (cI, 40, .inl f1))]) [0, 1, 2] (by decide) rfl
  have hKc := hK.sub (tys' := [(cI, .int)]) [0] rfl
  have hFc := va_free (wc := [(ya, .inr (16, [.ref ms, .int 0, .ref ju, .ref li, .ref ct, .ref tg, .ref fw])), (tg, .inr (14, [.int 0, .int 0, .ref ts, .ref tr, .ref tk, .ref te])), (ts, .inl (cI, 40, .inl f1))]) hD hS hA [0, 1, 2] rfl
  refine vx_calli (vx_runV (As := [.int a1]) (rest := [.int 0, .ref ou]) ⟨hx, hb, hml, hown, hts⟩ (c_X11_tagStart l hfl dC dI cI ya ms ju li ct tg fw ts tr tk te f1 a1 s.heap.size) (cwV 1 hts gL_tagStart_X11_tagStart rfl rfl rfl (by decide +kernel) ⟨Nat.le_of_ble_eq_true rfl, Nat.le_of_ble_eq_true rfl⟩) (pcVz (zX_ok) hPc hDc hKc hN hZ hS hFc (ci := 16) (q0 := 0) rfl rfl) rfl rfl hl.1 rfl (lv_room (Nat.le_of_ble_eq_true rfl)) dL_tagStart_4 ⟨Nat.le_of_ble_eq_true rfl, Nat.le_of_ble_eq_true rfl⟩) hS (fun q _ h => hFc q h) hFc (fun q _ h => hFc q h) (fun E9 ce9 q9 u9 t9 H9 locs9 ht9 hvm9 hp9 hE9 hz9 hk9 hS9 hc9 hv9 hcl9 => ?_) (fun r_1 u t H1 locs ht hvm hw_2 hB hz1 hk1 hS => ?_)
  · obtain ⟨rfl, hno⟩ := hE9
    refine vx_catch (name := "java/lang/IllegalArgumentException") hown [] ⟨0, 9, 12, 13⟩ [⟨0, 9, 15, 15⟩] htab (fun z hz => by cases hz) (by decide) (by decide) (hts (.classLink RL 13 "java/lang/IllegalArgumentException") (by decide +kernel)) (zX_use hZ (.castable "java/lang/IllegalArgumentException" "java/lang/IllegalArgumentException") (by decide)) hc9 hv9 hcl9 ?_
    refine W.eq (g2 := F0 m 12 ls [.ref q9]) rfl ?_
    obtain ⟨hP, hD⟩ := va_join (wr := [(ou, .inl (cL, 1, .inr (.inl of9)))]) (w1 := []) hP hD [0, 1, 2] [3] rfl rfl (by decide) (by decide) hk9 hFc P_nil D_nil
    have hS := hS9
    generalize H9 = H at hP hS ⊢
    have hP : va_P (dC, dI) vwCl [(ou, .inl (cL, 1, .inr (.inl of9)))] H := hP
    have hD : va_D A [(ou, .inl (cL, 1, .inr (.inl of9)))] := hD
    refine W.widen (k := 1) (n := 6) (Nat.le_of_ble_eq_true rfl) (Nat.le_of_ble_eq_true rfl) ?_
    refine lv_astore_n (lv' := [(3, .ref q9), (0, .ref ya), (1, .int a1), (2, .ref ou)]) hx hb dL_tagStart_12 rfl hl (by decide) rfl (fun ls hl => ?_)
    refine lv_iconst (v := 1) hx hb dL_tagStart_13 (by decide) ?_
    refine vx_ret ?_
    have hP9 := hP.sub (ws' := [(ou, .inl (cL, 1, .inr (.inl of9)))]) [0] rfl
    have hD9 := hD.sub (ws' := [(ou, .inl (cL, 1, .inr (.inl of9)))]) [0] (by decide) rfl
    have hK9 := hK.sub (tys' := [(cL, .long)]) [1] rfl
    exact W.iret (v := 1) hx hb hr (fun t ht hW => ⟨⟨1, of9, rfl, Or.inr ⟨rfl, hno⟩, ⟨by rw [ht]; exact hP9, va_K.moved hW.alike hK9, hD9⟩⟩, hS.F ht⟩) hS.2.2 dL_tagStart_14
  · skip
    obtain ⟨hP1, hK1, hD1⟩ := hB
    rw [ht] at hP1
    try dsimp only at hw_2
    obtain ⟨hP, hD⟩ := va_join (wr := [(ou, .inl (cL, 1, .inr (.inl of9)))]) (w1 := []) hP hD [0, 1, 2] [3] rfl rfl (by decide) (by decide) hk1 hFc hP1 hD1
    generalize H1 = H at hP hS ⊢
    have hP : va_P (dC, dI) vwCl [(ou, .inl (cL, 1, .inr (.inl of9)))] H := hP
    have hD : va_D A [(ou, .inl (cL, 1, .inr (.inl of9)))] := hD
    refine W.widen (k := 1) (n := 6) (Nat.le_of_ble_eq_true rfl) (Nat.le_of_ble_eq_true rfl) ?_
    refine lv_i2l hx hb dL_tagStart_7 rfl ?_
    refine va_last hx hb hK hP hD hS 0 1 rfl rfl (show vp_in (nI 0) 1 from vp_in_nI (by decide) (by decide)) dL_tagStart_8 (fun H locs hP hD hS => ?_)
    obtain ⟨f_3, ef_3⟩ : ∃ z, z = (vp_updL of9 ((0 : Int32)).toNatClampNeg r_1.toInt64) := ⟨_, rfl⟩
    have hP : va_P (dC, dI) vwCl [(ou, .inl (cL, 1, .inr (.inl f_3)))] H := by rw [ef_3]; exact hP
    have hD : va_D A [(ou, .inl (cL, 1, .inr (.inl f_3)))] := by rw [ef_3]; exact hD
    refine lv_goto (tgt := 18) hx hb dL_tagStart_9 (by decide) ?_
    refine lv_iconst (v := 0) hx hb dL_tagStart_18 (by decide) ?_
    refine vx_ret ?_
    have hP9 := hP.sub (ws' := [(ou, .inl (cL, 1, .inr (.inl f_3)))]) [0] rfl
    have hD9 := hD.sub (ws' := [(ou, .inl (cL, 1, .inr (.inl f_3)))]) [0] (by decide) rfl
    have hK9 := hK.sub (tys' := [(cL, .long)]) [1] rfl
    exact W.iret (v := 0) hx hb hr (fun t ht hW => ⟨⟨0, f_3, rfl, Or.inl ⟨rfl, hw_2.2, by rw [ef_3, hw_2.1]; exact up0⟩, ⟨by rw [ht]; exact hP9, va_K.moved hW.alike hK9, hD9⟩⟩, hS.F ht⟩) hS.2.2 dL_tagStart_19

set_option maxHeartbeats 4000000 in
set_option maxRecDepth 100000 in
/-- L_tag -/
theorem c_L_tag (l : Launch) (hfl : l.stackTraces = false) (dC : Nat → ClassId) (dI : Nat → Nat → Nat) (cI : ClassId) (ya ms ju li ct tg fw : Nat) (ts tr tk te : Nat) (f1 f2 : Nat → Int32) (a1 a2 : Int32) (cL : ClassId) (ou : Nat) (of9 : Nat → Int64) (sz : Nat) : vx_Met l yL_tag wsL_tag ({ frames := 8, cells := 2, slots := 12, locals := 142 }) (va_Pc [.ref ya, .int a1, .int a2, .ref ou] (cPCz (zX) dC dI [(ya, .inr (16, [.ref ms, .int 0, .ref ju, .ref li, .ref ct, .ref tg, .ref fw])), (tg, .inr (14, [.int 0, .int 0, .ref ts, .ref tr, .ref tk, .ref te])), (ts, .inl (cI, 40, .inl f1)), (tk, .inl (cI, 4, .inl (fun _ => 0))), (te, .inl (cI, 400, .inl f2)), (ou, .inl (cL, 1, .inr (.inl of9)))] [(cI, .int), (cL, .long)] sz)) (va_Qi (fun (r : Int32) (u : Nat → Int64) => (r = 0 ∧ pTag a1 a2 ∧ u 0 = (0 : Int32).toInt64) ∨ (r = 1 ∧ ¬ pTag a1 a2)) (fun (u : Nat → Int64) t => cQB dC dI [(ou, .inl (cL, 1, .inr (.inl u)))] [(cL, .long)] (va_A [(ya, .inr (16, [.ref ms, .int 0, .ref ju, .ref li, .ref ct, .ref tg, .ref fw])), (tg, .inr (14, [.int 0, .int 0, .ref ts, .ref tr, .ref tk, .ref te])), (ts, .inl (cI, 40, .inl f1)), (tk, .inl (cI, 4, .inl (fun _ => 0))), (te, .inl (cI, 400, .inl f2)), (ou, .inl (cL, 1, .inr (.inl of9)))] sz) t) (va_A [(ya, .inr (16, [.ref ms, .int 0, .ref ju, .ref li, .ref ct, .ref tg, .ref fw])), (tg, .inr (14, [.int 0, .int 0, .ref ts, .ref tr, .ref tk, .ref te])), (ts, .inl (cI, 40, .inl f1)), (tk, .inl (cI, 4, .inl (fun _ => 0))), (te, .inl (cI, 400, .inl f2)), (ou, .inl (cL, 1, .inr (.inl of9)))] sz)) (vx_X (fun (_ : Unit) => True) (fun (E9 : String) (_ : Unit) (_ : State) => False) (va_A [(ya, .inr (16, [.ref ms, .int 0, .ref ju, .ref li, .ref ct, .ref tg, .ref fw])), (tg, .inr (14, [.int 0, .int 0, .ref ts, .ref tr, .ref tk, .ref te])), (ts, .inl (cI, 40, .inl f1)), (tk, .inl (cI, 4, .inl (fun _ => 0))), (te, .inl (cI, 400, .inl f2)), (ou, .inl (cL, 1, .inr (.inl of9)))] sz)) 2 12 (va_A [(ya, .inr (16, [.ref ms, .int 0, .ref ju, .ref li, .ref ct, .ref tg, .ref fw])), (tg, .inr (14, [.int 0, .int 0, .ref ts, .ref tr, .ref tk, .ref te])), (ts, .inl (cI, 40, .inl f1)), (tk, .inl (cI, 4, .inl (fun _ => 0))), (te, .inl (cI, 400, .inl f2)), (ou, .inl (cL, 1, .inr (.inl of9)))] sz) := by
  refine vx_ofWH (cc := cL_tag) (maxL := 5) (ret := (some .int)) (hh := [(0, 10, 13, 13)]) (by decide) rfl ?_
  intro p e s m args below meth c s₁ B hml hv
  obtain ⟨rfl, ⟨hsz, hP, hK, hD0, hN⟩, hZ⟩ := hv
  have hx := B.exec
  have hb := B.bytes
  have hr := B.returns
  have hts := atoms_spec (ws := wsL_tag) B.pre
  have hown : s.vm.findClass RL = some m.cls := findClass_of_methodNamed B.named
  have hlocks := B.notSynchronized
  subst hsz
  have hD := hD0.self (sz := s.heap.size)
  generalize hAe : va_A [(ya, .inr (16, [.ref ms, .int 0, .ref ju, .ref li, .ref ct, .ref tg, .ref fw])), (tg, .inr (14, [.int 0, .int 0, .ref ts, .ref tr, .ref tk, .ref te])), (ts, .inl (cI, 40, .inl f1)), (tk, .inl (cI, 4, .inl (fun _ => 0))), (te, .inl (cI, 400, .inl f2)), (ou, .inl (cL, 1, .inr (.inl of9)))] s.heap.size = A at hD hZ ⊢
  have hA : ∀ q : Nat, s.heap.size ≤ q → A q := fun q h => by rw [← hAe]; exact Or.inr h
  have hS : va_S A s.heap s.heap [] := va_S.rf
  have hP : va_P (dC, dI) vwCl [(ya, .inr (16, [.ref ms, .int 0, .ref ju, .ref li, .ref ct, .ref tg, .ref fw])), (tg, .inr (14, [.int 0, .int 0, .ref ts, .ref tr, .ref tk, .ref te])), (ts, .inl (cI, 40, .inl f1)), (tk, .inl (cI, 4, .inl (fun _ => 0))), (te, .inl (cI, 400, .inl f2)), (ou, .inl (cL, 1, .inr (.inl of9)))] s.heap := hP
  have hD : va_D A [(ya, .inr (16, [.ref ms, .int 0, .ref ju, .ref li, .ref ct, .ref tg, .ref fw])), (tg, .inr (14, [.int 0, .int 0, .ref ts, .ref tr, .ref tk, .ref te])), (ts, .inl (cI, 40, .inl f1)), (tk, .inl (cI, 4, .inl (fun _ => 0))), (te, .inl (cI, 400, .inl f2)), (ou, .inl (cL, 1, .inr (.inl of9)))] := hD
  have hl := lv_entry ([.ref ya, .int a1, .int a2, .ref ou]) (n := 5) (Nat.le_of_ble_eq_true rfl)
  rw [lg_entry_eq]
  generalize (lg_sl ([.ref ya, .int a1, .int a2, .ref ou]) ++ List.replicate (5 - (lg_sl ([.ref ya, .int a1, .int a2, .ref ou])).length) Slot.unset).toArray = ls at hl ⊢
  have hl : lv_has ls 5 [(0, .ref ya), (1, .int a1), (2, .int a2), (3, .ref ou)] := hl
  have htab : c.exceptionTable.toList = tableOf [(0, 10, 13, 13)] := vx_table B (hts (.codeWith yL_tag cL_tag 5 (some .int) [(0, 10, 13, 13)]) (show _ ∈ wsL_tag from List.mem_cons_self))
  refine lv_aload_n hx hb dL_tag_0 rfl (lv_at hl 3 rfl) ?_
  refine lv_iconst (v := 0) hx hb dL_tag_1 (by decide) ?_
  refine lv_aload_n hx hb dL_tag_2 rfl (lv_at hl 0 rfl) ?_
  refine lv_iload_n hx hb dL_tag_3 rfl (lv_at hl 1 rfl) ?_
  refine lv_iload_n hx hb dL_tag_4 rfl (lv_at hl 2 rfl) ?_
  have hPc := hP.sub (ws' := [(ya, .inr (16, [.ref ms, .int 0, .ref ju, .ref li, .ref ct, .ref tg, .ref fw])), (tg, .inr (14, [.int 0, .int 0, .ref ts, .ref tr, .ref tk, .ref te])), (ts, .inl (cI, 40, .inl f1)), (tk, .inl (cI, 4, .inl (fun _ => 0))), (te, .inl (cI, 400, .inl f2))]) [0, 1, 2, 3, 4] rfl
  have hDc := hD.sub (ws' := [(ya, .inr (16, [.ref ms, .int 0, .ref ju, .ref li, .ref ct, .ref tg, .ref fw])), (tg, .inr (14, [.int 0, .int 0, .ref ts, .ref tr, .ref tk, .ref te])), (ts, .inl (cI, 40, .inl f1)), (tk, .inl (cI, 4, .inl (fun _ => 0))), (te, .inl (cI, 400, .inl f2))]) [0, 1, 2, 3, 4] (by decide) rfl
  have hKc := hK.sub (tys' := [(cI, .int)]) [0] rfl
  have hFc := va_free (wc := [(ya, .inr (16, [.ref ms, .int 0, .ref ju, .ref li, .ref ct, .ref tg, .ref fw])), (tg, .inr (14, [.int 0, .int 0, .ref ts, .ref tr, .ref tk, .ref te])), (ts, .inl (cI, 40, .inl f1)), (tk, .inl (cI, 4, .inl (fun _ => 0))), (te, .inl (cI, 400, .inl f2))]) hD hS hA [0, 1, 2, 3, 4] rfl
  refine vx_calli (vx_runV (As := [.int a1, .int a2]) (rest := [.int 0, .ref ou]) ⟨hx, hb, hml, hown, hts⟩ (c_X11_tag l hfl dC dI cI ya ms ju li ct tg fw ts tr tk te f1 f2 a1 a2 s.heap.size) (cwV 2 hts gL_tag_X11_tag rfl rfl rfl (by decide +kernel) ⟨Nat.le_of_ble_eq_true rfl, Nat.le_of_ble_eq_true rfl⟩) (pcVz (zX_ok) hPc hDc hKc hN hZ hS hFc (ci := 16) (q0 := 0) rfl rfl) rfl rfl hl.1 rfl (lv_room (Nat.le_of_ble_eq_true rfl)) dL_tag_5 ⟨Nat.le_of_ble_eq_true rfl, Nat.le_of_ble_eq_true rfl⟩) hS (fun q _ h => hFc q h) hFc (fun q _ h => hFc q h) (fun E9 ce9 q9 u9 t9 H9 locs9 ht9 hvm9 hp9 hE9 hz9 hk9 hS9 hc9 hv9 hcl9 => ?_) (fun r_1 u t H1 locs ht hvm hw_2 hB hz1 hk1 hS => ?_)
  · obtain ⟨rfl, hno⟩ := hE9
    refine vx_catch (name := "java/lang/IllegalArgumentException") hown [] ⟨0, 10, 13, 13⟩ [] htab (fun z hz => by cases hz) (by decide) (by decide) (hts (.classLink RL 13 "java/lang/IllegalArgumentException") (by decide +kernel)) (zX_use hZ (.castable "java/lang/IllegalArgumentException" "java/lang/IllegalArgumentException") (by decide)) hc9 hv9 hcl9 ?_
    refine W.eq (g2 := F0 m 13 ls [.ref q9]) rfl ?_
    obtain ⟨hP, hD⟩ := va_join (wr := [(ou, .inl (cL, 1, .inr (.inl of9)))]) (w1 := []) hP hD [0, 1, 2, 3, 4] [5] rfl rfl (by decide) (by decide) hk9 hFc P_nil D_nil
    have hS := hS9
    generalize H9 = H at hP hS ⊢
    have hP : va_P (dC, dI) vwCl [(ou, .inl (cL, 1, .inr (.inl of9)))] H := hP
    have hD : va_D A [(ou, .inl (cL, 1, .inr (.inl of9)))] := hD
    refine W.widen (k := 2) (n := 12) (Nat.le_of_ble_eq_true rfl) (Nat.le_of_ble_eq_true rfl) ?_
    refine lv_astore (lv' := [(4, .ref q9), (0, .ref ya), (1, .int a1), (2, .int a2), (3, .ref ou)]) hx hb dL_tag_13 hl (by decide) rfl (fun ls hl => ?_)
    refine lv_iconst (v := 1) hx hb dL_tag_15 (by decide) ?_
    refine vx_ret ?_
    have hP9 := hP.sub (ws' := [(ou, .inl (cL, 1, .inr (.inl of9)))]) [0] rfl
    have hD9 := hD.sub (ws' := [(ou, .inl (cL, 1, .inr (.inl of9)))]) [0] (by decide) rfl
    have hK9 := hK.sub (tys' := [(cL, .long)]) [1] rfl
    exact W.iret (v := 1) hx hb hr (fun t ht hW => ⟨⟨1, of9, rfl, Or.inr ⟨rfl, hno⟩, ⟨by rw [ht]; exact hP9, va_K.moved hW.alike hK9, hD9⟩⟩, hS.F ht⟩) hS.2.2 dL_tag_16
  · skip
    obtain ⟨hP1, hK1, hD1⟩ := hB
    rw [ht] at hP1
    try dsimp only at hw_2
    obtain ⟨hP, hD⟩ := va_join (wr := [(ou, .inl (cL, 1, .inr (.inl of9)))]) (w1 := []) hP hD [0, 1, 2, 3, 4] [5] rfl rfl (by decide) (by decide) hk1 hFc hP1 hD1
    generalize H1 = H at hP hS ⊢
    have hP : va_P (dC, dI) vwCl [(ou, .inl (cL, 1, .inr (.inl of9)))] H := hP
    have hD : va_D A [(ou, .inl (cL, 1, .inr (.inl of9)))] := hD
    refine W.widen (k := 2) (n := 12) (Nat.le_of_ble_eq_true rfl) (Nat.le_of_ble_eq_true rfl) ?_
    refine lv_i2l hx hb dL_tag_8 rfl ?_
    refine va_last hx hb hK hP hD hS 0 1 rfl rfl (show vp_in (nI 0) 1 from vp_in_nI (by decide) (by decide)) dL_tag_9 (fun H locs hP hD hS => ?_)
    obtain ⟨f_3, ef_3⟩ : ∃ z, z = (vp_updL of9 ((0 : Int32)).toNatClampNeg r_1.toInt64) := ⟨_, rfl⟩
    have hP : va_P (dC, dI) vwCl [(ou, .inl (cL, 1, .inr (.inl f_3)))] H := by rw [ef_3]; exact hP
    have hD : va_D A [(ou, .inl (cL, 1, .inr (.inl f_3)))] := by rw [ef_3]; exact hD
    refine lv_goto (tgt := 17) hx hb dL_tag_10 (by decide) ?_
    refine lv_iconst (v := 0) hx hb dL_tag_17 (by decide) ?_
    refine vx_ret ?_
    have hP9 := hP.sub (ws' := [(ou, .inl (cL, 1, .inr (.inl f_3)))]) [0] rfl
    have hD9 := hD.sub (ws' := [(ou, .inl (cL, 1, .inr (.inl f_3)))]) [0] (by decide) rfl
    have hK9 := hK.sub (tys' := [(cL, .long)]) [1] rfl
    exact W.iret (v := 0) hx hb hr (fun t ht hW => ⟨⟨0, f_3, rfl, Or.inl ⟨rfl, hw_2.2, by rw [ef_3, hw_2.1]; exact up0⟩, ⟨by rw [ht]; exact hP9, va_K.moved hW.alike hK9, hD9⟩⟩, hS.F ht⟩) hS.2.2 dL_tag_18

set_option maxHeartbeats 4000000 in
set_option maxRecDepth 100000 in
/-- L_fraction -/
theorem c_L_fraction (l : Launch) (hfl : l.stackTraces = false) (dC : Nat → ClassId) (dI : Nat → Nat → Nat) (cI : ClassId) (ya ms ju li ct tg fw : Nat) (fo fu : Nat) (sv hv : Int32) (nv : Int64) (f1 f2 : Nat → Int32) (a1 a2 : Int32) (cL : ClassId) (ou : Nat) (of9 : Nat → Int64) (sz : Nat) : vx_Met l yL_fraction wsL_fraction ({ frames := 8, cells := 1, slots := 6, locals := 142 }) (va_Pc [.ref ya, .int a1, .int a2, .ref ou] (cPCz (zX) dC dI [(ya, .inr (16, [.ref ms, .int 0, .ref ju, .ref li, .ref ct, .ref tg, .ref fw])), (fw, .inr (6, [.int 0, .int sv, .int hv, .long nv, .ref fo, .ref fu])), (fo, .inl (cI, 10, .inl f1)), (fu, .inl (cI, 10, .inl f2)), (ou, .inl (cL, 1, .inr (.inl of9)))] [(cI, .int), (cL, .long)] sz)) (va_Qi (fun (r : Int32) (u : Nat → Int64) => (r = 0 ∧ pFraction a1 a2 ∧ u 0 = (1 : Int32).toInt64) ∨ (r = 1 ∧ ¬ pFraction a1 a2)) (fun (u : Nat → Int64) t => cQB dC dI [(ou, .inl (cL, 1, .inr (.inl u)))] [(cL, .long)] (va_A [(ya, .inr (16, [.ref ms, .int 0, .ref ju, .ref li, .ref ct, .ref tg, .ref fw])), (fw, .inr (6, [.int 0, .int sv, .int hv, .long nv, .ref fo, .ref fu])), (fo, .inl (cI, 10, .inl f1)), (fu, .inl (cI, 10, .inl f2)), (ou, .inl (cL, 1, .inr (.inl of9)))] sz) t) (va_A [(ya, .inr (16, [.ref ms, .int 0, .ref ju, .ref li, .ref ct, .ref tg, .ref fw])), (fw, .inr (6, [.int 0, .int sv, .int hv, .long nv, .ref fo, .ref fu])), (fo, .inl (cI, 10, .inl f1)), (fu, .inl (cI, 10, .inl f2)), (ou, .inl (cL, 1, .inr (.inl of9)))] sz)) (vx_X (fun (_ : Unit) => True) (fun (E9 : String) (_ : Unit) (_ : State) => False) (va_A [(ya, .inr (16, [.ref ms, .int 0, .ref ju, .ref li, .ref ct, .ref tg, .ref fw])), (fw, .inr (6, [.int 0, .int sv, .int hv, .long nv, .ref fo, .ref fu])), (fo, .inl (cI, 10, .inl f1)), (fu, .inl (cI, 10, .inl f2)), (ou, .inl (cL, 1, .inr (.inl of9)))] sz)) 1 6 (va_A [(ya, .inr (16, [.ref ms, .int 0, .ref ju, .ref li, .ref ct, .ref tg, .ref fw])), (fw, .inr (6, [.int 0, .int sv, .int hv, .long nv, .ref fo, .ref fu])), (fo, .inl (cI, 10, .inl f1)), (fu, .inl (cI, 10, .inl f2)), (ou, .inl (cL, 1, .inr (.inl of9)))] sz) := by
  refine vx_ofWH (cc := cL_fraction) (maxL := 5) (ret := (some .int)) (hh := [(0, 10, 13, 13), (0, 10, 17, 15)]) (by decide) rfl ?_
  intro p e s m args below meth c s₁ B hml hv
  obtain ⟨rfl, ⟨hsz, hP, hK, hD0, hN⟩, hZ⟩ := hv
  have hx := B.exec
  have hb := B.bytes
  have hr := B.returns
  have hts := atoms_spec (ws := wsL_fraction) B.pre
  have hown : s.vm.findClass RL = some m.cls := findClass_of_methodNamed B.named
  have hlocks := B.notSynchronized
  subst hsz
  have hD := hD0.self (sz := s.heap.size)
  generalize hAe : va_A [(ya, .inr (16, [.ref ms, .int 0, .ref ju, .ref li, .ref ct, .ref tg, .ref fw])), (fw, .inr (6, [.int 0, .int sv, .int hv, .long nv, .ref fo, .ref fu])), (fo, .inl (cI, 10, .inl f1)), (fu, .inl (cI, 10, .inl f2)), (ou, .inl (cL, 1, .inr (.inl of9)))] s.heap.size = A at hD hZ ⊢
  have hA : ∀ q : Nat, s.heap.size ≤ q → A q := fun q h => by rw [← hAe]; exact Or.inr h
  have hS : va_S A s.heap s.heap [] := va_S.rf
  have hP : va_P (dC, dI) vwCl [(ya, .inr (16, [.ref ms, .int 0, .ref ju, .ref li, .ref ct, .ref tg, .ref fw])), (fw, .inr (6, [.int 0, .int sv, .int hv, .long nv, .ref fo, .ref fu])), (fo, .inl (cI, 10, .inl f1)), (fu, .inl (cI, 10, .inl f2)), (ou, .inl (cL, 1, .inr (.inl of9)))] s.heap := hP
  have hD : va_D A [(ya, .inr (16, [.ref ms, .int 0, .ref ju, .ref li, .ref ct, .ref tg, .ref fw])), (fw, .inr (6, [.int 0, .int sv, .int hv, .long nv, .ref fo, .ref fu])), (fo, .inl (cI, 10, .inl f1)), (fu, .inl (cI, 10, .inl f2)), (ou, .inl (cL, 1, .inr (.inl of9)))] := hD
  have hl := lv_entry ([.ref ya, .int a1, .int a2, .ref ou]) (n := 5) (Nat.le_of_ble_eq_true rfl)
  rw [lg_entry_eq]
  generalize (lg_sl ([.ref ya, .int a1, .int a2, .ref ou]) ++ List.replicate (5 - (lg_sl ([.ref ya, .int a1, .int a2, .ref ou])).length) Slot.unset).toArray = ls at hl ⊢
  have hl : lv_has ls 5 [(0, .ref ya), (1, .int a1), (2, .int a2), (3, .ref ou)] := hl
  have htab : c.exceptionTable.toList = tableOf [(0, 10, 13, 13), (0, 10, 17, 15)] := vx_table B (hts (.codeWith yL_fraction cL_fraction 5 (some .int) [(0, 10, 13, 13), (0, 10, 17, 15)]) (show _ ∈ wsL_fraction from List.mem_cons_self))
  refine lv_aload_n hx hb dL_fraction_0 rfl (lv_at hl 3 rfl) ?_
  refine lv_iconst (v := 0) hx hb dL_fraction_1 (by decide) ?_
  refine lv_aload_n hx hb dL_fraction_2 rfl (lv_at hl 0 rfl) ?_
  refine lv_iload_n hx hb dL_fraction_3 rfl (lv_at hl 1 rfl) ?_
  refine lv_iload_n hx hb dL_fraction_4 rfl (lv_at hl 2 rfl) ?_
  have hPc := hP.sub (ws' := [(ya, .inr (16, [.ref ms, .int 0, .ref ju, .ref li, .ref ct, .ref tg, .ref fw])), (fw, .inr (6, [.int 0, .int sv, .int hv, .long nv, .ref fo, .ref fu])), (fo, .inl (cI, 10, .inl f1)), (fu, .inl (cI, 10, .inl f2))]) [0, 1, 2, 3] rfl
  have hDc := hD.sub (ws' := [(ya, .inr (16, [.ref ms, .int 0, .ref ju, .ref li, .ref ct, .ref tg, .ref fw])), (fw, .inr (6, [.int 0, .int sv, .int hv, .long nv, .ref fo, .ref fu])), (fo, .inl (cI, 10, .inl f1)), (fu, .inl (cI, 10, .inl f2))]) [0, 1, 2, 3] (by decide) rfl
  have hKc := hK.sub (tys' := [(cI, .int)]) [0] rfl
  have hFc := va_free (wc := [(ya, .inr (16, [.ref ms, .int 0, .ref ju, .ref li, .ref ct, .ref tg, .ref fw])), (fw, .inr (6, [.int 0, .int sv, .int hv, .long nv, .ref fo, .ref fu])), (fo, .inl (cI, 10, .inl f1)), (fu, .inl (cI, 10, .inl f2))]) hD hS hA [0, 1, 2, 3] rfl
  refine vx_calli (vx_runV (As := [.int a1, .int a2]) (rest := [.int 0, .ref ou]) ⟨hx, hb, hml, hown, hts⟩ (c_X11_fraction l hfl dC dI cI ya ms ju li ct tg fw fo fu sv hv nv f1 f2 a1 a2 s.heap.size) (cwV 2 hts gL_fraction_X11_fraction rfl rfl rfl (by decide +kernel) ⟨Nat.le_of_ble_eq_true rfl, Nat.le_of_ble_eq_true rfl⟩) (pcVz (zX_ok) hPc hDc hKc hN hZ hS hFc (ci := 16) (q0 := 0) rfl rfl) rfl rfl hl.1 rfl (lv_room (Nat.le_of_ble_eq_true rfl)) dL_fraction_5 ⟨Nat.le_of_ble_eq_true rfl, Nat.le_of_ble_eq_true rfl⟩) hS (fun q _ h => hFc q h) hFc (fun q _ h => hFc q h) (fun E9 ce9 q9 u9 t9 H9 locs9 ht9 hvm9 hp9 hE9 hz9 hk9 hS9 hc9 hv9 hcl9 => ?_) (fun r_1 u t H1 locs ht hvm hw_2 hB hz1 hk1 hS => ?_)
  · obtain ⟨rfl, hno⟩ := hE9
    refine vx_catch (name := "java/lang/IllegalArgumentException") hown [] ⟨0, 10, 13, 13⟩ [⟨0, 10, 17, 15⟩] htab (fun z hz => by cases hz) (by decide) (by decide) (hts (.classLink RL 13 "java/lang/IllegalArgumentException") (by decide +kernel)) (zX_use hZ (.castable "java/lang/IllegalArgumentException" "java/lang/IllegalArgumentException") (by decide)) hc9 hv9 hcl9 ?_
    refine W.eq (g2 := F0 m 13 ls [.ref q9]) rfl ?_
    obtain ⟨hP, hD⟩ := va_join (wr := [(ou, .inl (cL, 1, .inr (.inl of9)))]) (w1 := []) hP hD [0, 1, 2, 3] [4] rfl rfl (by decide) (by decide) hk9 hFc P_nil D_nil
    have hS := hS9
    generalize H9 = H at hP hS ⊢
    have hP : va_P (dC, dI) vwCl [(ou, .inl (cL, 1, .inr (.inl of9)))] H := hP
    have hD : va_D A [(ou, .inl (cL, 1, .inr (.inl of9)))] := hD
    refine W.widen (k := 1) (n := 6) (Nat.le_of_ble_eq_true rfl) (Nat.le_of_ble_eq_true rfl) ?_
    refine lv_astore (lv' := [(4, .ref q9), (0, .ref ya), (1, .int a1), (2, .int a2), (3, .ref ou)]) hx hb dL_fraction_13 hl (by decide) rfl (fun ls hl => ?_)
    refine lv_iconst (v := 1) hx hb dL_fraction_15 (by decide) ?_
    refine vx_ret ?_
    have hP9 := hP.sub (ws' := [(ou, .inl (cL, 1, .inr (.inl of9)))]) [0] rfl
    have hD9 := hD.sub (ws' := [(ou, .inl (cL, 1, .inr (.inl of9)))]) [0] (by decide) rfl
    have hK9 := hK.sub (tys' := [(cL, .long)]) [1] rfl
    exact W.iret (v := 1) hx hb hr (fun t ht hW => ⟨⟨1, of9, rfl, Or.inr ⟨rfl, hno⟩, ⟨by rw [ht]; exact hP9, va_K.moved hW.alike hK9, hD9⟩⟩, hS.F ht⟩) hS.2.2 dL_fraction_16
  · skip
    obtain ⟨hP1, hK1, hD1⟩ := hB
    rw [ht] at hP1
    try dsimp only at hw_2
    obtain ⟨hP, hD⟩ := va_join (wr := [(ou, .inl (cL, 1, .inr (.inl of9)))]) (w1 := []) hP hD [0, 1, 2, 3] [4] rfl rfl (by decide) (by decide) hk1 hFc hP1 hD1
    generalize H1 = H at hP hS ⊢
    have hP : va_P (dC, dI) vwCl [(ou, .inl (cL, 1, .inr (.inl of9)))] H := hP
    have hD : va_D A [(ou, .inl (cL, 1, .inr (.inl of9)))] := hD
    refine W.widen (k := 1) (n := 6) (Nat.le_of_ble_eq_true rfl) (Nat.le_of_ble_eq_true rfl) ?_
    refine lv_i2l hx hb dL_fraction_8 rfl ?_
    refine va_last hx hb hK hP hD hS 0 1 rfl rfl (show vp_in (nI 0) 1 from vp_in_nI (by decide) (by decide)) dL_fraction_9 (fun H locs hP hD hS => ?_)
    obtain ⟨f_3, ef_3⟩ : ∃ z, z = (vp_updL of9 ((0 : Int32)).toNatClampNeg r_1.toInt64) := ⟨_, rfl⟩
    have hP : va_P (dC, dI) vwCl [(ou, .inl (cL, 1, .inr (.inl f_3)))] H := by rw [ef_3]; exact hP
    have hD : va_D A [(ou, .inl (cL, 1, .inr (.inl f_3)))] := by rw [ef_3]; exact hD
    refine lv_goto (tgt := 21) hx hb dL_fraction_10 (by decide) ?_
    refine lv_iconst (v := 0) hx hb dL_fraction_21 (by decide) ?_
    refine vx_ret ?_
    have hP9 := hP.sub (ws' := [(ou, .inl (cL, 1, .inr (.inl f_3)))]) [0] rfl
    have hD9 := hD.sub (ws' := [(ou, .inl (cL, 1, .inr (.inl f_3)))]) [0] (by decide) rfl
    have hK9 := hK.sub (tys' := [(cL, .long)]) [1] rfl
    exact W.iret (v := 0) hx hb hr (fun t ht hW => ⟨⟨0, f_3, rfl, Or.inl ⟨rfl, hw_2.2, by rw [ef_3, hw_2.1]; exact up0⟩, ⟨by rw [ht]; exact hP9, va_K.moved hW.alike hK9, hD9⟩⟩, hS.F ht⟩) hS.2.2 dL_fraction_22

set_option maxHeartbeats 4000000 in
set_option maxRecDepth 100000 in
/-- L_walk -/
theorem c_L_walk (l : Launch) (hfl : l.stackTraces = false) (dC : Nat → ClassId) (dI : Nat → Nat → Nat) (cI : ClassId) (ya ms ju li ct tg fw : Nat) (fo fu : Nat) (sv hv : Int32) (nv : Int64) (f1 f2 : Nat → Int32) (a1 : Int64) (a2 : Int32) (cL : ClassId) (ou : Nat) (of9 : Nat → Int64) (sz : Nat) : vx_Met l yL_walk wsL_walk ({ frames := 8, cells := 2, slots := 12, locals := 143 }) (va_Pc [.ref ya, .long a1, .int a2, .ref ou] (cPCz (zX) dC dI [(ya, .inr (16, [.ref ms, .int 0, .ref ju, .ref li, .ref ct, .ref tg, .ref fw])), (fw, .inr (6, [.int 0, .int sv, .int hv, .long nv, .ref fo, .ref fu])), (fo, .inl (cI, 10, .inl f1)), (fu, .inl (cI, 10, .inl f2)), (ou, .inl (cL, 1, .inr (.inl of9)))] [(cI, .int), (cL, .long)] sz)) (va_Qi (fun (r : Int32) (u : Nat → Int64) => (r = 0 ∧ pWalk a1 a2 ∧ u 0 = a1) ∨ (r = 1 ∧ ¬ pWalk a1 a2)) (fun (u : Nat → Int64) t => cQB dC dI [(ou, .inl (cL, 1, .inr (.inl u)))] [(cL, .long)] (va_A [(ya, .inr (16, [.ref ms, .int 0, .ref ju, .ref li, .ref ct, .ref tg, .ref fw])), (fw, .inr (6, [.int 0, .int sv, .int hv, .long nv, .ref fo, .ref fu])), (fo, .inl (cI, 10, .inl f1)), (fu, .inl (cI, 10, .inl f2)), (ou, .inl (cL, 1, .inr (.inl of9)))] sz) t) (va_A [(ya, .inr (16, [.ref ms, .int 0, .ref ju, .ref li, .ref ct, .ref tg, .ref fw])), (fw, .inr (6, [.int 0, .int sv, .int hv, .long nv, .ref fo, .ref fu])), (fo, .inl (cI, 10, .inl f1)), (fu, .inl (cI, 10, .inl f2)), (ou, .inl (cL, 1, .inr (.inl of9)))] sz)) (vx_X (fun (_ : Unit) => True) (fun (E9 : String) (_ : Unit) (_ : State) => False) (va_A [(ya, .inr (16, [.ref ms, .int 0, .ref ju, .ref li, .ref ct, .ref tg, .ref fw])), (fw, .inr (6, [.int 0, .int sv, .int hv, .long nv, .ref fo, .ref fu])), (fo, .inl (cI, 10, .inl f1)), (fu, .inl (cI, 10, .inl f2)), (ou, .inl (cL, 1, .inr (.inl of9)))] sz)) 2 12 (va_A [(ya, .inr (16, [.ref ms, .int 0, .ref ju, .ref li, .ref ct, .ref tg, .ref fw])), (fw, .inr (6, [.int 0, .int sv, .int hv, .long nv, .ref fo, .ref fu])), (fo, .inl (cI, 10, .inl f1)), (fu, .inl (cI, 10, .inl f2)), (ou, .inl (cL, 1, .inr (.inl of9)))] sz) := by
  refine vx_ofWH (cc := cL_walk) (maxL := 6) (ret := (some .int)) (hh := [(0, 10, 13, 13)]) (by decide) rfl ?_
  intro p e s m args below meth c s₁ B hml hv
  obtain ⟨rfl, ⟨hsz, hP, hK, hD0, hN⟩, hZ⟩ := hv
  have hx := B.exec
  have hb := B.bytes
  have hr := B.returns
  have hts := atoms_spec (ws := wsL_walk) B.pre
  have hown : s.vm.findClass RL = some m.cls := findClass_of_methodNamed B.named
  have hlocks := B.notSynchronized
  subst hsz
  have hD := hD0.self (sz := s.heap.size)
  generalize hAe : va_A [(ya, .inr (16, [.ref ms, .int 0, .ref ju, .ref li, .ref ct, .ref tg, .ref fw])), (fw, .inr (6, [.int 0, .int sv, .int hv, .long nv, .ref fo, .ref fu])), (fo, .inl (cI, 10, .inl f1)), (fu, .inl (cI, 10, .inl f2)), (ou, .inl (cL, 1, .inr (.inl of9)))] s.heap.size = A at hD hZ ⊢
  have hA : ∀ q : Nat, s.heap.size ≤ q → A q := fun q h => by rw [← hAe]; exact Or.inr h
  have hS : va_S A s.heap s.heap [] := va_S.rf
  have hP : va_P (dC, dI) vwCl [(ya, .inr (16, [.ref ms, .int 0, .ref ju, .ref li, .ref ct, .ref tg, .ref fw])), (fw, .inr (6, [.int 0, .int sv, .int hv, .long nv, .ref fo, .ref fu])), (fo, .inl (cI, 10, .inl f1)), (fu, .inl (cI, 10, .inl f2)), (ou, .inl (cL, 1, .inr (.inl of9)))] s.heap := hP
  have hD : va_D A [(ya, .inr (16, [.ref ms, .int 0, .ref ju, .ref li, .ref ct, .ref tg, .ref fw])), (fw, .inr (6, [.int 0, .int sv, .int hv, .long nv, .ref fo, .ref fu])), (fo, .inl (cI, 10, .inl f1)), (fu, .inl (cI, 10, .inl f2)), (ou, .inl (cL, 1, .inr (.inl of9)))] := hD
  have hl := lv_entry ([.ref ya, .long a1, .int a2, .ref ou]) (n := 6) (Nat.le_of_ble_eq_true rfl)
  rw [lg_entry_eq]
  generalize (lg_sl ([.ref ya, .long a1, .int a2, .ref ou]) ++ List.replicate (6 - (lg_sl ([.ref ya, .long a1, .int a2, .ref ou])).length) Slot.unset).toArray = ls at hl ⊢
  have hl : lv_has ls 6 [(0, .ref ya), (1, .long a1), (3, .int a2), (4, .ref ou)] := hl
  have htab : c.exceptionTable.toList = tableOf [(0, 10, 13, 13)] := vx_table B (hts (.codeWith yL_walk cL_walk 6 (some .int) [(0, 10, 13, 13)]) (show _ ∈ wsL_walk from List.mem_cons_self))
  refine lv_aload hx hb dL_walk_0 (lv_at hl 3 rfl) ?_
  refine lv_iconst (v := 0) hx hb dL_walk_2 (by decide) ?_
  refine lv_aload_n hx hb dL_walk_3 rfl (lv_at hl 0 rfl) ?_
  refine lv_lload_n hx hb dL_walk_4 rfl (lv_at hl 1 rfl) ?_
  refine lv_iload_n hx hb dL_walk_5 rfl (lv_at hl 2 rfl) ?_
  have hPc := hP.sub (ws' := [(ya, .inr (16, [.ref ms, .int 0, .ref ju, .ref li, .ref ct, .ref tg, .ref fw])), (fw, .inr (6, [.int 0, .int sv, .int hv, .long nv, .ref fo, .ref fu])), (fo, .inl (cI, 10, .inl f1)), (fu, .inl (cI, 10, .inl f2))]) [0, 1, 2, 3] rfl
  have hDc := hD.sub (ws' := [(ya, .inr (16, [.ref ms, .int 0, .ref ju, .ref li, .ref ct, .ref tg, .ref fw])), (fw, .inr (6, [.int 0, .int sv, .int hv, .long nv, .ref fo, .ref fu])), (fo, .inl (cI, 10, .inl f1)), (fu, .inl (cI, 10, .inl f2))]) [0, 1, 2, 3] (by decide) rfl
  have hKc := hK.sub (tys' := [(cI, .int)]) [0] rfl
  have hFc := va_free (wc := [(ya, .inr (16, [.ref ms, .int 0, .ref ju, .ref li, .ref ct, .ref tg, .ref fw])), (fw, .inr (6, [.int 0, .int sv, .int hv, .long nv, .ref fo, .ref fu])), (fo, .inl (cI, 10, .inl f1)), (fu, .inl (cI, 10, .inl f2))]) hD hS hA [0, 1, 2, 3] rfl
  refine vx_calll (vx_runV (As := [.long a1, .int a2]) (rest := [.int 0, .ref ou]) ⟨hx, hb, hml, hown, hts⟩ (c_X11_walk l hfl dC dI cI ya ms ju li ct tg fw fo fu sv hv nv f1 f2 a1 a2 s.heap.size) (cwV 2 hts gL_walk_X11_walk rfl rfl rfl (by decide +kernel) ⟨Nat.le_of_ble_eq_true rfl, Nat.le_of_ble_eq_true rfl⟩) (pcVz (zX_ok) hPc hDc hKc hN hZ hS hFc (ci := 16) (q0 := 0) rfl rfl) rfl rfl hl.1 rfl (lv_room (Nat.le_of_ble_eq_true rfl)) dL_walk_6 ⟨Nat.le_of_ble_eq_true rfl, Nat.le_of_ble_eq_true rfl⟩) hS (fun q _ h => hFc q h) hFc (fun q _ h => hFc q h) (fun E9 ce9 q9 u9 t9 H9 locs9 ht9 hvm9 hp9 hE9 hz9 hk9 hS9 hc9 hv9 hcl9 => ?_) (fun r_1 u t H1 locs ht hvm hw_2 hB hz1 hk1 hS => ?_)
  · obtain ⟨rfl, hno⟩ := hE9
    refine vx_catch (name := "java/lang/IllegalArgumentException") hown [] ⟨0, 10, 13, 13⟩ [] htab (fun z hz => by cases hz) (by decide) (by decide) (hts (.classLink RL 13 "java/lang/IllegalArgumentException") (by decide +kernel)) (zX_use hZ (.castable "java/lang/IllegalArgumentException" "java/lang/IllegalArgumentException") (by decide)) hc9 hv9 hcl9 ?_
    refine W.eq (g2 := F0 m 13 ls [.ref q9]) rfl ?_
    obtain ⟨hP, hD⟩ := va_join (wr := [(ou, .inl (cL, 1, .inr (.inl of9)))]) (w1 := []) hP hD [0, 1, 2, 3] [4] rfl rfl (by decide) (by decide) hk9 hFc P_nil D_nil
    have hS := hS9
    generalize H9 = H at hP hS ⊢
    have hP : va_P (dC, dI) vwCl [(ou, .inl (cL, 1, .inr (.inl of9)))] H := hP
    have hD : va_D A [(ou, .inl (cL, 1, .inr (.inl of9)))] := hD
    refine W.widen (k := 2) (n := 12) (Nat.le_of_ble_eq_true rfl) (Nat.le_of_ble_eq_true rfl) ?_
    refine lv_astore (lv' := [(5, .ref q9), (0, .ref ya), (1, .long a1), (3, .int a2), (4, .ref ou)]) hx hb dL_walk_13 hl (by decide) rfl (fun ls hl => ?_)
    refine lv_iconst (v := 1) hx hb dL_walk_15 (by decide) ?_
    refine vx_ret ?_
    have hP9 := hP.sub (ws' := [(ou, .inl (cL, 1, .inr (.inl of9)))]) [0] rfl
    have hD9 := hD.sub (ws' := [(ou, .inl (cL, 1, .inr (.inl of9)))]) [0] (by decide) rfl
    have hK9 := hK.sub (tys' := [(cL, .long)]) [1] rfl
    exact W.iret (v := 1) hx hb hr (fun t ht hW => ⟨⟨1, of9, rfl, Or.inr ⟨rfl, hno⟩, ⟨by rw [ht]; exact hP9, va_K.moved hW.alike hK9, hD9⟩⟩, hS.F ht⟩) hS.2.2 dL_walk_16
  · skip
    obtain ⟨hP1, hK1, hD1⟩ := hB
    rw [ht] at hP1
    try dsimp only at hw_2
    obtain ⟨hP, hD⟩ := va_join (wr := [(ou, .inl (cL, 1, .inr (.inl of9)))]) (w1 := []) hP hD [0, 1, 2, 3] [4] rfl rfl (by decide) (by decide) hk1 hFc hP1 hD1
    generalize H1 = H at hP hS ⊢
    have hP : va_P (dC, dI) vwCl [(ou, .inl (cL, 1, .inr (.inl of9)))] H := hP
    have hD : va_D A [(ou, .inl (cL, 1, .inr (.inl of9)))] := hD
    refine W.widen (k := 2) (n := 12) (Nat.le_of_ble_eq_true rfl) (Nat.le_of_ble_eq_true rfl) ?_
    refine va_last hx hb hK hP hD hS 0 1 rfl rfl (show vp_in (nI 0) 1 from vp_in_nI (by decide) (by decide)) dL_walk_9 (fun H locs hP hD hS => ?_)
    obtain ⟨f_3, ef_3⟩ : ∃ z, z = (vp_updL of9 ((0 : Int32)).toNatClampNeg r_1) := ⟨_, rfl⟩
    have hP : va_P (dC, dI) vwCl [(ou, .inl (cL, 1, .inr (.inl f_3)))] H := by rw [ef_3]; exact hP
    have hD : va_D A [(ou, .inl (cL, 1, .inr (.inl f_3)))] := by rw [ef_3]; exact hD
    refine lv_goto (tgt := 17) hx hb dL_walk_10 (by decide) ?_
    refine lv_iconst (v := 0) hx hb dL_walk_17 (by decide) ?_
    refine vx_ret ?_
    have hP9 := hP.sub (ws' := [(ou, .inl (cL, 1, .inr (.inl f_3)))]) [0] rfl
    have hD9 := hD.sub (ws' := [(ou, .inl (cL, 1, .inr (.inl f_3)))]) [0] (by decide) rfl
    have hK9 := hK.sub (tys' := [(cL, .long)]) [1] rfl
    exact W.iret (v := 0) hx hb hr (fun t ht hW => ⟨⟨0, f_3, rfl, Or.inl ⟨rfl, hw_2.2, by rw [ef_3, hw_2.1]; exact up0⟩, ⟨by rw [ht]; exact hP9, va_K.moved hW.alike hK9, hD9⟩⟩, hS.F ht⟩) hS.2.2 dL_walk_18

set_option maxHeartbeats 4000000 in
set_option maxRecDepth 100000 in
/-- L_listed -/
theorem c_L_listed (l : Launch) (hfl : l.stackTraces = false) (dC : Nat → ClassId) (dI : Nat → Nat → Nat) (cI : ClassId) (ya ms ct tg fw : Nat) (li ju bm bo la2 hh2 mm oo la hh rj tj ro rn rh ca sa da xa tn th wb jt br lk : Nat) (wr2 le2 fi2 se2 wr le fi se : Int32) (ge : RunS × Int32 × Int32 × Int32 × RunS × RunS × (Nat → Int32) × (Nat → Int32) × (Nat → Int32) × (Nat → Int32) × Int32 × (Nat → Int32)) (a1 a2 a3 : Int32) (cL : ClassId) (ou : Nat) (of9 : Nat → Int64) (sz : Nat) : vx_Met l yL_listed wsL_listed ({ frames := 19, cells := 2, slots := 12, locals := 657 }) (va_Pc [.ref ya, .int a1, .int a2, .int a3, .ref ou] (cPCz (zX) dC dI [(ya, .inr (16, [.ref ms, .int 0, .ref ju, .ref li, .ref ct, .ref tg, .ref fw])), (li, .inr (8, [.ref bm, .int 0, .int 0, .int 0, .int 0, .int 0, .int 0, .int 0, .ref mm])), (bm, .inr (10, [.int 0, .int 2, .int 2, .ref la2, .int wr2, .int ge.2.2.2.2.2.2.2.2.2.2.1, .int le2, .int fi2, .int se2, .ref bo, .ref hh2])), (bo, .inl (cI, 24, .inl ge.2.2.2.2.2.2.2.2.2.2.2)), (mm, .inr (10, [.int 0, .int 2, .int 2, .ref la, .int wr, .int 0, .int le, .int fi, .int se, .ref oo, .ref hh])), (oo, .inl (cI, 24, .inl (fun _ => 0))), (ju, .inr (7, [.ref rj, .ref ro, .ref wb, .ref jt, .ref br, .ref lk])), (rj, .inr (12, [.int ge.1.1, .int ge.1.2.1, .int ge.1.2.2.1, .int ge.1.2.2.2.1, .int ge.1.2.2.2.2.1, .int ge.1.2.2.2.2.2.1, .ref tj])), (tj, .inl (cI, 1001, .inl ge.1.2.2.2.2.2.2)), (ro, .inr (11, [.int ge.2.1, .int ge.2.2.1, .ref rn, .ref rh, .int ge.2.2.2.1, .ref ca, .ref sa, .ref da, .ref xa])), (rn, .inr (12, [.int ge.2.2.2.2.1.1, .int ge.2.2.2.2.1.2.1, .int ge.2.2.2.2.1.2.2.1, .int ge.2.2.2.2.1.2.2.2.1, .int ge.2.2.2.2.1.2.2.2.2.1, .int ge.2.2.2.2.1.2.2.2.2.2.1, .ref tn])), (tn, .inl (cI, 1001, .inl ge.2.2.2.2.1.2.2.2.2.2.2)), (rh, .inr (12, [.int ge.2.2.2.2.2.1.1, .int ge.2.2.2.2.2.1.2.1, .int ge.2.2.2.2.2.1.2.2.1, .int ge.2.2.2.2.2.1.2.2.2.1, .int ge.2.2.2.2.2.1.2.2.2.2.1, .int ge.2.2.2.2.2.1.2.2.2.2.2.1, .ref th])), (th, .inl (cI, 1001, .inl ge.2.2.2.2.2.1.2.2.2.2.2.2)), (ca, .inl (cI, 501, .inl ge.2.2.2.2.2.2.1)), (sa, .inl (cI, 501, .inl ge.2.2.2.2.2.2.2.1)), (da, .inl (cI, 501, .inl ge.2.2.2.2.2.2.2.2.1)), (xa, .inl (cI, 501, .inl ge.2.2.2.2.2.2.2.2.2.1)), (ou, .inl (cL, 1, .inr (.inl of9)))] [(cI, .int), (cL, .long)] sz)) (va_Qi (fun (r : Int32) (u : Nat → Int64) => (r = 0 ∧ (pListing a1 a2 ∧ pWhat a3) ∧ u 0 = (lsAns (lsC a1 a2) a3).toInt64) ∨ (r = 1 ∧ ¬ (pListing a1 a2 ∧ pWhat a3))) (fun (u : Nat → Int64) t => cQB dC dI [(ou, .inl (cL, 1, .inr (.inl u)))] [(cL, .long)] (va_A [(ya, .inr (16, [.ref ms, .int 0, .ref ju, .ref li, .ref ct, .ref tg, .ref fw])), (li, .inr (8, [.ref bm, .int 0, .int 0, .int 0, .int 0, .int 0, .int 0, .int 0, .ref mm])), (bm, .inr (10, [.int 0, .int 2, .int 2, .ref la2, .int wr2, .int ge.2.2.2.2.2.2.2.2.2.2.1, .int le2, .int fi2, .int se2, .ref bo, .ref hh2])), (bo, .inl (cI, 24, .inl ge.2.2.2.2.2.2.2.2.2.2.2)), (mm, .inr (10, [.int 0, .int 2, .int 2, .ref la, .int wr, .int 0, .int le, .int fi, .int se, .ref oo, .ref hh])), (oo, .inl (cI, 24, .inl (fun _ => 0))), (ju, .inr (7, [.ref rj, .ref ro, .ref wb, .ref jt, .ref br, .ref lk])), (rj, .inr (12, [.int ge.1.1, .int ge.1.2.1, .int ge.1.2.2.1, .int ge.1.2.2.2.1, .int ge.1.2.2.2.2.1, .int ge.1.2.2.2.2.2.1, .ref tj])), (tj, .inl (cI, 1001, .inl ge.1.2.2.2.2.2.2)), (ro, .inr (11, [.int ge.2.1, .int ge.2.2.1, .ref rn, .ref rh, .int ge.2.2.2.1, .ref ca, .ref sa, .ref da, .ref xa])), (rn, .inr (12, [.int ge.2.2.2.2.1.1, .int ge.2.2.2.2.1.2.1, .int ge.2.2.2.2.1.2.2.1, .int ge.2.2.2.2.1.2.2.2.1, .int ge.2.2.2.2.1.2.2.2.2.1, .int ge.2.2.2.2.1.2.2.2.2.2.1, .ref tn])), (tn, .inl (cI, 1001, .inl ge.2.2.2.2.1.2.2.2.2.2.2)), (rh, .inr (12, [.int ge.2.2.2.2.2.1.1, .int ge.2.2.2.2.2.1.2.1, .int ge.2.2.2.2.2.1.2.2.1, .int ge.2.2.2.2.2.1.2.2.2.1, .int ge.2.2.2.2.2.1.2.2.2.2.1, .int ge.2.2.2.2.2.1.2.2.2.2.2.1, .ref th])), (th, .inl (cI, 1001, .inl ge.2.2.2.2.2.1.2.2.2.2.2.2)), (ca, .inl (cI, 501, .inl ge.2.2.2.2.2.2.1)), (sa, .inl (cI, 501, .inl ge.2.2.2.2.2.2.2.1)), (da, .inl (cI, 501, .inl ge.2.2.2.2.2.2.2.2.1)), (xa, .inl (cI, 501, .inl ge.2.2.2.2.2.2.2.2.2.1)), (ou, .inl (cL, 1, .inr (.inl of9)))] sz) t) (va_A [(ya, .inr (16, [.ref ms, .int 0, .ref ju, .ref li, .ref ct, .ref tg, .ref fw])), (li, .inr (8, [.ref bm, .int 0, .int 0, .int 0, .int 0, .int 0, .int 0, .int 0, .ref mm])), (bm, .inr (10, [.int 0, .int 2, .int 2, .ref la2, .int wr2, .int ge.2.2.2.2.2.2.2.2.2.2.1, .int le2, .int fi2, .int se2, .ref bo, .ref hh2])), (bo, .inl (cI, 24, .inl ge.2.2.2.2.2.2.2.2.2.2.2)), (mm, .inr (10, [.int 0, .int 2, .int 2, .ref la, .int wr, .int 0, .int le, .int fi, .int se, .ref oo, .ref hh])), (oo, .inl (cI, 24, .inl (fun _ => 0))), (ju, .inr (7, [.ref rj, .ref ro, .ref wb, .ref jt, .ref br, .ref lk])), (rj, .inr (12, [.int ge.1.1, .int ge.1.2.1, .int ge.1.2.2.1, .int ge.1.2.2.2.1, .int ge.1.2.2.2.2.1, .int ge.1.2.2.2.2.2.1, .ref tj])), (tj, .inl (cI, 1001, .inl ge.1.2.2.2.2.2.2)), (ro, .inr (11, [.int ge.2.1, .int ge.2.2.1, .ref rn, .ref rh, .int ge.2.2.2.1, .ref ca, .ref sa, .ref da, .ref xa])), (rn, .inr (12, [.int ge.2.2.2.2.1.1, .int ge.2.2.2.2.1.2.1, .int ge.2.2.2.2.1.2.2.1, .int ge.2.2.2.2.1.2.2.2.1, .int ge.2.2.2.2.1.2.2.2.2.1, .int ge.2.2.2.2.1.2.2.2.2.2.1, .ref tn])), (tn, .inl (cI, 1001, .inl ge.2.2.2.2.1.2.2.2.2.2.2)), (rh, .inr (12, [.int ge.2.2.2.2.2.1.1, .int ge.2.2.2.2.2.1.2.1, .int ge.2.2.2.2.2.1.2.2.1, .int ge.2.2.2.2.2.1.2.2.2.1, .int ge.2.2.2.2.2.1.2.2.2.2.1, .int ge.2.2.2.2.2.1.2.2.2.2.2.1, .ref th])), (th, .inl (cI, 1001, .inl ge.2.2.2.2.2.1.2.2.2.2.2.2)), (ca, .inl (cI, 501, .inl ge.2.2.2.2.2.2.1)), (sa, .inl (cI, 501, .inl ge.2.2.2.2.2.2.2.1)), (da, .inl (cI, 501, .inl ge.2.2.2.2.2.2.2.2.1)), (xa, .inl (cI, 501, .inl ge.2.2.2.2.2.2.2.2.2.1)), (ou, .inl (cL, 1, .inr (.inl of9)))] sz)) (vx_X (fun (_ : Unit) => True) (fun (E9 : String) (_ : Unit) (_ : State) => False) (va_A [(ya, .inr (16, [.ref ms, .int 0, .ref ju, .ref li, .ref ct, .ref tg, .ref fw])), (li, .inr (8, [.ref bm, .int 0, .int 0, .int 0, .int 0, .int 0, .int 0, .int 0, .ref mm])), (bm, .inr (10, [.int 0, .int 2, .int 2, .ref la2, .int wr2, .int ge.2.2.2.2.2.2.2.2.2.2.1, .int le2, .int fi2, .int se2, .ref bo, .ref hh2])), (bo, .inl (cI, 24, .inl ge.2.2.2.2.2.2.2.2.2.2.2)), (mm, .inr (10, [.int 0, .int 2, .int 2, .ref la, .int wr, .int 0, .int le, .int fi, .int se, .ref oo, .ref hh])), (oo, .inl (cI, 24, .inl (fun _ => 0))), (ju, .inr (7, [.ref rj, .ref ro, .ref wb, .ref jt, .ref br, .ref lk])), (rj, .inr (12, [.int ge.1.1, .int ge.1.2.1, .int ge.1.2.2.1, .int ge.1.2.2.2.1, .int ge.1.2.2.2.2.1, .int ge.1.2.2.2.2.2.1, .ref tj])), (tj, .inl (cI, 1001, .inl ge.1.2.2.2.2.2.2)), (ro, .inr (11, [.int ge.2.1, .int ge.2.2.1, .ref rn, .ref rh, .int ge.2.2.2.1, .ref ca, .ref sa, .ref da, .ref xa])), (rn, .inr (12, [.int ge.2.2.2.2.1.1, .int ge.2.2.2.2.1.2.1, .int ge.2.2.2.2.1.2.2.1, .int ge.2.2.2.2.1.2.2.2.1, .int ge.2.2.2.2.1.2.2.2.2.1, .int ge.2.2.2.2.1.2.2.2.2.2.1, .ref tn])), (tn, .inl (cI, 1001, .inl ge.2.2.2.2.1.2.2.2.2.2.2)), (rh, .inr (12, [.int ge.2.2.2.2.2.1.1, .int ge.2.2.2.2.2.1.2.1, .int ge.2.2.2.2.2.1.2.2.1, .int ge.2.2.2.2.2.1.2.2.2.1, .int ge.2.2.2.2.2.1.2.2.2.2.1, .int ge.2.2.2.2.2.1.2.2.2.2.2.1, .ref th])), (th, .inl (cI, 1001, .inl ge.2.2.2.2.2.1.2.2.2.2.2.2)), (ca, .inl (cI, 501, .inl ge.2.2.2.2.2.2.1)), (sa, .inl (cI, 501, .inl ge.2.2.2.2.2.2.2.1)), (da, .inl (cI, 501, .inl ge.2.2.2.2.2.2.2.2.1)), (xa, .inl (cI, 501, .inl ge.2.2.2.2.2.2.2.2.2.1)), (ou, .inl (cL, 1, .inr (.inl of9)))] sz)) 2 12 (va_A [(ya, .inr (16, [.ref ms, .int 0, .ref ju, .ref li, .ref ct, .ref tg, .ref fw])), (li, .inr (8, [.ref bm, .int 0, .int 0, .int 0, .int 0, .int 0, .int 0, .int 0, .ref mm])), (bm, .inr (10, [.int 0, .int 2, .int 2, .ref la2, .int wr2, .int ge.2.2.2.2.2.2.2.2.2.2.1, .int le2, .int fi2, .int se2, .ref bo, .ref hh2])), (bo, .inl (cI, 24, .inl ge.2.2.2.2.2.2.2.2.2.2.2)), (mm, .inr (10, [.int 0, .int 2, .int 2, .ref la, .int wr, .int 0, .int le, .int fi, .int se, .ref oo, .ref hh])), (oo, .inl (cI, 24, .inl (fun _ => 0))), (ju, .inr (7, [.ref rj, .ref ro, .ref wb, .ref jt, .ref br, .ref lk])), (rj, .inr (12, [.int ge.1.1, .int ge.1.2.1, .int ge.1.2.2.1, .int ge.1.2.2.2.1, .int ge.1.2.2.2.2.1, .int ge.1.2.2.2.2.2.1, .ref tj])), (tj, .inl (cI, 1001, .inl ge.1.2.2.2.2.2.2)), (ro, .inr (11, [.int ge.2.1, .int ge.2.2.1, .ref rn, .ref rh, .int ge.2.2.2.1, .ref ca, .ref sa, .ref da, .ref xa])), (rn, .inr (12, [.int ge.2.2.2.2.1.1, .int ge.2.2.2.2.1.2.1, .int ge.2.2.2.2.1.2.2.1, .int ge.2.2.2.2.1.2.2.2.1, .int ge.2.2.2.2.1.2.2.2.2.1, .int ge.2.2.2.2.1.2.2.2.2.2.1, .ref tn])), (tn, .inl (cI, 1001, .inl ge.2.2.2.2.1.2.2.2.2.2.2)), (rh, .inr (12, [.int ge.2.2.2.2.2.1.1, .int ge.2.2.2.2.2.1.2.1, .int ge.2.2.2.2.2.1.2.2.1, .int ge.2.2.2.2.2.1.2.2.2.1, .int ge.2.2.2.2.2.1.2.2.2.2.1, .int ge.2.2.2.2.2.1.2.2.2.2.2.1, .ref th])), (th, .inl (cI, 1001, .inl ge.2.2.2.2.2.1.2.2.2.2.2.2)), (ca, .inl (cI, 501, .inl ge.2.2.2.2.2.2.1)), (sa, .inl (cI, 501, .inl ge.2.2.2.2.2.2.2.1)), (da, .inl (cI, 501, .inl ge.2.2.2.2.2.2.2.2.1)), (xa, .inl (cI, 501, .inl ge.2.2.2.2.2.2.2.2.2.1)), (ou, .inl (cL, 1, .inr (.inl of9)))] sz) := by
  refine vx_ofWH (cc := cL_listed) (maxL := 6) (ret := (some .int)) (hh := [(0, 12, 15, 13)]) (by decide) rfl ?_
  intro p e s m args below meth c s₁ B hml hv
  obtain ⟨rfl, ⟨hsz, hP, hK, hD0, hN⟩, hZ⟩ := hv
  have hx := B.exec
  have hb := B.bytes
  have hr := B.returns
  have hts := atoms_spec (ws := wsL_listed) B.pre
  have hown : s.vm.findClass RL = some m.cls := findClass_of_methodNamed B.named
  have hlocks := B.notSynchronized
  subst hsz
  have hD := hD0.self (sz := s.heap.size)
  generalize hAe : va_A [(ya, .inr (16, [.ref ms, .int 0, .ref ju, .ref li, .ref ct, .ref tg, .ref fw])), (li, .inr (8, [.ref bm, .int 0, .int 0, .int 0, .int 0, .int 0, .int 0, .int 0, .ref mm])), (bm, .inr (10, [.int 0, .int 2, .int 2, .ref la2, .int wr2, .int ge.2.2.2.2.2.2.2.2.2.2.1, .int le2, .int fi2, .int se2, .ref bo, .ref hh2])), (bo, .inl (cI, 24, .inl ge.2.2.2.2.2.2.2.2.2.2.2)), (mm, .inr (10, [.int 0, .int 2, .int 2, .ref la, .int wr, .int 0, .int le, .int fi, .int se, .ref oo, .ref hh])), (oo, .inl (cI, 24, .inl (fun _ => 0))), (ju, .inr (7, [.ref rj, .ref ro, .ref wb, .ref jt, .ref br, .ref lk])), (rj, .inr (12, [.int ge.1.1, .int ge.1.2.1, .int ge.1.2.2.1, .int ge.1.2.2.2.1, .int ge.1.2.2.2.2.1, .int ge.1.2.2.2.2.2.1, .ref tj])), (tj, .inl (cI, 1001, .inl ge.1.2.2.2.2.2.2)), (ro, .inr (11, [.int ge.2.1, .int ge.2.2.1, .ref rn, .ref rh, .int ge.2.2.2.1, .ref ca, .ref sa, .ref da, .ref xa])), (rn, .inr (12, [.int ge.2.2.2.2.1.1, .int ge.2.2.2.2.1.2.1, .int ge.2.2.2.2.1.2.2.1, .int ge.2.2.2.2.1.2.2.2.1, .int ge.2.2.2.2.1.2.2.2.2.1, .int ge.2.2.2.2.1.2.2.2.2.2.1, .ref tn])), (tn, .inl (cI, 1001, .inl ge.2.2.2.2.1.2.2.2.2.2.2)), (rh, .inr (12, [.int ge.2.2.2.2.2.1.1, .int ge.2.2.2.2.2.1.2.1, .int ge.2.2.2.2.2.1.2.2.1, .int ge.2.2.2.2.2.1.2.2.2.1, .int ge.2.2.2.2.2.1.2.2.2.2.1, .int ge.2.2.2.2.2.1.2.2.2.2.2.1, .ref th])), (th, .inl (cI, 1001, .inl ge.2.2.2.2.2.1.2.2.2.2.2.2)), (ca, .inl (cI, 501, .inl ge.2.2.2.2.2.2.1)), (sa, .inl (cI, 501, .inl ge.2.2.2.2.2.2.2.1)), (da, .inl (cI, 501, .inl ge.2.2.2.2.2.2.2.2.1)), (xa, .inl (cI, 501, .inl ge.2.2.2.2.2.2.2.2.2.1)), (ou, .inl (cL, 1, .inr (.inl of9)))] s.heap.size = A at hD hZ ⊢
  have hA : ∀ q : Nat, s.heap.size ≤ q → A q := fun q h => by rw [← hAe]; exact Or.inr h
  have hS : va_S A s.heap s.heap [] := va_S.rf
  have hP : va_P (dC, dI) vwCl [(ya, .inr (16, [.ref ms, .int 0, .ref ju, .ref li, .ref ct, .ref tg, .ref fw])), (li, .inr (8, [.ref bm, .int 0, .int 0, .int 0, .int 0, .int 0, .int 0, .int 0, .ref mm])), (bm, .inr (10, [.int 0, .int 2, .int 2, .ref la2, .int wr2, .int ge.2.2.2.2.2.2.2.2.2.2.1, .int le2, .int fi2, .int se2, .ref bo, .ref hh2])), (bo, .inl (cI, 24, .inl ge.2.2.2.2.2.2.2.2.2.2.2)), (mm, .inr (10, [.int 0, .int 2, .int 2, .ref la, .int wr, .int 0, .int le, .int fi, .int se, .ref oo, .ref hh])), (oo, .inl (cI, 24, .inl (fun _ => 0))), (ju, .inr (7, [.ref rj, .ref ro, .ref wb, .ref jt, .ref br, .ref lk])), (rj, .inr (12, [.int ge.1.1, .int ge.1.2.1, .int ge.1.2.2.1, .int ge.1.2.2.2.1, .int ge.1.2.2.2.2.1, .int ge.1.2.2.2.2.2.1, .ref tj])), (tj, .inl (cI, 1001, .inl ge.1.2.2.2.2.2.2)), (ro, .inr (11, [.int ge.2.1, .int ge.2.2.1, .ref rn, .ref rh, .int ge.2.2.2.1, .ref ca, .ref sa, .ref da, .ref xa])), (rn, .inr (12, [.int ge.2.2.2.2.1.1, .int ge.2.2.2.2.1.2.1, .int ge.2.2.2.2.1.2.2.1, .int ge.2.2.2.2.1.2.2.2.1, .int ge.2.2.2.2.1.2.2.2.2.1, .int ge.2.2.2.2.1.2.2.2.2.2.1, .ref tn])), (tn, .inl (cI, 1001, .inl ge.2.2.2.2.1.2.2.2.2.2.2)), (rh, .inr (12, [.int ge.2.2.2.2.2.1.1, .int ge.2.2.2.2.2.1.2.1, .int ge.2.2.2.2.2.1.2.2.1, .int ge.2.2.2.2.2.1.2.2.2.1, .int ge.2.2.2.2.2.1.2.2.2.2.1, .int ge.2.2.2.2.2.1.2.2.2.2.2.1, .ref th])), (th, .inl (cI, 1001, .inl ge.2.2.2.2.2.1.2.2.2.2.2.2)), (ca, .inl (cI, 501, .inl ge.2.2.2.2.2.2.1)), (sa, .inl (cI, 501, .inl ge.2.2.2.2.2.2.2.1)), (da, .inl (cI, 501, .inl ge.2.2.2.2.2.2.2.2.1)), (xa, .inl (cI, 501, .inl ge.2.2.2.2.2.2.2.2.2.1)), (ou, .inl (cL, 1, .inr (.inl of9)))] s.heap := hP
  have hD : va_D A [(ya, .inr (16, [.ref ms, .int 0, .ref ju, .ref li, .ref ct, .ref tg, .ref fw])), (li, .inr (8, [.ref bm, .int 0, .int 0, .int 0, .int 0, .int 0, .int 0, .int 0, .ref mm])), (bm, .inr (10, [.int 0, .int 2, .int 2, .ref la2, .int wr2, .int ge.2.2.2.2.2.2.2.2.2.2.1, .int le2, .int fi2, .int se2, .ref bo, .ref hh2])), (bo, .inl (cI, 24, .inl ge.2.2.2.2.2.2.2.2.2.2.2)), (mm, .inr (10, [.int 0, .int 2, .int 2, .ref la, .int wr, .int 0, .int le, .int fi, .int se, .ref oo, .ref hh])), (oo, .inl (cI, 24, .inl (fun _ => 0))), (ju, .inr (7, [.ref rj, .ref ro, .ref wb, .ref jt, .ref br, .ref lk])), (rj, .inr (12, [.int ge.1.1, .int ge.1.2.1, .int ge.1.2.2.1, .int ge.1.2.2.2.1, .int ge.1.2.2.2.2.1, .int ge.1.2.2.2.2.2.1, .ref tj])), (tj, .inl (cI, 1001, .inl ge.1.2.2.2.2.2.2)), (ro, .inr (11, [.int ge.2.1, .int ge.2.2.1, .ref rn, .ref rh, .int ge.2.2.2.1, .ref ca, .ref sa, .ref da, .ref xa])), (rn, .inr (12, [.int ge.2.2.2.2.1.1, .int ge.2.2.2.2.1.2.1, .int ge.2.2.2.2.1.2.2.1, .int ge.2.2.2.2.1.2.2.2.1, .int ge.2.2.2.2.1.2.2.2.2.1, .int ge.2.2.2.2.1.2.2.2.2.2.1, .ref tn])), (tn, .inl (cI, 1001, .inl ge.2.2.2.2.1.2.2.2.2.2.2)), (rh, .inr (12, [.int ge.2.2.2.2.2.1.1, .int ge.2.2.2.2.2.1.2.1, .int ge.2.2.2.2.2.1.2.2.1, .int ge.2.2.2.2.2.1.2.2.2.1, .int ge.2.2.2.2.2.1.2.2.2.2.1, .int ge.2.2.2.2.2.1.2.2.2.2.2.1, .ref th])), (th, .inl (cI, 1001, .inl ge.2.2.2.2.2.1.2.2.2.2.2.2)), (ca, .inl (cI, 501, .inl ge.2.2.2.2.2.2.1)), (sa, .inl (cI, 501, .inl ge.2.2.2.2.2.2.2.1)), (da, .inl (cI, 501, .inl ge.2.2.2.2.2.2.2.2.1)), (xa, .inl (cI, 501, .inl ge.2.2.2.2.2.2.2.2.2.1)), (ou, .inl (cL, 1, .inr (.inl of9)))] := hD
  have hl := lv_entry ([.ref ya, .int a1, .int a2, .int a3, .ref ou]) (n := 6) (Nat.le_of_ble_eq_true rfl)
  rw [lg_entry_eq]
  generalize (lg_sl ([.ref ya, .int a1, .int a2, .int a3, .ref ou]) ++ List.replicate (6 - (lg_sl ([.ref ya, .int a1, .int a2, .int a3, .ref ou])).length) Slot.unset).toArray = ls at hl ⊢
  have hl : lv_has ls 6 [(0, .ref ya), (1, .int a1), (2, .int a2), (3, .int a3), (4, .ref ou)] := hl
  have htab : c.exceptionTable.toList = tableOf [(0, 12, 15, 13)] := vx_table B (hts (.codeWith yL_listed cL_listed 6 (some .int) [(0, 12, 15, 13)]) (show _ ∈ wsL_listed from List.mem_cons_self))
  refine lv_aload hx hb dL_listed_0 (lv_at hl 4 rfl) ?_
  refine lv_iconst (v := 0) hx hb dL_listed_2 (by decide) ?_
  refine lv_aload_n hx hb dL_listed_3 rfl (lv_at hl 0 rfl) ?_
  refine lv_iload_n hx hb dL_listed_4 rfl (lv_at hl 1 rfl) ?_
  refine lv_iload_n hx hb dL_listed_5 rfl (lv_at hl 2 rfl) ?_
  refine lv_iload_n hx hb dL_listed_6 rfl (lv_at hl 3 rfl) ?_
  have hPc := hP.sub (ws' := [(ya, .inr (16, [.ref ms, .int 0, .ref ju, .ref li, .ref ct, .ref tg, .ref fw])), (li, .inr (8, [.ref bm, .int 0, .int 0, .int 0, .int 0, .int 0, .int 0, .int 0, .ref mm])), (bm, .inr (10, [.int 0, .int 2, .int 2, .ref la2, .int wr2, .int ge.2.2.2.2.2.2.2.2.2.2.1, .int le2, .int fi2, .int se2, .ref bo, .ref hh2])), (bo, .inl (cI, 24, .inl ge.2.2.2.2.2.2.2.2.2.2.2)), (mm, .inr (10, [.int 0, .int 2, .int 2, .ref la, .int wr, .int 0, .int le, .int fi, .int se, .ref oo, .ref hh])), (oo, .inl (cI, 24, .inl (fun _ => 0))), (ju, .inr (7, [.ref rj, .ref ro, .ref wb, .ref jt, .ref br, .ref lk])), (rj, .inr (12, [.int ge.1.1, .int ge.1.2.1, .int ge.1.2.2.1, .int ge.1.2.2.2.1, .int ge.1.2.2.2.2.1, .int ge.1.2.2.2.2.2.1, .ref tj])), (tj, .inl (cI, 1001, .inl ge.1.2.2.2.2.2.2)), (ro, .inr (11, [.int ge.2.1, .int ge.2.2.1, .ref rn, .ref rh, .int ge.2.2.2.1, .ref ca, .ref sa, .ref da, .ref xa])), (rn, .inr (12, [.int ge.2.2.2.2.1.1, .int ge.2.2.2.2.1.2.1, .int ge.2.2.2.2.1.2.2.1, .int ge.2.2.2.2.1.2.2.2.1, .int ge.2.2.2.2.1.2.2.2.2.1, .int ge.2.2.2.2.1.2.2.2.2.2.1, .ref tn])), (tn, .inl (cI, 1001, .inl ge.2.2.2.2.1.2.2.2.2.2.2)), (rh, .inr (12, [.int ge.2.2.2.2.2.1.1, .int ge.2.2.2.2.2.1.2.1, .int ge.2.2.2.2.2.1.2.2.1, .int ge.2.2.2.2.2.1.2.2.2.1, .int ge.2.2.2.2.2.1.2.2.2.2.1, .int ge.2.2.2.2.2.1.2.2.2.2.2.1, .ref th])), (th, .inl (cI, 1001, .inl ge.2.2.2.2.2.1.2.2.2.2.2.2)), (ca, .inl (cI, 501, .inl ge.2.2.2.2.2.2.1)), (sa, .inl (cI, 501, .inl ge.2.2.2.2.2.2.2.1)), (da, .inl (cI, 501, .inl ge.2.2.2.2.2.2.2.2.1)), (xa, .inl (cI, 501, .inl ge.2.2.2.2.2.2.2.2.2.1))]) [0, 1, 2, 3, 4, 5, 6, 7, 8, 9, 10, 11, 12, 13, 14, 15, 16, 17] rfl
  have hDc := hD.sub (ws' := [(ya, .inr (16, [.ref ms, .int 0, .ref ju, .ref li, .ref ct, .ref tg, .ref fw])), (li, .inr (8, [.ref bm, .int 0, .int 0, .int 0, .int 0, .int 0, .int 0, .int 0, .ref mm])), (bm, .inr (10, [.int 0, .int 2, .int 2, .ref la2, .int wr2, .int ge.2.2.2.2.2.2.2.2.2.2.1, .int le2, .int fi2, .int se2, .ref bo, .ref hh2])), (bo, .inl (cI, 24, .inl ge.2.2.2.2.2.2.2.2.2.2.2)), (mm, .inr (10, [.int 0, .int 2, .int 2, .ref la, .int wr, .int 0, .int le, .int fi, .int se, .ref oo, .ref hh])), (oo, .inl (cI, 24, .inl (fun _ => 0))), (ju, .inr (7, [.ref rj, .ref ro, .ref wb, .ref jt, .ref br, .ref lk])), (rj, .inr (12, [.int ge.1.1, .int ge.1.2.1, .int ge.1.2.2.1, .int ge.1.2.2.2.1, .int ge.1.2.2.2.2.1, .int ge.1.2.2.2.2.2.1, .ref tj])), (tj, .inl (cI, 1001, .inl ge.1.2.2.2.2.2.2)), (ro, .inr (11, [.int ge.2.1, .int ge.2.2.1, .ref rn, .ref rh, .int ge.2.2.2.1, .ref ca, .ref sa, .ref da, .ref xa])), (rn, .inr (12, [.int ge.2.2.2.2.1.1, .int ge.2.2.2.2.1.2.1, .int ge.2.2.2.2.1.2.2.1, .int ge.2.2.2.2.1.2.2.2.1, .int ge.2.2.2.2.1.2.2.2.2.1, .int ge.2.2.2.2.1.2.2.2.2.2.1, .ref tn])), (tn, .inl (cI, 1001, .inl ge.2.2.2.2.1.2.2.2.2.2.2)), (rh, .inr (12, [.int ge.2.2.2.2.2.1.1, .int ge.2.2.2.2.2.1.2.1, .int ge.2.2.2.2.2.1.2.2.1, .int ge.2.2.2.2.2.1.2.2.2.1, .int ge.2.2.2.2.2.1.2.2.2.2.1, .int ge.2.2.2.2.2.1.2.2.2.2.2.1, .ref th])), (th, .inl (cI, 1001, .inl ge.2.2.2.2.2.1.2.2.2.2.2.2)), (ca, .inl (cI, 501, .inl ge.2.2.2.2.2.2.1)), (sa, .inl (cI, 501, .inl ge.2.2.2.2.2.2.2.1)), (da, .inl (cI, 501, .inl ge.2.2.2.2.2.2.2.2.1)), (xa, .inl (cI, 501, .inl ge.2.2.2.2.2.2.2.2.2.1))]) [0, 1, 2, 3, 4, 5, 6, 7, 8, 9, 10, 11, 12, 13, 14, 15, 16, 17] (by decide) rfl
  have hKc := hK.sub (tys' := [(cI, .int)]) [0] rfl
  have hFc := va_free (wc := [(ya, .inr (16, [.ref ms, .int 0, .ref ju, .ref li, .ref ct, .ref tg, .ref fw])), (li, .inr (8, [.ref bm, .int 0, .int 0, .int 0, .int 0, .int 0, .int 0, .int 0, .ref mm])), (bm, .inr (10, [.int 0, .int 2, .int 2, .ref la2, .int wr2, .int ge.2.2.2.2.2.2.2.2.2.2.1, .int le2, .int fi2, .int se2, .ref bo, .ref hh2])), (bo, .inl (cI, 24, .inl ge.2.2.2.2.2.2.2.2.2.2.2)), (mm, .inr (10, [.int 0, .int 2, .int 2, .ref la, .int wr, .int 0, .int le, .int fi, .int se, .ref oo, .ref hh])), (oo, .inl (cI, 24, .inl (fun _ => 0))), (ju, .inr (7, [.ref rj, .ref ro, .ref wb, .ref jt, .ref br, .ref lk])), (rj, .inr (12, [.int ge.1.1, .int ge.1.2.1, .int ge.1.2.2.1, .int ge.1.2.2.2.1, .int ge.1.2.2.2.2.1, .int ge.1.2.2.2.2.2.1, .ref tj])), (tj, .inl (cI, 1001, .inl ge.1.2.2.2.2.2.2)), (ro, .inr (11, [.int ge.2.1, .int ge.2.2.1, .ref rn, .ref rh, .int ge.2.2.2.1, .ref ca, .ref sa, .ref da, .ref xa])), (rn, .inr (12, [.int ge.2.2.2.2.1.1, .int ge.2.2.2.2.1.2.1, .int ge.2.2.2.2.1.2.2.1, .int ge.2.2.2.2.1.2.2.2.1, .int ge.2.2.2.2.1.2.2.2.2.1, .int ge.2.2.2.2.1.2.2.2.2.2.1, .ref tn])), (tn, .inl (cI, 1001, .inl ge.2.2.2.2.1.2.2.2.2.2.2)), (rh, .inr (12, [.int ge.2.2.2.2.2.1.1, .int ge.2.2.2.2.2.1.2.1, .int ge.2.2.2.2.2.1.2.2.1, .int ge.2.2.2.2.2.1.2.2.2.1, .int ge.2.2.2.2.2.1.2.2.2.2.1, .int ge.2.2.2.2.2.1.2.2.2.2.2.1, .ref th])), (th, .inl (cI, 1001, .inl ge.2.2.2.2.2.1.2.2.2.2.2.2)), (ca, .inl (cI, 501, .inl ge.2.2.2.2.2.2.1)), (sa, .inl (cI, 501, .inl ge.2.2.2.2.2.2.2.1)), (da, .inl (cI, 501, .inl ge.2.2.2.2.2.2.2.2.1)), (xa, .inl (cI, 501, .inl ge.2.2.2.2.2.2.2.2.2.1))]) hD hS hA [0, 1, 2, 3, 4, 5, 6, 7, 8, 9, 10, 11, 12, 13, 14, 15, 16, 17] rfl
  refine vx_calli (vx_runV (As := [.int a1, .int a2, .int a3]) (rest := [.int 0, .ref ou]) ⟨hx, hb, hml, hown, hts⟩ (c_X11_listed l hfl dC dI cI ya ms ct tg fw li ju bm bo la2 hh2 mm oo la hh rj tj ro rn rh ca sa da xa tn th wb jt br lk wr2 le2 fi2 se2 wr le fi se ge a1 a2 a3 s.heap.size) (cwV 3 hts gL_listed_X11_listed rfl rfl rfl (by decide +kernel) ⟨Nat.le_of_ble_eq_true rfl, Nat.le_of_ble_eq_true rfl⟩) (pcVz (zX_ok) hPc hDc hKc hN hZ hS hFc (ci := 16) (q0 := 0) rfl rfl) rfl rfl hl.1 rfl (lv_room (Nat.le_of_ble_eq_true rfl)) dL_listed_7 ⟨Nat.le_of_ble_eq_true rfl, Nat.le_of_ble_eq_true rfl⟩) hS (fun q _ h => hFc q h) hFc (fun q _ h => hFc q h) (fun E9 ce9 q9 u9 t9 H9 locs9 ht9 hvm9 hp9 hE9 hz9 hk9 hS9 hc9 hv9 hcl9 => ?_) (fun r_1 u t H1 locs ht hvm hw_2 hB hz1 hk1 hS => ?_)
  · obtain ⟨rfl, hno⟩ := hE9
    refine vx_catch (name := "java/lang/IllegalArgumentException") hown [] ⟨0, 12, 15, 13⟩ [] htab (fun z hz => by cases hz) (by decide) (by decide) (hts (.classLink RL 13 "java/lang/IllegalArgumentException") (by decide +kernel)) (zX_use hZ (.castable "java/lang/IllegalArgumentException" "java/lang/IllegalArgumentException") (by decide)) hc9 hv9 hcl9 ?_
    refine W.eq (g2 := F0 m 15 ls [.ref q9]) rfl ?_
    obtain ⟨hP, hD⟩ := va_join (wr := [(ou, .inl (cL, 1, .inr (.inl of9)))]) (w1 := []) hP hD [0, 1, 2, 3, 4, 5, 6, 7, 8, 9, 10, 11, 12, 13, 14, 15, 16, 17] [18] rfl rfl (by decide) (by decide) hk9 hFc P_nil D_nil
    have hS := hS9
    generalize H9 = H at hP hS ⊢
    have hP : va_P (dC, dI) vwCl [(ou, .inl (cL, 1, .inr (.inl of9)))] H := hP
    have hD : va_D A [(ou, .inl (cL, 1, .inr (.inl of9)))] := hD
    refine W.widen (k := 2) (n := 12) (Nat.le_of_ble_eq_true rfl) (Nat.le_of_ble_eq_true rfl) ?_
    refine lv_astore (lv' := [(5, .ref q9), (0, .ref ya), (1, .int a1), (2, .int a2), (3, .int a3), (4, .ref ou)]) hx hb dL_listed_15 hl (by decide) rfl (fun ls hl => ?_)
    refine lv_iconst (v := 1) hx hb dL_listed_17 (by decide) ?_
    refine vx_ret ?_
    have hP9 := hP.sub (ws' := [(ou, .inl (cL, 1, .inr (.inl of9)))]) [0] rfl
    have hD9 := hD.sub (ws' := [(ou, .inl (cL, 1, .inr (.inl of9)))]) [0] (by decide) rfl
    have hK9 := hK.sub (tys' := [(cL, .long)]) [1] rfl
    exact W.iret (v := 1) hx hb hr (fun t ht hW => ⟨⟨1, of9, rfl, Or.inr ⟨rfl, hno⟩, ⟨by rw [ht]; exact hP9, va_K.moved hW.alike hK9, hD9⟩⟩, hS.F ht⟩) hS.2.2 dL_listed_18
  · skip
    obtain ⟨hP1, hK1, hD1⟩ := hB
    rw [ht] at hP1
    try dsimp only at hw_2
    obtain ⟨hP, hD⟩ := va_join (wr := [(ou, .inl (cL, 1, .inr (.inl of9)))]) (w1 := []) hP hD [0, 1, 2, 3, 4, 5, 6, 7, 8, 9, 10, 11, 12, 13, 14, 15, 16, 17] [18] rfl rfl (by decide) (by decide) hk1 hFc hP1 hD1
    generalize H1 = H at hP hS ⊢
    have hP : va_P (dC, dI) vwCl [(ou, .inl (cL, 1, .inr (.inl of9)))] H := hP
    have hD : va_D A [(ou, .inl (cL, 1, .inr (.inl of9)))] := hD
    refine W.widen (k := 2) (n := 12) (Nat.le_of_ble_eq_true rfl) (Nat.le_of_ble_eq_true rfl) ?_
    refine lv_i2l hx hb dL_listed_10 rfl ?_
    refine va_last hx hb hK hP hD hS 0 1 rfl rfl (show vp_in (nI 0) 1 from vp_in_nI (by decide) (by decide)) dL_listed_11 (fun H locs hP hD hS => ?_)
    obtain ⟨f_3, ef_3⟩ : ∃ z, z = (vp_updL of9 ((0 : Int32)).toNatClampNeg r_1.toInt64) := ⟨_, rfl⟩
    have hP : va_P (dC, dI) vwCl [(ou, .inl (cL, 1, .inr (.inl f_3)))] H := by rw [ef_3]; exact hP
    have hD : va_D A [(ou, .inl (cL, 1, .inr (.inl f_3)))] := by rw [ef_3]; exact hD
    refine lv_goto (tgt := 19) hx hb dL_listed_12 (by decide) ?_
    refine lv_iconst (v := 0) hx hb dL_listed_19 (by decide) ?_
    refine vx_ret ?_
    have hP9 := hP.sub (ws' := [(ou, .inl (cL, 1, .inr (.inl f_3)))]) [0] rfl
    have hD9 := hD.sub (ws' := [(ou, .inl (cL, 1, .inr (.inl f_3)))]) [0] (by decide) rfl
    have hK9 := hK.sub (tys' := [(cL, .long)]) [1] rfl
    exact W.iret (v := 0) hx hb hr (fun t ht hW => ⟨⟨0, f_3, rfl, Or.inl ⟨rfl, hw_2.2, by rw [ef_3, hw_2.1]; exact up0⟩, ⟨by rw [ht]; exact hP9, va_K.moved hW.alike hK9, hD9⟩⟩, hS.F ht⟩) hS.2.2 dL_listed_20

set_option maxHeartbeats 4000000 in
set_option maxRecDepth 100000 in
/-- L_champion -/
theorem c_L_champion (l : Launch) (hfl : l.stackTraces = false) (dC : Nat → ClassId) (dI : Nat → Nat → Nat) (cM : ClassId) (cI : ClassId) (ya ms ct tg fw : Nat) (li ju bm bo la2 hh2 mm oo la hh rj tj ro rn rh ca sa da xa tn th wb jt br lk : Nat) (wr2 le2 fi2 se2 wr le fi se : Int32) (ge : RunS × Int32 × Int32 × Int32 × RunS × RunS × (Nat → Int32) × (Nat → Int32) × (Nat → Int32) × (Nat → Int32) × Int32 × (Nat → Int32)) (a1 a2 : Int32) (cL : ClassId) (ou : Nat) (of9 : Nat → Int64) (sz : Nat) : vx_Met l yL_champion wsL_champion ({ frames := 19, cells := 6, slots := 1053, locals := 657 }) (va_Pc [.ref ya, .int a1, .int a2, .ref ou] (cPCz (zX) dC dI [(ya, .inr (16, [.ref ms, .int 0, .ref ju, .ref li, .ref ct, .ref tg, .ref fw])), (ms, .inl (cM, 16, .inr (.inr (.inr (.inr (fun _ => none)))))), (li, .inr (8, [.ref bm, .int 0, .int 0, .int 0, .int 0, .int 0, .int 0, .int 0, .ref mm])), (bm, .inr (10, [.int 0, .int 2, .int 2, .ref la2, .int wr2, .int ge.2.2.2.2.2.2.2.2.2.2.1, .int le2, .int fi2, .int se2, .ref bo, .ref hh2])), (bo, .inl (cI, 24, .inl ge.2.2.2.2.2.2.2.2.2.2.2)), (mm, .inr (10, [.int 0, .int 2, .int 2, .ref la, .int wr, .int 0, .int le, .int fi, .int se, .ref oo, .ref hh])), (oo, .inl (cI, 24, .inl (fun _ => 0))), (ju, .inr (7, [.ref rj, .ref ro, .ref wb, .ref jt, .ref br, .ref lk])), (rj, .inr (12, [.int ge.1.1, .int ge.1.2.1, .int ge.1.2.2.1, .int ge.1.2.2.2.1, .int ge.1.2.2.2.2.1, .int ge.1.2.2.2.2.2.1, .ref tj])), (tj, .inl (cI, 1001, .inl ge.1.2.2.2.2.2.2)), (ro, .inr (11, [.int ge.2.1, .int ge.2.2.1, .ref rn, .ref rh, .int ge.2.2.2.1, .ref ca, .ref sa, .ref da, .ref xa])), (rn, .inr (12, [.int ge.2.2.2.2.1.1, .int ge.2.2.2.2.1.2.1, .int ge.2.2.2.2.1.2.2.1, .int ge.2.2.2.2.1.2.2.2.1, .int ge.2.2.2.2.1.2.2.2.2.1, .int ge.2.2.2.2.1.2.2.2.2.2.1, .ref tn])), (tn, .inl (cI, 1001, .inl ge.2.2.2.2.1.2.2.2.2.2.2)), (rh, .inr (12, [.int ge.2.2.2.2.2.1.1, .int ge.2.2.2.2.2.1.2.1, .int ge.2.2.2.2.2.1.2.2.1, .int ge.2.2.2.2.2.1.2.2.2.1, .int ge.2.2.2.2.2.1.2.2.2.2.1, .int ge.2.2.2.2.2.1.2.2.2.2.2.1, .ref th])), (th, .inl (cI, 1001, .inl ge.2.2.2.2.2.1.2.2.2.2.2.2)), (ca, .inl (cI, 501, .inl ge.2.2.2.2.2.2.1)), (sa, .inl (cI, 501, .inl ge.2.2.2.2.2.2.2.1)), (da, .inl (cI, 501, .inl ge.2.2.2.2.2.2.2.2.1)), (xa, .inl (cI, 501, .inl ge.2.2.2.2.2.2.2.2.2.1)), (ou, .inl (cL, 1, .inr (.inl of9)))] [(cI, .int), (cM, .object "Beaverhall$Machine"), (cL, .long)] sz)) (va_Qi (fun (r : Int32) (u : Nat → Int64) => (r = 0 ∧ pListing a1 a2 ∧ u 0 = (0 : Int32).toInt64) ∨ (r = 1 ∧ ¬ pListing a1 a2)) (fun (u : Nat → Int64) t => cQB dC dI [(ou, .inl (cL, 1, .inr (.inl u)))] [(cL, .long)] (va_A [(ya, .inr (16, [.ref ms, .int 0, .ref ju, .ref li, .ref ct, .ref tg, .ref fw])), (ms, .inl (cM, 16, .inr (.inr (.inr (.inr (fun _ => none)))))), (li, .inr (8, [.ref bm, .int 0, .int 0, .int 0, .int 0, .int 0, .int 0, .int 0, .ref mm])), (bm, .inr (10, [.int 0, .int 2, .int 2, .ref la2, .int wr2, .int ge.2.2.2.2.2.2.2.2.2.2.1, .int le2, .int fi2, .int se2, .ref bo, .ref hh2])), (bo, .inl (cI, 24, .inl ge.2.2.2.2.2.2.2.2.2.2.2)), (mm, .inr (10, [.int 0, .int 2, .int 2, .ref la, .int wr, .int 0, .int le, .int fi, .int se, .ref oo, .ref hh])), (oo, .inl (cI, 24, .inl (fun _ => 0))), (ju, .inr (7, [.ref rj, .ref ro, .ref wb, .ref jt, .ref br, .ref lk])), (rj, .inr (12, [.int ge.1.1, .int ge.1.2.1, .int ge.1.2.2.1, .int ge.1.2.2.2.1, .int ge.1.2.2.2.2.1, .int ge.1.2.2.2.2.2.1, .ref tj])), (tj, .inl (cI, 1001, .inl ge.1.2.2.2.2.2.2)), (ro, .inr (11, [.int ge.2.1, .int ge.2.2.1, .ref rn, .ref rh, .int ge.2.2.2.1, .ref ca, .ref sa, .ref da, .ref xa])), (rn, .inr (12, [.int ge.2.2.2.2.1.1, .int ge.2.2.2.2.1.2.1, .int ge.2.2.2.2.1.2.2.1, .int ge.2.2.2.2.1.2.2.2.1, .int ge.2.2.2.2.1.2.2.2.2.1, .int ge.2.2.2.2.1.2.2.2.2.2.1, .ref tn])), (tn, .inl (cI, 1001, .inl ge.2.2.2.2.1.2.2.2.2.2.2)), (rh, .inr (12, [.int ge.2.2.2.2.2.1.1, .int ge.2.2.2.2.2.1.2.1, .int ge.2.2.2.2.2.1.2.2.1, .int ge.2.2.2.2.2.1.2.2.2.1, .int ge.2.2.2.2.2.1.2.2.2.2.1, .int ge.2.2.2.2.2.1.2.2.2.2.2.1, .ref th])), (th, .inl (cI, 1001, .inl ge.2.2.2.2.2.1.2.2.2.2.2.2)), (ca, .inl (cI, 501, .inl ge.2.2.2.2.2.2.1)), (sa, .inl (cI, 501, .inl ge.2.2.2.2.2.2.2.1)), (da, .inl (cI, 501, .inl ge.2.2.2.2.2.2.2.2.1)), (xa, .inl (cI, 501, .inl ge.2.2.2.2.2.2.2.2.2.1)), (ou, .inl (cL, 1, .inr (.inl of9)))] sz) t) (va_A [(ya, .inr (16, [.ref ms, .int 0, .ref ju, .ref li, .ref ct, .ref tg, .ref fw])), (ms, .inl (cM, 16, .inr (.inr (.inr (.inr (fun _ => none)))))), (li, .inr (8, [.ref bm, .int 0, .int 0, .int 0, .int 0, .int 0, .int 0, .int 0, .ref mm])), (bm, .inr (10, [.int 0, .int 2, .int 2, .ref la2, .int wr2, .int ge.2.2.2.2.2.2.2.2.2.2.1, .int le2, .int fi2, .int se2, .ref bo, .ref hh2])), (bo, .inl (cI, 24, .inl ge.2.2.2.2.2.2.2.2.2.2.2)), (mm, .inr (10, [.int 0, .int 2, .int 2, .ref la, .int wr, .int 0, .int le, .int fi, .int se, .ref oo, .ref hh])), (oo, .inl (cI, 24, .inl (fun _ => 0))), (ju, .inr (7, [.ref rj, .ref ro, .ref wb, .ref jt, .ref br, .ref lk])), (rj, .inr (12, [.int ge.1.1, .int ge.1.2.1, .int ge.1.2.2.1, .int ge.1.2.2.2.1, .int ge.1.2.2.2.2.1, .int ge.1.2.2.2.2.2.1, .ref tj])), (tj, .inl (cI, 1001, .inl ge.1.2.2.2.2.2.2)), (ro, .inr (11, [.int ge.2.1, .int ge.2.2.1, .ref rn, .ref rh, .int ge.2.2.2.1, .ref ca, .ref sa, .ref da, .ref xa])), (rn, .inr (12, [.int ge.2.2.2.2.1.1, .int ge.2.2.2.2.1.2.1, .int ge.2.2.2.2.1.2.2.1, .int ge.2.2.2.2.1.2.2.2.1, .int ge.2.2.2.2.1.2.2.2.2.1, .int ge.2.2.2.2.1.2.2.2.2.2.1, .ref tn])), (tn, .inl (cI, 1001, .inl ge.2.2.2.2.1.2.2.2.2.2.2)), (rh, .inr (12, [.int ge.2.2.2.2.2.1.1, .int ge.2.2.2.2.2.1.2.1, .int ge.2.2.2.2.2.1.2.2.1, .int ge.2.2.2.2.2.1.2.2.2.1, .int ge.2.2.2.2.2.1.2.2.2.2.1, .int ge.2.2.2.2.2.1.2.2.2.2.2.1, .ref th])), (th, .inl (cI, 1001, .inl ge.2.2.2.2.2.1.2.2.2.2.2.2)), (ca, .inl (cI, 501, .inl ge.2.2.2.2.2.2.1)), (sa, .inl (cI, 501, .inl ge.2.2.2.2.2.2.2.1)), (da, .inl (cI, 501, .inl ge.2.2.2.2.2.2.2.2.1)), (xa, .inl (cI, 501, .inl ge.2.2.2.2.2.2.2.2.2.1)), (ou, .inl (cL, 1, .inr (.inl of9)))] sz)) (vx_X (fun (_ : Unit) => True) (fun (E9 : String) (_ : Unit) (_ : State) => False) (va_A [(ya, .inr (16, [.ref ms, .int 0, .ref ju, .ref li, .ref ct, .ref tg, .ref fw])), (ms, .inl (cM, 16, .inr (.inr (.inr (.inr (fun _ => none)))))), (li, .inr (8, [.ref bm, .int 0, .int 0, .int 0, .int 0, .int 0, .int 0, .int 0, .ref mm])), (bm, .inr (10, [.int 0, .int 2, .int 2, .ref la2, .int wr2, .int ge.2.2.2.2.2.2.2.2.2.2.1, .int le2, .int fi2, .int se2, .ref bo, .ref hh2])), (bo, .inl (cI, 24, .inl ge.2.2.2.2.2.2.2.2.2.2.2)), (mm, .inr (10, [.int 0, .int 2, .int 2, .ref la, .int wr, .int 0, .int le, .int fi, .int se, .ref oo, .ref hh])), (oo, .inl (cI, 24, .inl (fun _ => 0))), (ju, .inr (7, [.ref rj, .ref ro, .ref wb, .ref jt, .ref br, .ref lk])), (rj, .inr (12, [.int ge.1.1, .int ge.1.2.1, .int ge.1.2.2.1, .int ge.1.2.2.2.1, .int ge.1.2.2.2.2.1, .int ge.1.2.2.2.2.2.1, .ref tj])), (tj, .inl (cI, 1001, .inl ge.1.2.2.2.2.2.2)), (ro, .inr (11, [.int ge.2.1, .int ge.2.2.1, .ref rn, .ref rh, .int ge.2.2.2.1, .ref ca, .ref sa, .ref da, .ref xa])), (rn, .inr (12, [.int ge.2.2.2.2.1.1, .int ge.2.2.2.2.1.2.1, .int ge.2.2.2.2.1.2.2.1, .int ge.2.2.2.2.1.2.2.2.1, .int ge.2.2.2.2.1.2.2.2.2.1, .int ge.2.2.2.2.1.2.2.2.2.2.1, .ref tn])), (tn, .inl (cI, 1001, .inl ge.2.2.2.2.1.2.2.2.2.2.2)), (rh, .inr (12, [.int ge.2.2.2.2.2.1.1, .int ge.2.2.2.2.2.1.2.1, .int ge.2.2.2.2.2.1.2.2.1, .int ge.2.2.2.2.2.1.2.2.2.1, .int ge.2.2.2.2.2.1.2.2.2.2.1, .int ge.2.2.2.2.2.1.2.2.2.2.2.1, .ref th])), (th, .inl (cI, 1001, .inl ge.2.2.2.2.2.1.2.2.2.2.2.2)), (ca, .inl (cI, 501, .inl ge.2.2.2.2.2.2.1)), (sa, .inl (cI, 501, .inl ge.2.2.2.2.2.2.2.1)), (da, .inl (cI, 501, .inl ge.2.2.2.2.2.2.2.2.1)), (xa, .inl (cI, 501, .inl ge.2.2.2.2.2.2.2.2.2.1)), (ou, .inl (cL, 1, .inr (.inl of9)))] sz)) 6 1053 (va_A [(ya, .inr (16, [.ref ms, .int 0, .ref ju, .ref li, .ref ct, .ref tg, .ref fw])), (ms, .inl (cM, 16, .inr (.inr (.inr (.inr (fun _ => none)))))), (li, .inr (8, [.ref bm, .int 0, .int 0, .int 0, .int 0, .int 0, .int 0, .int 0, .ref mm])), (bm, .inr (10, [.int 0, .int 2, .int 2, .ref la2, .int wr2, .int ge.2.2.2.2.2.2.2.2.2.2.1, .int le2, .int fi2, .int se2, .ref bo, .ref hh2])), (bo, .inl (cI, 24, .inl ge.2.2.2.2.2.2.2.2.2.2.2)), (mm, .inr (10, [.int 0, .int 2, .int 2, .ref la, .int wr, .int 0, .int le, .int fi, .int se, .ref oo, .ref hh])), (oo, .inl (cI, 24, .inl (fun _ => 0))), (ju, .inr (7, [.ref rj, .ref ro, .ref wb, .ref jt, .ref br, .ref lk])), (rj, .inr (12, [.int ge.1.1, .int ge.1.2.1, .int ge.1.2.2.1, .int ge.1.2.2.2.1, .int ge.1.2.2.2.2.1, .int ge.1.2.2.2.2.2.1, .ref tj])), (tj, .inl (cI, 1001, .inl ge.1.2.2.2.2.2.2)), (ro, .inr (11, [.int ge.2.1, .int ge.2.2.1, .ref rn, .ref rh, .int ge.2.2.2.1, .ref ca, .ref sa, .ref da, .ref xa])), (rn, .inr (12, [.int ge.2.2.2.2.1.1, .int ge.2.2.2.2.1.2.1, .int ge.2.2.2.2.1.2.2.1, .int ge.2.2.2.2.1.2.2.2.1, .int ge.2.2.2.2.1.2.2.2.2.1, .int ge.2.2.2.2.1.2.2.2.2.2.1, .ref tn])), (tn, .inl (cI, 1001, .inl ge.2.2.2.2.1.2.2.2.2.2.2)), (rh, .inr (12, [.int ge.2.2.2.2.2.1.1, .int ge.2.2.2.2.2.1.2.1, .int ge.2.2.2.2.2.1.2.2.1, .int ge.2.2.2.2.2.1.2.2.2.1, .int ge.2.2.2.2.2.1.2.2.2.2.1, .int ge.2.2.2.2.2.1.2.2.2.2.2.1, .ref th])), (th, .inl (cI, 1001, .inl ge.2.2.2.2.2.1.2.2.2.2.2.2)), (ca, .inl (cI, 501, .inl ge.2.2.2.2.2.2.1)), (sa, .inl (cI, 501, .inl ge.2.2.2.2.2.2.2.1)), (da, .inl (cI, 501, .inl ge.2.2.2.2.2.2.2.2.1)), (xa, .inl (cI, 501, .inl ge.2.2.2.2.2.2.2.2.2.1)), (ou, .inl (cL, 1, .inr (.inl of9)))] sz) := by
  refine vx_ofWH (cc := cL_champion) (maxL := 5) (ret := (some .int)) (hh := [(0, 10, 13, 13), (0, 10, 17, 15)]) (by decide) rfl ?_
  intro p e s m args below meth c s₁ B hml hv
  obtain ⟨rfl, ⟨hsz, hP, hK, hD0, hN⟩, hZ⟩ := hv
  have hx := B.exec
  have hb := B.bytes
  have hr := B.returns
  have hts := atoms_spec (ws := wsL_champion) B.pre
  have hown : s.vm.findClass RL = some m.cls := findClass_of_methodNamed B.named
  have hlocks := B.notSynchronized
  subst hsz
  have hD := hD0.self (sz := s.heap.size)
  generalize hAe : va_A [(ya, .inr (16, [.ref ms, .int 0, .ref ju, .ref li, .ref ct, .ref tg, .ref fw])), (ms, .inl (cM, 16, .inr (.inr (.inr (.inr (fun _ => none)))))), (li, .inr (8, [.ref bm, .int 0, .int 0, .int 0, .int 0, .int 0, .int 0, .int 0, .ref mm])), (bm, .inr (10, [.int 0, .int 2, .int 2, .ref la2, .int wr2, .int ge.2.2.2.2.2.2.2.2.2.2.1, .int le2, .int fi2, .int se2, .ref bo, .ref hh2])), (bo, .inl (cI, 24, .inl ge.2.2.2.2.2.2.2.2.2.2.2)), (mm, .inr (10, [.int 0, .int 2, .int 2, .ref la, .int wr, .int 0, .int le, .int fi, .int se, .ref oo, .ref hh])), (oo, .inl (cI, 24, .inl (fun _ => 0))), (ju, .inr (7, [.ref rj, .ref ro, .ref wb, .ref jt, .ref br, .ref lk])), (rj, .inr (12, [.int ge.1.1, .int ge.1.2.1, .int ge.1.2.2.1, .int ge.1.2.2.2.1, .int ge.1.2.2.2.2.1, .int ge.1.2.2.2.2.2.1, .ref tj])), (tj, .inl (cI, 1001, .inl ge.1.2.2.2.2.2.2)), (ro, .inr (11, [.int ge.2.1, .int ge.2.2.1, .ref rn, .ref rh, .int ge.2.2.2.1, .ref ca, .ref sa, .ref da, .ref xa])), (rn, .inr (12, [.int ge.2.2.2.2.1.1, .int ge.2.2.2.2.1.2.1, .int ge.2.2.2.2.1.2.2.1, .int ge.2.2.2.2.1.2.2.2.1, .int ge.2.2.2.2.1.2.2.2.2.1, .int ge.2.2.2.2.1.2.2.2.2.2.1, .ref tn])), (tn, .inl (cI, 1001, .inl ge.2.2.2.2.1.2.2.2.2.2.2)), (rh, .inr (12, [.int ge.2.2.2.2.2.1.1, .int ge.2.2.2.2.2.1.2.1, .int ge.2.2.2.2.2.1.2.2.1, .int ge.2.2.2.2.2.1.2.2.2.1, .int ge.2.2.2.2.2.1.2.2.2.2.1, .int ge.2.2.2.2.2.1.2.2.2.2.2.1, .ref th])), (th, .inl (cI, 1001, .inl ge.2.2.2.2.2.1.2.2.2.2.2.2)), (ca, .inl (cI, 501, .inl ge.2.2.2.2.2.2.1)), (sa, .inl (cI, 501, .inl ge.2.2.2.2.2.2.2.1)), (da, .inl (cI, 501, .inl ge.2.2.2.2.2.2.2.2.1)), (xa, .inl (cI, 501, .inl ge.2.2.2.2.2.2.2.2.2.1)), (ou, .inl (cL, 1, .inr (.inl of9)))] s.heap.size = A at hD hZ ⊢
  have hA : ∀ q : Nat, s.heap.size ≤ q → A q := fun q h => by rw [← hAe]; exact Or.inr h
  have hS : va_S A s.heap s.heap [] := va_S.rf
  have hP : va_P (dC, dI) vwCl [(ya, .inr (16, [.ref ms, .int 0, .ref ju, .ref li, .ref ct, .ref tg, .ref fw])), (ms, .inl (cM, 16, .inr (.inr (.inr (.inr (fun _ => none)))))), (li, .inr (8, [.ref bm, .int 0, .int 0, .int 0, .int 0, .int 0, .int 0, .int 0, .ref mm])), (bm, .inr (10, [.int 0, .int 2, .int 2, .ref la2, .int wr2, .int ge.2.2.2.2.2.2.2.2.2.2.1, .int le2, .int fi2, .int se2, .ref bo, .ref hh2])), (bo, .inl (cI, 24, .inl ge.2.2.2.2.2.2.2.2.2.2.2)), (mm, .inr (10, [.int 0, .int 2, .int 2, .ref la, .int wr, .int 0, .int le, .int fi, .int se, .ref oo, .ref hh])), (oo, .inl (cI, 24, .inl (fun _ => 0))), (ju, .inr (7, [.ref rj, .ref ro, .ref wb, .ref jt, .ref br, .ref lk])), (rj, .inr (12, [.int ge.1.1, .int ge.1.2.1, .int ge.1.2.2.1, .int ge.1.2.2.2.1, .int ge.1.2.2.2.2.1, .int ge.1.2.2.2.2.2.1, .ref tj])), (tj, .inl (cI, 1001, .inl ge.1.2.2.2.2.2.2)), (ro, .inr (11, [.int ge.2.1, .int ge.2.2.1, .ref rn, .ref rh, .int ge.2.2.2.1, .ref ca, .ref sa, .ref da, .ref xa])), (rn, .inr (12, [.int ge.2.2.2.2.1.1, .int ge.2.2.2.2.1.2.1, .int ge.2.2.2.2.1.2.2.1, .int ge.2.2.2.2.1.2.2.2.1, .int ge.2.2.2.2.1.2.2.2.2.1, .int ge.2.2.2.2.1.2.2.2.2.2.1, .ref tn])), (tn, .inl (cI, 1001, .inl ge.2.2.2.2.1.2.2.2.2.2.2)), (rh, .inr (12, [.int ge.2.2.2.2.2.1.1, .int ge.2.2.2.2.2.1.2.1, .int ge.2.2.2.2.2.1.2.2.1, .int ge.2.2.2.2.2.1.2.2.2.1, .int ge.2.2.2.2.2.1.2.2.2.2.1, .int ge.2.2.2.2.2.1.2.2.2.2.2.1, .ref th])), (th, .inl (cI, 1001, .inl ge.2.2.2.2.2.1.2.2.2.2.2.2)), (ca, .inl (cI, 501, .inl ge.2.2.2.2.2.2.1)), (sa, .inl (cI, 501, .inl ge.2.2.2.2.2.2.2.1)), (da, .inl (cI, 501, .inl ge.2.2.2.2.2.2.2.2.1)), (xa, .inl (cI, 501, .inl ge.2.2.2.2.2.2.2.2.2.1)), (ou, .inl (cL, 1, .inr (.inl of9)))] s.heap := hP
  have hD : va_D A [(ya, .inr (16, [.ref ms, .int 0, .ref ju, .ref li, .ref ct, .ref tg, .ref fw])), (ms, .inl (cM, 16, .inr (.inr (.inr (.inr (fun _ => none)))))), (li, .inr (8, [.ref bm, .int 0, .int 0, .int 0, .int 0, .int 0, .int 0, .int 0, .ref mm])), (bm, .inr (10, [.int 0, .int 2, .int 2, .ref la2, .int wr2, .int ge.2.2.2.2.2.2.2.2.2.2.1, .int le2, .int fi2, .int se2, .ref bo, .ref hh2])), (bo, .inl (cI, 24, .inl ge.2.2.2.2.2.2.2.2.2.2.2)), (mm, .inr (10, [.int 0, .int 2, .int 2, .ref la, .int wr, .int 0, .int le, .int fi, .int se, .ref oo, .ref hh])), (oo, .inl (cI, 24, .inl (fun _ => 0))), (ju, .inr (7, [.ref rj, .ref ro, .ref wb, .ref jt, .ref br, .ref lk])), (rj, .inr (12, [.int ge.1.1, .int ge.1.2.1, .int ge.1.2.2.1, .int ge.1.2.2.2.1, .int ge.1.2.2.2.2.1, .int ge.1.2.2.2.2.2.1, .ref tj])), (tj, .inl (cI, 1001, .inl ge.1.2.2.2.2.2.2)), (ro, .inr (11, [.int ge.2.1, .int ge.2.2.1, .ref rn, .ref rh, .int ge.2.2.2.1, .ref ca, .ref sa, .ref da, .ref xa])), (rn, .inr (12, [.int ge.2.2.2.2.1.1, .int ge.2.2.2.2.1.2.1, .int ge.2.2.2.2.1.2.2.1, .int ge.2.2.2.2.1.2.2.2.1, .int ge.2.2.2.2.1.2.2.2.2.1, .int ge.2.2.2.2.1.2.2.2.2.2.1, .ref tn])), (tn, .inl (cI, 1001, .inl ge.2.2.2.2.1.2.2.2.2.2.2)), (rh, .inr (12, [.int ge.2.2.2.2.2.1.1, .int ge.2.2.2.2.2.1.2.1, .int ge.2.2.2.2.2.1.2.2.1, .int ge.2.2.2.2.2.1.2.2.2.1, .int ge.2.2.2.2.2.1.2.2.2.2.1, .int ge.2.2.2.2.2.1.2.2.2.2.2.1, .ref th])), (th, .inl (cI, 1001, .inl ge.2.2.2.2.2.1.2.2.2.2.2.2)), (ca, .inl (cI, 501, .inl ge.2.2.2.2.2.2.1)), (sa, .inl (cI, 501, .inl ge.2.2.2.2.2.2.2.1)), (da, .inl (cI, 501, .inl ge.2.2.2.2.2.2.2.2.1)), (xa, .inl (cI, 501, .inl ge.2.2.2.2.2.2.2.2.2.1)), (ou, .inl (cL, 1, .inr (.inl of9)))] := hD
  have hl := lv_entry ([.ref ya, .int a1, .int a2, .ref ou]) (n := 5) (Nat.le_of_ble_eq_true rfl)
  rw [lg_entry_eq]
  generalize (lg_sl ([.ref ya, .int a1, .int a2, .ref ou]) ++ List.replicate (5 - (lg_sl ([.ref ya, .int a1, .int a2, .ref ou])).length) Slot.unset).toArray = ls at hl ⊢
  have hl : lv_has ls 5 [(0, .ref ya), (1, .int a1), (2, .int a2), (3, .ref ou)] := hl
  have htab : c.exceptionTable.toList = tableOf [(0, 10, 13, 13), (0, 10, 17, 15)] := vx_table B (hts (.codeWith yL_champion cL_champion 5 (some .int) [(0, 10, 13, 13), (0, 10, 17, 15)]) (show _ ∈ wsL_champion from List.mem_cons_self))
  refine lv_aload_n hx hb dL_champion_0 rfl (lv_at hl 3 rfl) ?_
  refine lv_iconst (v := 0) hx hb dL_champion_1 (by decide) ?_
  refine lv_aload_n hx hb dL_champion_2 rfl (lv_at hl 0 rfl) ?_
  refine lv_iload_n hx hb dL_champion_3 rfl (lv_at hl 1 rfl) ?_
  refine lv_iload_n hx hb dL_champion_4 rfl (lv_at hl 2 rfl) ?_
  have hPc := hP.sub (ws' := [(ya, .inr (16, [.ref ms, .int 0, .ref ju, .ref li, .ref ct, .ref tg, .ref fw])), (ms, .inl (cM, 16, .inr (.inr (.inr (.inr (fun _ => none)))))), (li, .inr (8, [.ref bm, .int 0, .int 0, .int 0, .int 0, .int 0, .int 0, .int 0, .ref mm])), (bm, .inr (10, [.int 0, .int 2, .int 2, .ref la2, .int wr2, .int ge.2.2.2.2.2.2.2.2.2.2.1, .int le2, .int fi2, .int se2, .ref bo, .ref hh2])), (bo, .inl (cI, 24, .inl ge.2.2.2.2.2.2.2.2.2.2.2)), (mm, .inr (10, [.int 0, .int 2, .int 2, .ref la, .int wr, .int 0, .int le, .int fi, .int se, .ref oo, .ref hh])), (oo, .inl (cI, 24, .inl (fun _ => 0))), (ju, .inr (7, [.ref rj, .ref ro, .ref wb, .ref jt, .ref br, .ref lk])), (rj, .inr (12, [.int ge.1.1, .int ge.1.2.1, .int ge.1.2.2.1, .int ge.1.2.2.2.1, .int ge.1.2.2.2.2.1, .int ge.1.2.2.2.2.2.1, .ref tj])), (tj, .inl (cI, 1001, .inl ge.1.2.2.2.2.2.2)), (ro, .inr (11, [.int ge.2.1, .int ge.2.2.1, .ref rn, .ref rh, .int ge.2.2.2.1, .ref ca, .ref sa, .ref da, .ref xa])), (rn, .inr (12, [.int ge.2.2.2.2.1.1, .int ge.2.2.2.2.1.2.1, .int ge.2.2.2.2.1.2.2.1, .int ge.2.2.2.2.1.2.2.2.1, .int ge.2.2.2.2.1.2.2.2.2.1, .int ge.2.2.2.2.1.2.2.2.2.2.1, .ref tn])), (tn, .inl (cI, 1001, .inl ge.2.2.2.2.1.2.2.2.2.2.2)), (rh, .inr (12, [.int ge.2.2.2.2.2.1.1, .int ge.2.2.2.2.2.1.2.1, .int ge.2.2.2.2.2.1.2.2.1, .int ge.2.2.2.2.2.1.2.2.2.1, .int ge.2.2.2.2.2.1.2.2.2.2.1, .int ge.2.2.2.2.2.1.2.2.2.2.2.1, .ref th])), (th, .inl (cI, 1001, .inl ge.2.2.2.2.2.1.2.2.2.2.2.2)), (ca, .inl (cI, 501, .inl ge.2.2.2.2.2.2.1)), (sa, .inl (cI, 501, .inl ge.2.2.2.2.2.2.2.1)), (da, .inl (cI, 501, .inl ge.2.2.2.2.2.2.2.2.1)), (xa, .inl (cI, 501, .inl ge.2.2.2.2.2.2.2.2.2.1))]) [0, 1, 2, 3, 4, 5, 6, 7, 8, 9, 10, 11, 12, 13, 14, 15, 16, 17, 18] rfl
  have hDc := hD.sub (ws' := [(ya, .inr (16, [.ref ms, .int 0, .ref ju, .ref li, .ref ct, .ref tg, .ref fw])), (ms, .inl (cM, 16, .inr (.inr (.inr (.inr (fun _ => none)))))), (li, .inr (8, [.ref bm, .int 0, .int 0, .int 0, .int 0, .int 0, .int 0, .int 0, .ref mm])), (bm, .inr (10, [.int 0, .int 2, .int 2, .ref la2, .int wr2, .int ge.2.2.2.2.2.2.2.2.2.2.1, .int le2, .int fi2, .int se2, .ref bo, .ref hh2])), (bo, .inl (cI, 24, .inl ge.2.2.2.2.2.2.2.2.2.2.2)), (mm, .inr (10, [.int 0, .int 2, .int 2, .ref la, .int wr, .int 0, .int le, .int fi, .int se, .ref oo, .ref hh])), (oo, .inl (cI, 24, .inl (fun _ => 0))), (ju, .inr (7, [.ref rj, .ref ro, .ref wb, .ref jt, .ref br, .ref lk])), (rj, .inr (12, [.int ge.1.1, .int ge.1.2.1, .int ge.1.2.2.1, .int ge.1.2.2.2.1, .int ge.1.2.2.2.2.1, .int ge.1.2.2.2.2.2.1, .ref tj])), (tj, .inl (cI, 1001, .inl ge.1.2.2.2.2.2.2)), (ro, .inr (11, [.int ge.2.1, .int ge.2.2.1, .ref rn, .ref rh, .int ge.2.2.2.1, .ref ca, .ref sa, .ref da, .ref xa])), (rn, .inr (12, [.int ge.2.2.2.2.1.1, .int ge.2.2.2.2.1.2.1, .int ge.2.2.2.2.1.2.2.1, .int ge.2.2.2.2.1.2.2.2.1, .int ge.2.2.2.2.1.2.2.2.2.1, .int ge.2.2.2.2.1.2.2.2.2.2.1, .ref tn])), (tn, .inl (cI, 1001, .inl ge.2.2.2.2.1.2.2.2.2.2.2)), (rh, .inr (12, [.int ge.2.2.2.2.2.1.1, .int ge.2.2.2.2.2.1.2.1, .int ge.2.2.2.2.2.1.2.2.1, .int ge.2.2.2.2.2.1.2.2.2.1, .int ge.2.2.2.2.2.1.2.2.2.2.1, .int ge.2.2.2.2.2.1.2.2.2.2.2.1, .ref th])), (th, .inl (cI, 1001, .inl ge.2.2.2.2.2.1.2.2.2.2.2.2)), (ca, .inl (cI, 501, .inl ge.2.2.2.2.2.2.1)), (sa, .inl (cI, 501, .inl ge.2.2.2.2.2.2.2.1)), (da, .inl (cI, 501, .inl ge.2.2.2.2.2.2.2.2.1)), (xa, .inl (cI, 501, .inl ge.2.2.2.2.2.2.2.2.2.1))]) [0, 1, 2, 3, 4, 5, 6, 7, 8, 9, 10, 11, 12, 13, 14, 15, 16, 17, 18] (by decide) rfl
  have hKc := hK.sub (tys' := [(cI, .int), (cM, .object "Beaverhall$Machine")]) [0, 1] rfl
  have hFc := va_free (wc := [(ya, .inr (16, [.ref ms, .int 0, .ref ju, .ref li, .ref ct, .ref tg, .ref fw])), (ms, .inl (cM, 16, .inr (.inr (.inr (.inr (fun _ => none)))))), (li, .inr (8, [.ref bm, .int 0, .int 0, .int 0, .int 0, .int 0, .int 0, .int 0, .ref mm])), (bm, .inr (10, [.int 0, .int 2, .int 2, .ref la2, .int wr2, .int ge.2.2.2.2.2.2.2.2.2.2.1, .int le2, .int fi2, .int se2, .ref bo, .ref hh2])), (bo, .inl (cI, 24, .inl ge.2.2.2.2.2.2.2.2.2.2.2)), (mm, .inr (10, [.int 0, .int 2, .int 2, .ref la, .int wr, .int 0, .int le, .int fi, .int se, .ref oo, .ref hh])), (oo, .inl (cI, 24, .inl (fun _ => 0))), (ju, .inr (7, [.ref rj, .ref ro, .ref wb, .ref jt, .ref br, .ref lk])), (rj, .inr (12, [.int ge.1.1, .int ge.1.2.1, .int ge.1.2.2.1, .int ge.1.2.2.2.1, .int ge.1.2.2.2.2.1, .int ge.1.2.2.2.2.2.1, .ref tj])), (tj, .inl (cI, 1001, .inl ge.1.2.2.2.2.2.2)), (ro, .inr (11, [.int ge.2.1, .int ge.2.2.1, .ref rn, .ref rh, .int ge.2.2.2.1, .ref ca, .ref sa, .ref da, .ref xa])), (rn, .inr (12, [.int ge.2.2.2.2.1.1, .int ge.2.2.2.2.1.2.1, .int ge.2.2.2.2.1.2.2.1, .int ge.2.2.2.2.1.2.2.2.1, .int ge.2.2.2.2.1.2.2.2.2.1, .int ge.2.2.2.2.1.2.2.2.2.2.1, .ref tn])), (tn, .inl (cI, 1001, .inl ge.2.2.2.2.1.2.2.2.2.2.2)), (rh, .inr (12, [.int ge.2.2.2.2.2.1.1, .int ge.2.2.2.2.2.1.2.1, .int ge.2.2.2.2.2.1.2.2.1, .int ge.2.2.2.2.2.1.2.2.2.1, .int ge.2.2.2.2.2.1.2.2.2.2.1, .int ge.2.2.2.2.2.1.2.2.2.2.2.1, .ref th])), (th, .inl (cI, 1001, .inl ge.2.2.2.2.2.1.2.2.2.2.2.2)), (ca, .inl (cI, 501, .inl ge.2.2.2.2.2.2.1)), (sa, .inl (cI, 501, .inl ge.2.2.2.2.2.2.2.1)), (da, .inl (cI, 501, .inl ge.2.2.2.2.2.2.2.2.1)), (xa, .inl (cI, 501, .inl ge.2.2.2.2.2.2.2.2.2.1))]) hD hS hA [0, 1, 2, 3, 4, 5, 6, 7, 8, 9, 10, 11, 12, 13, 14, 15, 16, 17, 18] rfl
  refine vx_calli (vx_runV (As := [.int a1, .int a2]) (rest := [.int 0, .ref ou]) ⟨hx, hb, hml, hown, hts⟩ (c_X11_champion l hfl dC dI cM cI ya ms ct tg fw li ju bm bo la2 hh2 mm oo la hh rj tj ro rn rh ca sa da xa tn th wb jt br lk wr2 le2 fi2 se2 wr le fi se ge a1 a2 s.heap.size) (cwV 2 hts gL_champion_X11_champion rfl rfl rfl (by decide +kernel) ⟨Nat.le_of_ble_eq_true rfl, Nat.le_of_ble_eq_true rfl⟩) (pcVz (zX_ok) hPc hDc hKc hN hZ hS hFc (ci := 16) (q0 := 0) rfl rfl) rfl rfl hl.1 rfl (lv_room (Nat.le_of_ble_eq_true rfl)) dL_champion_5 ⟨Nat.le_of_ble_eq_true rfl, Nat.le_of_ble_eq_true rfl⟩) hS (fun q _ h => hFc q h) hFc (fun q _ h => hFc q h) (fun E9 ce9 q9 u9 t9 H9 locs9 ht9 hvm9 hp9 hE9 hz9 hk9 hS9 hc9 hv9 hcl9 => ?_) (fun r_1 u t H1 locs ht hvm hw_2 hB hz1 hk1 hS => ?_)
  · obtain ⟨rfl, hno⟩ := hE9
    refine vx_catch (name := "java/lang/IllegalArgumentException") hown [] ⟨0, 10, 13, 13⟩ [⟨0, 10, 17, 15⟩] htab (fun z hz => by cases hz) (by decide) (by decide) (hts (.classLink RL 13 "java/lang/IllegalArgumentException") (by decide +kernel)) (zX_use hZ (.castable "java/lang/IllegalArgumentException" "java/lang/IllegalArgumentException") (by decide)) hc9 hv9 hcl9 ?_
    refine W.eq (g2 := F0 m 13 ls [.ref q9]) rfl ?_
    obtain ⟨hP, hD⟩ := va_join (wr := [(ou, .inl (cL, 1, .inr (.inl of9)))]) (w1 := []) hP hD [0, 1, 2, 3, 4, 5, 6, 7, 8, 9, 10, 11, 12, 13, 14, 15, 16, 17, 18] [19] rfl rfl (by decide) (by decide) hk9 hFc P_nil D_nil
    have hS := hS9
    generalize H9 = H at hP hS ⊢
    have hP : va_P (dC, dI) vwCl [(ou, .inl (cL, 1, .inr (.inl of9)))] H := hP
    have hD : va_D A [(ou, .inl (cL, 1, .inr (.inl of9)))] := hD
    refine W.widen (k := 6) (n := 1053) (Nat.le_of_ble_eq_true rfl) (Nat.le_of_ble_eq_true rfl) ?_
    refine lv_astore (lv' := [(4, .ref q9), (0, .ref ya), (1, .int a1), (2, .int a2), (3, .ref ou)]) hx hb dL_champion_13 hl (by decide) rfl (fun ls hl => ?_)
    refine lv_iconst (v := 1) hx hb dL_champion_15 (by decide) ?_
    refine vx_ret ?_
    have hP9 := hP.sub (ws' := [(ou, .inl (cL, 1, .inr (.inl of9)))]) [0] rfl
    have hD9 := hD.sub (ws' := [(ou, .inl (cL, 1, .inr (.inl of9)))]) [0] (by decide) rfl
    have hK9 := hK.sub (tys' := [(cL, .long)]) [2] rfl
    exact W.iret (v := 1) hx hb hr (fun t ht hW => ⟨⟨1, of9, rfl, Or.inr ⟨rfl, hno⟩, ⟨by rw [ht]; exact hP9, va_K.moved hW.alike hK9, hD9⟩⟩, hS.F ht⟩) hS.2.2 dL_champion_16
  · skip
    obtain ⟨hP1, hK1, hD1⟩ := hB
    rw [ht] at hP1
    try dsimp only at hw_2
    obtain ⟨hP, hD⟩ := va_join (wr := [(ou, .inl (cL, 1, .inr (.inl of9)))]) (w1 := []) hP hD [0, 1, 2, 3, 4, 5, 6, 7, 8, 9, 10, 11, 12, 13, 14, 15, 16, 17, 18] [19] rfl rfl (by decide) (by decide) hk1 hFc hP1 hD1
    generalize H1 = H at hP hS ⊢
    have hP : va_P (dC, dI) vwCl [(ou, .inl (cL, 1, .inr (.inl of9)))] H := hP
    have hD : va_D A [(ou, .inl (cL, 1, .inr (.inl of9)))] := hD
    refine W.widen (k := 6) (n := 1053) (Nat.le_of_ble_eq_true rfl) (Nat.le_of_ble_eq_true rfl) ?_
    refine lv_i2l hx hb dL_champion_8 rfl ?_
    refine va_last hx hb hK hP hD hS 0 2 rfl rfl (show vp_in (nI 0) 1 from vp_in_nI (by decide) (by decide)) dL_champion_9 (fun H locs hP hD hS => ?_)
    obtain ⟨f_3, ef_3⟩ : ∃ z, z = (vp_updL of9 ((0 : Int32)).toNatClampNeg r_1.toInt64) := ⟨_, rfl⟩
    have hP : va_P (dC, dI) vwCl [(ou, .inl (cL, 1, .inr (.inl f_3)))] H := by rw [ef_3]; exact hP
    have hD : va_D A [(ou, .inl (cL, 1, .inr (.inl f_3)))] := by rw [ef_3]; exact hD
    refine lv_goto (tgt := 21) hx hb dL_champion_10 (by decide) ?_
    refine lv_iconst (v := 0) hx hb dL_champion_21 (by decide) ?_
    refine vx_ret ?_
    have hP9 := hP.sub (ws' := [(ou, .inl (cL, 1, .inr (.inl f_3)))]) [0] rfl
    have hD9 := hD.sub (ws' := [(ou, .inl (cL, 1, .inr (.inl f_3)))]) [0] (by decide) rfl
    have hK9 := hK.sub (tys' := [(cL, .long)]) [2] rfl
    exact W.iret (v := 0) hx hb hr (fun t ht hW => ⟨⟨0, f_3, rfl, Or.inl ⟨rfl, hw_2.2, by rw [ef_3, hw_2.1]; exact up0⟩, ⟨by rw [ht]; exact hP9, va_K.moved hW.alike hK9, hD9⟩⟩, hS.F ht⟩) hS.2.2 dL_champion_22

set_option maxHeartbeats 4000000 in
set_option maxRecDepth 100000 in
/-- L_haltingShare -/
theorem c_L_haltingShare (l : Launch) (hfl : l.stackTraces = false) (dC : Nat → ClassId) (dI : Nat → Nat → Nat) (cI : ClassId) (ya ms ct tg fw : Nat) (li ju bm bo la2 hh2 mm oo la hh rj tj ro rn rh ca sa da xa tn th wb jt br lk : Nat) (wr2 le2 fi2 se2 wr le fi se : Int32) (ge : RunS × Int32 × Int32 × Int32 × RunS × RunS × (Nat → Int32) × (Nat → Int32) × (Nat → Int32) × (Nat → Int32) × Int32 × (Nat → Int32)) (a1 a2 : Int32) (cD : ClassId) (ou : Nat) (of9 : Nat → UInt64) (sz : Nat) : vx_Met l yL_haltingShare wsL_haltingShare ({ frames := 19, cells := 1, slots := 6, locals := 657 }) (va_Pc [.ref ya, .int a1, .int a2, .ref ou] (cPCz (zX) dC dI [(ya, .inr (16, [.ref ms, .int 0, .ref ju, .ref li, .ref ct, .ref tg, .ref fw])), (li, .inr (8, [.ref bm, .int 0, .int 0, .int 0, .int 0, .int 0, .int 0, .int 0, .ref mm])), (bm, .inr (10, [.int 0, .int 2, .int 2, .ref la2, .int wr2, .int ge.2.2.2.2.2.2.2.2.2.2.1, .int le2, .int fi2, .int se2, .ref bo, .ref hh2])), (bo, .inl (cI, 24, .inl ge.2.2.2.2.2.2.2.2.2.2.2)), (mm, .inr (10, [.int 0, .int 2, .int 2, .ref la, .int wr, .int 0, .int le, .int fi, .int se, .ref oo, .ref hh])), (oo, .inl (cI, 24, .inl (fun _ => 0))), (ju, .inr (7, [.ref rj, .ref ro, .ref wb, .ref jt, .ref br, .ref lk])), (rj, .inr (12, [.int ge.1.1, .int ge.1.2.1, .int ge.1.2.2.1, .int ge.1.2.2.2.1, .int ge.1.2.2.2.2.1, .int ge.1.2.2.2.2.2.1, .ref tj])), (tj, .inl (cI, 1001, .inl ge.1.2.2.2.2.2.2)), (ro, .inr (11, [.int ge.2.1, .int ge.2.2.1, .ref rn, .ref rh, .int ge.2.2.2.1, .ref ca, .ref sa, .ref da, .ref xa])), (rn, .inr (12, [.int ge.2.2.2.2.1.1, .int ge.2.2.2.2.1.2.1, .int ge.2.2.2.2.1.2.2.1, .int ge.2.2.2.2.1.2.2.2.1, .int ge.2.2.2.2.1.2.2.2.2.1, .int ge.2.2.2.2.1.2.2.2.2.2.1, .ref tn])), (tn, .inl (cI, 1001, .inl ge.2.2.2.2.1.2.2.2.2.2.2)), (rh, .inr (12, [.int ge.2.2.2.2.2.1.1, .int ge.2.2.2.2.2.1.2.1, .int ge.2.2.2.2.2.1.2.2.1, .int ge.2.2.2.2.2.1.2.2.2.1, .int ge.2.2.2.2.2.1.2.2.2.2.1, .int ge.2.2.2.2.2.1.2.2.2.2.2.1, .ref th])), (th, .inl (cI, 1001, .inl ge.2.2.2.2.2.1.2.2.2.2.2.2)), (ca, .inl (cI, 501, .inl ge.2.2.2.2.2.2.1)), (sa, .inl (cI, 501, .inl ge.2.2.2.2.2.2.2.1)), (da, .inl (cI, 501, .inl ge.2.2.2.2.2.2.2.2.1)), (xa, .inl (cI, 501, .inl ge.2.2.2.2.2.2.2.2.2.1)), (ou, .inl (cD, 1, .inr (.inr (.inr (.inl of9)))))] [(cI, .int), (cD, .double)] sz)) (va_Qi (fun (r : Int32) (u : Nat → UInt64) => (r = 0 ∧ pListing a1 a2 ∧ u 0 = FP.f2d (shV (lsC a1 a2))) ∨ (r = 1 ∧ ¬ pListing a1 a2)) (fun (u : Nat → UInt64) t => cQB dC dI [(ou, .inl (cD, 1, .inr (.inr (.inr (.inl u)))))] [(cD, .double)] (va_A [(ya, .inr (16, [.ref ms, .int 0, .ref ju, .ref li, .ref ct, .ref tg, .ref fw])), (li, .inr (8, [.ref bm, .int 0, .int 0, .int 0, .int 0, .int 0, .int 0, .int 0, .ref mm])), (bm, .inr (10, [.int 0, .int 2, .int 2, .ref la2, .int wr2, .int ge.2.2.2.2.2.2.2.2.2.2.1, .int le2, .int fi2, .int se2, .ref bo, .ref hh2])), (bo, .inl (cI, 24, .inl ge.2.2.2.2.2.2.2.2.2.2.2)), (mm, .inr (10, [.int 0, .int 2, .int 2, .ref la, .int wr, .int 0, .int le, .int fi, .int se, .ref oo, .ref hh])), (oo, .inl (cI, 24, .inl (fun _ => 0))), (ju, .inr (7, [.ref rj, .ref ro, .ref wb, .ref jt, .ref br, .ref lk])), (rj, .inr (12, [.int ge.1.1, .int ge.1.2.1, .int ge.1.2.2.1, .int ge.1.2.2.2.1, .int ge.1.2.2.2.2.1, .int ge.1.2.2.2.2.2.1, .ref tj])), (tj, .inl (cI, 1001, .inl ge.1.2.2.2.2.2.2)), (ro, .inr (11, [.int ge.2.1, .int ge.2.2.1, .ref rn, .ref rh, .int ge.2.2.2.1, .ref ca, .ref sa, .ref da, .ref xa])), (rn, .inr (12, [.int ge.2.2.2.2.1.1, .int ge.2.2.2.2.1.2.1, .int ge.2.2.2.2.1.2.2.1, .int ge.2.2.2.2.1.2.2.2.1, .int ge.2.2.2.2.1.2.2.2.2.1, .int ge.2.2.2.2.1.2.2.2.2.2.1, .ref tn])), (tn, .inl (cI, 1001, .inl ge.2.2.2.2.1.2.2.2.2.2.2)), (rh, .inr (12, [.int ge.2.2.2.2.2.1.1, .int ge.2.2.2.2.2.1.2.1, .int ge.2.2.2.2.2.1.2.2.1, .int ge.2.2.2.2.2.1.2.2.2.1, .int ge.2.2.2.2.2.1.2.2.2.2.1, .int ge.2.2.2.2.2.1.2.2.2.2.2.1, .ref th])), (th, .inl (cI, 1001, .inl ge.2.2.2.2.2.1.2.2.2.2.2.2)), (ca, .inl (cI, 501, .inl ge.2.2.2.2.2.2.1)), (sa, .inl (cI, 501, .inl ge.2.2.2.2.2.2.2.1)), (da, .inl (cI, 501, .inl ge.2.2.2.2.2.2.2.2.1)), (xa, .inl (cI, 501, .inl ge.2.2.2.2.2.2.2.2.2.1)), (ou, .inl (cD, 1, .inr (.inr (.inr (.inl of9)))))] sz) t) (va_A [(ya, .inr (16, [.ref ms, .int 0, .ref ju, .ref li, .ref ct, .ref tg, .ref fw])), (li, .inr (8, [.ref bm, .int 0, .int 0, .int 0, .int 0, .int 0, .int 0, .int 0, .ref mm])), (bm, .inr (10, [.int 0, .int 2, .int 2, .ref la2, .int wr2, .int ge.2.2.2.2.2.2.2.2.2.2.1, .int le2, .int fi2, .int se2, .ref bo, .ref hh2])), (bo, .inl (cI, 24, .inl ge.2.2.2.2.2.2.2.2.2.2.2)), (mm, .inr (10, [.int 0, .int 2, .int 2, .ref la, .int wr, .int 0, .int le, .int fi, .int se, .ref oo, .ref hh])), (oo, .inl (cI, 24, .inl (fun _ => 0))), (ju, .inr (7, [.ref rj, .ref ro, .ref wb, .ref jt, .ref br, .ref lk])), (rj, .inr (12, [.int ge.1.1, .int ge.1.2.1, .int ge.1.2.2.1, .int ge.1.2.2.2.1, .int ge.1.2.2.2.2.1, .int ge.1.2.2.2.2.2.1, .ref tj])), (tj, .inl (cI, 1001, .inl ge.1.2.2.2.2.2.2)), (ro, .inr (11, [.int ge.2.1, .int ge.2.2.1, .ref rn, .ref rh, .int ge.2.2.2.1, .ref ca, .ref sa, .ref da, .ref xa])), (rn, .inr (12, [.int ge.2.2.2.2.1.1, .int ge.2.2.2.2.1.2.1, .int ge.2.2.2.2.1.2.2.1, .int ge.2.2.2.2.1.2.2.2.1, .int ge.2.2.2.2.1.2.2.2.2.1, .int ge.2.2.2.2.1.2.2.2.2.2.1, .ref tn])), (tn, .inl (cI, 1001, .inl ge.2.2.2.2.1.2.2.2.2.2.2)), (rh, .inr (12, [.int ge.2.2.2.2.2.1.1, .int ge.2.2.2.2.2.1.2.1, .int ge.2.2.2.2.2.1.2.2.1, .int ge.2.2.2.2.2.1.2.2.2.1, .int ge.2.2.2.2.2.1.2.2.2.2.1, .int ge.2.2.2.2.2.1.2.2.2.2.2.1, .ref th])), (th, .inl (cI, 1001, .inl ge.2.2.2.2.2.1.2.2.2.2.2.2)), (ca, .inl (cI, 501, .inl ge.2.2.2.2.2.2.1)), (sa, .inl (cI, 501, .inl ge.2.2.2.2.2.2.2.1)), (da, .inl (cI, 501, .inl ge.2.2.2.2.2.2.2.2.1)), (xa, .inl (cI, 501, .inl ge.2.2.2.2.2.2.2.2.2.1)), (ou, .inl (cD, 1, .inr (.inr (.inr (.inl of9)))))] sz)) (vx_X (fun (_ : Unit) => True) (fun (E9 : String) (_ : Unit) (_ : State) => False) (va_A [(ya, .inr (16, [.ref ms, .int 0, .ref ju, .ref li, .ref ct, .ref tg, .ref fw])), (li, .inr (8, [.ref bm, .int 0, .int 0, .int 0, .int 0, .int 0, .int 0, .int 0, .ref mm])), (bm, .inr (10, [.int 0, .int 2, .int 2, .ref la2, .int wr2, .int ge.2.2.2.2.2.2.2.2.2.2.1, .int le2, .int fi2, .int se2, .ref bo, .ref hh2])), (bo, .inl (cI, 24, .inl ge.2.2.2.2.2.2.2.2.2.2.2)), (mm, .inr (10, [.int 0, .int 2, .int 2, .ref la, .int wr, .int 0, .int le, .int fi, .int se, .ref oo, .ref hh])), (oo, .inl (cI, 24, .inl (fun _ => 0))), (ju, .inr (7, [.ref rj, .ref ro, .ref wb, .ref jt, .ref br, .ref lk])), (rj, .inr (12, [.int ge.1.1, .int ge.1.2.1, .int ge.1.2.2.1, .int ge.1.2.2.2.1, .int ge.1.2.2.2.2.1, .int ge.1.2.2.2.2.2.1, .ref tj])), (tj, .inl (cI, 1001, .inl ge.1.2.2.2.2.2.2)), (ro, .inr (11, [.int ge.2.1, .int ge.2.2.1, .ref rn, .ref rh, .int ge.2.2.2.1, .ref ca, .ref sa, .ref da, .ref xa])), (rn, .inr (12, [.int ge.2.2.2.2.1.1, .int ge.2.2.2.2.1.2.1, .int ge.2.2.2.2.1.2.2.1, .int ge.2.2.2.2.1.2.2.2.1, .int ge.2.2.2.2.1.2.2.2.2.1, .int ge.2.2.2.2.1.2.2.2.2.2.1, .ref tn])), (tn, .inl (cI, 1001, .inl ge.2.2.2.2.1.2.2.2.2.2.2)), (rh, .inr (12, [.int ge.2.2.2.2.2.1.1, .int ge.2.2.2.2.2.1.2.1, .int ge.2.2.2.2.2.1.2.2.1, .int ge.2.2.2.2.2.1.2.2.2.1, .int ge.2.2.2.2.2.1.2.2.2.2.1, .int ge.2.2.2.2.2.1.2.2.2.2.2.1, .ref th])), (th, .inl (cI, 1001, .inl ge.2.2.2.2.2.1.2.2.2.2.2.2)), (ca, .inl (cI, 501, .inl ge.2.2.2.2.2.2.1)), (sa, .inl (cI, 501, .inl ge.2.2.2.2.2.2.2.1)), (da, .inl (cI, 501, .inl ge.2.2.2.2.2.2.2.2.1)), (xa, .inl (cI, 501, .inl ge.2.2.2.2.2.2.2.2.2.1)), (ou, .inl (cD, 1, .inr (.inr (.inr (.inl of9)))))] sz)) 1 6 (va_A [(ya, .inr (16, [.ref ms, .int 0, .ref ju, .ref li, .ref ct, .ref tg, .ref fw])), (li, .inr (8, [.ref bm, .int 0, .int 0, .int 0, .int 0, .int 0, .int 0, .int 0, .ref mm])), (bm, .inr (10, [.int 0, .int 2, .int 2, .ref la2, .int wr2, .int ge.2.2.2.2.2.2.2.2.2.2.1, .int le2, .int fi2, .int se2, .ref bo, .ref hh2])), (bo, .inl (cI, 24, .inl ge.2.2.2.2.2.2.2.2.2.2.2)), (mm, .inr (10, [.int 0, .int 2, .int 2, .ref la, .int wr, .int 0, .int le, .int fi, .int se, .ref oo, .ref hh])), (oo, .inl (cI, 24, .inl (fun _ => 0))), (ju, .inr (7, [.ref rj, .ref ro, .ref wb, .ref jt, .ref br, .ref lk])), (rj, .inr (12, [.int ge.1.1, .int ge.1.2.1, .int ge.1.2.2.1, .int ge.1.2.2.2.1, .int ge.1.2.2.2.2.1, .int ge.1.2.2.2.2.2.1, .ref tj])), (tj, .inl (cI, 1001, .inl ge.1.2.2.2.2.2.2)), (ro, .inr (11, [.int ge.2.1, .int ge.2.2.1, .ref rn, .ref rh, .int ge.2.2.2.1, .ref ca, .ref sa, .ref da, .ref xa])), (rn, .inr (12, [.int ge.2.2.2.2.1.1, .int ge.2.2.2.2.1.2.1, .int ge.2.2.2.2.1.2.2.1, .int ge.2.2.2.2.1.2.2.2.1, .int ge.2.2.2.2.1.2.2.2.2.1, .int ge.2.2.2.2.1.2.2.2.2.2.1, .ref tn])), (tn, .inl (cI, 1001, .inl ge.2.2.2.2.1.2.2.2.2.2.2)), (rh, .inr (12, [.int ge.2.2.2.2.2.1.1, .int ge.2.2.2.2.2.1.2.1, .int ge.2.2.2.2.2.1.2.2.1, .int ge.2.2.2.2.2.1.2.2.2.1, .int ge.2.2.2.2.2.1.2.2.2.2.1, .int ge.2.2.2.2.2.1.2.2.2.2.2.1, .ref th])), (th, .inl (cI, 1001, .inl ge.2.2.2.2.2.1.2.2.2.2.2.2)), (ca, .inl (cI, 501, .inl ge.2.2.2.2.2.2.1)), (sa, .inl (cI, 501, .inl ge.2.2.2.2.2.2.2.1)), (da, .inl (cI, 501, .inl ge.2.2.2.2.2.2.2.2.1)), (xa, .inl (cI, 501, .inl ge.2.2.2.2.2.2.2.2.2.1)), (ou, .inl (cD, 1, .inr (.inr (.inr (.inl of9)))))] sz) := by
  refine vx_ofWH (cc := cL_haltingShare) (maxL := 5) (ret := (some .int)) (hh := [(0, 10, 13, 13)]) (by decide) rfl ?_
  intro p e s m args below meth c s₁ B hml hv
  obtain ⟨rfl, ⟨hsz, hP, hK, hD0, hN⟩, hZ⟩ := hv
  have hx := B.exec
  have hb := B.bytes
  have hr := B.returns
  have hts := atoms_spec (ws := wsL_haltingShare) B.pre
  have hown : s.vm.findClass RL = some m.cls := findClass_of_methodNamed B.named
  have hlocks := B.notSynchronized
  subst hsz
  have hD := hD0.self (sz := s.heap.size)
  generalize hAe : va_A [(ya, .inr (16, [.ref ms, .int 0, .ref ju, .ref li, .ref ct, .ref tg, .ref fw])), (li, .inr (8, [.ref bm, .int 0, .int 0, .int 0, .int 0, .int 0, .int 0, .int 0, .ref mm])), (bm, .inr (10, [.int 0, .int 2, .int 2, .ref la2, .int wr2, .int ge.2.2.2.2.2.2.2.2.2.2.1, .int le2, .int fi2, .int se2, .ref bo, .ref hh2])), (bo, .inl (cI, 24, .inl ge.2.2.2.2.2.2.2.2.2.2.2)), (mm, .inr (10, [.int 0, .int 2, .int 2, .ref la, .int wr, .int 0, .int le, .int fi, .int se, .ref oo, .ref hh])), (oo, .inl (cI, 24, .inl (fun _ => 0))), (ju, .inr (7, [.ref rj, .ref ro, .ref wb, .ref jt, .ref br, .ref lk])), (rj, .inr (12, [.int ge.1.1, .int ge.1.2.1, .int ge.1.2.2.1, .int ge.1.2.2.2.1, .int ge.1.2.2.2.2.1, .int ge.1.2.2.2.2.2.1, .ref tj])), (tj, .inl (cI, 1001, .inl ge.1.2.2.2.2.2.2)), (ro, .inr (11, [.int ge.2.1, .int ge.2.2.1, .ref rn, .ref rh, .int ge.2.2.2.1, .ref ca, .ref sa, .ref da, .ref xa])), (rn, .inr (12, [.int ge.2.2.2.2.1.1, .int ge.2.2.2.2.1.2.1, .int ge.2.2.2.2.1.2.2.1, .int ge.2.2.2.2.1.2.2.2.1, .int ge.2.2.2.2.1.2.2.2.2.1, .int ge.2.2.2.2.1.2.2.2.2.2.1, .ref tn])), (tn, .inl (cI, 1001, .inl ge.2.2.2.2.1.2.2.2.2.2.2)), (rh, .inr (12, [.int ge.2.2.2.2.2.1.1, .int ge.2.2.2.2.2.1.2.1, .int ge.2.2.2.2.2.1.2.2.1, .int ge.2.2.2.2.2.1.2.2.2.1, .int ge.2.2.2.2.2.1.2.2.2.2.1, .int ge.2.2.2.2.2.1.2.2.2.2.2.1, .ref th])), (th, .inl (cI, 1001, .inl ge.2.2.2.2.2.1.2.2.2.2.2.2)), (ca, .inl (cI, 501, .inl ge.2.2.2.2.2.2.1)), (sa, .inl (cI, 501, .inl ge.2.2.2.2.2.2.2.1)), (da, .inl (cI, 501, .inl ge.2.2.2.2.2.2.2.2.1)), (xa, .inl (cI, 501, .inl ge.2.2.2.2.2.2.2.2.2.1)), (ou, .inl (cD, 1, .inr (.inr (.inr (.inl of9)))))] s.heap.size = A at hD hZ ⊢
  have hA : ∀ q : Nat, s.heap.size ≤ q → A q := fun q h => by rw [← hAe]; exact Or.inr h
  have hS : va_S A s.heap s.heap [] := va_S.rf
  have hP : va_P (dC, dI) vwCl [(ya, .inr (16, [.ref ms, .int 0, .ref ju, .ref li, .ref ct, .ref tg, .ref fw])), (li, .inr (8, [.ref bm, .int 0, .int 0, .int 0, .int 0, .int 0, .int 0, .int 0, .ref mm])), (bm, .inr (10, [.int 0, .int 2, .int 2, .ref la2, .int wr2, .int ge.2.2.2.2.2.2.2.2.2.2.1, .int le2, .int fi2, .int se2, .ref bo, .ref hh2])), (bo, .inl (cI, 24, .inl ge.2.2.2.2.2.2.2.2.2.2.2)), (mm, .inr (10, [.int 0, .int 2, .int 2, .ref la, .int wr, .int 0, .int le, .int fi, .int se, .ref oo, .ref hh])), (oo, .inl (cI, 24, .inl (fun _ => 0))), (ju, .inr (7, [.ref rj, .ref ro, .ref wb, .ref jt, .ref br, .ref lk])), (rj, .inr (12, [.int ge.1.1, .int ge.1.2.1, .int ge.1.2.2.1, .int ge.1.2.2.2.1, .int ge.1.2.2.2.2.1, .int ge.1.2.2.2.2.2.1, .ref tj])), (tj, .inl (cI, 1001, .inl ge.1.2.2.2.2.2.2)), (ro, .inr (11, [.int ge.2.1, .int ge.2.2.1, .ref rn, .ref rh, .int ge.2.2.2.1, .ref ca, .ref sa, .ref da, .ref xa])), (rn, .inr (12, [.int ge.2.2.2.2.1.1, .int ge.2.2.2.2.1.2.1, .int ge.2.2.2.2.1.2.2.1, .int ge.2.2.2.2.1.2.2.2.1, .int ge.2.2.2.2.1.2.2.2.2.1, .int ge.2.2.2.2.1.2.2.2.2.2.1, .ref tn])), (tn, .inl (cI, 1001, .inl ge.2.2.2.2.1.2.2.2.2.2.2)), (rh, .inr (12, [.int ge.2.2.2.2.2.1.1, .int ge.2.2.2.2.2.1.2.1, .int ge.2.2.2.2.2.1.2.2.1, .int ge.2.2.2.2.2.1.2.2.2.1, .int ge.2.2.2.2.2.1.2.2.2.2.1, .int ge.2.2.2.2.2.1.2.2.2.2.2.1, .ref th])), (th, .inl (cI, 1001, .inl ge.2.2.2.2.2.1.2.2.2.2.2.2)), (ca, .inl (cI, 501, .inl ge.2.2.2.2.2.2.1)), (sa, .inl (cI, 501, .inl ge.2.2.2.2.2.2.2.1)), (da, .inl (cI, 501, .inl ge.2.2.2.2.2.2.2.2.1)), (xa, .inl (cI, 501, .inl ge.2.2.2.2.2.2.2.2.2.1)), (ou, .inl (cD, 1, .inr (.inr (.inr (.inl of9)))))] s.heap := hP
  have hD : va_D A [(ya, .inr (16, [.ref ms, .int 0, .ref ju, .ref li, .ref ct, .ref tg, .ref fw])), (li, .inr (8, [.ref bm, .int 0, .int 0, .int 0, .int 0, .int 0, .int 0, .int 0, .ref mm])), (bm, .inr (10, [.int 0, .int 2, .int 2, .ref la2, .int wr2, .int ge.2.2.2.2.2.2.2.2.2.2.1, .int le2, .int fi2, .int se2, .ref bo, .ref hh2])), (bo, .inl (cI, 24, .inl ge.2.2.2.2.2.2.2.2.2.2.2)), (mm, .inr (10, [.int 0, .int 2, .int 2, .ref la, .int wr, .int 0, .int le, .int fi, .int se, .ref oo, .ref hh])), (oo, .inl (cI, 24, .inl (fun _ => 0))), (ju, .inr (7, [.ref rj, .ref ro, .ref wb, .ref jt, .ref br, .ref lk])), (rj, .inr (12, [.int ge.1.1, .int ge.1.2.1, .int ge.1.2.2.1, .int ge.1.2.2.2.1, .int ge.1.2.2.2.2.1, .int ge.1.2.2.2.2.2.1, .ref tj])), (tj, .inl (cI, 1001, .inl ge.1.2.2.2.2.2.2)), (ro, .inr (11, [.int ge.2.1, .int ge.2.2.1, .ref rn, .ref rh, .int ge.2.2.2.1, .ref ca, .ref sa, .ref da, .ref xa])), (rn, .inr (12, [.int ge.2.2.2.2.1.1, .int ge.2.2.2.2.1.2.1, .int ge.2.2.2.2.1.2.2.1, .int ge.2.2.2.2.1.2.2.2.1, .int ge.2.2.2.2.1.2.2.2.2.1, .int ge.2.2.2.2.1.2.2.2.2.2.1, .ref tn])), (tn, .inl (cI, 1001, .inl ge.2.2.2.2.1.2.2.2.2.2.2)), (rh, .inr (12, [.int ge.2.2.2.2.2.1.1, .int ge.2.2.2.2.2.1.2.1, .int ge.2.2.2.2.2.1.2.2.1, .int ge.2.2.2.2.2.1.2.2.2.1, .int ge.2.2.2.2.2.1.2.2.2.2.1, .int ge.2.2.2.2.2.1.2.2.2.2.2.1, .ref th])), (th, .inl (cI, 1001, .inl ge.2.2.2.2.2.1.2.2.2.2.2.2)), (ca, .inl (cI, 501, .inl ge.2.2.2.2.2.2.1)), (sa, .inl (cI, 501, .inl ge.2.2.2.2.2.2.2.1)), (da, .inl (cI, 501, .inl ge.2.2.2.2.2.2.2.2.1)), (xa, .inl (cI, 501, .inl ge.2.2.2.2.2.2.2.2.2.1)), (ou, .inl (cD, 1, .inr (.inr (.inr (.inl of9)))))] := hD
  have hl := lv_entry ([.ref ya, .int a1, .int a2, .ref ou]) (n := 5) (Nat.le_of_ble_eq_true rfl)
  rw [lg_entry_eq]
  generalize (lg_sl ([.ref ya, .int a1, .int a2, .ref ou]) ++ List.replicate (5 - (lg_sl ([.ref ya, .int a1, .int a2, .ref ou])).length) Slot.unset).toArray = ls at hl ⊢
  have hl : lv_has ls 5 [(0, .ref ya), (1, .int a1), (2, .int a2), (3, .ref ou)] := hl
  have htab : c.exceptionTable.toList = tableOf [(0, 10, 13, 13)] := vx_table B (hts (.codeWith yL_haltingShare cL_haltingShare 5 (some .int) [(0, 10, 13, 13)]) (show _ ∈ wsL_haltingShare from List.mem_cons_self))
  refine lv_aload_n hx hb dL_haltingShare_0 rfl (lv_at hl 3 rfl) ?_
  refine lv_iconst (v := 0) hx hb dL_haltingShare_1 (by decide) ?_
  refine lv_aload_n hx hb dL_haltingShare_2 rfl (lv_at hl 0 rfl) ?_
  refine lv_iload_n hx hb dL_haltingShare_3 rfl (lv_at hl 1 rfl) ?_
  refine lv_iload_n hx hb dL_haltingShare_4 rfl (lv_at hl 2 rfl) ?_
  have hPc := hP.sub (ws' := [(ya, .inr (16, [.ref ms, .int 0, .ref ju, .ref li, .ref ct, .ref tg, .ref fw])), (li, .inr (8, [.ref bm, .int 0, .int 0, .int 0, .int 0, .int 0, .int 0, .int 0, .ref mm])), (bm, .inr (10, [.int 0, .int 2, .int 2, .ref la2, .int wr2, .int ge.2.2.2.2.2.2.2.2.2.2.1, .int le2, .int fi2, .int se2, .ref bo, .ref hh2])), (bo, .inl (cI, 24, .inl ge.2.2.2.2.2.2.2.2.2.2.2)), (mm, .inr (10, [.int 0, .int 2, .int 2, .ref la, .int wr, .int 0, .int le, .int fi, .int se, .ref oo, .ref hh])), (oo, .inl (cI, 24, .inl (fun _ => 0))), (ju, .inr (7, [.ref rj, .ref ro, .ref wb, .ref jt, .ref br, .ref lk])), (rj, .inr (12, [.int ge.1.1, .int ge.1.2.1, .int ge.1.2.2.1, .int ge.1.2.2.2.1, .int ge.1.2.2.2.2.1, .int ge.1.2.2.2.2.2.1, .ref tj])), (tj, .inl (cI, 1001, .inl ge.1.2.2.2.2.2.2)), (ro, .inr (11, [.int ge.2.1, .int ge.2.2.1, .ref rn, .ref rh, .int ge.2.2.2.1, .ref ca, .ref sa, .ref da, .ref xa])), (rn, .inr (12, [.int ge.2.2.2.2.1.1, .int ge.2.2.2.2.1.2.1, .int ge.2.2.2.2.1.2.2.1, .int ge.2.2.2.2.1.2.2.2.1, .int ge.2.2.2.2.1.2.2.2.2.1, .int ge.2.2.2.2.1.2.2.2.2.2.1, .ref tn])), (tn, .inl (cI, 1001, .inl ge.2.2.2.2.1.2.2.2.2.2.2)), (rh, .inr (12, [.int ge.2.2.2.2.2.1.1, .int ge.2.2.2.2.2.1.2.1, .int ge.2.2.2.2.2.1.2.2.1, .int ge.2.2.2.2.2.1.2.2.2.1, .int ge.2.2.2.2.2.1.2.2.2.2.1, .int ge.2.2.2.2.2.1.2.2.2.2.2.1, .ref th])), (th, .inl (cI, 1001, .inl ge.2.2.2.2.2.1.2.2.2.2.2.2)), (ca, .inl (cI, 501, .inl ge.2.2.2.2.2.2.1)), (sa, .inl (cI, 501, .inl ge.2.2.2.2.2.2.2.1)), (da, .inl (cI, 501, .inl ge.2.2.2.2.2.2.2.2.1)), (xa, .inl (cI, 501, .inl ge.2.2.2.2.2.2.2.2.2.1))]) [0, 1, 2, 3, 4, 5, 6, 7, 8, 9, 10, 11, 12, 13, 14, 15, 16, 17] rfl
  have hDc := hD.sub (ws' := [(ya, .inr (16, [.ref ms, .int 0, .ref ju, .ref li, .ref ct, .ref tg, .ref fw])), (li, .inr (8, [.ref bm, .int 0, .int 0, .int 0, .int 0, .int 0, .int 0, .int 0, .ref mm])), (bm, .inr (10, [.int 0, .int 2, .int 2, .ref la2, .int wr2, .int ge.2.2.2.2.2.2.2.2.2.2.1, .int le2, .int fi2, .int se2, .ref bo, .ref hh2])), (bo, .inl (cI, 24, .inl ge.2.2.2.2.2.2.2.2.2.2.2)), (mm, .inr (10, [.int 0, .int 2, .int 2, .ref la, .int wr, .int 0, .int le, .int fi, .int se, .ref oo, .ref hh])), (oo, .inl (cI, 24, .inl (fun _ => 0))), (ju, .inr (7, [.ref rj, .ref ro, .ref wb, .ref jt, .ref br, .ref lk])), (rj, .inr (12, [.int ge.1.1, .int ge.1.2.1, .int ge.1.2.2.1, .int ge.1.2.2.2.1, .int ge.1.2.2.2.2.1, .int ge.1.2.2.2.2.2.1, .ref tj])), (tj, .inl (cI, 1001, .inl ge.1.2.2.2.2.2.2)), (ro, .inr (11, [.int ge.2.1, .int ge.2.2.1, .ref rn, .ref rh, .int ge.2.2.2.1, .ref ca, .ref sa, .ref da, .ref xa])), (rn, .inr (12, [.int ge.2.2.2.2.1.1, .int ge.2.2.2.2.1.2.1, .int ge.2.2.2.2.1.2.2.1, .int ge.2.2.2.2.1.2.2.2.1, .int ge.2.2.2.2.1.2.2.2.2.1, .int ge.2.2.2.2.1.2.2.2.2.2.1, .ref tn])), (tn, .inl (cI, 1001, .inl ge.2.2.2.2.1.2.2.2.2.2.2)), (rh, .inr (12, [.int ge.2.2.2.2.2.1.1, .int ge.2.2.2.2.2.1.2.1, .int ge.2.2.2.2.2.1.2.2.1, .int ge.2.2.2.2.2.1.2.2.2.1, .int ge.2.2.2.2.2.1.2.2.2.2.1, .int ge.2.2.2.2.2.1.2.2.2.2.2.1, .ref th])), (th, .inl (cI, 1001, .inl ge.2.2.2.2.2.1.2.2.2.2.2.2)), (ca, .inl (cI, 501, .inl ge.2.2.2.2.2.2.1)), (sa, .inl (cI, 501, .inl ge.2.2.2.2.2.2.2.1)), (da, .inl (cI, 501, .inl ge.2.2.2.2.2.2.2.2.1)), (xa, .inl (cI, 501, .inl ge.2.2.2.2.2.2.2.2.2.1))]) [0, 1, 2, 3, 4, 5, 6, 7, 8, 9, 10, 11, 12, 13, 14, 15, 16, 17] (by decide) rfl
  have hKc := hK.sub (tys' := [(cI, .int)]) [0] rfl
  have hFc := va_free (wc := [(ya, .inr (16, [.ref ms, .int 0, .ref ju, .ref li, .ref ct, .ref tg, .ref fw])), (li, .inr (8, [.ref bm, .int 0, .int 0, .int 0, .int 0, .int 0, .int 0, .int 0, .ref mm])), (bm, .inr (10, [.int 0, .int 2, .int 2, .ref la2, .int wr2, .int ge.2.2.2.2.2.2.2.2.2.2.1, .int le2, .int fi2, .int se2, .ref bo, .ref hh2])), (bo, .inl (cI, 24, .inl ge.2.2.2.2.2.2.2.2.2.2.2)), (mm, .inr (10, [.int 0, .int 2, .int 2, .ref la, .int wr, .int 0, .int le, .int fi, .int se, .ref oo, .ref hh])), (oo, .inl (cI, 24, .inl (fun _ => 0))), (ju, .inr (7, [.ref rj, .ref ro, .ref wb, .ref jt, .ref br, .ref lk])), (rj, .inr (12, [.int ge.1.1, .int ge.1.2.1, .int ge.1.2.2.1, .int ge.1.2.2.2.1, .int ge.1.2.2.2.2.1, .int ge.1.2.2.2.2.2.1, .ref tj])), (tj, .inl (cI, 1001, .inl ge.1.2.2.2.2.2.2)), (ro, .inr (11, [.int ge.2.1, .int ge.2.2.1, .ref rn, .ref rh, .int ge.2.2.2.1, .ref ca, .ref sa, .ref da, .ref xa])), (rn, .inr (12, [.int ge.2.2.2.2.1.1, .int ge.2.2.2.2.1.2.1, .int ge.2.2.2.2.1.2.2.1, .int ge.2.2.2.2.1.2.2.2.1, .int ge.2.2.2.2.1.2.2.2.2.1, .int ge.2.2.2.2.1.2.2.2.2.2.1, .ref tn])), (tn, .inl (cI, 1001, .inl ge.2.2.2.2.1.2.2.2.2.2.2)), (rh, .inr (12, [.int ge.2.2.2.2.2.1.1, .int ge.2.2.2.2.2.1.2.1, .int ge.2.2.2.2.2.1.2.2.1, .int ge.2.2.2.2.2.1.2.2.2.1, .int ge.2.2.2.2.2.1.2.2.2.2.1, .int ge.2.2.2.2.2.1.2.2.2.2.2.1, .ref th])), (th, .inl (cI, 1001, .inl ge.2.2.2.2.2.1.2.2.2.2.2.2)), (ca, .inl (cI, 501, .inl ge.2.2.2.2.2.2.1)), (sa, .inl (cI, 501, .inl ge.2.2.2.2.2.2.2.1)), (da, .inl (cI, 501, .inl ge.2.2.2.2.2.2.2.2.1)), (xa, .inl (cI, 501, .inl ge.2.2.2.2.2.2.2.2.2.1))]) hD hS hA [0, 1, 2, 3, 4, 5, 6, 7, 8, 9, 10, 11, 12, 13, 14, 15, 16, 17] rfl
  refine vx_callf (vx_runV (As := [.int a1, .int a2]) (rest := [.int 0, .ref ou]) ⟨hx, hb, hml, hown, hts⟩ (c_X11_haltingShare l hfl dC dI cI ya ms ct tg fw li ju bm bo la2 hh2 mm oo la hh rj tj ro rn rh ca sa da xa tn th wb jt br lk wr2 le2 fi2 se2 wr le fi se ge a1 a2 s.heap.size) (cwV 2 hts gL_haltingShare_X11_haltingShare rfl rfl rfl (by decide +kernel) ⟨Nat.le_of_ble_eq_true rfl, Nat.le_of_ble_eq_true rfl⟩) (pcVz (zX_ok) hPc hDc hKc hN hZ hS hFc (ci := 16) (q0 := 0) rfl rfl) rfl rfl hl.1 rfl (lv_room (Nat.le_of_ble_eq_true rfl)) dL_haltingShare_5 ⟨Nat.le_of_ble_eq_true rfl, Nat.le_of_ble_eq_true rfl⟩) hS (fun q _ h => hFc q h) hFc (fun q _ h => hFc q h) (fun E9 ce9 q9 u9 t9 H9 locs9 ht9 hvm9 hp9 hE9 hz9 hk9 hS9 hc9 hv9 hcl9 => ?_) (fun r_1 u t H1 locs ht hvm hw_2 hB hz1 hk1 hS => ?_)
  · obtain ⟨rfl, hno⟩ := hE9
    refine vx_catch (name := "java/lang/IllegalArgumentException") hown [] ⟨0, 10, 13, 13⟩ [] htab (fun z hz => by cases hz) (by decide) (by decide) (hts (.classLink RL 13 "java/lang/IllegalArgumentException") (by decide +kernel)) (zX_use hZ (.castable "java/lang/IllegalArgumentException" "java/lang/IllegalArgumentException") (by decide)) hc9 hv9 hcl9 ?_
    refine W.eq (g2 := F0 m 13 ls [.ref q9]) rfl ?_
    obtain ⟨hP, hD⟩ := va_join (wr := [(ou, .inl (cD, 1, .inr (.inr (.inr (.inl of9)))))]) (w1 := []) hP hD [0, 1, 2, 3, 4, 5, 6, 7, 8, 9, 10, 11, 12, 13, 14, 15, 16, 17] [18] rfl rfl (by decide) (by decide) hk9 hFc P_nil D_nil
    have hS := hS9
    generalize H9 = H at hP hS ⊢
    have hP : va_P (dC, dI) vwCl [(ou, .inl (cD, 1, .inr (.inr (.inr (.inl of9)))))] H := hP
    have hD : va_D A [(ou, .inl (cD, 1, .inr (.inr (.inr (.inl of9)))))] := hD
    refine W.widen (k := 1) (n := 6) (Nat.le_of_ble_eq_true rfl) (Nat.le_of_ble_eq_true rfl) ?_
    refine lv_astore (lv' := [(4, .ref q9), (0, .ref ya), (1, .int a1), (2, .int a2), (3, .ref ou)]) hx hb dL_haltingShare_13 hl (by decide) rfl (fun ls hl => ?_)
    refine lv_iconst (v := 1) hx hb dL_haltingShare_15 (by decide) ?_
    refine vx_ret ?_
    have hP9 := hP.sub (ws' := [(ou, .inl (cD, 1, .inr (.inr (.inr (.inl of9)))))]) [0] rfl
    have hD9 := hD.sub (ws' := [(ou, .inl (cD, 1, .inr (.inr (.inr (.inl of9)))))]) [0] (by decide) rfl
    have hK9 := hK.sub (tys' := [(cD, .double)]) [1] rfl
    exact W.iret (v := 1) hx hb hr (fun t ht hW => ⟨⟨1, of9, rfl, Or.inr ⟨rfl, hno⟩, ⟨by rw [ht]; exact hP9, va_K.moved hW.alike hK9, hD9⟩⟩, hS.F ht⟩) hS.2.2 dL_haltingShare_16
  · skip
    obtain ⟨hP1, hK1, hD1⟩ := hB
    rw [ht] at hP1
    try dsimp only at hw_2
    obtain ⟨hP, hD⟩ := va_join (wr := [(ou, .inl (cD, 1, .inr (.inr (.inr (.inl of9)))))]) (w1 := []) hP hD [0, 1, 2, 3, 4, 5, 6, 7, 8, 9, 10, 11, 12, 13, 14, 15, 16, 17] [18] rfl rfl (by decide) (by decide) hk1 hFc hP1 hD1
    generalize H1 = H at hP hS ⊢
    have hP : va_P (dC, dI) vwCl [(ou, .inl (cD, 1, .inr (.inr (.inr (.inl of9)))))] H := hP
    have hD : va_D A [(ou, .inl (cD, 1, .inr (.inr (.inr (.inl of9)))))] := hD
    refine W.widen (k := 1) (n := 6) (Nat.le_of_ble_eq_true rfl) (Nat.le_of_ble_eq_true rfl) ?_
    refine lv_f2d hx hb dL_haltingShare_8 (by rw [hw_2.1]; obtain ⟨hs9, k9, hk1, hk2, ek9⟩ := lst_nums hw_2.2; subst ek9; rcases hs9 with es9 | es9 <;> (subst es9; rw [lsC_nI (by decide) hk2]; exact sh_num64 (all_ne (by decide) (by decide)))) ?_
    refine va_dast hx hb hK hP hD hS 0 1 rfl rfl (show vp_in (nI 0) 1 from vp_in_nI (by decide) (by decide)) dL_haltingShare_9 (fun H locs hP hD hS => ?_)
    obtain ⟨f_3, ef_3⟩ : ∃ z, z = (vf_upd of9 ((0 : Int32)).toNatClampNeg (FP.f2d r_1)) := ⟨_, rfl⟩
    have hP : va_P (dC, dI) vwCl [(ou, .inl (cD, 1, .inr (.inr (.inr (.inl f_3)))))] H := by rw [ef_3]; exact hP
    have hD : va_D A [(ou, .inl (cD, 1, .inr (.inr (.inr (.inl f_3)))))] := by rw [ef_3]; exact hD
    refine lv_goto (tgt := 17) hx hb dL_haltingShare_10 (by decide) ?_
    refine lv_iconst (v := 0) hx hb dL_haltingShare_17 (by decide) ?_
    refine vx_ret ?_
    have hP9 := hP.sub (ws' := [(ou, .inl (cD, 1, .inr (.inr (.inr (.inl f_3)))))]) [0] rfl
    have hD9 := hD.sub (ws' := [(ou, .inl (cD, 1, .inr (.inr (.inr (.inl f_3)))))]) [0] (by decide) rfl
    have hK9 := hK.sub (tys' := [(cD, .double)]) [1] rfl
    exact W.iret (v := 0) hx hb hr (fun t ht hW => ⟨⟨0, f_3, rfl, Or.inl ⟨rfl, hw_2.2, by rw [ef_3, hw_2.1]; exact up0d⟩, ⟨by rw [ht]; exact hP9, va_K.moved hW.alike hK9, hD9⟩⟩, hS.F ht⟩) hS.2.2 dL_haltingShare_18
