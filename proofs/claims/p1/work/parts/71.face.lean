theorem dX11_order_0 : decode cX11_order 0 = .ok (.aload_n 0, 1) := by decide +kernel
theorem dX11_order_1 : decode cX11_order 1 = .ok (.iload_n 1, 1) := by decide +kernel
set_option maxRecDepth 20000 in
theorem ggX11_order_X11_known : GoodIn wsX11_order wsX11_known := goodIn_ca (goodIn_r _ [6, 7, 8, 9, 10, 56, 57, 58, 59, 60, 61, 62] rfl (by decide +kernel)) (goodIn_sub (fun _ h => List.mem_cons_of_mem _ (List.mem_append_left _ (List.mem_append_left _ (List.mem_append_right _ h)))) (by decide +kernel))
set_option maxRecDepth 20000 in
theorem gX11_order_X11_known : GoodIn wsX11_order (wsV RX11 72 RX11 yX11_known wsX11_known) := goodIn_app (goodIn_of _ (by decide +kernel)) ggX11_order_X11_known
theorem dX11_order_2 : decode cX11_order 2 = .ok (.invokevirtual 72, 3) := by decide +kernel
theorem dX11_untell_0 : decode cX11_untell 0 = .ok (.aload_n 0, 1) := by decide +kernel
theorem dX11_untell_1 : decode cX11_untell 1 = .ok (.iload_n 1, 1) := by decide +kernel
set_option maxRecDepth 20000 in
theorem ggX11_untell_X11_known : GoodIn wsX11_untell wsX11_known := goodIn_ca (goodIn_r _ [6, 7, 8, 9, 10, 59, 60, 61, 62, 63, 64, 65] rfl (by decide +kernel)) (goodIn_sub (fun _ h => List.mem_cons_of_mem _ (List.mem_append_left _ (List.mem_append_left _ (List.mem_append_left _ (List.mem_append_right _ h))))) (by decide +kernel))
set_option maxRecDepth 20000 in
theorem gX11_untell_X11_known : GoodIn wsX11_untell (wsV RX11 72 RX11 yX11_known wsX11_known) := goodIn_app (goodIn_of _ (by decide +kernel)) ggX11_untell_X11_known
theorem dX11_untell_2 : decode cX11_untell 2 = .ok (.invokevirtual 72, 3) := by decide +kernel
theorem dX11_copy_0 : decode cX11_copy 0 = .ok (.aload_n 0, 1) := by decide +kernel
theorem dX11_copy_1 : decode cX11_copy 1 = .ok (.iload_n 1, 1) := by decide +kernel
set_option maxRecDepth 20000 in
theorem ggX11_copy_X11_known : GoodIn wsX11_copy wsX11_known := goodIn_ca (goodIn_r _ [11, 12, 13, 14, 15, 86, 87, 88, 89, 90, 91, 92] rfl (by decide +kernel)) (goodIn_sub (fun _ h => List.mem_cons_of_mem _ (List.mem_append_left _ (List.mem_append_left _ (List.mem_append_right _ h)))) (by decide +kernel))
set_option maxRecDepth 20000 in
theorem gX11_copy_X11_known : GoodIn wsX11_copy (wsV RX11 72 RX11 yX11_known wsX11_known) := goodIn_app (goodIn_of _ (by decide +kernel)) ggX11_copy_X11_known
theorem dX11_copy_2 : decode cX11_copy 2 = .ok (.invokevirtual 72, 3) := by decide +kernel
theorem dX11_run_0 : decode cX11_run 0 = .ok (.aload_n 0, 1) := by decide +kernel
theorem dX11_run_1 : decode cX11_run 1 = .ok (.iload_n 1, 1) := by decide +kernel
set_option maxRecDepth 20000 in
theorem ggX11_run_X11_known : GoodIn wsX11_run wsX11_known := goodIn_ca (goodIn_r _ [8, 9, 10, 11, 12, 96, 97, 98, 99, 100, 101, 102] rfl (by decide +kernel)) (goodIn_sub (fun _ h => List.mem_cons_of_mem _ (List.mem_append_left _ (List.mem_append_left _ (List.mem_append_right _ h)))) (by decide +kernel))
set_option maxRecDepth 20000 in
theorem gX11_run_X11_known : GoodIn wsX11_run (wsV RX11 72 RX11 yX11_known wsX11_known) := goodIn_app (goodIn_of _ (by decide +kernel)) ggX11_run_X11_known
theorem dX11_run_2 : decode cX11_run 2 = .ok (.invokevirtual 72, 3) := by decide +kernel
theorem dX11_hasHalted_0 : decode cX11_hasHalted 0 = .ok (.aload_n 0, 1) := by decide +kernel
theorem dX11_hasHalted_1 : decode cX11_hasHalted 1 = .ok (.iload_n 1, 1) := by decide +kernel
set_option maxRecDepth 20000 in
theorem ggX11_hasHalted_X11_known : GoodIn wsX11_hasHalted wsX11_known := goodIn_ca (goodIn_r _ [7, 8, 9, 10, 11, 49, 50, 51, 52, 53, 54, 55] rfl (by decide +kernel)) (goodIn_sub (fun _ h => List.mem_cons_of_mem _ (List.mem_append_left _ (List.mem_append_left _ (List.mem_append_right _ h)))) (by decide +kernel))
set_option maxRecDepth 20000 in
theorem gX11_hasHalted_X11_known : GoodIn wsX11_hasHalted (wsV RX11 72 RX11 yX11_known wsX11_known) := goodIn_app (goodIn_of _ (by decide +kernel)) ggX11_hasHalted_X11_known
theorem dX11_hasHalted_2 : decode cX11_hasHalted 2 = .ok (.invokevirtual 72, 3) := by decide +kernel
theorem dX11_ran_0 : decode cX11_ran 0 = .ok (.aload_n 0, 1) := by decide +kernel
theorem dX11_ran_1 : decode cX11_ran 1 = .ok (.iload_n 1, 1) := by decide +kernel
set_option maxRecDepth 20000 in
theorem ggX11_ran_X11_known : GoodIn wsX11_ran wsX11_known := goodIn_ca (goodIn_r _ [7, 8, 9, 10, 11, 51, 52, 53, 54, 55, 56, 57] rfl (by decide +kernel)) (goodIn_sub (fun _ h => List.mem_cons_of_mem _ (List.mem_append_left _ (List.mem_append_left _ (List.mem_append_left _ (List.mem_append_right _ h))))) (by decide +kernel))
set_option maxRecDepth 20000 in
theorem gX11_ran_X11_known : GoodIn wsX11_ran (wsV RX11 72 RX11 yX11_known wsX11_known) := goodIn_app (goodIn_of _ (by decide +kernel)) ggX11_ran_X11_known
theorem dX11_ran_2 : decode cX11_ran 2 = .ok (.invokevirtual 72, 3) := by decide +kernel
theorem dX11_signAt_0 : decode cX11_signAt 0 = .ok (.aload_n 0, 1) := by decide +kernel
theorem dX11_signAt_1 : decode cX11_signAt 1 = .ok (.iload_n 1, 1) := by decide +kernel
set_option maxRecDepth 20000 in
theorem ggX11_signAt_X11_known : GoodIn wsX11_signAt wsX11_known := goodIn_ca (goodIn_r _ [7, 8, 9, 10, 11, 34, 35, 36, 37, 38, 39, 40] rfl (by decide +kernel)) (goodIn_sub (fun _ h => List.mem_cons_of_mem _ (List.mem_append_left _ (List.mem_append_left _ (List.mem_append_right _ h)))) (by decide +kernel))
set_option maxRecDepth 20000 in
theorem gX11_signAt_X11_known : GoodIn wsX11_signAt (wsV RX11 72 RX11 yX11_known wsX11_known) := goodIn_app (goodIn_of _ (by decide +kernel)) ggX11_signAt_X11_known
theorem dX11_signAt_2 : decode cX11_signAt 2 = .ok (.invokevirtual 72, 3) := by decide +kernel
theorem dX11_print_0 : decode cX11_print 0 = .ok (.aload_n 0, 1) := by decide +kernel
theorem dX11_print_1 : decode cX11_print 1 = .ok (.iload_n 1, 1) := by decide +kernel
set_option maxRecDepth 20000 in
theorem ggX11_print_X11_known : GoodIn wsX11_print wsX11_known := goodIn_ca (goodIn_r _ [7, 8, 9, 10, 11, 44, 45, 46, 47, 48, 49, 50] rfl (by decide +kernel)) (goodIn_sub (fun _ h => List.mem_cons_of_mem _ (List.mem_append_left _ (List.mem_append_left _ (List.mem_append_right _ h)))) (by decide +kernel))
set_option maxRecDepth 20000 in
theorem gX11_print_X11_known : GoodIn wsX11_print (wsV RX11 72 RX11 yX11_known wsX11_known) := goodIn_app (goodIn_of _ (by decide +kernel)) ggX11_print_X11_known
theorem dX11_print_2 : decode cX11_print 2 = .ok (.invokevirtual 72, 3) := by decide +kernel
theorem dX11_printByRuns_0 : decode cX11_printByRuns 0 = .ok (.aload_n 0, 1) := by decide +kernel
theorem dX11_printByRuns_1 : decode cX11_printByRuns 1 = .ok (.iload_n 1, 1) := by decide +kernel
set_option maxRecDepth 20000 in
theorem ggX11_printByRuns_X11_known : GoodIn wsX11_printByRuns wsX11_known := goodIn_ca (goodIn_r _ [6, 7, 8, 9, 10, 86, 87, 88, 89, 90, 91, 92] rfl (by decide +kernel)) (goodIn_sub (fun _ h => List.mem_cons_of_mem _ (List.mem_append_left _ (List.mem_append_left _ (List.mem_append_right _ h)))) (by decide +kernel))
set_option maxRecDepth 20000 in
theorem gX11_printByRuns_X11_known : GoodIn wsX11_printByRuns (wsV RX11 72 RX11 yX11_known wsX11_known) := goodIn_app (goodIn_of _ (by decide +kernel)) ggX11_printByRuns_X11_known
theorem dX11_printByRuns_2 : decode cX11_printByRuns 2 = .ok (.invokevirtual 72, 3) := by decide +kernel
theorem dX11_runsOf_0 : decode cX11_runsOf 0 = .ok (.aload_n 0, 1) := by decide +kernel
theorem dX11_runsOf_1 : decode cX11_runsOf 1 = .ok (.iload_n 1, 1) := by decide +kernel
set_option maxRecDepth 20000 in
theorem ggX11_runsOf_X11_known : GoodIn wsX11_runsOf wsX11_known := goodIn_ca (goodIn_r _ [7, 8, 9, 10, 11, 40, 41, 42, 43, 44, 45, 46] rfl (by decide +kernel)) (goodIn_sub (fun _ h => List.mem_cons_of_mem _ (List.mem_append_left _ (List.mem_append_left _ (List.mem_append_right _ h)))) (by decide +kernel))
set_option maxRecDepth 20000 in
theorem gX11_runsOf_X11_known : GoodIn wsX11_runsOf (wsV RX11 72 RX11 yX11_known wsX11_known) := goodIn_app (goodIn_of _ (by decide +kernel)) ggX11_runsOf_X11_known
theorem dX11_runsOf_2 : decode cX11_runsOf 2 = .ok (.invokevirtual 72, 3) := by decide +kernel
theorem dX11_decide_0 : decode cX11_decide 0 = .ok (.aload_n 0, 1) := by decide +kernel
theorem dX11_decide_1 : decode cX11_decide 1 = .ok (.iload_n 1, 1) := by decide +kernel
set_option maxRecDepth 20000 in
theorem ggX11_decide_X11_known : GoodIn wsX11_decide wsX11_known := goodIn_ca (goodIn_r _ [9, 10, 11, 12, 13, 272, 273, 274, 275, 276, 277, 278] rfl (by decide +kernel)) (goodIn_sub (fun _ h => List.mem_cons_of_mem _ (List.mem_append_left _ (List.mem_append_left _ (List.mem_append_right _ h)))) (by decide +kernel))
set_option maxRecDepth 20000 in
theorem gX11_decide_X11_known : GoodIn wsX11_decide (wsV RX11 72 RX11 yX11_known wsX11_known) := goodIn_app (goodIn_of _ (by decide +kernel)) ggX11_decide_X11_known
theorem dX11_decide_2 : decode cX11_decide 2 = .ok (.invokevirtual 72, 3) := by decide +kernel
theorem dX11_verdict_0 : decode cX11_verdict 0 = .ok (.aload_n 0, 1) := by decide +kernel
theorem dX11_verdict_1 : decode cX11_verdict 1 = .ok (.iload_n 1, 1) := by decide +kernel
set_option maxRecDepth 20000 in
theorem ggX11_verdict_X11_known : GoodIn wsX11_verdict wsX11_known := goodIn_ca (goodIn_r _ [5, 6, 7, 8, 9, 16, 17, 18, 19, 20, 21, 22] rfl (by decide +kernel)) (goodIn_sub (fun _ h => List.mem_cons_of_mem _ (List.mem_append_right _ h)) (by decide +kernel))
set_option maxRecDepth 20000 in
theorem gX11_verdict_X11_known : GoodIn wsX11_verdict (wsV RX11 72 RX11 yX11_known wsX11_known) := goodIn_app (goodIn_of _ (by decide +kernel)) ggX11_verdict_X11_known
theorem dX11_verdict_2 : decode cX11_verdict 2 = .ok (.invokevirtual 72, 3) := by decide +kernel
theorem dX11_certificate_0 : decode cX11_certificate 0 = .ok (.aload_n 0, 1) := by decide +kernel
theorem dX11_certificate_1 : decode cX11_certificate 1 = .ok (.iload_n 1, 1) := by decide +kernel
set_option maxRecDepth 20000 in
theorem ggX11_certificate_X11_known : GoodIn wsX11_certificate wsX11_known := goodIn_ca (goodIn_r _ [8, 9, 10, 11, 12, 34, 35, 36, 37, 38, 39, 40] rfl (by decide +kernel)) (goodIn_sub (fun _ h => List.mem_cons_of_mem _ (List.mem_append_left _ (List.mem_append_left _ (List.mem_append_right _ h)))) (by decide +kernel))
set_option maxRecDepth 20000 in
theorem gX11_certificate_X11_known : GoodIn wsX11_certificate (wsV RX11 72 RX11 yX11_known wsX11_known) := goodIn_app (goodIn_of _ (by decide +kernel)) ggX11_certificate_X11_known
theorem dX11_certificate_2 : decode cX11_certificate 2 = .ok (.invokevirtual 72, 3) := by decide +kernel
theorem dX11_forge_0 : decode cX11_forge 0 = .ok (.aload_n 0, 1) := by decide +kernel
theorem dX11_forge_1 : decode cX11_forge 1 = .ok (.iload_n 1, 1) := by decide +kernel
set_option maxRecDepth 20000 in
theorem ggX11_forge_X11_known : GoodIn wsX11_forge wsX11_known := goodIn_ca (goodIn_r _ [8, 9, 10, 11, 12, 37, 38, 39, 40, 41, 42, 43] rfl (by decide +kernel)) (goodIn_sub (fun _ h => List.mem_cons_of_mem _ (List.mem_append_left _ (List.mem_append_left _ (List.mem_append_right _ h)))) (by decide +kernel))
set_option maxRecDepth 20000 in
theorem gX11_forge_X11_known : GoodIn wsX11_forge (wsV RX11 72 RX11 yX11_known wsX11_known) := goodIn_app (goodIn_of _ (by decide +kernel)) ggX11_forge_X11_known
theorem dX11_forge_2 : decode cX11_forge 2 = .ok (.invokevirtual 72, 3) := by decide +kernel
theorem dX11_passes_0 : decode cX11_passes 0 = .ok (.aload_n 0, 1) := by decide +kernel
theorem dX11_passes_1 : decode cX11_passes 1 = .ok (.getfield 22, 3) := by decide +kernel
theorem dX11_passes_4 : decode cX11_passes 4 = .ok (.aload_n 0, 1) := by decide +kernel
theorem dX11_passes_5 : decode cX11_passes 5 = .ok (.iload_n 1, 1) := by decide +kernel
set_option maxRecDepth 20000 in
theorem ggX11_passes_X11_known : GoodIn wsX11_passes wsX11_known := goodIn_ca (goodIn_r _ [6, 7, 8, 9, 10, 222, 223, 224, 225, 226, 227, 228] rfl (by decide +kernel)) (goodIn_sub (fun _ h => List.mem_cons_of_mem _ (List.mem_append_left _ (List.mem_append_right _ h))) (by decide +kernel))
set_option maxRecDepth 20000 in
theorem gX11_passes_X11_known : GoodIn wsX11_passes (wsV RX11 72 RX11 yX11_known wsX11_known) := goodIn_app (goodIn_of _ (by decide +kernel)) ggX11_passes_X11_known
theorem dX11_passes_6 : decode cX11_passes 6 = .ok (.invokevirtual 72, 3) := by decide +kernel
theorem dX11_ways_0 : decode cX11_ways 0 = .ok (.aload_n 0, 1) := by decide +kernel
theorem dX11_ways_1 : decode cX11_ways 1 = .ok (.iload_n 1, 1) := by decide +kernel
set_option maxRecDepth 20000 in
theorem ggX11_ways_X11_known : GoodIn wsX11_ways wsX11_known := goodIn_ca (goodIn_r _ [7, 8, 9, 10, 11, 76, 77, 78, 79, 80, 81, 82] rfl (by decide +kernel)) (goodIn_sub (fun _ h => List.mem_cons_of_mem _ (List.mem_append_left _ (List.mem_append_left _ (List.mem_append_right _ h)))) (by decide +kernel))
set_option maxRecDepth 20000 in
theorem gX11_ways_X11_known : GoodIn wsX11_ways (wsV RX11 72 RX11 yX11_known wsX11_known) := goodIn_app (goodIn_of _ (by decide +kernel)) ggX11_ways_X11_known
theorem dX11_ways_2 : decode cX11_ways 2 = .ok (.invokevirtual 72, 3) := by decide +kernel
theorem dX11_tell_0 : decode cX11_tell 0 = .ok (.aload_n 0, 1) := by decide +kernel
theorem dX11_tell_1 : decode cX11_tell 1 = .ok (.iload_n 2, 1) := by decide +kernel
set_option maxRecDepth 20000 in
theorem ggX11_tell_X11_known : GoodIn wsX11_tell wsX11_known := goodIn_ca (goodIn_r _ [5, 6, 7, 8, 9, 26, 27, 28, 29, 30, 31, 32] rfl (by decide +kernel)) (goodIn_sub (fun _ h => List.mem_cons_of_mem _ (List.mem_append_left _ (List.mem_append_left _ (List.mem_append_right _ h)))) (by decide +kernel))
set_option maxRecDepth 20000 in
theorem gX11_tell_X11_known : GoodIn wsX11_tell (wsV RX11 72 RX11 yX11_known wsX11_known) := goodIn_app (goodIn_of _ (by decide +kernel)) ggX11_tell_X11_known
theorem dX11_tell_2 : decode cX11_tell 2 = .ok (.invokevirtual 72, 3) := by decide +kernel
theorem dX11_isDisputed_0 : decode cX11_isDisputed 0 = .ok (.aload_n 0, 1) := by decide +kernel
theorem dX11_isDisputed_1 : decode cX11_isDisputed 1 = .ok (.iload_n 1, 1) := by decide +kernel
set_option maxRecDepth 20000 in
theorem ggX11_isDisputed_X11_known : GoodIn wsX11_isDisputed wsX11_known := goodIn_ca (goodIn_r _ [5, 6, 7, 8, 9, 21, 22, 23, 24, 25, 26, 27] rfl (by decide +kernel)) (goodIn_sub (fun _ h => List.mem_cons_of_mem _ (List.mem_append_left _ (List.mem_append_right _ h))) (by decide +kernel))
set_option maxRecDepth 20000 in
theorem gX11_isDisputed_X11_known : GoodIn wsX11_isDisputed (wsV RX11 72 RX11 yX11_known wsX11_known) := goodIn_app (goodIn_of _ (by decide +kernel)) ggX11_isDisputed_X11_known
theorem dX11_isDisputed_2 : decode cX11_isDisputed 2 = .ok (.invokevirtual 72, 3) := by decide +kernel
theorem dX11_record_0 : decode cX11_record 0 = .ok (.iload_n 1, 1) := by decide +kernel
theorem dX11_record_1 : decode cX11_record 1 = .ok (.bipush 115, 2) := by decide +kernel
theorem dX11_record_3 : decode cX11_record 3 = .ok (.if_icmp .eq 9, 3) := by decide +kernel
theorem dX11_record_12 : decode cX11_record 12 = .ok (.iconst 1, 1) := by decide +kernel
theorem dX11_record_13 : decode cX11_record 13 = .ok (.goto 4, 3) := by decide +kernel
set_option maxRecDepth 20000 in
theorem ggX11_record_X11_demand : GoodIn wsX11_record wsX11_demand := goodIn_ca (goodIn_r _ [7, 8, 9] rfl (by decide +kernel)) (goodIn_sub (fun _ h => List.mem_cons_of_mem _ (List.mem_append_left _ (List.mem_append_left _ (List.mem_append_left _ (List.mem_append_right _ h))))) (by decide +kernel))
set_option maxRecDepth 20000 in
theorem gX11_record_X11_demand : GoodIn wsX11_record (va_wsS RX11 54 yX11_demand wsX11_demand) := goodIn_app (goodIn_of _ (by decide +kernel)) ggX11_record_X11_demand
theorem dX11_record_17 : decode cX11_record 17 = .ok (.invokestatic 54, 3) := by decide +kernel
theorem dX11_record_20 : decode cX11_record 20 = .ok (.iconst (-1), 1) := by decide +kernel
theorem dX11_record_21 : decode cX11_record 21 = .ok (.istore_n 2, 1) := by decide +kernel
theorem dX11_record_22 : decode cX11_record 22 = .ok (.iconst (-1), 1) := by decide +kernel
theorem dX11_record_23 : decode cX11_record 23 = .ok (.istore_n 3, 1) := by decide +kernel
theorem dX11_record_24 : decode cX11_record 24 = .ok (.iconst 0, 1) := by decide +kernel
theorem dX11_record_25 : decode cX11_record 25 = .ok (.istore 4, 2) := by decide +kernel
theorem dX11_record_27 : decode cX11_record 27 = .ok (.iload 4, 2) := by decide +kernel
theorem dX11_record_29 : decode cX11_record 29 = .ok (.aload_n 0, 1) := by decide +kernel
theorem dX11_record_30 : decode cX11_record 30 = .ok (.getfield 15, 3) := by decide +kernel
theorem dX11_record_33 : decode cX11_record 33 = .ok (.if_icmp .ge 59, 3) := by decide +kernel
theorem dX11_record_92 : decode cX11_record 92 = .ok (.iload_n 2, 1) := by decide +kernel
theorem dX11_record_93 : decode cX11_record 93 = .ok (.ifCond .lt 7, 3) := by decide +kernel
theorem dX11_record_100 : decode cX11_record 100 = .ok (.iconst 0, 1) := by decide +kernel
set_option maxRecDepth 20000 in
theorem ggX11_record_X11_demandFound : GoodIn wsX11_record wsX11_demandFound := goodIn_ca (goodIn_r _ [240, 241, 242] rfl (by decide +kernel)) (goodIn_sub (fun _ h => List.mem_cons_of_mem _ (List.mem_append_right _ h)) (by decide +kernel))
set_option maxRecDepth 20000 in
theorem gX11_record_X11_demandFound : GoodIn wsX11_record (va_wsS RX11 98 yX11_demandFound wsX11_demandFound) := goodIn_app (goodIn_of _ (by decide +kernel)) ggX11_record_X11_demandFound
theorem dX11_record_101 : decode cX11_record 101 = .ok (.invokestatic 98, 3) := by decide +kernel
theorem dX11_record_6 : decode cX11_record 6 = .ok (.iload_n 1, 1) := by decide +kernel
theorem dX11_record_7 : decode cX11_record 7 = .ok (.bipush 109, 2) := by decide +kernel
theorem dX11_record_9 : decode cX11_record 9 = .ok (.if_icmp .ne 7, 3) := by decide +kernel
theorem dX11_record_16 : decode cX11_record 16 = .ok (.iconst 0, 1) := by decide +kernel
theorem dX11_holdouts_0 : decode cX11_holdouts 0 = .ok (.iconst 0, 1) := by decide +kernel
theorem dX11_holdouts_1 : decode cX11_holdouts 1 = .ok (.istore_n 1, 1) := by decide +kernel
theorem dX11_holdouts_2 : decode cX11_holdouts 2 = .ok (.iconst 0, 1) := by decide +kernel
theorem dX11_holdouts_3 : decode cX11_holdouts 3 = .ok (.istore_n 2, 1) := by decide +kernel
theorem dX11_holdouts_4 : decode cX11_holdouts 4 = .ok (.iload_n 2, 1) := by decide +kernel
theorem dX11_holdouts_5 : decode cX11_holdouts 5 = .ok (.aload_n 0, 1) := by decide +kernel
theorem dX11_holdouts_6 : decode cX11_holdouts 6 = .ok (.getfield 15, 3) := by decide +kernel
theorem dX11_holdouts_9 : decode cX11_holdouts 9 = .ok (.if_icmp .ge 27, 3) := by decide +kernel
theorem dX11_holdouts_36 : decode cX11_holdouts 36 = .ok (.iload_n 1, 1) := by decide +kernel
theorem dX11_holdouts_37 : decode cX11_holdouts 37 = .ok (.ireturn, 1) := by decide +kernel
theorem dX11_holdoutAt_0 : decode cX11_holdoutAt 0 = .ok (.iconst (-1), 1) := by decide +kernel
theorem dX11_holdoutAt_1 : decode cX11_holdoutAt 1 = .ok (.istore_n 2, 1) := by decide +kernel
theorem dX11_holdoutAt_2 : decode cX11_holdoutAt 2 = .ok (.iconst 0, 1) := by decide +kernel
theorem dX11_holdoutAt_3 : decode cX11_holdoutAt 3 = .ok (.istore_n 3, 1) := by decide +kernel
theorem dX11_holdoutAt_4 : decode cX11_holdoutAt 4 = .ok (.iconst 0, 1) := by decide +kernel
theorem dX11_holdoutAt_5 : decode cX11_holdoutAt 5 = .ok (.istore 4, 2) := by decide +kernel
theorem dX11_holdoutAt_7 : decode cX11_holdoutAt 7 = .ok (.iload 4, 2) := by decide +kernel
theorem dX11_holdoutAt_9 : decode cX11_holdoutAt 9 = .ok (.aload_n 0, 1) := by decide +kernel
theorem dX11_holdoutAt_10 : decode cX11_holdoutAt 10 = .ok (.getfield 15, 3) := by decide +kernel
theorem dX11_holdoutAt_13 : decode cX11_holdoutAt 13 = .ok (.if_icmp .ge 40, 3) := by decide +kernel
theorem dX11_holdoutAt_53 : decode cX11_holdoutAt 53 = .ok (.iload_n 2, 1) := by decide +kernel
theorem dX11_holdoutAt_54 : decode cX11_holdoutAt 54 = .ok (.ifCond .lt 7, 3) := by decide +kernel
theorem dX11_holdoutAt_61 : decode cX11_holdoutAt 61 = .ok (.iconst 0, 1) := by decide +kernel
set_option maxRecDepth 20000 in
theorem ggX11_holdoutAt_X11_demandFound : GoodIn wsX11_holdoutAt wsX11_demandFound := goodIn_ca (goodIn_r _ [224, 225, 226] rfl (by decide +kernel)) (goodIn_sub (fun _ h => List.mem_cons_of_mem _ (List.mem_append_right _ h)) (by decide +kernel))
set_option maxRecDepth 20000 in
theorem gX11_holdoutAt_X11_demandFound : GoodIn wsX11_holdoutAt (va_wsS RX11 98 yX11_demandFound wsX11_demandFound) := goodIn_app (goodIn_of _ (by decide +kernel)) ggX11_holdoutAt_X11_demandFound
theorem dX11_holdoutAt_62 : decode cX11_holdoutAt 62 = .ok (.invokestatic 98, 3) := by decide +kernel
theorem dX11_meanMarks_0 : decode cX11_meanMarks 0 = .ok (.lconst 0, 1) := by decide +kernel
theorem dX11_meanMarks_1 : decode cX11_meanMarks 1 = .ok (.lstore_n 1, 1) := by decide +kernel
theorem dX11_meanMarks_2 : decode cX11_meanMarks 2 = .ok (.iconst 0, 1) := by decide +kernel
theorem dX11_meanMarks_3 : decode cX11_meanMarks 3 = .ok (.istore_n 3, 1) := by decide +kernel
theorem dX11_meanMarks_4 : decode cX11_meanMarks 4 = .ok (.iconst 0, 1) := by decide +kernel
theorem dX11_meanMarks_5 : decode cX11_meanMarks 5 = .ok (.istore 4, 2) := by decide +kernel
theorem dX11_meanMarks_7 : decode cX11_meanMarks 7 = .ok (.iload 4, 2) := by decide +kernel
theorem dX11_meanMarks_9 : decode cX11_meanMarks 9 = .ok (.aload_n 0, 1) := by decide +kernel
theorem dX11_meanMarks_10 : decode cX11_meanMarks 10 = .ok (.getfield 15, 3) := by decide +kernel
theorem dX11_meanMarks_13 : decode cX11_meanMarks 13 = .ok (.if_icmp .ge 38, 3) := by decide +kernel
theorem dX11_meanMarks_51 : decode cX11_meanMarks 51 = .ok (.iload_n 3, 1) := by decide +kernel
theorem dX11_meanMarks_52 : decode cX11_meanMarks 52 = .ok (.ifCond .ne 11, 3) := by decide +kernel
theorem dX11_meanMarks_55 : decode cX11_meanMarks 55 = .ok (.new 287, 3) := by decide +kernel
theorem dX11_meanMarks_58 : decode cX11_meanMarks 58 = .ok (.dup, 1) := by decide +kernel
theorem dX11_meanMarks_59 : decode cX11_meanMarks 59 = .ok (.invokespecial 289, 3) := by decide +kernel
theorem dX11_meanMarks_62 : decode cX11_meanMarks 62 = .ok (.athrow, 1) := by decide +kernel
theorem dX11_checksum_0 : decode cX11_checksum 0 = .ok (.ldc2_w 290, 3) := by decide +kernel
theorem dX11_checksum_3 : decode cX11_checksum 3 = .ok (.lstore_n 1, 1) := by decide +kernel
theorem dX11_checksum_4 : decode cX11_checksum 4 = .ok (.iconst 0, 1) := by decide +kernel
theorem dX11_checksum_5 : decode cX11_checksum 5 = .ok (.istore_n 3, 1) := by decide +kernel
theorem dX11_checksum_6 : decode cX11_checksum 6 = .ok (.iload_n 3, 1) := by decide +kernel
theorem dX11_checksum_7 : decode cX11_checksum 7 = .ok (.aload_n 0, 1) := by decide +kernel
theorem dX11_checksum_8 : decode cX11_checksum 8 = .ok (.getfield 15, 3) := by decide +kernel
theorem dX11_checksum_11 : decode cX11_checksum 11 = .ok (.if_icmp .ge 19, 3) := by decide +kernel
theorem dX11_checksum_30 : decode cX11_checksum 30 = .ok (.lload_n 1, 1) := by decide +kernel
theorem dX11_checksum_31 : decode cX11_checksum 31 = .ok (.lreturn, 1) := by decide +kernel
theorem dX11_isSound_0 : decode cX11_isSound 0 = .ok (.iconst 0, 1) := by decide +kernel
theorem dX11_isSound_1 : decode cX11_isSound 1 = .ok (.istore_n 1, 1) := by decide +kernel
theorem dX11_isSound_2 : decode cX11_isSound 2 = .ok (.iload_n 1, 1) := by decide +kernel
theorem dX11_isSound_3 : decode cX11_isSound 3 = .ok (.aload_n 0, 1) := by decide +kernel
theorem dX11_isSound_4 : decode cX11_isSound 4 = .ok (.getfield 15, 3) := by decide +kernel
theorem dX11_isSound_7 : decode cX11_isSound 7 = .ok (.if_icmp .ge 26, 3) := by decide +kernel
theorem dX11_isSound_33 : decode cX11_isSound 33 = .ok (.iconst 1, 1) := by decide +kernel
theorem dX11_isSound_34 : decode cX11_isSound 34 = .ok (.ireturn, 1) := by decide +kernel
theorem dX11_count_0 : decode cX11_count 0 = .ok (.iload_n 1, 1) := by decide +kernel
theorem dX11_count_1 : decode cX11_count 1 = .ok (.bipush 43, 2) := by decide +kernel
theorem dX11_count_3 : decode cX11_count 3 = .ok (.if_icmp .eq 9, 3) := by decide +kernel
theorem dX11_count_12 : decode cX11_count 12 = .ok (.iconst 1, 1) := by decide +kernel
theorem dX11_count_13 : decode cX11_count 13 = .ok (.goto 4, 3) := by decide +kernel
set_option maxRecDepth 20000 in
theorem ggX11_count_X11_demand : GoodIn wsX11_count wsX11_demand := goodIn_ca (goodIn_r _ [8, 9, 10] rfl (by decide +kernel)) (goodIn_sub (fun _ h => List.mem_cons_of_mem _ (List.mem_append_left _ (List.mem_append_right _ h))) (by decide +kernel))
set_option maxRecDepth 20000 in
theorem gX11_count_X11_demand : GoodIn wsX11_count (va_wsS RX11 54 yX11_demand wsX11_demand) := goodIn_app (goodIn_of _ (by decide +kernel)) ggX11_count_X11_demand
theorem dX11_count_17 : decode cX11_count 17 = .ok (.invokestatic 54, 3) := by decide +kernel
theorem dX11_count_20 : decode cX11_count 20 = .ok (.iload_n 2, 1) := by decide +kernel
theorem dX11_count_21 : decode cX11_count 21 = .ok (.iconst 0, 1) := by decide +kernel
theorem dX11_count_22 : decode cX11_count 22 = .ok (.iconst 3, 1) := by decide +kernel
set_option maxRecDepth 20000 in
theorem ggX11_count_X11_isWithin : GoodIn wsX11_count wsX11_isWithin := goodIn_r _ [13] rfl (by decide +kernel)
set_option maxRecDepth 20000 in
theorem gX11_count_X11_isWithin : GoodIn wsX11_count (va_wsS RX11 58 yX11_isWithin wsX11_isWithin) := goodIn_app (goodIn_of _ (by decide +kernel)) ggX11_count_X11_isWithin
theorem dX11_count_23 : decode cX11_count 23 = .ok (.invokestatic 58, 3) := by decide +kernel
theorem dX11_count_26 : decode cX11_count 26 = .ok (.ifCond .eq 17, 3) := by decide +kernel
theorem dX11_count_43 : decode cX11_count 43 = .ok (.iconst 0, 1) := by decide +kernel
theorem dX11_count_44 : decode cX11_count 44 = .ok (.invokestatic 54, 3) := by decide +kernel
theorem dX11_count_29 : decode cX11_count 29 = .ok (.iload_n 3, 1) := by decide +kernel
theorem dX11_count_30 : decode cX11_count 30 = .ok (.iconst 0, 1) := by decide +kernel
theorem dX11_count_31 : decode cX11_count 31 = .ok (.bipush 12, 2) := by decide +kernel
theorem dX11_count_33 : decode cX11_count 33 = .ok (.invokestatic 58, 3) := by decide +kernel
theorem dX11_count_36 : decode cX11_count 36 = .ok (.ifCond .eq 7, 3) := by decide +kernel
theorem dX11_count_39 : decode cX11_count 39 = .ok (.iconst 1, 1) := by decide +kernel
theorem dX11_count_40 : decode cX11_count 40 = .ok (.goto 4, 3) := by decide +kernel
theorem dX11_count_47 : decode cX11_count 47 = .ok (.iload_n 1, 1) := by decide +kernel
theorem dX11_count_48 : decode cX11_count 48 = .ok (.bipush 43, 2) := by decide +kernel
theorem dX11_count_50 : decode cX11_count 50 = .ok (.if_icmp .eq 14, 3) := by decide +kernel
theorem dX11_count_64 : decode cX11_count 64 = .ok (.iconst 1, 1) := by decide +kernel
theorem dX11_count_65 : decode cX11_count 65 = .ok (.goto 4, 3) := by decide +kernel
theorem dX11_count_69 : decode cX11_count 69 = .ok (.invokestatic 54, 3) := by decide +kernel
theorem dX11_count_72 : decode cX11_count 72 = .ok (.aload_n 0, 1) := by decide +kernel
theorem dX11_count_73 : decode cX11_count 73 = .ok (.getfield 36, 3) := by decide +kernel
theorem dX11_count_76 : decode cX11_count 76 = .ok (.getfield 225, 3) := by decide +kernel
theorem dX11_count_79 : decode cX11_count 79 = .ok (.bipush 12, 2) := by decide +kernel
theorem dX11_count_81 : decode cX11_count 81 = .ok (.if_icmp .lt 11, 3) := by decide +kernel
theorem dX11_count_92 : decode cX11_count 92 = .ok (.aload_n 0, 1) := by decide +kernel
theorem dX11_count_93 : decode cX11_count 93 = .ok (.getfield 36, 3) := by decide +kernel
theorem dX11_count_96 : decode cX11_count 96 = .ok (.iload_n 1, 1) := by decide +kernel
theorem dX11_count_97 : decode cX11_count 97 = .ok (.bipush 43, 2) := by decide +kernel
theorem dX11_count_99 : decode cX11_count 99 = .ok (.if_icmp .ne 7, 3) := by decide +kernel
theorem dX11_count_106 : decode cX11_count 106 = .ok (.iconst 0, 1) := by decide +kernel
theorem dX11_count_107 : decode cX11_count 107 = .ok (.iload_n 2, 1) := by decide +kernel
theorem dX11_count_108 : decode cX11_count 108 = .ok (.iload_n 3, 1) := by decide +kernel
theorem dX11_count_109 : decode cX11_count 109 = .ok (.iload 4, 2) := by decide +kernel
set_option maxRecDepth 20000 in
theorem ggX11_count_X0_add : GoodIn wsX11_count wsX0_add := goodIn_ca (goodIn_r _ [18, 19, 20, 21, 22, 23, 24, 25, 26, 27, 28, 7, 29, 37, 38, 39, 40, 41, 42] rfl (by decide +kernel)) (goodIn_sub (fun _ h => List.mem_cons_of_mem _ (List.mem_append_right _ h)) (by decide +kernel))
set_option maxRecDepth 20000 in
theorem gX11_count_X0_add : GoodIn wsX11_count (wsV RX11 231 RX0 yX0_add wsX0_add) := goodIn_app (goodIn_of _ (by decide +kernel)) ggX11_count_X0_add
theorem dX11_count_111 : decode cX11_count 111 = .ok (.invokevirtual 231, 3) := by decide +kernel
theorem dX11_count_114 : decode cX11_count 114 = .ok (.aload_n 0, 1) := by decide +kernel
theorem dX11_count_115 : decode cX11_count 115 = .ok (.getfield 36, 3) := by decide +kernel
theorem dX11_count_118 : decode cX11_count 118 = .ok (.getfield 225, 3) := by decide +kernel
theorem dX11_count_121 : decode cX11_count 121 = .ok (.ireturn, 1) := by decide +kernel
theorem dX11_count_102 : decode cX11_count 102 = .ok (.iconst 1, 1) := by decide +kernel
theorem dX11_count_103 : decode cX11_count 103 = .ok (.goto 4, 3) := by decide +kernel
theorem dX11_count_53 : decode cX11_count 53 = .ok (.iload 4, 2) := by decide +kernel
theorem dX11_count_55 : decode cX11_count 55 = .ok (.iconst 0, 1) := by decide +kernel
theorem dX11_count_56 : decode cX11_count 56 = .ok (.bipush 12, 2) := by decide +kernel
theorem dX11_count_58 : decode cX11_count 58 = .ok (.invokestatic 58, 3) := by decide +kernel
theorem dX11_count_61 : decode cX11_count 61 = .ok (.ifCond .eq 7, 3) := by decide +kernel
theorem dX11_count_68 : decode cX11_count 68 = .ok (.iconst 0, 1) := by decide +kernel
theorem dX11_count_6 : decode cX11_count 6 = .ok (.iload_n 1, 1) := by decide +kernel
theorem dX11_count_7 : decode cX11_count 7 = .ok (.bipush 45, 2) := by decide +kernel
theorem dX11_count_9 : decode cX11_count 9 = .ok (.if_icmp .ne 7, 3) := by decide +kernel
theorem dX11_count_16 : decode cX11_count 16 = .ok (.iconst 0, 1) := by decide +kernel
theorem dX11_uncount_0 : decode cX11_uncount 0 = .ok (.aload_n 0, 1) := by decide +kernel
theorem dX11_uncount_1 : decode cX11_uncount 1 = .ok (.getfield 36, 3) := by decide +kernel
theorem dX11_uncount_4 : decode cX11_uncount 4 = .ok (.getfield 225, 3) := by decide +kernel
theorem dX11_uncount_7 : decode cX11_uncount 7 = .ok (.istore_n 1, 1) := by decide +kernel
theorem dX11_uncount_8 : decode cX11_uncount 8 = .ok (.aload_n 0, 1) := by decide +kernel
theorem dX11_uncount_9 : decode cX11_uncount 9 = .ok (.getfield 36, 3) := by decide +kernel
theorem dX11_uncount_12 : decode cX11_uncount 12 = .ok (.iconst 0, 1) := by decide +kernel
theorem dX11_uncount_13 : decode cX11_uncount 13 = .ok (.putfield 225, 3) := by decide +kernel
theorem dX11_uncount_16 : decode cX11_uncount 16 = .ok (.iload_n 1, 1) := by decide +kernel
theorem dX11_uncount_17 : decode cX11_uncount 17 = .ok (.ireturn, 1) := by decide +kernel
theorem dX11_runCounters_0 : decode cX11_runCounters 0 = .ok (.iload_n 1, 1) := by decide +kernel
theorem dX11_runCounters_1 : decode cX11_runCounters 1 = .ok (.iconst 0, 1) := by decide +kernel
theorem dX11_runCounters_2 : decode cX11_runCounters 2 = .ok (.sipush 1000, 3) := by decide +kernel
set_option maxRecDepth 20000 in
theorem ggX11_runCounters_X11_isWithin : GoodIn wsX11_runCounters wsX11_isWithin := goodIn_r _ [5] rfl (by decide +kernel)
set_option maxRecDepth 20000 in
theorem gX11_runCounters_X11_isWithin : GoodIn wsX11_runCounters (va_wsS RX11 58 yX11_isWithin wsX11_isWithin) := goodIn_app (goodIn_of _ (by decide +kernel)) ggX11_runCounters_X11_isWithin
theorem dX11_runCounters_5 : decode cX11_runCounters 5 = .ok (.invokestatic 58, 3) := by decide +kernel
theorem dX11_runCounters_8 : decode cX11_runCounters 8 = .ok (.ifCond .eq 18, 3) := by decide +kernel
theorem dX11_runCounters_26 : decode cX11_runCounters 26 = .ok (.iconst 0, 1) := by decide +kernel
set_option maxRecDepth 20000 in
theorem ggX11_runCounters_X11_demand : GoodIn wsX11_runCounters wsX11_demand := goodIn_ca (goodIn_r _ [8, 9, 10] rfl (by decide +kernel)) (goodIn_sub (fun _ h => List.mem_cons_of_mem _ (List.mem_append_left _ (List.mem_append_right _ h))) (by decide +kernel))
set_option maxRecDepth 20000 in
theorem gX11_runCounters_X11_demand : GoodIn wsX11_runCounters (va_wsS RX11 54 yX11_demand wsX11_demand) := goodIn_app (goodIn_of _ (by decide +kernel)) ggX11_runCounters_X11_demand
theorem dX11_runCounters_27 : decode cX11_runCounters 27 = .ok (.invokestatic 54, 3) := by decide +kernel
theorem dX11_runCounters_11 : decode cX11_runCounters 11 = .ok (.iload_n 2, 1) := by decide +kernel
theorem dX11_runCounters_12 : decode cX11_runCounters 12 = .ok (.iconst 0, 1) := by decide +kernel
theorem dX11_runCounters_13 : decode cX11_runCounters 13 = .ok (.sipush 1000, 3) := by decide +kernel
theorem dX11_runCounters_16 : decode cX11_runCounters 16 = .ok (.invokestatic 58, 3) := by decide +kernel
theorem dX11_runCounters_19 : decode cX11_runCounters 19 = .ok (.ifCond .eq 7, 3) := by decide +kernel
theorem dX11_runCounters_22 : decode cX11_runCounters 22 = .ok (.iconst 1, 1) := by decide +kernel
theorem dX11_runCounters_23 : decode cX11_runCounters 23 = .ok (.goto 4, 3) := by decide +kernel
theorem dX11_runCounters_30 : decode cX11_runCounters 30 = .ok (.iload_n 3, 1) := by decide +kernel
theorem dX11_runCounters_31 : decode cX11_runCounters 31 = .ok (.iconst 0, 1) := by decide +kernel
theorem dX11_runCounters_32 : decode cX11_runCounters 32 = .ok (.sipush 5000, 3) := by decide +kernel
theorem dX11_runCounters_35 : decode cX11_runCounters 35 = .ok (.invokestatic 58, 3) := by decide +kernel
theorem dX11_runCounters_38 : decode cX11_runCounters 38 = .ok (.invokestatic 54, 3) := by decide +kernel
theorem dX11_runCounters_41 : decode cX11_runCounters 41 = .ok (.aload_n 0, 1) := by decide +kernel
theorem dX11_runCounters_42 : decode cX11_runCounters 42 = .ok (.getfield 36, 3) := by decide +kernel
theorem dX11_runCounters_45 : decode cX11_runCounters 45 = .ok (.iload_n 1, 1) := by decide +kernel
theorem dX11_runCounters_46 : decode cX11_runCounters 46 = .ok (.iload_n 2, 1) := by decide +kernel
theorem dX11_runCounters_47 : decode cX11_runCounters 47 = .ok (.iload_n 3, 1) := by decide +kernel
set_option maxRecDepth 20000 in
theorem ggX11_runCounters_X0_go : GoodIn wsX11_runCounters wsX0_go := goodIn_ca (goodIn_r _ [15, 16, 17, 18, 19, 20, 21, 22, 4, 23, 24, 25, 26, 14, 27, 28, 29, 30, 31, 32, 33, 41, 42, 43, 44, 45, 46] rfl (by decide +kernel)) (goodIn_sub (fun _ h => List.mem_cons_of_mem _ (List.mem_append_right _ h)) (by decide +kernel))
set_option maxRecDepth 20000 in
theorem gX11_runCounters_X0_go : GoodIn wsX11_runCounters (wsV RX11 235 RX0 yX0_go wsX0_go) := goodIn_app (goodIn_of _ (by decide +kernel)) ggX11_runCounters_X0_go
theorem dX11_runCounters_48 : decode cX11_runCounters 48 = .ok (.invokevirtual 235, 3) := by decide +kernel
theorem dX11_runCounters_51 : decode cX11_runCounters 51 = .ok (.ireturn, 1) := by decide +kernel
theorem dX11_register_0 : decode cX11_register 0 = .ok (.iload_n 1, 1) := by decide +kernel
theorem dX11_register_1 : decode cX11_register 1 = .ok (.iconst 0, 1) := by decide +kernel
theorem dX11_register_2 : decode cX11_register 2 = .ok (.iconst 3, 1) := by decide +kernel
set_option maxRecDepth 20000 in
theorem ggX11_register_X11_isWithin : GoodIn wsX11_register wsX11_isWithin := goodIn_r _ [8] rfl (by decide +kernel)
set_option maxRecDepth 20000 in
theorem gX11_register_X11_isWithin : GoodIn wsX11_register (va_wsS RX11 58 yX11_isWithin wsX11_isWithin) := goodIn_app (goodIn_of _ (by decide +kernel)) ggX11_register_X11_isWithin
theorem dX11_register_3 : decode cX11_register 3 = .ok (.invokestatic 58, 3) := by decide +kernel
theorem dX11_register_6 : decode cX11_register 6 = .ok (.ifCond .ne 11, 3) := by decide +kernel
theorem dX11_register_17 : decode cX11_register 17 = .ok (.aload_n 0, 1) := by decide +kernel
theorem dX11_register_18 : decode cX11_register 18 = .ok (.getfield 36, 3) := by decide +kernel
theorem dX11_register_21 : decode cX11_register 21 = .ok (.getfield 241, 3) := by decide +kernel
theorem dX11_register_24 : decode cX11_register 24 = .ok (.iload_n 1, 1) := by decide +kernel
set_option maxRecDepth 20000 in
theorem ggX11_register_X11_at : GoodIn wsX11_register wsX11_at := goodIn_ca (goodIn_r _ [11] rfl (by decide +kernel)) (goodIn_sub (fun _ h => List.mem_cons_of_mem _ (List.mem_append_right _ h)) (by decide +kernel))
set_option maxRecDepth 20000 in
theorem gX11_register_X11_at : GoodIn wsX11_register (va_wsS RX11 245 yX11_at wsX11_at) := goodIn_app (goodIn_of _ (by decide +kernel)) ggX11_register_X11_at
theorem dX11_register_25 : decode cX11_register 25 = .ok (.invokestatic 245, 3) := by decide +kernel
theorem dX11_register_28 : decode cX11_register 28 = .ok (.ireturn, 1) := by decide +kernel
theorem dX11_register_9 : decode cX11_register 9 = .ok (.new 238, 3) := by decide +kernel
theorem dX11_register_12 : decode cX11_register 12 = .ok (.dup, 1) := by decide +kernel
theorem dX11_register_13 : decode cX11_register 13 = .ok (.invokespecial 240, 3) := by decide +kernel
theorem dX11_register_16 : decode cX11_register 16 = .ok (.athrow, 1) := by decide +kernel
theorem dX11_tagRow_0 : decode cX11_tagRow 0 = .ok (.iload_n 1, 1) := by decide +kernel
theorem dX11_tagRow_1 : decode cX11_tagRow 1 = .ok (.bipush 97, 2) := by decide +kernel
theorem dX11_tagRow_3 : decode cX11_tagRow 3 = .ok (.bipush 100, 2) := by decide +kernel
set_option maxRecDepth 20000 in
theorem ggX11_tagRow_X11_isWithin : GoodIn wsX11_tagRow wsX11_isWithin := goodIn_r _ [7] rfl (by decide +kernel)
set_option maxRecDepth 20000 in
theorem gX11_tagRow_X11_isWithin : GoodIn wsX11_tagRow (va_wsS RX11 58 yX11_isWithin wsX11_isWithin) := goodIn_app (goodIn_of _ (by decide +kernel)) ggX11_tagRow_X11_isWithin
theorem dX11_tagRow_5 : decode cX11_tagRow 5 = .ok (.invokestatic 58, 3) := by decide +kernel
theorem dX11_tagRow_8 : decode cX11_tagRow 8 = .ok (.ifCond .eq 18, 3) := by decide +kernel
theorem dX11_tagRow_26 : decode cX11_tagRow 26 = .ok (.iconst 0, 1) := by decide +kernel
set_option maxRecDepth 20000 in
theorem ggX11_tagRow_X11_demand : GoodIn wsX11_tagRow wsX11_demand := goodIn_ca (goodIn_r _ [10, 11, 12] rfl (by decide +kernel)) (goodIn_sub (fun _ h => List.mem_cons_of_mem _ (List.mem_append_left _ (List.mem_append_right _ h))) (by decide +kernel))
set_option maxRecDepth 20000 in
theorem gX11_tagRow_X11_demand : GoodIn wsX11_tagRow (va_wsS RX11 54 yX11_demand wsX11_demand) := goodIn_app (goodIn_of _ (by decide +kernel)) ggX11_tagRow_X11_demand
theorem dX11_tagRow_27 : decode cX11_tagRow 27 = .ok (.invokestatic 54, 3) := by decide +kernel
theorem dX11_tagRow_11 : decode cX11_tagRow 11 = .ok (.iload_n 2, 1) := by decide +kernel
theorem dX11_tagRow_12 : decode cX11_tagRow 12 = .ok (.bipush 97, 2) := by decide +kernel
theorem dX11_tagRow_14 : decode cX11_tagRow 14 = .ok (.bipush 100, 2) := by decide +kernel
theorem dX11_tagRow_16 : decode cX11_tagRow 16 = .ok (.invokestatic 58, 3) := by decide +kernel
theorem dX11_tagRow_19 : decode cX11_tagRow 19 = .ok (.ifCond .eq 7, 3) := by decide +kernel
theorem dX11_tagRow_22 : decode cX11_tagRow 22 = .ok (.iconst 1, 1) := by decide +kernel
theorem dX11_tagRow_23 : decode cX11_tagRow 23 = .ok (.goto 4, 3) := by decide +kernel
theorem dX11_tagRow_30 : decode cX11_tagRow 30 = .ok (.aload_n 0, 1) := by decide +kernel
theorem dX11_tagRow_31 : decode cX11_tagRow 31 = .ok (.getfield 43, 3) := by decide +kernel
theorem dX11_tagRow_34 : decode cX11_tagRow 34 = .ok (.iload_n 1, 1) := by decide +kernel
set_option maxRecDepth 20000 in
theorem ggX11_tagRow_X9_rowLength : GoodIn wsX11_tagRow wsX9_rowLength := goodIn_ca (goodIn_r _ [17, 18, 19, 6, 20, 35, 36, 37, 38, 39, 40] rfl (by decide +kernel)) (goodIn_sub (fun _ h => List.mem_cons_of_mem _ (List.mem_append_right _ h)) (by decide +kernel))
set_option maxRecDepth 20000 in
theorem gX11_tagRow_X9_rowLength : GoodIn wsX11_tagRow (wsV RX11 249 RX9 yX9_rowLength wsX9_rowLength) := goodIn_app (goodIn_of _ (by decide +kernel)) ggX11_tagRow_X9_rowLength
theorem dX11_tagRow_35 : decode cX11_tagRow 35 = .ok (.invokevirtual 249, 3) := by decide +kernel
theorem dX11_tagRow_38 : decode cX11_tagRow 38 = .ok (.bipush 6, 2) := by decide +kernel
theorem dX11_tagRow_40 : decode cX11_tagRow 40 = .ok (.if_icmp .lt 11, 3) := by decide +kernel
theorem dX11_tagRow_51 : decode cX11_tagRow 51 = .ok (.aload_n 0, 1) := by decide +kernel
theorem dX11_tagRow_52 : decode cX11_tagRow 52 = .ok (.getfield 43, 3) := by decide +kernel
theorem dX11_tagRow_55 : decode cX11_tagRow 55 = .ok (.iload_n 1, 1) := by decide +kernel
theorem dX11_tagRow_56 : decode cX11_tagRow 56 = .ok (.iload_n 2, 1) := by decide +kernel
set_option maxRecDepth 20000 in
theorem ggX11_tagRow_X9_addToRow : GoodIn wsX11_tagRow wsX9_addToRow := goodIn_ca (goodIn_r _ [24, 18, 25, 19, 6, 20, 26, 27, 35, 36, 37, 38, 39, 40] rfl (by decide +kernel)) (goodIn_sub (fun _ h => List.mem_cons_of_mem _ (List.mem_append_right _ h)) (by decide +kernel))
set_option maxRecDepth 20000 in
theorem gX11_tagRow_X9_addToRow : GoodIn wsX11_tagRow (wsV RX11 252 RX9 yX9_addToRow wsX9_addToRow) := goodIn_app (goodIn_of _ (by decide +kernel)) ggX11_tagRow_X9_addToRow
theorem dX11_tagRow_57 : decode cX11_tagRow 57 = .ok (.invokevirtual 252, 3) := by decide +kernel
theorem dX11_tagRow_60 : decode cX11_tagRow 60 = .ok (.aload_n 0, 1) := by decide +kernel
theorem dX11_tagRow_61 : decode cX11_tagRow 61 = .ok (.getfield 43, 3) := by decide +kernel
theorem dX11_tagRow_64 : decode cX11_tagRow 64 = .ok (.iload_n 1, 1) := by decide +kernel
theorem dX11_tagRow_65 : decode cX11_tagRow 65 = .ok (.invokevirtual 249, 3) := by decide +kernel
theorem dX11_tagRow_68 : decode cX11_tagRow 68 = .ok (.ireturn, 1) := by decide +kernel
theorem dX11_tagStart_0 : decode cX11_tagStart 0 = .ok (.iload_n 1, 1) := by decide +kernel
theorem dX11_tagStart_1 : decode cX11_tagStart 1 = .ok (.bipush 97, 2) := by decide +kernel
theorem dX11_tagStart_3 : decode cX11_tagStart 3 = .ok (.bipush 100, 2) := by decide +kernel
set_option maxRecDepth 20000 in
theorem ggX11_tagStart_X11_isWithin : GoodIn wsX11_tagStart wsX11_isWithin := goodIn_r _ [8] rfl (by decide +kernel)
set_option maxRecDepth 20000 in
theorem gX11_tagStart_X11_isWithin : GoodIn wsX11_tagStart (va_wsS RX11 58 yX11_isWithin wsX11_isWithin) := goodIn_app (goodIn_of _ (by decide +kernel)) ggX11_tagStart_X11_isWithin
theorem dX11_tagStart_5 : decode cX11_tagStart 5 = .ok (.invokestatic 58, 3) := by decide +kernel
set_option maxRecDepth 20000 in
theorem ggX11_tagStart_X11_demand : GoodIn wsX11_tagStart wsX11_demand := goodIn_ca (goodIn_r _ [11, 12, 13] rfl (by decide +kernel)) (goodIn_sub (fun _ h => List.mem_cons_of_mem _ (List.mem_append_left _ (List.mem_append_right _ h))) (by decide +kernel))
set_option maxRecDepth 20000 in
theorem gX11_tagStart_X11_demand : GoodIn wsX11_tagStart (va_wsS RX11 54 yX11_demand wsX11_demand) := goodIn_app (goodIn_of _ (by decide +kernel)) ggX11_tagStart_X11_demand
theorem dX11_tagStart_8 : decode cX11_tagStart 8 = .ok (.invokestatic 54, 3) := by decide +kernel
theorem dX11_tagStart_11 : decode cX11_tagStart 11 = .ok (.aload_n 0, 1) := by decide +kernel
theorem dX11_tagStart_12 : decode cX11_tagStart 12 = .ok (.getfield 43, 3) := by decide +kernel
theorem dX11_tagStart_15 : decode cX11_tagStart 15 = .ok (.getfield 256, 3) := by decide +kernel
theorem dX11_tagStart_18 : decode cX11_tagStart 18 = .ok (.bipush 40, 2) := by decide +kernel
theorem dX11_tagStart_20 : decode cX11_tagStart 20 = .ok (.if_icmp .lt 11, 3) := by decide +kernel
theorem dX11_tagStart_31 : decode cX11_tagStart 31 = .ok (.aload_n 0, 1) := by decide +kernel
theorem dX11_tagStart_32 : decode cX11_tagStart 32 = .ok (.getfield 43, 3) := by decide +kernel
theorem dX11_tagStart_35 : decode cX11_tagStart 35 = .ok (.iload_n 1, 1) := by decide +kernel
set_option maxRecDepth 20000 in
theorem ggX11_tagStart_X9_addToStart : GoodIn wsX11_tagStart wsX9_addToStart := goodIn_ca (goodIn_r _ [18, 19, 20, 21, 7, 22, 30, 31, 32, 33, 34, 35] rfl (by decide +kernel)) (goodIn_sub (fun _ h => List.mem_cons_of_mem _ (List.mem_append_right _ h)) (by decide +kernel))
set_option maxRecDepth 20000 in
theorem gX11_tagStart_X9_addToStart : GoodIn wsX11_tagStart (wsV RX11 259 RX9 yX9_addToStart wsX9_addToStart) := goodIn_app (goodIn_of _ (by decide +kernel)) ggX11_tagStart_X9_addToStart
theorem dX11_tagStart_36 : decode cX11_tagStart 36 = .ok (.invokevirtual 259, 3) := by decide +kernel
theorem dX11_tagStart_39 : decode cX11_tagStart 39 = .ok (.aload_n 0, 1) := by decide +kernel
theorem dX11_tagStart_40 : decode cX11_tagStart 40 = .ok (.getfield 43, 3) := by decide +kernel
theorem dX11_tagStart_43 : decode cX11_tagStart 43 = .ok (.getfield 256, 3) := by decide +kernel
theorem dX11_tagStart_46 : decode cX11_tagStart 46 = .ok (.ireturn, 1) := by decide +kernel
theorem dX11_untag_0 : decode cX11_untag 0 = .ok (.aload_n 0, 1) := by decide +kernel
theorem dX11_untag_1 : decode cX11_untag 1 = .ok (.getfield 43, 3) := by decide +kernel
set_option maxRecDepth 20000 in
theorem ggX11_untag_X9_forget : GoodIn wsX11_untag wsX9_forget := goodIn_ca (goodIn_r _ [6, 7, 8, 9, 10, 11, 12, 20, 21, 22, 23, 24, 25] rfl (by decide +kernel)) (goodIn_sub (fun _ h => List.mem_cons_of_mem _ (List.mem_append_right _ h)) (by decide +kernel))
set_option maxRecDepth 20000 in
theorem gX11_untag_X9_forget : GoodIn wsX11_untag (wsV RX11 263 RX9 yX9_forget wsX9_forget) := goodIn_app (goodIn_of _ (by decide +kernel)) ggX11_untag_X9_forget
theorem dX11_untag_4 : decode cX11_untag 4 = .ok (.invokevirtual 263, 3) := by decide +kernel
theorem dX11_untag_7 : decode cX11_untag 7 = .ok (.ireturn, 1) := by decide +kernel
theorem dX11_tag_0 : decode cX11_tag 0 = .ok (.iload_n 1, 1) := by decide +kernel
theorem dX11_tag_1 : decode cX11_tag 1 = .ok (.iconst 2, 1) := by decide +kernel
theorem dX11_tag_2 : decode cX11_tag 2 = .ok (.if_icmp .eq 8, 3) := by decide +kernel
theorem dX11_tag_10 : decode cX11_tag 10 = .ok (.iconst 1, 1) := by decide +kernel
theorem dX11_tag_11 : decode cX11_tag 11 = .ok (.goto 4, 3) := by decide +kernel
set_option maxRecDepth 20000 in
theorem ggX11_tag_X11_demand : GoodIn wsX11_tag wsX11_demand := goodIn_ca (goodIn_r _ [5, 6, 7] rfl (by decide +kernel)) (goodIn_sub (fun _ h => List.mem_cons_of_mem _ (List.mem_append_left _ (List.mem_append_right _ h))) (by decide +kernel))
set_option maxRecDepth 20000 in
theorem gX11_tag_X11_demand : GoodIn wsX11_tag (va_wsS RX11 54 yX11_demand wsX11_demand) := goodIn_app (goodIn_of _ (by decide +kernel)) ggX11_tag_X11_demand
theorem dX11_tag_15 : decode cX11_tag 15 = .ok (.invokestatic 54, 3) := by decide +kernel
theorem dX11_tag_18 : decode cX11_tag 18 = .ok (.iload_n 2, 1) := by decide +kernel
theorem dX11_tag_19 : decode cX11_tag 19 = .ok (.iconst 0, 1) := by decide +kernel
theorem dX11_tag_20 : decode cX11_tag 20 = .ok (.sipush 2000, 3) := by decide +kernel
set_option maxRecDepth 20000 in
theorem ggX11_tag_X11_isWithin : GoodIn wsX11_tag wsX11_isWithin := goodIn_r _ [10] rfl (by decide +kernel)
set_option maxRecDepth 20000 in
theorem gX11_tag_X11_isWithin : GoodIn wsX11_tag (va_wsS RX11 58 yX11_isWithin wsX11_isWithin) := goodIn_app (goodIn_of _ (by decide +kernel)) ggX11_tag_X11_isWithin
theorem dX11_tag_23 : decode cX11_tag 23 = .ok (.invokestatic 58, 3) := by decide +kernel
theorem dX11_tag_26 : decode cX11_tag 26 = .ok (.invokestatic 54, 3) := by decide +kernel
theorem dX11_tag_29 : decode cX11_tag 29 = .ok (.aload_n 0, 1) := by decide +kernel
theorem dX11_tag_30 : decode cX11_tag 30 = .ok (.getfield 43, 3) := by decide +kernel
theorem dX11_tag_33 : decode cX11_tag 33 = .ok (.iload_n 1, 1) := by decide +kernel
theorem dX11_tag_34 : decode cX11_tag 34 = .ok (.iload_n 2, 1) := by decide +kernel
set_option maxRecDepth 20000 in
theorem ggX11_tag_X9_go : GoodIn wsX11_tag wsX9_go := goodIn_ca (goodIn_r _ [15, 16, 17, 18, 19, 20, 21, 22, 23, 24, 25, 26, 14, 27, 28, 29, 30, 4, 31, 32, 33, 41, 42, 43, 44, 45, 46] rfl (by decide +kernel)) (goodIn_sub (fun _ h => List.mem_cons_of_mem _ (List.mem_append_right _ h)) (by decide +kernel))
set_option maxRecDepth 20000 in
theorem gX11_tag_X9_go : GoodIn wsX11_tag (wsV RX11 266 RX9 yX9_go wsX9_go) := goodIn_app (goodIn_of _ (by decide +kernel)) ggX11_tag_X9_go
theorem dX11_tag_35 : decode cX11_tag 35 = .ok (.invokevirtual 266, 3) := by decide +kernel
theorem dX11_tag_38 : decode cX11_tag 38 = .ok (.ireturn, 1) := by decide +kernel
theorem dX11_tag_5 : decode cX11_tag 5 = .ok (.iload_n 1, 1) := by decide +kernel
theorem dX11_tag_6 : decode cX11_tag 6 = .ok (.iconst 3, 1) := by decide +kernel
theorem dX11_tag_7 : decode cX11_tag 7 = .ok (.if_icmp .ne 7, 3) := by decide +kernel
theorem dX11_tag_14 : decode cX11_tag 14 = .ok (.iconst 0, 1) := by decide +kernel
theorem dX11_tagLength_0 : decode cX11_tagLength 0 = .ok (.aload_n 0, 1) := by decide +kernel
theorem dX11_tagLength_1 : decode cX11_tagLength 1 = .ok (.getfield 43, 3) := by decide +kernel
theorem dX11_tagLength_4 : decode cX11_tagLength 4 = .ok (.getfield 268, 3) := by decide +kernel
theorem dX11_tagLength_7 : decode cX11_tagLength 7 = .ok (.ireturn, 1) := by decide +kernel
theorem dX11_tagLetter_0 : decode cX11_tagLetter 0 = .ok (.iload_n 1, 1) := by decide +kernel
theorem dX11_tagLetter_1 : decode cX11_tagLetter 1 = .ok (.iconst 0, 1) := by decide +kernel
theorem dX11_tagLetter_2 : decode cX11_tagLetter 2 = .ok (.aload_n 0, 1) := by decide +kernel
theorem dX11_tagLetter_3 : decode cX11_tagLetter 3 = .ok (.getfield 43, 3) := by decide +kernel
theorem dX11_tagLetter_6 : decode cX11_tagLetter 6 = .ok (.getfield 268, 3) := by decide +kernel
theorem dX11_tagLetter_9 : decode cX11_tagLetter 9 = .ok (.iconst 1, 1) := by decide +kernel
theorem dX11_tagLetter_10 : decode cX11_tagLetter 10 = .ok (.isub, 1) := by decide +kernel
set_option maxRecDepth 20000 in
theorem ggX11_tagLetter_X11_isWithin : GoodIn wsX11_tagLetter wsX11_isWithin := goodIn_r _ [6] rfl (by decide +kernel)
set_option maxRecDepth 20000 in
theorem gX11_tagLetter_X11_isWithin : GoodIn wsX11_tagLetter (va_wsS RX11 58 yX11_isWithin wsX11_isWithin) := goodIn_app (goodIn_of _ (by decide +kernel)) ggX11_tagLetter_X11_isWithin
theorem dX11_tagLetter_11 : decode cX11_tagLetter 11 = .ok (.invokestatic 58, 3) := by decide +kernel
set_option maxRecDepth 20000 in
theorem ggX11_tagLetter_X11_demandFound : GoodIn wsX11_tagLetter wsX11_demandFound := goodIn_ca (goodIn_r _ [9, 10, 11] rfl (by decide +kernel)) (goodIn_sub (fun _ h => List.mem_cons_of_mem _ (List.mem_append_left _ (List.mem_append_right _ h))) (by decide +kernel))
set_option maxRecDepth 20000 in
theorem gX11_tagLetter_X11_demandFound : GoodIn wsX11_tagLetter (va_wsS RX11 98 yX11_demandFound wsX11_demandFound) := goodIn_app (goodIn_of _ (by decide +kernel)) ggX11_tagLetter_X11_demandFound
theorem dX11_tagLetter_14 : decode cX11_tagLetter 14 = .ok (.invokestatic 98, 3) := by decide +kernel
theorem dX11_fraction_0 : decode cX11_fraction 0 = .ok (.iload_n 1, 1) := by decide +kernel
theorem dX11_fraction_1 : decode cX11_fraction 1 = .ok (.iconst 1, 1) := by decide +kernel
theorem dX11_fraction_2 : decode cX11_fraction 2 = .ok (.sipush 10000, 3) := by decide +kernel
set_option maxRecDepth 20000 in
theorem ggX11_fraction_X11_isWithin : GoodIn wsX11_fraction wsX11_isWithin := goodIn_r _ [8] rfl (by decide +kernel)
set_option maxRecDepth 20000 in
theorem gX11_fraction_X11_isWithin : GoodIn wsX11_fraction (va_wsS RX11 58 yX11_isWithin wsX11_isWithin) := goodIn_app (goodIn_of _ (by decide +kernel)) ggX11_fraction_X11_isWithin
theorem dX11_fraction_5 : decode cX11_fraction 5 = .ok (.invokestatic 58, 3) := by decide +kernel
theorem dX11_fraction_8 : decode cX11_fraction 8 = .ok (.ifCond .eq 18, 3) := by decide +kernel
theorem dX11_fraction_26 : decode cX11_fraction 26 = .ok (.iconst 0, 1) := by decide +kernel
set_option maxRecDepth 20000 in
theorem ggX11_fraction_X11_demand : GoodIn wsX11_fraction wsX11_demand := goodIn_ca (goodIn_r _ [11, 12, 13] rfl (by decide +kernel)) (goodIn_sub (fun _ h => List.mem_cons_of_mem _ (List.mem_append_left _ (List.mem_append_left _ (List.mem_append_right _ h)))) (by decide +kernel))
set_option maxRecDepth 20000 in
theorem gX11_fraction_X11_demand : GoodIn wsX11_fraction (va_wsS RX11 54 yX11_demand wsX11_demand) := goodIn_app (goodIn_of _ (by decide +kernel)) ggX11_fraction_X11_demand
theorem dX11_fraction_27 : decode cX11_fraction 27 = .ok (.invokestatic 54, 3) := by decide +kernel
theorem dX11_fraction_11 : decode cX11_fraction 11 = .ok (.iload_n 2, 1) := by decide +kernel
theorem dX11_fraction_12 : decode cX11_fraction 12 = .ok (.iconst 1, 1) := by decide +kernel
theorem dX11_fraction_13 : decode cX11_fraction 13 = .ok (.sipush 10000, 3) := by decide +kernel
theorem dX11_fraction_16 : decode cX11_fraction 16 = .ok (.invokestatic 58, 3) := by decide +kernel
theorem dX11_fraction_19 : decode cX11_fraction 19 = .ok (.ifCond .eq 7, 3) := by decide +kernel
theorem dX11_fraction_22 : decode cX11_fraction 22 = .ok (.iconst 1, 1) := by decide +kernel
theorem dX11_fraction_23 : decode cX11_fraction 23 = .ok (.goto 4, 3) := by decide +kernel
theorem dX11_fraction_30 : decode cX11_fraction 30 = .ok (.aload_n 0, 1) := by decide +kernel
theorem dX11_fraction_31 : decode cX11_fraction 31 = .ok (.getfield 50, 3) := by decide +kernel
theorem dX11_fraction_34 : decode cX11_fraction 34 = .ok (.getfield 275, 3) := by decide +kernel
theorem dX11_fraction_37 : decode cX11_fraction 37 = .ok (.bipush 10, 2) := by decide +kernel
theorem dX11_fraction_39 : decode cX11_fraction 39 = .ok (.if_icmp .lt 11, 3) := by decide +kernel
theorem dX11_fraction_50 : decode cX11_fraction 50 = .ok (.aload_n 0, 1) := by decide +kernel
theorem dX11_fraction_51 : decode cX11_fraction 51 = .ok (.getfield 50, 3) := by decide +kernel
theorem dX11_fraction_54 : decode cX11_fraction 54 = .ok (.iload_n 1, 1) := by decide +kernel
theorem dX11_fraction_55 : decode cX11_fraction 55 = .ok (.iload_n 2, 1) := by decide +kernel
set_option maxRecDepth 20000 in
theorem ggX11_fraction_X1_add : GoodIn wsX11_fraction wsX1_add := goodIn_ca (goodIn_ca (goodIn_r _ [18, 19, 20, 21, 22, 23, 17, 24, 25, 7, 26, 34, 35, 36, 37, 38, 39] rfl (by decide +kernel)) (goodIn_sub (fun _ h => List.mem_cons_of_mem _ (List.mem_append_left _ (List.mem_append_right _ h))) (by decide +kernel))) (goodIn_sub (fun _ h => List.mem_cons_of_mem _ (List.mem_append_right _ h)) (by decide +kernel))
set_option maxRecDepth 20000 in
theorem gX11_fraction_X1_add : GoodIn wsX11_fraction (wsV RX11 276 RX1 yX1_add wsX1_add) := goodIn_app (goodIn_of _ (by decide +kernel)) ggX11_fraction_X1_add
theorem dX11_fraction_56 : decode cX11_fraction 56 = .ok (.invokevirtual 276, 3) := by decide +kernel
theorem dX11_fraction_59 : decode cX11_fraction 59 = .ok (.aload_n 0, 1) := by decide +kernel
theorem dX11_fraction_60 : decode cX11_fraction 60 = .ok (.getfield 50, 3) := by decide +kernel
theorem dX11_fraction_63 : decode cX11_fraction 63 = .ok (.getfield 275, 3) := by decide +kernel
theorem dX11_fraction_66 : decode cX11_fraction 66 = .ok (.ireturn, 1) := by decide +kernel
theorem dX11_unwalk_0 : decode cX11_unwalk 0 = .ok (.aload_n 0, 1) := by decide +kernel
theorem dX11_unwalk_1 : decode cX11_unwalk 1 = .ok (.getfield 50, 3) := by decide +kernel
theorem dX11_unwalk_4 : decode cX11_unwalk 4 = .ok (.getfield 275, 3) := by decide +kernel
theorem dX11_unwalk_7 : decode cX11_unwalk 7 = .ok (.istore_n 1, 1) := by decide +kernel
theorem dX11_unwalk_8 : decode cX11_unwalk 8 = .ok (.aload_n 0, 1) := by decide +kernel
theorem dX11_unwalk_9 : decode cX11_unwalk 9 = .ok (.getfield 50, 3) := by decide +kernel
theorem dX11_unwalk_12 : decode cX11_unwalk 12 = .ok (.iconst 0, 1) := by decide +kernel
theorem dX11_unwalk_13 : decode cX11_unwalk 13 = .ok (.putfield 275, 3) := by decide +kernel
theorem dX11_unwalk_16 : decode cX11_unwalk 16 = .ok (.iload_n 1, 1) := by decide +kernel
theorem dX11_unwalk_17 : decode cX11_unwalk 17 = .ok (.ireturn, 1) := by decide +kernel
theorem dX11_walk_0 : decode cX11_walk 0 = .ok (.lload_n 1, 1) := by decide +kernel
theorem dX11_walk_1 : decode cX11_walk 1 = .ok (.lconst 1, 1) := by decide +kernel
theorem dX11_walk_2 : decode cX11_walk 2 = .ok (.lcmp, 1) := by decide +kernel
theorem dX11_walk_3 : decode cX11_walk 3 = .ok (.ifCond .lt 15, 3) := by decide +kernel
theorem dX11_walk_18 : decode cX11_walk 18 = .ok (.iconst 0, 1) := by decide +kernel
set_option maxRecDepth 20000 in
theorem ggX11_walk_X11_demand : GoodIn wsX11_walk wsX11_demand := goodIn_ca (goodIn_r _ [6, 7, 8] rfl (by decide +kernel)) (goodIn_sub (fun _ h => List.mem_cons_of_mem _ (List.mem_append_left _ (List.mem_append_left _ (List.mem_append_right _ h)))) (by decide +kernel))
set_option maxRecDepth 20000 in
theorem gX11_walk_X11_demand : GoodIn wsX11_walk (va_wsS RX11 54 yX11_demand wsX11_demand) := goodIn_app (goodIn_of _ (by decide +kernel)) ggX11_walk_X11_demand
theorem dX11_walk_19 : decode cX11_walk 19 = .ok (.invokestatic 54, 3) := by decide +kernel
theorem dX11_walk_6 : decode cX11_walk 6 = .ok (.lload_n 1, 1) := by decide +kernel
theorem dX11_walk_7 : decode cX11_walk 7 = .ok (.ldc2_w 278, 3) := by decide +kernel
theorem dX11_walk_10 : decode cX11_walk 10 = .ok (.lcmp, 1) := by decide +kernel
theorem dX11_walk_11 : decode cX11_walk 11 = .ok (.ifCond .gt 7, 3) := by decide +kernel
theorem dX11_walk_14 : decode cX11_walk 14 = .ok (.iconst 1, 1) := by decide +kernel
theorem dX11_walk_15 : decode cX11_walk 15 = .ok (.goto 4, 3) := by decide +kernel
theorem dX11_walk_22 : decode cX11_walk 22 = .ok (.iload_n 3, 1) := by decide +kernel
theorem dX11_walk_23 : decode cX11_walk 23 = .ok (.iconst 0, 1) := by decide +kernel
theorem dX11_walk_24 : decode cX11_walk 24 = .ok (.sipush 5000, 3) := by decide +kernel
set_option maxRecDepth 20000 in
theorem ggX11_walk_X11_isWithin : GoodIn wsX11_walk wsX11_isWithin := goodIn_r _ [11] rfl (by decide +kernel)
set_option maxRecDepth 20000 in
theorem gX11_walk_X11_isWithin : GoodIn wsX11_walk (va_wsS RX11 58 yX11_isWithin wsX11_isWithin) := goodIn_app (goodIn_of _ (by decide +kernel)) ggX11_walk_X11_isWithin
theorem dX11_walk_27 : decode cX11_walk 27 = .ok (.invokestatic 58, 3) := by decide +kernel
theorem dX11_walk_30 : decode cX11_walk 30 = .ok (.invokestatic 54, 3) := by decide +kernel
theorem dX11_walk_33 : decode cX11_walk 33 = .ok (.aload_n 0, 1) := by decide +kernel
theorem dX11_walk_34 : decode cX11_walk 34 = .ok (.getfield 50, 3) := by decide +kernel
theorem dX11_walk_37 : decode cX11_walk 37 = .ok (.lload_n 1, 1) := by decide +kernel
theorem dX11_walk_38 : decode cX11_walk 38 = .ok (.iload_n 3, 1) := by decide +kernel
set_option maxRecDepth 20000 in
theorem ggX11_walk_X1_go : GoodIn wsX11_walk wsX1_go := goodIn_ca (goodIn_ca (goodIn_r _ [16, 17, 18, 19, 20, 21, 22, 15, 23, 24, 25, 26, 27, 28, 29, 30, 31, 32, 5, 33, 41, 42, 43, 44, 45, 46] rfl (by decide +kernel)) (goodIn_sub (fun _ h => List.mem_cons_of_mem _ (List.mem_append_left _ (List.mem_append_right _ h))) (by decide +kernel))) (goodIn_sub (fun _ h => List.mem_cons_of_mem _ (List.mem_append_right _ h)) (by decide +kernel))
set_option maxRecDepth 20000 in
theorem gX11_walk_X1_go : GoodIn wsX11_walk (wsV RX11 280 RX1 yX1_go wsX1_go) := goodIn_app (goodIn_of _ (by decide +kernel)) ggX11_walk_X1_go
theorem dX11_walk_39 : decode cX11_walk 39 = .ok (.invokevirtual 280, 3) := by decide +kernel
theorem dX11_walk_42 : decode cX11_walk 42 = .ok (.lreturn, 1) := by decide +kernel
theorem dX11_walked_0 : decode cX11_walked 0 = .ok (.aload_n 0, 1) := by decide +kernel
theorem dX11_walked_1 : decode cX11_walked 1 = .ok (.getfield 50, 3) := by decide +kernel
theorem dX11_walked_4 : decode cX11_walked 4 = .ok (.getfield 283, 3) := by decide +kernel
theorem dX11_walked_7 : decode cX11_walked 7 = .ok (.ireturn, 1) := by decide +kernel
theorem dX11_hasWalked_0 : decode cX11_hasWalked 0 = .ok (.aload_n 0, 1) := by decide +kernel
theorem dX11_hasWalked_1 : decode cX11_hasWalked 1 = .ok (.getfield 50, 3) := by decide +kernel
theorem dX11_hasWalked_4 : decode cX11_hasWalked 4 = .ok (.getfield 284, 3) := by decide +kernel
theorem dX11_hasWalked_7 : decode cX11_hasWalked 7 = .ok (.ireturn, 1) := by decide +kernel
set_option maxHeartbeats 4000000 in
set_option maxRecDepth 100000 in
/-- X11_order -/
theorem c_X11_order (l : Launch) (hfl : l.stackTraces = false) (dC : Nat → ClassId) (dI : Nat → Nat → Nat) (ya ms ju li ct tg fw : Nat) (a1 a2 a3 a4 a5 a6 : Int32) (sz : Nat) : vx_Met l yX11_order wsX11_order ({ frames := 7, cells := 1, slots := 6, locals := 122 }) (va_Pc [.ref ya, .int a1, .int a2, .int a3, .int a4, .int a5, .int a6] (cPCz (zX) dC dI [(ya, .inr (16, [.ref ms, .int 0, .ref ju, .ref li, .ref ct, .ref tg, .ref fw]))] [] sz)) (fun _ _ _ _ => False) (vx_X (fun (_ : Unit) => True) (fun (E9 : String) (_ : Unit) (_ : State) => E9 = "java/lang/IndexOutOfBoundsException") (va_A [(ya, .inr (16, [.ref ms, .int 0, .ref ju, .ref li, .ref ct, .ref tg, .ref fw]))] sz)) 1 6 (va_A [(ya, .inr (16, [.ref ms, .int 0, .ref ju, .ref li, .ref ct, .ref tg, .ref fw]))] sz) := by
  refine vx_ofW (cc := cX11_order) (maxL := 8) (ret := (some .int)) (by decide) rfl ?_
  intro p e s m args below meth c s₁ B hml hxt hv
  obtain ⟨rfl, ⟨hsz, hP, hK, hD0, hN⟩, hZ⟩ := hv
  have hx := B.exec
  have hb := B.bytes
  have hr := B.returns
  have hts := atoms_spec (ws := wsX11_order) B.pre
  have hown : s.vm.findClass RX11 = some m.cls := findClass_of_methodNamed B.named
  have hlocks := B.notSynchronized
  subst hsz
  have hD := hD0.self (sz := s.heap.size)
  generalize hAe : va_A [(ya, .inr (16, [.ref ms, .int 0, .ref ju, .ref li, .ref ct, .ref tg, .ref fw]))] s.heap.size = A at hD hZ ⊢
  have hA : ∀ q : Nat, s.heap.size ≤ q → A q := fun q h => by rw [← hAe]; exact Or.inr h
  have hS : va_S A s.heap s.heap [] := va_S.rf
  have hP : va_P (dC, dI) vwCl [(ya, .inr (16, [.ref ms, .int 0, .ref ju, .ref li, .ref ct, .ref tg, .ref fw]))] s.heap := hP
  have hD : va_D A [(ya, .inr (16, [.ref ms, .int 0, .ref ju, .ref li, .ref ct, .ref tg, .ref fw]))] := hD
  have hl := lv_entry ([.ref ya, .int a1, .int a2, .int a3, .int a4, .int a5, .int a6]) (n := 8) (Nat.le_of_ble_eq_true rfl)
  rw [lg_entry_eq]
  generalize (lg_sl ([.ref ya, .int a1, .int a2, .int a3, .int a4, .int a5, .int a6]) ++ List.replicate (8 - (lg_sl ([.ref ya, .int a1, .int a2, .int a3, .int a4, .int a5, .int a6])).length) Slot.unset).toArray = ls at hl ⊢
  have hl : lv_has ls 8 [(0, .ref ya), (1, .int a1), (2, .int a2), (3, .int a3), (4, .int a4), (5, .int a5), (6, .int a6)] := hl
  have iWX5 : ∀ w ∈ u_ws RX5 TX5 11, w ∈ wsX11_order := by decide +kernel
  refine lv_aload_n hx hb dX11_order_0 rfl (lv_at hl 0 rfl) ?_
  refine lv_iload_n hx hb dX11_order_1 rfl (lv_at hl 1 rfl) ?_
  have hPc := hP.sub (ws' := [(ya, .inr (16, [.ref ms, .int 0, .ref ju, .ref li, .ref ct, .ref tg, .ref fw]))]) [0] rfl
  have hDc := hD.sub (ws' := [(ya, .inr (16, [.ref ms, .int 0, .ref ju, .ref li, .ref ct, .ref tg, .ref fw]))]) [0] (by decide) rfl
  have hKc := hK.sub (tys' := []) [] rfl
  have hFc := va_free (wc := [(ya, .inr (16, [.ref ms, .int 0, .ref ju, .ref li, .ref ct, .ref tg, .ref fw]))]) hD hS hA [0] rfl
  exact vx_callX (vx_runV (As := [.int a1]) (rest := []) ⟨hx, hb, hml, hown, hts⟩ (c_X11_known l hfl dC dI ya ms ju li ct tg fw a1 s.heap.size) (cwV 1 hts gX11_order_X11_known rfl rfl rfl (by decide +kernel) ⟨Nat.le_of_ble_eq_true rfl, Nat.le_of_ble_eq_true rfl⟩) (pcVz (zX_ok) hPc hDc hKc hN hZ hS hFc (ci := 16) (q0 := 0) rfl rfl) rfl rfl hl.1 rfl (lv_room (Nat.le_of_ble_eq_true rfl)) dX11_order_2 ⟨Nat.le_of_ble_eq_true rfl, Nat.le_of_ble_eq_true rfl⟩) hS hFc (fun q _ h => hFc q h) (fun _ _ _ h => h) (fun E9 ce9 q9 u9 t9 H9 locs9 ht9 hvm9 hp9 hE9 hz9 hk9 hS9 hc9 hv9 hcl9 => vx_out (fun x h => (hxt x h).elim) hlocks hc9 hv9 hcl9 (fun t1 ht1 ha1 => ⟨(), trivial, hE9, hS9.F ht1⟩) hS9.2.2 (Nat.le_of_ble_eq_true rfl) (Nat.le_of_ble_eq_true rfl))

set_option maxHeartbeats 4000000 in
set_option maxRecDepth 100000 in
/-- X11_untell -/
theorem c_X11_untell (l : Launch) (hfl : l.stackTraces = false) (dC : Nat → ClassId) (dI : Nat → Nat → Nat) (ya ms ju li ct tg fw : Nat) (a1 a2 a3 : Int32) (sz : Nat) : vx_Met l yX11_untell wsX11_untell ({ frames := 7, cells := 1, slots := 6, locals := 122 }) (va_Pc [.ref ya, .int a1, .int a2, .int a3] (cPCz (zX) dC dI [(ya, .inr (16, [.ref ms, .int 0, .ref ju, .ref li, .ref ct, .ref tg, .ref fw]))] [] sz)) (fun _ _ _ _ => False) (vx_X (fun (_ : Unit) => True) (fun (E9 : String) (_ : Unit) (_ : State) => E9 = "java/lang/IndexOutOfBoundsException") (va_A [(ya, .inr (16, [.ref ms, .int 0, .ref ju, .ref li, .ref ct, .ref tg, .ref fw]))] sz)) 1 6 (va_A [(ya, .inr (16, [.ref ms, .int 0, .ref ju, .ref li, .ref ct, .ref tg, .ref fw]))] sz) := by
  refine vx_ofW (cc := cX11_untell) (maxL := 5) (ret := (some .int)) (by decide) rfl ?_
  intro p e s m args below meth c s₁ B hml hxt hv
  obtain ⟨rfl, ⟨hsz, hP, hK, hD0, hN⟩, hZ⟩ := hv
  have hx := B.exec
  have hb := B.bytes
  have hr := B.returns
  have hts := atoms_spec (ws := wsX11_untell) B.pre
  have hown : s.vm.findClass RX11 = some m.cls := findClass_of_methodNamed B.named
  have hlocks := B.notSynchronized
  subst hsz
  have hD := hD0.self (sz := s.heap.size)
  generalize hAe : va_A [(ya, .inr (16, [.ref ms, .int 0, .ref ju, .ref li, .ref ct, .ref tg, .ref fw]))] s.heap.size = A at hD hZ ⊢
  have hA : ∀ q : Nat, s.heap.size ≤ q → A q := fun q h => by rw [← hAe]; exact Or.inr h
  have hS : va_S A s.heap s.heap [] := va_S.rf
  have hP : va_P (dC, dI) vwCl [(ya, .inr (16, [.ref ms, .int 0, .ref ju, .ref li, .ref ct, .ref tg, .ref fw]))] s.heap := hP
  have hD : va_D A [(ya, .inr (16, [.ref ms, .int 0, .ref ju, .ref li, .ref ct, .ref tg, .ref fw]))] := hD
  have hl := lv_entry ([.ref ya, .int a1, .int a2, .int a3]) (n := 5) (Nat.le_of_ble_eq_true rfl)
  rw [lg_entry_eq]
  generalize (lg_sl ([.ref ya, .int a1, .int a2, .int a3]) ++ List.replicate (5 - (lg_sl ([.ref ya, .int a1, .int a2, .int a3])).length) Slot.unset).toArray = ls at hl ⊢
  have hl : lv_has ls 5 [(0, .ref ya), (1, .int a1), (2, .int a2), (3, .int a3)] := hl
  have iWX5 : ∀ w ∈ u_ws RX5 TX5 11, w ∈ wsX11_untell := by decide +kernel
  refine lv_aload_n hx hb dX11_untell_0 rfl (lv_at hl 0 rfl) ?_
  refine lv_iload_n hx hb dX11_untell_1 rfl (lv_at hl 1 rfl) ?_
  have hPc := hP.sub (ws' := [(ya, .inr (16, [.ref ms, .int 0, .ref ju, .ref li, .ref ct, .ref tg, .ref fw]))]) [0] rfl
  have hDc := hD.sub (ws' := [(ya, .inr (16, [.ref ms, .int 0, .ref ju, .ref li, .ref ct, .ref tg, .ref fw]))]) [0] (by decide) rfl
  have hKc := hK.sub (tys' := []) [] rfl
  have hFc := va_free (wc := [(ya, .inr (16, [.ref ms, .int 0, .ref ju, .ref li, .ref ct, .ref tg, .ref fw]))]) hD hS hA [0] rfl
  exact vx_callX (vx_runV (As := [.int a1]) (rest := []) ⟨hx, hb, hml, hown, hts⟩ (c_X11_known l hfl dC dI ya ms ju li ct tg fw a1 s.heap.size) (cwV 1 hts gX11_untell_X11_known rfl rfl rfl (by decide +kernel) ⟨Nat.le_of_ble_eq_true rfl, Nat.le_of_ble_eq_true rfl⟩) (pcVz (zX_ok) hPc hDc hKc hN hZ hS hFc (ci := 16) (q0 := 0) rfl rfl) rfl rfl hl.1 rfl (lv_room (Nat.le_of_ble_eq_true rfl)) dX11_untell_2 ⟨Nat.le_of_ble_eq_true rfl, Nat.le_of_ble_eq_true rfl⟩) hS hFc (fun q _ h => hFc q h) (fun _ _ _ h => h) (fun E9 ce9 q9 u9 t9 H9 locs9 ht9 hvm9 hp9 hE9 hz9 hk9 hS9 hc9 hv9 hcl9 => vx_out (fun x h => (hxt x h).elim) hlocks hc9 hv9 hcl9 (fun t1 ht1 ha1 => ⟨(), trivial, hE9, hS9.F ht1⟩) hS9.2.2 (Nat.le_of_ble_eq_true rfl) (Nat.le_of_ble_eq_true rfl))

set_option maxHeartbeats 4000000 in
set_option maxRecDepth 100000 in
/-- X11_copy -/
theorem c_X11_copy (l : Launch) (hfl : l.stackTraces = false) (dC : Nat → ClassId) (dI : Nat → Nat → Nat) (ya ms ju li ct tg fw : Nat) (a1 : Int32) (sz : Nat) : vx_Met l yX11_copy wsX11_copy ({ frames := 7, cells := 1, slots := 6, locals := 122 }) (va_Pc [.ref ya, .int a1] (cPCz (zX) dC dI [(ya, .inr (16, [.ref ms, .int 0, .ref ju, .ref li, .ref ct, .ref tg, .ref fw]))] [] sz)) (fun _ _ _ _ => False) (vx_X (fun (_ : Unit) => True) (fun (E9 : String) (_ : Unit) (_ : State) => E9 = "java/lang/IndexOutOfBoundsException") (va_A [(ya, .inr (16, [.ref ms, .int 0, .ref ju, .ref li, .ref ct, .ref tg, .ref fw]))] sz)) 1 6 (va_A [(ya, .inr (16, [.ref ms, .int 0, .ref ju, .ref li, .ref ct, .ref tg, .ref fw]))] sz) := by
  refine vx_ofW (cc := cX11_copy) (maxL := 4) (ret := (some .int)) (by decide) rfl ?_
  intro p e s m args below meth c s₁ B hml hxt hv
  obtain ⟨rfl, ⟨hsz, hP, hK, hD0, hN⟩, hZ⟩ := hv
  have hx := B.exec
  have hb := B.bytes
  have hr := B.returns
  have hts := atoms_spec (ws := wsX11_copy) B.pre
  have hown : s.vm.findClass RX11 = some m.cls := findClass_of_methodNamed B.named
  have hlocks := B.notSynchronized
  subst hsz
  have hD := hD0.self (sz := s.heap.size)
  generalize hAe : va_A [(ya, .inr (16, [.ref ms, .int 0, .ref ju, .ref li, .ref ct, .ref tg, .ref fw]))] s.heap.size = A at hD hZ ⊢
  have hA : ∀ q : Nat, s.heap.size ≤ q → A q := fun q h => by rw [← hAe]; exact Or.inr h
  have hS : va_S A s.heap s.heap [] := va_S.rf
  have hP : va_P (dC, dI) vwCl [(ya, .inr (16, [.ref ms, .int 0, .ref ju, .ref li, .ref ct, .ref tg, .ref fw]))] s.heap := hP
  have hD : va_D A [(ya, .inr (16, [.ref ms, .int 0, .ref ju, .ref li, .ref ct, .ref tg, .ref fw]))] := hD
  have hl := lv_entry ([.ref ya, .int a1]) (n := 4) (Nat.le_of_ble_eq_true rfl)
  rw [lg_entry_eq]
  generalize (lg_sl ([.ref ya, .int a1]) ++ List.replicate (4 - (lg_sl ([.ref ya, .int a1])).length) Slot.unset).toArray = ls at hl ⊢
  have hl : lv_has ls 4 [(0, .ref ya), (1, .int a1)] := hl
  have iWX5 : ∀ w ∈ u_ws RX5 TX5 11, w ∈ wsX11_copy := by decide +kernel
  refine lv_aload_n hx hb dX11_copy_0 rfl (lv_at hl 0 rfl) ?_
  refine lv_iload_n hx hb dX11_copy_1 rfl (lv_at hl 1 rfl) ?_
  have hPc := hP.sub (ws' := [(ya, .inr (16, [.ref ms, .int 0, .ref ju, .ref li, .ref ct, .ref tg, .ref fw]))]) [0] rfl
  have hDc := hD.sub (ws' := [(ya, .inr (16, [.ref ms, .int 0, .ref ju, .ref li, .ref ct, .ref tg, .ref fw]))]) [0] (by decide) rfl
  have hKc := hK.sub (tys' := []) [] rfl
  have hFc := va_free (wc := [(ya, .inr (16, [.ref ms, .int 0, .ref ju, .ref li, .ref ct, .ref tg, .ref fw]))]) hD hS hA [0] rfl
  exact vx_callX (vx_runV (As := [.int a1]) (rest := []) ⟨hx, hb, hml, hown, hts⟩ (c_X11_known l hfl dC dI ya ms ju li ct tg fw a1 s.heap.size) (cwV 1 hts gX11_copy_X11_known rfl rfl rfl (by decide +kernel) ⟨Nat.le_of_ble_eq_true rfl, Nat.le_of_ble_eq_true rfl⟩) (pcVz (zX_ok) hPc hDc hKc hN hZ hS hFc (ci := 16) (q0 := 0) rfl rfl) rfl rfl hl.1 rfl (lv_room (Nat.le_of_ble_eq_true rfl)) dX11_copy_2 ⟨Nat.le_of_ble_eq_true rfl, Nat.le_of_ble_eq_true rfl⟩) hS hFc (fun q _ h => hFc q h) (fun _ _ _ h => h) (fun E9 ce9 q9 u9 t9 H9 locs9 ht9 hvm9 hp9 hE9 hz9 hk9 hS9 hc9 hv9 hcl9 => vx_out (fun x h => (hxt x h).elim) hlocks hc9 hv9 hcl9 (fun t1 ht1 ha1 => ⟨(), trivial, hE9, hS9.F ht1⟩) hS9.2.2 (Nat.le_of_ble_eq_true rfl) (Nat.le_of_ble_eq_true rfl))

set_option maxHeartbeats 4000000 in
set_option maxRecDepth 100000 in
/-- X11_run -/
theorem c_X11_run (l : Launch) (hfl : l.stackTraces = false) (dC : Nat → ClassId) (dI : Nat → Nat → Nat) (ya ms ju li ct tg fw : Nat) (a1 a2 : Int32) (sz : Nat) : vx_Met l yX11_run wsX11_run ({ frames := 7, cells := 1, slots := 6, locals := 122 }) (va_Pc [.ref ya, .int a1, .int a2] (cPCz (zX) dC dI [(ya, .inr (16, [.ref ms, .int 0, .ref ju, .ref li, .ref ct, .ref tg, .ref fw]))] [] sz)) (fun _ _ _ _ => False) (vx_X (fun (_ : Unit) => True) (fun (E9 : String) (_ : Unit) (_ : State) => E9 = "java/lang/IndexOutOfBoundsException") (va_A [(ya, .inr (16, [.ref ms, .int 0, .ref ju, .ref li, .ref ct, .ref tg, .ref fw]))] sz)) 1 6 (va_A [(ya, .inr (16, [.ref ms, .int 0, .ref ju, .ref li, .ref ct, .ref tg, .ref fw]))] sz) := by
  refine vx_ofW (cc := cX11_run) (maxL := 4) (ret := (some .int)) (by decide) rfl ?_
  intro p e s m args below meth c s₁ B hml hxt hv
  obtain ⟨rfl, ⟨hsz, hP, hK, hD0, hN⟩, hZ⟩ := hv
  have hx := B.exec
  have hb := B.bytes
  have hr := B.returns
  have hts := atoms_spec (ws := wsX11_run) B.pre
  have hown : s.vm.findClass RX11 = some m.cls := findClass_of_methodNamed B.named
  have hlocks := B.notSynchronized
  subst hsz
  have hD := hD0.self (sz := s.heap.size)
  generalize hAe : va_A [(ya, .inr (16, [.ref ms, .int 0, .ref ju, .ref li, .ref ct, .ref tg, .ref fw]))] s.heap.size = A at hD hZ ⊢
  have hA : ∀ q : Nat, s.heap.size ≤ q → A q := fun q h => by rw [← hAe]; exact Or.inr h
  have hS : va_S A s.heap s.heap [] := va_S.rf
  have hP : va_P (dC, dI) vwCl [(ya, .inr (16, [.ref ms, .int 0, .ref ju, .ref li, .ref ct, .ref tg, .ref fw]))] s.heap := hP
  have hD : va_D A [(ya, .inr (16, [.ref ms, .int 0, .ref ju, .ref li, .ref ct, .ref tg, .ref fw]))] := hD
  have hl := lv_entry ([.ref ya, .int a1, .int a2]) (n := 4) (Nat.le_of_ble_eq_true rfl)
  rw [lg_entry_eq]
  generalize (lg_sl ([.ref ya, .int a1, .int a2]) ++ List.replicate (4 - (lg_sl ([.ref ya, .int a1, .int a2])).length) Slot.unset).toArray = ls at hl ⊢
  have hl : lv_has ls 4 [(0, .ref ya), (1, .int a1), (2, .int a2)] := hl
  have iWX5 : ∀ w ∈ u_ws RX5 TX5 11, w ∈ wsX11_run := by decide +kernel
  have iWX7 : ∀ w ∈ u_ws RX7 TX7 7, w ∈ wsX11_run := by decide +kernel
  refine lv_aload_n hx hb dX11_run_0 rfl (lv_at hl 0 rfl) ?_
  refine lv_iload_n hx hb dX11_run_1 rfl (lv_at hl 1 rfl) ?_
  have hPc := hP.sub (ws' := [(ya, .inr (16, [.ref ms, .int 0, .ref ju, .ref li, .ref ct, .ref tg, .ref fw]))]) [0] rfl
  have hDc := hD.sub (ws' := [(ya, .inr (16, [.ref ms, .int 0, .ref ju, .ref li, .ref ct, .ref tg, .ref fw]))]) [0] (by decide) rfl
  have hKc := hK.sub (tys' := []) [] rfl
  have hFc := va_free (wc := [(ya, .inr (16, [.ref ms, .int 0, .ref ju, .ref li, .ref ct, .ref tg, .ref fw]))]) hD hS hA [0] rfl
  exact vx_callX (vx_runV (As := [.int a1]) (rest := []) ⟨hx, hb, hml, hown, hts⟩ (c_X11_known l hfl dC dI ya ms ju li ct tg fw a1 s.heap.size) (cwV 1 hts gX11_run_X11_known rfl rfl rfl (by decide +kernel) ⟨Nat.le_of_ble_eq_true rfl, Nat.le_of_ble_eq_true rfl⟩) (pcVz (zX_ok) hPc hDc hKc hN hZ hS hFc (ci := 16) (q0 := 0) rfl rfl) rfl rfl hl.1 rfl (lv_room (Nat.le_of_ble_eq_true rfl)) dX11_run_2 ⟨Nat.le_of_ble_eq_true rfl, Nat.le_of_ble_eq_true rfl⟩) hS hFc (fun q _ h => hFc q h) (fun _ _ _ h => h) (fun E9 ce9 q9 u9 t9 H9 locs9 ht9 hvm9 hp9 hE9 hz9 hk9 hS9 hc9 hv9 hcl9 => vx_out (fun x h => (hxt x h).elim) hlocks hc9 hv9 hcl9 (fun t1 ht1 ha1 => ⟨(), trivial, hE9, hS9.F ht1⟩) hS9.2.2 (Nat.le_of_ble_eq_true rfl) (Nat.le_of_ble_eq_true rfl))

set_option maxHeartbeats 4000000 in
set_option maxRecDepth 100000 in
/-- X11_hasHalted -/
theorem c_X11_hasHalted (l : Launch) (hfl : l.stackTraces = false) (dC : Nat → ClassId) (dI : Nat → Nat → Nat) (ya ms ju li ct tg fw : Nat) (a1 : Int32) (sz : Nat) : vx_Met l yX11_hasHalted wsX11_hasHalted ({ frames := 7, cells := 1, slots := 6, locals := 122 }) (va_Pc [.ref ya, .int a1] (cPCz (zX) dC dI [(ya, .inr (16, [.ref ms, .int 0, .ref ju, .ref li, .ref ct, .ref tg, .ref fw]))] [] sz)) (fun _ _ _ _ => False) (vx_X (fun (_ : Unit) => True) (fun (E9 : String) (_ : Unit) (_ : State) => E9 = "java/lang/IndexOutOfBoundsException") (va_A [(ya, .inr (16, [.ref ms, .int 0, .ref ju, .ref li, .ref ct, .ref tg, .ref fw]))] sz)) 1 6 (va_A [(ya, .inr (16, [.ref ms, .int 0, .ref ju, .ref li, .ref ct, .ref tg, .ref fw]))] sz) := by
  refine vx_ofW (cc := cX11_hasHalted) (maxL := 3) (ret := (some .boolean)) (by decide) rfl ?_
  intro p e s m args below meth c s₁ B hml hxt hv
  obtain ⟨rfl, ⟨hsz, hP, hK, hD0, hN⟩, hZ⟩ := hv
  have hx := B.exec
  have hb := B.bytes
  have hr := B.returns
  have hts := atoms_spec (ws := wsX11_hasHalted) B.pre
  have hown : s.vm.findClass RX11 = some m.cls := findClass_of_methodNamed B.named
  have hlocks := B.notSynchronized
  subst hsz
  have hD := hD0.self (sz := s.heap.size)
  generalize hAe : va_A [(ya, .inr (16, [.ref ms, .int 0, .ref ju, .ref li, .ref ct, .ref tg, .ref fw]))] s.heap.size = A at hD hZ ⊢
  have hA : ∀ q : Nat, s.heap.size ≤ q → A q := fun q h => by rw [← hAe]; exact Or.inr h
  have hS : va_S A s.heap s.heap [] := va_S.rf
  have hP : va_P (dC, dI) vwCl [(ya, .inr (16, [.ref ms, .int 0, .ref ju, .ref li, .ref ct, .ref tg, .ref fw]))] s.heap := hP
  have hD : va_D A [(ya, .inr (16, [.ref ms, .int 0, .ref ju, .ref li, .ref ct, .ref tg, .ref fw]))] := hD
  have hl := lv_entry ([.ref ya, .int a1]) (n := 3) (Nat.le_of_ble_eq_true rfl)
  rw [lg_entry_eq]
  generalize (lg_sl ([.ref ya, .int a1]) ++ List.replicate (3 - (lg_sl ([.ref ya, .int a1])).length) Slot.unset).toArray = ls at hl ⊢
  have hl : lv_has ls 3 [(0, .ref ya), (1, .int a1)] := hl
  have iWX5 : ∀ w ∈ u_ws RX5 TX5 11, w ∈ wsX11_hasHalted := by decide +kernel
  refine lv_aload_n hx hb dX11_hasHalted_0 rfl (lv_at hl 0 rfl) ?_
  refine lv_iload_n hx hb dX11_hasHalted_1 rfl (lv_at hl 1 rfl) ?_
  have hPc := hP.sub (ws' := [(ya, .inr (16, [.ref ms, .int 0, .ref ju, .ref li, .ref ct, .ref tg, .ref fw]))]) [0] rfl
  have hDc := hD.sub (ws' := [(ya, .inr (16, [.ref ms, .int 0, .ref ju, .ref li, .ref ct, .ref tg, .ref fw]))]) [0] (by decide) rfl
  have hKc := hK.sub (tys' := []) [] rfl
  have hFc := va_free (wc := [(ya, .inr (16, [.ref ms, .int 0, .ref ju, .ref li, .ref ct, .ref tg, .ref fw]))]) hD hS hA [0] rfl
  exact vx_callX (vx_runV (As := [.int a1]) (rest := []) ⟨hx, hb, hml, hown, hts⟩ (c_X11_known l hfl dC dI ya ms ju li ct tg fw a1 s.heap.size) (cwV 1 hts gX11_hasHalted_X11_known rfl rfl rfl (by decide +kernel) ⟨Nat.le_of_ble_eq_true rfl, Nat.le_of_ble_eq_true rfl⟩) (pcVz (zX_ok) hPc hDc hKc hN hZ hS hFc (ci := 16) (q0 := 0) rfl rfl) rfl rfl hl.1 rfl (lv_room (Nat.le_of_ble_eq_true rfl)) dX11_hasHalted_2 ⟨Nat.le_of_ble_eq_true rfl, Nat.le_of_ble_eq_true rfl⟩) hS hFc (fun q _ h => hFc q h) (fun _ _ _ h => h) (fun E9 ce9 q9 u9 t9 H9 locs9 ht9 hvm9 hp9 hE9 hz9 hk9 hS9 hc9 hv9 hcl9 => vx_out (fun x h => (hxt x h).elim) hlocks hc9 hv9 hcl9 (fun t1 ht1 ha1 => ⟨(), trivial, hE9, hS9.F ht1⟩) hS9.2.2 (Nat.le_of_ble_eq_true rfl) (Nat.le_of_ble_eq_true rfl))

set_option maxHeartbeats 4000000 in
set_option maxRecDepth 100000 in
/-- X11_ran -/
theorem c_X11_ran (l : Launch) (hfl : l.stackTraces = false) (dC : Nat → ClassId) (dI : Nat → Nat → Nat) (ya ms ju li ct tg fw : Nat) (a1 a2 : Int32) (sz : Nat) : vx_Met l yX11_ran wsX11_ran ({ frames := 7, cells := 1, slots := 6, locals := 122 }) (va_Pc [.ref ya, .int a1, .int a2] (cPCz (zX) dC dI [(ya, .inr (16, [.ref ms, .int 0, .ref ju, .ref li, .ref ct, .ref tg, .ref fw]))] [] sz)) (fun _ _ _ _ => False) (vx_X (fun (_ : Unit) => True) (fun (E9 : String) (_ : Unit) (_ : State) => E9 = "java/lang/IndexOutOfBoundsException") (va_A [(ya, .inr (16, [.ref ms, .int 0, .ref ju, .ref li, .ref ct, .ref tg, .ref fw]))] sz)) 1 6 (va_A [(ya, .inr (16, [.ref ms, .int 0, .ref ju, .ref li, .ref ct, .ref tg, .ref fw]))] sz) := by
  refine vx_ofW (cc := cX11_ran) (maxL := 4) (ret := (some .int)) (by decide) rfl ?_
  intro p e s m args below meth c s₁ B hml hxt hv
  obtain ⟨rfl, ⟨hsz, hP, hK, hD0, hN⟩, hZ⟩ := hv
  have hx := B.exec
  have hb := B.bytes
  have hr := B.returns
  have hts := atoms_spec (ws := wsX11_ran) B.pre
  have hown : s.vm.findClass RX11 = some m.cls := findClass_of_methodNamed B.named
  have hlocks := B.notSynchronized
  subst hsz
  have hD := hD0.self (sz := s.heap.size)
  generalize hAe : va_A [(ya, .inr (16, [.ref ms, .int 0, .ref ju, .ref li, .ref ct, .ref tg, .ref fw]))] s.heap.size = A at hD hZ ⊢
  have hA : ∀ q : Nat, s.heap.size ≤ q → A q := fun q h => by rw [← hAe]; exact Or.inr h
  have hS : va_S A s.heap s.heap [] := va_S.rf
  have hP : va_P (dC, dI) vwCl [(ya, .inr (16, [.ref ms, .int 0, .ref ju, .ref li, .ref ct, .ref tg, .ref fw]))] s.heap := hP
  have hD : va_D A [(ya, .inr (16, [.ref ms, .int 0, .ref ju, .ref li, .ref ct, .ref tg, .ref fw]))] := hD
  have hl := lv_entry ([.ref ya, .int a1, .int a2]) (n := 4) (Nat.le_of_ble_eq_true rfl)
  rw [lg_entry_eq]
  generalize (lg_sl ([.ref ya, .int a1, .int a2]) ++ List.replicate (4 - (lg_sl ([.ref ya, .int a1, .int a2])).length) Slot.unset).toArray = ls at hl ⊢
  have hl : lv_has ls 4 [(0, .ref ya), (1, .int a1), (2, .int a2)] := hl
  have iWX5 : ∀ w ∈ u_ws RX5 TX5 11, w ∈ wsX11_ran := by decide +kernel
  refine lv_aload_n hx hb dX11_ran_0 rfl (lv_at hl 0 rfl) ?_
  refine lv_iload_n hx hb dX11_ran_1 rfl (lv_at hl 1 rfl) ?_
  have hPc := hP.sub (ws' := [(ya, .inr (16, [.ref ms, .int 0, .ref ju, .ref li, .ref ct, .ref tg, .ref fw]))]) [0] rfl
  have hDc := hD.sub (ws' := [(ya, .inr (16, [.ref ms, .int 0, .ref ju, .ref li, .ref ct, .ref tg, .ref fw]))]) [0] (by decide) rfl
  have hKc := hK.sub (tys' := []) [] rfl
  have hFc := va_free (wc := [(ya, .inr (16, [.ref ms, .int 0, .ref ju, .ref li, .ref ct, .ref tg, .ref fw]))]) hD hS hA [0] rfl
  exact vx_callX (vx_runV (As := [.int a1]) (rest := []) ⟨hx, hb, hml, hown, hts⟩ (c_X11_known l hfl dC dI ya ms ju li ct tg fw a1 s.heap.size) (cwV 1 hts gX11_ran_X11_known rfl rfl rfl (by decide +kernel) ⟨Nat.le_of_ble_eq_true rfl, Nat.le_of_ble_eq_true rfl⟩) (pcVz (zX_ok) hPc hDc hKc hN hZ hS hFc (ci := 16) (q0 := 0) rfl rfl) rfl rfl hl.1 rfl (lv_room (Nat.le_of_ble_eq_true rfl)) dX11_ran_2 ⟨Nat.le_of_ble_eq_true rfl, Nat.le_of_ble_eq_true rfl⟩) hS hFc (fun q _ h => hFc q h) (fun _ _ _ h => h) (fun E9 ce9 q9 u9 t9 H9 locs9 ht9 hvm9 hp9 hE9 hz9 hk9 hS9 hc9 hv9 hcl9 => vx_out (fun x h => (hxt x h).elim) hlocks hc9 hv9 hcl9 (fun t1 ht1 ha1 => ⟨(), trivial, hE9, hS9.F ht1⟩) hS9.2.2 (Nat.le_of_ble_eq_true rfl) (Nat.le_of_ble_eq_true rfl))

set_option maxHeartbeats 4000000 in
set_option maxRecDepth 100000 in
/-- X11_signAt -/
theorem c_X11_signAt (l : Launch) (hfl : l.stackTraces = false) (dC : Nat → ClassId) (dI : Nat → Nat → Nat) (ya ms ju li ct tg fw : Nat) (a1 a2 : Int32) (sz : Nat) : vx_Met l yX11_signAt wsX11_signAt ({ frames := 7, cells := 1, slots := 6, locals := 122 }) (va_Pc [.ref ya, .int a1, .int a2] (cPCz (zX) dC dI [(ya, .inr (16, [.ref ms, .int 0, .ref ju, .ref li, .ref ct, .ref tg, .ref fw]))] [] sz)) (fun _ _ _ _ => False) (vx_X (fun (_ : Unit) => True) (fun (E9 : String) (_ : Unit) (_ : State) => E9 = "java/lang/IndexOutOfBoundsException") (va_A [(ya, .inr (16, [.ref ms, .int 0, .ref ju, .ref li, .ref ct, .ref tg, .ref fw]))] sz)) 1 6 (va_A [(ya, .inr (16, [.ref ms, .int 0, .ref ju, .ref li, .ref ct, .ref tg, .ref fw]))] sz) := by
  refine vx_ofW (cc := cX11_signAt) (maxL := 4) (ret := (some .int)) (by decide) rfl ?_
  intro p e s m args below meth c s₁ B hml hxt hv
  obtain ⟨rfl, ⟨hsz, hP, hK, hD0, hN⟩, hZ⟩ := hv
  have hx := B.exec
  have hb := B.bytes
  have hr := B.returns
  have hts := atoms_spec (ws := wsX11_signAt) B.pre
  have hown : s.vm.findClass RX11 = some m.cls := findClass_of_methodNamed B.named
  have hlocks := B.notSynchronized
  subst hsz
  have hD := hD0.self (sz := s.heap.size)
  generalize hAe : va_A [(ya, .inr (16, [.ref ms, .int 0, .ref ju, .ref li, .ref ct, .ref tg, .ref fw]))] s.heap.size = A at hD hZ ⊢
  have hA : ∀ q : Nat, s.heap.size ≤ q → A q := fun q h => by rw [← hAe]; exact Or.inr h
  have hS : va_S A s.heap s.heap [] := va_S.rf
  have hP : va_P (dC, dI) vwCl [(ya, .inr (16, [.ref ms, .int 0, .ref ju, .ref li, .ref ct, .ref tg, .ref fw]))] s.heap := hP
  have hD : va_D A [(ya, .inr (16, [.ref ms, .int 0, .ref ju, .ref li, .ref ct, .ref tg, .ref fw]))] := hD
  have hl := lv_entry ([.ref ya, .int a1, .int a2]) (n := 4) (Nat.le_of_ble_eq_true rfl)
  rw [lg_entry_eq]
  generalize (lg_sl ([.ref ya, .int a1, .int a2]) ++ List.replicate (4 - (lg_sl ([.ref ya, .int a1, .int a2])).length) Slot.unset).toArray = ls at hl ⊢
  have hl : lv_has ls 4 [(0, .ref ya), (1, .int a1), (2, .int a2)] := hl
  have iWX5 : ∀ w ∈ u_ws RX5 TX5 11, w ∈ wsX11_signAt := by decide +kernel
  refine lv_aload_n hx hb dX11_signAt_0 rfl (lv_at hl 0 rfl) ?_
  refine lv_iload_n hx hb dX11_signAt_1 rfl (lv_at hl 1 rfl) ?_
  have hPc := hP.sub (ws' := [(ya, .inr (16, [.ref ms, .int 0, .ref ju, .ref li, .ref ct, .ref tg, .ref fw]))]) [0] rfl
  have hDc := hD.sub (ws' := [(ya, .inr (16, [.ref ms, .int 0, .ref ju, .ref li, .ref ct, .ref tg, .ref fw]))]) [0] (by decide) rfl
  have hKc := hK.sub (tys' := []) [] rfl
  have hFc := va_free (wc := [(ya, .inr (16, [.ref ms, .int 0, .ref ju, .ref li, .ref ct, .ref tg, .ref fw]))]) hD hS hA [0] rfl
  exact vx_callX (vx_runV (As := [.int a1]) (rest := []) ⟨hx, hb, hml, hown, hts⟩ (c_X11_known l hfl dC dI ya ms ju li ct tg fw a1 s.heap.size) (cwV 1 hts gX11_signAt_X11_known rfl rfl rfl (by decide +kernel) ⟨Nat.le_of_ble_eq_true rfl, Nat.le_of_ble_eq_true rfl⟩) (pcVz (zX_ok) hPc hDc hKc hN hZ hS hFc (ci := 16) (q0 := 0) rfl rfl) rfl rfl hl.1 rfl (lv_room (Nat.le_of_ble_eq_true rfl)) dX11_signAt_2 ⟨Nat.le_of_ble_eq_true rfl, Nat.le_of_ble_eq_true rfl⟩) hS hFc (fun q _ h => hFc q h) (fun _ _ _ h => h) (fun E9 ce9 q9 u9 t9 H9 locs9 ht9 hvm9 hp9 hE9 hz9 hk9 hS9 hc9 hv9 hcl9 => vx_out (fun x h => (hxt x h).elim) hlocks hc9 hv9 hcl9 (fun t1 ht1 ha1 => ⟨(), trivial, hE9, hS9.F ht1⟩) hS9.2.2 (Nat.le_of_ble_eq_true rfl) (Nat.le_of_ble_eq_true rfl))

set_option maxHeartbeats 4000000 in
set_option maxRecDepth 100000 in
/-- X11_print -/
theorem c_X11_print (l : Launch) (hfl : l.stackTraces = false) (dC : Nat → ClassId) (dI : Nat → Nat → Nat) (ya ms ju li ct tg fw : Nat) (a1 : Int32) (sz : Nat) : vx_Met l yX11_print wsX11_print ({ frames := 7, cells := 1, slots := 6, locals := 122 }) (va_Pc [.ref ya, .int a1] (cPCz (zX) dC dI [(ya, .inr (16, [.ref ms, .int 0, .ref ju, .ref li, .ref ct, .ref tg, .ref fw]))] [] sz)) (fun _ _ _ _ => False) (vx_X (fun (_ : Unit) => True) (fun (E9 : String) (_ : Unit) (_ : State) => E9 = "java/lang/IndexOutOfBoundsException") (va_A [(ya, .inr (16, [.ref ms, .int 0, .ref ju, .ref li, .ref ct, .ref tg, .ref fw]))] sz)) 1 6 (va_A [(ya, .inr (16, [.ref ms, .int 0, .ref ju, .ref li, .ref ct, .ref tg, .ref fw]))] sz) := by
  refine vx_ofW (cc := cX11_print) (maxL := 3) (ret := (some .long)) (by decide) rfl ?_
  intro p e s m args below meth c s₁ B hml hxt hv
  obtain ⟨rfl, ⟨hsz, hP, hK, hD0, hN⟩, hZ⟩ := hv
  have hx := B.exec
  have hb := B.bytes
  have hr := B.returns
  have hts := atoms_spec (ws := wsX11_print) B.pre
  have hown : s.vm.findClass RX11 = some m.cls := findClass_of_methodNamed B.named
  have hlocks := B.notSynchronized
  subst hsz
  have hD := hD0.self (sz := s.heap.size)
  generalize hAe : va_A [(ya, .inr (16, [.ref ms, .int 0, .ref ju, .ref li, .ref ct, .ref tg, .ref fw]))] s.heap.size = A at hD hZ ⊢
  have hA : ∀ q : Nat, s.heap.size ≤ q → A q := fun q h => by rw [← hAe]; exact Or.inr h
  have hS : va_S A s.heap s.heap [] := va_S.rf
  have hP : va_P (dC, dI) vwCl [(ya, .inr (16, [.ref ms, .int 0, .ref ju, .ref li, .ref ct, .ref tg, .ref fw]))] s.heap := hP
  have hD : va_D A [(ya, .inr (16, [.ref ms, .int 0, .ref ju, .ref li, .ref ct, .ref tg, .ref fw]))] := hD
  have hl := lv_entry ([.ref ya, .int a1]) (n := 3) (Nat.le_of_ble_eq_true rfl)
  rw [lg_entry_eq]
  generalize (lg_sl ([.ref ya, .int a1]) ++ List.replicate (3 - (lg_sl ([.ref ya, .int a1])).length) Slot.unset).toArray = ls at hl ⊢
  have hl : lv_has ls 3 [(0, .ref ya), (1, .int a1)] := hl
  have iWX5 : ∀ w ∈ u_ws RX5 TX5 11, w ∈ wsX11_print := by decide +kernel
  refine lv_aload_n hx hb dX11_print_0 rfl (lv_at hl 0 rfl) ?_
  refine lv_iload_n hx hb dX11_print_1 rfl (lv_at hl 1 rfl) ?_
  have hPc := hP.sub (ws' := [(ya, .inr (16, [.ref ms, .int 0, .ref ju, .ref li, .ref ct, .ref tg, .ref fw]))]) [0] rfl
  have hDc := hD.sub (ws' := [(ya, .inr (16, [.ref ms, .int 0, .ref ju, .ref li, .ref ct, .ref tg, .ref fw]))]) [0] (by decide) rfl
  have hKc := hK.sub (tys' := []) [] rfl
  have hFc := va_free (wc := [(ya, .inr (16, [.ref ms, .int 0, .ref ju, .ref li, .ref ct, .ref tg, .ref fw]))]) hD hS hA [0] rfl
  exact vx_callX (vx_runV (As := [.int a1]) (rest := []) ⟨hx, hb, hml, hown, hts⟩ (c_X11_known l hfl dC dI ya ms ju li ct tg fw a1 s.heap.size) (cwV 1 hts gX11_print_X11_known rfl rfl rfl (by decide +kernel) ⟨Nat.le_of_ble_eq_true rfl, Nat.le_of_ble_eq_true rfl⟩) (pcVz (zX_ok) hPc hDc hKc hN hZ hS hFc (ci := 16) (q0 := 0) rfl rfl) rfl rfl hl.1 rfl (lv_room (Nat.le_of_ble_eq_true rfl)) dX11_print_2 ⟨Nat.le_of_ble_eq_true rfl, Nat.le_of_ble_eq_true rfl⟩) hS hFc (fun q _ h => hFc q h) (fun _ _ _ h => h) (fun E9 ce9 q9 u9 t9 H9 locs9 ht9 hvm9 hp9 hE9 hz9 hk9 hS9 hc9 hv9 hcl9 => vx_out (fun x h => (hxt x h).elim) hlocks hc9 hv9 hcl9 (fun t1 ht1 ha1 => ⟨(), trivial, hE9, hS9.F ht1⟩) hS9.2.2 (Nat.le_of_ble_eq_true rfl) (Nat.le_of_ble_eq_true rfl))

set_option maxHeartbeats 4000000 in
set_option maxRecDepth 100000 in
/-- X11_printByRuns -/
theorem c_X11_printByRuns (l : Launch) (hfl : l.stackTraces = false) (dC : Nat → ClassId) (dI : Nat → Nat → Nat) (ya ms ju li ct tg fw : Nat) (a1 a2 : Int32) (sz : Nat) : vx_Met l yX11_printByRuns wsX11_printByRuns ({ frames := 7, cells := 1, slots := 6, locals := 122 }) (va_Pc [.ref ya, .int a1, .int a2] (cPCz (zX) dC dI [(ya, .inr (16, [.ref ms, .int 0, .ref ju, .ref li, .ref ct, .ref tg, .ref fw]))] [] sz)) (fun _ _ _ _ => False) (vx_X (fun (_ : Unit) => True) (fun (E9 : String) (_ : Unit) (_ : State) => E9 = "java/lang/IndexOutOfBoundsException") (va_A [(ya, .inr (16, [.ref ms, .int 0, .ref ju, .ref li, .ref ct, .ref tg, .ref fw]))] sz)) 1 6 (va_A [(ya, .inr (16, [.ref ms, .int 0, .ref ju, .ref li, .ref ct, .ref tg, .ref fw]))] sz) := by
  refine vx_ofW (cc := cX11_printByRuns) (maxL := 4) (ret := (some .long)) (by decide) rfl ?_
  intro p e s m args below meth c s₁ B hml hxt hv
  obtain ⟨rfl, ⟨hsz, hP, hK, hD0, hN⟩, hZ⟩ := hv
  have hx := B.exec
  have hb := B.bytes
  have hr := B.returns
  have hts := atoms_spec (ws := wsX11_printByRuns) B.pre
  have hown : s.vm.findClass RX11 = some m.cls := findClass_of_methodNamed B.named
  have hlocks := B.notSynchronized
  subst hsz
  have hD := hD0.self (sz := s.heap.size)
  generalize hAe : va_A [(ya, .inr (16, [.ref ms, .int 0, .ref ju, .ref li, .ref ct, .ref tg, .ref fw]))] s.heap.size = A at hD hZ ⊢
  have hA : ∀ q : Nat, s.heap.size ≤ q → A q := fun q h => by rw [← hAe]; exact Or.inr h
  have hS : va_S A s.heap s.heap [] := va_S.rf
  have hP : va_P (dC, dI) vwCl [(ya, .inr (16, [.ref ms, .int 0, .ref ju, .ref li, .ref ct, .ref tg, .ref fw]))] s.heap := hP
  have hD : va_D A [(ya, .inr (16, [.ref ms, .int 0, .ref ju, .ref li, .ref ct, .ref tg, .ref fw]))] := hD
  have hl := lv_entry ([.ref ya, .int a1, .int a2]) (n := 4) (Nat.le_of_ble_eq_true rfl)
  rw [lg_entry_eq]
  generalize (lg_sl ([.ref ya, .int a1, .int a2]) ++ List.replicate (4 - (lg_sl ([.ref ya, .int a1, .int a2])).length) Slot.unset).toArray = ls at hl ⊢
  have hl : lv_has ls 4 [(0, .ref ya), (1, .int a1), (2, .int a2)] := hl
  have iWX11 : ∀ w ∈ u_ws RX11 TX11 7, w ∈ wsX11_printByRuns := by decide +kernel
  refine lv_aload_n hx hb dX11_printByRuns_0 rfl (lv_at hl 0 rfl) ?_
  refine lv_iload_n hx hb dX11_printByRuns_1 rfl (lv_at hl 1 rfl) ?_
  have hPc := hP.sub (ws' := [(ya, .inr (16, [.ref ms, .int 0, .ref ju, .ref li, .ref ct, .ref tg, .ref fw]))]) [0] rfl
  have hDc := hD.sub (ws' := [(ya, .inr (16, [.ref ms, .int 0, .ref ju, .ref li, .ref ct, .ref tg, .ref fw]))]) [0] (by decide) rfl
  have hKc := hK.sub (tys' := []) [] rfl
  have hFc := va_free (wc := [(ya, .inr (16, [.ref ms, .int 0, .ref ju, .ref li, .ref ct, .ref tg, .ref fw]))]) hD hS hA [0] rfl
  exact vx_callX (vx_runV (As := [.int a1]) (rest := []) ⟨hx, hb, hml, hown, hts⟩ (c_X11_known l hfl dC dI ya ms ju li ct tg fw a1 s.heap.size) (cwV 1 hts gX11_printByRuns_X11_known rfl rfl rfl (by decide +kernel) ⟨Nat.le_of_ble_eq_true rfl, Nat.le_of_ble_eq_true rfl⟩) (pcVz (zX_ok) hPc hDc hKc hN hZ hS hFc (ci := 16) (q0 := 0) rfl rfl) rfl rfl hl.1 rfl (lv_room (Nat.le_of_ble_eq_true rfl)) dX11_printByRuns_2 ⟨Nat.le_of_ble_eq_true rfl, Nat.le_of_ble_eq_true rfl⟩) hS hFc (fun q _ h => hFc q h) (fun _ _ _ h => h) (fun E9 ce9 q9 u9 t9 H9 locs9 ht9 hvm9 hp9 hE9 hz9 hk9 hS9 hc9 hv9 hcl9 => vx_out (fun x h => (hxt x h).elim) hlocks hc9 hv9 hcl9 (fun t1 ht1 ha1 => ⟨(), trivial, hE9, hS9.F ht1⟩) hS9.2.2 (Nat.le_of_ble_eq_true rfl) (Nat.le_of_ble_eq_true rfl))

set_option maxHeartbeats 4000000 in
set_option maxRecDepth 100000 in
/-- X11_runsOf -/
theorem c_X11_runsOf (l : Launch) (hfl : l.stackTraces = false) (dC : Nat → ClassId) (dI : Nat → Nat → Nat) (ya ms ju li ct tg fw : Nat) (a1 : Int32) (sz : Nat) : vx_Met l yX11_runsOf wsX11_runsOf ({ frames := 7, cells := 1, slots := 6, locals := 122 }) (va_Pc [.ref ya, .int a1] (cPCz (zX) dC dI [(ya, .inr (16, [.ref ms, .int 0, .ref ju, .ref li, .ref ct, .ref tg, .ref fw]))] [] sz)) (fun _ _ _ _ => False) (vx_X (fun (_ : Unit) => True) (fun (E9 : String) (_ : Unit) (_ : State) => E9 = "java/lang/IndexOutOfBoundsException") (va_A [(ya, .inr (16, [.ref ms, .int 0, .ref ju, .ref li, .ref ct, .ref tg, .ref fw]))] sz)) 1 6 (va_A [(ya, .inr (16, [.ref ms, .int 0, .ref ju, .ref li, .ref ct, .ref tg, .ref fw]))] sz) := by
  refine vx_ofW (cc := cX11_runsOf) (maxL := 3) (ret := (some .int)) (by decide) rfl ?_
  intro p e s m args below meth c s₁ B hml hxt hv
  obtain ⟨rfl, ⟨hsz, hP, hK, hD0, hN⟩, hZ⟩ := hv
  have hx := B.exec
  have hb := B.bytes
  have hr := B.returns
  have hts := atoms_spec (ws := wsX11_runsOf) B.pre
  have hown : s.vm.findClass RX11 = some m.cls := findClass_of_methodNamed B.named
  have hlocks := B.notSynchronized
  subst hsz
  have hD := hD0.self (sz := s.heap.size)
  generalize hAe : va_A [(ya, .inr (16, [.ref ms, .int 0, .ref ju, .ref li, .ref ct, .ref tg, .ref fw]))] s.heap.size = A at hD hZ ⊢
  have hA : ∀ q : Nat, s.heap.size ≤ q → A q := fun q h => by rw [← hAe]; exact Or.inr h
  have hS : va_S A s.heap s.heap [] := va_S.rf
  have hP : va_P (dC, dI) vwCl [(ya, .inr (16, [.ref ms, .int 0, .ref ju, .ref li, .ref ct, .ref tg, .ref fw]))] s.heap := hP
  have hD : va_D A [(ya, .inr (16, [.ref ms, .int 0, .ref ju, .ref li, .ref ct, .ref tg, .ref fw]))] := hD
  have hl := lv_entry ([.ref ya, .int a1]) (n := 3) (Nat.le_of_ble_eq_true rfl)
  rw [lg_entry_eq]
  generalize (lg_sl ([.ref ya, .int a1]) ++ List.replicate (3 - (lg_sl ([.ref ya, .int a1])).length) Slot.unset).toArray = ls at hl ⊢
  have hl : lv_has ls 3 [(0, .ref ya), (1, .int a1)] := hl
  have iWX5 : ∀ w ∈ u_ws RX5 TX5 11, w ∈ wsX11_runsOf := by decide +kernel
  refine lv_aload_n hx hb dX11_runsOf_0 rfl (lv_at hl 0 rfl) ?_
  refine lv_iload_n hx hb dX11_runsOf_1 rfl (lv_at hl 1 rfl) ?_
  have hPc := hP.sub (ws' := [(ya, .inr (16, [.ref ms, .int 0, .ref ju, .ref li, .ref ct, .ref tg, .ref fw]))]) [0] rfl
  have hDc := hD.sub (ws' := [(ya, .inr (16, [.ref ms, .int 0, .ref ju, .ref li, .ref ct, .ref tg, .ref fw]))]) [0] (by decide) rfl
  have hKc := hK.sub (tys' := []) [] rfl
  have hFc := va_free (wc := [(ya, .inr (16, [.ref ms, .int 0, .ref ju, .ref li, .ref ct, .ref tg, .ref fw]))]) hD hS hA [0] rfl
  exact vx_callX (vx_runV (As := [.int a1]) (rest := []) ⟨hx, hb, hml, hown, hts⟩ (c_X11_known l hfl dC dI ya ms ju li ct tg fw a1 s.heap.size) (cwV 1 hts gX11_runsOf_X11_known rfl rfl rfl (by decide +kernel) ⟨Nat.le_of_ble_eq_true rfl, Nat.le_of_ble_eq_true rfl⟩) (pcVz (zX_ok) hPc hDc hKc hN hZ hS hFc (ci := 16) (q0 := 0) rfl rfl) rfl rfl hl.1 rfl (lv_room (Nat.le_of_ble_eq_true rfl)) dX11_runsOf_2 ⟨Nat.le_of_ble_eq_true rfl, Nat.le_of_ble_eq_true rfl⟩) hS hFc (fun q _ h => hFc q h) (fun _ _ _ h => h) (fun E9 ce9 q9 u9 t9 H9 locs9 ht9 hvm9 hp9 hE9 hz9 hk9 hS9 hc9 hv9 hcl9 => vx_out (fun x h => (hxt x h).elim) hlocks hc9 hv9 hcl9 (fun t1 ht1 ha1 => ⟨(), trivial, hE9, hS9.F ht1⟩) hS9.2.2 (Nat.le_of_ble_eq_true rfl) (Nat.le_of_ble_eq_true rfl))

set_option maxHeartbeats 4000000 in
set_option maxRecDepth 100000 in
/-- X11_decide -/
theorem c_X11_decide (l : Launch) (hfl : l.stackTraces = false) (dC : Nat → ClassId) (dI : Nat → Nat → Nat) (ya ms ju li ct tg fw : Nat) (a1 a2 a3 : Int32) (sz : Nat) : vx_Met l yX11_decide wsX11_decide ({ frames := 7, cells := 1, slots := 6, locals := 122 }) (va_Pc [.ref ya, .int a1, .int a2, .int a3] (cPCz (zX) dC dI [(ya, .inr (16, [.ref ms, .int 0, .ref ju, .ref li, .ref ct, .ref tg, .ref fw]))] [] sz)) (fun _ _ _ _ => False) (vx_X (fun (_ : Unit) => True) (fun (E9 : String) (_ : Unit) (_ : State) => E9 = "java/lang/IndexOutOfBoundsException") (va_A [(ya, .inr (16, [.ref ms, .int 0, .ref ju, .ref li, .ref ct, .ref tg, .ref fw]))] sz)) 1 6 (va_A [(ya, .inr (16, [.ref ms, .int 0, .ref ju, .ref li, .ref ct, .ref tg, .ref fw]))] sz) := by
  refine vx_ofW (cc := cX11_decide) (maxL := 5) (ret := (some .boolean)) (by decide) rfl ?_
  intro p e s m args below meth c s₁ B hml hxt hv
  obtain ⟨rfl, ⟨hsz, hP, hK, hD0, hN⟩, hZ⟩ := hv
  have hx := B.exec
  have hb := B.bytes
  have hr := B.returns
  have hts := atoms_spec (ws := wsX11_decide) B.pre
  have hown : s.vm.findClass RX11 = some m.cls := findClass_of_methodNamed B.named
  have hlocks := B.notSynchronized
  subst hsz
  have hD := hD0.self (sz := s.heap.size)
  generalize hAe : va_A [(ya, .inr (16, [.ref ms, .int 0, .ref ju, .ref li, .ref ct, .ref tg, .ref fw]))] s.heap.size = A at hD hZ ⊢
  have hA : ∀ q : Nat, s.heap.size ≤ q → A q := fun q h => by rw [← hAe]; exact Or.inr h
  have hS : va_S A s.heap s.heap [] := va_S.rf
  have hP : va_P (dC, dI) vwCl [(ya, .inr (16, [.ref ms, .int 0, .ref ju, .ref li, .ref ct, .ref tg, .ref fw]))] s.heap := hP
  have hD : va_D A [(ya, .inr (16, [.ref ms, .int 0, .ref ju, .ref li, .ref ct, .ref tg, .ref fw]))] := hD
  have hl := lv_entry ([.ref ya, .int a1, .int a2, .int a3]) (n := 5) (Nat.le_of_ble_eq_true rfl)
  rw [lg_entry_eq]
  generalize (lg_sl ([.ref ya, .int a1, .int a2, .int a3]) ++ List.replicate (5 - (lg_sl ([.ref ya, .int a1, .int a2, .int a3])).length) Slot.unset).toArray = ls at hl ⊢
  have hl : lv_has ls 5 [(0, .ref ya), (1, .int a1), (2, .int a2), (3, .int a3)] := hl
  have iWX11 : ∀ w ∈ u_ws RX11 TX11 7, w ∈ wsX11_decide := by decide +kernel
  have iWX5 : ∀ w ∈ u_ws RX5 TX5 11, w ∈ wsX11_decide := by decide +kernel
  refine lv_aload_n hx hb dX11_decide_0 rfl (lv_at hl 0 rfl) ?_
  refine lv_iload_n hx hb dX11_decide_1 rfl (lv_at hl 1 rfl) ?_
  have hPc := hP.sub (ws' := [(ya, .inr (16, [.ref ms, .int 0, .ref ju, .ref li, .ref ct, .ref tg, .ref fw]))]) [0] rfl
  have hDc := hD.sub (ws' := [(ya, .inr (16, [.ref ms, .int 0, .ref ju, .ref li, .ref ct, .ref tg, .ref fw]))]) [0] (by decide) rfl
  have hKc := hK.sub (tys' := []) [] rfl
  have hFc := va_free (wc := [(ya, .inr (16, [.ref ms, .int 0, .ref ju, .ref li, .ref ct, .ref tg, .ref fw]))]) hD hS hA [0] rfl
  exact vx_callX (vx_runV (As := [.int a1]) (rest := []) ⟨hx, hb, hml, hown, hts⟩ (c_X11_known l hfl dC dI ya ms ju li ct tg fw a1 s.heap.size) (cwV 1 hts gX11_decide_X11_known rfl rfl rfl (by decide +kernel) ⟨Nat.le_of_ble_eq_true rfl, Nat.le_of_ble_eq_true rfl⟩) (pcVz (zX_ok) hPc hDc hKc hN hZ hS hFc (ci := 16) (q0 := 0) rfl rfl) rfl rfl hl.1 rfl (lv_room (Nat.le_of_ble_eq_true rfl)) dX11_decide_2 ⟨Nat.le_of_ble_eq_true rfl, Nat.le_of_ble_eq_true rfl⟩) hS hFc (fun q _ h => hFc q h) (fun _ _ _ h => h) (fun E9 ce9 q9 u9 t9 H9 locs9 ht9 hvm9 hp9 hE9 hz9 hk9 hS9 hc9 hv9 hcl9 => vx_out (fun x h => (hxt x h).elim) hlocks hc9 hv9 hcl9 (fun t1 ht1 ha1 => ⟨(), trivial, hE9, hS9.F ht1⟩) hS9.2.2 (Nat.le_of_ble_eq_true rfl) (Nat.le_of_ble_eq_true rfl))

set_option maxHeartbeats 4000000 in
set_option maxRecDepth 100000 in
/-- X11_verdict -/
theorem c_X11_verdict (l : Launch) (hfl : l.stackTraces = false) (dC : Nat → ClassId) (dI : Nat → Nat → Nat) (ya ms ju li ct tg fw : Nat) (a1 : Int32) (sz : Nat) : vx_Met l yX11_verdict wsX11_verdict ({ frames := 7, cells := 1, slots := 6, locals := 122 }) (va_Pc [.ref ya, .int a1] (cPCz (zX) dC dI [(ya, .inr (16, [.ref ms, .int 0, .ref ju, .ref li, .ref ct, .ref tg, .ref fw]))] [] sz)) (fun _ _ _ _ => False) (vx_X (fun (_ : Unit) => True) (fun (E9 : String) (_ : Unit) (_ : State) => E9 = "java/lang/IndexOutOfBoundsException") (va_A [(ya, .inr (16, [.ref ms, .int 0, .ref ju, .ref li, .ref ct, .ref tg, .ref fw]))] sz)) 1 6 (va_A [(ya, .inr (16, [.ref ms, .int 0, .ref ju, .ref li, .ref ct, .ref tg, .ref fw]))] sz) := by
  refine vx_ofW (cc := cX11_verdict) (maxL := 2) (ret := (some .char)) (by decide) rfl ?_
  intro p e s m args below meth c s₁ B hml hxt hv
  obtain ⟨rfl, ⟨hsz, hP, hK, hD0, hN⟩, hZ⟩ := hv
  have hx := B.exec
  have hb := B.bytes
  have hr := B.returns
  have hts := atoms_spec (ws := wsX11_verdict) B.pre
  have hown : s.vm.findClass RX11 = some m.cls := findClass_of_methodNamed B.named
  have hlocks := B.notSynchronized
  subst hsz
  have hD := hD0.self (sz := s.heap.size)
  generalize hAe : va_A [(ya, .inr (16, [.ref ms, .int 0, .ref ju, .ref li, .ref ct, .ref tg, .ref fw]))] s.heap.size = A at hD hZ ⊢
  have hA : ∀ q : Nat, s.heap.size ≤ q → A q := fun q h => by rw [← hAe]; exact Or.inr h
  have hS : va_S A s.heap s.heap [] := va_S.rf
  have hP : va_P (dC, dI) vwCl [(ya, .inr (16, [.ref ms, .int 0, .ref ju, .ref li, .ref ct, .ref tg, .ref fw]))] s.heap := hP
  have hD : va_D A [(ya, .inr (16, [.ref ms, .int 0, .ref ju, .ref li, .ref ct, .ref tg, .ref fw]))] := hD
  have hl := lv_entry ([.ref ya, .int a1]) (n := 2) (Nat.le_of_ble_eq_true rfl)
  rw [lg_entry_eq]
  generalize (lg_sl ([.ref ya, .int a1]) ++ List.replicate (2 - (lg_sl ([.ref ya, .int a1])).length) Slot.unset).toArray = ls at hl ⊢
  have hl : lv_has ls 2 [(0, .ref ya), (1, .int a1)] := hl
  refine lv_aload_n hx hb dX11_verdict_0 rfl (lv_at hl 0 rfl) ?_
  refine lv_iload_n hx hb dX11_verdict_1 rfl (lv_at hl 1 rfl) ?_
  have hPc := hP.sub (ws' := [(ya, .inr (16, [.ref ms, .int 0, .ref ju, .ref li, .ref ct, .ref tg, .ref fw]))]) [0] rfl
  have hDc := hD.sub (ws' := [(ya, .inr (16, [.ref ms, .int 0, .ref ju, .ref li, .ref ct, .ref tg, .ref fw]))]) [0] (by decide) rfl
  have hKc := hK.sub (tys' := []) [] rfl
  have hFc := va_free (wc := [(ya, .inr (16, [.ref ms, .int 0, .ref ju, .ref li, .ref ct, .ref tg, .ref fw]))]) hD hS hA [0] rfl
  exact vx_callX (vx_runV (As := [.int a1]) (rest := []) ⟨hx, hb, hml, hown, hts⟩ (c_X11_known l hfl dC dI ya ms ju li ct tg fw a1 s.heap.size) (cwV 1 hts gX11_verdict_X11_known rfl rfl rfl (by decide +kernel) ⟨Nat.le_of_ble_eq_true rfl, Nat.le_of_ble_eq_true rfl⟩) (pcVz (zX_ok) hPc hDc hKc hN hZ hS hFc (ci := 16) (q0 := 0) rfl rfl) rfl rfl hl.1 rfl (lv_room (Nat.le_of_ble_eq_true rfl)) dX11_verdict_2 ⟨Nat.le_of_ble_eq_true rfl, Nat.le_of_ble_eq_true rfl⟩) hS hFc (fun q _ h => hFc q h) (fun _ _ _ h => h) (fun E9 ce9 q9 u9 t9 H9 locs9 ht9 hvm9 hp9 hE9 hz9 hk9 hS9 hc9 hv9 hcl9 => vx_out (fun x h => (hxt x h).elim) hlocks hc9 hv9 hcl9 (fun t1 ht1 ha1 => ⟨(), trivial, hE9, hS9.F ht1⟩) hS9.2.2 (Nat.le_of_ble_eq_true rfl) (Nat.le_of_ble_eq_true rfl))

set_option maxHeartbeats 4000000 in
set_option maxRecDepth 100000 in
/-- X11_certificate -/
theorem c_X11_certificate (l : Launch) (hfl : l.stackTraces = false) (dC : Nat → ClassId) (dI : Nat → Nat → Nat) (ya ms ju li ct tg fw : Nat) (a1 a2 : Int32) (sz : Nat) : vx_Met l yX11_certificate wsX11_certificate ({ frames := 7, cells := 1, slots := 6, locals := 122 }) (va_Pc [.ref ya, .int a1, .int a2] (cPCz (zX) dC dI [(ya, .inr (16, [.ref ms, .int 0, .ref ju, .ref li, .ref ct, .ref tg, .ref fw]))] [] sz)) (fun _ _ _ _ => False) (vx_X (fun (_ : Unit) => True) (fun (E9 : String) (_ : Unit) (_ : State) => E9 = "java/lang/IndexOutOfBoundsException") (va_A [(ya, .inr (16, [.ref ms, .int 0, .ref ju, .ref li, .ref ct, .ref tg, .ref fw]))] sz)) 1 6 (va_A [(ya, .inr (16, [.ref ms, .int 0, .ref ju, .ref li, .ref ct, .ref tg, .ref fw]))] sz) := by
  refine vx_ofW (cc := cX11_certificate) (maxL := 4) (ret := (some .int)) (by decide) rfl ?_
  intro p e s m args below meth c s₁ B hml hxt hv
  obtain ⟨rfl, ⟨hsz, hP, hK, hD0, hN⟩, hZ⟩ := hv
  have hx := B.exec
  have hb := B.bytes
  have hr := B.returns
  have hts := atoms_spec (ws := wsX11_certificate) B.pre
  have hown : s.vm.findClass RX11 = some m.cls := findClass_of_methodNamed B.named
  have hlocks := B.notSynchronized
  subst hsz
  have hD := hD0.self (sz := s.heap.size)
  generalize hAe : va_A [(ya, .inr (16, [.ref ms, .int 0, .ref ju, .ref li, .ref ct, .ref tg, .ref fw]))] s.heap.size = A at hD hZ ⊢
  have hA : ∀ q : Nat, s.heap.size ≤ q → A q := fun q h => by rw [← hAe]; exact Or.inr h
  have hS : va_S A s.heap s.heap [] := va_S.rf
  have hP : va_P (dC, dI) vwCl [(ya, .inr (16, [.ref ms, .int 0, .ref ju, .ref li, .ref ct, .ref tg, .ref fw]))] s.heap := hP
  have hD : va_D A [(ya, .inr (16, [.ref ms, .int 0, .ref ju, .ref li, .ref ct, .ref tg, .ref fw]))] := hD
  have hl := lv_entry ([.ref ya, .int a1, .int a2]) (n := 4) (Nat.le_of_ble_eq_true rfl)
  rw [lg_entry_eq]
  generalize (lg_sl ([.ref ya, .int a1, .int a2]) ++ List.replicate (4 - (lg_sl ([.ref ya, .int a1, .int a2])).length) Slot.unset).toArray = ls at hl ⊢
  have hl : lv_has ls 4 [(0, .ref ya), (1, .int a1), (2, .int a2)] := hl
  have iWX5 : ∀ w ∈ u_ws RX5 TX5 11, w ∈ wsX11_certificate := by decide +kernel
  refine lv_aload_n hx hb dX11_certificate_0 rfl (lv_at hl 0 rfl) ?_
  refine lv_iload_n hx hb dX11_certificate_1 rfl (lv_at hl 1 rfl) ?_
  have hPc := hP.sub (ws' := [(ya, .inr (16, [.ref ms, .int 0, .ref ju, .ref li, .ref ct, .ref tg, .ref fw]))]) [0] rfl
  have hDc := hD.sub (ws' := [(ya, .inr (16, [.ref ms, .int 0, .ref ju, .ref li, .ref ct, .ref tg, .ref fw]))]) [0] (by decide) rfl
  have hKc := hK.sub (tys' := []) [] rfl
  have hFc := va_free (wc := [(ya, .inr (16, [.ref ms, .int 0, .ref ju, .ref li, .ref ct, .ref tg, .ref fw]))]) hD hS hA [0] rfl
  exact vx_callX (vx_runV (As := [.int a1]) (rest := []) ⟨hx, hb, hml, hown, hts⟩ (c_X11_known l hfl dC dI ya ms ju li ct tg fw a1 s.heap.size) (cwV 1 hts gX11_certificate_X11_known rfl rfl rfl (by decide +kernel) ⟨Nat.le_of_ble_eq_true rfl, Nat.le_of_ble_eq_true rfl⟩) (pcVz (zX_ok) hPc hDc hKc hN hZ hS hFc (ci := 16) (q0 := 0) rfl rfl) rfl rfl hl.1 rfl (lv_room (Nat.le_of_ble_eq_true rfl)) dX11_certificate_2 ⟨Nat.le_of_ble_eq_true rfl, Nat.le_of_ble_eq_true rfl⟩) hS hFc (fun q _ h => hFc q h) (fun _ _ _ h => h) (fun E9 ce9 q9 u9 t9 H9 locs9 ht9 hvm9 hp9 hE9 hz9 hk9 hS9 hc9 hv9 hcl9 => vx_out (fun x h => (hxt x h).elim) hlocks hc9 hv9 hcl9 (fun t1 ht1 ha1 => ⟨(), trivial, hE9, hS9.F ht1⟩) hS9.2.2 (Nat.le_of_ble_eq_true rfl) (Nat.le_of_ble_eq_true rfl))

set_option maxHeartbeats 4000000 in
set_option maxRecDepth 100000 in
/-- X11_forge -/
theorem c_X11_forge (l : Launch) (hfl : l.stackTraces = false) (dC : Nat → ClassId) (dI : Nat → Nat → Nat) (ya ms ju li ct tg fw : Nat) (a1 a2 a3 : Int32) (sz : Nat) : vx_Met l yX11_forge wsX11_forge ({ frames := 7, cells := 1, slots := 6, locals := 122 }) (va_Pc [.ref ya, .int a1, .int a2, .int a3] (cPCz (zX) dC dI [(ya, .inr (16, [.ref ms, .int 0, .ref ju, .ref li, .ref ct, .ref tg, .ref fw]))] [] sz)) (fun _ _ _ _ => False) (vx_X (fun (_ : Unit) => True) (fun (E9 : String) (_ : Unit) (_ : State) => E9 = "java/lang/IndexOutOfBoundsException") (va_A [(ya, .inr (16, [.ref ms, .int 0, .ref ju, .ref li, .ref ct, .ref tg, .ref fw]))] sz)) 1 6 (va_A [(ya, .inr (16, [.ref ms, .int 0, .ref ju, .ref li, .ref ct, .ref tg, .ref fw]))] sz) := by
  refine vx_ofW (cc := cX11_forge) (maxL := 6) (ret := (some .int)) (by decide) rfl ?_
  intro p e s m args below meth c s₁ B hml hxt hv
  obtain ⟨rfl, ⟨hsz, hP, hK, hD0, hN⟩, hZ⟩ := hv
  have hx := B.exec
  have hb := B.bytes
  have hr := B.returns
  have hts := atoms_spec (ws := wsX11_forge) B.pre
  have hown : s.vm.findClass RX11 = some m.cls := findClass_of_methodNamed B.named
  have hlocks := B.notSynchronized
  subst hsz
  have hD := hD0.self (sz := s.heap.size)
  generalize hAe : va_A [(ya, .inr (16, [.ref ms, .int 0, .ref ju, .ref li, .ref ct, .ref tg, .ref fw]))] s.heap.size = A at hD hZ ⊢
  have hA : ∀ q : Nat, s.heap.size ≤ q → A q := fun q h => by rw [← hAe]; exact Or.inr h
  have hS : va_S A s.heap s.heap [] := va_S.rf
  have hP : va_P (dC, dI) vwCl [(ya, .inr (16, [.ref ms, .int 0, .ref ju, .ref li, .ref ct, .ref tg, .ref fw]))] s.heap := hP
  have hD : va_D A [(ya, .inr (16, [.ref ms, .int 0, .ref ju, .ref li, .ref ct, .ref tg, .ref fw]))] := hD
  have hl := lv_entry ([.ref ya, .int a1, .int a2, .int a3]) (n := 6) (Nat.le_of_ble_eq_true rfl)
  rw [lg_entry_eq]
  generalize (lg_sl ([.ref ya, .int a1, .int a2, .int a3]) ++ List.replicate (6 - (lg_sl ([.ref ya, .int a1, .int a2, .int a3])).length) Slot.unset).toArray = ls at hl ⊢
  have hl : lv_has ls 6 [(0, .ref ya), (1, .int a1), (2, .int a2), (3, .int a3)] := hl
  have iWX5 : ∀ w ∈ u_ws RX5 TX5 11, w ∈ wsX11_forge := by decide +kernel
  refine lv_aload_n hx hb dX11_forge_0 rfl (lv_at hl 0 rfl) ?_
  refine lv_iload_n hx hb dX11_forge_1 rfl (lv_at hl 1 rfl) ?_
  have hPc := hP.sub (ws' := [(ya, .inr (16, [.ref ms, .int 0, .ref ju, .ref li, .ref ct, .ref tg, .ref fw]))]) [0] rfl
  have hDc := hD.sub (ws' := [(ya, .inr (16, [.ref ms, .int 0, .ref ju, .ref li, .ref ct, .ref tg, .ref fw]))]) [0] (by decide) rfl
  have hKc := hK.sub (tys' := []) [] rfl
  have hFc := va_free (wc := [(ya, .inr (16, [.ref ms, .int 0, .ref ju, .ref li, .ref ct, .ref tg, .ref fw]))]) hD hS hA [0] rfl
  exact vx_callX (vx_runV (As := [.int a1]) (rest := []) ⟨hx, hb, hml, hown, hts⟩ (c_X11_known l hfl dC dI ya ms ju li ct tg fw a1 s.heap.size) (cwV 1 hts gX11_forge_X11_known rfl rfl rfl (by decide +kernel) ⟨Nat.le_of_ble_eq_true rfl, Nat.le_of_ble_eq_true rfl⟩) (pcVz (zX_ok) hPc hDc hKc hN hZ hS hFc (ci := 16) (q0 := 0) rfl rfl) rfl rfl hl.1 rfl (lv_room (Nat.le_of_ble_eq_true rfl)) dX11_forge_2 ⟨Nat.le_of_ble_eq_true rfl, Nat.le_of_ble_eq_true rfl⟩) hS hFc (fun q _ h => hFc q h) (fun _ _ _ h => h) (fun E9 ce9 q9 u9 t9 H9 locs9 ht9 hvm9 hp9 hE9 hz9 hk9 hS9 hc9 hv9 hcl9 => vx_out (fun x h => (hxt x h).elim) hlocks hc9 hv9 hcl9 (fun t1 ht1 ha1 => ⟨(), trivial, hE9, hS9.F ht1⟩) hS9.2.2 (Nat.le_of_ble_eq_true rfl) (Nat.le_of_ble_eq_true rfl))

set_option maxHeartbeats 4000000 in
set_option maxRecDepth 100000 in
/-- X11_passes -/
theorem c_X11_passes (l : Launch) (hfl : l.stackTraces = false) (dC : Nat → ClassId) (dI : Nat → Nat → Nat) (ya ms ju li ct tg fw : Nat) (a1 : Int32) (sz : Nat) : vx_Met l yX11_passes wsX11_passes ({ frames := 7, cells := 1, slots := 6, locals := 122 }) (va_Pc [.ref ya, .int a1] (cPCz (zX) dC dI [(ya, .inr (16, [.ref ms, .int 0, .ref ju, .ref li, .ref ct, .ref tg, .ref fw]))] [] sz)) (fun _ _ _ _ => False) (vx_X (fun (_ : Unit) => True) (fun (E9 : String) (_ : Unit) (_ : State) => E9 = "java/lang/IndexOutOfBoundsException") (va_A [(ya, .inr (16, [.ref ms, .int 0, .ref ju, .ref li, .ref ct, .ref tg, .ref fw]))] sz)) 1 6 (va_A [(ya, .inr (16, [.ref ms, .int 0, .ref ju, .ref li, .ref ct, .ref tg, .ref fw]))] sz) := by
  refine vx_ofW (cc := cX11_passes) (maxL := 2) (ret := (some .boolean)) (by decide) rfl ?_
  intro p e s m args below meth c s₁ B hml hxt hv
  obtain ⟨rfl, ⟨hsz, hP, hK, hD0, hN⟩, hZ⟩ := hv
  have hx := B.exec
  have hb := B.bytes
  have hr := B.returns
  have hts := atoms_spec (ws := wsX11_passes) B.pre
  have hown : s.vm.findClass RX11 = some m.cls := findClass_of_methodNamed B.named
  have hlocks := B.notSynchronized
  subst hsz
  have hD := hD0.self (sz := s.heap.size)
  generalize hAe : va_A [(ya, .inr (16, [.ref ms, .int 0, .ref ju, .ref li, .ref ct, .ref tg, .ref fw]))] s.heap.size = A at hD hZ ⊢
  have hA : ∀ q : Nat, s.heap.size ≤ q → A q := fun q h => by rw [← hAe]; exact Or.inr h
  have hS : va_S A s.heap s.heap [] := va_S.rf
  have hP : va_P (dC, dI) vwCl [(ya, .inr (16, [.ref ms, .int 0, .ref ju, .ref li, .ref ct, .ref tg, .ref fw]))] s.heap := hP
  have hD : va_D A [(ya, .inr (16, [.ref ms, .int 0, .ref ju, .ref li, .ref ct, .ref tg, .ref fw]))] := hD
  have hl := lv_entry ([.ref ya, .int a1]) (n := 2) (Nat.le_of_ble_eq_true rfl)
  rw [lg_entry_eq]
  generalize (lg_sl ([.ref ya, .int a1]) ++ List.replicate (2 - (lg_sl ([.ref ya, .int a1])).length) Slot.unset).toArray = ls at hl ⊢
  have hl : lv_has ls 2 [(0, .ref ya), (1, .int a1)] := hl
  have iWX11 : ∀ w ∈ u_ws RX11 TX11 7, w ∈ wsX11_passes := by decide +kernel
  refine lv_aload_n hx hb dX11_passes_0 rfl (lv_at hl 0 rfl) ?_
  refine va_get (D := (dC, dI)) (ci := 16) (v := .ref ju) (C := RX11) (T := TX11) (N := 7) hx hb hts iWX11 hown hK hP 0 rfl rfl 2 (by decide) (hts (.fieldLink RX11 22 "Beaverhall" "judge" "LBeaverhall$Judge;") (by decide +kernel)) (fun _ h9 => h9) rfl dX11_passes_1 ?_
  refine lv_aload_n hx hb dX11_passes_4 rfl (lv_at hl 0 rfl) ?_
  refine lv_iload_n hx hb dX11_passes_5 rfl (lv_at hl 1 rfl) ?_
  have hPc := hP.sub (ws' := [(ya, .inr (16, [.ref ms, .int 0, .ref ju, .ref li, .ref ct, .ref tg, .ref fw]))]) [0] rfl
  have hDc := hD.sub (ws' := [(ya, .inr (16, [.ref ms, .int 0, .ref ju, .ref li, .ref ct, .ref tg, .ref fw]))]) [0] (by decide) rfl
  have hKc := hK.sub (tys' := []) [] rfl
  have hFc := va_free (wc := [(ya, .inr (16, [.ref ms, .int 0, .ref ju, .ref li, .ref ct, .ref tg, .ref fw]))]) hD hS hA [0] rfl
  exact vx_callX (vx_runV (As := [.int a1]) (rest := [.ref ju]) ⟨hx, hb, hml, hown, hts⟩ (c_X11_known l hfl dC dI ya ms ju li ct tg fw a1 s.heap.size) (cwV 1 hts gX11_passes_X11_known rfl rfl rfl (by decide +kernel) ⟨Nat.le_of_ble_eq_true rfl, Nat.le_of_ble_eq_true rfl⟩) (pcVz (zX_ok) hPc hDc hKc hN hZ hS hFc (ci := 16) (q0 := 0) rfl rfl) rfl rfl hl.1 rfl (lv_room (Nat.le_of_ble_eq_true rfl)) dX11_passes_6 ⟨Nat.le_of_ble_eq_true rfl, Nat.le_of_ble_eq_true rfl⟩) hS hFc (fun q _ h => hFc q h) (fun _ _ _ h => h) (fun E9 ce9 q9 u9 t9 H9 locs9 ht9 hvm9 hp9 hE9 hz9 hk9 hS9 hc9 hv9 hcl9 => vx_out (fun x h => (hxt x h).elim) hlocks hc9 hv9 hcl9 (fun t1 ht1 ha1 => ⟨(), trivial, hE9, hS9.F ht1⟩) hS9.2.2 (Nat.le_of_ble_eq_true rfl) (Nat.le_of_ble_eq_true rfl))

set_option maxHeartbeats 4000000 in
set_option maxRecDepth 100000 in
/-- X11_ways -/
theorem c_X11_ways (l : Launch) (hfl : l.stackTraces = false) (dC : Nat → ClassId) (dI : Nat → Nat → Nat) (ya ms ju li ct tg fw : Nat) (a1 a2 : Int32) (sz : Nat) : vx_Met l yX11_ways wsX11_ways ({ frames := 7, cells := 1, slots := 6, locals := 122 }) (va_Pc [.ref ya, .int a1, .int a2] (cPCz (zX) dC dI [(ya, .inr (16, [.ref ms, .int 0, .ref ju, .ref li, .ref ct, .ref tg, .ref fw]))] [] sz)) (fun _ _ _ _ => False) (vx_X (fun (_ : Unit) => True) (fun (E9 : String) (_ : Unit) (_ : State) => E9 = "java/lang/IndexOutOfBoundsException") (va_A [(ya, .inr (16, [.ref ms, .int 0, .ref ju, .ref li, .ref ct, .ref tg, .ref fw]))] sz)) 1 6 (va_A [(ya, .inr (16, [.ref ms, .int 0, .ref ju, .ref li, .ref ct, .ref tg, .ref fw]))] sz) := by
  refine vx_ofW (cc := cX11_ways) (maxL := 4) (ret := (some .int)) (by decide) rfl ?_
  intro p e s m args below meth c s₁ B hml hxt hv
  obtain ⟨rfl, ⟨hsz, hP, hK, hD0, hN⟩, hZ⟩ := hv
  have hx := B.exec
  have hb := B.bytes
  have hr := B.returns
  have hts := atoms_spec (ws := wsX11_ways) B.pre
  have hown : s.vm.findClass RX11 = some m.cls := findClass_of_methodNamed B.named
  have hlocks := B.notSynchronized
  subst hsz
  have hD := hD0.self (sz := s.heap.size)
  generalize hAe : va_A [(ya, .inr (16, [.ref ms, .int 0, .ref ju, .ref li, .ref ct, .ref tg, .ref fw]))] s.heap.size = A at hD hZ ⊢
  have hA : ∀ q : Nat, s.heap.size ≤ q → A q := fun q h => by rw [← hAe]; exact Or.inr h
  have hS : va_S A s.heap s.heap [] := va_S.rf
  have hP : va_P (dC, dI) vwCl [(ya, .inr (16, [.ref ms, .int 0, .ref ju, .ref li, .ref ct, .ref tg, .ref fw]))] s.heap := hP
  have hD : va_D A [(ya, .inr (16, [.ref ms, .int 0, .ref ju, .ref li, .ref ct, .ref tg, .ref fw]))] := hD
  have hl := lv_entry ([.ref ya, .int a1, .int a2]) (n := 4) (Nat.le_of_ble_eq_true rfl)
  rw [lg_entry_eq]
  generalize (lg_sl ([.ref ya, .int a1, .int a2]) ++ List.replicate (4 - (lg_sl ([.ref ya, .int a1, .int a2])).length) Slot.unset).toArray = ls at hl ⊢
  have hl : lv_has ls 4 [(0, .ref ya), (1, .int a1), (2, .int a2)] := hl
  have iWX11 : ∀ w ∈ u_ws RX11 TX11 7, w ∈ wsX11_ways := by decide +kernel
  have iWX2 : ∀ w ∈ u_ws RX2 TX2 6, w ∈ wsX11_ways := by decide +kernel
  refine lv_aload_n hx hb dX11_ways_0 rfl (lv_at hl 0 rfl) ?_
  refine lv_iload_n hx hb dX11_ways_1 rfl (lv_at hl 1 rfl) ?_
  have hPc := hP.sub (ws' := [(ya, .inr (16, [.ref ms, .int 0, .ref ju, .ref li, .ref ct, .ref tg, .ref fw]))]) [0] rfl
  have hDc := hD.sub (ws' := [(ya, .inr (16, [.ref ms, .int 0, .ref ju, .ref li, .ref ct, .ref tg, .ref fw]))]) [0] (by decide) rfl
  have hKc := hK.sub (tys' := []) [] rfl
  have hFc := va_free (wc := [(ya, .inr (16, [.ref ms, .int 0, .ref ju, .ref li, .ref ct, .ref tg, .ref fw]))]) hD hS hA [0] rfl
  exact vx_callX (vx_runV (As := [.int a1]) (rest := []) ⟨hx, hb, hml, hown, hts⟩ (c_X11_known l hfl dC dI ya ms ju li ct tg fw a1 s.heap.size) (cwV 1 hts gX11_ways_X11_known rfl rfl rfl (by decide +kernel) ⟨Nat.le_of_ble_eq_true rfl, Nat.le_of_ble_eq_true rfl⟩) (pcVz (zX_ok) hPc hDc hKc hN hZ hS hFc (ci := 16) (q0 := 0) rfl rfl) rfl rfl hl.1 rfl (lv_room (Nat.le_of_ble_eq_true rfl)) dX11_ways_2 ⟨Nat.le_of_ble_eq_true rfl, Nat.le_of_ble_eq_true rfl⟩) hS hFc (fun q _ h => hFc q h) (fun _ _ _ h => h) (fun E9 ce9 q9 u9 t9 H9 locs9 ht9 hvm9 hp9 hE9 hz9 hk9 hS9 hc9 hv9 hcl9 => vx_out (fun x h => (hxt x h).elim) hlocks hc9 hv9 hcl9 (fun t1 ht1 ha1 => ⟨(), trivial, hE9, hS9.F ht1⟩) hS9.2.2 (Nat.le_of_ble_eq_true rfl) (Nat.le_of_ble_eq_true rfl))

set_option maxHeartbeats 4000000 in
set_option maxRecDepth 100000 in
/-- X11_tell -/
theorem c_X11_tell (l : Launch) (hfl : l.stackTraces = false) (dC : Nat → ClassId) (dI : Nat → Nat → Nat) (ya ms ju li ct tg fw : Nat) (a1 a2 a3 : Int32) (sz : Nat) : vx_Met l yX11_tell wsX11_tell ({ frames := 7, cells := 1, slots := 6, locals := 122 }) (va_Pc [.ref ya, .int a1, .int a2, .int a3] (cPCz (zX) dC dI [(ya, .inr (16, [.ref ms, .int 0, .ref ju, .ref li, .ref ct, .ref tg, .ref fw]))] [] sz)) (fun _ _ _ _ => False) (vx_X (fun (_ : Unit) => True) (fun (E9 : String) (_ : Unit) (_ : State) => E9 = "java/lang/IndexOutOfBoundsException") (va_A [(ya, .inr (16, [.ref ms, .int 0, .ref ju, .ref li, .ref ct, .ref tg, .ref fw]))] sz)) 1 6 (va_A [(ya, .inr (16, [.ref ms, .int 0, .ref ju, .ref li, .ref ct, .ref tg, .ref fw]))] sz) := by
  refine vx_ofW (cc := cX11_tell) (maxL := 5) (ret := (some .int)) (by decide) rfl ?_
  intro p e s m args below meth c s₁ B hml hxt hv
  obtain ⟨rfl, ⟨hsz, hP, hK, hD0, hN⟩, hZ⟩ := hv
  have hx := B.exec
  have hb := B.bytes
  have hr := B.returns
  have hts := atoms_spec (ws := wsX11_tell) B.pre
  have hown : s.vm.findClass RX11 = some m.cls := findClass_of_methodNamed B.named
  have hlocks := B.notSynchronized
  subst hsz
  have hD := hD0.self (sz := s.heap.size)
  generalize hAe : va_A [(ya, .inr (16, [.ref ms, .int 0, .ref ju, .ref li, .ref ct, .ref tg, .ref fw]))] s.heap.size = A at hD hZ ⊢
  have hA : ∀ q : Nat, s.heap.size ≤ q → A q := fun q h => by rw [← hAe]; exact Or.inr h
  have hS : va_S A s.heap s.heap [] := va_S.rf
  have hP : va_P (dC, dI) vwCl [(ya, .inr (16, [.ref ms, .int 0, .ref ju, .ref li, .ref ct, .ref tg, .ref fw]))] s.heap := hP
  have hD : va_D A [(ya, .inr (16, [.ref ms, .int 0, .ref ju, .ref li, .ref ct, .ref tg, .ref fw]))] := hD
  have hl := lv_entry ([.ref ya, .int a1, .int a2, .int a3]) (n := 5) (Nat.le_of_ble_eq_true rfl)
  rw [lg_entry_eq]
  generalize (lg_sl ([.ref ya, .int a1, .int a2, .int a3]) ++ List.replicate (5 - (lg_sl ([.ref ya, .int a1, .int a2, .int a3])).length) Slot.unset).toArray = ls at hl ⊢
  have hl : lv_has ls 5 [(0, .ref ya), (1, .int a1), (2, .int a2), (3, .int a3)] := hl
  refine lv_aload_n hx hb dX11_tell_0 rfl (lv_at hl 0 rfl) ?_
  refine lv_iload_n hx hb dX11_tell_1 rfl (lv_at hl 2 rfl) ?_
  have hPc := hP.sub (ws' := [(ya, .inr (16, [.ref ms, .int 0, .ref ju, .ref li, .ref ct, .ref tg, .ref fw]))]) [0] rfl
  have hDc := hD.sub (ws' := [(ya, .inr (16, [.ref ms, .int 0, .ref ju, .ref li, .ref ct, .ref tg, .ref fw]))]) [0] (by decide) rfl
  have hKc := hK.sub (tys' := []) [] rfl
  have hFc := va_free (wc := [(ya, .inr (16, [.ref ms, .int 0, .ref ju, .ref li, .ref ct, .ref tg, .ref fw]))]) hD hS hA [0] rfl
  exact vx_callX (vx_runV (As := [.int a2]) (rest := []) ⟨hx, hb, hml, hown, hts⟩ (c_X11_known l hfl dC dI ya ms ju li ct tg fw a2 s.heap.size) (cwV 1 hts gX11_tell_X11_known rfl rfl rfl (by decide +kernel) ⟨Nat.le_of_ble_eq_true rfl, Nat.le_of_ble_eq_true rfl⟩) (pcVz (zX_ok) hPc hDc hKc hN hZ hS hFc (ci := 16) (q0 := 0) rfl rfl) rfl rfl hl.1 rfl (lv_room (Nat.le_of_ble_eq_true rfl)) dX11_tell_2 ⟨Nat.le_of_ble_eq_true rfl, Nat.le_of_ble_eq_true rfl⟩) hS hFc (fun q _ h => hFc q h) (fun _ _ _ h => h) (fun E9 ce9 q9 u9 t9 H9 locs9 ht9 hvm9 hp9 hE9 hz9 hk9 hS9 hc9 hv9 hcl9 => vx_out (fun x h => (hxt x h).elim) hlocks hc9 hv9 hcl9 (fun t1 ht1 ha1 => ⟨(), trivial, hE9, hS9.F ht1⟩) hS9.2.2 (Nat.le_of_ble_eq_true rfl) (Nat.le_of_ble_eq_true rfl))

set_option maxHeartbeats 4000000 in
set_option maxRecDepth 100000 in
/-- X11_isDisputed -/
theorem c_X11_isDisputed (l : Launch) (hfl : l.stackTraces = false) (dC : Nat → ClassId) (dI : Nat → Nat → Nat) (ya ms ju li ct tg fw : Nat) (a1 : Int32) (sz : Nat) : vx_Met l yX11_isDisputed wsX11_isDisputed ({ frames := 7, cells := 1, slots := 6, locals := 122 }) (va_Pc [.ref ya, .int a1] (cPCz (zX) dC dI [(ya, .inr (16, [.ref ms, .int 0, .ref ju, .ref li, .ref ct, .ref tg, .ref fw]))] [] sz)) (fun _ _ _ _ => False) (vx_X (fun (_ : Unit) => True) (fun (E9 : String) (_ : Unit) (_ : State) => E9 = "java/lang/IndexOutOfBoundsException") (va_A [(ya, .inr (16, [.ref ms, .int 0, .ref ju, .ref li, .ref ct, .ref tg, .ref fw]))] sz)) 1 6 (va_A [(ya, .inr (16, [.ref ms, .int 0, .ref ju, .ref li, .ref ct, .ref tg, .ref fw]))] sz) := by
  refine vx_ofW (cc := cX11_isDisputed) (maxL := 2) (ret := (some .boolean)) (by decide) rfl ?_
  intro p e s m args below meth c s₁ B hml hxt hv
  obtain ⟨rfl, ⟨hsz, hP, hK, hD0, hN⟩, hZ⟩ := hv
  have hx := B.exec
  have hb := B.bytes
  have hr := B.returns
  have hts := atoms_spec (ws := wsX11_isDisputed) B.pre
  have hown : s.vm.findClass RX11 = some m.cls := findClass_of_methodNamed B.named
  have hlocks := B.notSynchronized
  subst hsz
  have hD := hD0.self (sz := s.heap.size)
  generalize hAe : va_A [(ya, .inr (16, [.ref ms, .int 0, .ref ju, .ref li, .ref ct, .ref tg, .ref fw]))] s.heap.size = A at hD hZ ⊢
  have hA : ∀ q : Nat, s.heap.size ≤ q → A q := fun q h => by rw [← hAe]; exact Or.inr h
  have hS : va_S A s.heap s.heap [] := va_S.rf
  have hP : va_P (dC, dI) vwCl [(ya, .inr (16, [.ref ms, .int 0, .ref ju, .ref li, .ref ct, .ref tg, .ref fw]))] s.heap := hP
  have hD : va_D A [(ya, .inr (16, [.ref ms, .int 0, .ref ju, .ref li, .ref ct, .ref tg, .ref fw]))] := hD
  have hl := lv_entry ([.ref ya, .int a1]) (n := 2) (Nat.le_of_ble_eq_true rfl)
  rw [lg_entry_eq]
  generalize (lg_sl ([.ref ya, .int a1]) ++ List.replicate (2 - (lg_sl ([.ref ya, .int a1])).length) Slot.unset).toArray = ls at hl ⊢
  have hl : lv_has ls 2 [(0, .ref ya), (1, .int a1)] := hl
  refine lv_aload_n hx hb dX11_isDisputed_0 rfl (lv_at hl 0 rfl) ?_
  refine lv_iload_n hx hb dX11_isDisputed_1 rfl (lv_at hl 1 rfl) ?_
  have hPc := hP.sub (ws' := [(ya, .inr (16, [.ref ms, .int 0, .ref ju, .ref li, .ref ct, .ref tg, .ref fw]))]) [0] rfl
  have hDc := hD.sub (ws' := [(ya, .inr (16, [.ref ms, .int 0, .ref ju, .ref li, .ref ct, .ref tg, .ref fw]))]) [0] (by decide) rfl
  have hKc := hK.sub (tys' := []) [] rfl
  have hFc := va_free (wc := [(ya, .inr (16, [.ref ms, .int 0, .ref ju, .ref li, .ref ct, .ref tg, .ref fw]))]) hD hS hA [0] rfl
  exact vx_callX (vx_runV (As := [.int a1]) (rest := []) ⟨hx, hb, hml, hown, hts⟩ (c_X11_known l hfl dC dI ya ms ju li ct tg fw a1 s.heap.size) (cwV 1 hts gX11_isDisputed_X11_known rfl rfl rfl (by decide +kernel) ⟨Nat.le_of_ble_eq_true rfl, Nat.le_of_ble_eq_true rfl⟩) (pcVz (zX_ok) hPc hDc hKc hN hZ hS hFc (ci := 16) (q0 := 0) rfl rfl) rfl rfl hl.1 rfl (lv_room (Nat.le_of_ble_eq_true rfl)) dX11_isDisputed_2 ⟨Nat.le_of_ble_eq_true rfl, Nat.le_of_ble_eq_true rfl⟩) hS hFc (fun q _ h => hFc q h) (fun _ _ _ h => h) (fun E9 ce9 q9 u9 t9 H9 locs9 ht9 hvm9 hp9 hE9 hz9 hk9 hS9 hc9 hv9 hcl9 => vx_out (fun x h => (hxt x h).elim) hlocks hc9 hv9 hcl9 (fun t1 ht1 ha1 => ⟨(), trivial, hE9, hS9.F ht1⟩) hS9.2.2 (Nat.le_of_ble_eq_true rfl) (Nat.le_of_ble_eq_true rfl))

set_option maxHeartbeats 4000000 in
set_option maxRecDepth 100000 in
/-- X11_record -/
theorem c_X11_record (l : Launch) (hfl : l.stackTraces = false) (dC : Nat → ClassId) (dI : Nat → Nat → Nat) (ya ms ju li ct tg fw : Nat) (a1 : Int32) (sz : Nat) : vx_Met l yX11_record wsX11_record ({ frames := 7, cells := 2, slots := 12, locals := 120 }) (va_Pc [.ref ya, .int a1] (cPCz (zX) dC dI [(ya, .inr (16, [.ref ms, .int 0, .ref ju, .ref li, .ref ct, .ref tg, .ref fw]))] [] sz)) (fun _ _ _ _ => False) (vx_X (fun (_ : Unit) => True) (fun (E9 : String) (_ : Unit) (_ : State) => (E9 = "java/lang/IllegalArgumentException" ∧ ¬ (a1 = 115 ∨ a1 = 109)) ∨ (E9 = "java/util/NoSuchElementException" ∧ (a1 = 115 ∨ a1 = 109))) (va_A [(ya, .inr (16, [.ref ms, .int 0, .ref ju, .ref li, .ref ct, .ref tg, .ref fw]))] sz)) 2 12 (va_A [(ya, .inr (16, [.ref ms, .int 0, .ref ju, .ref li, .ref ct, .ref tg, .ref fw]))] sz) := by
  refine vx_ofW (cc := cX11_record) (maxL := 7) (ret := (some .int)) (by decide) rfl ?_
  intro p e s m args below meth c s₁ B hml hxt hv
  obtain ⟨rfl, ⟨hsz, hP, hK, hD0, hN⟩, hZ⟩ := hv
  have hx := B.exec
  have hb := B.bytes
  have hr := B.returns
  have hts := atoms_spec (ws := wsX11_record) B.pre
  have hown : s.vm.findClass RX11 = some m.cls := findClass_of_methodNamed B.named
  have hlocks := B.notSynchronized
  subst hsz
  have hD := hD0.self (sz := s.heap.size)
  generalize hAe : va_A [(ya, .inr (16, [.ref ms, .int 0, .ref ju, .ref li, .ref ct, .ref tg, .ref fw]))] s.heap.size = A at hD hZ ⊢
  have hA : ∀ q : Nat, s.heap.size ≤ q → A q := fun q h => by rw [← hAe]; exact Or.inr h
  have hS : va_S A s.heap s.heap [] := va_S.rf
  have hP : va_P (dC, dI) vwCl [(ya, .inr (16, [.ref ms, .int 0, .ref ju, .ref li, .ref ct, .ref tg, .ref fw]))] s.heap := hP
  have hD : va_D A [(ya, .inr (16, [.ref ms, .int 0, .ref ju, .ref li, .ref ct, .ref tg, .ref fw]))] := hD
  have hl := lv_entry ([.ref ya, .int a1]) (n := 7) (Nat.le_of_ble_eq_true rfl)
  rw [lg_entry_eq]
  generalize (lg_sl ([.ref ya, .int a1]) ++ List.replicate (7 - (lg_sl ([.ref ya, .int a1])).length) Slot.unset).toArray = ls at hl ⊢
  have hl : lv_has ls 7 [(0, .ref ya), (1, .int a1)] := hl
  have iWX11 : ∀ w ∈ u_ws RX11 TX11 7, w ∈ wsX11_record := by decide +kernel
  have iWX5 : ∀ w ∈ u_ws RX5 TX5 11, w ∈ wsX11_record := by decide +kernel
  refine lv_iload_n hx hb dX11_record_0 rfl (lv_at hl 1 rfl) ?_
  refine lv_bipush (v := 115) hx hb dX11_record_1 (by decide) ?_
  refine lv_icmp_eq (tgt := 12) hx hb dX11_record_3 (by decide) (fun c3_1 => ?_) (fun c3_1 => ?_)
  · refine lv_iconst (v := 1) hx hb dX11_record_12 (by decide) ?_
    refine lv_goto (tgt := 17) hx hb dX11_record_13 (by decide) ?_
    have hPc := hP.sub (ws' := []) [] rfl
    have hDc := hD.sub (ws' := []) [] (by decide) rfl
    have hKc := hK.sub (tys' := []) [] rfl
    have hFc := va_free (wc := []) hD hS hA [] rfl
    refine vx_callv (vx_runS (As := [.int 1]) (rest := []) ⟨hx, hb, hml, hown, hts⟩ (c_X11_demand l hfl dC dI 1 s.heap.size) (va_cwS 1 hts gX11_record_X11_demand rfl rfl rfl (by decide +kernel) ⟨Nat.le_of_ble_eq_true rfl, Nat.le_of_ble_eq_true rfl⟩) (pcSz (zX_ok) hPc hDc hKc hN hZ hS hFc) rfl rfl hl.1 rfl (lv_room (Nat.le_of_ble_eq_true rfl)) dX11_record_17 ⟨Nat.le_of_ble_eq_true rfl, Nat.le_of_ble_eq_true rfl⟩) hS (fun q _ h => hFc q h) hFc (fun q _ h => hFc q h) (fun E9 ce9 q9 u9 t9 H9 locs9 ht9 hvm9 hp9 hE9 hz9 hk9 hS9 hc9 hv9 hcl9 => absurd hE9.2 (by decide)) (fun u t H1 locs ht hvm hw_2 hB hz1 hk1 hS => ?_)
    obtain ⟨hP1, hK1, hD1⟩ := hB
    rw [ht] at hP1
    try dsimp only at hw_2
    obtain ⟨hP, hD⟩ := va_join (wr := [(ya, .inr (16, [.ref ms, .int 0, .ref ju, .ref li, .ref ct, .ref tg, .ref fw]))]) (w1 := []) hP hD [] [0] rfl rfl (by decide) (by decide) hk1 hFc hP1 hD1
    generalize H1 = H at hP hS ⊢
    have hP : va_P (dC, dI) vwCl [(ya, .inr (16, [.ref ms, .int 0, .ref ju, .ref li, .ref ct, .ref tg, .ref fw]))] H := hP
    have hD : va_D A [(ya, .inr (16, [.ref ms, .int 0, .ref ju, .ref li, .ref ct, .ref tg, .ref fw]))] := hD
    refine W.widen (k := 1) (n := 6) (Nat.le_of_ble_eq_true rfl) (Nat.le_of_ble_eq_true rfl) ?_
    refine lv_iconst (v := (-1)) hx hb dX11_record_20 (by decide) ?_
    refine lv_istore_n (lv' := [(2, .int (-1)), (0, .ref ya), (1, .int a1)]) hx hb dX11_record_21 rfl hl (by decide) rfl (fun ls hl => ?_)
    refine lv_iconst (v := (-1)) hx hb dX11_record_22 (by decide) ?_
    refine lv_istore_n (lv' := [(3, .int (-1)), (2, .int (-1)), (0, .ref ya), (1, .int a1)]) hx hb dX11_record_23 rfl hl (by decide) rfl (fun ls hl => ?_)
    refine lv_iconst (v := 0) hx hb dX11_record_24 (by decide) ?_
    refine lv_istore (lv' := [(4, .int 0), (3, .int (-1)), (2, .int (-1)), (0, .ref ya), (1, .int a1)]) hx hb dX11_record_25 hl (by decide) rfl (fun ls hl => ?_)
    refine lv_iload hx hb dX11_record_27 (lv_at hl 0 rfl) ?_
    refine lv_aload_n hx hb dX11_record_29 rfl (lv_at hl 3 rfl) ?_
    refine va_get (D := (dC, dI)) (ci := 16) (v := .int 0) (C := RX11) (T := TX11) (N := 7) hx hb hts iWX11 hown hK hP 0 rfl rfl 1 (by decide) (hts (.fieldLink RX11 15 "Beaverhall" "machineCount" "I") (by decide +kernel)) (fun _ h9 => h9) rfl dX11_record_30 ?_
    refine lv_icmp_ge (tgt := 92) hx hb dX11_record_33 (by decide) (fun c33_3 => ?_) (fun c33_3 => ?_)
    · refine lv_iload_n hx hb dX11_record_92 rfl (lv_at hl 2 rfl) ?_
      refine lv_if_lt (tgt := 100) hx hb dX11_record_93 (by decide) (fun c93_4 => ?_) (fun c93_4 => ?_)
      · refine lv_iconst (v := 0) hx hb dX11_record_100 (by decide) ?_
        have hPc := hP.sub (ws' := []) [] rfl
        have hDc := hD.sub (ws' := []) [] (by decide) rfl
        have hKc := hK.sub (tys' := []) [] rfl
        have hFc := va_free (wc := []) hD hS hA [] rfl
        refine vx_callv (vx_runS (As := [.int 0]) (rest := []) ⟨hx, hb, hml, hown, hts⟩ (c_X11_demandFound l hfl dC dI 0 H.size) (va_cwS 1 hts gX11_record_X11_demandFound rfl rfl rfl (by decide +kernel) ⟨Nat.le_of_ble_eq_true rfl, Nat.le_of_ble_eq_true rfl⟩) (pcSz (zX_ok) hPc hDc hKc hN hZ hS hFc) rfl rfl hl.1 rfl (lv_room (Nat.le_of_ble_eq_true rfl)) dX11_record_101 ⟨Nat.le_of_ble_eq_true rfl, Nat.le_of_ble_eq_true rfl⟩) hS (fun q _ h => hFc q h) hFc (fun q _ h => hFc q h) (fun E9 ce9 q9 u9 t9 H9 locs9 ht9 hvm9 hp9 hE9 hz9 hk9 hS9 hc9 hv9 hcl9 => vx_out (fun x h => (hxt x h).elim) hlocks hc9 hv9 hcl9 (fun t1 ht1 ha1 => ⟨(), trivial, (Or.inr ⟨hE9.1, Or.inl c3_1⟩), hS9.F ht1⟩) hS9.2.2 (Nat.le_of_ble_eq_true rfl) (Nat.le_of_ble_eq_true rfl)) (fun u t H1 locs ht hvm hw_5 hB hz1 hk1 hS => ?_)
        obtain ⟨hP1, hK1, hD1⟩ := hB
        rw [ht] at hP1
        try dsimp only at hw_5
        obtain ⟨hP, hD⟩ := va_join (wr := [(ya, .inr (16, [.ref ms, .int 0, .ref ju, .ref li, .ref ct, .ref tg, .ref fw]))]) (w1 := []) hP hD [] [0] rfl rfl (by decide) (by decide) hk1 hFc hP1 hD1
        generalize H1 = H at hP hS ⊢
        have hP : va_P (dC, dI) vwCl [(ya, .inr (16, [.ref ms, .int 0, .ref ju, .ref li, .ref ct, .ref tg, .ref fw]))] H := hP
        have hD : va_D A [(ya, .inr (16, [.ref ms, .int 0, .ref ju, .ref li, .ref ct, .ref tg, .ref fw]))] := hD
        refine W.widen (k := 2) (n := 12) (Nat.le_of_ble_eq_true rfl) (Nat.le_of_ble_eq_true rfl) ?_
        exact absurd rfl hw_5
      · exact (c93_4 (by decide)).elim
    · exact (c33_3 (by decide)).elim
  · refine lv_iload_n hx hb dX11_record_6 rfl (lv_at hl 1 rfl) ?_
    refine lv_bipush (v := 109) hx hb dX11_record_7 (by decide) ?_
    refine lv_icmp_ne (tgt := 16) hx hb dX11_record_9 (by decide) (fun c9_6 => ?_) (fun c9_6 => ?_)
    · refine lv_iconst (v := 0) hx hb dX11_record_16 (by decide) ?_
      have hPc := hP.sub (ws' := []) [] rfl
      have hDc := hD.sub (ws' := []) [] (by decide) rfl
      have hKc := hK.sub (tys' := []) [] rfl
      have hFc := va_free (wc := []) hD hS hA [] rfl
      refine vx_callv (vx_runS (As := [.int 0]) (rest := []) ⟨hx, hb, hml, hown, hts⟩ (c_X11_demand l hfl dC dI 0 s.heap.size) (va_cwS 1 hts gX11_record_X11_demand rfl rfl rfl (by decide +kernel) ⟨Nat.le_of_ble_eq_true rfl, Nat.le_of_ble_eq_true rfl⟩) (pcSz (zX_ok) hPc hDc hKc hN hZ hS hFc) rfl rfl hl.1 rfl (lv_room (Nat.le_of_ble_eq_true rfl)) dX11_record_17 ⟨Nat.le_of_ble_eq_true rfl, Nat.le_of_ble_eq_true rfl⟩) hS (fun q _ h => hFc q h) hFc (fun q _ h => hFc q h) (fun E9 ce9 q9 u9 t9 H9 locs9 ht9 hvm9 hp9 hE9 hz9 hk9 hS9 hc9 hv9 hcl9 => vx_out (fun x h => (hxt x h).elim) hlocks hc9 hv9 hcl9 (fun t1 ht1 ha1 => ⟨(), trivial, (Or.inl ⟨hE9.1, fun h => h.elim c3_1 c9_6⟩), hS9.F ht1⟩) hS9.2.2 (Nat.le_of_ble_eq_true rfl) (Nat.le_of_ble_eq_true rfl)) (fun u t H1 locs ht hvm hw_7 hB hz1 hk1 hS => ?_)
      obtain ⟨hP1, hK1, hD1⟩ := hB
      rw [ht] at hP1
      try dsimp only at hw_7
      obtain ⟨hP, hD⟩ := va_join (wr := [(ya, .inr (16, [.ref ms, .int 0, .ref ju, .ref li, .ref ct, .ref tg, .ref fw]))]) (w1 := []) hP hD [] [0] rfl rfl (by decide) (by decide) hk1 hFc hP1 hD1
      generalize H1 = H at hP hS ⊢
      have hP : va_P (dC, dI) vwCl [(ya, .inr (16, [.ref ms, .int 0, .ref ju, .ref li, .ref ct, .ref tg, .ref fw]))] H := hP
      have hD : va_D A [(ya, .inr (16, [.ref ms, .int 0, .ref ju, .ref li, .ref ct, .ref tg, .ref fw]))] := hD
      refine W.widen (k := 1) (n := 6) (Nat.le_of_ble_eq_true rfl) (Nat.le_of_ble_eq_true rfl) ?_
      exact absurd rfl hw_7
    · refine lv_iconst (v := 1) hx hb dX11_record_12 (by decide) ?_
      refine lv_goto (tgt := 17) hx hb dX11_record_13 (by decide) ?_
      have hPc := hP.sub (ws' := []) [] rfl
      have hDc := hD.sub (ws' := []) [] (by decide) rfl
      have hKc := hK.sub (tys' := []) [] rfl
      have hFc := va_free (wc := []) hD hS hA [] rfl
      refine vx_callv (vx_runS (As := [.int 1]) (rest := []) ⟨hx, hb, hml, hown, hts⟩ (c_X11_demand l hfl dC dI 1 s.heap.size) (va_cwS 1 hts gX11_record_X11_demand rfl rfl rfl (by decide +kernel) ⟨Nat.le_of_ble_eq_true rfl, Nat.le_of_ble_eq_true rfl⟩) (pcSz (zX_ok) hPc hDc hKc hN hZ hS hFc) rfl rfl hl.1 rfl (lv_room (Nat.le_of_ble_eq_true rfl)) dX11_record_17 ⟨Nat.le_of_ble_eq_true rfl, Nat.le_of_ble_eq_true rfl⟩) hS (fun q _ h => hFc q h) hFc (fun q _ h => hFc q h) (fun E9 ce9 q9 u9 t9 H9 locs9 ht9 hvm9 hp9 hE9 hz9 hk9 hS9 hc9 hv9 hcl9 => absurd hE9.2 (by decide)) (fun u t H1 locs ht hvm hw_8 hB hz1 hk1 hS => ?_)
      obtain ⟨hP1, hK1, hD1⟩ := hB
      rw [ht] at hP1
      try dsimp only at hw_8
      obtain ⟨hP, hD⟩ := va_join (wr := [(ya, .inr (16, [.ref ms, .int 0, .ref ju, .ref li, .ref ct, .ref tg, .ref fw]))]) (w1 := []) hP hD [] [0] rfl rfl (by decide) (by decide) hk1 hFc hP1 hD1
      generalize H1 = H at hP hS ⊢
      have hP : va_P (dC, dI) vwCl [(ya, .inr (16, [.ref ms, .int 0, .ref ju, .ref li, .ref ct, .ref tg, .ref fw]))] H := hP
      have hD : va_D A [(ya, .inr (16, [.ref ms, .int 0, .ref ju, .ref li, .ref ct, .ref tg, .ref fw]))] := hD
      refine W.widen (k := 1) (n := 6) (Nat.le_of_ble_eq_true rfl) (Nat.le_of_ble_eq_true rfl) ?_
      refine lv_iconst (v := (-1)) hx hb dX11_record_20 (by decide) ?_
      refine lv_istore_n (lv' := [(2, .int (-1)), (0, .ref ya), (1, .int a1)]) hx hb dX11_record_21 rfl hl (by decide) rfl (fun ls hl => ?_)
      refine lv_iconst (v := (-1)) hx hb dX11_record_22 (by decide) ?_
      refine lv_istore_n (lv' := [(3, .int (-1)), (2, .int (-1)), (0, .ref ya), (1, .int a1)]) hx hb dX11_record_23 rfl hl (by decide) rfl (fun ls hl => ?_)
      refine lv_iconst (v := 0) hx hb dX11_record_24 (by decide) ?_
      refine lv_istore (lv' := [(4, .int 0), (3, .int (-1)), (2, .int (-1)), (0, .ref ya), (1, .int a1)]) hx hb dX11_record_25 hl (by decide) rfl (fun ls hl => ?_)
      refine lv_iload hx hb dX11_record_27 (lv_at hl 0 rfl) ?_
      refine lv_aload_n hx hb dX11_record_29 rfl (lv_at hl 3 rfl) ?_
      refine va_get (D := (dC, dI)) (ci := 16) (v := .int 0) (C := RX11) (T := TX11) (N := 7) hx hb hts iWX11 hown hK hP 0 rfl rfl 1 (by decide) (hts (.fieldLink RX11 15 "Beaverhall" "machineCount" "I") (by decide +kernel)) (fun _ h9 => h9) rfl dX11_record_30 ?_
      refine lv_icmp_ge (tgt := 92) hx hb dX11_record_33 (by decide) (fun c33_9 => ?_) (fun c33_9 => ?_)
      · refine lv_iload_n hx hb dX11_record_92 rfl (lv_at hl 2 rfl) ?_
        refine lv_if_lt (tgt := 100) hx hb dX11_record_93 (by decide) (fun c93_10 => ?_) (fun c93_10 => ?_)
        · refine lv_iconst (v := 0) hx hb dX11_record_100 (by decide) ?_
          have hPc := hP.sub (ws' := []) [] rfl
          have hDc := hD.sub (ws' := []) [] (by decide) rfl
          have hKc := hK.sub (tys' := []) [] rfl
          have hFc := va_free (wc := []) hD hS hA [] rfl
          refine vx_callv (vx_runS (As := [.int 0]) (rest := []) ⟨hx, hb, hml, hown, hts⟩ (c_X11_demandFound l hfl dC dI 0 H.size) (va_cwS 1 hts gX11_record_X11_demandFound rfl rfl rfl (by decide +kernel) ⟨Nat.le_of_ble_eq_true rfl, Nat.le_of_ble_eq_true rfl⟩) (pcSz (zX_ok) hPc hDc hKc hN hZ hS hFc) rfl rfl hl.1 rfl (lv_room (Nat.le_of_ble_eq_true rfl)) dX11_record_101 ⟨Nat.le_of_ble_eq_true rfl, Nat.le_of_ble_eq_true rfl⟩) hS (fun q _ h => hFc q h) hFc (fun q _ h => hFc q h) (fun E9 ce9 q9 u9 t9 H9 locs9 ht9 hvm9 hp9 hE9 hz9 hk9 hS9 hc9 hv9 hcl9 => vx_out (fun x h => (hxt x h).elim) hlocks hc9 hv9 hcl9 (fun t1 ht1 ha1 => ⟨(), trivial, (Or.inr ⟨hE9.1, Or.inr c9_6⟩), hS9.F ht1⟩) hS9.2.2 (Nat.le_of_ble_eq_true rfl) (Nat.le_of_ble_eq_true rfl)) (fun u t H1 locs ht hvm hw_11 hB hz1 hk1 hS => ?_)
          obtain ⟨hP1, hK1, hD1⟩ := hB
          rw [ht] at hP1
          try dsimp only at hw_11
          obtain ⟨hP, hD⟩ := va_join (wr := [(ya, .inr (16, [.ref ms, .int 0, .ref ju, .ref li, .ref ct, .ref tg, .ref fw]))]) (w1 := []) hP hD [] [0] rfl rfl (by decide) (by decide) hk1 hFc hP1 hD1
          generalize H1 = H at hP hS ⊢
          have hP : va_P (dC, dI) vwCl [(ya, .inr (16, [.ref ms, .int 0, .ref ju, .ref li, .ref ct, .ref tg, .ref fw]))] H := hP
          have hD : va_D A [(ya, .inr (16, [.ref ms, .int 0, .ref ju, .ref li, .ref ct, .ref tg, .ref fw]))] := hD
          refine W.widen (k := 2) (n := 12) (Nat.le_of_ble_eq_true rfl) (Nat.le_of_ble_eq_true rfl) ?_
          exact absurd rfl hw_11
        · exact (c93_10 (by decide)).elim
      · exact (c33_9 (by decide)).elim

set_option maxHeartbeats 4000000 in
set_option maxRecDepth 100000 in
/-- X11_holdouts -/
theorem c_X11_holdouts (l : Launch) (hfl : l.stackTraces = false) (dC : Nat → ClassId) (dI : Nat → Nat → Nat) (ya ms ju li ct tg fw : Nat) (sz : Nat) : vx_Met l yX11_holdouts wsX11_holdouts ({ frames := 0, cells := 0, slots := 0, locals := 0 }) (va_Pc [.ref ya] (cPCz (zX) dC dI [(ya, .inr (16, [.ref ms, .int 0, .ref ju, .ref li, .ref ct, .ref tg, .ref fw]))] [] sz)) (va_Qi (fun (r : Int32) (u : Unit) => r = 0) (fun (u : Unit) t => cQB dC dI [] [] (va_A [(ya, .inr (16, [.ref ms, .int 0, .ref ju, .ref li, .ref ct, .ref tg, .ref fw]))] sz) t) (va_A [(ya, .inr (16, [.ref ms, .int 0, .ref ju, .ref li, .ref ct, .ref tg, .ref fw]))] sz)) (vx_X (fun (_ : Unit) => True) (fun (E9 : String) (_ : Unit) (_ : State) => False) (va_A [(ya, .inr (16, [.ref ms, .int 0, .ref ju, .ref li, .ref ct, .ref tg, .ref fw]))] sz)) 0 0 (va_A [(ya, .inr (16, [.ref ms, .int 0, .ref ju, .ref li, .ref ct, .ref tg, .ref fw]))] sz) := by
  refine vx_ofW (cc := cX11_holdouts) (maxL := 3) (ret := (some .int)) (by decide) rfl ?_
  intro p e s m args below meth c s₁ B hml hxt hv
  obtain ⟨rfl, ⟨hsz, hP, hK, hD0, hN⟩, hZ⟩ := hv
  have hx := B.exec
  have hb := B.bytes
  have hr := B.returns
  have hts := atoms_spec (ws := wsX11_holdouts) B.pre
  have hown : s.vm.findClass RX11 = some m.cls := findClass_of_methodNamed B.named
  have hlocks := B.notSynchronized
  subst hsz
  have hD := hD0.self (sz := s.heap.size)
  generalize hAe : va_A [(ya, .inr (16, [.ref ms, .int 0, .ref ju, .ref li, .ref ct, .ref tg, .ref fw]))] s.heap.size = A at hD hZ ⊢
  have hA : ∀ q : Nat, s.heap.size ≤ q → A q := fun q h => by rw [← hAe]; exact Or.inr h
  have hS : va_S A s.heap s.heap [] := va_S.rf
  have hP : va_P (dC, dI) vwCl [(ya, .inr (16, [.ref ms, .int 0, .ref ju, .ref li, .ref ct, .ref tg, .ref fw]))] s.heap := hP
  have hD : va_D A [(ya, .inr (16, [.ref ms, .int 0, .ref ju, .ref li, .ref ct, .ref tg, .ref fw]))] := hD
  have hl := lv_entry ([.ref ya]) (n := 3) (Nat.le_of_ble_eq_true rfl)
  rw [lg_entry_eq]
  generalize (lg_sl ([.ref ya]) ++ List.replicate (3 - (lg_sl ([.ref ya])).length) Slot.unset).toArray = ls at hl ⊢
  have hl : lv_has ls 3 [(0, .ref ya)] := hl
  have iWX11 : ∀ w ∈ u_ws RX11 TX11 7, w ∈ wsX11_holdouts := by decide +kernel
  refine lv_iconst (v := 0) hx hb dX11_holdouts_0 (by decide) ?_
  refine lv_istore_n (lv' := [(1, .int 0), (0, .ref ya)]) hx hb dX11_holdouts_1 rfl hl (by decide) rfl (fun ls hl => ?_)
  refine lv_iconst (v := 0) hx hb dX11_holdouts_2 (by decide) ?_
  refine lv_istore_n (lv' := [(2, .int 0), (1, .int 0), (0, .ref ya)]) hx hb dX11_holdouts_3 rfl hl (by decide) rfl (fun ls hl => ?_)
  refine lv_iload_n hx hb dX11_holdouts_4 rfl (lv_at hl 0 rfl) ?_
  refine lv_aload_n hx hb dX11_holdouts_5 rfl (lv_at hl 2 rfl) ?_
  refine va_get (D := (dC, dI)) (ci := 16) (v := .int 0) (C := RX11) (T := TX11) (N := 7) hx hb hts iWX11 hown hK hP 0 rfl rfl 1 (by decide) (hts (.fieldLink RX11 15 "Beaverhall" "machineCount" "I") (by decide +kernel)) (fun _ h9 => h9) rfl dX11_holdouts_6 ?_
  refine lv_icmp_ge (tgt := 36) hx hb dX11_holdouts_9 (by decide) (fun c9_1 => ?_) (fun c9_1 => ?_)
  · refine lv_iload_n hx hb dX11_holdouts_36 rfl (lv_at hl 1 rfl) ?_
    refine vx_ret ?_
    have hP9 := hP.sub (ws' := []) [] rfl
    have hD9 := hD.sub (ws' := []) [] (by decide) rfl
    have hK9 := hK.sub (tys' := []) [] rfl
    exact W.iret (v := 0) hx hb hr (fun t ht hW => ⟨⟨0, (), rfl, rfl, ⟨by rw [ht]; exact hP9, va_K.moved hW.alike hK9, hD9⟩⟩, hS.F ht⟩) hS.2.2 dX11_holdouts_37
  · exact (c9_1 (by decide)).elim

set_option maxHeartbeats 4000000 in
set_option maxRecDepth 100000 in
/-- X11_holdoutAt -/
theorem c_X11_holdoutAt (l : Launch) (hfl : l.stackTraces = false) (dC : Nat → ClassId) (dI : Nat → Nat → Nat) (ya ms ju li ct tg fw : Nat) (a1 : Int32) (sz : Nat) : vx_Met l yX11_holdoutAt wsX11_holdoutAt ({ frames := 7, cells := 1, slots := 6, locals := 120 }) (va_Pc [.ref ya, .int a1] (cPCz (zX) dC dI [(ya, .inr (16, [.ref ms, .int 0, .ref ju, .ref li, .ref ct, .ref tg, .ref fw]))] [] sz)) (fun _ _ _ _ => False) (vx_X (fun (_ : Unit) => True) (fun (E9 : String) (_ : Unit) (_ : State) => E9 = "java/util/NoSuchElementException") (va_A [(ya, .inr (16, [.ref ms, .int 0, .ref ju, .ref li, .ref ct, .ref tg, .ref fw]))] sz)) 1 6 (va_A [(ya, .inr (16, [.ref ms, .int 0, .ref ju, .ref li, .ref ct, .ref tg, .ref fw]))] sz) := by
  refine vx_ofW (cc := cX11_holdoutAt) (maxL := 5) (ret := (some .int)) (by decide) rfl ?_
  intro p e s m args below meth c s₁ B hml hxt hv
  obtain ⟨rfl, ⟨hsz, hP, hK, hD0, hN⟩, hZ⟩ := hv
  have hx := B.exec
  have hb := B.bytes
  have hr := B.returns
  have hts := atoms_spec (ws := wsX11_holdoutAt) B.pre
  have hown : s.vm.findClass RX11 = some m.cls := findClass_of_methodNamed B.named
  have hlocks := B.notSynchronized
  subst hsz
  have hD := hD0.self (sz := s.heap.size)
  generalize hAe : va_A [(ya, .inr (16, [.ref ms, .int 0, .ref ju, .ref li, .ref ct, .ref tg, .ref fw]))] s.heap.size = A at hD hZ ⊢
  have hA : ∀ q : Nat, s.heap.size ≤ q → A q := fun q h => by rw [← hAe]; exact Or.inr h
  have hS : va_S A s.heap s.heap [] := va_S.rf
  have hP : va_P (dC, dI) vwCl [(ya, .inr (16, [.ref ms, .int 0, .ref ju, .ref li, .ref ct, .ref tg, .ref fw]))] s.heap := hP
  have hD : va_D A [(ya, .inr (16, [.ref ms, .int 0, .ref ju, .ref li, .ref ct, .ref tg, .ref fw]))] := hD
  have hl := lv_entry ([.ref ya, .int a1]) (n := 5) (Nat.le_of_ble_eq_true rfl)
  rw [lg_entry_eq]
  generalize (lg_sl ([.ref ya, .int a1]) ++ List.replicate (5 - (lg_sl ([.ref ya, .int a1])).length) Slot.unset).toArray = ls at hl ⊢
  have hl : lv_has ls 5 [(0, .ref ya), (1, .int a1)] := hl
  have iWX11 : ∀ w ∈ u_ws RX11 TX11 7, w ∈ wsX11_holdoutAt := by decide +kernel
  refine lv_iconst (v := (-1)) hx hb dX11_holdoutAt_0 (by decide) ?_
  refine lv_istore_n (lv' := [(2, .int (-1)), (0, .ref ya), (1, .int a1)]) hx hb dX11_holdoutAt_1 rfl hl (by decide) rfl (fun ls hl => ?_)
  refine lv_iconst (v := 0) hx hb dX11_holdoutAt_2 (by decide) ?_
  refine lv_istore_n (lv' := [(3, .int 0), (2, .int (-1)), (0, .ref ya), (1, .int a1)]) hx hb dX11_holdoutAt_3 rfl hl (by decide) rfl (fun ls hl => ?_)
  refine lv_iconst (v := 0) hx hb dX11_holdoutAt_4 (by decide) ?_
  refine lv_istore (lv' := [(4, .int 0), (3, .int 0), (2, .int (-1)), (0, .ref ya), (1, .int a1)]) hx hb dX11_holdoutAt_5 hl (by decide) rfl (fun ls hl => ?_)
  refine lv_iload hx hb dX11_holdoutAt_7 (lv_at hl 0 rfl) ?_
  refine lv_aload_n hx hb dX11_holdoutAt_9 rfl (lv_at hl 3 rfl) ?_
  refine va_get (D := (dC, dI)) (ci := 16) (v := .int 0) (C := RX11) (T := TX11) (N := 7) hx hb hts iWX11 hown hK hP 0 rfl rfl 1 (by decide) (hts (.fieldLink RX11 15 "Beaverhall" "machineCount" "I") (by decide +kernel)) (fun _ h9 => h9) rfl dX11_holdoutAt_10 ?_
  refine lv_icmp_ge (tgt := 53) hx hb dX11_holdoutAt_13 (by decide) (fun c13_1 => ?_) (fun c13_1 => ?_)
  · refine lv_iload_n hx hb dX11_holdoutAt_53 rfl (lv_at hl 2 rfl) ?_
    refine lv_if_lt (tgt := 61) hx hb dX11_holdoutAt_54 (by decide) (fun c54_2 => ?_) (fun c54_2 => ?_)
    · refine lv_iconst (v := 0) hx hb dX11_holdoutAt_61 (by decide) ?_
      have hPc := hP.sub (ws' := []) [] rfl
      have hDc := hD.sub (ws' := []) [] (by decide) rfl
      have hKc := hK.sub (tys' := []) [] rfl
      have hFc := va_free (wc := []) hD hS hA [] rfl
      refine vx_callv (vx_runS (As := [.int 0]) (rest := []) ⟨hx, hb, hml, hown, hts⟩ (c_X11_demandFound l hfl dC dI 0 s.heap.size) (va_cwS 1 hts gX11_holdoutAt_X11_demandFound rfl rfl rfl (by decide +kernel) ⟨Nat.le_of_ble_eq_true rfl, Nat.le_of_ble_eq_true rfl⟩) (pcSz (zX_ok) hPc hDc hKc hN hZ hS hFc) rfl rfl hl.1 rfl (lv_room (Nat.le_of_ble_eq_true rfl)) dX11_holdoutAt_62 ⟨Nat.le_of_ble_eq_true rfl, Nat.le_of_ble_eq_true rfl⟩) hS (fun q _ h => hFc q h) hFc (fun q _ h => hFc q h) (fun E9 ce9 q9 u9 t9 H9 locs9 ht9 hvm9 hp9 hE9 hz9 hk9 hS9 hc9 hv9 hcl9 => vx_out (fun x h => (hxt x h).elim) hlocks hc9 hv9 hcl9 (fun t1 ht1 ha1 => ⟨(), trivial, hE9.1, hS9.F ht1⟩) hS9.2.2 (Nat.le_of_ble_eq_true rfl) (Nat.le_of_ble_eq_true rfl)) (fun u t H1 locs ht hvm hw_3 hB hz1 hk1 hS => ?_)
      obtain ⟨hP1, hK1, hD1⟩ := hB
      rw [ht] at hP1
      try dsimp only at hw_3
      obtain ⟨hP, hD⟩ := va_join (wr := [(ya, .inr (16, [.ref ms, .int 0, .ref ju, .ref li, .ref ct, .ref tg, .ref fw]))]) (w1 := []) hP hD [] [0] rfl rfl (by decide) (by decide) hk1 hFc hP1 hD1
      generalize H1 = H at hP hS ⊢
      have hP : va_P (dC, dI) vwCl [(ya, .inr (16, [.ref ms, .int 0, .ref ju, .ref li, .ref ct, .ref tg, .ref fw]))] H := hP
      have hD : va_D A [(ya, .inr (16, [.ref ms, .int 0, .ref ju, .ref li, .ref ct, .ref tg, .ref fw]))] := hD
      refine W.widen (k := 1) (n := 6) (Nat.le_of_ble_eq_true rfl) (Nat.le_of_ble_eq_true rfl) ?_
      exact absurd rfl hw_3
    · exact (c54_2 (by decide)).elim
  · exact (c13_1 (by decide)).elim

set_option maxHeartbeats 4000000 in
set_option maxRecDepth 100000 in
/-- X11_meanMarks -/
theorem c_X11_meanMarks (l : Launch) (hfl : l.stackTraces = false) (dC : Nat → ClassId) (dI : Nat → Nat → Nat) (ya ms ju li ct tg fw : Nat) (sz : Nat) : vx_Met l yX11_meanMarks wsX11_meanMarks ({ frames := 6, cells := 1, slots := 6, locals := 100 }) (va_Pc [.ref ya] (cPCz (zX) dC dI [(ya, .inr (16, [.ref ms, .int 0, .ref ju, .ref li, .ref ct, .ref tg, .ref fw]))] [] sz)) (fun _ _ _ _ => False) (vx_X (fun (_ : Unit) => True) (fun (E9 : String) (_ : Unit) (_ : State) => E9 = "java/lang/ArithmeticException") (va_A [(ya, .inr (16, [.ref ms, .int 0, .ref ju, .ref li, .ref ct, .ref tg, .ref fw]))] sz)) 1 6 (va_A [(ya, .inr (16, [.ref ms, .int 0, .ref ju, .ref li, .ref ct, .ref tg, .ref fw]))] sz) := by
  refine vx_ofW (cc := cX11_meanMarks) (maxL := 6) (ret := (some .double)) (by decide) rfl ?_
  intro p e s m args below meth c s₁ B hml hxt hv
  obtain ⟨rfl, ⟨hsz, hP, hK, hD0, hN⟩, hZ⟩ := hv
  have hx := B.exec
  have hb := B.bytes
  have hr := B.returns
  have hts := atoms_spec (ws := wsX11_meanMarks) B.pre
  have hown : s.vm.findClass RX11 = some m.cls := findClass_of_methodNamed B.named
  have hlocks := B.notSynchronized
  subst hsz
  have hD := hD0.self (sz := s.heap.size)
  generalize hAe : va_A [(ya, .inr (16, [.ref ms, .int 0, .ref ju, .ref li, .ref ct, .ref tg, .ref fw]))] s.heap.size = A at hD hZ ⊢
  have hA : ∀ q : Nat, s.heap.size ≤ q → A q := fun q h => by rw [← hAe]; exact Or.inr h
  have hS : va_S A s.heap s.heap [] := va_S.rf
  have hP : va_P (dC, dI) vwCl [(ya, .inr (16, [.ref ms, .int 0, .ref ju, .ref li, .ref ct, .ref tg, .ref fw]))] s.heap := hP
  have hD : va_D A [(ya, .inr (16, [.ref ms, .int 0, .ref ju, .ref li, .ref ct, .ref tg, .ref fw]))] := hD
  have hl := lv_entry ([.ref ya]) (n := 6) (Nat.le_of_ble_eq_true rfl)
  rw [lg_entry_eq]
  generalize (lg_sl ([.ref ya]) ++ List.replicate (6 - (lg_sl ([.ref ya])).length) Slot.unset).toArray = ls at hl ⊢
  have hl : lv_has ls 6 [(0, .ref ya)] := hl
  have iWX11 : ∀ w ∈ u_ws RX11 TX11 7, w ∈ wsX11_meanMarks := by decide +kernel
  have iWX5 : ∀ w ∈ u_ws RX5 TX5 11, w ∈ wsX11_meanMarks := by decide +kernel
  refine lv_lconst (v := 0) hx hb dX11_meanMarks_0 (by decide) ?_
  refine lv_lstore_n (lv' := [(1, .long 0), (0, .ref ya)]) hx hb dX11_meanMarks_1 rfl hl (by decide) rfl (fun ls hl => ?_)
  refine lv_iconst (v := 0) hx hb dX11_meanMarks_2 (by decide) ?_
  refine lv_istore_n (lv' := [(3, .int 0), (1, .long 0), (0, .ref ya)]) hx hb dX11_meanMarks_3 rfl hl (by decide) rfl (fun ls hl => ?_)
  refine lv_iconst (v := 0) hx hb dX11_meanMarks_4 (by decide) ?_
  refine lv_istore (lv' := [(4, .int 0), (3, .int 0), (1, .long 0), (0, .ref ya)]) hx hb dX11_meanMarks_5 hl (by decide) rfl (fun ls hl => ?_)
  refine lv_iload hx hb dX11_meanMarks_7 (lv_at hl 0 rfl) ?_
  refine lv_aload_n hx hb dX11_meanMarks_9 rfl (lv_at hl 3 rfl) ?_
  refine va_get (D := (dC, dI)) (ci := 16) (v := .int 0) (C := RX11) (T := TX11) (N := 7) hx hb hts iWX11 hown hK hP 0 rfl rfl 1 (by decide) (hts (.fieldLink RX11 15 "Beaverhall" "machineCount" "I") (by decide +kernel)) (fun _ h9 => h9) rfl dX11_meanMarks_10 ?_
  refine lv_icmp_ge (tgt := 51) hx hb dX11_meanMarks_13 (by decide) (fun c13_1 => ?_) (fun c13_1 => ?_)
  · refine lv_iload_n hx hb dX11_meanMarks_51 rfl (lv_at hl 1 rfl) ?_
    refine lv_if_ne (tgt := 63) hx hb dX11_meanMarks_52 (by decide) (fun c52_2 => ?_) (fun c52_2 => ?_)
    · exact (c52_2 (by decide)).elim
    · exact vx_throw0 (own := RX11) (cls := "java/lang/ArithmeticException") (names := ["java/lang/RuntimeException", "java/lang/Exception"]) (ik := 287) (ic := 289) hx hb hfl hown (by decide) (by decide) (hts (.classLink RX11 287 "java/lang/ArithmeticException") (by decide +kernel)) (hts (.initialized "java/lang/ArithmeticException") (by decide +kernel)) (vx_hat (fun w9 hw9 => hts w9 (List.mem_cons_of_mem _ (List.mem_append_left _ (List.mem_append_left _ (List.mem_append_right _ hw9))))) (by decide +kernel) (zX_use hZ)) (by decide +kernel) hZ.1.1 hZ.1.2 hS (hl.1.trans hml.symm) dX11_meanMarks_55 dX11_meanMarks_58 dX11_meanMarks_59 dX11_meanMarks_62 (fun x h => (hxt x h).elim) (Nat.le_of_ble_eq_true rfl) (Nat.le_of_ble_eq_true rfl) (Nat.le_of_ble_eq_true rfl) (Nat.le_of_ble_eq_true rfl) hlocks (fun t ha h1 h2 => ⟨(), trivial, rfl, thr_F hS h1 h2⟩) hS.2.2 (Nat.le_of_ble_eq_true rfl) (Nat.le_of_ble_eq_true rfl)
  · exact (c13_1 (by decide)).elim

set_option maxHeartbeats 4000000 in
set_option maxRecDepth 100000 in
/-- X11_checksum -/
theorem c_X11_checksum (l : Launch) (hfl : l.stackTraces = false) (dC : Nat → ClassId) (dI : Nat → Nat → Nat) (ya ms ju li ct tg fw : Nat) (sz : Nat) : vx_Met l yX11_checksum wsX11_checksum ({ frames := 0, cells := 0, slots := 0, locals := 0 }) (va_Pc [.ref ya] (cPCz (zX) dC dI [(ya, .inr (16, [.ref ms, .int 0, .ref ju, .ref li, .ref ct, .ref tg, .ref fw]))] [] sz)) (va_Ql (fun (r : Int64) (u : Unit) => r = 7) (fun (u : Unit) t => cQB dC dI [] [] (va_A [(ya, .inr (16, [.ref ms, .int 0, .ref ju, .ref li, .ref ct, .ref tg, .ref fw]))] sz) t) (va_A [(ya, .inr (16, [.ref ms, .int 0, .ref ju, .ref li, .ref ct, .ref tg, .ref fw]))] sz)) (vx_X (fun (_ : Unit) => True) (fun (E9 : String) (_ : Unit) (_ : State) => False) (va_A [(ya, .inr (16, [.ref ms, .int 0, .ref ju, .ref li, .ref ct, .ref tg, .ref fw]))] sz)) 0 0 (va_A [(ya, .inr (16, [.ref ms, .int 0, .ref ju, .ref li, .ref ct, .ref tg, .ref fw]))] sz) := by
  refine vx_ofW (cc := cX11_checksum) (maxL := 4) (ret := (some .long)) (by decide) rfl ?_
  intro p e s m args below meth c s₁ B hml hxt hv
  obtain ⟨rfl, ⟨hsz, hP, hK, hD0, hN⟩, hZ⟩ := hv
  have hx := B.exec
  have hb := B.bytes
  have hr := B.returns
  have hts := atoms_spec (ws := wsX11_checksum) B.pre
  have hown : s.vm.findClass RX11 = some m.cls := findClass_of_methodNamed B.named
  have hlocks := B.notSynchronized
  subst hsz
  have hD := hD0.self (sz := s.heap.size)
  generalize hAe : va_A [(ya, .inr (16, [.ref ms, .int 0, .ref ju, .ref li, .ref ct, .ref tg, .ref fw]))] s.heap.size = A at hD hZ ⊢
  have hA : ∀ q : Nat, s.heap.size ≤ q → A q := fun q h => by rw [← hAe]; exact Or.inr h
  have hS : va_S A s.heap s.heap [] := va_S.rf
  have hP : va_P (dC, dI) vwCl [(ya, .inr (16, [.ref ms, .int 0, .ref ju, .ref li, .ref ct, .ref tg, .ref fw]))] s.heap := hP
  have hD : va_D A [(ya, .inr (16, [.ref ms, .int 0, .ref ju, .ref li, .ref ct, .ref tg, .ref fw]))] := hD
  have hl := lv_entry ([.ref ya]) (n := 4) (Nat.le_of_ble_eq_true rfl)
  rw [lg_entry_eq]
  generalize (lg_sl ([.ref ya]) ++ List.replicate (4 - (lg_sl ([.ref ya])).length) Slot.unset).toArray = ls at hl ⊢
  have hl : lv_has ls 4 [(0, .ref ya)] := hl
  have iWX11 : ∀ w ∈ u_ws RX11 TX11 7, w ∈ wsX11_checksum := by decide +kernel
  refine lv_ldc2 (v := (7)) hx hb hown (hts (.constantLong RX11 290 (7)) (by decide +kernel)) dX11_checksum_0 ?_
  refine lv_lstore_n (lv' := [(1, .long (7)), (0, .ref ya)]) hx hb dX11_checksum_3 rfl hl (by decide) rfl (fun ls hl => ?_)
  refine lv_iconst (v := 0) hx hb dX11_checksum_4 (by decide) ?_
  refine lv_istore_n (lv' := [(3, .int 0), (1, .long (7)), (0, .ref ya)]) hx hb dX11_checksum_5 rfl hl (by decide) rfl (fun ls hl => ?_)
  refine lv_iload_n hx hb dX11_checksum_6 rfl (lv_at hl 0 rfl) ?_
  refine lv_aload_n hx hb dX11_checksum_7 rfl (lv_at hl 2 rfl) ?_
  refine va_get (D := (dC, dI)) (ci := 16) (v := .int 0) (C := RX11) (T := TX11) (N := 7) hx hb hts iWX11 hown hK hP 0 rfl rfl 1 (by decide) (hts (.fieldLink RX11 15 "Beaverhall" "machineCount" "I") (by decide +kernel)) (fun _ h9 => h9) rfl dX11_checksum_8 ?_
  refine lv_icmp_ge (tgt := 30) hx hb dX11_checksum_11 (by decide) (fun c11_1 => ?_) (fun c11_1 => ?_)
  · refine lv_lload_n hx hb dX11_checksum_30 rfl (lv_at hl 1 rfl) ?_
    refine vx_ret ?_
    have hP9 := hP.sub (ws' := []) [] rfl
    have hD9 := hD.sub (ws' := []) [] (by decide) rfl
    have hK9 := hK.sub (tys' := []) [] rfl
    exact W.lret (v := (7)) hx hb hr (fun t ht hW => ⟨⟨(7), (), rfl, rfl, ⟨by rw [ht]; exact hP9, va_K.moved hW.alike hK9, hD9⟩⟩, hS.F ht⟩) hS.2.2 dX11_checksum_31
  · exact (c11_1 (by decide)).elim

set_option maxHeartbeats 4000000 in
set_option maxRecDepth 100000 in
/-- X11_isSound -/
theorem c_X11_isSound (l : Launch) (hfl : l.stackTraces = false) (dC : Nat → ClassId) (dI : Nat → Nat → Nat) (ya ms ju li ct tg fw : Nat) (sz : Nat) : vx_Met l yX11_isSound wsX11_isSound ({ frames := 0, cells := 0, slots := 0, locals := 0 }) (va_Pc [.ref ya] (cPCz (zX) dC dI [(ya, .inr (16, [.ref ms, .int 0, .ref ju, .ref li, .ref ct, .ref tg, .ref fw]))] [] sz)) (va_Qi (fun (r : Int32) (u : Unit) => r = 1) (fun (u : Unit) t => cQB dC dI [] [] (va_A [(ya, .inr (16, [.ref ms, .int 0, .ref ju, .ref li, .ref ct, .ref tg, .ref fw]))] sz) t) (va_A [(ya, .inr (16, [.ref ms, .int 0, .ref ju, .ref li, .ref ct, .ref tg, .ref fw]))] sz)) (vx_X (fun (_ : Unit) => True) (fun (E9 : String) (_ : Unit) (_ : State) => False) (va_A [(ya, .inr (16, [.ref ms, .int 0, .ref ju, .ref li, .ref ct, .ref tg, .ref fw]))] sz)) 0 0 (va_A [(ya, .inr (16, [.ref ms, .int 0, .ref ju, .ref li, .ref ct, .ref tg, .ref fw]))] sz) := by
  refine vx_ofW (cc := cX11_isSound) (maxL := 2) (ret := (some .boolean)) (by decide) rfl ?_
  intro p e s m args below meth c s₁ B hml hxt hv
  obtain ⟨rfl, ⟨hsz, hP, hK, hD0, hN⟩, hZ⟩ := hv
  have hx := B.exec
  have hb := B.bytes
  have hr := B.returns
  have hts := atoms_spec (ws := wsX11_isSound) B.pre
  have hown : s.vm.findClass RX11 = some m.cls := findClass_of_methodNamed B.named
  have hlocks := B.notSynchronized
  subst hsz
  have hD := hD0.self (sz := s.heap.size)
  generalize hAe : va_A [(ya, .inr (16, [.ref ms, .int 0, .ref ju, .ref li, .ref ct, .ref tg, .ref fw]))] s.heap.size = A at hD hZ ⊢
  have hA : ∀ q : Nat, s.heap.size ≤ q → A q := fun q h => by rw [← hAe]; exact Or.inr h
  have hS : va_S A s.heap s.heap [] := va_S.rf
  have hP : va_P (dC, dI) vwCl [(ya, .inr (16, [.ref ms, .int 0, .ref ju, .ref li, .ref ct, .ref tg, .ref fw]))] s.heap := hP
  have hD : va_D A [(ya, .inr (16, [.ref ms, .int 0, .ref ju, .ref li, .ref ct, .ref tg, .ref fw]))] := hD
  have hl := lv_entry ([.ref ya]) (n := 2) (Nat.le_of_ble_eq_true rfl)
  rw [lg_entry_eq]
  generalize (lg_sl ([.ref ya]) ++ List.replicate (2 - (lg_sl ([.ref ya])).length) Slot.unset).toArray = ls at hl ⊢
  have hl : lv_has ls 2 [(0, .ref ya)] := hl
  have iWX11 : ∀ w ∈ u_ws RX11 TX11 7, w ∈ wsX11_isSound := by decide +kernel
  refine lv_iconst (v := 0) hx hb dX11_isSound_0 (by decide) ?_
  refine lv_istore_n (lv' := [(1, .int 0), (0, .ref ya)]) hx hb dX11_isSound_1 rfl hl (by decide) rfl (fun ls hl => ?_)
  refine lv_iload_n hx hb dX11_isSound_2 rfl (lv_at hl 0 rfl) ?_
  refine lv_aload_n hx hb dX11_isSound_3 rfl (lv_at hl 1 rfl) ?_
  refine va_get (D := (dC, dI)) (ci := 16) (v := .int 0) (C := RX11) (T := TX11) (N := 7) hx hb hts iWX11 hown hK hP 0 rfl rfl 1 (by decide) (hts (.fieldLink RX11 15 "Beaverhall" "machineCount" "I") (by decide +kernel)) (fun _ h9 => h9) rfl dX11_isSound_4 ?_
  refine lv_icmp_ge (tgt := 33) hx hb dX11_isSound_7 (by decide) (fun c7_1 => ?_) (fun c7_1 => ?_)
  · refine lv_iconst (v := 1) hx hb dX11_isSound_33 (by decide) ?_
    refine vx_ret ?_
    have hP9 := hP.sub (ws' := []) [] rfl
    have hD9 := hD.sub (ws' := []) [] (by decide) rfl
    have hK9 := hK.sub (tys' := []) [] rfl
    exact W.zret (v := 1) hx hb hr (by rfl) (fun t ht hW => ⟨⟨1, (), rfl, rfl, ⟨by rw [ht]; exact hP9, va_K.moved hW.alike hK9, hD9⟩⟩, hS.F ht⟩) hS.2.2 dX11_isSound_34
  · exact (c7_1 (by decide)).elim

set_option maxHeartbeats 4000000 in
set_option maxRecDepth 100000 in
/-- X11_count -/
theorem c_X11_count (l : Launch) (hfl : l.stackTraces = false) (dC : Nat → ClassId) (dI : Nat → Nat → Nat) (cI : ClassId) (ya ms ju li ct tg fw : Nat) (cr cu cg cp co : Nat) (f1 f2 f3 f4 : Nat → Int32) (a1 a2 a3 a4 : Int32) (sz : Nat) : vx_Met l yX11_count wsX11_count ({ frames := 7, cells := 3, slots := 18, locals := 120 }) (va_Pc [.ref ya, .int a1, .int a2, .int a3, .int a4] (cPCz (zX) dC dI [(ya, .inr (16, [.ref ms, .int 0, .ref ju, .ref li, .ref ct, .ref tg, .ref fw])), (ct, .inr (5, [.int 0, .ref cr, .ref cu, .ref cg, .ref cp, .ref co])), (cu, .inl (cI, 12, .inl f1)), (cg, .inl (cI, 12, .inl f2)), (cp, .inl (cI, 12, .inl f3)), (co, .inl (cI, 12, .inl f4))] [(cI, .int)] sz)) (va_Qi (fun (r : Int32) (u : Unit) => r = 1 ∧ pCount a1 a2 a3 a4) (fun (u : Unit) t => cQB dC dI [] [(cI, .int)] (va_A [(ya, .inr (16, [.ref ms, .int 0, .ref ju, .ref li, .ref ct, .ref tg, .ref fw])), (ct, .inr (5, [.int 0, .ref cr, .ref cu, .ref cg, .ref cp, .ref co])), (cu, .inl (cI, 12, .inl f1)), (cg, .inl (cI, 12, .inl f2)), (cp, .inl (cI, 12, .inl f3)), (co, .inl (cI, 12, .inl f4))] sz) t) (va_A [(ya, .inr (16, [.ref ms, .int 0, .ref ju, .ref li, .ref ct, .ref tg, .ref fw])), (ct, .inr (5, [.int 0, .ref cr, .ref cu, .ref cg, .ref cp, .ref co])), (cu, .inl (cI, 12, .inl f1)), (cg, .inl (cI, 12, .inl f2)), (cp, .inl (cI, 12, .inl f3)), (co, .inl (cI, 12, .inl f4))] sz)) (vx_X (fun (_ : Unit) => True) (fun (E9 : String) (_ : Unit) (_ : State) => E9 = "java/lang/IllegalArgumentException" ∧ ¬ pCount a1 a2 a3 a4) (va_A [(ya, .inr (16, [.ref ms, .int 0, .ref ju, .ref li, .ref ct, .ref tg, .ref fw])), (ct, .inr (5, [.int 0, .ref cr, .ref cu, .ref cg, .ref cp, .ref co])), (cu, .inl (cI, 12, .inl f1)), (cg, .inl (cI, 12, .inl f2)), (cp, .inl (cI, 12, .inl f3)), (co, .inl (cI, 12, .inl f4))] sz)) 3 18 (va_A [(ya, .inr (16, [.ref ms, .int 0, .ref ju, .ref li, .ref ct, .ref tg, .ref fw])), (ct, .inr (5, [.int 0, .ref cr, .ref cu, .ref cg, .ref cp, .ref co])), (cu, .inl (cI, 12, .inl f1)), (cg, .inl (cI, 12, .inl f2)), (cp, .inl (cI, 12, .inl f3)), (co, .inl (cI, 12, .inl f4))] sz) := by
  refine vx_ofW (cc := cX11_count) (maxL := 5) (ret := (some .int)) (by decide) rfl ?_
  intro p e s m args below meth c s₁ B hml hxt hv
  obtain ⟨rfl, ⟨hsz, hP, hK, hD0, hN⟩, hZ⟩ := hv
  have hx := B.exec
  have hb := B.bytes
  have hr := B.returns
  have hts := atoms_spec (ws := wsX11_count) B.pre
  have hown : s.vm.findClass RX11 = some m.cls := findClass_of_methodNamed B.named
  have hlocks := B.notSynchronized
  subst hsz
  have hD := hD0.self (sz := s.heap.size)
  generalize hAe : va_A [(ya, .inr (16, [.ref ms, .int 0, .ref ju, .ref li, .ref ct, .ref tg, .ref fw])), (ct, .inr (5, [.int 0, .ref cr, .ref cu, .ref cg, .ref cp, .ref co])), (cu, .inl (cI, 12, .inl f1)), (cg, .inl (cI, 12, .inl f2)), (cp, .inl (cI, 12, .inl f3)), (co, .inl (cI, 12, .inl f4))] s.heap.size = A at hD hZ ⊢
  have hA : ∀ q : Nat, s.heap.size ≤ q → A q := fun q h => by rw [← hAe]; exact Or.inr h
  have hS : va_S A s.heap s.heap [] := va_S.rf
  have hP : va_P (dC, dI) vwCl [(ya, .inr (16, [.ref ms, .int 0, .ref ju, .ref li, .ref ct, .ref tg, .ref fw])), (ct, .inr (5, [.int 0, .ref cr, .ref cu, .ref cg, .ref cp, .ref co])), (cu, .inl (cI, 12, .inl f1)), (cg, .inl (cI, 12, .inl f2)), (cp, .inl (cI, 12, .inl f3)), (co, .inl (cI, 12, .inl f4))] s.heap := hP
  have hD : va_D A [(ya, .inr (16, [.ref ms, .int 0, .ref ju, .ref li, .ref ct, .ref tg, .ref fw])), (ct, .inr (5, [.int 0, .ref cr, .ref cu, .ref cg, .ref cp, .ref co])), (cu, .inl (cI, 12, .inl f1)), (cg, .inl (cI, 12, .inl f2)), (cp, .inl (cI, 12, .inl f3)), (co, .inl (cI, 12, .inl f4))] := hD
  have hl := lv_entry ([.ref ya, .int a1, .int a2, .int a3, .int a4]) (n := 5) (Nat.le_of_ble_eq_true rfl)
  rw [lg_entry_eq]
  generalize (lg_sl ([.ref ya, .int a1, .int a2, .int a3, .int a4]) ++ List.replicate (5 - (lg_sl ([.ref ya, .int a1, .int a2, .int a3, .int a4])).length) Slot.unset).toArray = ls at hl ⊢
  have hl : lv_has ls 5 [(0, .ref ya), (1, .int a1), (2, .int a2), (3, .int a3), (4, .int a4)] := hl
  have iWX0 : ∀ w ∈ u_ws RX0 TX0 6, w ∈ wsX11_count := by decide +kernel
  have iWX11 : ∀ w ∈ u_ws RX11 TX11 7, w ∈ wsX11_count := by decide +kernel
  refine lv_iload_n hx hb dX11_count_0 rfl (lv_at hl 1 rfl) ?_
  refine lv_bipush (v := 43) hx hb dX11_count_1 (by decide) ?_
  refine lv_icmp_eq (tgt := 12) hx hb dX11_count_3 (by decide) (fun c3_1 => ?_) (fun c3_1 => ?_)
  · refine lv_iconst (v := 1) hx hb dX11_count_12 (by decide) ?_
    refine lv_goto (tgt := 17) hx hb dX11_count_13 (by decide) ?_
    have hPc := hP.sub (ws' := []) [] rfl
    have hDc := hD.sub (ws' := []) [] (by decide) rfl
    have hKc := hK.sub (tys' := []) [] rfl
    have hFc := va_free (wc := []) hD hS hA [] rfl
    refine vx_callv (vx_runS (As := [.int 1]) (rest := []) ⟨hx, hb, hml, hown, hts⟩ (c_X11_demand l hfl dC dI 1 s.heap.size) (va_cwS 1 hts gX11_count_X11_demand rfl rfl rfl (by decide +kernel) ⟨Nat.le_of_ble_eq_true rfl, Nat.le_of_ble_eq_true rfl⟩) (pcSz (zX_ok) hPc hDc hKc hN hZ hS hFc) rfl rfl hl.1 rfl (lv_room (Nat.le_of_ble_eq_true rfl)) dX11_count_17 ⟨Nat.le_of_ble_eq_true rfl, Nat.le_of_ble_eq_true rfl⟩) hS (fun q _ h => hFc q h) hFc (fun q _ h => hFc q h) (fun E9 ce9 q9 u9 t9 H9 locs9 ht9 hvm9 hp9 hE9 hz9 hk9 hS9 hc9 hv9 hcl9 => absurd hE9.2 (by decide)) (fun u t H1 locs ht hvm hw_2 hB hz1 hk1 hS => ?_)
    obtain ⟨hP1, hK1, hD1⟩ := hB
    rw [ht] at hP1
    try dsimp only at hw_2
    obtain ⟨hP, hD⟩ := va_join (wr := [(ya, .inr (16, [.ref ms, .int 0, .ref ju, .ref li, .ref ct, .ref tg, .ref fw])), (ct, .inr (5, [.int 0, .ref cr, .ref cu, .ref cg, .ref cp, .ref co])), (cu, .inl (cI, 12, .inl f1)), (cg, .inl (cI, 12, .inl f2)), (cp, .inl (cI, 12, .inl f3)), (co, .inl (cI, 12, .inl f4))]) (w1 := []) hP hD [] [0, 1, 2, 3, 4, 5] rfl rfl (by decide) (by decide) hk1 hFc hP1 hD1
    generalize H1 = H at hP hS ⊢
    have hP : va_P (dC, dI) vwCl [(ya, .inr (16, [.ref ms, .int 0, .ref ju, .ref li, .ref ct, .ref tg, .ref fw])), (ct, .inr (5, [.int 0, .ref cr, .ref cu, .ref cg, .ref cp, .ref co])), (cu, .inl (cI, 12, .inl f1)), (cg, .inl (cI, 12, .inl f2)), (cp, .inl (cI, 12, .inl f3)), (co, .inl (cI, 12, .inl f4))] H := hP
    have hD : va_D A [(ya, .inr (16, [.ref ms, .int 0, .ref ju, .ref li, .ref ct, .ref tg, .ref fw])), (ct, .inr (5, [.int 0, .ref cr, .ref cu, .ref cg, .ref cp, .ref co])), (cu, .inl (cI, 12, .inl f1)), (cg, .inl (cI, 12, .inl f2)), (cp, .inl (cI, 12, .inl f3)), (co, .inl (cI, 12, .inl f4))] := hD
    refine W.widen (k := 1) (n := 6) (Nat.le_of_ble_eq_true rfl) (Nat.le_of_ble_eq_true rfl) ?_
    refine lv_iload_n hx hb dX11_count_20 rfl (lv_at hl 2 rfl) ?_
    refine lv_iconst (v := 0) hx hb dX11_count_21 (by decide) ?_
    refine lv_iconst (v := 3) hx hb dX11_count_22 (by decide) ?_
    have hPc := hP.sub (ws' := []) [] rfl
    have hDc := hD.sub (ws' := []) [] (by decide) rfl
    have hKc := hK.sub (tys' := []) [] rfl
    have hFc := va_free (wc := []) hD hS hA [] rfl
    refine va_calli (va_runS (As := [.int a2, .int 0, .int 3]) (rest := []) ⟨hx, hb, hml, hown, hts⟩ (c_X11_isWithin l dC dI a2 0 3 H.size) (va_cwS 3 hts gX11_count_X11_isWithin rfl rfl rfl (by decide +kernel) ⟨Nat.le_of_ble_eq_true rfl, Nat.le_of_ble_eq_true rfl⟩) (pcS hPc hDc hKc hN) rfl rfl hl.1 rfl (lv_room (Nat.le_of_ble_eq_true rfl)) dX11_count_23 ⟨Nat.le_of_ble_eq_true rfl, Nat.le_of_ble_eq_true rfl⟩) hS (fun q _ h => hFc q h) hFc (fun r_3 u t H1 locs ht hvm hw_4 hB hz1 hk1 hS => ?_)
    obtain ⟨hP1, hK1, hD1⟩ := hB
    rw [ht] at hP1
    try dsimp only at hw_4
    obtain ⟨hP, hD⟩ := va_join (wr := [(ya, .inr (16, [.ref ms, .int 0, .ref ju, .ref li, .ref ct, .ref tg, .ref fw])), (ct, .inr (5, [.int 0, .ref cr, .ref cu, .ref cg, .ref cp, .ref co])), (cu, .inl (cI, 12, .inl f1)), (cg, .inl (cI, 12, .inl f2)), (cp, .inl (cI, 12, .inl f3)), (co, .inl (cI, 12, .inl f4))]) (w1 := []) hP hD [] [0, 1, 2, 3, 4, 5] rfl rfl (by decide) (by decide) hk1 hFc hP1 hD1
    generalize H1 = H at hP hS ⊢
    have hP : va_P (dC, dI) vwCl [(ya, .inr (16, [.ref ms, .int 0, .ref ju, .ref li, .ref ct, .ref tg, .ref fw])), (ct, .inr (5, [.int 0, .ref cr, .ref cu, .ref cg, .ref cp, .ref co])), (cu, .inl (cI, 12, .inl f1)), (cg, .inl (cI, 12, .inl f2)), (cp, .inl (cI, 12, .inl f3)), (co, .inl (cI, 12, .inl f4))] H := hP
    have hD : va_D A [(ya, .inr (16, [.ref ms, .int 0, .ref ju, .ref li, .ref ct, .ref tg, .ref fw])), (ct, .inr (5, [.int 0, .ref cr, .ref cu, .ref cg, .ref cp, .ref co])), (cu, .inl (cI, 12, .inl f1)), (cg, .inl (cI, 12, .inl f2)), (cp, .inl (cI, 12, .inl f3)), (co, .inl (cI, 12, .inl f4))] := hD
    have hq_5 : (r_3 = 1 ∧ 0 ≤ a2 ∧ a2 ≤ 3) ∨ (r_3 = 0 ∧ ¬ (0 ≤ a2 ∧ a2 ≤ 3)) := by rw [hw_4]; exact within_iff
    refine lv_if_eq (tgt := 43) hx hb dX11_count_26 (by decide) (fun c26_6 => ?_) (fun c26_6 => ?_)
    · have hn_7 := (hq_5).elim (fun h => absurd (h.1.symm.trans c26_6) (by decide)) (fun h => h.2)
      refine lv_iconst (v := 0) hx hb dX11_count_43 (by decide) ?_
      have hPc := hP.sub (ws' := []) [] rfl
      have hDc := hD.sub (ws' := []) [] (by decide) rfl
      have hKc := hK.sub (tys' := []) [] rfl
      have hFc := va_free (wc := []) hD hS hA [] rfl
      refine vx_callv (vx_runS (As := [.int 0]) (rest := []) ⟨hx, hb, hml, hown, hts⟩ (c_X11_demand l hfl dC dI 0 H.size) (va_cwS 1 hts gX11_count_X11_demand rfl rfl rfl (by decide +kernel) ⟨Nat.le_of_ble_eq_true rfl, Nat.le_of_ble_eq_true rfl⟩) (pcSz (zX_ok) hPc hDc hKc hN hZ hS hFc) rfl rfl hl.1 rfl (lv_room (Nat.le_of_ble_eq_true rfl)) dX11_count_44 ⟨Nat.le_of_ble_eq_true rfl, Nat.le_of_ble_eq_true rfl⟩) hS (fun q _ h => hFc q h) hFc (fun q _ h => hFc q h) (fun E9 ce9 q9 u9 t9 H9 locs9 ht9 hvm9 hp9 hE9 hz9 hk9 hS9 hc9 hv9 hcl9 => vx_out (fun x h => (hxt x h).elim) hlocks hc9 hv9 hcl9 (fun t1 ht1 ha1 => ⟨(), trivial, ⟨hE9.1, fun h => hn_7 h.2.1⟩, hS9.F ht1⟩) hS9.2.2 (Nat.le_of_ble_eq_true rfl) (Nat.le_of_ble_eq_true rfl)) (fun u t H1 locs ht hvm hw_8 hB hz1 hk1 hS => ?_)
      obtain ⟨hP1, hK1, hD1⟩ := hB
      rw [ht] at hP1
      try dsimp only at hw_8
      obtain ⟨hP, hD⟩ := va_join (wr := [(ya, .inr (16, [.ref ms, .int 0, .ref ju, .ref li, .ref ct, .ref tg, .ref fw])), (ct, .inr (5, [.int 0, .ref cr, .ref cu, .ref cg, .ref cp, .ref co])), (cu, .inl (cI, 12, .inl f1)), (cg, .inl (cI, 12, .inl f2)), (cp, .inl (cI, 12, .inl f3)), (co, .inl (cI, 12, .inl f4))]) (w1 := []) hP hD [] [0, 1, 2, 3, 4, 5] rfl rfl (by decide) (by decide) hk1 hFc hP1 hD1
      generalize H1 = H at hP hS ⊢
      have hP : va_P (dC, dI) vwCl [(ya, .inr (16, [.ref ms, .int 0, .ref ju, .ref li, .ref ct, .ref tg, .ref fw])), (ct, .inr (5, [.int 0, .ref cr, .ref cu, .ref cg, .ref cp, .ref co])), (cu, .inl (cI, 12, .inl f1)), (cg, .inl (cI, 12, .inl f2)), (cp, .inl (cI, 12, .inl f3)), (co, .inl (cI, 12, .inl f4))] H := hP
      have hD : va_D A [(ya, .inr (16, [.ref ms, .int 0, .ref ju, .ref li, .ref ct, .ref tg, .ref fw])), (ct, .inr (5, [.int 0, .ref cr, .ref cu, .ref cg, .ref cp, .ref co])), (cu, .inl (cI, 12, .inl f1)), (cg, .inl (cI, 12, .inl f2)), (cp, .inl (cI, 12, .inl f3)), (co, .inl (cI, 12, .inl f4))] := hD
      refine W.widen (k := 2) (n := 12) (Nat.le_of_ble_eq_true rfl) (Nat.le_of_ble_eq_true rfl) ?_
      exact absurd rfl hw_8
    · have hn_9 := (hq_5).elim (fun h => h.2) (fun h => absurd h.1 c26_6)
      refine lv_iload_n hx hb dX11_count_29 rfl (lv_at hl 3 rfl) ?_
      refine lv_iconst (v := 0) hx hb dX11_count_30 (by decide) ?_
      refine lv_bipush (v := 12) hx hb dX11_count_31 (by decide) ?_
      have hPc := hP.sub (ws' := []) [] rfl
      have hDc := hD.sub (ws' := []) [] (by decide) rfl
      have hKc := hK.sub (tys' := []) [] rfl
      have hFc := va_free (wc := []) hD hS hA [] rfl
      refine va_calli (va_runS (As := [.int a3, .int 0, .int 12]) (rest := []) ⟨hx, hb, hml, hown, hts⟩ (c_X11_isWithin l dC dI a3 0 12 H.size) (va_cwS 3 hts gX11_count_X11_isWithin rfl rfl rfl (by decide +kernel) ⟨Nat.le_of_ble_eq_true rfl, Nat.le_of_ble_eq_true rfl⟩) (pcS hPc hDc hKc hN) rfl rfl hl.1 rfl (lv_room (Nat.le_of_ble_eq_true rfl)) dX11_count_33 ⟨Nat.le_of_ble_eq_true rfl, Nat.le_of_ble_eq_true rfl⟩) hS (fun q _ h => hFc q h) hFc (fun r_10 u t H1 locs ht hvm hw_11 hB hz1 hk1 hS => ?_)
      obtain ⟨hP1, hK1, hD1⟩ := hB
      rw [ht] at hP1
      try dsimp only at hw_11
      obtain ⟨hP, hD⟩ := va_join (wr := [(ya, .inr (16, [.ref ms, .int 0, .ref ju, .ref li, .ref ct, .ref tg, .ref fw])), (ct, .inr (5, [.int 0, .ref cr, .ref cu, .ref cg, .ref cp, .ref co])), (cu, .inl (cI, 12, .inl f1)), (cg, .inl (cI, 12, .inl f2)), (cp, .inl (cI, 12, .inl f3)), (co, .inl (cI, 12, .inl f4))]) (w1 := []) hP hD [] [0, 1, 2, 3, 4, 5] rfl rfl (by decide) (by decide) hk1 hFc hP1 hD1
      generalize H1 = H at hP hS ⊢
      have hP : va_P (dC, dI) vwCl [(ya, .inr (16, [.ref ms, .int 0, .ref ju, .ref li, .ref ct, .ref tg, .ref fw])), (ct, .inr (5, [.int 0, .ref cr, .ref cu, .ref cg, .ref cp, .ref co])), (cu, .inl (cI, 12, .inl f1)), (cg, .inl (cI, 12, .inl f2)), (cp, .inl (cI, 12, .inl f3)), (co, .inl (cI, 12, .inl f4))] H := hP
      have hD : va_D A [(ya, .inr (16, [.ref ms, .int 0, .ref ju, .ref li, .ref ct, .ref tg, .ref fw])), (ct, .inr (5, [.int 0, .ref cr, .ref cu, .ref cg, .ref cp, .ref co])), (cu, .inl (cI, 12, .inl f1)), (cg, .inl (cI, 12, .inl f2)), (cp, .inl (cI, 12, .inl f3)), (co, .inl (cI, 12, .inl f4))] := hD
      have hq_12 : (r_10 = 1 ∧ 0 ≤ a3 ∧ a3 ≤ 12) ∨ (r_10 = 0 ∧ ¬ (0 ≤ a3 ∧ a3 ≤ 12)) := by rw [hw_11]; exact within_iff
      refine lv_if_eq (tgt := 43) hx hb dX11_count_36 (by decide) (fun c36_13 => ?_) (fun c36_13 => ?_)
      · have hn_14 := (hq_12).elim (fun h => absurd (h.1.symm.trans c36_13) (by decide)) (fun h => h.2)
        refine lv_iconst (v := 0) hx hb dX11_count_43 (by decide) ?_
        have hPc := hP.sub (ws' := []) [] rfl
        have hDc := hD.sub (ws' := []) [] (by decide) rfl
        have hKc := hK.sub (tys' := []) [] rfl
        have hFc := va_free (wc := []) hD hS hA [] rfl
        refine vx_callv (vx_runS (As := [.int 0]) (rest := []) ⟨hx, hb, hml, hown, hts⟩ (c_X11_demand l hfl dC dI 0 H.size) (va_cwS 1 hts gX11_count_X11_demand rfl rfl rfl (by decide +kernel) ⟨Nat.le_of_ble_eq_true rfl, Nat.le_of_ble_eq_true rfl⟩) (pcSz (zX_ok) hPc hDc hKc hN hZ hS hFc) rfl rfl hl.1 rfl (lv_room (Nat.le_of_ble_eq_true rfl)) dX11_count_44 ⟨Nat.le_of_ble_eq_true rfl, Nat.le_of_ble_eq_true rfl⟩) hS (fun q _ h => hFc q h) hFc (fun q _ h => hFc q h) (fun E9 ce9 q9 u9 t9 H9 locs9 ht9 hvm9 hp9 hE9 hz9 hk9 hS9 hc9 hv9 hcl9 => vx_out (fun x h => (hxt x h).elim) hlocks hc9 hv9 hcl9 (fun t1 ht1 ha1 => ⟨(), trivial, ⟨hE9.1, fun h => hn_14 h.2.2.1⟩, hS9.F ht1⟩) hS9.2.2 (Nat.le_of_ble_eq_true rfl) (Nat.le_of_ble_eq_true rfl)) (fun u t H1 locs ht hvm hw_15 hB hz1 hk1 hS => ?_)
        obtain ⟨hP1, hK1, hD1⟩ := hB
        rw [ht] at hP1
        try dsimp only at hw_15
        obtain ⟨hP, hD⟩ := va_join (wr := [(ya, .inr (16, [.ref ms, .int 0, .ref ju, .ref li, .ref ct, .ref tg, .ref fw])), (ct, .inr (5, [.int 0, .ref cr, .ref cu, .ref cg, .ref cp, .ref co])), (cu, .inl (cI, 12, .inl f1)), (cg, .inl (cI, 12, .inl f2)), (cp, .inl (cI, 12, .inl f3)), (co, .inl (cI, 12, .inl f4))]) (w1 := []) hP hD [] [0, 1, 2, 3, 4, 5] rfl rfl (by decide) (by decide) hk1 hFc hP1 hD1
        generalize H1 = H at hP hS ⊢
        have hP : va_P (dC, dI) vwCl [(ya, .inr (16, [.ref ms, .int 0, .ref ju, .ref li, .ref ct, .ref tg, .ref fw])), (ct, .inr (5, [.int 0, .ref cr, .ref cu, .ref cg, .ref cp, .ref co])), (cu, .inl (cI, 12, .inl f1)), (cg, .inl (cI, 12, .inl f2)), (cp, .inl (cI, 12, .inl f3)), (co, .inl (cI, 12, .inl f4))] H := hP
        have hD : va_D A [(ya, .inr (16, [.ref ms, .int 0, .ref ju, .ref li, .ref ct, .ref tg, .ref fw])), (ct, .inr (5, [.int 0, .ref cr, .ref cu, .ref cg, .ref cp, .ref co])), (cu, .inl (cI, 12, .inl f1)), (cg, .inl (cI, 12, .inl f2)), (cp, .inl (cI, 12, .inl f3)), (co, .inl (cI, 12, .inl f4))] := hD
        refine W.widen (k := 2) (n := 12) (Nat.le_of_ble_eq_true rfl) (Nat.le_of_ble_eq_true rfl) ?_
        exact absurd rfl hw_15
      · have hn_16 := (hq_12).elim (fun h => h.2) (fun h => absurd h.1 c36_13)
        refine lv_iconst (v := 1) hx hb dX11_count_39 (by decide) ?_
        refine lv_goto (tgt := 44) hx hb dX11_count_40 (by decide) ?_
        have hPc := hP.sub (ws' := []) [] rfl
        have hDc := hD.sub (ws' := []) [] (by decide) rfl
        have hKc := hK.sub (tys' := []) [] rfl
        have hFc := va_free (wc := []) hD hS hA [] rfl
        refine vx_callv (vx_runS (As := [.int 1]) (rest := []) ⟨hx, hb, hml, hown, hts⟩ (c_X11_demand l hfl dC dI 1 H.size) (va_cwS 1 hts gX11_count_X11_demand rfl rfl rfl (by decide +kernel) ⟨Nat.le_of_ble_eq_true rfl, Nat.le_of_ble_eq_true rfl⟩) (pcSz (zX_ok) hPc hDc hKc hN hZ hS hFc) rfl rfl hl.1 rfl (lv_room (Nat.le_of_ble_eq_true rfl)) dX11_count_44 ⟨Nat.le_of_ble_eq_true rfl, Nat.le_of_ble_eq_true rfl⟩) hS (fun q _ h => hFc q h) hFc (fun q _ h => hFc q h) (fun E9 ce9 q9 u9 t9 H9 locs9 ht9 hvm9 hp9 hE9 hz9 hk9 hS9 hc9 hv9 hcl9 => absurd hE9.2 (by decide)) (fun u t H1 locs ht hvm hw_17 hB hz1 hk1 hS => ?_)
        obtain ⟨hP1, hK1, hD1⟩ := hB
        rw [ht] at hP1
        try dsimp only at hw_17
        obtain ⟨hP, hD⟩ := va_join (wr := [(ya, .inr (16, [.ref ms, .int 0, .ref ju, .ref li, .ref ct, .ref tg, .ref fw])), (ct, .inr (5, [.int 0, .ref cr, .ref cu, .ref cg, .ref cp, .ref co])), (cu, .inl (cI, 12, .inl f1)), (cg, .inl (cI, 12, .inl f2)), (cp, .inl (cI, 12, .inl f3)), (co, .inl (cI, 12, .inl f4))]) (w1 := []) hP hD [] [0, 1, 2, 3, 4, 5] rfl rfl (by decide) (by decide) hk1 hFc hP1 hD1
        generalize H1 = H at hP hS ⊢
        have hP : va_P (dC, dI) vwCl [(ya, .inr (16, [.ref ms, .int 0, .ref ju, .ref li, .ref ct, .ref tg, .ref fw])), (ct, .inr (5, [.int 0, .ref cr, .ref cu, .ref cg, .ref cp, .ref co])), (cu, .inl (cI, 12, .inl f1)), (cg, .inl (cI, 12, .inl f2)), (cp, .inl (cI, 12, .inl f3)), (co, .inl (cI, 12, .inl f4))] H := hP
        have hD : va_D A [(ya, .inr (16, [.ref ms, .int 0, .ref ju, .ref li, .ref ct, .ref tg, .ref fw])), (ct, .inr (5, [.int 0, .ref cr, .ref cu, .ref cg, .ref cp, .ref co])), (cu, .inl (cI, 12, .inl f1)), (cg, .inl (cI, 12, .inl f2)), (cp, .inl (cI, 12, .inl f3)), (co, .inl (cI, 12, .inl f4))] := hD
        refine W.widen (k := 2) (n := 12) (Nat.le_of_ble_eq_true rfl) (Nat.le_of_ble_eq_true rfl) ?_
        refine lv_iload_n hx hb dX11_count_47 rfl (lv_at hl 1 rfl) ?_
        refine lv_bipush (v := 43) hx hb dX11_count_48 (by decide) ?_
        refine lv_icmp_eq (tgt := 64) hx hb dX11_count_50 (by decide) (fun c50_18 => ?_) (fun c50_18 => ?_)
        · refine lv_iconst (v := 1) hx hb dX11_count_64 (by decide) ?_
          refine lv_goto (tgt := 69) hx hb dX11_count_65 (by decide) ?_
          have hPc := hP.sub (ws' := []) [] rfl
          have hDc := hD.sub (ws' := []) [] (by decide) rfl
          have hKc := hK.sub (tys' := []) [] rfl
          have hFc := va_free (wc := []) hD hS hA [] rfl
          refine vx_callv (vx_runS (As := [.int 1]) (rest := []) ⟨hx, hb, hml, hown, hts⟩ (c_X11_demand l hfl dC dI 1 H.size) (va_cwS 1 hts gX11_count_X11_demand rfl rfl rfl (by decide +kernel) ⟨Nat.le_of_ble_eq_true rfl, Nat.le_of_ble_eq_true rfl⟩) (pcSz (zX_ok) hPc hDc hKc hN hZ hS hFc) rfl rfl hl.1 rfl (lv_room (Nat.le_of_ble_eq_true rfl)) dX11_count_69 ⟨Nat.le_of_ble_eq_true rfl, Nat.le_of_ble_eq_true rfl⟩) hS (fun q _ h => hFc q h) hFc (fun q _ h => hFc q h) (fun E9 ce9 q9 u9 t9 H9 locs9 ht9 hvm9 hp9 hE9 hz9 hk9 hS9 hc9 hv9 hcl9 => absurd hE9.2 (by decide)) (fun u t H1 locs ht hvm hw_19 hB hz1 hk1 hS => ?_)
          obtain ⟨hP1, hK1, hD1⟩ := hB
          rw [ht] at hP1
          try dsimp only at hw_19
          obtain ⟨hP, hD⟩ := va_join (wr := [(ya, .inr (16, [.ref ms, .int 0, .ref ju, .ref li, .ref ct, .ref tg, .ref fw])), (ct, .inr (5, [.int 0, .ref cr, .ref cu, .ref cg, .ref cp, .ref co])), (cu, .inl (cI, 12, .inl f1)), (cg, .inl (cI, 12, .inl f2)), (cp, .inl (cI, 12, .inl f3)), (co, .inl (cI, 12, .inl f4))]) (w1 := []) hP hD [] [0, 1, 2, 3, 4, 5] rfl rfl (by decide) (by decide) hk1 hFc hP1 hD1
          generalize H1 = H at hP hS ⊢
          have hP : va_P (dC, dI) vwCl [(ya, .inr (16, [.ref ms, .int 0, .ref ju, .ref li, .ref ct, .ref tg, .ref fw])), (ct, .inr (5, [.int 0, .ref cr, .ref cu, .ref cg, .ref cp, .ref co])), (cu, .inl (cI, 12, .inl f1)), (cg, .inl (cI, 12, .inl f2)), (cp, .inl (cI, 12, .inl f3)), (co, .inl (cI, 12, .inl f4))] H := hP
          have hD : va_D A [(ya, .inr (16, [.ref ms, .int 0, .ref ju, .ref li, .ref ct, .ref tg, .ref fw])), (ct, .inr (5, [.int 0, .ref cr, .ref cu, .ref cg, .ref cp, .ref co])), (cu, .inl (cI, 12, .inl f1)), (cg, .inl (cI, 12, .inl f2)), (cp, .inl (cI, 12, .inl f3)), (co, .inl (cI, 12, .inl f4))] := hD
          refine W.widen (k := 3) (n := 18) (Nat.le_of_ble_eq_true rfl) (Nat.le_of_ble_eq_true rfl) ?_
          refine lv_aload_n hx hb dX11_count_72 rfl (lv_at hl 0 rfl) ?_
          refine va_get (D := (dC, dI)) (ci := 16) (v := .ref ct) (C := RX11) (T := TX11) (N := 7) hx hb hts iWX11 hown hK hP 0 rfl rfl 4 (by decide) (hts (.fieldLink RX11 36 "Beaverhall" "counters" "LBeaverhall$Counters;") (by decide +kernel)) (fun _ h9 => h9) rfl dX11_count_73 ?_
          refine va_get (D := (dC, dI)) (ci := 5) (v := .int 0) (C := RX0) (T := TX0) (N := 6) hx hb hts iWX0 hown hK hP 1 rfl rfl 0 (by decide) (hts (.fieldLink RX11 225 "Beaverhall$Counters" "size" "I") (by decide +kernel)) (fun _ h9 => h9) rfl dX11_count_76 ?_
          refine lv_bipush (v := 12) hx hb dX11_count_79 (by decide) ?_
          refine lv_icmp_lt (tgt := 92) hx hb dX11_count_81 (by decide) (fun c81_20 => ?_) (fun c81_20 => ?_)
          · refine lv_aload_n hx hb dX11_count_92 rfl (lv_at hl 0 rfl) ?_
            refine va_get (D := (dC, dI)) (ci := 16) (v := .ref ct) (C := RX11) (T := TX11) (N := 7) hx hb hts iWX11 hown hK hP 0 rfl rfl 4 (by decide) (hts (.fieldLink RX11 36 "Beaverhall" "counters" "LBeaverhall$Counters;") (by decide +kernel)) (fun _ h9 => h9) rfl dX11_count_93 ?_
            refine lv_iload_n hx hb dX11_count_96 rfl (lv_at hl 1 rfl) ?_
            refine lv_bipush (v := 43) hx hb dX11_count_97 (by decide) ?_
            refine lv_icmp_ne (tgt := 106) hx hb dX11_count_99 (by decide) (fun c99_21 => ?_) (fun c99_21 => ?_)
            · refine lv_iconst (v := 0) hx hb dX11_count_106 (by decide) ?_
              refine lv_iload_n hx hb dX11_count_107 rfl (lv_at hl 2 rfl) ?_
              refine lv_iload_n hx hb dX11_count_108 rfl (lv_at hl 3 rfl) ?_
              refine lv_iload hx hb dX11_count_109 (lv_at hl 4 rfl) ?_
              have hPc := hP.sub (ws' := [(ct, .inr (5, [.int 0, .ref cr, .ref cu, .ref cg, .ref cp, .ref co])), (cu, .inl (cI, 12, .inl f1)), (cg, .inl (cI, 12, .inl f2)), (cp, .inl (cI, 12, .inl f3)), (co, .inl (cI, 12, .inl f4))]) [1, 2, 3, 4, 5] rfl
              have hDc := hD.sub (ws' := [(ct, .inr (5, [.int 0, .ref cr, .ref cu, .ref cg, .ref cp, .ref co])), (cu, .inl (cI, 12, .inl f1)), (cg, .inl (cI, 12, .inl f2)), (cp, .inl (cI, 12, .inl f3)), (co, .inl (cI, 12, .inl f4))]) [1, 2, 3, 4, 5] (by decide) rfl
              have hKc := hK.sub (tys' := [(cI, .int)]) [0] rfl
              have hFc := va_free (wc := [(ct, .inr (5, [.int 0, .ref cr, .ref cu, .ref cg, .ref cp, .ref co])), (cu, .inl (cI, 12, .inl f1)), (cg, .inl (cI, 12, .inl f2)), (cp, .inl (cI, 12, .inl f3)), (co, .inl (cI, 12, .inl f4))]) hD hS hA [1, 2, 3, 4, 5] rfl
              refine va_callv (va_runV (As := [.int 0, .int a2, .int a3, .int a4]) (rest := []) ⟨hx, hb, hml, hown, hts⟩ (c_X0_add l dC dI cI ct cr cu cg cp co f1 f2 f3 f4 0 a2 a3 a4 H.size) (cwV 4 hts gX11_count_X0_add rfl rfl rfl (by decide +kernel) ⟨Nat.le_of_ble_eq_true rfl, Nat.le_of_ble_eq_true rfl⟩) (pcV hPc hDc hKc hN (ci := 5) (q0 := 0) rfl rfl) rfl rfl hl.1 rfl (lv_room (Nat.le_of_ble_eq_true rfl)) dX11_count_111 ⟨Nat.le_of_ble_eq_true rfl, Nat.le_of_ble_eq_true rfl⟩) hS (fun q _ h => hFc q h) hFc (fun u t H1 locs ht hvm hw_22 hB hz1 hk1 hS => ?_)
              obtain ⟨hP1, hK1, hD1⟩ := hB
              rw [ht] at hP1
              try dsimp only at hw_22
              obtain ⟨hP, hD⟩ := va_join (wr := [(ya, .inr (16, [.ref ms, .int 0, .ref ju, .ref li, .ref ct, .ref tg, .ref fw]))]) (w1 := [(ct, .inr (5, [.int 1, .ref cr, .ref cu, .ref cg, .ref cp, .ref co]))]) hP hD [1, 2, 3, 4, 5] [0] rfl rfl (by decide) (by decide) hk1 hFc hP1 hD1
              generalize H1 = H at hP hS ⊢
              have hP : va_P (dC, dI) vwCl [(ya, .inr (16, [.ref ms, .int 0, .ref ju, .ref li, .ref ct, .ref tg, .ref fw])), (ct, .inr (5, [.int 1, .ref cr, .ref cu, .ref cg, .ref cp, .ref co]))] H := hP
              have hD : va_D A [(ya, .inr (16, [.ref ms, .int 0, .ref ju, .ref li, .ref ct, .ref tg, .ref fw])), (ct, .inr (5, [.int 1, .ref cr, .ref cu, .ref cg, .ref cp, .ref co]))] := hD
              refine lv_aload_n hx hb dX11_count_114 rfl (lv_at hl 0 rfl) ?_
              refine va_get (D := (dC, dI)) (ci := 16) (v := .ref ct) (C := RX11) (T := TX11) (N := 7) hx hb hts iWX11 hown hK hP 0 rfl rfl 4 (by decide) (hts (.fieldLink RX11 36 "Beaverhall" "counters" "LBeaverhall$Counters;") (by decide +kernel)) (fun _ h9 => h9) rfl dX11_count_115 ?_
              refine va_get (D := (dC, dI)) (ci := 5) (v := .int 1) (C := RX0) (T := TX0) (N := 6) hx hb hts iWX0 hown hK hP 1 rfl rfl 0 (by decide) (hts (.fieldLink RX11 225 "Beaverhall$Counters" "size" "I") (by decide +kernel)) (fun _ h9 => h9) rfl dX11_count_118 ?_
              refine vx_ret ?_
              have hP9 := hP.sub (ws' := []) [] rfl
              have hD9 := hD.sub (ws' := []) [] (by decide) rfl
              have hK9 := hK.sub (tys' := [(cI, .int)]) [0] rfl
              exact W.iret (v := 1) hx hb hr (fun t ht hW => ⟨⟨1, (), rfl, ⟨rfl, Or.inl c3_1, hn_9, hn_16, Or.inl c50_18⟩, ⟨by rw [ht]; exact hP9, va_K.moved hW.alike hK9, hD9⟩⟩, hS.F ht⟩) hS.2.2 dX11_count_121
            · refine lv_iconst (v := 1) hx hb dX11_count_102 (by decide) ?_
              refine lv_goto (tgt := 107) hx hb dX11_count_103 (by decide) ?_
              refine lv_iload_n hx hb dX11_count_107 rfl (lv_at hl 2 rfl) ?_
              refine lv_iload_n hx hb dX11_count_108 rfl (lv_at hl 3 rfl) ?_
              refine lv_iload hx hb dX11_count_109 (lv_at hl 4 rfl) ?_
              have hPc := hP.sub (ws' := [(ct, .inr (5, [.int 0, .ref cr, .ref cu, .ref cg, .ref cp, .ref co])), (cu, .inl (cI, 12, .inl f1)), (cg, .inl (cI, 12, .inl f2)), (cp, .inl (cI, 12, .inl f3)), (co, .inl (cI, 12, .inl f4))]) [1, 2, 3, 4, 5] rfl
              have hDc := hD.sub (ws' := [(ct, .inr (5, [.int 0, .ref cr, .ref cu, .ref cg, .ref cp, .ref co])), (cu, .inl (cI, 12, .inl f1)), (cg, .inl (cI, 12, .inl f2)), (cp, .inl (cI, 12, .inl f3)), (co, .inl (cI, 12, .inl f4))]) [1, 2, 3, 4, 5] (by decide) rfl
              have hKc := hK.sub (tys' := [(cI, .int)]) [0] rfl
              have hFc := va_free (wc := [(ct, .inr (5, [.int 0, .ref cr, .ref cu, .ref cg, .ref cp, .ref co])), (cu, .inl (cI, 12, .inl f1)), (cg, .inl (cI, 12, .inl f2)), (cp, .inl (cI, 12, .inl f3)), (co, .inl (cI, 12, .inl f4))]) hD hS hA [1, 2, 3, 4, 5] rfl
              refine va_callv (va_runV (As := [.int 1, .int a2, .int a3, .int a4]) (rest := []) ⟨hx, hb, hml, hown, hts⟩ (c_X0_add l dC dI cI ct cr cu cg cp co f1 f2 f3 f4 1 a2 a3 a4 H.size) (cwV 4 hts gX11_count_X0_add rfl rfl rfl (by decide +kernel) ⟨Nat.le_of_ble_eq_true rfl, Nat.le_of_ble_eq_true rfl⟩) (pcV hPc hDc hKc hN (ci := 5) (q0 := 0) rfl rfl) rfl rfl hl.1 rfl (lv_room (Nat.le_of_ble_eq_true rfl)) dX11_count_111 ⟨Nat.le_of_ble_eq_true rfl, Nat.le_of_ble_eq_true rfl⟩) hS (fun q _ h => hFc q h) hFc (fun u t H1 locs ht hvm hw_23 hB hz1 hk1 hS => ?_)
              obtain ⟨hP1, hK1, hD1⟩ := hB
              rw [ht] at hP1
              try dsimp only at hw_23
              obtain ⟨hP, hD⟩ := va_join (wr := [(ya, .inr (16, [.ref ms, .int 0, .ref ju, .ref li, .ref ct, .ref tg, .ref fw]))]) (w1 := [(ct, .inr (5, [.int 1, .ref cr, .ref cu, .ref cg, .ref cp, .ref co]))]) hP hD [1, 2, 3, 4, 5] [0] rfl rfl (by decide) (by decide) hk1 hFc hP1 hD1
              generalize H1 = H at hP hS ⊢
              have hP : va_P (dC, dI) vwCl [(ya, .inr (16, [.ref ms, .int 0, .ref ju, .ref li, .ref ct, .ref tg, .ref fw])), (ct, .inr (5, [.int 1, .ref cr, .ref cu, .ref cg, .ref cp, .ref co]))] H := hP
              have hD : va_D A [(ya, .inr (16, [.ref ms, .int 0, .ref ju, .ref li, .ref ct, .ref tg, .ref fw])), (ct, .inr (5, [.int 1, .ref cr, .ref cu, .ref cg, .ref cp, .ref co]))] := hD
              refine lv_aload_n hx hb dX11_count_114 rfl (lv_at hl 0 rfl) ?_
              refine va_get (D := (dC, dI)) (ci := 16) (v := .ref ct) (C := RX11) (T := TX11) (N := 7) hx hb hts iWX11 hown hK hP 0 rfl rfl 4 (by decide) (hts (.fieldLink RX11 36 "Beaverhall" "counters" "LBeaverhall$Counters;") (by decide +kernel)) (fun _ h9 => h9) rfl dX11_count_115 ?_
              refine va_get (D := (dC, dI)) (ci := 5) (v := .int 1) (C := RX0) (T := TX0) (N := 6) hx hb hts iWX0 hown hK hP 1 rfl rfl 0 (by decide) (hts (.fieldLink RX11 225 "Beaverhall$Counters" "size" "I") (by decide +kernel)) (fun _ h9 => h9) rfl dX11_count_118 ?_
              refine vx_ret ?_
              have hP9 := hP.sub (ws' := []) [] rfl
              have hD9 := hD.sub (ws' := []) [] (by decide) rfl
              have hK9 := hK.sub (tys' := [(cI, .int)]) [0] rfl
              exact W.iret (v := 1) hx hb hr (fun t ht hW => ⟨⟨1, (), rfl, ⟨rfl, Or.inl c3_1, hn_9, hn_16, Or.inl c50_18⟩, ⟨by rw [ht]; exact hP9, va_K.moved hW.alike hK9, hD9⟩⟩, hS.F ht⟩) hS.2.2 dX11_count_121
          · exact (c81_20 (by decide)).elim
        · refine lv_iload hx hb dX11_count_53 (lv_at hl 4 rfl) ?_
          refine lv_iconst (v := 0) hx hb dX11_count_55 (by decide) ?_
          refine lv_bipush (v := 12) hx hb dX11_count_56 (by decide) ?_
          have hPc := hP.sub (ws' := []) [] rfl
          have hDc := hD.sub (ws' := []) [] (by decide) rfl
          have hKc := hK.sub (tys' := []) [] rfl
          have hFc := va_free (wc := []) hD hS hA [] rfl
          refine va_calli (va_runS (As := [.int a4, .int 0, .int 12]) (rest := []) ⟨hx, hb, hml, hown, hts⟩ (c_X11_isWithin l dC dI a4 0 12 H.size) (va_cwS 3 hts gX11_count_X11_isWithin rfl rfl rfl (by decide +kernel) ⟨Nat.le_of_ble_eq_true rfl, Nat.le_of_ble_eq_true rfl⟩) (pcS hPc hDc hKc hN) rfl rfl hl.1 rfl (lv_room (Nat.le_of_ble_eq_true rfl)) dX11_count_58 ⟨Nat.le_of_ble_eq_true rfl, Nat.le_of_ble_eq_true rfl⟩) hS (fun q _ h => hFc q h) hFc (fun r_24 u t H1 locs ht hvm hw_25 hB hz1 hk1 hS => ?_)
          obtain ⟨hP1, hK1, hD1⟩ := hB
          rw [ht] at hP1
          try dsimp only at hw_25
          obtain ⟨hP, hD⟩ := va_join (wr := [(ya, .inr (16, [.ref ms, .int 0, .ref ju, .ref li, .ref ct, .ref tg, .ref fw])), (ct, .inr (5, [.int 0, .ref cr, .ref cu, .ref cg, .ref cp, .ref co])), (cu, .inl (cI, 12, .inl f1)), (cg, .inl (cI, 12, .inl f2)), (cp, .inl (cI, 12, .inl f3)), (co, .inl (cI, 12, .inl f4))]) (w1 := []) hP hD [] [0, 1, 2, 3, 4, 5] rfl rfl (by decide) (by decide) hk1 hFc hP1 hD1
          generalize H1 = H at hP hS ⊢
          have hP : va_P (dC, dI) vwCl [(ya, .inr (16, [.ref ms, .int 0, .ref ju, .ref li, .ref ct, .ref tg, .ref fw])), (ct, .inr (5, [.int 0, .ref cr, .ref cu, .ref cg, .ref cp, .ref co])), (cu, .inl (cI, 12, .inl f1)), (cg, .inl (cI, 12, .inl f2)), (cp, .inl (cI, 12, .inl f3)), (co, .inl (cI, 12, .inl f4))] H := hP
          have hD : va_D A [(ya, .inr (16, [.ref ms, .int 0, .ref ju, .ref li, .ref ct, .ref tg, .ref fw])), (ct, .inr (5, [.int 0, .ref cr, .ref cu, .ref cg, .ref cp, .ref co])), (cu, .inl (cI, 12, .inl f1)), (cg, .inl (cI, 12, .inl f2)), (cp, .inl (cI, 12, .inl f3)), (co, .inl (cI, 12, .inl f4))] := hD
          have hq_26 : (r_24 = 1 ∧ 0 ≤ a4 ∧ a4 ≤ 12) ∨ (r_24 = 0 ∧ ¬ (0 ≤ a4 ∧ a4 ≤ 12)) := by rw [hw_25]; exact within_iff
          refine lv_if_eq (tgt := 68) hx hb dX11_count_61 (by decide) (fun c61_27 => ?_) (fun c61_27 => ?_)
          · have hn_28 := (hq_26).elim (fun h => absurd (h.1.symm.trans c61_27) (by decide)) (fun h => h.2)
            refine lv_iconst (v := 0) hx hb dX11_count_68 (by decide) ?_
            have hPc := hP.sub (ws' := []) [] rfl
            have hDc := hD.sub (ws' := []) [] (by decide) rfl
            have hKc := hK.sub (tys' := []) [] rfl
            have hFc := va_free (wc := []) hD hS hA [] rfl
            refine vx_callv (vx_runS (As := [.int 0]) (rest := []) ⟨hx, hb, hml, hown, hts⟩ (c_X11_demand l hfl dC dI 0 H.size) (va_cwS 1 hts gX11_count_X11_demand rfl rfl rfl (by decide +kernel) ⟨Nat.le_of_ble_eq_true rfl, Nat.le_of_ble_eq_true rfl⟩) (pcSz (zX_ok) hPc hDc hKc hN hZ hS hFc) rfl rfl hl.1 rfl (lv_room (Nat.le_of_ble_eq_true rfl)) dX11_count_69 ⟨Nat.le_of_ble_eq_true rfl, Nat.le_of_ble_eq_true rfl⟩) hS (fun q _ h => hFc q h) hFc (fun q _ h => hFc q h) (fun E9 ce9 q9 u9 t9 H9 locs9 ht9 hvm9 hp9 hE9 hz9 hk9 hS9 hc9 hv9 hcl9 => vx_out (fun x h => (hxt x h).elim) hlocks hc9 hv9 hcl9 (fun t1 ht1 ha1 => ⟨(), trivial, ⟨hE9.1, fun h => h.2.2.2.elim c50_18 (fun h => hn_28 h)⟩, hS9.F ht1⟩) hS9.2.2 (Nat.le_of_ble_eq_true rfl) (Nat.le_of_ble_eq_true rfl)) (fun u t H1 locs ht hvm hw_29 hB hz1 hk1 hS => ?_)
            obtain ⟨hP1, hK1, hD1⟩ := hB
            rw [ht] at hP1
            try dsimp only at hw_29
            obtain ⟨hP, hD⟩ := va_join (wr := [(ya, .inr (16, [.ref ms, .int 0, .ref ju, .ref li, .ref ct, .ref tg, .ref fw])), (ct, .inr (5, [.int 0, .ref cr, .ref cu, .ref cg, .ref cp, .ref co])), (cu, .inl (cI, 12, .inl f1)), (cg, .inl (cI, 12, .inl f2)), (cp, .inl (cI, 12, .inl f3)), (co, .inl (cI, 12, .inl f4))]) (w1 := []) hP hD [] [0, 1, 2, 3, 4, 5] rfl rfl (by decide) (by decide) hk1 hFc hP1 hD1
            generalize H1 = H at hP hS ⊢
            have hP : va_P (dC, dI) vwCl [(ya, .inr (16, [.ref ms, .int 0, .ref ju, .ref li, .ref ct, .ref tg, .ref fw])), (ct, .inr (5, [.int 0, .ref cr, .ref cu, .ref cg, .ref cp, .ref co])), (cu, .inl (cI, 12, .inl f1)), (cg, .inl (cI, 12, .inl f2)), (cp, .inl (cI, 12, .inl f3)), (co, .inl (cI, 12, .inl f4))] H := hP
            have hD : va_D A [(ya, .inr (16, [.ref ms, .int 0, .ref ju, .ref li, .ref ct, .ref tg, .ref fw])), (ct, .inr (5, [.int 0, .ref cr, .ref cu, .ref cg, .ref cp, .ref co])), (cu, .inl (cI, 12, .inl f1)), (cg, .inl (cI, 12, .inl f2)), (cp, .inl (cI, 12, .inl f3)), (co, .inl (cI, 12, .inl f4))] := hD
            refine W.widen (k := 3) (n := 18) (Nat.le_of_ble_eq_true rfl) (Nat.le_of_ble_eq_true rfl) ?_
            exact absurd rfl hw_29
          · have hn_30 := (hq_26).elim (fun h => h.2) (fun h => absurd h.1 c61_27)
            refine lv_iconst (v := 1) hx hb dX11_count_64 (by decide) ?_
            refine lv_goto (tgt := 69) hx hb dX11_count_65 (by decide) ?_
            have hPc := hP.sub (ws' := []) [] rfl
            have hDc := hD.sub (ws' := []) [] (by decide) rfl
            have hKc := hK.sub (tys' := []) [] rfl
            have hFc := va_free (wc := []) hD hS hA [] rfl
            refine vx_callv (vx_runS (As := [.int 1]) (rest := []) ⟨hx, hb, hml, hown, hts⟩ (c_X11_demand l hfl dC dI 1 H.size) (va_cwS 1 hts gX11_count_X11_demand rfl rfl rfl (by decide +kernel) ⟨Nat.le_of_ble_eq_true rfl, Nat.le_of_ble_eq_true rfl⟩) (pcSz (zX_ok) hPc hDc hKc hN hZ hS hFc) rfl rfl hl.1 rfl (lv_room (Nat.le_of_ble_eq_true rfl)) dX11_count_69 ⟨Nat.le_of_ble_eq_true rfl, Nat.le_of_ble_eq_true rfl⟩) hS (fun q _ h => hFc q h) hFc (fun q _ h => hFc q h) (fun E9 ce9 q9 u9 t9 H9 locs9 ht9 hvm9 hp9 hE9 hz9 hk9 hS9 hc9 hv9 hcl9 => absurd hE9.2 (by decide)) (fun u t H1 locs ht hvm hw_31 hB hz1 hk1 hS => ?_)
            obtain ⟨hP1, hK1, hD1⟩ := hB
            rw [ht] at hP1
            try dsimp only at hw_31
            obtain ⟨hP, hD⟩ := va_join (wr := [(ya, .inr (16, [.ref ms, .int 0, .ref ju, .ref li, .ref ct, .ref tg, .ref fw])), (ct, .inr (5, [.int 0, .ref cr, .ref cu, .ref cg, .ref cp, .ref co])), (cu, .inl (cI, 12, .inl f1)), (cg, .inl (cI, 12, .inl f2)), (cp, .inl (cI, 12, .inl f3)), (co, .inl (cI, 12, .inl f4))]) (w1 := []) hP hD [] [0, 1, 2, 3, 4, 5] rfl rfl (by decide) (by decide) hk1 hFc hP1 hD1
            generalize H1 = H at hP hS ⊢
            have hP : va_P (dC, dI) vwCl [(ya, .inr (16, [.ref ms, .int 0, .ref ju, .ref li, .ref ct, .ref tg, .ref fw])), (ct, .inr (5, [.int 0, .ref cr, .ref cu, .ref cg, .ref cp, .ref co])), (cu, .inl (cI, 12, .inl f1)), (cg, .inl (cI, 12, .inl f2)), (cp, .inl (cI, 12, .inl f3)), (co, .inl (cI, 12, .inl f4))] H := hP
            have hD : va_D A [(ya, .inr (16, [.ref ms, .int 0, .ref ju, .ref li, .ref ct, .ref tg, .ref fw])), (ct, .inr (5, [.int 0, .ref cr, .ref cu, .ref cg, .ref cp, .ref co])), (cu, .inl (cI, 12, .inl f1)), (cg, .inl (cI, 12, .inl f2)), (cp, .inl (cI, 12, .inl f3)), (co, .inl (cI, 12, .inl f4))] := hD
            refine W.widen (k := 3) (n := 18) (Nat.le_of_ble_eq_true rfl) (Nat.le_of_ble_eq_true rfl) ?_
            refine lv_aload_n hx hb dX11_count_72 rfl (lv_at hl 0 rfl) ?_
            refine va_get (D := (dC, dI)) (ci := 16) (v := .ref ct) (C := RX11) (T := TX11) (N := 7) hx hb hts iWX11 hown hK hP 0 rfl rfl 4 (by decide) (hts (.fieldLink RX11 36 "Beaverhall" "counters" "LBeaverhall$Counters;") (by decide +kernel)) (fun _ h9 => h9) rfl dX11_count_73 ?_
            refine va_get (D := (dC, dI)) (ci := 5) (v := .int 0) (C := RX0) (T := TX0) (N := 6) hx hb hts iWX0 hown hK hP 1 rfl rfl 0 (by decide) (hts (.fieldLink RX11 225 "Beaverhall$Counters" "size" "I") (by decide +kernel)) (fun _ h9 => h9) rfl dX11_count_76 ?_
            refine lv_bipush (v := 12) hx hb dX11_count_79 (by decide) ?_
            refine lv_icmp_lt (tgt := 92) hx hb dX11_count_81 (by decide) (fun c81_32 => ?_) (fun c81_32 => ?_)
            · refine lv_aload_n hx hb dX11_count_92 rfl (lv_at hl 0 rfl) ?_
              refine va_get (D := (dC, dI)) (ci := 16) (v := .ref ct) (C := RX11) (T := TX11) (N := 7) hx hb hts iWX11 hown hK hP 0 rfl rfl 4 (by decide) (hts (.fieldLink RX11 36 "Beaverhall" "counters" "LBeaverhall$Counters;") (by decide +kernel)) (fun _ h9 => h9) rfl dX11_count_93 ?_
              refine lv_iload_n hx hb dX11_count_96 rfl (lv_at hl 1 rfl) ?_
              refine lv_bipush (v := 43) hx hb dX11_count_97 (by decide) ?_
              refine lv_icmp_ne (tgt := 106) hx hb dX11_count_99 (by decide) (fun c99_33 => ?_) (fun c99_33 => ?_)
              · refine lv_iconst (v := 0) hx hb dX11_count_106 (by decide) ?_
                refine lv_iload_n hx hb dX11_count_107 rfl (lv_at hl 2 rfl) ?_
                refine lv_iload_n hx hb dX11_count_108 rfl (lv_at hl 3 rfl) ?_
                refine lv_iload hx hb dX11_count_109 (lv_at hl 4 rfl) ?_
                have hPc := hP.sub (ws' := [(ct, .inr (5, [.int 0, .ref cr, .ref cu, .ref cg, .ref cp, .ref co])), (cu, .inl (cI, 12, .inl f1)), (cg, .inl (cI, 12, .inl f2)), (cp, .inl (cI, 12, .inl f3)), (co, .inl (cI, 12, .inl f4))]) [1, 2, 3, 4, 5] rfl
                have hDc := hD.sub (ws' := [(ct, .inr (5, [.int 0, .ref cr, .ref cu, .ref cg, .ref cp, .ref co])), (cu, .inl (cI, 12, .inl f1)), (cg, .inl (cI, 12, .inl f2)), (cp, .inl (cI, 12, .inl f3)), (co, .inl (cI, 12, .inl f4))]) [1, 2, 3, 4, 5] (by decide) rfl
                have hKc := hK.sub (tys' := [(cI, .int)]) [0] rfl
                have hFc := va_free (wc := [(ct, .inr (5, [.int 0, .ref cr, .ref cu, .ref cg, .ref cp, .ref co])), (cu, .inl (cI, 12, .inl f1)), (cg, .inl (cI, 12, .inl f2)), (cp, .inl (cI, 12, .inl f3)), (co, .inl (cI, 12, .inl f4))]) hD hS hA [1, 2, 3, 4, 5] rfl
                refine va_callv (va_runV (As := [.int 0, .int a2, .int a3, .int a4]) (rest := []) ⟨hx, hb, hml, hown, hts⟩ (c_X0_add l dC dI cI ct cr cu cg cp co f1 f2 f3 f4 0 a2 a3 a4 H.size) (cwV 4 hts gX11_count_X0_add rfl rfl rfl (by decide +kernel) ⟨Nat.le_of_ble_eq_true rfl, Nat.le_of_ble_eq_true rfl⟩) (pcV hPc hDc hKc hN (ci := 5) (q0 := 0) rfl rfl) rfl rfl hl.1 rfl (lv_room (Nat.le_of_ble_eq_true rfl)) dX11_count_111 ⟨Nat.le_of_ble_eq_true rfl, Nat.le_of_ble_eq_true rfl⟩) hS (fun q _ h => hFc q h) hFc (fun u t H1 locs ht hvm hw_34 hB hz1 hk1 hS => ?_)
                obtain ⟨hP1, hK1, hD1⟩ := hB
                rw [ht] at hP1
                try dsimp only at hw_34
                obtain ⟨hP, hD⟩ := va_join (wr := [(ya, .inr (16, [.ref ms, .int 0, .ref ju, .ref li, .ref ct, .ref tg, .ref fw]))]) (w1 := [(ct, .inr (5, [.int 1, .ref cr, .ref cu, .ref cg, .ref cp, .ref co]))]) hP hD [1, 2, 3, 4, 5] [0] rfl rfl (by decide) (by decide) hk1 hFc hP1 hD1
                generalize H1 = H at hP hS ⊢
                have hP : va_P (dC, dI) vwCl [(ya, .inr (16, [.ref ms, .int 0, .ref ju, .ref li, .ref ct, .ref tg, .ref fw])), (ct, .inr (5, [.int 1, .ref cr, .ref cu, .ref cg, .ref cp, .ref co]))] H := hP
                have hD : va_D A [(ya, .inr (16, [.ref ms, .int 0, .ref ju, .ref li, .ref ct, .ref tg, .ref fw])), (ct, .inr (5, [.int 1, .ref cr, .ref cu, .ref cg, .ref cp, .ref co]))] := hD
                refine lv_aload_n hx hb dX11_count_114 rfl (lv_at hl 0 rfl) ?_
                refine va_get (D := (dC, dI)) (ci := 16) (v := .ref ct) (C := RX11) (T := TX11) (N := 7) hx hb hts iWX11 hown hK hP 0 rfl rfl 4 (by decide) (hts (.fieldLink RX11 36 "Beaverhall" "counters" "LBeaverhall$Counters;") (by decide +kernel)) (fun _ h9 => h9) rfl dX11_count_115 ?_
                refine va_get (D := (dC, dI)) (ci := 5) (v := .int 1) (C := RX0) (T := TX0) (N := 6) hx hb hts iWX0 hown hK hP 1 rfl rfl 0 (by decide) (hts (.fieldLink RX11 225 "Beaverhall$Counters" "size" "I") (by decide +kernel)) (fun _ h9 => h9) rfl dX11_count_118 ?_
                refine vx_ret ?_
                have hP9 := hP.sub (ws' := []) [] rfl
                have hD9 := hD.sub (ws' := []) [] (by decide) rfl
                have hK9 := hK.sub (tys' := [(cI, .int)]) [0] rfl
                exact W.iret (v := 1) hx hb hr (fun t ht hW => ⟨⟨1, (), rfl, ⟨rfl, Or.inl c3_1, hn_9, hn_16, Or.inr hn_30⟩, ⟨by rw [ht]; exact hP9, va_K.moved hW.alike hK9, hD9⟩⟩, hS.F ht⟩) hS.2.2 dX11_count_121
              · refine lv_iconst (v := 1) hx hb dX11_count_102 (by decide) ?_
                refine lv_goto (tgt := 107) hx hb dX11_count_103 (by decide) ?_
                refine lv_iload_n hx hb dX11_count_107 rfl (lv_at hl 2 rfl) ?_
                refine lv_iload_n hx hb dX11_count_108 rfl (lv_at hl 3 rfl) ?_
                refine lv_iload hx hb dX11_count_109 (lv_at hl 4 rfl) ?_
                have hPc := hP.sub (ws' := [(ct, .inr (5, [.int 0, .ref cr, .ref cu, .ref cg, .ref cp, .ref co])), (cu, .inl (cI, 12, .inl f1)), (cg, .inl (cI, 12, .inl f2)), (cp, .inl (cI, 12, .inl f3)), (co, .inl (cI, 12, .inl f4))]) [1, 2, 3, 4, 5] rfl
                have hDc := hD.sub (ws' := [(ct, .inr (5, [.int 0, .ref cr, .ref cu, .ref cg, .ref cp, .ref co])), (cu, .inl (cI, 12, .inl f1)), (cg, .inl (cI, 12, .inl f2)), (cp, .inl (cI, 12, .inl f3)), (co, .inl (cI, 12, .inl f4))]) [1, 2, 3, 4, 5] (by decide) rfl
                have hKc := hK.sub (tys' := [(cI, .int)]) [0] rfl
                have hFc := va_free (wc := [(ct, .inr (5, [.int 0, .ref cr, .ref cu, .ref cg, .ref cp, .ref co])), (cu, .inl (cI, 12, .inl f1)), (cg, .inl (cI, 12, .inl f2)), (cp, .inl (cI, 12, .inl f3)), (co, .inl (cI, 12, .inl f4))]) hD hS hA [1, 2, 3, 4, 5] rfl
                refine va_callv (va_runV (As := [.int 1, .int a2, .int a3, .int a4]) (rest := []) ⟨hx, hb, hml, hown, hts⟩ (c_X0_add l dC dI cI ct cr cu cg cp co f1 f2 f3 f4 1 a2 a3 a4 H.size) (cwV 4 hts gX11_count_X0_add rfl rfl rfl (by decide +kernel) ⟨Nat.le_of_ble_eq_true rfl, Nat.le_of_ble_eq_true rfl⟩) (pcV hPc hDc hKc hN (ci := 5) (q0 := 0) rfl rfl) rfl rfl hl.1 rfl (lv_room (Nat.le_of_ble_eq_true rfl)) dX11_count_111 ⟨Nat.le_of_ble_eq_true rfl, Nat.le_of_ble_eq_true rfl⟩) hS (fun q _ h => hFc q h) hFc (fun u t H1 locs ht hvm hw_35 hB hz1 hk1 hS => ?_)
                obtain ⟨hP1, hK1, hD1⟩ := hB
                rw [ht] at hP1
                try dsimp only at hw_35
                obtain ⟨hP, hD⟩ := va_join (wr := [(ya, .inr (16, [.ref ms, .int 0, .ref ju, .ref li, .ref ct, .ref tg, .ref fw]))]) (w1 := [(ct, .inr (5, [.int 1, .ref cr, .ref cu, .ref cg, .ref cp, .ref co]))]) hP hD [1, 2, 3, 4, 5] [0] rfl rfl (by decide) (by decide) hk1 hFc hP1 hD1
                generalize H1 = H at hP hS ⊢
                have hP : va_P (dC, dI) vwCl [(ya, .inr (16, [.ref ms, .int 0, .ref ju, .ref li, .ref ct, .ref tg, .ref fw])), (ct, .inr (5, [.int 1, .ref cr, .ref cu, .ref cg, .ref cp, .ref co]))] H := hP
                have hD : va_D A [(ya, .inr (16, [.ref ms, .int 0, .ref ju, .ref li, .ref ct, .ref tg, .ref fw])), (ct, .inr (5, [.int 1, .ref cr, .ref cu, .ref cg, .ref cp, .ref co]))] := hD
                refine lv_aload_n hx hb dX11_count_114 rfl (lv_at hl 0 rfl) ?_
                refine va_get (D := (dC, dI)) (ci := 16) (v := .ref ct) (C := RX11) (T := TX11) (N := 7) hx hb hts iWX11 hown hK hP 0 rfl rfl 4 (by decide) (hts (.fieldLink RX11 36 "Beaverhall" "counters" "LBeaverhall$Counters;") (by decide +kernel)) (fun _ h9 => h9) rfl dX11_count_115 ?_
                refine va_get (D := (dC, dI)) (ci := 5) (v := .int 1) (C := RX0) (T := TX0) (N := 6) hx hb hts iWX0 hown hK hP 1 rfl rfl 0 (by decide) (hts (.fieldLink RX11 225 "Beaverhall$Counters" "size" "I") (by decide +kernel)) (fun _ h9 => h9) rfl dX11_count_118 ?_
                refine vx_ret ?_
                have hP9 := hP.sub (ws' := []) [] rfl
                have hD9 := hD.sub (ws' := []) [] (by decide) rfl
                have hK9 := hK.sub (tys' := [(cI, .int)]) [0] rfl
                exact W.iret (v := 1) hx hb hr (fun t ht hW => ⟨⟨1, (), rfl, ⟨rfl, Or.inl c3_1, hn_9, hn_16, Or.inr hn_30⟩, ⟨by rw [ht]; exact hP9, va_K.moved hW.alike hK9, hD9⟩⟩, hS.F ht⟩) hS.2.2 dX11_count_121
            · exact (c81_32 (by decide)).elim
  · refine lv_iload_n hx hb dX11_count_6 rfl (lv_at hl 1 rfl) ?_
    refine lv_bipush (v := 45) hx hb dX11_count_7 (by decide) ?_
    refine lv_icmp_ne (tgt := 16) hx hb dX11_count_9 (by decide) (fun c9_36 => ?_) (fun c9_36 => ?_)
    · refine lv_iconst (v := 0) hx hb dX11_count_16 (by decide) ?_
      have hPc := hP.sub (ws' := []) [] rfl
      have hDc := hD.sub (ws' := []) [] (by decide) rfl
      have hKc := hK.sub (tys' := []) [] rfl
      have hFc := va_free (wc := []) hD hS hA [] rfl
      refine vx_callv (vx_runS (As := [.int 0]) (rest := []) ⟨hx, hb, hml, hown, hts⟩ (c_X11_demand l hfl dC dI 0 s.heap.size) (va_cwS 1 hts gX11_count_X11_demand rfl rfl rfl (by decide +kernel) ⟨Nat.le_of_ble_eq_true rfl, Nat.le_of_ble_eq_true rfl⟩) (pcSz (zX_ok) hPc hDc hKc hN hZ hS hFc) rfl rfl hl.1 rfl (lv_room (Nat.le_of_ble_eq_true rfl)) dX11_count_17 ⟨Nat.le_of_ble_eq_true rfl, Nat.le_of_ble_eq_true rfl⟩) hS (fun q _ h => hFc q h) hFc (fun q _ h => hFc q h) (fun E9 ce9 q9 u9 t9 H9 locs9 ht9 hvm9 hp9 hE9 hz9 hk9 hS9 hc9 hv9 hcl9 => vx_out (fun x h => (hxt x h).elim) hlocks hc9 hv9 hcl9 (fun t1 ht1 ha1 => ⟨(), trivial, ⟨hE9.1, fun h => h.1.elim c3_1 c9_36⟩, hS9.F ht1⟩) hS9.2.2 (Nat.le_of_ble_eq_true rfl) (Nat.le_of_ble_eq_true rfl)) (fun u t H1 locs ht hvm hw_37 hB hz1 hk1 hS => ?_)
      obtain ⟨hP1, hK1, hD1⟩ := hB
      rw [ht] at hP1
      try dsimp only at hw_37
      obtain ⟨hP, hD⟩ := va_join (wr := [(ya, .inr (16, [.ref ms, .int 0, .ref ju, .ref li, .ref ct, .ref tg, .ref fw])), (ct, .inr (5, [.int 0, .ref cr, .ref cu, .ref cg, .ref cp, .ref co])), (cu, .inl (cI, 12, .inl f1)), (cg, .inl (cI, 12, .inl f2)), (cp, .inl (cI, 12, .inl f3)), (co, .inl (cI, 12, .inl f4))]) (w1 := []) hP hD [] [0, 1, 2, 3, 4, 5] rfl rfl (by decide) (by decide) hk1 hFc hP1 hD1
      generalize H1 = H at hP hS ⊢
      have hP : va_P (dC, dI) vwCl [(ya, .inr (16, [.ref ms, .int 0, .ref ju, .ref li, .ref ct, .ref tg, .ref fw])), (ct, .inr (5, [.int 0, .ref cr, .ref cu, .ref cg, .ref cp, .ref co])), (cu, .inl (cI, 12, .inl f1)), (cg, .inl (cI, 12, .inl f2)), (cp, .inl (cI, 12, .inl f3)), (co, .inl (cI, 12, .inl f4))] H := hP
      have hD : va_D A [(ya, .inr (16, [.ref ms, .int 0, .ref ju, .ref li, .ref ct, .ref tg, .ref fw])), (ct, .inr (5, [.int 0, .ref cr, .ref cu, .ref cg, .ref cp, .ref co])), (cu, .inl (cI, 12, .inl f1)), (cg, .inl (cI, 12, .inl f2)), (cp, .inl (cI, 12, .inl f3)), (co, .inl (cI, 12, .inl f4))] := hD
      refine W.widen (k := 1) (n := 6) (Nat.le_of_ble_eq_true rfl) (Nat.le_of_ble_eq_true rfl) ?_
      exact absurd rfl hw_37
    · refine lv_iconst (v := 1) hx hb dX11_count_12 (by decide) ?_
      refine lv_goto (tgt := 17) hx hb dX11_count_13 (by decide) ?_
      have hPc := hP.sub (ws' := []) [] rfl
      have hDc := hD.sub (ws' := []) [] (by decide) rfl
      have hKc := hK.sub (tys' := []) [] rfl
      have hFc := va_free (wc := []) hD hS hA [] rfl
      refine vx_callv (vx_runS (As := [.int 1]) (rest := []) ⟨hx, hb, hml, hown, hts⟩ (c_X11_demand l hfl dC dI 1 s.heap.size) (va_cwS 1 hts gX11_count_X11_demand rfl rfl rfl (by decide +kernel) ⟨Nat.le_of_ble_eq_true rfl, Nat.le_of_ble_eq_true rfl⟩) (pcSz (zX_ok) hPc hDc hKc hN hZ hS hFc) rfl rfl hl.1 rfl (lv_room (Nat.le_of_ble_eq_true rfl)) dX11_count_17 ⟨Nat.le_of_ble_eq_true rfl, Nat.le_of_ble_eq_true rfl⟩) hS (fun q _ h => hFc q h) hFc (fun q _ h => hFc q h) (fun E9 ce9 q9 u9 t9 H9 locs9 ht9 hvm9 hp9 hE9 hz9 hk9 hS9 hc9 hv9 hcl9 => absurd hE9.2 (by decide)) (fun u t H1 locs ht hvm hw_38 hB hz1 hk1 hS => ?_)
      obtain ⟨hP1, hK1, hD1⟩ := hB
      rw [ht] at hP1
      try dsimp only at hw_38
      obtain ⟨hP, hD⟩ := va_join (wr := [(ya, .inr (16, [.ref ms, .int 0, .ref ju, .ref li, .ref ct, .ref tg, .ref fw])), (ct, .inr (5, [.int 0, .ref cr, .ref cu, .ref cg, .ref cp, .ref co])), (cu, .inl (cI, 12, .inl f1)), (cg, .inl (cI, 12, .inl f2)), (cp, .inl (cI, 12, .inl f3)), (co, .inl (cI, 12, .inl f4))]) (w1 := []) hP hD [] [0, 1, 2, 3, 4, 5] rfl rfl (by decide) (by decide) hk1 hFc hP1 hD1
      generalize H1 = H at hP hS ⊢
      have hP : va_P (dC, dI) vwCl [(ya, .inr (16, [.ref ms, .int 0, .ref ju, .ref li, .ref ct, .ref tg, .ref fw])), (ct, .inr (5, [.int 0, .ref cr, .ref cu, .ref cg, .ref cp, .ref co])), (cu, .inl (cI, 12, .inl f1)), (cg, .inl (cI, 12, .inl f2)), (cp, .inl (cI, 12, .inl f3)), (co, .inl (cI, 12, .inl f4))] H := hP
      have hD : va_D A [(ya, .inr (16, [.ref ms, .int 0, .ref ju, .ref li, .ref ct, .ref tg, .ref fw])), (ct, .inr (5, [.int 0, .ref cr, .ref cu, .ref cg, .ref cp, .ref co])), (cu, .inl (cI, 12, .inl f1)), (cg, .inl (cI, 12, .inl f2)), (cp, .inl (cI, 12, .inl f3)), (co, .inl (cI, 12, .inl f4))] := hD
      refine W.widen (k := 1) (n := 6) (Nat.le_of_ble_eq_true rfl) (Nat.le_of_ble_eq_true rfl) ?_
      refine lv_iload_n hx hb dX11_count_20 rfl (lv_at hl 2 rfl) ?_
      refine lv_iconst (v := 0) hx hb dX11_count_21 (by decide) ?_
      refine lv_iconst (v := 3) hx hb dX11_count_22 (by decide) ?_
      have hPc := hP.sub (ws' := []) [] rfl
      have hDc := hD.sub (ws' := []) [] (by decide) rfl
      have hKc := hK.sub (tys' := []) [] rfl
      have hFc := va_free (wc := []) hD hS hA [] rfl
      refine va_calli (va_runS (As := [.int a2, .int 0, .int 3]) (rest := []) ⟨hx, hb, hml, hown, hts⟩ (c_X11_isWithin l dC dI a2 0 3 H.size) (va_cwS 3 hts gX11_count_X11_isWithin rfl rfl rfl (by decide +kernel) ⟨Nat.le_of_ble_eq_true rfl, Nat.le_of_ble_eq_true rfl⟩) (pcS hPc hDc hKc hN) rfl rfl hl.1 rfl (lv_room (Nat.le_of_ble_eq_true rfl)) dX11_count_23 ⟨Nat.le_of_ble_eq_true rfl, Nat.le_of_ble_eq_true rfl⟩) hS (fun q _ h => hFc q h) hFc (fun r_39 u t H1 locs ht hvm hw_40 hB hz1 hk1 hS => ?_)
      obtain ⟨hP1, hK1, hD1⟩ := hB
      rw [ht] at hP1
      try dsimp only at hw_40
      obtain ⟨hP, hD⟩ := va_join (wr := [(ya, .inr (16, [.ref ms, .int 0, .ref ju, .ref li, .ref ct, .ref tg, .ref fw])), (ct, .inr (5, [.int 0, .ref cr, .ref cu, .ref cg, .ref cp, .ref co])), (cu, .inl (cI, 12, .inl f1)), (cg, .inl (cI, 12, .inl f2)), (cp, .inl (cI, 12, .inl f3)), (co, .inl (cI, 12, .inl f4))]) (w1 := []) hP hD [] [0, 1, 2, 3, 4, 5] rfl rfl (by decide) (by decide) hk1 hFc hP1 hD1
      generalize H1 = H at hP hS ⊢
      have hP : va_P (dC, dI) vwCl [(ya, .inr (16, [.ref ms, .int 0, .ref ju, .ref li, .ref ct, .ref tg, .ref fw])), (ct, .inr (5, [.int 0, .ref cr, .ref cu, .ref cg, .ref cp, .ref co])), (cu, .inl (cI, 12, .inl f1)), (cg, .inl (cI, 12, .inl f2)), (cp, .inl (cI, 12, .inl f3)), (co, .inl (cI, 12, .inl f4))] H := hP
      have hD : va_D A [(ya, .inr (16, [.ref ms, .int 0, .ref ju, .ref li, .ref ct, .ref tg, .ref fw])), (ct, .inr (5, [.int 0, .ref cr, .ref cu, .ref cg, .ref cp, .ref co])), (cu, .inl (cI, 12, .inl f1)), (cg, .inl (cI, 12, .inl f2)), (cp, .inl (cI, 12, .inl f3)), (co, .inl (cI, 12, .inl f4))] := hD
      have hq_41 : (r_39 = 1 ∧ 0 ≤ a2 ∧ a2 ≤ 3) ∨ (r_39 = 0 ∧ ¬ (0 ≤ a2 ∧ a2 ≤ 3)) := by rw [hw_40]; exact within_iff
      refine lv_if_eq (tgt := 43) hx hb dX11_count_26 (by decide) (fun c26_42 => ?_) (fun c26_42 => ?_)
      · have hn_43 := (hq_41).elim (fun h => absurd (h.1.symm.trans c26_42) (by decide)) (fun h => h.2)
        refine lv_iconst (v := 0) hx hb dX11_count_43 (by decide) ?_
        have hPc := hP.sub (ws' := []) [] rfl
        have hDc := hD.sub (ws' := []) [] (by decide) rfl
        have hKc := hK.sub (tys' := []) [] rfl
        have hFc := va_free (wc := []) hD hS hA [] rfl
        refine vx_callv (vx_runS (As := [.int 0]) (rest := []) ⟨hx, hb, hml, hown, hts⟩ (c_X11_demand l hfl dC dI 0 H.size) (va_cwS 1 hts gX11_count_X11_demand rfl rfl rfl (by decide +kernel) ⟨Nat.le_of_ble_eq_true rfl, Nat.le_of_ble_eq_true rfl⟩) (pcSz (zX_ok) hPc hDc hKc hN hZ hS hFc) rfl rfl hl.1 rfl (lv_room (Nat.le_of_ble_eq_true rfl)) dX11_count_44 ⟨Nat.le_of_ble_eq_true rfl, Nat.le_of_ble_eq_true rfl⟩) hS (fun q _ h => hFc q h) hFc (fun q _ h => hFc q h) (fun E9 ce9 q9 u9 t9 H9 locs9 ht9 hvm9 hp9 hE9 hz9 hk9 hS9 hc9 hv9 hcl9 => vx_out (fun x h => (hxt x h).elim) hlocks hc9 hv9 hcl9 (fun t1 ht1 ha1 => ⟨(), trivial, ⟨hE9.1, fun h => hn_43 h.2.1⟩, hS9.F ht1⟩) hS9.2.2 (Nat.le_of_ble_eq_true rfl) (Nat.le_of_ble_eq_true rfl)) (fun u t H1 locs ht hvm hw_44 hB hz1 hk1 hS => ?_)
        obtain ⟨hP1, hK1, hD1⟩ := hB
        rw [ht] at hP1
        try dsimp only at hw_44
        obtain ⟨hP, hD⟩ := va_join (wr := [(ya, .inr (16, [.ref ms, .int 0, .ref ju, .ref li, .ref ct, .ref tg, .ref fw])), (ct, .inr (5, [.int 0, .ref cr, .ref cu, .ref cg, .ref cp, .ref co])), (cu, .inl (cI, 12, .inl f1)), (cg, .inl (cI, 12, .inl f2)), (cp, .inl (cI, 12, .inl f3)), (co, .inl (cI, 12, .inl f4))]) (w1 := []) hP hD [] [0, 1, 2, 3, 4, 5] rfl rfl (by decide) (by decide) hk1 hFc hP1 hD1
        generalize H1 = H at hP hS ⊢
        have hP : va_P (dC, dI) vwCl [(ya, .inr (16, [.ref ms, .int 0, .ref ju, .ref li, .ref ct, .ref tg, .ref fw])), (ct, .inr (5, [.int 0, .ref cr, .ref cu, .ref cg, .ref cp, .ref co])), (cu, .inl (cI, 12, .inl f1)), (cg, .inl (cI, 12, .inl f2)), (cp, .inl (cI, 12, .inl f3)), (co, .inl (cI, 12, .inl f4))] H := hP
        have hD : va_D A [(ya, .inr (16, [.ref ms, .int 0, .ref ju, .ref li, .ref ct, .ref tg, .ref fw])), (ct, .inr (5, [.int 0, .ref cr, .ref cu, .ref cg, .ref cp, .ref co])), (cu, .inl (cI, 12, .inl f1)), (cg, .inl (cI, 12, .inl f2)), (cp, .inl (cI, 12, .inl f3)), (co, .inl (cI, 12, .inl f4))] := hD
        refine W.widen (k := 2) (n := 12) (Nat.le_of_ble_eq_true rfl) (Nat.le_of_ble_eq_true rfl) ?_
        exact absurd rfl hw_44
      · have hn_45 := (hq_41).elim (fun h => h.2) (fun h => absurd h.1 c26_42)
        refine lv_iload_n hx hb dX11_count_29 rfl (lv_at hl 3 rfl) ?_
        refine lv_iconst (v := 0) hx hb dX11_count_30 (by decide) ?_
        refine lv_bipush (v := 12) hx hb dX11_count_31 (by decide) ?_
        have hPc := hP.sub (ws' := []) [] rfl
        have hDc := hD.sub (ws' := []) [] (by decide) rfl
        have hKc := hK.sub (tys' := []) [] rfl
        have hFc := va_free (wc := []) hD hS hA [] rfl
        refine va_calli (va_runS (As := [.int a3, .int 0, .int 12]) (rest := []) ⟨hx, hb, hml, hown, hts⟩ (c_X11_isWithin l dC dI a3 0 12 H.size) (va_cwS 3 hts gX11_count_X11_isWithin rfl rfl rfl (by decide +kernel) ⟨Nat.le_of_ble_eq_true rfl, Nat.le_of_ble_eq_true rfl⟩) (pcS hPc hDc hKc hN) rfl rfl hl.1 rfl (lv_room (Nat.le_of_ble_eq_true rfl)) dX11_count_33 ⟨Nat.le_of_ble_eq_true rfl, Nat.le_of_ble_eq_true rfl⟩) hS (fun q _ h => hFc q h) hFc (fun r_46 u t H1 locs ht hvm hw_47 hB hz1 hk1 hS => ?_)
        obtain ⟨hP1, hK1, hD1⟩ := hB
        rw [ht] at hP1
        try dsimp only at hw_47
        obtain ⟨hP, hD⟩ := va_join (wr := [(ya, .inr (16, [.ref ms, .int 0, .ref ju, .ref li, .ref ct, .ref tg, .ref fw])), (ct, .inr (5, [.int 0, .ref cr, .ref cu, .ref cg, .ref cp, .ref co])), (cu, .inl (cI, 12, .inl f1)), (cg, .inl (cI, 12, .inl f2)), (cp, .inl (cI, 12, .inl f3)), (co, .inl (cI, 12, .inl f4))]) (w1 := []) hP hD [] [0, 1, 2, 3, 4, 5] rfl rfl (by decide) (by decide) hk1 hFc hP1 hD1
        generalize H1 = H at hP hS ⊢
        have hP : va_P (dC, dI) vwCl [(ya, .inr (16, [.ref ms, .int 0, .ref ju, .ref li, .ref ct, .ref tg, .ref fw])), (ct, .inr (5, [.int 0, .ref cr, .ref cu, .ref cg, .ref cp, .ref co])), (cu, .inl (cI, 12, .inl f1)), (cg, .inl (cI, 12, .inl f2)), (cp, .inl (cI, 12, .inl f3)), (co, .inl (cI, 12, .inl f4))] H := hP
        have hD : va_D A [(ya, .inr (16, [.ref ms, .int 0, .ref ju, .ref li, .ref ct, .ref tg, .ref fw])), (ct, .inr (5, [.int 0, .ref cr, .ref cu, .ref cg, .ref cp, .ref co])), (cu, .inl (cI, 12, .inl f1)), (cg, .inl (cI, 12, .inl f2)), (cp, .inl (cI, 12, .inl f3)), (co, .inl (cI, 12, .inl f4))] := hD
        have hq_48 : (r_46 = 1 ∧ 0 ≤ a3 ∧ a3 ≤ 12) ∨ (r_46 = 0 ∧ ¬ (0 ≤ a3 ∧ a3 ≤ 12)) := by rw [hw_47]; exact within_iff
        refine lv_if_eq (tgt := 43) hx hb dX11_count_36 (by decide) (fun c36_49 => ?_) (fun c36_49 => ?_)
        · have hn_50 := (hq_48).elim (fun h => absurd (h.1.symm.trans c36_49) (by decide)) (fun h => h.2)
          refine lv_iconst (v := 0) hx hb dX11_count_43 (by decide) ?_
          have hPc := hP.sub (ws' := []) [] rfl
          have hDc := hD.sub (ws' := []) [] (by decide) rfl
          have hKc := hK.sub (tys' := []) [] rfl
          have hFc := va_free (wc := []) hD hS hA [] rfl
          refine vx_callv (vx_runS (As := [.int 0]) (rest := []) ⟨hx, hb, hml, hown, hts⟩ (c_X11_demand l hfl dC dI 0 H.size) (va_cwS 1 hts gX11_count_X11_demand rfl rfl rfl (by decide +kernel) ⟨Nat.le_of_ble_eq_true rfl, Nat.le_of_ble_eq_true rfl⟩) (pcSz (zX_ok) hPc hDc hKc hN hZ hS hFc) rfl rfl hl.1 rfl (lv_room (Nat.le_of_ble_eq_true rfl)) dX11_count_44 ⟨Nat.le_of_ble_eq_true rfl, Nat.le_of_ble_eq_true rfl⟩) hS (fun q _ h => hFc q h) hFc (fun q _ h => hFc q h) (fun E9 ce9 q9 u9 t9 H9 locs9 ht9 hvm9 hp9 hE9 hz9 hk9 hS9 hc9 hv9 hcl9 => vx_out (fun x h => (hxt x h).elim) hlocks hc9 hv9 hcl9 (fun t1 ht1 ha1 => ⟨(), trivial, ⟨hE9.1, fun h => hn_50 h.2.2.1⟩, hS9.F ht1⟩) hS9.2.2 (Nat.le_of_ble_eq_true rfl) (Nat.le_of_ble_eq_true rfl)) (fun u t H1 locs ht hvm hw_51 hB hz1 hk1 hS => ?_)
          obtain ⟨hP1, hK1, hD1⟩ := hB
          rw [ht] at hP1
          try dsimp only at hw_51
          obtain ⟨hP, hD⟩ := va_join (wr := [(ya, .inr (16, [.ref ms, .int 0, .ref ju, .ref li, .ref ct, .ref tg, .ref fw])), (ct, .inr (5, [.int 0, .ref cr, .ref cu, .ref cg, .ref cp, .ref co])), (cu, .inl (cI, 12, .inl f1)), (cg, .inl (cI, 12, .inl f2)), (cp, .inl (cI, 12, .inl f3)), (co, .inl (cI, 12, .inl f4))]) (w1 := []) hP hD [] [0, 1, 2, 3, 4, 5] rfl rfl (by decide) (by decide) hk1 hFc hP1 hD1
          generalize H1 = H at hP hS ⊢
          have hP : va_P (dC, dI) vwCl [(ya, .inr (16, [.ref ms, .int 0, .ref ju, .ref li, .ref ct, .ref tg, .ref fw])), (ct, .inr (5, [.int 0, .ref cr, .ref cu, .ref cg, .ref cp, .ref co])), (cu, .inl (cI, 12, .inl f1)), (cg, .inl (cI, 12, .inl f2)), (cp, .inl (cI, 12, .inl f3)), (co, .inl (cI, 12, .inl f4))] H := hP
          have hD : va_D A [(ya, .inr (16, [.ref ms, .int 0, .ref ju, .ref li, .ref ct, .ref tg, .ref fw])), (ct, .inr (5, [.int 0, .ref cr, .ref cu, .ref cg, .ref cp, .ref co])), (cu, .inl (cI, 12, .inl f1)), (cg, .inl (cI, 12, .inl f2)), (cp, .inl (cI, 12, .inl f3)), (co, .inl (cI, 12, .inl f4))] := hD
          refine W.widen (k := 2) (n := 12) (Nat.le_of_ble_eq_true rfl) (Nat.le_of_ble_eq_true rfl) ?_
          exact absurd rfl hw_51
        · have hn_52 := (hq_48).elim (fun h => h.2) (fun h => absurd h.1 c36_49)
          refine lv_iconst (v := 1) hx hb dX11_count_39 (by decide) ?_
          refine lv_goto (tgt := 44) hx hb dX11_count_40 (by decide) ?_
          have hPc := hP.sub (ws' := []) [] rfl
          have hDc := hD.sub (ws' := []) [] (by decide) rfl
          have hKc := hK.sub (tys' := []) [] rfl
          have hFc := va_free (wc := []) hD hS hA [] rfl
          refine vx_callv (vx_runS (As := [.int 1]) (rest := []) ⟨hx, hb, hml, hown, hts⟩ (c_X11_demand l hfl dC dI 1 H.size) (va_cwS 1 hts gX11_count_X11_demand rfl rfl rfl (by decide +kernel) ⟨Nat.le_of_ble_eq_true rfl, Nat.le_of_ble_eq_true rfl⟩) (pcSz (zX_ok) hPc hDc hKc hN hZ hS hFc) rfl rfl hl.1 rfl (lv_room (Nat.le_of_ble_eq_true rfl)) dX11_count_44 ⟨Nat.le_of_ble_eq_true rfl, Nat.le_of_ble_eq_true rfl⟩) hS (fun q _ h => hFc q h) hFc (fun q _ h => hFc q h) (fun E9 ce9 q9 u9 t9 H9 locs9 ht9 hvm9 hp9 hE9 hz9 hk9 hS9 hc9 hv9 hcl9 => absurd hE9.2 (by decide)) (fun u t H1 locs ht hvm hw_53 hB hz1 hk1 hS => ?_)
          obtain ⟨hP1, hK1, hD1⟩ := hB
          rw [ht] at hP1
          try dsimp only at hw_53
          obtain ⟨hP, hD⟩ := va_join (wr := [(ya, .inr (16, [.ref ms, .int 0, .ref ju, .ref li, .ref ct, .ref tg, .ref fw])), (ct, .inr (5, [.int 0, .ref cr, .ref cu, .ref cg, .ref cp, .ref co])), (cu, .inl (cI, 12, .inl f1)), (cg, .inl (cI, 12, .inl f2)), (cp, .inl (cI, 12, .inl f3)), (co, .inl (cI, 12, .inl f4))]) (w1 := []) hP hD [] [0, 1, 2, 3, 4, 5] rfl rfl (by decide) (by decide) hk1 hFc hP1 hD1
          generalize H1 = H at hP hS ⊢
          have hP : va_P (dC, dI) vwCl [(ya, .inr (16, [.ref ms, .int 0, .ref ju, .ref li, .ref ct, .ref tg, .ref fw])), (ct, .inr (5, [.int 0, .ref cr, .ref cu, .ref cg, .ref cp, .ref co])), (cu, .inl (cI, 12, .inl f1)), (cg, .inl (cI, 12, .inl f2)), (cp, .inl (cI, 12, .inl f3)), (co, .inl (cI, 12, .inl f4))] H := hP
          have hD : va_D A [(ya, .inr (16, [.ref ms, .int 0, .ref ju, .ref li, .ref ct, .ref tg, .ref fw])), (ct, .inr (5, [.int 0, .ref cr, .ref cu, .ref cg, .ref cp, .ref co])), (cu, .inl (cI, 12, .inl f1)), (cg, .inl (cI, 12, .inl f2)), (cp, .inl (cI, 12, .inl f3)), (co, .inl (cI, 12, .inl f4))] := hD
          refine W.widen (k := 2) (n := 12) (Nat.le_of_ble_eq_true rfl) (Nat.le_of_ble_eq_true rfl) ?_
          refine lv_iload_n hx hb dX11_count_47 rfl (lv_at hl 1 rfl) ?_
          refine lv_bipush (v := 43) hx hb dX11_count_48 (by decide) ?_
          refine lv_icmp_eq (tgt := 64) hx hb dX11_count_50 (by decide) (fun c50_54 => ?_) (fun c50_54 => ?_)
          · refine lv_iconst (v := 1) hx hb dX11_count_64 (by decide) ?_
            refine lv_goto (tgt := 69) hx hb dX11_count_65 (by decide) ?_
            have hPc := hP.sub (ws' := []) [] rfl
            have hDc := hD.sub (ws' := []) [] (by decide) rfl
            have hKc := hK.sub (tys' := []) [] rfl
            have hFc := va_free (wc := []) hD hS hA [] rfl
            refine vx_callv (vx_runS (As := [.int 1]) (rest := []) ⟨hx, hb, hml, hown, hts⟩ (c_X11_demand l hfl dC dI 1 H.size) (va_cwS 1 hts gX11_count_X11_demand rfl rfl rfl (by decide +kernel) ⟨Nat.le_of_ble_eq_true rfl, Nat.le_of_ble_eq_true rfl⟩) (pcSz (zX_ok) hPc hDc hKc hN hZ hS hFc) rfl rfl hl.1 rfl (lv_room (Nat.le_of_ble_eq_true rfl)) dX11_count_69 ⟨Nat.le_of_ble_eq_true rfl, Nat.le_of_ble_eq_true rfl⟩) hS (fun q _ h => hFc q h) hFc (fun q _ h => hFc q h) (fun E9 ce9 q9 u9 t9 H9 locs9 ht9 hvm9 hp9 hE9 hz9 hk9 hS9 hc9 hv9 hcl9 => absurd hE9.2 (by decide)) (fun u t H1 locs ht hvm hw_55 hB hz1 hk1 hS => ?_)
            obtain ⟨hP1, hK1, hD1⟩ := hB
            rw [ht] at hP1
            try dsimp only at hw_55
            obtain ⟨hP, hD⟩ := va_join (wr := [(ya, .inr (16, [.ref ms, .int 0, .ref ju, .ref li, .ref ct, .ref tg, .ref fw])), (ct, .inr (5, [.int 0, .ref cr, .ref cu, .ref cg, .ref cp, .ref co])), (cu, .inl (cI, 12, .inl f1)), (cg, .inl (cI, 12, .inl f2)), (cp, .inl (cI, 12, .inl f3)), (co, .inl (cI, 12, .inl f4))]) (w1 := []) hP hD [] [0, 1, 2, 3, 4, 5] rfl rfl (by decide) (by decide) hk1 hFc hP1 hD1
            generalize H1 = H at hP hS ⊢
            have hP : va_P (dC, dI) vwCl [(ya, .inr (16, [.ref ms, .int 0, .ref ju, .ref li, .ref ct, .ref tg, .ref fw])), (ct, .inr (5, [.int 0, .ref cr, .ref cu, .ref cg, .ref cp, .ref co])), (cu, .inl (cI, 12, .inl f1)), (cg, .inl (cI, 12, .inl f2)), (cp, .inl (cI, 12, .inl f3)), (co, .inl (cI, 12, .inl f4))] H := hP
            have hD : va_D A [(ya, .inr (16, [.ref ms, .int 0, .ref ju, .ref li, .ref ct, .ref tg, .ref fw])), (ct, .inr (5, [.int 0, .ref cr, .ref cu, .ref cg, .ref cp, .ref co])), (cu, .inl (cI, 12, .inl f1)), (cg, .inl (cI, 12, .inl f2)), (cp, .inl (cI, 12, .inl f3)), (co, .inl (cI, 12, .inl f4))] := hD
            refine W.widen (k := 3) (n := 18) (Nat.le_of_ble_eq_true rfl) (Nat.le_of_ble_eq_true rfl) ?_
            refine lv_aload_n hx hb dX11_count_72 rfl (lv_at hl 0 rfl) ?_
            refine va_get (D := (dC, dI)) (ci := 16) (v := .ref ct) (C := RX11) (T := TX11) (N := 7) hx hb hts iWX11 hown hK hP 0 rfl rfl 4 (by decide) (hts (.fieldLink RX11 36 "Beaverhall" "counters" "LBeaverhall$Counters;") (by decide +kernel)) (fun _ h9 => h9) rfl dX11_count_73 ?_
            refine va_get (D := (dC, dI)) (ci := 5) (v := .int 0) (C := RX0) (T := TX0) (N := 6) hx hb hts iWX0 hown hK hP 1 rfl rfl 0 (by decide) (hts (.fieldLink RX11 225 "Beaverhall$Counters" "size" "I") (by decide +kernel)) (fun _ h9 => h9) rfl dX11_count_76 ?_
            refine lv_bipush (v := 12) hx hb dX11_count_79 (by decide) ?_
            refine lv_icmp_lt (tgt := 92) hx hb dX11_count_81 (by decide) (fun c81_56 => ?_) (fun c81_56 => ?_)
            · refine lv_aload_n hx hb dX11_count_92 rfl (lv_at hl 0 rfl) ?_
              refine va_get (D := (dC, dI)) (ci := 16) (v := .ref ct) (C := RX11) (T := TX11) (N := 7) hx hb hts iWX11 hown hK hP 0 rfl rfl 4 (by decide) (hts (.fieldLink RX11 36 "Beaverhall" "counters" "LBeaverhall$Counters;") (by decide +kernel)) (fun _ h9 => h9) rfl dX11_count_93 ?_
              refine lv_iload_n hx hb dX11_count_96 rfl (lv_at hl 1 rfl) ?_
              refine lv_bipush (v := 43) hx hb dX11_count_97 (by decide) ?_
              refine lv_icmp_ne (tgt := 106) hx hb dX11_count_99 (by decide) (fun c99_57 => ?_) (fun c99_57 => ?_)
              · refine lv_iconst (v := 0) hx hb dX11_count_106 (by decide) ?_
                refine lv_iload_n hx hb dX11_count_107 rfl (lv_at hl 2 rfl) ?_
                refine lv_iload_n hx hb dX11_count_108 rfl (lv_at hl 3 rfl) ?_
                refine lv_iload hx hb dX11_count_109 (lv_at hl 4 rfl) ?_
                have hPc := hP.sub (ws' := [(ct, .inr (5, [.int 0, .ref cr, .ref cu, .ref cg, .ref cp, .ref co])), (cu, .inl (cI, 12, .inl f1)), (cg, .inl (cI, 12, .inl f2)), (cp, .inl (cI, 12, .inl f3)), (co, .inl (cI, 12, .inl f4))]) [1, 2, 3, 4, 5] rfl
                have hDc := hD.sub (ws' := [(ct, .inr (5, [.int 0, .ref cr, .ref cu, .ref cg, .ref cp, .ref co])), (cu, .inl (cI, 12, .inl f1)), (cg, .inl (cI, 12, .inl f2)), (cp, .inl (cI, 12, .inl f3)), (co, .inl (cI, 12, .inl f4))]) [1, 2, 3, 4, 5] (by decide) rfl
                have hKc := hK.sub (tys' := [(cI, .int)]) [0] rfl
                have hFc := va_free (wc := [(ct, .inr (5, [.int 0, .ref cr, .ref cu, .ref cg, .ref cp, .ref co])), (cu, .inl (cI, 12, .inl f1)), (cg, .inl (cI, 12, .inl f2)), (cp, .inl (cI, 12, .inl f3)), (co, .inl (cI, 12, .inl f4))]) hD hS hA [1, 2, 3, 4, 5] rfl
                refine va_callv (va_runV (As := [.int 0, .int a2, .int a3, .int a4]) (rest := []) ⟨hx, hb, hml, hown, hts⟩ (c_X0_add l dC dI cI ct cr cu cg cp co f1 f2 f3 f4 0 a2 a3 a4 H.size) (cwV 4 hts gX11_count_X0_add rfl rfl rfl (by decide +kernel) ⟨Nat.le_of_ble_eq_true rfl, Nat.le_of_ble_eq_true rfl⟩) (pcV hPc hDc hKc hN (ci := 5) (q0 := 0) rfl rfl) rfl rfl hl.1 rfl (lv_room (Nat.le_of_ble_eq_true rfl)) dX11_count_111 ⟨Nat.le_of_ble_eq_true rfl, Nat.le_of_ble_eq_true rfl⟩) hS (fun q _ h => hFc q h) hFc (fun u t H1 locs ht hvm hw_58 hB hz1 hk1 hS => ?_)
                obtain ⟨hP1, hK1, hD1⟩ := hB
                rw [ht] at hP1
                try dsimp only at hw_58
                obtain ⟨hP, hD⟩ := va_join (wr := [(ya, .inr (16, [.ref ms, .int 0, .ref ju, .ref li, .ref ct, .ref tg, .ref fw]))]) (w1 := [(ct, .inr (5, [.int 1, .ref cr, .ref cu, .ref cg, .ref cp, .ref co]))]) hP hD [1, 2, 3, 4, 5] [0] rfl rfl (by decide) (by decide) hk1 hFc hP1 hD1
                generalize H1 = H at hP hS ⊢
                have hP : va_P (dC, dI) vwCl [(ya, .inr (16, [.ref ms, .int 0, .ref ju, .ref li, .ref ct, .ref tg, .ref fw])), (ct, .inr (5, [.int 1, .ref cr, .ref cu, .ref cg, .ref cp, .ref co]))] H := hP
                have hD : va_D A [(ya, .inr (16, [.ref ms, .int 0, .ref ju, .ref li, .ref ct, .ref tg, .ref fw])), (ct, .inr (5, [.int 1, .ref cr, .ref cu, .ref cg, .ref cp, .ref co]))] := hD
                refine lv_aload_n hx hb dX11_count_114 rfl (lv_at hl 0 rfl) ?_
                refine va_get (D := (dC, dI)) (ci := 16) (v := .ref ct) (C := RX11) (T := TX11) (N := 7) hx hb hts iWX11 hown hK hP 0 rfl rfl 4 (by decide) (hts (.fieldLink RX11 36 "Beaverhall" "counters" "LBeaverhall$Counters;") (by decide +kernel)) (fun _ h9 => h9) rfl dX11_count_115 ?_
                refine va_get (D := (dC, dI)) (ci := 5) (v := .int 1) (C := RX0) (T := TX0) (N := 6) hx hb hts iWX0 hown hK hP 1 rfl rfl 0 (by decide) (hts (.fieldLink RX11 225 "Beaverhall$Counters" "size" "I") (by decide +kernel)) (fun _ h9 => h9) rfl dX11_count_118 ?_
                refine vx_ret ?_
                have hP9 := hP.sub (ws' := []) [] rfl
                have hD9 := hD.sub (ws' := []) [] (by decide) rfl
                have hK9 := hK.sub (tys' := [(cI, .int)]) [0] rfl
                exact W.iret (v := 1) hx hb hr (fun t ht hW => ⟨⟨1, (), rfl, ⟨rfl, Or.inr c9_36, hn_45, hn_52, Or.inl c50_54⟩, ⟨by rw [ht]; exact hP9, va_K.moved hW.alike hK9, hD9⟩⟩, hS.F ht⟩) hS.2.2 dX11_count_121
              · refine lv_iconst (v := 1) hx hb dX11_count_102 (by decide) ?_
                refine lv_goto (tgt := 107) hx hb dX11_count_103 (by decide) ?_
                refine lv_iload_n hx hb dX11_count_107 rfl (lv_at hl 2 rfl) ?_
                refine lv_iload_n hx hb dX11_count_108 rfl (lv_at hl 3 rfl) ?_
                refine lv_iload hx hb dX11_count_109 (lv_at hl 4 rfl) ?_
                have hPc := hP.sub (ws' := [(ct, .inr (5, [.int 0, .ref cr, .ref cu, .ref cg, .ref cp, .ref co])), (cu, .inl (cI, 12, .inl f1)), (cg, .inl (cI, 12, .inl f2)), (cp, .inl (cI, 12, .inl f3)), (co, .inl (cI, 12, .inl f4))]) [1, 2, 3, 4, 5] rfl
                have hDc := hD.sub (ws' := [(ct, .inr (5, [.int 0, .ref cr, .ref cu, .ref cg, .ref cp, .ref co])), (cu, .inl (cI, 12, .inl f1)), (cg, .inl (cI, 12, .inl f2)), (cp, .inl (cI, 12, .inl f3)), (co, .inl (cI, 12, .inl f4))]) [1, 2, 3, 4, 5] (by decide) rfl
                have hKc := hK.sub (tys' := [(cI, .int)]) [0] rfl
                have hFc := va_free (wc := [(ct, .inr (5, [.int 0, .ref cr, .ref cu, .ref cg, .ref cp, .ref co])), (cu, .inl (cI, 12, .inl f1)), (cg, .inl (cI, 12, .inl f2)), (cp, .inl (cI, 12, .inl f3)), (co, .inl (cI, 12, .inl f4))]) hD hS hA [1, 2, 3, 4, 5] rfl
                refine va_callv (va_runV (As := [.int 1, .int a2, .int a3, .int a4]) (rest := []) ⟨hx, hb, hml, hown, hts⟩ (c_X0_add l dC dI cI ct cr cu cg cp co f1 f2 f3 f4 1 a2 a3 a4 H.size) (cwV 4 hts gX11_count_X0_add rfl rfl rfl (by decide +kernel) ⟨Nat.le_of_ble_eq_true rfl, Nat.le_of_ble_eq_true rfl⟩) (pcV hPc hDc hKc hN (ci := 5) (q0 := 0) rfl rfl) rfl rfl hl.1 rfl (lv_room (Nat.le_of_ble_eq_true rfl)) dX11_count_111 ⟨Nat.le_of_ble_eq_true rfl, Nat.le_of_ble_eq_true rfl⟩) hS (fun q _ h => hFc q h) hFc (fun u t H1 locs ht hvm hw_59 hB hz1 hk1 hS => ?_)
                obtain ⟨hP1, hK1, hD1⟩ := hB
                rw [ht] at hP1
                try dsimp only at hw_59
                obtain ⟨hP, hD⟩ := va_join (wr := [(ya, .inr (16, [.ref ms, .int 0, .ref ju, .ref li, .ref ct, .ref tg, .ref fw]))]) (w1 := [(ct, .inr (5, [.int 1, .ref cr, .ref cu, .ref cg, .ref cp, .ref co]))]) hP hD [1, 2, 3, 4, 5] [0] rfl rfl (by decide) (by decide) hk1 hFc hP1 hD1
                generalize H1 = H at hP hS ⊢
                have hP : va_P (dC, dI) vwCl [(ya, .inr (16, [.ref ms, .int 0, .ref ju, .ref li, .ref ct, .ref tg, .ref fw])), (ct, .inr (5, [.int 1, .ref cr, .ref cu, .ref cg, .ref cp, .ref co]))] H := hP
                have hD : va_D A [(ya, .inr (16, [.ref ms, .int 0, .ref ju, .ref li, .ref ct, .ref tg, .ref fw])), (ct, .inr (5, [.int 1, .ref cr, .ref cu, .ref cg, .ref cp, .ref co]))] := hD
                refine lv_aload_n hx hb dX11_count_114 rfl (lv_at hl 0 rfl) ?_
                refine va_get (D := (dC, dI)) (ci := 16) (v := .ref ct) (C := RX11) (T := TX11) (N := 7) hx hb hts iWX11 hown hK hP 0 rfl rfl 4 (by decide) (hts (.fieldLink RX11 36 "Beaverhall" "counters" "LBeaverhall$Counters;") (by decide +kernel)) (fun _ h9 => h9) rfl dX11_count_115 ?_
                refine va_get (D := (dC, dI)) (ci := 5) (v := .int 1) (C := RX0) (T := TX0) (N := 6) hx hb hts iWX0 hown hK hP 1 rfl rfl 0 (by decide) (hts (.fieldLink RX11 225 "Beaverhall$Counters" "size" "I") (by decide +kernel)) (fun _ h9 => h9) rfl dX11_count_118 ?_
                refine vx_ret ?_
                have hP9 := hP.sub (ws' := []) [] rfl
                have hD9 := hD.sub (ws' := []) [] (by decide) rfl
                have hK9 := hK.sub (tys' := [(cI, .int)]) [0] rfl
                exact W.iret (v := 1) hx hb hr (fun t ht hW => ⟨⟨1, (), rfl, ⟨rfl, Or.inr c9_36, hn_45, hn_52, Or.inl c50_54⟩, ⟨by rw [ht]; exact hP9, va_K.moved hW.alike hK9, hD9⟩⟩, hS.F ht⟩) hS.2.2 dX11_count_121
            · exact (c81_56 (by decide)).elim
          · refine lv_iload hx hb dX11_count_53 (lv_at hl 4 rfl) ?_
            refine lv_iconst (v := 0) hx hb dX11_count_55 (by decide) ?_
            refine lv_bipush (v := 12) hx hb dX11_count_56 (by decide) ?_
            have hPc := hP.sub (ws' := []) [] rfl
            have hDc := hD.sub (ws' := []) [] (by decide) rfl
            have hKc := hK.sub (tys' := []) [] rfl
            have hFc := va_free (wc := []) hD hS hA [] rfl
            refine va_calli (va_runS (As := [.int a4, .int 0, .int 12]) (rest := []) ⟨hx, hb, hml, hown, hts⟩ (c_X11_isWithin l dC dI a4 0 12 H.size) (va_cwS 3 hts gX11_count_X11_isWithin rfl rfl rfl (by decide +kernel) ⟨Nat.le_of_ble_eq_true rfl, Nat.le_of_ble_eq_true rfl⟩) (pcS hPc hDc hKc hN) rfl rfl hl.1 rfl (lv_room (Nat.le_of_ble_eq_true rfl)) dX11_count_58 ⟨Nat.le_of_ble_eq_true rfl, Nat.le_of_ble_eq_true rfl⟩) hS (fun q _ h => hFc q h) hFc (fun r_60 u t H1 locs ht hvm hw_61 hB hz1 hk1 hS => ?_)
            obtain ⟨hP1, hK1, hD1⟩ := hB
            rw [ht] at hP1
            try dsimp only at hw_61
            obtain ⟨hP, hD⟩ := va_join (wr := [(ya, .inr (16, [.ref ms, .int 0, .ref ju, .ref li, .ref ct, .ref tg, .ref fw])), (ct, .inr (5, [.int 0, .ref cr, .ref cu, .ref cg, .ref cp, .ref co])), (cu, .inl (cI, 12, .inl f1)), (cg, .inl (cI, 12, .inl f2)), (cp, .inl (cI, 12, .inl f3)), (co, .inl (cI, 12, .inl f4))]) (w1 := []) hP hD [] [0, 1, 2, 3, 4, 5] rfl rfl (by decide) (by decide) hk1 hFc hP1 hD1
            generalize H1 = H at hP hS ⊢
            have hP : va_P (dC, dI) vwCl [(ya, .inr (16, [.ref ms, .int 0, .ref ju, .ref li, .ref ct, .ref tg, .ref fw])), (ct, .inr (5, [.int 0, .ref cr, .ref cu, .ref cg, .ref cp, .ref co])), (cu, .inl (cI, 12, .inl f1)), (cg, .inl (cI, 12, .inl f2)), (cp, .inl (cI, 12, .inl f3)), (co, .inl (cI, 12, .inl f4))] H := hP
            have hD : va_D A [(ya, .inr (16, [.ref ms, .int 0, .ref ju, .ref li, .ref ct, .ref tg, .ref fw])), (ct, .inr (5, [.int 0, .ref cr, .ref cu, .ref cg, .ref cp, .ref co])), (cu, .inl (cI, 12, .inl f1)), (cg, .inl (cI, 12, .inl f2)), (cp, .inl (cI, 12, .inl f3)), (co, .inl (cI, 12, .inl f4))] := hD
            have hq_62 : (r_60 = 1 ∧ 0 ≤ a4 ∧ a4 ≤ 12) ∨ (r_60 = 0 ∧ ¬ (0 ≤ a4 ∧ a4 ≤ 12)) := by rw [hw_61]; exact within_iff
            refine lv_if_eq (tgt := 68) hx hb dX11_count_61 (by decide) (fun c61_63 => ?_) (fun c61_63 => ?_)
            · have hn_64 := (hq_62).elim (fun h => absurd (h.1.symm.trans c61_63) (by decide)) (fun h => h.2)
              refine lv_iconst (v := 0) hx hb dX11_count_68 (by decide) ?_
              have hPc := hP.sub (ws' := []) [] rfl
              have hDc := hD.sub (ws' := []) [] (by decide) rfl
              have hKc := hK.sub (tys' := []) [] rfl
              have hFc := va_free (wc := []) hD hS hA [] rfl
              refine vx_callv (vx_runS (As := [.int 0]) (rest := []) ⟨hx, hb, hml, hown, hts⟩ (c_X11_demand l hfl dC dI 0 H.size) (va_cwS 1 hts gX11_count_X11_demand rfl rfl rfl (by decide +kernel) ⟨Nat.le_of_ble_eq_true rfl, Nat.le_of_ble_eq_true rfl⟩) (pcSz (zX_ok) hPc hDc hKc hN hZ hS hFc) rfl rfl hl.1 rfl (lv_room (Nat.le_of_ble_eq_true rfl)) dX11_count_69 ⟨Nat.le_of_ble_eq_true rfl, Nat.le_of_ble_eq_true rfl⟩) hS (fun q _ h => hFc q h) hFc (fun q _ h => hFc q h) (fun E9 ce9 q9 u9 t9 H9 locs9 ht9 hvm9 hp9 hE9 hz9 hk9 hS9 hc9 hv9 hcl9 => vx_out (fun x h => (hxt x h).elim) hlocks hc9 hv9 hcl9 (fun t1 ht1 ha1 => ⟨(), trivial, ⟨hE9.1, fun h => h.2.2.2.elim c50_54 (fun h => hn_64 h)⟩, hS9.F ht1⟩) hS9.2.2 (Nat.le_of_ble_eq_true rfl) (Nat.le_of_ble_eq_true rfl)) (fun u t H1 locs ht hvm hw_65 hB hz1 hk1 hS => ?_)
              obtain ⟨hP1, hK1, hD1⟩ := hB
              rw [ht] at hP1
              try dsimp only at hw_65
              obtain ⟨hP, hD⟩ := va_join (wr := [(ya, .inr (16, [.ref ms, .int 0, .ref ju, .ref li, .ref ct, .ref tg, .ref fw])), (ct, .inr (5, [.int 0, .ref cr, .ref cu, .ref cg, .ref cp, .ref co])), (cu, .inl (cI, 12, .inl f1)), (cg, .inl (cI, 12, .inl f2)), (cp, .inl (cI, 12, .inl f3)), (co, .inl (cI, 12, .inl f4))]) (w1 := []) hP hD [] [0, 1, 2, 3, 4, 5] rfl rfl (by decide) (by decide) hk1 hFc hP1 hD1
              generalize H1 = H at hP hS ⊢
              have hP : va_P (dC, dI) vwCl [(ya, .inr (16, [.ref ms, .int 0, .ref ju, .ref li, .ref ct, .ref tg, .ref fw])), (ct, .inr (5, [.int 0, .ref cr, .ref cu, .ref cg, .ref cp, .ref co])), (cu, .inl (cI, 12, .inl f1)), (cg, .inl (cI, 12, .inl f2)), (cp, .inl (cI, 12, .inl f3)), (co, .inl (cI, 12, .inl f4))] H := hP
              have hD : va_D A [(ya, .inr (16, [.ref ms, .int 0, .ref ju, .ref li, .ref ct, .ref tg, .ref fw])), (ct, .inr (5, [.int 0, .ref cr, .ref cu, .ref cg, .ref cp, .ref co])), (cu, .inl (cI, 12, .inl f1)), (cg, .inl (cI, 12, .inl f2)), (cp, .inl (cI, 12, .inl f3)), (co, .inl (cI, 12, .inl f4))] := hD
              refine W.widen (k := 3) (n := 18) (Nat.le_of_ble_eq_true rfl) (Nat.le_of_ble_eq_true rfl) ?_
              exact absurd rfl hw_65
            · have hn_66 := (hq_62).elim (fun h => h.2) (fun h => absurd h.1 c61_63)
              refine lv_iconst (v := 1) hx hb dX11_count_64 (by decide) ?_
              refine lv_goto (tgt := 69) hx hb dX11_count_65 (by decide) ?_
              have hPc := hP.sub (ws' := []) [] rfl
              have hDc := hD.sub (ws' := []) [] (by decide) rfl
              have hKc := hK.sub (tys' := []) [] rfl
              have hFc := va_free (wc := []) hD hS hA [] rfl
              refine vx_callv (vx_runS (As := [.int 1]) (rest := []) ⟨hx, hb, hml, hown, hts⟩ (c_X11_demand l hfl dC dI 1 H.size) (va_cwS 1 hts gX11_count_X11_demand rfl rfl rfl (by decide +kernel) ⟨Nat.le_of_ble_eq_true rfl, Nat.le_of_ble_eq_true rfl⟩) (pcSz (zX_ok) hPc hDc hKc hN hZ hS hFc) rfl rfl hl.1 rfl (lv_room (Nat.le_of_ble_eq_true rfl)) dX11_count_69 ⟨Nat.le_of_ble_eq_true rfl, Nat.le_of_ble_eq_true rfl⟩) hS (fun q _ h => hFc q h) hFc (fun q _ h => hFc q h) (fun E9 ce9 q9 u9 t9 H9 locs9 ht9 hvm9 hp9 hE9 hz9 hk9 hS9 hc9 hv9 hcl9 => absurd hE9.2 (by decide)) (fun u t H1 locs ht hvm hw_67 hB hz1 hk1 hS => ?_)
              obtain ⟨hP1, hK1, hD1⟩ := hB
              rw [ht] at hP1
              try dsimp only at hw_67
              obtain ⟨hP, hD⟩ := va_join (wr := [(ya, .inr (16, [.ref ms, .int 0, .ref ju, .ref li, .ref ct, .ref tg, .ref fw])), (ct, .inr (5, [.int 0, .ref cr, .ref cu, .ref cg, .ref cp, .ref co])), (cu, .inl (cI, 12, .inl f1)), (cg, .inl (cI, 12, .inl f2)), (cp, .inl (cI, 12, .inl f3)), (co, .inl (cI, 12, .inl f4))]) (w1 := []) hP hD [] [0, 1, 2, 3, 4, 5] rfl rfl (by decide) (by decide) hk1 hFc hP1 hD1
              generalize H1 = H at hP hS ⊢
              have hP : va_P (dC, dI) vwCl [(ya, .inr (16, [.ref ms, .int 0, .ref ju, .ref li, .ref ct, .ref tg, .ref fw])), (ct, .inr (5, [.int 0, .ref cr, .ref cu, .ref cg, .ref cp, .ref co])), (cu, .inl (cI, 12, .inl f1)), (cg, .inl (cI, 12, .inl f2)), (cp, .inl (cI, 12, .inl f3)), (co, .inl (cI, 12, .inl f4))] H := hP
              have hD : va_D A [(ya, .inr (16, [.ref ms, .int 0, .ref ju, .ref li, .ref ct, .ref tg, .ref fw])), (ct, .inr (5, [.int 0, .ref cr, .ref cu, .ref cg, .ref cp, .ref co])), (cu, .inl (cI, 12, .inl f1)), (cg, .inl (cI, 12, .inl f2)), (cp, .inl (cI, 12, .inl f3)), (co, .inl (cI, 12, .inl f4))] := hD
              refine W.widen (k := 3) (n := 18) (Nat.le_of_ble_eq_true rfl) (Nat.le_of_ble_eq_true rfl) ?_
              refine lv_aload_n hx hb dX11_count_72 rfl (lv_at hl 0 rfl) ?_
              refine va_get (D := (dC, dI)) (ci := 16) (v := .ref ct) (C := RX11) (T := TX11) (N := 7) hx hb hts iWX11 hown hK hP 0 rfl rfl 4 (by decide) (hts (.fieldLink RX11 36 "Beaverhall" "counters" "LBeaverhall$Counters;") (by decide +kernel)) (fun _ h9 => h9) rfl dX11_count_73 ?_
              refine va_get (D := (dC, dI)) (ci := 5) (v := .int 0) (C := RX0) (T := TX0) (N := 6) hx hb hts iWX0 hown hK hP 1 rfl rfl 0 (by decide) (hts (.fieldLink RX11 225 "Beaverhall$Counters" "size" "I") (by decide +kernel)) (fun _ h9 => h9) rfl dX11_count_76 ?_
              refine lv_bipush (v := 12) hx hb dX11_count_79 (by decide) ?_
              refine lv_icmp_lt (tgt := 92) hx hb dX11_count_81 (by decide) (fun c81_68 => ?_) (fun c81_68 => ?_)
              · refine lv_aload_n hx hb dX11_count_92 rfl (lv_at hl 0 rfl) ?_
                refine va_get (D := (dC, dI)) (ci := 16) (v := .ref ct) (C := RX11) (T := TX11) (N := 7) hx hb hts iWX11 hown hK hP 0 rfl rfl 4 (by decide) (hts (.fieldLink RX11 36 "Beaverhall" "counters" "LBeaverhall$Counters;") (by decide +kernel)) (fun _ h9 => h9) rfl dX11_count_93 ?_
                refine lv_iload_n hx hb dX11_count_96 rfl (lv_at hl 1 rfl) ?_
                refine lv_bipush (v := 43) hx hb dX11_count_97 (by decide) ?_
                refine lv_icmp_ne (tgt := 106) hx hb dX11_count_99 (by decide) (fun c99_69 => ?_) (fun c99_69 => ?_)
                · refine lv_iconst (v := 0) hx hb dX11_count_106 (by decide) ?_
                  refine lv_iload_n hx hb dX11_count_107 rfl (lv_at hl 2 rfl) ?_
                  refine lv_iload_n hx hb dX11_count_108 rfl (lv_at hl 3 rfl) ?_
                  refine lv_iload hx hb dX11_count_109 (lv_at hl 4 rfl) ?_
                  have hPc := hP.sub (ws' := [(ct, .inr (5, [.int 0, .ref cr, .ref cu, .ref cg, .ref cp, .ref co])), (cu, .inl (cI, 12, .inl f1)), (cg, .inl (cI, 12, .inl f2)), (cp, .inl (cI, 12, .inl f3)), (co, .inl (cI, 12, .inl f4))]) [1, 2, 3, 4, 5] rfl
                  have hDc := hD.sub (ws' := [(ct, .inr (5, [.int 0, .ref cr, .ref cu, .ref cg, .ref cp, .ref co])), (cu, .inl (cI, 12, .inl f1)), (cg, .inl (cI, 12, .inl f2)), (cp, .inl (cI, 12, .inl f3)), (co, .inl (cI, 12, .inl f4))]) [1, 2, 3, 4, 5] (by decide) rfl
                  have hKc := hK.sub (tys' := [(cI, .int)]) [0] rfl
                  have hFc := va_free (wc := [(ct, .inr (5, [.int 0, .ref cr, .ref cu, .ref cg, .ref cp, .ref co])), (cu, .inl (cI, 12, .inl f1)), (cg, .inl (cI, 12, .inl f2)), (cp, .inl (cI, 12, .inl f3)), (co, .inl (cI, 12, .inl f4))]) hD hS hA [1, 2, 3, 4, 5] rfl
                  refine va_callv (va_runV (As := [.int 0, .int a2, .int a3, .int a4]) (rest := []) ⟨hx, hb, hml, hown, hts⟩ (c_X0_add l dC dI cI ct cr cu cg cp co f1 f2 f3 f4 0 a2 a3 a4 H.size) (cwV 4 hts gX11_count_X0_add rfl rfl rfl (by decide +kernel) ⟨Nat.le_of_ble_eq_true rfl, Nat.le_of_ble_eq_true rfl⟩) (pcV hPc hDc hKc hN (ci := 5) (q0 := 0) rfl rfl) rfl rfl hl.1 rfl (lv_room (Nat.le_of_ble_eq_true rfl)) dX11_count_111 ⟨Nat.le_of_ble_eq_true rfl, Nat.le_of_ble_eq_true rfl⟩) hS (fun q _ h => hFc q h) hFc (fun u t H1 locs ht hvm hw_70 hB hz1 hk1 hS => ?_)
                  obtain ⟨hP1, hK1, hD1⟩ := hB
                  rw [ht] at hP1
                  try dsimp only at hw_70
                  obtain ⟨hP, hD⟩ := va_join (wr := [(ya, .inr (16, [.ref ms, .int 0, .ref ju, .ref li, .ref ct, .ref tg, .ref fw]))]) (w1 := [(ct, .inr (5, [.int 1, .ref cr, .ref cu, .ref cg, .ref cp, .ref co]))]) hP hD [1, 2, 3, 4, 5] [0] rfl rfl (by decide) (by decide) hk1 hFc hP1 hD1
                  generalize H1 = H at hP hS ⊢
                  have hP : va_P (dC, dI) vwCl [(ya, .inr (16, [.ref ms, .int 0, .ref ju, .ref li, .ref ct, .ref tg, .ref fw])), (ct, .inr (5, [.int 1, .ref cr, .ref cu, .ref cg, .ref cp, .ref co]))] H := hP
                  have hD : va_D A [(ya, .inr (16, [.ref ms, .int 0, .ref ju, .ref li, .ref ct, .ref tg, .ref fw])), (ct, .inr (5, [.int 1, .ref cr, .ref cu, .ref cg, .ref cp, .ref co]))] := hD
                  refine lv_aload_n hx hb dX11_count_114 rfl (lv_at hl 0 rfl) ?_
                  refine va_get (D := (dC, dI)) (ci := 16) (v := .ref ct) (C := RX11) (T := TX11) (N := 7) hx hb hts iWX11 hown hK hP 0 rfl rfl 4 (by decide) (hts (.fieldLink RX11 36 "Beaverhall" "counters" "LBeaverhall$Counters;") (by decide +kernel)) (fun _ h9 => h9) rfl dX11_count_115 ?_
                  refine va_get (D := (dC, dI)) (ci := 5) (v := .int 1) (C := RX0) (T := TX0) (N := 6) hx hb hts iWX0 hown hK hP 1 rfl rfl 0 (by decide) (hts (.fieldLink RX11 225 "Beaverhall$Counters" "size" "I") (by decide +kernel)) (fun _ h9 => h9) rfl dX11_count_118 ?_
                  refine vx_ret ?_
                  have hP9 := hP.sub (ws' := []) [] rfl
                  have hD9 := hD.sub (ws' := []) [] (by decide) rfl
                  have hK9 := hK.sub (tys' := [(cI, .int)]) [0] rfl
                  exact W.iret (v := 1) hx hb hr (fun t ht hW => ⟨⟨1, (), rfl, ⟨rfl, Or.inr c9_36, hn_45, hn_52, Or.inr hn_66⟩, ⟨by rw [ht]; exact hP9, va_K.moved hW.alike hK9, hD9⟩⟩, hS.F ht⟩) hS.2.2 dX11_count_121
                · refine lv_iconst (v := 1) hx hb dX11_count_102 (by decide) ?_
                  refine lv_goto (tgt := 107) hx hb dX11_count_103 (by decide) ?_
                  refine lv_iload_n hx hb dX11_count_107 rfl (lv_at hl 2 rfl) ?_
                  refine lv_iload_n hx hb dX11_count_108 rfl (lv_at hl 3 rfl) ?_
                  refine lv_iload hx hb dX11_count_109 (lv_at hl 4 rfl) ?_
                  have hPc := hP.sub (ws' := [(ct, .inr (5, [.int 0, .ref cr, .ref cu, .ref cg, .ref cp, .ref co])), (cu, .inl (cI, 12, .inl f1)), (cg, .inl (cI, 12, .inl f2)), (cp, .inl (cI, 12, .inl f3)), (co, .inl (cI, 12, .inl f4))]) [1, 2, 3, 4, 5] rfl
                  have hDc := hD.sub (ws' := [(ct, .inr (5, [.int 0, .ref cr, .ref cu, .ref cg, .ref cp, .ref co])), (cu, .inl (cI, 12, .inl f1)), (cg, .inl (cI, 12, .inl f2)), (cp, .inl (cI, 12, .inl f3)), (co, .inl (cI, 12, .inl f4))]) [1, 2, 3, 4, 5] (by decide) rfl
                  have hKc := hK.sub (tys' := [(cI, .int)]) [0] rfl
                  have hFc := va_free (wc := [(ct, .inr (5, [.int 0, .ref cr, .ref cu, .ref cg, .ref cp, .ref co])), (cu, .inl (cI, 12, .inl f1)), (cg, .inl (cI, 12, .inl f2)), (cp, .inl (cI, 12, .inl f3)), (co, .inl (cI, 12, .inl f4))]) hD hS hA [1, 2, 3, 4, 5] rfl
                  refine va_callv (va_runV (As := [.int 1, .int a2, .int a3, .int a4]) (rest := []) ⟨hx, hb, hml, hown, hts⟩ (c_X0_add l dC dI cI ct cr cu cg cp co f1 f2 f3 f4 1 a2 a3 a4 H.size) (cwV 4 hts gX11_count_X0_add rfl rfl rfl (by decide +kernel) ⟨Nat.le_of_ble_eq_true rfl, Nat.le_of_ble_eq_true rfl⟩) (pcV hPc hDc hKc hN (ci := 5) (q0 := 0) rfl rfl) rfl rfl hl.1 rfl (lv_room (Nat.le_of_ble_eq_true rfl)) dX11_count_111 ⟨Nat.le_of_ble_eq_true rfl, Nat.le_of_ble_eq_true rfl⟩) hS (fun q _ h => hFc q h) hFc (fun u t H1 locs ht hvm hw_71 hB hz1 hk1 hS => ?_)
                  obtain ⟨hP1, hK1, hD1⟩ := hB
                  rw [ht] at hP1
                  try dsimp only at hw_71
                  obtain ⟨hP, hD⟩ := va_join (wr := [(ya, .inr (16, [.ref ms, .int 0, .ref ju, .ref li, .ref ct, .ref tg, .ref fw]))]) (w1 := [(ct, .inr (5, [.int 1, .ref cr, .ref cu, .ref cg, .ref cp, .ref co]))]) hP hD [1, 2, 3, 4, 5] [0] rfl rfl (by decide) (by decide) hk1 hFc hP1 hD1
                  generalize H1 = H at hP hS ⊢
                  have hP : va_P (dC, dI) vwCl [(ya, .inr (16, [.ref ms, .int 0, .ref ju, .ref li, .ref ct, .ref tg, .ref fw])), (ct, .inr (5, [.int 1, .ref cr, .ref cu, .ref cg, .ref cp, .ref co]))] H := hP
                  have hD : va_D A [(ya, .inr (16, [.ref ms, .int 0, .ref ju, .ref li, .ref ct, .ref tg, .ref fw])), (ct, .inr (5, [.int 1, .ref cr, .ref cu, .ref cg, .ref cp, .ref co]))] := hD
                  refine lv_aload_n hx hb dX11_count_114 rfl (lv_at hl 0 rfl) ?_
                  refine va_get (D := (dC, dI)) (ci := 16) (v := .ref ct) (C := RX11) (T := TX11) (N := 7) hx hb hts iWX11 hown hK hP 0 rfl rfl 4 (by decide) (hts (.fieldLink RX11 36 "Beaverhall" "counters" "LBeaverhall$Counters;") (by decide +kernel)) (fun _ h9 => h9) rfl dX11_count_115 ?_
                  refine va_get (D := (dC, dI)) (ci := 5) (v := .int 1) (C := RX0) (T := TX0) (N := 6) hx hb hts iWX0 hown hK hP 1 rfl rfl 0 (by decide) (hts (.fieldLink RX11 225 "Beaverhall$Counters" "size" "I") (by decide +kernel)) (fun _ h9 => h9) rfl dX11_count_118 ?_
                  refine vx_ret ?_
                  have hP9 := hP.sub (ws' := []) [] rfl
                  have hD9 := hD.sub (ws' := []) [] (by decide) rfl
                  have hK9 := hK.sub (tys' := [(cI, .int)]) [0] rfl
                  exact W.iret (v := 1) hx hb hr (fun t ht hW => ⟨⟨1, (), rfl, ⟨rfl, Or.inr c9_36, hn_45, hn_52, Or.inr hn_66⟩, ⟨by rw [ht]; exact hP9, va_K.moved hW.alike hK9, hD9⟩⟩, hS.F ht⟩) hS.2.2 dX11_count_121
              · exact (c81_68 (by decide)).elim

set_option maxHeartbeats 4000000 in
set_option maxRecDepth 100000 in
/-- X11_uncount -/
theorem c_X11_uncount (l : Launch) (hfl : l.stackTraces = false) (dC : Nat → ClassId) (dI : Nat → Nat → Nat) (ya ms ju li ct tg fw : Nat) (cr cu cg cp co : Nat) (sz : Nat) : vx_Met l yX11_uncount wsX11_uncount ({ frames := 0, cells := 0, slots := 0, locals := 0 }) (va_Pc [.ref ya] (cPCz (zX) dC dI [(ya, .inr (16, [.ref ms, .int 0, .ref ju, .ref li, .ref ct, .ref tg, .ref fw])), (ct, .inr (5, [.int 0, .ref cr, .ref cu, .ref cg, .ref cp, .ref co]))] [] sz)) (va_Qi (fun (r : Int32) (u : Unit) => r = 0) (fun (u : Unit) t => cQB dC dI [] [] (va_A [(ya, .inr (16, [.ref ms, .int 0, .ref ju, .ref li, .ref ct, .ref tg, .ref fw])), (ct, .inr (5, [.int 0, .ref cr, .ref cu, .ref cg, .ref cp, .ref co]))] sz) t) (va_A [(ya, .inr (16, [.ref ms, .int 0, .ref ju, .ref li, .ref ct, .ref tg, .ref fw])), (ct, .inr (5, [.int 0, .ref cr, .ref cu, .ref cg, .ref cp, .ref co]))] sz)) (vx_X (fun (_ : Unit) => True) (fun (E9 : String) (_ : Unit) (_ : State) => False) (va_A [(ya, .inr (16, [.ref ms, .int 0, .ref ju, .ref li, .ref ct, .ref tg, .ref fw])), (ct, .inr (5, [.int 0, .ref cr, .ref cu, .ref cg, .ref cp, .ref co]))] sz)) 0 0 (va_A [(ya, .inr (16, [.ref ms, .int 0, .ref ju, .ref li, .ref ct, .ref tg, .ref fw])), (ct, .inr (5, [.int 0, .ref cr, .ref cu, .ref cg, .ref cp, .ref co]))] sz) := by
  refine vx_ofW (cc := cX11_uncount) (maxL := 2) (ret := (some .int)) (by decide) rfl ?_
  intro p e s m args below meth c s₁ B hml hxt hv
  obtain ⟨rfl, ⟨hsz, hP, hK, hD0, hN⟩, hZ⟩ := hv
  have hx := B.exec
  have hb := B.bytes
  have hr := B.returns
  have hts := atoms_spec (ws := wsX11_uncount) B.pre
  have hown : s.vm.findClass RX11 = some m.cls := findClass_of_methodNamed B.named
  have hlocks := B.notSynchronized
  subst hsz
  have hD := hD0.self (sz := s.heap.size)
  generalize hAe : va_A [(ya, .inr (16, [.ref ms, .int 0, .ref ju, .ref li, .ref ct, .ref tg, .ref fw])), (ct, .inr (5, [.int 0, .ref cr, .ref cu, .ref cg, .ref cp, .ref co]))] s.heap.size = A at hD hZ ⊢
  have hA : ∀ q : Nat, s.heap.size ≤ q → A q := fun q h => by rw [← hAe]; exact Or.inr h
  have hS : va_S A s.heap s.heap [] := va_S.rf
  have hP : va_P (dC, dI) vwCl [(ya, .inr (16, [.ref ms, .int 0, .ref ju, .ref li, .ref ct, .ref tg, .ref fw])), (ct, .inr (5, [.int 0, .ref cr, .ref cu, .ref cg, .ref cp, .ref co]))] s.heap := hP
  have hD : va_D A [(ya, .inr (16, [.ref ms, .int 0, .ref ju, .ref li, .ref ct, .ref tg, .ref fw])), (ct, .inr (5, [.int 0, .ref cr, .ref cu, .ref cg, .ref cp, .ref co]))] := hD
  have hl := lv_entry ([.ref ya]) (n := 2) (Nat.le_of_ble_eq_true rfl)
  rw [lg_entry_eq]
  generalize (lg_sl ([.ref ya]) ++ List.replicate (2 - (lg_sl ([.ref ya])).length) Slot.unset).toArray = ls at hl ⊢
  have hl : lv_has ls 2 [(0, .ref ya)] := hl
  have iWX0 : ∀ w ∈ u_ws RX0 TX0 6, w ∈ wsX11_uncount := by decide +kernel
  have iWX11 : ∀ w ∈ u_ws RX11 TX11 7, w ∈ wsX11_uncount := by decide +kernel
  refine lv_aload_n hx hb dX11_uncount_0 rfl (lv_at hl 0 rfl) ?_
  refine va_get (D := (dC, dI)) (ci := 16) (v := .ref ct) (C := RX11) (T := TX11) (N := 7) hx hb hts iWX11 hown hK hP 0 rfl rfl 4 (by decide) (hts (.fieldLink RX11 36 "Beaverhall" "counters" "LBeaverhall$Counters;") (by decide +kernel)) (fun _ h9 => h9) rfl dX11_uncount_1 ?_
  refine va_get (D := (dC, dI)) (ci := 5) (v := .int 0) (C := RX0) (T := TX0) (N := 6) hx hb hts iWX0 hown hK hP 1 rfl rfl 0 (by decide) (hts (.fieldLink RX11 225 "Beaverhall$Counters" "size" "I") (by decide +kernel)) (fun _ h9 => h9) rfl dX11_uncount_4 ?_
  refine lv_istore_n (lv' := [(1, .int 0), (0, .ref ya)]) hx hb dX11_uncount_7 rfl hl (by decide) rfl (fun ls hl => ?_)
  refine lv_aload_n hx hb dX11_uncount_8 rfl (lv_at hl 1 rfl) ?_
  refine va_get (D := (dC, dI)) (ci := 16) (v := .ref ct) (C := RX11) (T := TX11) (N := 7) hx hb hts iWX11 hown hK hP 0 rfl rfl 4 (by decide) (hts (.fieldLink RX11 36 "Beaverhall" "counters" "LBeaverhall$Counters;") (by decide +kernel)) (fun _ h9 => h9) rfl dX11_uncount_9 ?_
  refine lv_iconst (v := 0) hx hb dX11_uncount_12 (by decide) ?_
  refine va_put (D := (dC, dI)) (ci := 5) (v := .int 0) (ty := .int) (C := RX0) (T := TX0) (N := 6) hx hb hts iWX0 tyX0 tyX0_ok nmX0 hown hK hP hD hS 1 rfl rfl 0 (by decide) (hts (.fieldLink RX11 225 "Beaverhall$Counters" "size" "I") (by decide +kernel)) (fun _ h9 => h9) rfl (by decide +kernel) rfl rfl (Nat.le_of_ble_eq_true rfl) dX11_uncount_13 (fun H locs hP hD hS => ?_)
  have hP : va_P (dC, dI) vwCl [(ya, .inr (16, [.ref ms, .int 0, .ref ju, .ref li, .ref ct, .ref tg, .ref fw])), (ct, .inr (5, [.int 0, .ref cr, .ref cu, .ref cg, .ref cp, .ref co]))] H := hP
  have hD : va_D A [(ya, .inr (16, [.ref ms, .int 0, .ref ju, .ref li, .ref ct, .ref tg, .ref fw])), (ct, .inr (5, [.int 0, .ref cr, .ref cu, .ref cg, .ref cp, .ref co]))] := hD
  refine lv_iload_n hx hb dX11_uncount_16 rfl (lv_at hl 0 rfl) ?_
  refine vx_ret ?_
  have hP9 := hP.sub (ws' := []) [] rfl
  have hD9 := hD.sub (ws' := []) [] (by decide) rfl
  have hK9 := hK.sub (tys' := []) [] rfl
  exact W.iret (v := 0) hx hb hr (fun t ht hW => ⟨⟨0, (), rfl, rfl, ⟨by rw [ht]; exact hP9, va_K.moved hW.alike hK9, hD9⟩⟩, hS.F ht⟩) hS.2.2 dX11_uncount_17

set_option maxHeartbeats 4000000 in
set_option maxRecDepth 100000 in
/-- X11_runCounters -/
theorem c_X11_runCounters (l : Launch) (hfl : l.stackTraces = false) (dC : Nat → ClassId) (dI : Nat → Nat → Nat) (cI : ClassId) (ya ms ju li ct tg fw : Nat) (cr cu cg cp co : Nat) (f1 : Nat → Int32) (a1 a2 a3 : Int32) (sz : Nat) : vx_Met l yX11_runCounters wsX11_runCounters ({ frames := 7, cells := 2, slots := 12, locals := 120 }) (va_Pc [.ref ya, .int a1, .int a2, .int a3] (cPCz (zX) dC dI [(ya, .inr (16, [.ref ms, .int 0, .ref ju, .ref li, .ref ct, .ref tg, .ref fw])), (ct, .inr (5, [.int 0, .ref cr, .ref cu, .ref cg, .ref cp, .ref co])), (cr, .inl (cI, 4, .inl f1))] [(cI, .int)] sz)) (va_Qi (fun (r : Int32) (u : Unit) => r = 0 ∧ pRunC a1 a2 a3) (fun (u : Unit) t => cQB dC dI [] [(cI, .int)] (va_A [(ya, .inr (16, [.ref ms, .int 0, .ref ju, .ref li, .ref ct, .ref tg, .ref fw])), (ct, .inr (5, [.int 0, .ref cr, .ref cu, .ref cg, .ref cp, .ref co])), (cr, .inl (cI, 4, .inl f1))] sz) t) (va_A [(ya, .inr (16, [.ref ms, .int 0, .ref ju, .ref li, .ref ct, .ref tg, .ref fw])), (ct, .inr (5, [.int 0, .ref cr, .ref cu, .ref cg, .ref cp, .ref co])), (cr, .inl (cI, 4, .inl f1))] sz)) (vx_X (fun (_ : Unit) => True) (fun (E9 : String) (_ : Unit) (_ : State) => E9 = "java/lang/IllegalArgumentException" ∧ ¬ pRunC a1 a2 a3) (va_A [(ya, .inr (16, [.ref ms, .int 0, .ref ju, .ref li, .ref ct, .ref tg, .ref fw])), (ct, .inr (5, [.int 0, .ref cr, .ref cu, .ref cg, .ref cp, .ref co])), (cr, .inl (cI, 4, .inl f1))] sz)) 2 12 (va_A [(ya, .inr (16, [.ref ms, .int 0, .ref ju, .ref li, .ref ct, .ref tg, .ref fw])), (ct, .inr (5, [.int 0, .ref cr, .ref cu, .ref cg, .ref cp, .ref co])), (cr, .inl (cI, 4, .inl f1))] sz) := by
  refine vx_ofW (cc := cX11_runCounters) (maxL := 4) (ret := (some .int)) (by decide) rfl ?_
  intro p e s m args below meth c s₁ B hml hxt hv
  obtain ⟨rfl, ⟨hsz, hP, hK, hD0, hN⟩, hZ⟩ := hv
  have hx := B.exec
  have hb := B.bytes
  have hr := B.returns
  have hts := atoms_spec (ws := wsX11_runCounters) B.pre
  have hown : s.vm.findClass RX11 = some m.cls := findClass_of_methodNamed B.named
  have hlocks := B.notSynchronized
  subst hsz
  have hD := hD0.self (sz := s.heap.size)
  generalize hAe : va_A [(ya, .inr (16, [.ref ms, .int 0, .ref ju, .ref li, .ref ct, .ref tg, .ref fw])), (ct, .inr (5, [.int 0, .ref cr, .ref cu, .ref cg, .ref cp, .ref co])), (cr, .inl (cI, 4, .inl f1))] s.heap.size = A at hD hZ ⊢
  have hA : ∀ q : Nat, s.heap.size ≤ q → A q := fun q h => by rw [← hAe]; exact Or.inr h
  have hS : va_S A s.heap s.heap [] := va_S.rf
  have hP : va_P (dC, dI) vwCl [(ya, .inr (16, [.ref ms, .int 0, .ref ju, .ref li, .ref ct, .ref tg, .ref fw])), (ct, .inr (5, [.int 0, .ref cr, .ref cu, .ref cg, .ref cp, .ref co])), (cr, .inl (cI, 4, .inl f1))] s.heap := hP
  have hD : va_D A [(ya, .inr (16, [.ref ms, .int 0, .ref ju, .ref li, .ref ct, .ref tg, .ref fw])), (ct, .inr (5, [.int 0, .ref cr, .ref cu, .ref cg, .ref cp, .ref co])), (cr, .inl (cI, 4, .inl f1))] := hD
  have hl := lv_entry ([.ref ya, .int a1, .int a2, .int a3]) (n := 4) (Nat.le_of_ble_eq_true rfl)
  rw [lg_entry_eq]
  generalize (lg_sl ([.ref ya, .int a1, .int a2, .int a3]) ++ List.replicate (4 - (lg_sl ([.ref ya, .int a1, .int a2, .int a3])).length) Slot.unset).toArray = ls at hl ⊢
  have hl : lv_has ls 4 [(0, .ref ya), (1, .int a1), (2, .int a2), (3, .int a3)] := hl
  have iWX11 : ∀ w ∈ u_ws RX11 TX11 7, w ∈ wsX11_runCounters := by decide +kernel
  refine lv_iload_n hx hb dX11_runCounters_0 rfl (lv_at hl 1 rfl) ?_
  refine lv_iconst (v := 0) hx hb dX11_runCounters_1 (by decide) ?_
  refine lv_sipush (v := 1000) hx hb dX11_runCounters_2 (by decide) ?_
  have hPc := hP.sub (ws' := []) [] rfl
  have hDc := hD.sub (ws' := []) [] (by decide) rfl
  have hKc := hK.sub (tys' := []) [] rfl
  have hFc := va_free (wc := []) hD hS hA [] rfl
  refine va_calli (va_runS (As := [.int a1, .int 0, .int 1000]) (rest := []) ⟨hx, hb, hml, hown, hts⟩ (c_X11_isWithin l dC dI a1 0 1000 s.heap.size) (va_cwS 3 hts gX11_runCounters_X11_isWithin rfl rfl rfl (by decide +kernel) ⟨Nat.le_of_ble_eq_true rfl, Nat.le_of_ble_eq_true rfl⟩) (pcS hPc hDc hKc hN) rfl rfl hl.1 rfl (lv_room (Nat.le_of_ble_eq_true rfl)) dX11_runCounters_5 ⟨Nat.le_of_ble_eq_true rfl, Nat.le_of_ble_eq_true rfl⟩) hS (fun q _ h => hFc q h) hFc (fun r_1 u t H1 locs ht hvm hw_2 hB hz1 hk1 hS => ?_)
  obtain ⟨hP1, hK1, hD1⟩ := hB
  rw [ht] at hP1
  try dsimp only at hw_2
  obtain ⟨hP, hD⟩ := va_join (wr := [(ya, .inr (16, [.ref ms, .int 0, .ref ju, .ref li, .ref ct, .ref tg, .ref fw])), (ct, .inr (5, [.int 0, .ref cr, .ref cu, .ref cg, .ref cp, .ref co])), (cr, .inl (cI, 4, .inl f1))]) (w1 := []) hP hD [] [0, 1, 2] rfl rfl (by decide) (by decide) hk1 hFc hP1 hD1
  generalize H1 = H at hP hS ⊢
  have hP : va_P (dC, dI) vwCl [(ya, .inr (16, [.ref ms, .int 0, .ref ju, .ref li, .ref ct, .ref tg, .ref fw])), (ct, .inr (5, [.int 0, .ref cr, .ref cu, .ref cg, .ref cp, .ref co])), (cr, .inl (cI, 4, .inl f1))] H := hP
  have hD : va_D A [(ya, .inr (16, [.ref ms, .int 0, .ref ju, .ref li, .ref ct, .ref tg, .ref fw])), (ct, .inr (5, [.int 0, .ref cr, .ref cu, .ref cg, .ref cp, .ref co])), (cr, .inl (cI, 4, .inl f1))] := hD
  have hq_3 : (r_1 = 1 ∧ 0 ≤ a1 ∧ a1 ≤ 1000) ∨ (r_1 = 0 ∧ ¬ (0 ≤ a1 ∧ a1 ≤ 1000)) := by rw [hw_2]; exact within_iff
  refine lv_if_eq (tgt := 26) hx hb dX11_runCounters_8 (by decide) (fun c8_4 => ?_) (fun c8_4 => ?_)
  · have hn_5 := (hq_3).elim (fun h => absurd (h.1.symm.trans c8_4) (by decide)) (fun h => h.2)
    refine lv_iconst (v := 0) hx hb dX11_runCounters_26 (by decide) ?_
    have hPc := hP.sub (ws' := []) [] rfl
    have hDc := hD.sub (ws' := []) [] (by decide) rfl
    have hKc := hK.sub (tys' := []) [] rfl
    have hFc := va_free (wc := []) hD hS hA [] rfl
    refine vx_callv (vx_runS (As := [.int 0]) (rest := []) ⟨hx, hb, hml, hown, hts⟩ (c_X11_demand l hfl dC dI 0 H.size) (va_cwS 1 hts gX11_runCounters_X11_demand rfl rfl rfl (by decide +kernel) ⟨Nat.le_of_ble_eq_true rfl, Nat.le_of_ble_eq_true rfl⟩) (pcSz (zX_ok) hPc hDc hKc hN hZ hS hFc) rfl rfl hl.1 rfl (lv_room (Nat.le_of_ble_eq_true rfl)) dX11_runCounters_27 ⟨Nat.le_of_ble_eq_true rfl, Nat.le_of_ble_eq_true rfl⟩) hS (fun q _ h => hFc q h) hFc (fun q _ h => hFc q h) (fun E9 ce9 q9 u9 t9 H9 locs9 ht9 hvm9 hp9 hE9 hz9 hk9 hS9 hc9 hv9 hcl9 => vx_out (fun x h => (hxt x h).elim) hlocks hc9 hv9 hcl9 (fun t1 ht1 ha1 => ⟨(), trivial, ⟨hE9.1, fun h => hn_5 h.1⟩, hS9.F ht1⟩) hS9.2.2 (Nat.le_of_ble_eq_true rfl) (Nat.le_of_ble_eq_true rfl)) (fun u t H1 locs ht hvm hw_6 hB hz1 hk1 hS => ?_)
    obtain ⟨hP1, hK1, hD1⟩ := hB
    rw [ht] at hP1
    try dsimp only at hw_6
    obtain ⟨hP, hD⟩ := va_join (wr := [(ya, .inr (16, [.ref ms, .int 0, .ref ju, .ref li, .ref ct, .ref tg, .ref fw])), (ct, .inr (5, [.int 0, .ref cr, .ref cu, .ref cg, .ref cp, .ref co])), (cr, .inl (cI, 4, .inl f1))]) (w1 := []) hP hD [] [0, 1, 2] rfl rfl (by decide) (by decide) hk1 hFc hP1 hD1
    generalize H1 = H at hP hS ⊢
    have hP : va_P (dC, dI) vwCl [(ya, .inr (16, [.ref ms, .int 0, .ref ju, .ref li, .ref ct, .ref tg, .ref fw])), (ct, .inr (5, [.int 0, .ref cr, .ref cu, .ref cg, .ref cp, .ref co])), (cr, .inl (cI, 4, .inl f1))] H := hP
    have hD : va_D A [(ya, .inr (16, [.ref ms, .int 0, .ref ju, .ref li, .ref ct, .ref tg, .ref fw])), (ct, .inr (5, [.int 0, .ref cr, .ref cu, .ref cg, .ref cp, .ref co])), (cr, .inl (cI, 4, .inl f1))] := hD
    refine W.widen (k := 1) (n := 6) (Nat.le_of_ble_eq_true rfl) (Nat.le_of_ble_eq_true rfl) ?_
    exact absurd rfl hw_6
  · have hn_7 := (hq_3).elim (fun h => h.2) (fun h => absurd h.1 c8_4)
    refine lv_iload_n hx hb dX11_runCounters_11 rfl (lv_at hl 2 rfl) ?_
    refine lv_iconst (v := 0) hx hb dX11_runCounters_12 (by decide) ?_
    refine lv_sipush (v := 1000) hx hb dX11_runCounters_13 (by decide) ?_
    have hPc := hP.sub (ws' := []) [] rfl
    have hDc := hD.sub (ws' := []) [] (by decide) rfl
    have hKc := hK.sub (tys' := []) [] rfl
    have hFc := va_free (wc := []) hD hS hA [] rfl
    refine va_calli (va_runS (As := [.int a2, .int 0, .int 1000]) (rest := []) ⟨hx, hb, hml, hown, hts⟩ (c_X11_isWithin l dC dI a2 0 1000 H.size) (va_cwS 3 hts gX11_runCounters_X11_isWithin rfl rfl rfl (by decide +kernel) ⟨Nat.le_of_ble_eq_true rfl, Nat.le_of_ble_eq_true rfl⟩) (pcS hPc hDc hKc hN) rfl rfl hl.1 rfl (lv_room (Nat.le_of_ble_eq_true rfl)) dX11_runCounters_16 ⟨Nat.le_of_ble_eq_true rfl, Nat.le_of_ble_eq_true rfl⟩) hS (fun q _ h => hFc q h) hFc (fun r_8 u t H1 locs ht hvm hw_9 hB hz1 hk1 hS => ?_)
    obtain ⟨hP1, hK1, hD1⟩ := hB
    rw [ht] at hP1
    try dsimp only at hw_9
    obtain ⟨hP, hD⟩ := va_join (wr := [(ya, .inr (16, [.ref ms, .int 0, .ref ju, .ref li, .ref ct, .ref tg, .ref fw])), (ct, .inr (5, [.int 0, .ref cr, .ref cu, .ref cg, .ref cp, .ref co])), (cr, .inl (cI, 4, .inl f1))]) (w1 := []) hP hD [] [0, 1, 2] rfl rfl (by decide) (by decide) hk1 hFc hP1 hD1
    generalize H1 = H at hP hS ⊢
    have hP : va_P (dC, dI) vwCl [(ya, .inr (16, [.ref ms, .int 0, .ref ju, .ref li, .ref ct, .ref tg, .ref fw])), (ct, .inr (5, [.int 0, .ref cr, .ref cu, .ref cg, .ref cp, .ref co])), (cr, .inl (cI, 4, .inl f1))] H := hP
    have hD : va_D A [(ya, .inr (16, [.ref ms, .int 0, .ref ju, .ref li, .ref ct, .ref tg, .ref fw])), (ct, .inr (5, [.int 0, .ref cr, .ref cu, .ref cg, .ref cp, .ref co])), (cr, .inl (cI, 4, .inl f1))] := hD
    have hq_10 : (r_8 = 1 ∧ 0 ≤ a2 ∧ a2 ≤ 1000) ∨ (r_8 = 0 ∧ ¬ (0 ≤ a2 ∧ a2 ≤ 1000)) := by rw [hw_9]; exact within_iff
    refine lv_if_eq (tgt := 26) hx hb dX11_runCounters_19 (by decide) (fun c19_11 => ?_) (fun c19_11 => ?_)
    · have hn_12 := (hq_10).elim (fun h => absurd (h.1.symm.trans c19_11) (by decide)) (fun h => h.2)
      refine lv_iconst (v := 0) hx hb dX11_runCounters_26 (by decide) ?_
      have hPc := hP.sub (ws' := []) [] rfl
      have hDc := hD.sub (ws' := []) [] (by decide) rfl
      have hKc := hK.sub (tys' := []) [] rfl
      have hFc := va_free (wc := []) hD hS hA [] rfl
      refine vx_callv (vx_runS (As := [.int 0]) (rest := []) ⟨hx, hb, hml, hown, hts⟩ (c_X11_demand l hfl dC dI 0 H.size) (va_cwS 1 hts gX11_runCounters_X11_demand rfl rfl rfl (by decide +kernel) ⟨Nat.le_of_ble_eq_true rfl, Nat.le_of_ble_eq_true rfl⟩) (pcSz (zX_ok) hPc hDc hKc hN hZ hS hFc) rfl rfl hl.1 rfl (lv_room (Nat.le_of_ble_eq_true rfl)) dX11_runCounters_27 ⟨Nat.le_of_ble_eq_true rfl, Nat.le_of_ble_eq_true rfl⟩) hS (fun q _ h => hFc q h) hFc (fun q _ h => hFc q h) (fun E9 ce9 q9 u9 t9 H9 locs9 ht9 hvm9 hp9 hE9 hz9 hk9 hS9 hc9 hv9 hcl9 => vx_out (fun x h => (hxt x h).elim) hlocks hc9 hv9 hcl9 (fun t1 ht1 ha1 => ⟨(), trivial, ⟨hE9.1, fun h => hn_12 h.2.1⟩, hS9.F ht1⟩) hS9.2.2 (Nat.le_of_ble_eq_true rfl) (Nat.le_of_ble_eq_true rfl)) (fun u t H1 locs ht hvm hw_13 hB hz1 hk1 hS => ?_)
      obtain ⟨hP1, hK1, hD1⟩ := hB
      rw [ht] at hP1
      try dsimp only at hw_13
      obtain ⟨hP, hD⟩ := va_join (wr := [(ya, .inr (16, [.ref ms, .int 0, .ref ju, .ref li, .ref ct, .ref tg, .ref fw])), (ct, .inr (5, [.int 0, .ref cr, .ref cu, .ref cg, .ref cp, .ref co])), (cr, .inl (cI, 4, .inl f1))]) (w1 := []) hP hD [] [0, 1, 2] rfl rfl (by decide) (by decide) hk1 hFc hP1 hD1
      generalize H1 = H at hP hS ⊢
      have hP : va_P (dC, dI) vwCl [(ya, .inr (16, [.ref ms, .int 0, .ref ju, .ref li, .ref ct, .ref tg, .ref fw])), (ct, .inr (5, [.int 0, .ref cr, .ref cu, .ref cg, .ref cp, .ref co])), (cr, .inl (cI, 4, .inl f1))] H := hP
      have hD : va_D A [(ya, .inr (16, [.ref ms, .int 0, .ref ju, .ref li, .ref ct, .ref tg, .ref fw])), (ct, .inr (5, [.int 0, .ref cr, .ref cu, .ref cg, .ref cp, .ref co])), (cr, .inl (cI, 4, .inl f1))] := hD
      refine W.widen (k := 1) (n := 6) (Nat.le_of_ble_eq_true rfl) (Nat.le_of_ble_eq_true rfl) ?_
      exact absurd rfl hw_13
    · have hn_14 := (hq_10).elim (fun h => h.2) (fun h => absurd h.1 c19_11)
      refine lv_iconst (v := 1) hx hb dX11_runCounters_22 (by decide) ?_
      refine lv_goto (tgt := 27) hx hb dX11_runCounters_23 (by decide) ?_
      have hPc := hP.sub (ws' := []) [] rfl
      have hDc := hD.sub (ws' := []) [] (by decide) rfl
      have hKc := hK.sub (tys' := []) [] rfl
      have hFc := va_free (wc := []) hD hS hA [] rfl
      refine vx_callv (vx_runS (As := [.int 1]) (rest := []) ⟨hx, hb, hml, hown, hts⟩ (c_X11_demand l hfl dC dI 1 H.size) (va_cwS 1 hts gX11_runCounters_X11_demand rfl rfl rfl (by decide +kernel) ⟨Nat.le_of_ble_eq_true rfl, Nat.le_of_ble_eq_true rfl⟩) (pcSz (zX_ok) hPc hDc hKc hN hZ hS hFc) rfl rfl hl.1 rfl (lv_room (Nat.le_of_ble_eq_true rfl)) dX11_runCounters_27 ⟨Nat.le_of_ble_eq_true rfl, Nat.le_of_ble_eq_true rfl⟩) hS (fun q _ h => hFc q h) hFc (fun q _ h => hFc q h) (fun E9 ce9 q9 u9 t9 H9 locs9 ht9 hvm9 hp9 hE9 hz9 hk9 hS9 hc9 hv9 hcl9 => absurd hE9.2 (by decide)) (fun u t H1 locs ht hvm hw_15 hB hz1 hk1 hS => ?_)
      obtain ⟨hP1, hK1, hD1⟩ := hB
      rw [ht] at hP1
      try dsimp only at hw_15
      obtain ⟨hP, hD⟩ := va_join (wr := [(ya, .inr (16, [.ref ms, .int 0, .ref ju, .ref li, .ref ct, .ref tg, .ref fw])), (ct, .inr (5, [.int 0, .ref cr, .ref cu, .ref cg, .ref cp, .ref co])), (cr, .inl (cI, 4, .inl f1))]) (w1 := []) hP hD [] [0, 1, 2] rfl rfl (by decide) (by decide) hk1 hFc hP1 hD1
      generalize H1 = H at hP hS ⊢
      have hP : va_P (dC, dI) vwCl [(ya, .inr (16, [.ref ms, .int 0, .ref ju, .ref li, .ref ct, .ref tg, .ref fw])), (ct, .inr (5, [.int 0, .ref cr, .ref cu, .ref cg, .ref cp, .ref co])), (cr, .inl (cI, 4, .inl f1))] H := hP
      have hD : va_D A [(ya, .inr (16, [.ref ms, .int 0, .ref ju, .ref li, .ref ct, .ref tg, .ref fw])), (ct, .inr (5, [.int 0, .ref cr, .ref cu, .ref cg, .ref cp, .ref co])), (cr, .inl (cI, 4, .inl f1))] := hD
      refine W.widen (k := 1) (n := 6) (Nat.le_of_ble_eq_true rfl) (Nat.le_of_ble_eq_true rfl) ?_
      refine lv_iload_n hx hb dX11_runCounters_30 rfl (lv_at hl 3 rfl) ?_
      refine lv_iconst (v := 0) hx hb dX11_runCounters_31 (by decide) ?_
      refine lv_sipush (v := 5000) hx hb dX11_runCounters_32 (by decide) ?_
      have hPc := hP.sub (ws' := []) [] rfl
      have hDc := hD.sub (ws' := []) [] (by decide) rfl
      have hKc := hK.sub (tys' := []) [] rfl
      have hFc := va_free (wc := []) hD hS hA [] rfl
      refine va_calli (va_runS (As := [.int a3, .int 0, .int 5000]) (rest := []) ⟨hx, hb, hml, hown, hts⟩ (c_X11_isWithin l dC dI a3 0 5000 H.size) (va_cwS 3 hts gX11_runCounters_X11_isWithin rfl rfl rfl (by decide +kernel) ⟨Nat.le_of_ble_eq_true rfl, Nat.le_of_ble_eq_true rfl⟩) (pcS hPc hDc hKc hN) rfl rfl hl.1 rfl (lv_room (Nat.le_of_ble_eq_true rfl)) dX11_runCounters_35 ⟨Nat.le_of_ble_eq_true rfl, Nat.le_of_ble_eq_true rfl⟩) hS (fun q _ h => hFc q h) hFc (fun r_16 u t H1 locs ht hvm hw_17 hB hz1 hk1 hS => ?_)
      obtain ⟨hP1, hK1, hD1⟩ := hB
      rw [ht] at hP1
      try dsimp only at hw_17
      obtain ⟨hP, hD⟩ := va_join (wr := [(ya, .inr (16, [.ref ms, .int 0, .ref ju, .ref li, .ref ct, .ref tg, .ref fw])), (ct, .inr (5, [.int 0, .ref cr, .ref cu, .ref cg, .ref cp, .ref co])), (cr, .inl (cI, 4, .inl f1))]) (w1 := []) hP hD [] [0, 1, 2] rfl rfl (by decide) (by decide) hk1 hFc hP1 hD1
      generalize H1 = H at hP hS ⊢
      have hP : va_P (dC, dI) vwCl [(ya, .inr (16, [.ref ms, .int 0, .ref ju, .ref li, .ref ct, .ref tg, .ref fw])), (ct, .inr (5, [.int 0, .ref cr, .ref cu, .ref cg, .ref cp, .ref co])), (cr, .inl (cI, 4, .inl f1))] H := hP
      have hD : va_D A [(ya, .inr (16, [.ref ms, .int 0, .ref ju, .ref li, .ref ct, .ref tg, .ref fw])), (ct, .inr (5, [.int 0, .ref cr, .ref cu, .ref cg, .ref cp, .ref co])), (cr, .inl (cI, 4, .inl f1))] := hD
      have hq_18 : (r_16 = 1 ∧ 0 ≤ a3 ∧ a3 ≤ 5000) ∨ (r_16 = 0 ∧ ¬ (0 ≤ a3 ∧ a3 ≤ 5000)) := by rw [hw_17]; exact within_iff
      have hPc := hP.sub (ws' := []) [] rfl
      have hDc := hD.sub (ws' := []) [] (by decide) rfl
      have hKc := hK.sub (tys' := []) [] rfl
      have hFc := va_free (wc := []) hD hS hA [] rfl
      refine vx_callv (vx_runS (As := [.int r_16]) (rest := []) ⟨hx, hb, hml, hown, hts⟩ (c_X11_demand l hfl dC dI r_16 H.size) (va_cwS 1 hts gX11_runCounters_X11_demand rfl rfl rfl (by decide +kernel) ⟨Nat.le_of_ble_eq_true rfl, Nat.le_of_ble_eq_true rfl⟩) (pcSz (zX_ok) hPc hDc hKc hN hZ hS hFc) rfl rfl hl.1 rfl (lv_room (Nat.le_of_ble_eq_true rfl)) dX11_runCounters_38 ⟨Nat.le_of_ble_eq_true rfl, Nat.le_of_ble_eq_true rfl⟩) hS (fun q _ h => hFc q h) hFc (fun q _ h => hFc q h) (fun E9 ce9 q9 u9 t9 H9 locs9 ht9 hvm9 hp9 hE9 hz9 hk9 hS9 hc9 hv9 hcl9 => vx_out (fun x h => (hxt x h).elim) hlocks hc9 hv9 hcl9 (fun t1 ht1 ha1 => ⟨(), trivial, ⟨hE9.1, fun h => (hq_18).elim (fun h9 => absurd (hE9.2.symm.trans h9.1) (by decide)) (fun h9 => h9.2 h.2.2)⟩, hS9.F ht1⟩) hS9.2.2 (Nat.le_of_ble_eq_true rfl) (Nat.le_of_ble_eq_true rfl)) (fun u t H1 locs ht hvm hw_19 hB hz1 hk1 hS => ?_)
      obtain ⟨hP1, hK1, hD1⟩ := hB
      rw [ht] at hP1
      try dsimp only at hw_19
      obtain ⟨hP, hD⟩ := va_join (wr := [(ya, .inr (16, [.ref ms, .int 0, .ref ju, .ref li, .ref ct, .ref tg, .ref fw])), (ct, .inr (5, [.int 0, .ref cr, .ref cu, .ref cg, .ref cp, .ref co])), (cr, .inl (cI, 4, .inl f1))]) (w1 := []) hP hD [] [0, 1, 2] rfl rfl (by decide) (by decide) hk1 hFc hP1 hD1
      generalize H1 = H at hP hS ⊢
      have hP : va_P (dC, dI) vwCl [(ya, .inr (16, [.ref ms, .int 0, .ref ju, .ref li, .ref ct, .ref tg, .ref fw])), (ct, .inr (5, [.int 0, .ref cr, .ref cu, .ref cg, .ref cp, .ref co])), (cr, .inl (cI, 4, .inl f1))] H := hP
      have hD : va_D A [(ya, .inr (16, [.ref ms, .int 0, .ref ju, .ref li, .ref ct, .ref tg, .ref fw])), (ct, .inr (5, [.int 0, .ref cr, .ref cu, .ref cg, .ref cp, .ref co])), (cr, .inl (cI, 4, .inl f1))] := hD
      refine W.widen (k := 2) (n := 12) (Nat.le_of_ble_eq_true rfl) (Nat.le_of_ble_eq_true rfl) ?_
      have hn_20 := (hq_18).elim (fun h => h.2) (fun h => absurd h.1 hw_19)
      refine lv_aload_n hx hb dX11_runCounters_41 rfl (lv_at hl 0 rfl) ?_
      refine va_get (D := (dC, dI)) (ci := 16) (v := .ref ct) (C := RX11) (T := TX11) (N := 7) hx hb hts iWX11 hown hK hP 0 rfl rfl 4 (by decide) (hts (.fieldLink RX11 36 "Beaverhall" "counters" "LBeaverhall$Counters;") (by decide +kernel)) (fun _ h9 => h9) rfl dX11_runCounters_42 ?_
      refine lv_iload_n hx hb dX11_runCounters_45 rfl (lv_at hl 1 rfl) ?_
      refine lv_iload_n hx hb dX11_runCounters_46 rfl (lv_at hl 2 rfl) ?_
      refine lv_iload_n hx hb dX11_runCounters_47 rfl (lv_at hl 3 rfl) ?_
      have hPc := hP.sub (ws' := [(ct, .inr (5, [.int 0, .ref cr, .ref cu, .ref cg, .ref cp, .ref co])), (cr, .inl (cI, 4, .inl f1))]) [1, 2] rfl
      have hDc := hD.sub (ws' := [(ct, .inr (5, [.int 0, .ref cr, .ref cu, .ref cg, .ref cp, .ref co])), (cr, .inl (cI, 4, .inl f1))]) [1, 2] (by decide) rfl
      have hKc := hK.sub (tys' := [(cI, .int)]) [0] rfl
      have hFc := va_free (wc := [(ct, .inr (5, [.int 0, .ref cr, .ref cu, .ref cg, .ref cp, .ref co])), (cr, .inl (cI, 4, .inl f1))]) hD hS hA [1, 2] rfl
      refine va_calli (va_runV (As := [.int a1, .int a2, .int a3]) (rest := []) ⟨hx, hb, hml, hown, hts⟩ (c_X0_go l dC dI cI ct cr cu cg cp co f1 a1 a2 a3 H.size) (cwV 3 hts gX11_runCounters_X0_go rfl rfl rfl (by decide +kernel) ⟨Nat.le_of_ble_eq_true rfl, Nat.le_of_ble_eq_true rfl⟩) (pcV hPc hDc hKc hN (ci := 5) (q0 := 0) rfl rfl) rfl rfl hl.1 rfl (lv_room (Nat.le_of_ble_eq_true rfl)) dX11_runCounters_48 ⟨Nat.le_of_ble_eq_true rfl, Nat.le_of_ble_eq_true rfl⟩) hS (fun q _ h => hFc q h) hFc (fun r_21 u t H1 locs ht hvm hw_22 hB hz1 hk1 hS => ?_)
      obtain ⟨hP1, hK1, hD1⟩ := hB
      rw [ht] at hP1
      try dsimp only at hw_22
      obtain ⟨hP, hD⟩ := va_join (wr := [(ya, .inr (16, [.ref ms, .int 0, .ref ju, .ref li, .ref ct, .ref tg, .ref fw]))]) (w1 := []) hP hD [1, 2] [0] rfl rfl (by decide) (by decide) hk1 hFc hP1 hD1
      generalize H1 = H at hP hS ⊢
      have hP : va_P (dC, dI) vwCl [(ya, .inr (16, [.ref ms, .int 0, .ref ju, .ref li, .ref ct, .ref tg, .ref fw]))] H := hP
      have hD : va_D A [(ya, .inr (16, [.ref ms, .int 0, .ref ju, .ref li, .ref ct, .ref tg, .ref fw]))] := hD
      refine vx_ret ?_
      have hP9 := hP.sub (ws' := []) [] rfl
      have hD9 := hD.sub (ws' := []) [] (by decide) rfl
      have hK9 := hK.sub (tys' := [(cI, .int)]) [0] rfl
      exact W.iret (v := r_21) hx hb hr (fun t ht hW => ⟨⟨r_21, (), rfl, ⟨hw_22, hn_7, hn_14, hn_20⟩, ⟨by rw [ht]; exact hP9, va_K.moved hW.alike hK9, hD9⟩⟩, hS.F ht⟩) hS.2.2 dX11_runCounters_51

set_option maxHeartbeats 4000000 in
set_option maxRecDepth 100000 in
/-- X11_register -/
theorem c_X11_register (l : Launch) (hfl : l.stackTraces = false) (dC : Nat → ClassId) (dI : Nat → Nat → Nat) (cI : ClassId) (ya ms ju li ct tg fw : Nat) (cr cu cg cp co : Nat) (a1 : Int32) (sz : Nat) : vx_Met l yX11_register wsX11_register ({ frames := 6, cells := 1, slots := 6, locals := 100 }) (va_Pc [.ref ya, .int a1] (cPCz (zX) dC dI [(ya, .inr (16, [.ref ms, .int 0, .ref ju, .ref li, .ref ct, .ref tg, .ref fw])), (ct, .inr (5, [.int 0, .ref cr, .ref cu, .ref cg, .ref cp, .ref co])), (cr, .inl (cI, 4, .inl (fun _ => 0)))] [(cI, .int)] sz)) (va_Qi (fun (r : Int32) (u : Unit) => r = 0 ∧ pReg a1) (fun (u : Unit) t => cQB dC dI [] [(cI, .int)] (va_A [(ya, .inr (16, [.ref ms, .int 0, .ref ju, .ref li, .ref ct, .ref tg, .ref fw])), (ct, .inr (5, [.int 0, .ref cr, .ref cu, .ref cg, .ref cp, .ref co])), (cr, .inl (cI, 4, .inl (fun _ => 0)))] sz) t) (va_A [(ya, .inr (16, [.ref ms, .int 0, .ref ju, .ref li, .ref ct, .ref tg, .ref fw])), (ct, .inr (5, [.int 0, .ref cr, .ref cu, .ref cg, .ref cp, .ref co])), (cr, .inl (cI, 4, .inl (fun _ => 0)))] sz)) (vx_X (fun (_ : Unit) => True) (fun (E9 : String) (_ : Unit) (_ : State) => E9 = "java/lang/IndexOutOfBoundsException" ∧ ¬ pReg a1) (va_A [(ya, .inr (16, [.ref ms, .int 0, .ref ju, .ref li, .ref ct, .ref tg, .ref fw])), (ct, .inr (5, [.int 0, .ref cr, .ref cu, .ref cg, .ref cp, .ref co])), (cr, .inl (cI, 4, .inl (fun _ => 0)))] sz)) 1 6 (va_A [(ya, .inr (16, [.ref ms, .int 0, .ref ju, .ref li, .ref ct, .ref tg, .ref fw])), (ct, .inr (5, [.int 0, .ref cr, .ref cu, .ref cg, .ref cp, .ref co])), (cr, .inl (cI, 4, .inl (fun _ => 0)))] sz) := by
  refine vx_ofW (cc := cX11_register) (maxL := 2) (ret := (some .int)) (by decide) rfl ?_
  intro p e s m args below meth c s₁ B hml hxt hv
  obtain ⟨rfl, ⟨hsz, hP, hK, hD0, hN⟩, hZ⟩ := hv
  have hx := B.exec
  have hb := B.bytes
  have hr := B.returns
  have hts := atoms_spec (ws := wsX11_register) B.pre
  have hown : s.vm.findClass RX11 = some m.cls := findClass_of_methodNamed B.named
  have hlocks := B.notSynchronized
  subst hsz
  have hD := hD0.self (sz := s.heap.size)
  generalize hAe : va_A [(ya, .inr (16, [.ref ms, .int 0, .ref ju, .ref li, .ref ct, .ref tg, .ref fw])), (ct, .inr (5, [.int 0, .ref cr, .ref cu, .ref cg, .ref cp, .ref co])), (cr, .inl (cI, 4, .inl (fun _ => 0)))] s.heap.size = A at hD hZ ⊢
  have hA : ∀ q : Nat, s.heap.size ≤ q → A q := fun q h => by rw [← hAe]; exact Or.inr h
  have hS : va_S A s.heap s.heap [] := va_S.rf
  have hP : va_P (dC, dI) vwCl [(ya, .inr (16, [.ref ms, .int 0, .ref ju, .ref li, .ref ct, .ref tg, .ref fw])), (ct, .inr (5, [.int 0, .ref cr, .ref cu, .ref cg, .ref cp, .ref co])), (cr, .inl (cI, 4, .inl (fun _ => 0)))] s.heap := hP
  have hD : va_D A [(ya, .inr (16, [.ref ms, .int 0, .ref ju, .ref li, .ref ct, .ref tg, .ref fw])), (ct, .inr (5, [.int 0, .ref cr, .ref cu, .ref cg, .ref cp, .ref co])), (cr, .inl (cI, 4, .inl (fun _ => 0)))] := hD
  have hl := lv_entry ([.ref ya, .int a1]) (n := 2) (Nat.le_of_ble_eq_true rfl)
  rw [lg_entry_eq]
  generalize (lg_sl ([.ref ya, .int a1]) ++ List.replicate (2 - (lg_sl ([.ref ya, .int a1])).length) Slot.unset).toArray = ls at hl ⊢
  have hl : lv_has ls 2 [(0, .ref ya), (1, .int a1)] := hl
  have iWX0 : ∀ w ∈ u_ws RX0 TX0 6, w ∈ wsX11_register := by decide +kernel
  have iWX11 : ∀ w ∈ u_ws RX11 TX11 7, w ∈ wsX11_register := by decide +kernel
  refine lv_iload_n hx hb dX11_register_0 rfl (lv_at hl 1 rfl) ?_
  refine lv_iconst (v := 0) hx hb dX11_register_1 (by decide) ?_
  refine lv_iconst (v := 3) hx hb dX11_register_2 (by decide) ?_
  have hPc := hP.sub (ws' := []) [] rfl
  have hDc := hD.sub (ws' := []) [] (by decide) rfl
  have hKc := hK.sub (tys' := []) [] rfl
  have hFc := va_free (wc := []) hD hS hA [] rfl
  refine va_calli (va_runS (As := [.int a1, .int 0, .int 3]) (rest := []) ⟨hx, hb, hml, hown, hts⟩ (c_X11_isWithin l dC dI a1 0 3 s.heap.size) (va_cwS 3 hts gX11_register_X11_isWithin rfl rfl rfl (by decide +kernel) ⟨Nat.le_of_ble_eq_true rfl, Nat.le_of_ble_eq_true rfl⟩) (pcS hPc hDc hKc hN) rfl rfl hl.1 rfl (lv_room (Nat.le_of_ble_eq_true rfl)) dX11_register_3 ⟨Nat.le_of_ble_eq_true rfl, Nat.le_of_ble_eq_true rfl⟩) hS (fun q _ h => hFc q h) hFc (fun r_1 u t H1 locs ht hvm hw_2 hB hz1 hk1 hS => ?_)
  obtain ⟨hP1, hK1, hD1⟩ := hB
  rw [ht] at hP1
  try dsimp only at hw_2
  obtain ⟨hP, hD⟩ := va_join (wr := [(ya, .inr (16, [.ref ms, .int 0, .ref ju, .ref li, .ref ct, .ref tg, .ref fw])), (ct, .inr (5, [.int 0, .ref cr, .ref cu, .ref cg, .ref cp, .ref co])), (cr, .inl (cI, 4, .inl (fun _ => 0)))]) (w1 := []) hP hD [] [0, 1, 2] rfl rfl (by decide) (by decide) hk1 hFc hP1 hD1
  generalize H1 = H at hP hS ⊢
  have hP : va_P (dC, dI) vwCl [(ya, .inr (16, [.ref ms, .int 0, .ref ju, .ref li, .ref ct, .ref tg, .ref fw])), (ct, .inr (5, [.int 0, .ref cr, .ref cu, .ref cg, .ref cp, .ref co])), (cr, .inl (cI, 4, .inl (fun _ => 0)))] H := hP
  have hD : va_D A [(ya, .inr (16, [.ref ms, .int 0, .ref ju, .ref li, .ref ct, .ref tg, .ref fw])), (ct, .inr (5, [.int 0, .ref cr, .ref cu, .ref cg, .ref cp, .ref co])), (cr, .inl (cI, 4, .inl (fun _ => 0)))] := hD
  have hq_3 : (r_1 = 1 ∧ 0 ≤ a1 ∧ a1 ≤ 3) ∨ (r_1 = 0 ∧ ¬ (0 ≤ a1 ∧ a1 ≤ 3)) := by rw [hw_2]; exact within_iff
  refine lv_if_ne (tgt := 17) hx hb dX11_register_6 (by decide) (fun c6_4 => ?_) (fun c6_4 => ?_)
  · have hn_5 := (hq_3).elim (fun h => h.2) (fun h => absurd h.1 c6_4)
    refine lv_aload_n hx hb dX11_register_17 rfl (lv_at hl 0 rfl) ?_
    refine va_get (D := (dC, dI)) (ci := 16) (v := .ref ct) (C := RX11) (T := TX11) (N := 7) hx hb hts iWX11 hown hK hP 0 rfl rfl 4 (by decide) (hts (.fieldLink RX11 36 "Beaverhall" "counters" "LBeaverhall$Counters;") (by decide +kernel)) (fun _ h9 => h9) rfl dX11_register_18 ?_
    refine va_get (D := (dC, dI)) (ci := 5) (v := .ref cr) (C := RX0) (T := TX0) (N := 6) hx hb hts iWX0 hown hK hP 1 rfl rfl 1 (by decide) (hts (.fieldLink RX11 241 "Beaverhall$Counters" "registers" "[I") (by decide +kernel)) (fun _ h9 => h9) rfl dX11_register_21 ?_
    refine lv_iload_n hx hb dX11_register_24 rfl (lv_at hl 1 rfl) ?_
    have hPc := hP.sub (ws' := [(cr, .inl (cI, 4, .inl (fun _ => 0)))]) [2] rfl
    have hDc := hD.sub (ws' := [(cr, .inl (cI, 4, .inl (fun _ => 0)))]) [2] (by decide) rfl
    have hKc := hK.sub (tys' := [(cI, .int)]) [0] rfl
    have hFc := va_free (wc := [(cr, .inl (cI, 4, .inl (fun _ => 0)))]) hD hS hA [2] rfl
    refine va_calli (va_runS (As := [.ref cr, .int a1]) (rest := []) ⟨hx, hb, hml, hown, hts⟩ (c_X11_at l dC dI cI cr 4 (fun _ => 0) a1 (by decide) H.size) (va_cwS 2 hts gX11_register_X11_at rfl rfl rfl (by decide +kernel) ⟨Nat.le_of_ble_eq_true rfl, Nat.le_of_ble_eq_true rfl⟩) (pcS hPc hDc hKc hN) rfl rfl hl.1 rfl (lv_room (Nat.le_of_ble_eq_true rfl)) dX11_register_25 ⟨Nat.le_of_ble_eq_true rfl, Nat.le_of_ble_eq_true rfl⟩) hS (fun q _ h => hFc q h) hFc (fun r_6 u t H1 locs ht hvm hw_7 hB hz1 hk1 hS => ?_)
    obtain ⟨hP1, hK1, hD1⟩ := hB
    rw [ht] at hP1
    try dsimp only at hw_7
    obtain ⟨hP, hD⟩ := va_join (wr := [(ya, .inr (16, [.ref ms, .int 0, .ref ju, .ref li, .ref ct, .ref tg, .ref fw])), (ct, .inr (5, [.int 0, .ref cr, .ref cu, .ref cg, .ref cp, .ref co]))]) (w1 := [(cr, .inl (cI, 4, .inl (fun _ => 0)))]) hP hD [2] [0, 1] rfl rfl (by decide) (by decide) hk1 hFc hP1 hD1
    generalize H1 = H at hP hS ⊢
    have hP : va_P (dC, dI) vwCl [(ya, .inr (16, [.ref ms, .int 0, .ref ju, .ref li, .ref ct, .ref tg, .ref fw])), (ct, .inr (5, [.int 0, .ref cr, .ref cu, .ref cg, .ref cp, .ref co])), (cr, .inl (cI, 4, .inl (fun _ => 0)))] H := hP
    have hD : va_D A [(ya, .inr (16, [.ref ms, .int 0, .ref ju, .ref li, .ref ct, .ref tg, .ref fw])), (ct, .inr (5, [.int 0, .ref cr, .ref cu, .ref cg, .ref cp, .ref co])), (cr, .inl (cI, 4, .inl (fun _ => 0)))] := hD
    refine vx_ret ?_
    have hP9 := hP.sub (ws' := []) [] rfl
    have hD9 := hD.sub (ws' := []) [] (by decide) rfl
    have hK9 := hK.sub (tys' := [(cI, .int)]) [0] rfl
    refine W.widen (k := 1) (n := 6) (Nat.le_of_ble_eq_true rfl) (Nat.le_of_ble_eq_true rfl) ?_
    exact W.iret (v := r_6) hx hb hr (fun t ht hW => ⟨⟨r_6, (), rfl, ⟨by rw [hw_7]; exact at_zero, hn_5⟩, ⟨by rw [ht]; exact hP9, va_K.moved hW.alike hK9, hD9⟩⟩, hS.F ht⟩) hS.2.2 dX11_register_28
  · have hn_8 := (hq_3).elim (fun h => absurd (h.1.symm.trans c6_4) (by decide)) (fun h => h.2)
    exact vx_throw0 (own := RX11) (cls := "java/lang/IndexOutOfBoundsException") (names := ["java/lang/RuntimeException", "java/lang/Exception"]) (ik := 238) (ic := 240) hx hb hfl hown (by decide) (by decide) (hts (.classLink RX11 238 "java/lang/IndexOutOfBoundsException") (by decide +kernel)) (hts (.initialized "java/lang/IndexOutOfBoundsException") (by decide +kernel)) (vx_hat (fun w9 hw9 => hts w9 (List.mem_cons_of_mem _ (List.mem_append_left _ (List.mem_append_right _ hw9)))) (by decide +kernel) (zX_use hZ)) (by decide +kernel) hZ.1.1 hZ.1.2 hS (hl.1.trans hml.symm) dX11_register_9 dX11_register_12 dX11_register_13 dX11_register_16 (fun x h => (hxt x h).elim) (Nat.le_of_ble_eq_true rfl) (Nat.le_of_ble_eq_true rfl) (Nat.le_of_ble_eq_true rfl) (Nat.le_of_ble_eq_true rfl) hlocks (fun t ha h1 h2 => ⟨(), trivial, ⟨rfl, hn_8⟩, thr_F hS h1 h2⟩) hS.2.2 (Nat.le_of_ble_eq_true rfl) (Nat.le_of_ble_eq_true rfl)

set_option maxHeartbeats 4000000 in
set_option maxRecDepth 100000 in
/-- X11_tagRow -/
theorem c_X11_tagRow (l : Launch) (hfl : l.stackTraces = false) (dC : Nat → ClassId) (dI : Nat → Nat → Nat) (cI : ClassId) (ya ms ju li ct tg fw : Nat) (ts tr tk te : Nat) (f1 : Nat → Int32) (a1 a2 : Int32) (sz : Nat) : vx_Met l yX11_tagRow wsX11_tagRow ({ frames := 7, cells := 1, slots := 6, locals := 120 }) (va_Pc [.ref ya, .int a1, .int a2] (cPCz (zX) dC dI [(ya, .inr (16, [.ref ms, .int 0, .ref ju, .ref li, .ref ct, .ref tg, .ref fw])), (tg, .inr (14, [.int 0, .int 0, .ref ts, .ref tr, .ref tk, .ref te])), (tr, .inl (cI, 24, .inl f1)), (tk, .inl (cI, 4, .inl (fun _ => 0)))] [(cI, .int)] sz)) (va_Qi (fun (r : Int32) (u : Unit) => r = 1 ∧ pLetter a1 ∧ pLetter a2) (fun (u : Unit) t => cQB dC dI [] [(cI, .int)] (va_A [(ya, .inr (16, [.ref ms, .int 0, .ref ju, .ref li, .ref ct, .ref tg, .ref fw])), (tg, .inr (14, [.int 0, .int 0, .ref ts, .ref tr, .ref tk, .ref te])), (tr, .inl (cI, 24, .inl f1)), (tk, .inl (cI, 4, .inl (fun _ => 0)))] sz) t) (va_A [(ya, .inr (16, [.ref ms, .int 0, .ref ju, .ref li, .ref ct, .ref tg, .ref fw])), (tg, .inr (14, [.int 0, .int 0, .ref ts, .ref tr, .ref tk, .ref te])), (tr, .inl (cI, 24, .inl f1)), (tk, .inl (cI, 4, .inl (fun _ => 0)))] sz)) (vx_X (fun (_ : Unit) => True) (fun (E9 : String) (_ : Unit) (_ : State) => E9 = "java/lang/IllegalArgumentException" ∧ ¬ (pLetter a1 ∧ pLetter a2)) (va_A [(ya, .inr (16, [.ref ms, .int 0, .ref ju, .ref li, .ref ct, .ref tg, .ref fw])), (tg, .inr (14, [.int 0, .int 0, .ref ts, .ref tr, .ref tk, .ref te])), (tr, .inl (cI, 24, .inl f1)), (tk, .inl (cI, 4, .inl (fun _ => 0)))] sz)) 1 6 (va_A [(ya, .inr (16, [.ref ms, .int 0, .ref ju, .ref li, .ref ct, .ref tg, .ref fw])), (tg, .inr (14, [.int 0, .int 0, .ref ts, .ref tr, .ref tk, .ref te])), (tr, .inl (cI, 24, .inl f1)), (tk, .inl (cI, 4, .inl (fun _ => 0)))] sz) := by
  refine vx_ofW (cc := cX11_tagRow) (maxL := 3) (ret := (some .int)) (by decide) rfl ?_
  intro p e s m args below meth c s₁ B hml hxt hv
  obtain ⟨rfl, ⟨hsz, hP, hK, hD0, hN⟩, hZ⟩ := hv
  have hx := B.exec
  have hb := B.bytes
  have hr := B.returns
  have hts := atoms_spec (ws := wsX11_tagRow) B.pre
  have hown : s.vm.findClass RX11 = some m.cls := findClass_of_methodNamed B.named
  have hlocks := B.notSynchronized
  subst hsz
  have hD := hD0.self (sz := s.heap.size)
  generalize hAe : va_A [(ya, .inr (16, [.ref ms, .int 0, .ref ju, .ref li, .ref ct, .ref tg, .ref fw])), (tg, .inr (14, [.int 0, .int 0, .ref ts, .ref tr, .ref tk, .ref te])), (tr, .inl (cI, 24, .inl f1)), (tk, .inl (cI, 4, .inl (fun _ => 0)))] s.heap.size = A at hD hZ ⊢
  have hA : ∀ q : Nat, s.heap.size ≤ q → A q := fun q h => by rw [← hAe]; exact Or.inr h
  have hS : va_S A s.heap s.heap [] := va_S.rf
  have hP : va_P (dC, dI) vwCl [(ya, .inr (16, [.ref ms, .int 0, .ref ju, .ref li, .ref ct, .ref tg, .ref fw])), (tg, .inr (14, [.int 0, .int 0, .ref ts, .ref tr, .ref tk, .ref te])), (tr, .inl (cI, 24, .inl f1)), (tk, .inl (cI, 4, .inl (fun _ => 0)))] s.heap := hP
  have hD : va_D A [(ya, .inr (16, [.ref ms, .int 0, .ref ju, .ref li, .ref ct, .ref tg, .ref fw])), (tg, .inr (14, [.int 0, .int 0, .ref ts, .ref tr, .ref tk, .ref te])), (tr, .inl (cI, 24, .inl f1)), (tk, .inl (cI, 4, .inl (fun _ => 0)))] := hD
  have hl := lv_entry ([.ref ya, .int a1, .int a2]) (n := 3) (Nat.le_of_ble_eq_true rfl)
  rw [lg_entry_eq]
  generalize (lg_sl ([.ref ya, .int a1, .int a2]) ++ List.replicate (3 - (lg_sl ([.ref ya, .int a1, .int a2])).length) Slot.unset).toArray = ls at hl ⊢
  have hl : lv_has ls 3 [(0, .ref ya), (1, .int a1), (2, .int a2)] := hl
  have iWX11 : ∀ w ∈ u_ws RX11 TX11 7, w ∈ wsX11_tagRow := by decide +kernel
  refine lv_iload_n hx hb dX11_tagRow_0 rfl (lv_at hl 1 rfl) ?_
  refine lv_bipush (v := 97) hx hb dX11_tagRow_1 (by decide) ?_
  refine lv_bipush (v := 100) hx hb dX11_tagRow_3 (by decide) ?_
  have hPc := hP.sub (ws' := []) [] rfl
  have hDc := hD.sub (ws' := []) [] (by decide) rfl
  have hKc := hK.sub (tys' := []) [] rfl
  have hFc := va_free (wc := []) hD hS hA [] rfl
  refine va_calli (va_runS (As := [.int a1, .int 97, .int 100]) (rest := []) ⟨hx, hb, hml, hown, hts⟩ (c_X11_isWithin l dC dI a1 97 100 s.heap.size) (va_cwS 3 hts gX11_tagRow_X11_isWithin rfl rfl rfl (by decide +kernel) ⟨Nat.le_of_ble_eq_true rfl, Nat.le_of_ble_eq_true rfl⟩) (pcS hPc hDc hKc hN) rfl rfl hl.1 rfl (lv_room (Nat.le_of_ble_eq_true rfl)) dX11_tagRow_5 ⟨Nat.le_of_ble_eq_true rfl, Nat.le_of_ble_eq_true rfl⟩) hS (fun q _ h => hFc q h) hFc (fun r_1 u t H1 locs ht hvm hw_2 hB hz1 hk1 hS => ?_)
  obtain ⟨hP1, hK1, hD1⟩ := hB
  rw [ht] at hP1
  try dsimp only at hw_2
  obtain ⟨hP, hD⟩ := va_join (wr := [(ya, .inr (16, [.ref ms, .int 0, .ref ju, .ref li, .ref ct, .ref tg, .ref fw])), (tg, .inr (14, [.int 0, .int 0, .ref ts, .ref tr, .ref tk, .ref te])), (tr, .inl (cI, 24, .inl f1)), (tk, .inl (cI, 4, .inl (fun _ => 0)))]) (w1 := []) hP hD [] [0, 1, 2, 3] rfl rfl (by decide) (by decide) hk1 hFc hP1 hD1
  generalize H1 = H at hP hS ⊢
  have hP : va_P (dC, dI) vwCl [(ya, .inr (16, [.ref ms, .int 0, .ref ju, .ref li, .ref ct, .ref tg, .ref fw])), (tg, .inr (14, [.int 0, .int 0, .ref ts, .ref tr, .ref tk, .ref te])), (tr, .inl (cI, 24, .inl f1)), (tk, .inl (cI, 4, .inl (fun _ => 0)))] H := hP
  have hD : va_D A [(ya, .inr (16, [.ref ms, .int 0, .ref ju, .ref li, .ref ct, .ref tg, .ref fw])), (tg, .inr (14, [.int 0, .int 0, .ref ts, .ref tr, .ref tk, .ref te])), (tr, .inl (cI, 24, .inl f1)), (tk, .inl (cI, 4, .inl (fun _ => 0)))] := hD
  have hq_3 : (r_1 = 1 ∧ 97 ≤ a1 ∧ a1 ≤ 100) ∨ (r_1 = 0 ∧ ¬ (97 ≤ a1 ∧ a1 ≤ 100)) := by rw [hw_2]; exact within_iff
  refine lv_if_eq (tgt := 26) hx hb dX11_tagRow_8 (by decide) (fun c8_4 => ?_) (fun c8_4 => ?_)
  · have hn_5 := (hq_3).elim (fun h => absurd (h.1.symm.trans c8_4) (by decide)) (fun h => h.2)
    refine lv_iconst (v := 0) hx hb dX11_tagRow_26 (by decide) ?_
    have hPc := hP.sub (ws' := []) [] rfl
    have hDc := hD.sub (ws' := []) [] (by decide) rfl
    have hKc := hK.sub (tys' := []) [] rfl
    have hFc := va_free (wc := []) hD hS hA [] rfl
    refine vx_callv (vx_runS (As := [.int 0]) (rest := []) ⟨hx, hb, hml, hown, hts⟩ (c_X11_demand l hfl dC dI 0 H.size) (va_cwS 1 hts gX11_tagRow_X11_demand rfl rfl rfl (by decide +kernel) ⟨Nat.le_of_ble_eq_true rfl, Nat.le_of_ble_eq_true rfl⟩) (pcSz (zX_ok) hPc hDc hKc hN hZ hS hFc) rfl rfl hl.1 rfl (lv_room (Nat.le_of_ble_eq_true rfl)) dX11_tagRow_27 ⟨Nat.le_of_ble_eq_true rfl, Nat.le_of_ble_eq_true rfl⟩) hS (fun q _ h => hFc q h) hFc (fun q _ h => hFc q h) (fun E9 ce9 q9 u9 t9 H9 locs9 ht9 hvm9 hp9 hE9 hz9 hk9 hS9 hc9 hv9 hcl9 => vx_out (fun x h => (hxt x h).elim) hlocks hc9 hv9 hcl9 (fun t1 ht1 ha1 => ⟨(), trivial, ⟨hE9.1, fun h => hn_5 h.1⟩, hS9.F ht1⟩) hS9.2.2 (Nat.le_of_ble_eq_true rfl) (Nat.le_of_ble_eq_true rfl)) (fun u t H1 locs ht hvm hw_6 hB hz1 hk1 hS => ?_)
    obtain ⟨hP1, hK1, hD1⟩ := hB
    rw [ht] at hP1
    try dsimp only at hw_6
    obtain ⟨hP, hD⟩ := va_join (wr := [(ya, .inr (16, [.ref ms, .int 0, .ref ju, .ref li, .ref ct, .ref tg, .ref fw])), (tg, .inr (14, [.int 0, .int 0, .ref ts, .ref tr, .ref tk, .ref te])), (tr, .inl (cI, 24, .inl f1)), (tk, .inl (cI, 4, .inl (fun _ => 0)))]) (w1 := []) hP hD [] [0, 1, 2, 3] rfl rfl (by decide) (by decide) hk1 hFc hP1 hD1
    generalize H1 = H at hP hS ⊢
    have hP : va_P (dC, dI) vwCl [(ya, .inr (16, [.ref ms, .int 0, .ref ju, .ref li, .ref ct, .ref tg, .ref fw])), (tg, .inr (14, [.int 0, .int 0, .ref ts, .ref tr, .ref tk, .ref te])), (tr, .inl (cI, 24, .inl f1)), (tk, .inl (cI, 4, .inl (fun _ => 0)))] H := hP
    have hD : va_D A [(ya, .inr (16, [.ref ms, .int 0, .ref ju, .ref li, .ref ct, .ref tg, .ref fw])), (tg, .inr (14, [.int 0, .int 0, .ref ts, .ref tr, .ref tk, .ref te])), (tr, .inl (cI, 24, .inl f1)), (tk, .inl (cI, 4, .inl (fun _ => 0)))] := hD
    refine W.widen (k := 1) (n := 6) (Nat.le_of_ble_eq_true rfl) (Nat.le_of_ble_eq_true rfl) ?_
    exact absurd rfl hw_6
  · have hn_7 := (hq_3).elim (fun h => h.2) (fun h => absurd h.1 c8_4)
    refine lv_iload_n hx hb dX11_tagRow_11 rfl (lv_at hl 2 rfl) ?_
    refine lv_bipush (v := 97) hx hb dX11_tagRow_12 (by decide) ?_
    refine lv_bipush (v := 100) hx hb dX11_tagRow_14 (by decide) ?_
    have hPc := hP.sub (ws' := []) [] rfl
    have hDc := hD.sub (ws' := []) [] (by decide) rfl
    have hKc := hK.sub (tys' := []) [] rfl
    have hFc := va_free (wc := []) hD hS hA [] rfl
    refine va_calli (va_runS (As := [.int a2, .int 97, .int 100]) (rest := []) ⟨hx, hb, hml, hown, hts⟩ (c_X11_isWithin l dC dI a2 97 100 H.size) (va_cwS 3 hts gX11_tagRow_X11_isWithin rfl rfl rfl (by decide +kernel) ⟨Nat.le_of_ble_eq_true rfl, Nat.le_of_ble_eq_true rfl⟩) (pcS hPc hDc hKc hN) rfl rfl hl.1 rfl (lv_room (Nat.le_of_ble_eq_true rfl)) dX11_tagRow_16 ⟨Nat.le_of_ble_eq_true rfl, Nat.le_of_ble_eq_true rfl⟩) hS (fun q _ h => hFc q h) hFc (fun r_8 u t H1 locs ht hvm hw_9 hB hz1 hk1 hS => ?_)
    obtain ⟨hP1, hK1, hD1⟩ := hB
    rw [ht] at hP1
    try dsimp only at hw_9
    obtain ⟨hP, hD⟩ := va_join (wr := [(ya, .inr (16, [.ref ms, .int 0, .ref ju, .ref li, .ref ct, .ref tg, .ref fw])), (tg, .inr (14, [.int 0, .int 0, .ref ts, .ref tr, .ref tk, .ref te])), (tr, .inl (cI, 24, .inl f1)), (tk, .inl (cI, 4, .inl (fun _ => 0)))]) (w1 := []) hP hD [] [0, 1, 2, 3] rfl rfl (by decide) (by decide) hk1 hFc hP1 hD1
    generalize H1 = H at hP hS ⊢
    have hP : va_P (dC, dI) vwCl [(ya, .inr (16, [.ref ms, .int 0, .ref ju, .ref li, .ref ct, .ref tg, .ref fw])), (tg, .inr (14, [.int 0, .int 0, .ref ts, .ref tr, .ref tk, .ref te])), (tr, .inl (cI, 24, .inl f1)), (tk, .inl (cI, 4, .inl (fun _ => 0)))] H := hP
    have hD : va_D A [(ya, .inr (16, [.ref ms, .int 0, .ref ju, .ref li, .ref ct, .ref tg, .ref fw])), (tg, .inr (14, [.int 0, .int 0, .ref ts, .ref tr, .ref tk, .ref te])), (tr, .inl (cI, 24, .inl f1)), (tk, .inl (cI, 4, .inl (fun _ => 0)))] := hD
    have hq_10 : (r_8 = 1 ∧ 97 ≤ a2 ∧ a2 ≤ 100) ∨ (r_8 = 0 ∧ ¬ (97 ≤ a2 ∧ a2 ≤ 100)) := by rw [hw_9]; exact within_iff
    refine lv_if_eq (tgt := 26) hx hb dX11_tagRow_19 (by decide) (fun c19_11 => ?_) (fun c19_11 => ?_)
    · have hn_12 := (hq_10).elim (fun h => absurd (h.1.symm.trans c19_11) (by decide)) (fun h => h.2)
      refine lv_iconst (v := 0) hx hb dX11_tagRow_26 (by decide) ?_
      have hPc := hP.sub (ws' := []) [] rfl
      have hDc := hD.sub (ws' := []) [] (by decide) rfl
      have hKc := hK.sub (tys' := []) [] rfl
      have hFc := va_free (wc := []) hD hS hA [] rfl
      refine vx_callv (vx_runS (As := [.int 0]) (rest := []) ⟨hx, hb, hml, hown, hts⟩ (c_X11_demand l hfl dC dI 0 H.size) (va_cwS 1 hts gX11_tagRow_X11_demand rfl rfl rfl (by decide +kernel) ⟨Nat.le_of_ble_eq_true rfl, Nat.le_of_ble_eq_true rfl⟩) (pcSz (zX_ok) hPc hDc hKc hN hZ hS hFc) rfl rfl hl.1 rfl (lv_room (Nat.le_of_ble_eq_true rfl)) dX11_tagRow_27 ⟨Nat.le_of_ble_eq_true rfl, Nat.le_of_ble_eq_true rfl⟩) hS (fun q _ h => hFc q h) hFc (fun q _ h => hFc q h) (fun E9 ce9 q9 u9 t9 H9 locs9 ht9 hvm9 hp9 hE9 hz9 hk9 hS9 hc9 hv9 hcl9 => vx_out (fun x h => (hxt x h).elim) hlocks hc9 hv9 hcl9 (fun t1 ht1 ha1 => ⟨(), trivial, ⟨hE9.1, fun h => hn_12 h.2⟩, hS9.F ht1⟩) hS9.2.2 (Nat.le_of_ble_eq_true rfl) (Nat.le_of_ble_eq_true rfl)) (fun u t H1 locs ht hvm hw_13 hB hz1 hk1 hS => ?_)
      obtain ⟨hP1, hK1, hD1⟩ := hB
      rw [ht] at hP1
      try dsimp only at hw_13
      obtain ⟨hP, hD⟩ := va_join (wr := [(ya, .inr (16, [.ref ms, .int 0, .ref ju, .ref li, .ref ct, .ref tg, .ref fw])), (tg, .inr (14, [.int 0, .int 0, .ref ts, .ref tr, .ref tk, .ref te])), (tr, .inl (cI, 24, .inl f1)), (tk, .inl (cI, 4, .inl (fun _ => 0)))]) (w1 := []) hP hD [] [0, 1, 2, 3] rfl rfl (by decide) (by decide) hk1 hFc hP1 hD1
      generalize H1 = H at hP hS ⊢
      have hP : va_P (dC, dI) vwCl [(ya, .inr (16, [.ref ms, .int 0, .ref ju, .ref li, .ref ct, .ref tg, .ref fw])), (tg, .inr (14, [.int 0, .int 0, .ref ts, .ref tr, .ref tk, .ref te])), (tr, .inl (cI, 24, .inl f1)), (tk, .inl (cI, 4, .inl (fun _ => 0)))] H := hP
      have hD : va_D A [(ya, .inr (16, [.ref ms, .int 0, .ref ju, .ref li, .ref ct, .ref tg, .ref fw])), (tg, .inr (14, [.int 0, .int 0, .ref ts, .ref tr, .ref tk, .ref te])), (tr, .inl (cI, 24, .inl f1)), (tk, .inl (cI, 4, .inl (fun _ => 0)))] := hD
      refine W.widen (k := 1) (n := 6) (Nat.le_of_ble_eq_true rfl) (Nat.le_of_ble_eq_true rfl) ?_
      exact absurd rfl hw_13
    · have hn_14 := (hq_10).elim (fun h => h.2) (fun h => absurd h.1 c19_11)
      refine lv_iconst (v := 1) hx hb dX11_tagRow_22 (by decide) ?_
      refine lv_goto (tgt := 27) hx hb dX11_tagRow_23 (by decide) ?_
      have hPc := hP.sub (ws' := []) [] rfl
      have hDc := hD.sub (ws' := []) [] (by decide) rfl
      have hKc := hK.sub (tys' := []) [] rfl
      have hFc := va_free (wc := []) hD hS hA [] rfl
      refine vx_callv (vx_runS (As := [.int 1]) (rest := []) ⟨hx, hb, hml, hown, hts⟩ (c_X11_demand l hfl dC dI 1 H.size) (va_cwS 1 hts gX11_tagRow_X11_demand rfl rfl rfl (by decide +kernel) ⟨Nat.le_of_ble_eq_true rfl, Nat.le_of_ble_eq_true rfl⟩) (pcSz (zX_ok) hPc hDc hKc hN hZ hS hFc) rfl rfl hl.1 rfl (lv_room (Nat.le_of_ble_eq_true rfl)) dX11_tagRow_27 ⟨Nat.le_of_ble_eq_true rfl, Nat.le_of_ble_eq_true rfl⟩) hS (fun q _ h => hFc q h) hFc (fun q _ h => hFc q h) (fun E9 ce9 q9 u9 t9 H9 locs9 ht9 hvm9 hp9 hE9 hz9 hk9 hS9 hc9 hv9 hcl9 => absurd hE9.2 (by decide)) (fun u t H1 locs ht hvm hw_15 hB hz1 hk1 hS => ?_)
      obtain ⟨hP1, hK1, hD1⟩ := hB
      rw [ht] at hP1
      try dsimp only at hw_15
      obtain ⟨hP, hD⟩ := va_join (wr := [(ya, .inr (16, [.ref ms, .int 0, .ref ju, .ref li, .ref ct, .ref tg, .ref fw])), (tg, .inr (14, [.int 0, .int 0, .ref ts, .ref tr, .ref tk, .ref te])), (tr, .inl (cI, 24, .inl f1)), (tk, .inl (cI, 4, .inl (fun _ => 0)))]) (w1 := []) hP hD [] [0, 1, 2, 3] rfl rfl (by decide) (by decide) hk1 hFc hP1 hD1
      generalize H1 = H at hP hS ⊢
      have hP : va_P (dC, dI) vwCl [(ya, .inr (16, [.ref ms, .int 0, .ref ju, .ref li, .ref ct, .ref tg, .ref fw])), (tg, .inr (14, [.int 0, .int 0, .ref ts, .ref tr, .ref tk, .ref te])), (tr, .inl (cI, 24, .inl f1)), (tk, .inl (cI, 4, .inl (fun _ => 0)))] H := hP
      have hD : va_D A [(ya, .inr (16, [.ref ms, .int 0, .ref ju, .ref li, .ref ct, .ref tg, .ref fw])), (tg, .inr (14, [.int 0, .int 0, .ref ts, .ref tr, .ref tk, .ref te])), (tr, .inl (cI, 24, .inl f1)), (tk, .inl (cI, 4, .inl (fun _ => 0)))] := hD
      refine W.widen (k := 1) (n := 6) (Nat.le_of_ble_eq_true rfl) (Nat.le_of_ble_eq_true rfl) ?_
      refine lv_aload_n hx hb dX11_tagRow_30 rfl (lv_at hl 0 rfl) ?_
      refine va_get (D := (dC, dI)) (ci := 16) (v := .ref tg) (C := RX11) (T := TX11) (N := 7) hx hb hts iWX11 hown hK hP 0 rfl rfl 5 (by decide) (hts (.fieldLink RX11 43 "Beaverhall" "tags" "LBeaverhall$Tags;") (by decide +kernel)) (fun _ h9 => h9) rfl dX11_tagRow_31 ?_
      refine lv_iload_n hx hb dX11_tagRow_34 rfl (lv_at hl 1 rfl) ?_
      have hPc := hP.sub (ws' := [(tg, .inr (14, [.int 0, .int 0, .ref ts, .ref tr, .ref tk, .ref te])), (tk, .inl (cI, 4, .inl (fun _ => 0)))]) [1, 3] rfl
      have hDc := hD.sub (ws' := [(tg, .inr (14, [.int 0, .int 0, .ref ts, .ref tr, .ref tk, .ref te])), (tk, .inl (cI, 4, .inl (fun _ => 0)))]) [1, 3] (by decide) rfl
      have hKc := hK.sub (tys' := [(cI, .int)]) [0] rfl
      have hFc := va_free (wc := [(tg, .inr (14, [.int 0, .int 0, .ref ts, .ref tr, .ref tk, .ref te])), (tk, .inl (cI, 4, .inl (fun _ => 0)))]) hD hS hA [1, 3] rfl
      refine va_calli (va_runV (As := [.int a1]) (rest := []) ⟨hx, hb, hml, hown, hts⟩ (c_X9_rowLength l dC dI cI tg ts tr tk te (fun _ => 0) a1 H.size) (cwV 1 hts gX11_tagRow_X9_rowLength rfl rfl rfl (by decide +kernel) ⟨Nat.le_of_ble_eq_true rfl, Nat.le_of_ble_eq_true rfl⟩) (pcV hPc hDc hKc hN (ci := 14) (q0 := 0) rfl rfl) rfl rfl hl.1 rfl (lv_room (Nat.le_of_ble_eq_true rfl)) dX11_tagRow_35 ⟨Nat.le_of_ble_eq_true rfl, Nat.le_of_ble_eq_true rfl⟩) hS (fun q _ h => hFc q h) hFc (fun r_16 u t H1 locs ht hvm hw_17 hB hz1 hk1 hS => ?_)
      obtain ⟨hP1, hK1, hD1⟩ := hB
      rw [ht] at hP1
      try dsimp only at hw_17
      obtain ⟨hP, hD⟩ := va_join (wr := [(ya, .inr (16, [.ref ms, .int 0, .ref ju, .ref li, .ref ct, .ref tg, .ref fw])), (tr, .inl (cI, 24, .inl f1))]) (w1 := [(tg, .inr (14, [.int 0, .int 0, .ref ts, .ref tr, .ref tk, .ref te])), (tk, .inl (cI, 4, .inl (fun _ => 0)))]) hP hD [1, 3] [0, 2] rfl rfl (by decide) (by decide) hk1 hFc hP1 hD1
      generalize H1 = H at hP hS ⊢
      have hP : va_P (dC, dI) vwCl [(ya, .inr (16, [.ref ms, .int 0, .ref ju, .ref li, .ref ct, .ref tg, .ref fw])), (tr, .inl (cI, 24, .inl f1)), (tg, .inr (14, [.int 0, .int 0, .ref ts, .ref tr, .ref tk, .ref te])), (tk, .inl (cI, 4, .inl (fun _ => 0)))] H := hP
      have hD : va_D A [(ya, .inr (16, [.ref ms, .int 0, .ref ju, .ref li, .ref ct, .ref tg, .ref fw])), (tr, .inl (cI, 24, .inl f1)), (tg, .inr (14, [.int 0, .int 0, .ref ts, .ref tr, .ref tk, .ref te])), (tk, .inl (cI, 4, .inl (fun _ => 0)))] := hD
      obtain rfl : r_16 = 0 := by rw [hw_17]; exact at_zero
      refine lv_bipush (v := 6) hx hb dX11_tagRow_38 (by decide) ?_
      refine lv_icmp_lt (tgt := 51) hx hb dX11_tagRow_40 (by decide) (fun c40_18 => ?_) (fun c40_18 => ?_)
      · refine lv_aload_n hx hb dX11_tagRow_51 rfl (lv_at hl 0 rfl) ?_
        refine va_get (D := (dC, dI)) (ci := 16) (v := .ref tg) (C := RX11) (T := TX11) (N := 7) hx hb hts iWX11 hown hK hP 0 rfl rfl 5 (by decide) (hts (.fieldLink RX11 43 "Beaverhall" "tags" "LBeaverhall$Tags;") (by decide +kernel)) (fun _ h9 => h9) rfl dX11_tagRow_52 ?_
        refine lv_iload_n hx hb dX11_tagRow_55 rfl (lv_at hl 1 rfl) ?_
        refine lv_iload_n hx hb dX11_tagRow_56 rfl (lv_at hl 2 rfl) ?_
        have hPc := hP.sub (ws' := [(tg, .inr (14, [.int 0, .int 0, .ref ts, .ref tr, .ref tk, .ref te])), (tr, .inl (cI, 24, .inl f1)), (tk, .inl (cI, 4, .inl (fun _ => 0)))]) [2, 1, 3] rfl
        have hDc := hD.sub (ws' := [(tg, .inr (14, [.int 0, .int 0, .ref ts, .ref tr, .ref tk, .ref te])), (tr, .inl (cI, 24, .inl f1)), (tk, .inl (cI, 4, .inl (fun _ => 0)))]) [2, 1, 3] (by decide) rfl
        have hKc := hK.sub (tys' := [(cI, .int)]) [0] rfl
        have hFc := va_free (wc := [(tg, .inr (14, [.int 0, .int 0, .ref ts, .ref tr, .ref tk, .ref te])), (tr, .inl (cI, 24, .inl f1)), (tk, .inl (cI, 4, .inl (fun _ => 0)))]) hD hS hA [2, 1, 3] rfl
        refine va_callv (va_runV (As := [.int a1, .int a2]) (rest := []) ⟨hx, hb, hml, hown, hts⟩ (c_X9_addToRow l dC dI cI tg ts tr tk te f1 a1 a2 H.size) (cwV 2 hts gX11_tagRow_X9_addToRow rfl rfl rfl (by decide +kernel) ⟨Nat.le_of_ble_eq_true rfl, Nat.le_of_ble_eq_true rfl⟩) (pcV hPc hDc hKc hN (ci := 14) (q0 := 0) rfl rfl) rfl rfl hl.1 rfl (lv_room (Nat.le_of_ble_eq_true rfl)) dX11_tagRow_57 ⟨Nat.le_of_ble_eq_true rfl, Nat.le_of_ble_eq_true rfl⟩) hS (fun q _ h => hFc q h) hFc (fun u t H1 locs ht hvm hw_19 hB hz1 hk1 hS => ?_)
        obtain ⟨hP1, hK1, hD1⟩ := hB
        rw [ht] at hP1
        try dsimp only at hw_19
        obtain ⟨hP, hD⟩ := va_join (wr := [(ya, .inr (16, [.ref ms, .int 0, .ref ju, .ref li, .ref ct, .ref tg, .ref fw]))]) (w1 := [(tg, .inr (14, [.int 0, .int 0, .ref ts, .ref tr, .ref tk, .ref te])), (tk, .inl (cI, 4, .inl u))]) hP hD [2, 1, 3] [0] rfl rfl (by decide) (by decide) hk1 hFc hP1 hD1
        generalize H1 = H at hP hS ⊢
        have hP : va_P (dC, dI) vwCl [(ya, .inr (16, [.ref ms, .int 0, .ref ju, .ref li, .ref ct, .ref tg, .ref fw])), (tg, .inr (14, [.int 0, .int 0, .ref ts, .ref tr, .ref tk, .ref te])), (tk, .inl (cI, 4, .inl u))] H := hP
        have hD : va_D A [(ya, .inr (16, [.ref ms, .int 0, .ref ju, .ref li, .ref ct, .ref tg, .ref fw])), (tg, .inr (14, [.int 0, .int 0, .ref ts, .ref tr, .ref tk, .ref te])), (tk, .inl (cI, 4, .inl u))] := hD
        obtain ⟨f_20, ef_20⟩ : ∃ z, z = u := ⟨_, rfl⟩
        subst ef_20
        refine lv_aload_n hx hb dX11_tagRow_60 rfl (lv_at hl 0 rfl) ?_
        refine va_get (D := (dC, dI)) (ci := 16) (v := .ref tg) (C := RX11) (T := TX11) (N := 7) hx hb hts iWX11 hown hK hP 0 rfl rfl 5 (by decide) (hts (.fieldLink RX11 43 "Beaverhall" "tags" "LBeaverhall$Tags;") (by decide +kernel)) (fun _ h9 => h9) rfl dX11_tagRow_61 ?_
        refine lv_iload_n hx hb dX11_tagRow_64 rfl (lv_at hl 1 rfl) ?_
        have hPc := hP.sub (ws' := [(tg, .inr (14, [.int 0, .int 0, .ref ts, .ref tr, .ref tk, .ref te])), (tk, .inl (cI, 4, .inl f_20))]) [1, 2] rfl
        have hDc := hD.sub (ws' := [(tg, .inr (14, [.int 0, .int 0, .ref ts, .ref tr, .ref tk, .ref te])), (tk, .inl (cI, 4, .inl f_20))]) [1, 2] (by decide) rfl
        have hKc := hK.sub (tys' := [(cI, .int)]) [0] rfl
        have hFc := va_free (wc := [(tg, .inr (14, [.int 0, .int 0, .ref ts, .ref tr, .ref tk, .ref te])), (tk, .inl (cI, 4, .inl f_20))]) hD hS hA [1, 2] rfl
        refine va_calli (va_runV (As := [.int a1]) (rest := []) ⟨hx, hb, hml, hown, hts⟩ (c_X9_rowLength l dC dI cI tg ts tr tk te f_20 a1 H.size) (cwV 1 hts gX11_tagRow_X9_rowLength rfl rfl rfl (by decide +kernel) ⟨Nat.le_of_ble_eq_true rfl, Nat.le_of_ble_eq_true rfl⟩) (pcV hPc hDc hKc hN (ci := 14) (q0 := 0) rfl rfl) rfl rfl hl.1 rfl (lv_room (Nat.le_of_ble_eq_true rfl)) dX11_tagRow_65 ⟨Nat.le_of_ble_eq_true rfl, Nat.le_of_ble_eq_true rfl⟩) hS (fun q _ h => hFc q h) hFc (fun r_21 u t H1 locs ht hvm hw_22 hB hz1 hk1 hS => ?_)
        obtain ⟨hP1, hK1, hD1⟩ := hB
        rw [ht] at hP1
        try dsimp only at hw_22
        obtain ⟨hP, hD⟩ := va_join (wr := [(ya, .inr (16, [.ref ms, .int 0, .ref ju, .ref li, .ref ct, .ref tg, .ref fw]))]) (w1 := [(tg, .inr (14, [.int 0, .int 0, .ref ts, .ref tr, .ref tk, .ref te])), (tk, .inl (cI, 4, .inl f_20))]) hP hD [1, 2] [0] rfl rfl (by decide) (by decide) hk1 hFc hP1 hD1
        generalize H1 = H at hP hS ⊢
        have hP : va_P (dC, dI) vwCl [(ya, .inr (16, [.ref ms, .int 0, .ref ju, .ref li, .ref ct, .ref tg, .ref fw])), (tg, .inr (14, [.int 0, .int 0, .ref ts, .ref tr, .ref tk, .ref te])), (tk, .inl (cI, 4, .inl f_20))] H := hP
        have hD : va_D A [(ya, .inr (16, [.ref ms, .int 0, .ref ju, .ref li, .ref ct, .ref tg, .ref fw])), (tg, .inr (14, [.int 0, .int 0, .ref ts, .ref tr, .ref tk, .ref te])), (tk, .inl (cI, 4, .inl f_20))] := hD
        refine vx_ret ?_
        have hP9 := hP.sub (ws' := []) [] rfl
        have hD9 := hD.sub (ws' := []) [] (by decide) rfl
        have hK9 := hK.sub (tys' := [(cI, .int)]) [0] rfl
        exact W.iret (v := r_21) hx hb hr (fun t ht hW => ⟨⟨r_21, (), rfl, ⟨by rw [hw_22, hw_19, at_put (by decide) (idx97 hn_7)]; decide, hn_7, hn_14⟩, ⟨by rw [ht]; exact hP9, va_K.moved hW.alike hK9, hD9⟩⟩, hS.F ht⟩) hS.2.2 dX11_tagRow_68
      · exact (c40_18 (by decide)).elim

set_option maxHeartbeats 4000000 in
set_option maxRecDepth 100000 in
/-- X11_tagStart -/
theorem c_X11_tagStart (l : Launch) (hfl : l.stackTraces = false) (dC : Nat → ClassId) (dI : Nat → Nat → Nat) (cI : ClassId) (ya ms ju li ct tg fw : Nat) (ts tr tk te : Nat) (f1 : Nat → Int32) (a1 : Int32) (sz : Nat) : vx_Met l yX11_tagStart wsX11_tagStart ({ frames := 7, cells := 1, slots := 6, locals := 120 }) (va_Pc [.ref ya, .int a1] (cPCz (zX) dC dI [(ya, .inr (16, [.ref ms, .int 0, .ref ju, .ref li, .ref ct, .ref tg, .ref fw])), (tg, .inr (14, [.int 0, .int 0, .ref ts, .ref tr, .ref tk, .ref te])), (ts, .inl (cI, 40, .inl f1))] [(cI, .int)] sz)) (va_Qi (fun (r : Int32) (u : Unit) => r = 1 ∧ pLetter a1) (fun (u : Unit) t => cQB dC dI [] [(cI, .int)] (va_A [(ya, .inr (16, [.ref ms, .int 0, .ref ju, .ref li, .ref ct, .ref tg, .ref fw])), (tg, .inr (14, [.int 0, .int 0, .ref ts, .ref tr, .ref tk, .ref te])), (ts, .inl (cI, 40, .inl f1))] sz) t) (va_A [(ya, .inr (16, [.ref ms, .int 0, .ref ju, .ref li, .ref ct, .ref tg, .ref fw])), (tg, .inr (14, [.int 0, .int 0, .ref ts, .ref tr, .ref tk, .ref te])), (ts, .inl (cI, 40, .inl f1))] sz)) (vx_X (fun (_ : Unit) => True) (fun (E9 : String) (_ : Unit) (_ : State) => E9 = "java/lang/IllegalArgumentException" ∧ ¬ pLetter a1) (va_A [(ya, .inr (16, [.ref ms, .int 0, .ref ju, .ref li, .ref ct, .ref tg, .ref fw])), (tg, .inr (14, [.int 0, .int 0, .ref ts, .ref tr, .ref tk, .ref te])), (ts, .inl (cI, 40, .inl f1))] sz)) 1 6 (va_A [(ya, .inr (16, [.ref ms, .int 0, .ref ju, .ref li, .ref ct, .ref tg, .ref fw])), (tg, .inr (14, [.int 0, .int 0, .ref ts, .ref tr, .ref tk, .ref te])), (ts, .inl (cI, 40, .inl f1))] sz) := by
  refine vx_ofW (cc := cX11_tagStart) (maxL := 2) (ret := (some .int)) (by decide) rfl ?_
  intro p e s m args below meth c s₁ B hml hxt hv
  obtain ⟨rfl, ⟨hsz, hP, hK, hD0, hN⟩, hZ⟩ := hv
  have hx := B.exec
  have hb := B.bytes
  have hr := B.returns
  have hts := atoms_spec (ws := wsX11_tagStart) B.pre
  have hown : s.vm.findClass RX11 = some m.cls := findClass_of_methodNamed B.named
  have hlocks := B.notSynchronized
  subst hsz
  have hD := hD0.self (sz := s.heap.size)
  generalize hAe : va_A [(ya, .inr (16, [.ref ms, .int 0, .ref ju, .ref li, .ref ct, .ref tg, .ref fw])), (tg, .inr (14, [.int 0, .int 0, .ref ts, .ref tr, .ref tk, .ref te])), (ts, .inl (cI, 40, .inl f1))] s.heap.size = A at hD hZ ⊢
  have hA : ∀ q : Nat, s.heap.size ≤ q → A q := fun q h => by rw [← hAe]; exact Or.inr h
  have hS : va_S A s.heap s.heap [] := va_S.rf
  have hP : va_P (dC, dI) vwCl [(ya, .inr (16, [.ref ms, .int 0, .ref ju, .ref li, .ref ct, .ref tg, .ref fw])), (tg, .inr (14, [.int 0, .int 0, .ref ts, .ref tr, .ref tk, .ref te])), (ts, .inl (cI, 40, .inl f1))] s.heap := hP
  have hD : va_D A [(ya, .inr (16, [.ref ms, .int 0, .ref ju, .ref li, .ref ct, .ref tg, .ref fw])), (tg, .inr (14, [.int 0, .int 0, .ref ts, .ref tr, .ref tk, .ref te])), (ts, .inl (cI, 40, .inl f1))] := hD
  have hl := lv_entry ([.ref ya, .int a1]) (n := 2) (Nat.le_of_ble_eq_true rfl)
  rw [lg_entry_eq]
  generalize (lg_sl ([.ref ya, .int a1]) ++ List.replicate (2 - (lg_sl ([.ref ya, .int a1])).length) Slot.unset).toArray = ls at hl ⊢
  have hl : lv_has ls 2 [(0, .ref ya), (1, .int a1)] := hl
  have iWX11 : ∀ w ∈ u_ws RX11 TX11 7, w ∈ wsX11_tagStart := by decide +kernel
  have iWX9 : ∀ w ∈ u_ws RX9 TX9 6, w ∈ wsX11_tagStart := by decide +kernel
  refine lv_iload_n hx hb dX11_tagStart_0 rfl (lv_at hl 1 rfl) ?_
  refine lv_bipush (v := 97) hx hb dX11_tagStart_1 (by decide) ?_
  refine lv_bipush (v := 100) hx hb dX11_tagStart_3 (by decide) ?_
  have hPc := hP.sub (ws' := []) [] rfl
  have hDc := hD.sub (ws' := []) [] (by decide) rfl
  have hKc := hK.sub (tys' := []) [] rfl
  have hFc := va_free (wc := []) hD hS hA [] rfl
  refine va_calli (va_runS (As := [.int a1, .int 97, .int 100]) (rest := []) ⟨hx, hb, hml, hown, hts⟩ (c_X11_isWithin l dC dI a1 97 100 s.heap.size) (va_cwS 3 hts gX11_tagStart_X11_isWithin rfl rfl rfl (by decide +kernel) ⟨Nat.le_of_ble_eq_true rfl, Nat.le_of_ble_eq_true rfl⟩) (pcS hPc hDc hKc hN) rfl rfl hl.1 rfl (lv_room (Nat.le_of_ble_eq_true rfl)) dX11_tagStart_5 ⟨Nat.le_of_ble_eq_true rfl, Nat.le_of_ble_eq_true rfl⟩) hS (fun q _ h => hFc q h) hFc (fun r_1 u t H1 locs ht hvm hw_2 hB hz1 hk1 hS => ?_)
  obtain ⟨hP1, hK1, hD1⟩ := hB
  rw [ht] at hP1
  try dsimp only at hw_2
  obtain ⟨hP, hD⟩ := va_join (wr := [(ya, .inr (16, [.ref ms, .int 0, .ref ju, .ref li, .ref ct, .ref tg, .ref fw])), (tg, .inr (14, [.int 0, .int 0, .ref ts, .ref tr, .ref tk, .ref te])), (ts, .inl (cI, 40, .inl f1))]) (w1 := []) hP hD [] [0, 1, 2] rfl rfl (by decide) (by decide) hk1 hFc hP1 hD1
  generalize H1 = H at hP hS ⊢
  have hP : va_P (dC, dI) vwCl [(ya, .inr (16, [.ref ms, .int 0, .ref ju, .ref li, .ref ct, .ref tg, .ref fw])), (tg, .inr (14, [.int 0, .int 0, .ref ts, .ref tr, .ref tk, .ref te])), (ts, .inl (cI, 40, .inl f1))] H := hP
  have hD : va_D A [(ya, .inr (16, [.ref ms, .int 0, .ref ju, .ref li, .ref ct, .ref tg, .ref fw])), (tg, .inr (14, [.int 0, .int 0, .ref ts, .ref tr, .ref tk, .ref te])), (ts, .inl (cI, 40, .inl f1))] := hD
  have hq_3 : (r_1 = 1 ∧ 97 ≤ a1 ∧ a1 ≤ 100) ∨ (r_1 = 0 ∧ ¬ (97 ≤ a1 ∧ a1 ≤ 100)) := by rw [hw_2]; exact within_iff
  have hPc := hP.sub (ws' := []) [] rfl
  have hDc := hD.sub (ws' := []) [] (by decide) rfl
  have hKc := hK.sub (tys' := []) [] rfl
  have hFc := va_free (wc := []) hD hS hA [] rfl
  refine vx_callv (vx_runS (As := [.int r_1]) (rest := []) ⟨hx, hb, hml, hown, hts⟩ (c_X11_demand l hfl dC dI r_1 H.size) (va_cwS 1 hts gX11_tagStart_X11_demand rfl rfl rfl (by decide +kernel) ⟨Nat.le_of_ble_eq_true rfl, Nat.le_of_ble_eq_true rfl⟩) (pcSz (zX_ok) hPc hDc hKc hN hZ hS hFc) rfl rfl hl.1 rfl (lv_room (Nat.le_of_ble_eq_true rfl)) dX11_tagStart_8 ⟨Nat.le_of_ble_eq_true rfl, Nat.le_of_ble_eq_true rfl⟩) hS (fun q _ h => hFc q h) hFc (fun q _ h => hFc q h) (fun E9 ce9 q9 u9 t9 H9 locs9 ht9 hvm9 hp9 hE9 hz9 hk9 hS9 hc9 hv9 hcl9 => vx_out (fun x h => (hxt x h).elim) hlocks hc9 hv9 hcl9 (fun t1 ht1 ha1 => ⟨(), trivial, ⟨hE9.1, fun h => (hq_3).elim (fun h9 => absurd (hE9.2.symm.trans h9.1) (by decide)) (fun h9 => h9.2 h)⟩, hS9.F ht1⟩) hS9.2.2 (Nat.le_of_ble_eq_true rfl) (Nat.le_of_ble_eq_true rfl)) (fun u t H1 locs ht hvm hw_4 hB hz1 hk1 hS => ?_)
  obtain ⟨hP1, hK1, hD1⟩ := hB
  rw [ht] at hP1
  try dsimp only at hw_4
  obtain ⟨hP, hD⟩ := va_join (wr := [(ya, .inr (16, [.ref ms, .int 0, .ref ju, .ref li, .ref ct, .ref tg, .ref fw])), (tg, .inr (14, [.int 0, .int 0, .ref ts, .ref tr, .ref tk, .ref te])), (ts, .inl (cI, 40, .inl f1))]) (w1 := []) hP hD [] [0, 1, 2] rfl rfl (by decide) (by decide) hk1 hFc hP1 hD1
  generalize H1 = H at hP hS ⊢
  have hP : va_P (dC, dI) vwCl [(ya, .inr (16, [.ref ms, .int 0, .ref ju, .ref li, .ref ct, .ref tg, .ref fw])), (tg, .inr (14, [.int 0, .int 0, .ref ts, .ref tr, .ref tk, .ref te])), (ts, .inl (cI, 40, .inl f1))] H := hP
  have hD : va_D A [(ya, .inr (16, [.ref ms, .int 0, .ref ju, .ref li, .ref ct, .ref tg, .ref fw])), (tg, .inr (14, [.int 0, .int 0, .ref ts, .ref tr, .ref tk, .ref te])), (ts, .inl (cI, 40, .inl f1))] := hD
  refine W.widen (k := 1) (n := 6) (Nat.le_of_ble_eq_true rfl) (Nat.le_of_ble_eq_true rfl) ?_
  have hn_5 := (hq_3).elim (fun h => h.2) (fun h => absurd h.1 hw_4)
  refine lv_aload_n hx hb dX11_tagStart_11 rfl (lv_at hl 0 rfl) ?_
  refine va_get (D := (dC, dI)) (ci := 16) (v := .ref tg) (C := RX11) (T := TX11) (N := 7) hx hb hts iWX11 hown hK hP 0 rfl rfl 5 (by decide) (hts (.fieldLink RX11 43 "Beaverhall" "tags" "LBeaverhall$Tags;") (by decide +kernel)) (fun _ h9 => h9) rfl dX11_tagStart_12 ?_
  refine va_get (D := (dC, dI)) (ci := 14) (v := .int 0) (C := RX9) (T := TX9) (N := 6) hx hb hts iWX9 hown hK hP 1 rfl rfl 0 (by decide) (hts (.fieldLink RX11 256 "Beaverhall$Tags" "startLength" "I") (by decide +kernel)) (fun _ h9 => h9) rfl dX11_tagStart_15 ?_
  refine lv_bipush (v := 40) hx hb dX11_tagStart_18 (by decide) ?_
  refine lv_icmp_lt (tgt := 31) hx hb dX11_tagStart_20 (by decide) (fun c20_6 => ?_) (fun c20_6 => ?_)
  · refine lv_aload_n hx hb dX11_tagStart_31 rfl (lv_at hl 0 rfl) ?_
    refine va_get (D := (dC, dI)) (ci := 16) (v := .ref tg) (C := RX11) (T := TX11) (N := 7) hx hb hts iWX11 hown hK hP 0 rfl rfl 5 (by decide) (hts (.fieldLink RX11 43 "Beaverhall" "tags" "LBeaverhall$Tags;") (by decide +kernel)) (fun _ h9 => h9) rfl dX11_tagStart_32 ?_
    refine lv_iload_n hx hb dX11_tagStart_35 rfl (lv_at hl 1 rfl) ?_
    have hPc := hP.sub (ws' := [(tg, .inr (14, [.int 0, .int 0, .ref ts, .ref tr, .ref tk, .ref te])), (ts, .inl (cI, 40, .inl f1))]) [1, 2] rfl
    have hDc := hD.sub (ws' := [(tg, .inr (14, [.int 0, .int 0, .ref ts, .ref tr, .ref tk, .ref te])), (ts, .inl (cI, 40, .inl f1))]) [1, 2] (by decide) rfl
    have hKc := hK.sub (tys' := [(cI, .int)]) [0] rfl
    have hFc := va_free (wc := [(tg, .inr (14, [.int 0, .int 0, .ref ts, .ref tr, .ref tk, .ref te])), (ts, .inl (cI, 40, .inl f1))]) hD hS hA [1, 2] rfl
    refine va_callv (va_runV (As := [.int a1]) (rest := []) ⟨hx, hb, hml, hown, hts⟩ (c_X9_addToStart l dC dI cI tg ts tr tk te f1 a1 H.size) (cwV 1 hts gX11_tagStart_X9_addToStart rfl rfl rfl (by decide +kernel) ⟨Nat.le_of_ble_eq_true rfl, Nat.le_of_ble_eq_true rfl⟩) (pcV hPc hDc hKc hN (ci := 14) (q0 := 0) rfl rfl) rfl rfl hl.1 rfl (lv_room (Nat.le_of_ble_eq_true rfl)) dX11_tagStart_36 ⟨Nat.le_of_ble_eq_true rfl, Nat.le_of_ble_eq_true rfl⟩) hS (fun q _ h => hFc q h) hFc (fun u t H1 locs ht hvm hw_7 hB hz1 hk1 hS => ?_)
    obtain ⟨hP1, hK1, hD1⟩ := hB
    rw [ht] at hP1
    try dsimp only at hw_7
    obtain ⟨hP, hD⟩ := va_join (wr := [(ya, .inr (16, [.ref ms, .int 0, .ref ju, .ref li, .ref ct, .ref tg, .ref fw]))]) (w1 := [(tg, .inr (14, [.int 1, .int 0, .ref ts, .ref tr, .ref tk, .ref te]))]) hP hD [1, 2] [0] rfl rfl (by decide) (by decide) hk1 hFc hP1 hD1
    generalize H1 = H at hP hS ⊢
    have hP : va_P (dC, dI) vwCl [(ya, .inr (16, [.ref ms, .int 0, .ref ju, .ref li, .ref ct, .ref tg, .ref fw])), (tg, .inr (14, [.int 1, .int 0, .ref ts, .ref tr, .ref tk, .ref te]))] H := hP
    have hD : va_D A [(ya, .inr (16, [.ref ms, .int 0, .ref ju, .ref li, .ref ct, .ref tg, .ref fw])), (tg, .inr (14, [.int 1, .int 0, .ref ts, .ref tr, .ref tk, .ref te]))] := hD
    refine lv_aload_n hx hb dX11_tagStart_39 rfl (lv_at hl 0 rfl) ?_
    refine va_get (D := (dC, dI)) (ci := 16) (v := .ref tg) (C := RX11) (T := TX11) (N := 7) hx hb hts iWX11 hown hK hP 0 rfl rfl 5 (by decide) (hts (.fieldLink RX11 43 "Beaverhall" "tags" "LBeaverhall$Tags;") (by decide +kernel)) (fun _ h9 => h9) rfl dX11_tagStart_40 ?_
    refine va_get (D := (dC, dI)) (ci := 14) (v := .int 1) (C := RX9) (T := TX9) (N := 6) hx hb hts iWX9 hown hK hP 1 rfl rfl 0 (by decide) (hts (.fieldLink RX11 256 "Beaverhall$Tags" "startLength" "I") (by decide +kernel)) (fun _ h9 => h9) rfl dX11_tagStart_43 ?_
    refine vx_ret ?_
    have hP9 := hP.sub (ws' := []) [] rfl
    have hD9 := hD.sub (ws' := []) [] (by decide) rfl
    have hK9 := hK.sub (tys' := [(cI, .int)]) [0] rfl
    exact W.iret (v := 1) hx hb hr (fun t ht hW => ⟨⟨1, (), rfl, ⟨rfl, hn_5⟩, ⟨by rw [ht]; exact hP9, va_K.moved hW.alike hK9, hD9⟩⟩, hS.F ht⟩) hS.2.2 dX11_tagStart_46
  · exact (c20_6 (by decide)).elim

set_option maxHeartbeats 4000000 in
set_option maxRecDepth 100000 in
/-- X11_untag -/
theorem c_X11_untag (l : Launch) (hfl : l.stackTraces = false) (dC : Nat → ClassId) (dI : Nat → Nat → Nat) (cI : ClassId) (ya ms ju li ct tg fw : Nat) (ts tr tk te : Nat) (sz : Nat) : vx_Met l yX11_untag wsX11_untag ({ frames := 2, cells := 0, slots := 0, locals := 48 }) (va_Pc [.ref ya] (cPCz (zX) dC dI [(ya, .inr (16, [.ref ms, .int 0, .ref ju, .ref li, .ref ct, .ref tg, .ref fw])), (tg, .inr (14, [.int 0, .int 0, .ref ts, .ref tr, .ref tk, .ref te])), (tk, .inl (cI, 4, .inl (fun _ => 0)))] [(cI, .int)] sz)) (va_Qi (fun (r : Int32) (u : Unit) => r = 0) (fun (u : Unit) t => cQB dC dI [] [(cI, .int)] (va_A [(ya, .inr (16, [.ref ms, .int 0, .ref ju, .ref li, .ref ct, .ref tg, .ref fw])), (tg, .inr (14, [.int 0, .int 0, .ref ts, .ref tr, .ref tk, .ref te])), (tk, .inl (cI, 4, .inl (fun _ => 0)))] sz) t) (va_A [(ya, .inr (16, [.ref ms, .int 0, .ref ju, .ref li, .ref ct, .ref tg, .ref fw])), (tg, .inr (14, [.int 0, .int 0, .ref ts, .ref tr, .ref tk, .ref te])), (tk, .inl (cI, 4, .inl (fun _ => 0)))] sz)) (vx_X (fun (_ : Unit) => True) (fun (E9 : String) (_ : Unit) (_ : State) => False) (va_A [(ya, .inr (16, [.ref ms, .int 0, .ref ju, .ref li, .ref ct, .ref tg, .ref fw])), (tg, .inr (14, [.int 0, .int 0, .ref ts, .ref tr, .ref tk, .ref te])), (tk, .inl (cI, 4, .inl (fun _ => 0)))] sz)) 0 0 (va_A [(ya, .inr (16, [.ref ms, .int 0, .ref ju, .ref li, .ref ct, .ref tg, .ref fw])), (tg, .inr (14, [.int 0, .int 0, .ref ts, .ref tr, .ref tk, .ref te])), (tk, .inl (cI, 4, .inl (fun _ => 0)))] sz) := by
  refine vx_ofW (cc := cX11_untag) (maxL := 1) (ret := (some .int)) (by decide) rfl ?_
  intro p e s m args below meth c s₁ B hml hxt hv
  obtain ⟨rfl, ⟨hsz, hP, hK, hD0, hN⟩, hZ⟩ := hv
  have hx := B.exec
  have hb := B.bytes
  have hr := B.returns
  have hts := atoms_spec (ws := wsX11_untag) B.pre
  have hown : s.vm.findClass RX11 = some m.cls := findClass_of_methodNamed B.named
  have hlocks := B.notSynchronized
  subst hsz
  have hD := hD0.self (sz := s.heap.size)
  generalize hAe : va_A [(ya, .inr (16, [.ref ms, .int 0, .ref ju, .ref li, .ref ct, .ref tg, .ref fw])), (tg, .inr (14, [.int 0, .int 0, .ref ts, .ref tr, .ref tk, .ref te])), (tk, .inl (cI, 4, .inl (fun _ => 0)))] s.heap.size = A at hD hZ ⊢
  have hA : ∀ q : Nat, s.heap.size ≤ q → A q := fun q h => by rw [← hAe]; exact Or.inr h
  have hS : va_S A s.heap s.heap [] := va_S.rf
  have hP : va_P (dC, dI) vwCl [(ya, .inr (16, [.ref ms, .int 0, .ref ju, .ref li, .ref ct, .ref tg, .ref fw])), (tg, .inr (14, [.int 0, .int 0, .ref ts, .ref tr, .ref tk, .ref te])), (tk, .inl (cI, 4, .inl (fun _ => 0)))] s.heap := hP
  have hD : va_D A [(ya, .inr (16, [.ref ms, .int 0, .ref ju, .ref li, .ref ct, .ref tg, .ref fw])), (tg, .inr (14, [.int 0, .int 0, .ref ts, .ref tr, .ref tk, .ref te])), (tk, .inl (cI, 4, .inl (fun _ => 0)))] := hD
  have hl := lv_entry ([.ref ya]) (n := 1) (Nat.le_of_ble_eq_true rfl)
  rw [lg_entry_eq]
  generalize (lg_sl ([.ref ya]) ++ List.replicate (1 - (lg_sl ([.ref ya])).length) Slot.unset).toArray = ls at hl ⊢
  have hl : lv_has ls 1 [(0, .ref ya)] := hl
  have iWX11 : ∀ w ∈ u_ws RX11 TX11 7, w ∈ wsX11_untag := by decide +kernel
  refine lv_aload_n hx hb dX11_untag_0 rfl (lv_at hl 0 rfl) ?_
  refine va_get (D := (dC, dI)) (ci := 16) (v := .ref tg) (C := RX11) (T := TX11) (N := 7) hx hb hts iWX11 hown hK hP 0 rfl rfl 5 (by decide) (hts (.fieldLink RX11 43 "Beaverhall" "tags" "LBeaverhall$Tags;") (by decide +kernel)) (fun _ h9 => h9) rfl dX11_untag_1 ?_
  have hPc := hP.sub (ws' := [(tg, .inr (14, [.int 0, .int 0, .ref ts, .ref tr, .ref tk, .ref te])), (tk, .inl (cI, 4, .inl (fun _ => 0)))]) [1, 2] rfl
  have hDc := hD.sub (ws' := [(tg, .inr (14, [.int 0, .int 0, .ref ts, .ref tr, .ref tk, .ref te])), (tk, .inl (cI, 4, .inl (fun _ => 0)))]) [1, 2] (by decide) rfl
  have hKc := hK.sub (tys' := [(cI, .int)]) [0] rfl
  have hFc := va_free (wc := [(tg, .inr (14, [.int 0, .int 0, .ref ts, .ref tr, .ref tk, .ref te])), (tk, .inl (cI, 4, .inl (fun _ => 0)))]) hD hS hA [1, 2] rfl
  refine va_calli (va_runV (As := []) (rest := []) ⟨hx, hb, hml, hown, hts⟩ (c_X9_forget l dC dI cI tg ts tr tk te s.heap.size) (cwV 0 hts gX11_untag_X9_forget rfl rfl rfl (by decide +kernel) ⟨Nat.le_of_ble_eq_true rfl, Nat.le_of_ble_eq_true rfl⟩) (pcV hPc hDc hKc hN (ci := 14) (q0 := 0) rfl rfl) rfl rfl hl.1 rfl (lv_room (Nat.le_of_ble_eq_true rfl)) dX11_untag_4 ⟨Nat.le_of_ble_eq_true rfl, Nat.le_of_ble_eq_true rfl⟩) hS (fun q _ h => hFc q h) hFc (fun r_1 u t H1 locs ht hvm hw_2 hB hz1 hk1 hS => ?_)
  obtain ⟨hP1, hK1, hD1⟩ := hB
  rw [ht] at hP1
  try dsimp only at hw_2
  obtain ⟨hP, hD⟩ := va_join (wr := [(ya, .inr (16, [.ref ms, .int 0, .ref ju, .ref li, .ref ct, .ref tg, .ref fw]))]) (w1 := []) hP hD [1, 2] [0] rfl rfl (by decide) (by decide) hk1 hFc hP1 hD1
  generalize H1 = H at hP hS ⊢
  have hP : va_P (dC, dI) vwCl [(ya, .inr (16, [.ref ms, .int 0, .ref ju, .ref li, .ref ct, .ref tg, .ref fw]))] H := hP
  have hD : va_D A [(ya, .inr (16, [.ref ms, .int 0, .ref ju, .ref li, .ref ct, .ref tg, .ref fw]))] := hD
  refine vx_ret ?_
  have hP9 := hP.sub (ws' := []) [] rfl
  have hD9 := hD.sub (ws' := []) [] (by decide) rfl
  have hK9 := hK.sub (tys' := [(cI, .int)]) [0] rfl
  exact W.iret (v := r_1) hx hb hr (fun t ht hW => ⟨⟨r_1, (), rfl, hw_2, ⟨by rw [ht]; exact hP9, va_K.moved hW.alike hK9, hD9⟩⟩, hS.F ht⟩) hS.2.2 dX11_untag_7

set_option maxHeartbeats 4000000 in
set_option maxRecDepth 100000 in
/-- X11_tag -/
theorem c_X11_tag (l : Launch) (hfl : l.stackTraces = false) (dC : Nat → ClassId) (dI : Nat → Nat → Nat) (cI : ClassId) (ya ms ju li ct tg fw : Nat) (ts tr tk te : Nat) (f1 f2 : Nat → Int32) (a1 a2 : Int32) (sz : Nat) : vx_Met l yX11_tag wsX11_tag ({ frames := 7, cells := 2, slots := 12, locals := 120 }) (va_Pc [.ref ya, .int a1, .int a2] (cPCz (zX) dC dI [(ya, .inr (16, [.ref ms, .int 0, .ref ju, .ref li, .ref ct, .ref tg, .ref fw])), (tg, .inr (14, [.int 0, .int 0, .ref ts, .ref tr, .ref tk, .ref te])), (ts, .inl (cI, 40, .inl f1)), (tk, .inl (cI, 4, .inl (fun _ => 0))), (te, .inl (cI, 400, .inl f2))] [(cI, .int)] sz)) (va_Qi (fun (r : Int32) (u : Unit) => r = 0 ∧ pTag a1 a2) (fun (u : Unit) t => cQB dC dI [] [(cI, .int)] (va_A [(ya, .inr (16, [.ref ms, .int 0, .ref ju, .ref li, .ref ct, .ref tg, .ref fw])), (tg, .inr (14, [.int 0, .int 0, .ref ts, .ref tr, .ref tk, .ref te])), (ts, .inl (cI, 40, .inl f1)), (tk, .inl (cI, 4, .inl (fun _ => 0))), (te, .inl (cI, 400, .inl f2))] sz) t) (va_A [(ya, .inr (16, [.ref ms, .int 0, .ref ju, .ref li, .ref ct, .ref tg, .ref fw])), (tg, .inr (14, [.int 0, .int 0, .ref ts, .ref tr, .ref tk, .ref te])), (ts, .inl (cI, 40, .inl f1)), (tk, .inl (cI, 4, .inl (fun _ => 0))), (te, .inl (cI, 400, .inl f2))] sz)) (vx_X (fun (_ : Unit) => True) (fun (E9 : String) (_ : Unit) (_ : State) => E9 = "java/lang/IllegalArgumentException" ∧ ¬ pTag a1 a2) (va_A [(ya, .inr (16, [.ref ms, .int 0, .ref ju, .ref li, .ref ct, .ref tg, .ref fw])), (tg, .inr (14, [.int 0, .int 0, .ref ts, .ref tr, .ref tk, .ref te])), (ts, .inl (cI, 40, .inl f1)), (tk, .inl (cI, 4, .inl (fun _ => 0))), (te, .inl (cI, 400, .inl f2))] sz)) 2 12 (va_A [(ya, .inr (16, [.ref ms, .int 0, .ref ju, .ref li, .ref ct, .ref tg, .ref fw])), (tg, .inr (14, [.int 0, .int 0, .ref ts, .ref tr, .ref tk, .ref te])), (ts, .inl (cI, 40, .inl f1)), (tk, .inl (cI, 4, .inl (fun _ => 0))), (te, .inl (cI, 400, .inl f2))] sz) := by
  refine vx_ofW (cc := cX11_tag) (maxL := 3) (ret := (some .int)) (by decide) rfl ?_
  intro p e s m args below meth c s₁ B hml hxt hv
  obtain ⟨rfl, ⟨hsz, hP, hK, hD0, hN⟩, hZ⟩ := hv
  have hx := B.exec
  have hb := B.bytes
  have hr := B.returns
  have hts := atoms_spec (ws := wsX11_tag) B.pre
  have hown : s.vm.findClass RX11 = some m.cls := findClass_of_methodNamed B.named
  have hlocks := B.notSynchronized
  subst hsz
  have hD := hD0.self (sz := s.heap.size)
  generalize hAe : va_A [(ya, .inr (16, [.ref ms, .int 0, .ref ju, .ref li, .ref ct, .ref tg, .ref fw])), (tg, .inr (14, [.int 0, .int 0, .ref ts, .ref tr, .ref tk, .ref te])), (ts, .inl (cI, 40, .inl f1)), (tk, .inl (cI, 4, .inl (fun _ => 0))), (te, .inl (cI, 400, .inl f2))] s.heap.size = A at hD hZ ⊢
  have hA : ∀ q : Nat, s.heap.size ≤ q → A q := fun q h => by rw [← hAe]; exact Or.inr h
  have hS : va_S A s.heap s.heap [] := va_S.rf
  have hP : va_P (dC, dI) vwCl [(ya, .inr (16, [.ref ms, .int 0, .ref ju, .ref li, .ref ct, .ref tg, .ref fw])), (tg, .inr (14, [.int 0, .int 0, .ref ts, .ref tr, .ref tk, .ref te])), (ts, .inl (cI, 40, .inl f1)), (tk, .inl (cI, 4, .inl (fun _ => 0))), (te, .inl (cI, 400, .inl f2))] s.heap := hP
  have hD : va_D A [(ya, .inr (16, [.ref ms, .int 0, .ref ju, .ref li, .ref ct, .ref tg, .ref fw])), (tg, .inr (14, [.int 0, .int 0, .ref ts, .ref tr, .ref tk, .ref te])), (ts, .inl (cI, 40, .inl f1)), (tk, .inl (cI, 4, .inl (fun _ => 0))), (te, .inl (cI, 400, .inl f2))] := hD
  have hl := lv_entry ([.ref ya, .int a1, .int a2]) (n := 3) (Nat.le_of_ble_eq_true rfl)
  rw [lg_entry_eq]
  generalize (lg_sl ([.ref ya, .int a1, .int a2]) ++ List.replicate (3 - (lg_sl ([.ref ya, .int a1, .int a2])).length) Slot.unset).toArray = ls at hl ⊢
  have hl : lv_has ls 3 [(0, .ref ya), (1, .int a1), (2, .int a2)] := hl
  have iWX11 : ∀ w ∈ u_ws RX11 TX11 7, w ∈ wsX11_tag := by decide +kernel
  refine lv_iload_n hx hb dX11_tag_0 rfl (lv_at hl 1 rfl) ?_
  refine lv_iconst (v := 2) hx hb dX11_tag_1 (by decide) ?_
  refine lv_icmp_eq (tgt := 10) hx hb dX11_tag_2 (by decide) (fun c2_1 => ?_) (fun c2_1 => ?_)
  · have hn9 : a1 = 2 ∨ a1 = 3 := Or.inl c2_1
    have hnn := tag32 hn9
    refine lv_iconst (v := 1) hx hb dX11_tag_10 (by decide) ?_
    refine lv_goto (tgt := 15) hx hb dX11_tag_11 (by decide) ?_
    have hPc := hP.sub (ws' := []) [] rfl
    have hDc := hD.sub (ws' := []) [] (by decide) rfl
    have hKc := hK.sub (tys' := []) [] rfl
    have hFc := va_free (wc := []) hD hS hA [] rfl
    refine vx_callv (vx_runS (As := [.int 1]) (rest := []) ⟨hx, hb, hml, hown, hts⟩ (c_X11_demand l hfl dC dI 1 s.heap.size) (va_cwS 1 hts gX11_tag_X11_demand rfl rfl rfl (by decide +kernel) ⟨Nat.le_of_ble_eq_true rfl, Nat.le_of_ble_eq_true rfl⟩) (pcSz (zX_ok) hPc hDc hKc hN hZ hS hFc) rfl rfl hl.1 rfl (lv_room (Nat.le_of_ble_eq_true rfl)) dX11_tag_15 ⟨Nat.le_of_ble_eq_true rfl, Nat.le_of_ble_eq_true rfl⟩) hS (fun q _ h => hFc q h) hFc (fun q _ h => hFc q h) (fun E9 ce9 q9 u9 t9 H9 locs9 ht9 hvm9 hp9 hE9 hz9 hk9 hS9 hc9 hv9 hcl9 => absurd hE9.2 (by decide)) (fun u t H1 locs ht hvm hw_2 hB hz1 hk1 hS => ?_)
    obtain ⟨hP1, hK1, hD1⟩ := hB
    rw [ht] at hP1
    try dsimp only at hw_2
    obtain ⟨hP, hD⟩ := va_join (wr := [(ya, .inr (16, [.ref ms, .int 0, .ref ju, .ref li, .ref ct, .ref tg, .ref fw])), (tg, .inr (14, [.int 0, .int 0, .ref ts, .ref tr, .ref tk, .ref te])), (ts, .inl (cI, 40, .inl f1)), (tk, .inl (cI, 4, .inl (fun _ => 0))), (te, .inl (cI, 400, .inl f2))]) (w1 := []) hP hD [] [0, 1, 2, 3, 4] rfl rfl (by decide) (by decide) hk1 hFc hP1 hD1
    generalize H1 = H at hP hS ⊢
    have hP : va_P (dC, dI) vwCl [(ya, .inr (16, [.ref ms, .int 0, .ref ju, .ref li, .ref ct, .ref tg, .ref fw])), (tg, .inr (14, [.int 0, .int 0, .ref ts, .ref tr, .ref tk, .ref te])), (ts, .inl (cI, 40, .inl f1)), (tk, .inl (cI, 4, .inl (fun _ => 0))), (te, .inl (cI, 400, .inl f2))] H := hP
    have hD : va_D A [(ya, .inr (16, [.ref ms, .int 0, .ref ju, .ref li, .ref ct, .ref tg, .ref fw])), (tg, .inr (14, [.int 0, .int 0, .ref ts, .ref tr, .ref tk, .ref te])), (ts, .inl (cI, 40, .inl f1)), (tk, .inl (cI, 4, .inl (fun _ => 0))), (te, .inl (cI, 400, .inl f2))] := hD
    refine W.widen (k := 1) (n := 6) (Nat.le_of_ble_eq_true rfl) (Nat.le_of_ble_eq_true rfl) ?_
    refine lv_iload_n hx hb dX11_tag_18 rfl (lv_at hl 2 rfl) ?_
    refine lv_iconst (v := 0) hx hb dX11_tag_19 (by decide) ?_
    refine lv_sipush (v := 2000) hx hb dX11_tag_20 (by decide) ?_
    have hPc := hP.sub (ws' := []) [] rfl
    have hDc := hD.sub (ws' := []) [] (by decide) rfl
    have hKc := hK.sub (tys' := []) [] rfl
    have hFc := va_free (wc := []) hD hS hA [] rfl
    refine va_calli (va_runS (As := [.int a2, .int 0, .int 2000]) (rest := []) ⟨hx, hb, hml, hown, hts⟩ (c_X11_isWithin l dC dI a2 0 2000 H.size) (va_cwS 3 hts gX11_tag_X11_isWithin rfl rfl rfl (by decide +kernel) ⟨Nat.le_of_ble_eq_true rfl, Nat.le_of_ble_eq_true rfl⟩) (pcS hPc hDc hKc hN) rfl rfl hl.1 rfl (lv_room (Nat.le_of_ble_eq_true rfl)) dX11_tag_23 ⟨Nat.le_of_ble_eq_true rfl, Nat.le_of_ble_eq_true rfl⟩) hS (fun q _ h => hFc q h) hFc (fun r_3 u t H1 locs ht hvm hw_4 hB hz1 hk1 hS => ?_)
    obtain ⟨hP1, hK1, hD1⟩ := hB
    rw [ht] at hP1
    try dsimp only at hw_4
    obtain ⟨hP, hD⟩ := va_join (wr := [(ya, .inr (16, [.ref ms, .int 0, .ref ju, .ref li, .ref ct, .ref tg, .ref fw])), (tg, .inr (14, [.int 0, .int 0, .ref ts, .ref tr, .ref tk, .ref te])), (ts, .inl (cI, 40, .inl f1)), (tk, .inl (cI, 4, .inl (fun _ => 0))), (te, .inl (cI, 400, .inl f2))]) (w1 := []) hP hD [] [0, 1, 2, 3, 4] rfl rfl (by decide) (by decide) hk1 hFc hP1 hD1
    generalize H1 = H at hP hS ⊢
    have hP : va_P (dC, dI) vwCl [(ya, .inr (16, [.ref ms, .int 0, .ref ju, .ref li, .ref ct, .ref tg, .ref fw])), (tg, .inr (14, [.int 0, .int 0, .ref ts, .ref tr, .ref tk, .ref te])), (ts, .inl (cI, 40, .inl f1)), (tk, .inl (cI, 4, .inl (fun _ => 0))), (te, .inl (cI, 400, .inl f2))] H := hP
    have hD : va_D A [(ya, .inr (16, [.ref ms, .int 0, .ref ju, .ref li, .ref ct, .ref tg, .ref fw])), (tg, .inr (14, [.int 0, .int 0, .ref ts, .ref tr, .ref tk, .ref te])), (ts, .inl (cI, 40, .inl f1)), (tk, .inl (cI, 4, .inl (fun _ => 0))), (te, .inl (cI, 400, .inl f2))] := hD
    have hq_5 : (r_3 = 1 ∧ 0 ≤ a2 ∧ a2 ≤ 2000) ∨ (r_3 = 0 ∧ ¬ (0 ≤ a2 ∧ a2 ≤ 2000)) := by rw [hw_4]; exact within_iff
    have hPc := hP.sub (ws' := []) [] rfl
    have hDc := hD.sub (ws' := []) [] (by decide) rfl
    have hKc := hK.sub (tys' := []) [] rfl
    have hFc := va_free (wc := []) hD hS hA [] rfl
    refine vx_callv (vx_runS (As := [.int r_3]) (rest := []) ⟨hx, hb, hml, hown, hts⟩ (c_X11_demand l hfl dC dI r_3 H.size) (va_cwS 1 hts gX11_tag_X11_demand rfl rfl rfl (by decide +kernel) ⟨Nat.le_of_ble_eq_true rfl, Nat.le_of_ble_eq_true rfl⟩) (pcSz (zX_ok) hPc hDc hKc hN hZ hS hFc) rfl rfl hl.1 rfl (lv_room (Nat.le_of_ble_eq_true rfl)) dX11_tag_26 ⟨Nat.le_of_ble_eq_true rfl, Nat.le_of_ble_eq_true rfl⟩) hS (fun q _ h => hFc q h) hFc (fun q _ h => hFc q h) (fun E9 ce9 q9 u9 t9 H9 locs9 ht9 hvm9 hp9 hE9 hz9 hk9 hS9 hc9 hv9 hcl9 => vx_out (fun x h => (hxt x h).elim) hlocks hc9 hv9 hcl9 (fun t1 ht1 ha1 => ⟨(), trivial, ⟨hE9.1, fun h => (hq_5).elim (fun h9 => absurd (hE9.2.symm.trans h9.1) (by decide)) (fun h9 => h9.2 h.2)⟩, hS9.F ht1⟩) hS9.2.2 (Nat.le_of_ble_eq_true rfl) (Nat.le_of_ble_eq_true rfl)) (fun u t H1 locs ht hvm hw_6 hB hz1 hk1 hS => ?_)
    obtain ⟨hP1, hK1, hD1⟩ := hB
    rw [ht] at hP1
    try dsimp only at hw_6
    obtain ⟨hP, hD⟩ := va_join (wr := [(ya, .inr (16, [.ref ms, .int 0, .ref ju, .ref li, .ref ct, .ref tg, .ref fw])), (tg, .inr (14, [.int 0, .int 0, .ref ts, .ref tr, .ref tk, .ref te])), (ts, .inl (cI, 40, .inl f1)), (tk, .inl (cI, 4, .inl (fun _ => 0))), (te, .inl (cI, 400, .inl f2))]) (w1 := []) hP hD [] [0, 1, 2, 3, 4] rfl rfl (by decide) (by decide) hk1 hFc hP1 hD1
    generalize H1 = H at hP hS ⊢
    have hP : va_P (dC, dI) vwCl [(ya, .inr (16, [.ref ms, .int 0, .ref ju, .ref li, .ref ct, .ref tg, .ref fw])), (tg, .inr (14, [.int 0, .int 0, .ref ts, .ref tr, .ref tk, .ref te])), (ts, .inl (cI, 40, .inl f1)), (tk, .inl (cI, 4, .inl (fun _ => 0))), (te, .inl (cI, 400, .inl f2))] H := hP
    have hD : va_D A [(ya, .inr (16, [.ref ms, .int 0, .ref ju, .ref li, .ref ct, .ref tg, .ref fw])), (tg, .inr (14, [.int 0, .int 0, .ref ts, .ref tr, .ref tk, .ref te])), (ts, .inl (cI, 40, .inl f1)), (tk, .inl (cI, 4, .inl (fun _ => 0))), (te, .inl (cI, 400, .inl f2))] := hD
    refine W.widen (k := 2) (n := 12) (Nat.le_of_ble_eq_true rfl) (Nat.le_of_ble_eq_true rfl) ?_
    have hn_7 := (hq_5).elim (fun h => h.2) (fun h => absurd h.1 hw_6)
    refine lv_aload_n hx hb dX11_tag_29 rfl (lv_at hl 0 rfl) ?_
    refine va_get (D := (dC, dI)) (ci := 16) (v := .ref tg) (C := RX11) (T := TX11) (N := 7) hx hb hts iWX11 hown hK hP 0 rfl rfl 5 (by decide) (hts (.fieldLink RX11 43 "Beaverhall" "tags" "LBeaverhall$Tags;") (by decide +kernel)) (fun _ h9 => h9) rfl dX11_tag_30 ?_
    refine lv_iload_n hx hb dX11_tag_33 rfl (lv_at hl 1 rfl) ?_
    refine lv_iload_n hx hb dX11_tag_34 rfl (lv_at hl 2 rfl) ?_
    have hPc := hP.sub (ws' := [(tg, .inr (14, [.int 0, .int 0, .ref ts, .ref tr, .ref tk, .ref te])), (ts, .inl (cI, 40, .inl f1)), (tk, .inl (cI, 4, .inl (fun _ => 0))), (te, .inl (cI, 400, .inl f2))]) [1, 2, 3, 4] rfl
    have hDc := hD.sub (ws' := [(tg, .inr (14, [.int 0, .int 0, .ref ts, .ref tr, .ref tk, .ref te])), (ts, .inl (cI, 40, .inl f1)), (tk, .inl (cI, 4, .inl (fun _ => 0))), (te, .inl (cI, 400, .inl f2))]) [1, 2, 3, 4] (by decide) rfl
    have hKc := hK.sub (tys' := [(cI, .int)]) [0] rfl
    have hFc := va_free (wc := [(tg, .inr (14, [.int 0, .int 0, .ref ts, .ref tr, .ref tk, .ref te])), (ts, .inl (cI, 40, .inl f1)), (tk, .inl (cI, 4, .inl (fun _ => 0))), (te, .inl (cI, 400, .inl f2))]) hD hS hA [1, 2, 3, 4] rfl
    refine va_calli (va_runV (As := [.int a1, .int a2]) (rest := []) ⟨hx, hb, hml, hown, hts⟩ (c_X9_go l dC dI cI tg ts tr tk te f1 f2 a1 a2 hn9 hn_7.1 H.size) (cwV 2 hts gX11_tag_X9_go rfl rfl rfl (by decide +kernel) ⟨Nat.le_of_ble_eq_true rfl, Nat.le_of_ble_eq_true rfl⟩) (pcV hPc hDc hKc hN (ci := 14) (q0 := 0) rfl rfl) rfl rfl hl.1 rfl (lv_room (Nat.le_of_ble_eq_true rfl)) dX11_tag_35 ⟨Nat.le_of_ble_eq_true rfl, Nat.le_of_ble_eq_true rfl⟩) hS (fun q _ h => hFc q h) hFc (fun r_8 u t H1 locs ht hvm hw_9 hB hz1 hk1 hS => ?_)
    obtain ⟨hP1, hK1, hD1⟩ := hB
    rw [ht] at hP1
    try dsimp only at hw_9
    obtain ⟨hP, hD⟩ := va_join (wr := [(ya, .inr (16, [.ref ms, .int 0, .ref ju, .ref li, .ref ct, .ref tg, .ref fw]))]) (w1 := []) hP hD [1, 2, 3, 4] [0] rfl rfl (by decide) (by decide) hk1 hFc hP1 hD1
    generalize H1 = H at hP hS ⊢
    have hP : va_P (dC, dI) vwCl [(ya, .inr (16, [.ref ms, .int 0, .ref ju, .ref li, .ref ct, .ref tg, .ref fw]))] H := hP
    have hD : va_D A [(ya, .inr (16, [.ref ms, .int 0, .ref ju, .ref li, .ref ct, .ref tg, .ref fw]))] := hD
    refine vx_ret ?_
    have hP9 := hP.sub (ws' := []) [] rfl
    have hD9 := hD.sub (ws' := []) [] (by decide) rfl
    have hK9 := hK.sub (tys' := [(cI, .int)]) [0] rfl
    exact W.iret (v := r_8) hx hb hr (fun t ht hW => ⟨⟨r_8, (), rfl, ⟨hw_9, hnn, hn_7⟩, ⟨by rw [ht]; exact hP9, va_K.moved hW.alike hK9, hD9⟩⟩, hS.F ht⟩) hS.2.2 dX11_tag_38
  · refine lv_iload_n hx hb dX11_tag_5 rfl (lv_at hl 1 rfl) ?_
    refine lv_iconst (v := 3) hx hb dX11_tag_6 (by decide) ?_
    refine lv_icmp_ne (tgt := 14) hx hb dX11_tag_7 (by decide) (fun c7_10 => ?_) (fun c7_10 => ?_)
    · refine lv_iconst (v := 0) hx hb dX11_tag_14 (by decide) ?_
      have hPc := hP.sub (ws' := []) [] rfl
      have hDc := hD.sub (ws' := []) [] (by decide) rfl
      have hKc := hK.sub (tys' := []) [] rfl
      have hFc := va_free (wc := []) hD hS hA [] rfl
      refine vx_callv (vx_runS (As := [.int 0]) (rest := []) ⟨hx, hb, hml, hown, hts⟩ (c_X11_demand l hfl dC dI 0 s.heap.size) (va_cwS 1 hts gX11_tag_X11_demand rfl rfl rfl (by decide +kernel) ⟨Nat.le_of_ble_eq_true rfl, Nat.le_of_ble_eq_true rfl⟩) (pcSz (zX_ok) hPc hDc hKc hN hZ hS hFc) rfl rfl hl.1 rfl (lv_room (Nat.le_of_ble_eq_true rfl)) dX11_tag_15 ⟨Nat.le_of_ble_eq_true rfl, Nat.le_of_ble_eq_true rfl⟩) hS (fun q _ h => hFc q h) hFc (fun q _ h => hFc q h) (fun E9 ce9 q9 u9 t9 H9 locs9 ht9 hvm9 hp9 hE9 hz9 hk9 hS9 hc9 hv9 hcl9 => vx_out (fun x h => (hxt x h).elim) hlocks hc9 hv9 hcl9 (fun t1 ht1 ha1 => ⟨(), trivial, ⟨hE9.1, fun h => (tag23 h.1).elim c2_1 c7_10⟩, hS9.F ht1⟩) hS9.2.2 (Nat.le_of_ble_eq_true rfl) (Nat.le_of_ble_eq_true rfl)) (fun u t H1 locs ht hvm hw_11 hB hz1 hk1 hS => ?_)
      obtain ⟨hP1, hK1, hD1⟩ := hB
      rw [ht] at hP1
      try dsimp only at hw_11
      obtain ⟨hP, hD⟩ := va_join (wr := [(ya, .inr (16, [.ref ms, .int 0, .ref ju, .ref li, .ref ct, .ref tg, .ref fw])), (tg, .inr (14, [.int 0, .int 0, .ref ts, .ref tr, .ref tk, .ref te])), (ts, .inl (cI, 40, .inl f1)), (tk, .inl (cI, 4, .inl (fun _ => 0))), (te, .inl (cI, 400, .inl f2))]) (w1 := []) hP hD [] [0, 1, 2, 3, 4] rfl rfl (by decide) (by decide) hk1 hFc hP1 hD1
      generalize H1 = H at hP hS ⊢
      have hP : va_P (dC, dI) vwCl [(ya, .inr (16, [.ref ms, .int 0, .ref ju, .ref li, .ref ct, .ref tg, .ref fw])), (tg, .inr (14, [.int 0, .int 0, .ref ts, .ref tr, .ref tk, .ref te])), (ts, .inl (cI, 40, .inl f1)), (tk, .inl (cI, 4, .inl (fun _ => 0))), (te, .inl (cI, 400, .inl f2))] H := hP
      have hD : va_D A [(ya, .inr (16, [.ref ms, .int 0, .ref ju, .ref li, .ref ct, .ref tg, .ref fw])), (tg, .inr (14, [.int 0, .int 0, .ref ts, .ref tr, .ref tk, .ref te])), (ts, .inl (cI, 40, .inl f1)), (tk, .inl (cI, 4, .inl (fun _ => 0))), (te, .inl (cI, 400, .inl f2))] := hD
      refine W.widen (k := 1) (n := 6) (Nat.le_of_ble_eq_true rfl) (Nat.le_of_ble_eq_true rfl) ?_
      exact absurd rfl hw_11
    · have hn9 : a1 = 2 ∨ a1 = 3 := Or.inr c7_10
      have hnn := tag32 hn9
      refine lv_iconst (v := 1) hx hb dX11_tag_10 (by decide) ?_
      refine lv_goto (tgt := 15) hx hb dX11_tag_11 (by decide) ?_
      have hPc := hP.sub (ws' := []) [] rfl
      have hDc := hD.sub (ws' := []) [] (by decide) rfl
      have hKc := hK.sub (tys' := []) [] rfl
      have hFc := va_free (wc := []) hD hS hA [] rfl
      refine vx_callv (vx_runS (As := [.int 1]) (rest := []) ⟨hx, hb, hml, hown, hts⟩ (c_X11_demand l hfl dC dI 1 s.heap.size) (va_cwS 1 hts gX11_tag_X11_demand rfl rfl rfl (by decide +kernel) ⟨Nat.le_of_ble_eq_true rfl, Nat.le_of_ble_eq_true rfl⟩) (pcSz (zX_ok) hPc hDc hKc hN hZ hS hFc) rfl rfl hl.1 rfl (lv_room (Nat.le_of_ble_eq_true rfl)) dX11_tag_15 ⟨Nat.le_of_ble_eq_true rfl, Nat.le_of_ble_eq_true rfl⟩) hS (fun q _ h => hFc q h) hFc (fun q _ h => hFc q h) (fun E9 ce9 q9 u9 t9 H9 locs9 ht9 hvm9 hp9 hE9 hz9 hk9 hS9 hc9 hv9 hcl9 => absurd hE9.2 (by decide)) (fun u t H1 locs ht hvm hw_12 hB hz1 hk1 hS => ?_)
      obtain ⟨hP1, hK1, hD1⟩ := hB
      rw [ht] at hP1
      try dsimp only at hw_12
      obtain ⟨hP, hD⟩ := va_join (wr := [(ya, .inr (16, [.ref ms, .int 0, .ref ju, .ref li, .ref ct, .ref tg, .ref fw])), (tg, .inr (14, [.int 0, .int 0, .ref ts, .ref tr, .ref tk, .ref te])), (ts, .inl (cI, 40, .inl f1)), (tk, .inl (cI, 4, .inl (fun _ => 0))), (te, .inl (cI, 400, .inl f2))]) (w1 := []) hP hD [] [0, 1, 2, 3, 4] rfl rfl (by decide) (by decide) hk1 hFc hP1 hD1
      generalize H1 = H at hP hS ⊢
      have hP : va_P (dC, dI) vwCl [(ya, .inr (16, [.ref ms, .int 0, .ref ju, .ref li, .ref ct, .ref tg, .ref fw])), (tg, .inr (14, [.int 0, .int 0, .ref ts, .ref tr, .ref tk, .ref te])), (ts, .inl (cI, 40, .inl f1)), (tk, .inl (cI, 4, .inl (fun _ => 0))), (te, .inl (cI, 400, .inl f2))] H := hP
      have hD : va_D A [(ya, .inr (16, [.ref ms, .int 0, .ref ju, .ref li, .ref ct, .ref tg, .ref fw])), (tg, .inr (14, [.int 0, .int 0, .ref ts, .ref tr, .ref tk, .ref te])), (ts, .inl (cI, 40, .inl f1)), (tk, .inl (cI, 4, .inl (fun _ => 0))), (te, .inl (cI, 400, .inl f2))] := hD
      refine W.widen (k := 1) (n := 6) (Nat.le_of_ble_eq_true rfl) (Nat.le_of_ble_eq_true rfl) ?_
      refine lv_iload_n hx hb dX11_tag_18 rfl (lv_at hl 2 rfl) ?_
      refine lv_iconst (v := 0) hx hb dX11_tag_19 (by decide) ?_
      refine lv_sipush (v := 2000) hx hb dX11_tag_20 (by decide) ?_
      have hPc := hP.sub (ws' := []) [] rfl
      have hDc := hD.sub (ws' := []) [] (by decide) rfl
      have hKc := hK.sub (tys' := []) [] rfl
      have hFc := va_free (wc := []) hD hS hA [] rfl
      refine va_calli (va_runS (As := [.int a2, .int 0, .int 2000]) (rest := []) ⟨hx, hb, hml, hown, hts⟩ (c_X11_isWithin l dC dI a2 0 2000 H.size) (va_cwS 3 hts gX11_tag_X11_isWithin rfl rfl rfl (by decide +kernel) ⟨Nat.le_of_ble_eq_true rfl, Nat.le_of_ble_eq_true rfl⟩) (pcS hPc hDc hKc hN) rfl rfl hl.1 rfl (lv_room (Nat.le_of_ble_eq_true rfl)) dX11_tag_23 ⟨Nat.le_of_ble_eq_true rfl, Nat.le_of_ble_eq_true rfl⟩) hS (fun q _ h => hFc q h) hFc (fun r_13 u t H1 locs ht hvm hw_14 hB hz1 hk1 hS => ?_)
      obtain ⟨hP1, hK1, hD1⟩ := hB
      rw [ht] at hP1
      try dsimp only at hw_14
      obtain ⟨hP, hD⟩ := va_join (wr := [(ya, .inr (16, [.ref ms, .int 0, .ref ju, .ref li, .ref ct, .ref tg, .ref fw])), (tg, .inr (14, [.int 0, .int 0, .ref ts, .ref tr, .ref tk, .ref te])), (ts, .inl (cI, 40, .inl f1)), (tk, .inl (cI, 4, .inl (fun _ => 0))), (te, .inl (cI, 400, .inl f2))]) (w1 := []) hP hD [] [0, 1, 2, 3, 4] rfl rfl (by decide) (by decide) hk1 hFc hP1 hD1
      generalize H1 = H at hP hS ⊢
      have hP : va_P (dC, dI) vwCl [(ya, .inr (16, [.ref ms, .int 0, .ref ju, .ref li, .ref ct, .ref tg, .ref fw])), (tg, .inr (14, [.int 0, .int 0, .ref ts, .ref tr, .ref tk, .ref te])), (ts, .inl (cI, 40, .inl f1)), (tk, .inl (cI, 4, .inl (fun _ => 0))), (te, .inl (cI, 400, .inl f2))] H := hP
      have hD : va_D A [(ya, .inr (16, [.ref ms, .int 0, .ref ju, .ref li, .ref ct, .ref tg, .ref fw])), (tg, .inr (14, [.int 0, .int 0, .ref ts, .ref tr, .ref tk, .ref te])), (ts, .inl (cI, 40, .inl f1)), (tk, .inl (cI, 4, .inl (fun _ => 0))), (te, .inl (cI, 400, .inl f2))] := hD
      have hq_15 : (r_13 = 1 ∧ 0 ≤ a2 ∧ a2 ≤ 2000) ∨ (r_13 = 0 ∧ ¬ (0 ≤ a2 ∧ a2 ≤ 2000)) := by rw [hw_14]; exact within_iff
      have hPc := hP.sub (ws' := []) [] rfl
      have hDc := hD.sub (ws' := []) [] (by decide) rfl
      have hKc := hK.sub (tys' := []) [] rfl
      have hFc := va_free (wc := []) hD hS hA [] rfl
      refine vx_callv (vx_runS (As := [.int r_13]) (rest := []) ⟨hx, hb, hml, hown, hts⟩ (c_X11_demand l hfl dC dI r_13 H.size) (va_cwS 1 hts gX11_tag_X11_demand rfl rfl rfl (by decide +kernel) ⟨Nat.le_of_ble_eq_true rfl, Nat.le_of_ble_eq_true rfl⟩) (pcSz (zX_ok) hPc hDc hKc hN hZ hS hFc) rfl rfl hl.1 rfl (lv_room (Nat.le_of_ble_eq_true rfl)) dX11_tag_26 ⟨Nat.le_of_ble_eq_true rfl, Nat.le_of_ble_eq_true rfl⟩) hS (fun q _ h => hFc q h) hFc (fun q _ h => hFc q h) (fun E9 ce9 q9 u9 t9 H9 locs9 ht9 hvm9 hp9 hE9 hz9 hk9 hS9 hc9 hv9 hcl9 => vx_out (fun x h => (hxt x h).elim) hlocks hc9 hv9 hcl9 (fun t1 ht1 ha1 => ⟨(), trivial, ⟨hE9.1, fun h => (hq_15).elim (fun h9 => absurd (hE9.2.symm.trans h9.1) (by decide)) (fun h9 => h9.2 h.2)⟩, hS9.F ht1⟩) hS9.2.2 (Nat.le_of_ble_eq_true rfl) (Nat.le_of_ble_eq_true rfl)) (fun u t H1 locs ht hvm hw_16 hB hz1 hk1 hS => ?_)
      obtain ⟨hP1, hK1, hD1⟩ := hB
      rw [ht] at hP1
      try dsimp only at hw_16
      obtain ⟨hP, hD⟩ := va_join (wr := [(ya, .inr (16, [.ref ms, .int 0, .ref ju, .ref li, .ref ct, .ref tg, .ref fw])), (tg, .inr (14, [.int 0, .int 0, .ref ts, .ref tr, .ref tk, .ref te])), (ts, .inl (cI, 40, .inl f1)), (tk, .inl (cI, 4, .inl (fun _ => 0))), (te, .inl (cI, 400, .inl f2))]) (w1 := []) hP hD [] [0, 1, 2, 3, 4] rfl rfl (by decide) (by decide) hk1 hFc hP1 hD1
      generalize H1 = H at hP hS ⊢
      have hP : va_P (dC, dI) vwCl [(ya, .inr (16, [.ref ms, .int 0, .ref ju, .ref li, .ref ct, .ref tg, .ref fw])), (tg, .inr (14, [.int 0, .int 0, .ref ts, .ref tr, .ref tk, .ref te])), (ts, .inl (cI, 40, .inl f1)), (tk, .inl (cI, 4, .inl (fun _ => 0))), (te, .inl (cI, 400, .inl f2))] H := hP
      have hD : va_D A [(ya, .inr (16, [.ref ms, .int 0, .ref ju, .ref li, .ref ct, .ref tg, .ref fw])), (tg, .inr (14, [.int 0, .int 0, .ref ts, .ref tr, .ref tk, .ref te])), (ts, .inl (cI, 40, .inl f1)), (tk, .inl (cI, 4, .inl (fun _ => 0))), (te, .inl (cI, 400, .inl f2))] := hD
      refine W.widen (k := 2) (n := 12) (Nat.le_of_ble_eq_true rfl) (Nat.le_of_ble_eq_true rfl) ?_
      have hn_17 := (hq_15).elim (fun h => h.2) (fun h => absurd h.1 hw_16)
      refine lv_aload_n hx hb dX11_tag_29 rfl (lv_at hl 0 rfl) ?_
      refine va_get (D := (dC, dI)) (ci := 16) (v := .ref tg) (C := RX11) (T := TX11) (N := 7) hx hb hts iWX11 hown hK hP 0 rfl rfl 5 (by decide) (hts (.fieldLink RX11 43 "Beaverhall" "tags" "LBeaverhall$Tags;") (by decide +kernel)) (fun _ h9 => h9) rfl dX11_tag_30 ?_
      refine lv_iload_n hx hb dX11_tag_33 rfl (lv_at hl 1 rfl) ?_
      refine lv_iload_n hx hb dX11_tag_34 rfl (lv_at hl 2 rfl) ?_
      have hPc := hP.sub (ws' := [(tg, .inr (14, [.int 0, .int 0, .ref ts, .ref tr, .ref tk, .ref te])), (ts, .inl (cI, 40, .inl f1)), (tk, .inl (cI, 4, .inl (fun _ => 0))), (te, .inl (cI, 400, .inl f2))]) [1, 2, 3, 4] rfl
      have hDc := hD.sub (ws' := [(tg, .inr (14, [.int 0, .int 0, .ref ts, .ref tr, .ref tk, .ref te])), (ts, .inl (cI, 40, .inl f1)), (tk, .inl (cI, 4, .inl (fun _ => 0))), (te, .inl (cI, 400, .inl f2))]) [1, 2, 3, 4] (by decide) rfl
      have hKc := hK.sub (tys' := [(cI, .int)]) [0] rfl
      have hFc := va_free (wc := [(tg, .inr (14, [.int 0, .int 0, .ref ts, .ref tr, .ref tk, .ref te])), (ts, .inl (cI, 40, .inl f1)), (tk, .inl (cI, 4, .inl (fun _ => 0))), (te, .inl (cI, 400, .inl f2))]) hD hS hA [1, 2, 3, 4] rfl
      refine va_calli (va_runV (As := [.int a1, .int a2]) (rest := []) ⟨hx, hb, hml, hown, hts⟩ (c_X9_go l dC dI cI tg ts tr tk te f1 f2 a1 a2 hn9 hn_17.1 H.size) (cwV 2 hts gX11_tag_X9_go rfl rfl rfl (by decide +kernel) ⟨Nat.le_of_ble_eq_true rfl, Nat.le_of_ble_eq_true rfl⟩) (pcV hPc hDc hKc hN (ci := 14) (q0 := 0) rfl rfl) rfl rfl hl.1 rfl (lv_room (Nat.le_of_ble_eq_true rfl)) dX11_tag_35 ⟨Nat.le_of_ble_eq_true rfl, Nat.le_of_ble_eq_true rfl⟩) hS (fun q _ h => hFc q h) hFc (fun r_18 u t H1 locs ht hvm hw_19 hB hz1 hk1 hS => ?_)
      obtain ⟨hP1, hK1, hD1⟩ := hB
      rw [ht] at hP1
      try dsimp only at hw_19
      obtain ⟨hP, hD⟩ := va_join (wr := [(ya, .inr (16, [.ref ms, .int 0, .ref ju, .ref li, .ref ct, .ref tg, .ref fw]))]) (w1 := []) hP hD [1, 2, 3, 4] [0] rfl rfl (by decide) (by decide) hk1 hFc hP1 hD1
      generalize H1 = H at hP hS ⊢
      have hP : va_P (dC, dI) vwCl [(ya, .inr (16, [.ref ms, .int 0, .ref ju, .ref li, .ref ct, .ref tg, .ref fw]))] H := hP
      have hD : va_D A [(ya, .inr (16, [.ref ms, .int 0, .ref ju, .ref li, .ref ct, .ref tg, .ref fw]))] := hD
      refine vx_ret ?_
      have hP9 := hP.sub (ws' := []) [] rfl
      have hD9 := hD.sub (ws' := []) [] (by decide) rfl
      have hK9 := hK.sub (tys' := [(cI, .int)]) [0] rfl
      exact W.iret (v := r_18) hx hb hr (fun t ht hW => ⟨⟨r_18, (), rfl, ⟨hw_19, hnn, hn_17⟩, ⟨by rw [ht]; exact hP9, va_K.moved hW.alike hK9, hD9⟩⟩, hS.F ht⟩) hS.2.2 dX11_tag_38

set_option maxHeartbeats 4000000 in
set_option maxRecDepth 100000 in
/-- X11_tagLength -/
theorem c_X11_tagLength (l : Launch) (hfl : l.stackTraces = false) (dC : Nat → ClassId) (dI : Nat → Nat → Nat) (ya ms ju li ct tg fw : Nat) (ts tr tk te : Nat) (sz : Nat) : vx_Met l yX11_tagLength wsX11_tagLength ({ frames := 0, cells := 0, slots := 0, locals := 0 }) (va_Pc [.ref ya] (cPCz (zX) dC dI [(ya, .inr (16, [.ref ms, .int 0, .ref ju, .ref li, .ref ct, .ref tg, .ref fw])), (tg, .inr (14, [.int 0, .int 0, .ref ts, .ref tr, .ref tk, .ref te]))] [] sz)) (va_Qi (fun (r : Int32) (u : Unit) => r = 0) (fun (u : Unit) t => cQB dC dI [] [] (va_A [(ya, .inr (16, [.ref ms, .int 0, .ref ju, .ref li, .ref ct, .ref tg, .ref fw])), (tg, .inr (14, [.int 0, .int 0, .ref ts, .ref tr, .ref tk, .ref te]))] sz) t) (va_A [(ya, .inr (16, [.ref ms, .int 0, .ref ju, .ref li, .ref ct, .ref tg, .ref fw])), (tg, .inr (14, [.int 0, .int 0, .ref ts, .ref tr, .ref tk, .ref te]))] sz)) (vx_X (fun (_ : Unit) => True) (fun (E9 : String) (_ : Unit) (_ : State) => False) (va_A [(ya, .inr (16, [.ref ms, .int 0, .ref ju, .ref li, .ref ct, .ref tg, .ref fw])), (tg, .inr (14, [.int 0, .int 0, .ref ts, .ref tr, .ref tk, .ref te]))] sz)) 0 0 (va_A [(ya, .inr (16, [.ref ms, .int 0, .ref ju, .ref li, .ref ct, .ref tg, .ref fw])), (tg, .inr (14, [.int 0, .int 0, .ref ts, .ref tr, .ref tk, .ref te]))] sz) := by
  refine vx_ofW (cc := cX11_tagLength) (maxL := 1) (ret := (some .int)) (by decide) rfl ?_
  intro p e s m args below meth c s₁ B hml hxt hv
  obtain ⟨rfl, ⟨hsz, hP, hK, hD0, hN⟩, hZ⟩ := hv
  have hx := B.exec
  have hb := B.bytes
  have hr := B.returns
  have hts := atoms_spec (ws := wsX11_tagLength) B.pre
  have hown : s.vm.findClass RX11 = some m.cls := findClass_of_methodNamed B.named
  have hlocks := B.notSynchronized
  subst hsz
  have hD := hD0.self (sz := s.heap.size)
  generalize hAe : va_A [(ya, .inr (16, [.ref ms, .int 0, .ref ju, .ref li, .ref ct, .ref tg, .ref fw])), (tg, .inr (14, [.int 0, .int 0, .ref ts, .ref tr, .ref tk, .ref te]))] s.heap.size = A at hD hZ ⊢
  have hA : ∀ q : Nat, s.heap.size ≤ q → A q := fun q h => by rw [← hAe]; exact Or.inr h
  have hS : va_S A s.heap s.heap [] := va_S.rf
  have hP : va_P (dC, dI) vwCl [(ya, .inr (16, [.ref ms, .int 0, .ref ju, .ref li, .ref ct, .ref tg, .ref fw])), (tg, .inr (14, [.int 0, .int 0, .ref ts, .ref tr, .ref tk, .ref te]))] s.heap := hP
  have hD : va_D A [(ya, .inr (16, [.ref ms, .int 0, .ref ju, .ref li, .ref ct, .ref tg, .ref fw])), (tg, .inr (14, [.int 0, .int 0, .ref ts, .ref tr, .ref tk, .ref te]))] := hD
  have hl := lv_entry ([.ref ya]) (n := 1) (Nat.le_of_ble_eq_true rfl)
  rw [lg_entry_eq]
  generalize (lg_sl ([.ref ya]) ++ List.replicate (1 - (lg_sl ([.ref ya])).length) Slot.unset).toArray = ls at hl ⊢
  have hl : lv_has ls 1 [(0, .ref ya)] := hl
  have iWX11 : ∀ w ∈ u_ws RX11 TX11 7, w ∈ wsX11_tagLength := by decide +kernel
  have iWX9 : ∀ w ∈ u_ws RX9 TX9 6, w ∈ wsX11_tagLength := by decide +kernel
  refine lv_aload_n hx hb dX11_tagLength_0 rfl (lv_at hl 0 rfl) ?_
  refine va_get (D := (dC, dI)) (ci := 16) (v := .ref tg) (C := RX11) (T := TX11) (N := 7) hx hb hts iWX11 hown hK hP 0 rfl rfl 5 (by decide) (hts (.fieldLink RX11 43 "Beaverhall" "tags" "LBeaverhall$Tags;") (by decide +kernel)) (fun _ h9 => h9) rfl dX11_tagLength_1 ?_
  refine va_get (D := (dC, dI)) (ci := 14) (v := .int 0) (C := RX9) (T := TX9) (N := 6) hx hb hts iWX9 hown hK hP 1 rfl rfl 1 (by decide) (hts (.fieldLink RX11 268 "Beaverhall$Tags" "length" "I") (by decide +kernel)) (fun _ h9 => h9) rfl dX11_tagLength_4 ?_
  refine vx_ret ?_
  have hP9 := hP.sub (ws' := []) [] rfl
  have hD9 := hD.sub (ws' := []) [] (by decide) rfl
  have hK9 := hK.sub (tys' := []) [] rfl
  exact W.iret (v := 0) hx hb hr (fun t ht hW => ⟨⟨0, (), rfl, rfl, ⟨by rw [ht]; exact hP9, va_K.moved hW.alike hK9, hD9⟩⟩, hS.F ht⟩) hS.2.2 dX11_tagLength_7

set_option maxHeartbeats 4000000 in
set_option maxRecDepth 100000 in
/-- X11_tagLetter -/
theorem c_X11_tagLetter (l : Launch) (hfl : l.stackTraces = false) (dC : Nat → ClassId) (dI : Nat → Nat → Nat) (ya ms ju li ct tg fw : Nat) (ts tr tk te : Nat) (a1 : Int32) (sz : Nat) : vx_Met l yX11_tagLetter wsX11_tagLetter ({ frames := 7, cells := 1, slots := 6, locals := 120 }) (va_Pc [.ref ya, .int a1] (cPCz (zX) dC dI [(ya, .inr (16, [.ref ms, .int 0, .ref ju, .ref li, .ref ct, .ref tg, .ref fw])), (tg, .inr (14, [.int 0, .int 0, .ref ts, .ref tr, .ref tk, .ref te]))] [] sz)) (fun _ _ _ _ => False) (vx_X (fun (_ : Unit) => True) (fun (E9 : String) (_ : Unit) (_ : State) => E9 = "java/util/NoSuchElementException") (va_A [(ya, .inr (16, [.ref ms, .int 0, .ref ju, .ref li, .ref ct, .ref tg, .ref fw])), (tg, .inr (14, [.int 0, .int 0, .ref ts, .ref tr, .ref tk, .ref te]))] sz)) 1 6 (va_A [(ya, .inr (16, [.ref ms, .int 0, .ref ju, .ref li, .ref ct, .ref tg, .ref fw])), (tg, .inr (14, [.int 0, .int 0, .ref ts, .ref tr, .ref tk, .ref te]))] sz) := by
  refine vx_ofW (cc := cX11_tagLetter) (maxL := 2) (ret := (some .char)) (by decide) rfl ?_
  intro p e s m args below meth c s₁ B hml hxt hv
  obtain ⟨rfl, ⟨hsz, hP, hK, hD0, hN⟩, hZ⟩ := hv
  have hx := B.exec
  have hb := B.bytes
  have hr := B.returns
  have hts := atoms_spec (ws := wsX11_tagLetter) B.pre
  have hown : s.vm.findClass RX11 = some m.cls := findClass_of_methodNamed B.named
  have hlocks := B.notSynchronized
  subst hsz
  have hD := hD0.self (sz := s.heap.size)
  generalize hAe : va_A [(ya, .inr (16, [.ref ms, .int 0, .ref ju, .ref li, .ref ct, .ref tg, .ref fw])), (tg, .inr (14, [.int 0, .int 0, .ref ts, .ref tr, .ref tk, .ref te]))] s.heap.size = A at hD hZ ⊢
  have hA : ∀ q : Nat, s.heap.size ≤ q → A q := fun q h => by rw [← hAe]; exact Or.inr h
  have hS : va_S A s.heap s.heap [] := va_S.rf
  have hP : va_P (dC, dI) vwCl [(ya, .inr (16, [.ref ms, .int 0, .ref ju, .ref li, .ref ct, .ref tg, .ref fw])), (tg, .inr (14, [.int 0, .int 0, .ref ts, .ref tr, .ref tk, .ref te]))] s.heap := hP
  have hD : va_D A [(ya, .inr (16, [.ref ms, .int 0, .ref ju, .ref li, .ref ct, .ref tg, .ref fw])), (tg, .inr (14, [.int 0, .int 0, .ref ts, .ref tr, .ref tk, .ref te]))] := hD
  have hl := lv_entry ([.ref ya, .int a1]) (n := 2) (Nat.le_of_ble_eq_true rfl)
  rw [lg_entry_eq]
  generalize (lg_sl ([.ref ya, .int a1]) ++ List.replicate (2 - (lg_sl ([.ref ya, .int a1])).length) Slot.unset).toArray = ls at hl ⊢
  have hl : lv_has ls 2 [(0, .ref ya), (1, .int a1)] := hl
  have iWX11 : ∀ w ∈ u_ws RX11 TX11 7, w ∈ wsX11_tagLetter := by decide +kernel
  have iWX9 : ∀ w ∈ u_ws RX9 TX9 6, w ∈ wsX11_tagLetter := by decide +kernel
  refine lv_iload_n hx hb dX11_tagLetter_0 rfl (lv_at hl 1 rfl) ?_
  refine lv_iconst (v := 0) hx hb dX11_tagLetter_1 (by decide) ?_
  refine lv_aload_n hx hb dX11_tagLetter_2 rfl (lv_at hl 0 rfl) ?_
  refine va_get (D := (dC, dI)) (ci := 16) (v := .ref tg) (C := RX11) (T := TX11) (N := 7) hx hb hts iWX11 hown hK hP 0 rfl rfl 5 (by decide) (hts (.fieldLink RX11 43 "Beaverhall" "tags" "LBeaverhall$Tags;") (by decide +kernel)) (fun _ h9 => h9) rfl dX11_tagLetter_3 ?_
  refine va_get (D := (dC, dI)) (ci := 14) (v := .int 0) (C := RX9) (T := TX9) (N := 6) hx hb hts iWX9 hown hK hP 1 rfl rfl 1 (by decide) (hts (.fieldLink RX11 268 "Beaverhall$Tags" "length" "I") (by decide +kernel)) (fun _ h9 => h9) rfl dX11_tagLetter_6 ?_
  refine lv_iconst (v := 1) hx hb dX11_tagLetter_9 (by decide) ?_
  refine lv_isub hx hb dX11_tagLetter_10 ?_
  have hPc := hP.sub (ws' := []) [] rfl
  have hDc := hD.sub (ws' := []) [] (by decide) rfl
  have hKc := hK.sub (tys' := []) [] rfl
  have hFc := va_free (wc := []) hD hS hA [] rfl
  refine va_calli (va_runS (As := [.int a1, .int 0, .int ((0 : Int32) - 1)]) (rest := []) ⟨hx, hb, hml, hown, hts⟩ (c_X11_isWithin l dC dI a1 0 ((0 : Int32) - 1) s.heap.size) (va_cwS 3 hts gX11_tagLetter_X11_isWithin rfl rfl rfl (by decide +kernel) ⟨Nat.le_of_ble_eq_true rfl, Nat.le_of_ble_eq_true rfl⟩) (pcS hPc hDc hKc hN) rfl rfl hl.1 rfl (lv_room (Nat.le_of_ble_eq_true rfl)) dX11_tagLetter_11 ⟨Nat.le_of_ble_eq_true rfl, Nat.le_of_ble_eq_true rfl⟩) hS (fun q _ h => hFc q h) hFc (fun r_1 u t H1 locs ht hvm hw_2 hB hz1 hk1 hS => ?_)
  obtain ⟨hP1, hK1, hD1⟩ := hB
  rw [ht] at hP1
  try dsimp only at hw_2
  obtain ⟨hP, hD⟩ := va_join (wr := [(ya, .inr (16, [.ref ms, .int 0, .ref ju, .ref li, .ref ct, .ref tg, .ref fw])), (tg, .inr (14, [.int 0, .int 0, .ref ts, .ref tr, .ref tk, .ref te]))]) (w1 := []) hP hD [] [0, 1] rfl rfl (by decide) (by decide) hk1 hFc hP1 hD1
  generalize H1 = H at hP hS ⊢
  have hP : va_P (dC, dI) vwCl [(ya, .inr (16, [.ref ms, .int 0, .ref ju, .ref li, .ref ct, .ref tg, .ref fw])), (tg, .inr (14, [.int 0, .int 0, .ref ts, .ref tr, .ref tk, .ref te]))] H := hP
  have hD : va_D A [(ya, .inr (16, [.ref ms, .int 0, .ref ju, .ref li, .ref ct, .ref tg, .ref fw])), (tg, .inr (14, [.int 0, .int 0, .ref ts, .ref tr, .ref tk, .ref te]))] := hD
  have hq_3 : (r_1 = 1 ∧ 0 ≤ a1 ∧ a1 ≤ ((0 : Int32) - 1)) ∨ (r_1 = 0 ∧ ¬ (0 ≤ a1 ∧ a1 ≤ ((0 : Int32) - 1))) := by rw [hw_2]; exact within_iff
  have hz9 : r_1 = 0 := (hq_3).elim (fun h => absurd (Int32.le_trans h.2.1 h.2.2) (by decide)) (fun h => h.1)
  obtain rfl : r_1 = 0 := hz9
  have hPc := hP.sub (ws' := []) [] rfl
  have hDc := hD.sub (ws' := []) [] (by decide) rfl
  have hKc := hK.sub (tys' := []) [] rfl
  have hFc := va_free (wc := []) hD hS hA [] rfl
  refine vx_callv (vx_runS (As := [.int (0)]) (rest := []) ⟨hx, hb, hml, hown, hts⟩ (c_X11_demandFound l hfl dC dI (0) H.size) (va_cwS 1 hts gX11_tagLetter_X11_demandFound rfl rfl rfl (by decide +kernel) ⟨Nat.le_of_ble_eq_true rfl, Nat.le_of_ble_eq_true rfl⟩) (pcSz (zX_ok) hPc hDc hKc hN hZ hS hFc) rfl rfl hl.1 rfl (lv_room (Nat.le_of_ble_eq_true rfl)) dX11_tagLetter_14 ⟨Nat.le_of_ble_eq_true rfl, Nat.le_of_ble_eq_true rfl⟩) hS (fun q _ h => hFc q h) hFc (fun q _ h => hFc q h) (fun E9 ce9 q9 u9 t9 H9 locs9 ht9 hvm9 hp9 hE9 hz9 hk9 hS9 hc9 hv9 hcl9 => vx_out (fun x h => (hxt x h).elim) hlocks hc9 hv9 hcl9 (fun t1 ht1 ha1 => ⟨(), trivial, hE9.1, hS9.F ht1⟩) hS9.2.2 (Nat.le_of_ble_eq_true rfl) (Nat.le_of_ble_eq_true rfl)) (fun u t H1 locs ht hvm hw_4 hB hz1 hk1 hS => ?_)
  obtain ⟨hP1, hK1, hD1⟩ := hB
  rw [ht] at hP1
  try dsimp only at hw_4
  obtain ⟨hP, hD⟩ := va_join (wr := [(ya, .inr (16, [.ref ms, .int 0, .ref ju, .ref li, .ref ct, .ref tg, .ref fw])), (tg, .inr (14, [.int 0, .int 0, .ref ts, .ref tr, .ref tk, .ref te]))]) (w1 := []) hP hD [] [0, 1] rfl rfl (by decide) (by decide) hk1 hFc hP1 hD1
  generalize H1 = H at hP hS ⊢
  have hP : va_P (dC, dI) vwCl [(ya, .inr (16, [.ref ms, .int 0, .ref ju, .ref li, .ref ct, .ref tg, .ref fw])), (tg, .inr (14, [.int 0, .int 0, .ref ts, .ref tr, .ref tk, .ref te]))] H := hP
  have hD : va_D A [(ya, .inr (16, [.ref ms, .int 0, .ref ju, .ref li, .ref ct, .ref tg, .ref fw])), (tg, .inr (14, [.int 0, .int 0, .ref ts, .ref tr, .ref tk, .ref te]))] := hD
  refine W.widen (k := 1) (n := 6) (Nat.le_of_ble_eq_true rfl) (Nat.le_of_ble_eq_true rfl) ?_
  exact absurd rfl hw_4

set_option maxHeartbeats 4000000 in
set_option maxRecDepth 100000 in
/-- X11_fraction -/
theorem c_X11_fraction (l : Launch) (hfl : l.stackTraces = false) (dC : Nat → ClassId) (dI : Nat → Nat → Nat) (cI : ClassId) (ya ms ju li ct tg fw : Nat) (fo fu : Nat) (sv hv : Int32) (nv : Int64) (f1 f2 : Nat → Int32) (a1 a2 : Int32) (sz : Nat) : vx_Met l yX11_fraction wsX11_fraction ({ frames := 7, cells := 1, slots := 6, locals := 120 }) (va_Pc [.ref ya, .int a1, .int a2] (cPCz (zX) dC dI [(ya, .inr (16, [.ref ms, .int 0, .ref ju, .ref li, .ref ct, .ref tg, .ref fw])), (fw, .inr (6, [.int 0, .int sv, .int hv, .long nv, .ref fo, .ref fu])), (fo, .inl (cI, 10, .inl f1)), (fu, .inl (cI, 10, .inl f2))] [(cI, .int)] sz)) (va_Qi (fun (r : Int32) (u : Unit) => r = 1 ∧ pFraction a1 a2) (fun (u : Unit) t => cQB dC dI [] [(cI, .int)] (va_A [(ya, .inr (16, [.ref ms, .int 0, .ref ju, .ref li, .ref ct, .ref tg, .ref fw])), (fw, .inr (6, [.int 0, .int sv, .int hv, .long nv, .ref fo, .ref fu])), (fo, .inl (cI, 10, .inl f1)), (fu, .inl (cI, 10, .inl f2))] sz) t) (va_A [(ya, .inr (16, [.ref ms, .int 0, .ref ju, .ref li, .ref ct, .ref tg, .ref fw])), (fw, .inr (6, [.int 0, .int sv, .int hv, .long nv, .ref fo, .ref fu])), (fo, .inl (cI, 10, .inl f1)), (fu, .inl (cI, 10, .inl f2))] sz)) (vx_X (fun (_ : Unit) => True) (fun (E9 : String) (_ : Unit) (_ : State) => E9 = "java/lang/IllegalArgumentException" ∧ ¬ pFraction a1 a2) (va_A [(ya, .inr (16, [.ref ms, .int 0, .ref ju, .ref li, .ref ct, .ref tg, .ref fw])), (fw, .inr (6, [.int 0, .int sv, .int hv, .long nv, .ref fo, .ref fu])), (fo, .inl (cI, 10, .inl f1)), (fu, .inl (cI, 10, .inl f2))] sz)) 1 6 (va_A [(ya, .inr (16, [.ref ms, .int 0, .ref ju, .ref li, .ref ct, .ref tg, .ref fw])), (fw, .inr (6, [.int 0, .int sv, .int hv, .long nv, .ref fo, .ref fu])), (fo, .inl (cI, 10, .inl f1)), (fu, .inl (cI, 10, .inl f2))] sz) := by
  refine vx_ofW (cc := cX11_fraction) (maxL := 3) (ret := (some .int)) (by decide) rfl ?_
  intro p e s m args below meth c s₁ B hml hxt hv
  obtain ⟨rfl, ⟨hsz, hP, hK, hD0, hN⟩, hZ⟩ := hv
  have hx := B.exec
  have hb := B.bytes
  have hr := B.returns
  have hts := atoms_spec (ws := wsX11_fraction) B.pre
  have hown : s.vm.findClass RX11 = some m.cls := findClass_of_methodNamed B.named
  have hlocks := B.notSynchronized
  subst hsz
  have hD := hD0.self (sz := s.heap.size)
  generalize hAe : va_A [(ya, .inr (16, [.ref ms, .int 0, .ref ju, .ref li, .ref ct, .ref tg, .ref fw])), (fw, .inr (6, [.int 0, .int sv, .int hv, .long nv, .ref fo, .ref fu])), (fo, .inl (cI, 10, .inl f1)), (fu, .inl (cI, 10, .inl f2))] s.heap.size = A at hD hZ ⊢
  have hA : ∀ q : Nat, s.heap.size ≤ q → A q := fun q h => by rw [← hAe]; exact Or.inr h
  have hS : va_S A s.heap s.heap [] := va_S.rf
  have hP : va_P (dC, dI) vwCl [(ya, .inr (16, [.ref ms, .int 0, .ref ju, .ref li, .ref ct, .ref tg, .ref fw])), (fw, .inr (6, [.int 0, .int sv, .int hv, .long nv, .ref fo, .ref fu])), (fo, .inl (cI, 10, .inl f1)), (fu, .inl (cI, 10, .inl f2))] s.heap := hP
  have hD : va_D A [(ya, .inr (16, [.ref ms, .int 0, .ref ju, .ref li, .ref ct, .ref tg, .ref fw])), (fw, .inr (6, [.int 0, .int sv, .int hv, .long nv, .ref fo, .ref fu])), (fo, .inl (cI, 10, .inl f1)), (fu, .inl (cI, 10, .inl f2))] := hD
  have hl := lv_entry ([.ref ya, .int a1, .int a2]) (n := 3) (Nat.le_of_ble_eq_true rfl)
  rw [lg_entry_eq]
  generalize (lg_sl ([.ref ya, .int a1, .int a2]) ++ List.replicate (3 - (lg_sl ([.ref ya, .int a1, .int a2])).length) Slot.unset).toArray = ls at hl ⊢
  have hl : lv_has ls 3 [(0, .ref ya), (1, .int a1), (2, .int a2)] := hl
  have iWX1 : ∀ w ∈ u_ws RX1 TX1 6, w ∈ wsX11_fraction := by decide +kernel
  have iWX11 : ∀ w ∈ u_ws RX11 TX11 7, w ∈ wsX11_fraction := by decide +kernel
  refine lv_iload_n hx hb dX11_fraction_0 rfl (lv_at hl 1 rfl) ?_
  refine lv_iconst (v := 1) hx hb dX11_fraction_1 (by decide) ?_
  refine lv_sipush (v := 10000) hx hb dX11_fraction_2 (by decide) ?_
  have hPc := hP.sub (ws' := []) [] rfl
  have hDc := hD.sub (ws' := []) [] (by decide) rfl
  have hKc := hK.sub (tys' := []) [] rfl
  have hFc := va_free (wc := []) hD hS hA [] rfl
  refine va_calli (va_runS (As := [.int a1, .int 1, .int 10000]) (rest := []) ⟨hx, hb, hml, hown, hts⟩ (c_X11_isWithin l dC dI a1 1 10000 s.heap.size) (va_cwS 3 hts gX11_fraction_X11_isWithin rfl rfl rfl (by decide +kernel) ⟨Nat.le_of_ble_eq_true rfl, Nat.le_of_ble_eq_true rfl⟩) (pcS hPc hDc hKc hN) rfl rfl hl.1 rfl (lv_room (Nat.le_of_ble_eq_true rfl)) dX11_fraction_5 ⟨Nat.le_of_ble_eq_true rfl, Nat.le_of_ble_eq_true rfl⟩) hS (fun q _ h => hFc q h) hFc (fun r_1 u t H1 locs ht hvm hw_2 hB hz1 hk1 hS => ?_)
  obtain ⟨hP1, hK1, hD1⟩ := hB
  rw [ht] at hP1
  try dsimp only at hw_2
  obtain ⟨hP, hD⟩ := va_join (wr := [(ya, .inr (16, [.ref ms, .int 0, .ref ju, .ref li, .ref ct, .ref tg, .ref fw])), (fw, .inr (6, [.int 0, .int sv, .int hv, .long nv, .ref fo, .ref fu])), (fo, .inl (cI, 10, .inl f1)), (fu, .inl (cI, 10, .inl f2))]) (w1 := []) hP hD [] [0, 1, 2, 3] rfl rfl (by decide) (by decide) hk1 hFc hP1 hD1
  generalize H1 = H at hP hS ⊢
  have hP : va_P (dC, dI) vwCl [(ya, .inr (16, [.ref ms, .int 0, .ref ju, .ref li, .ref ct, .ref tg, .ref fw])), (fw, .inr (6, [.int 0, .int sv, .int hv, .long nv, .ref fo, .ref fu])), (fo, .inl (cI, 10, .inl f1)), (fu, .inl (cI, 10, .inl f2))] H := hP
  have hD : va_D A [(ya, .inr (16, [.ref ms, .int 0, .ref ju, .ref li, .ref ct, .ref tg, .ref fw])), (fw, .inr (6, [.int 0, .int sv, .int hv, .long nv, .ref fo, .ref fu])), (fo, .inl (cI, 10, .inl f1)), (fu, .inl (cI, 10, .inl f2))] := hD
  have hq_3 : (r_1 = 1 ∧ 1 ≤ a1 ∧ a1 ≤ 10000) ∨ (r_1 = 0 ∧ ¬ (1 ≤ a1 ∧ a1 ≤ 10000)) := by rw [hw_2]; exact within_iff
  refine lv_if_eq (tgt := 26) hx hb dX11_fraction_8 (by decide) (fun c8_4 => ?_) (fun c8_4 => ?_)
  · have hn_5 := (hq_3).elim (fun h => absurd (h.1.symm.trans c8_4) (by decide)) (fun h => h.2)
    refine lv_iconst (v := 0) hx hb dX11_fraction_26 (by decide) ?_
    have hPc := hP.sub (ws' := []) [] rfl
    have hDc := hD.sub (ws' := []) [] (by decide) rfl
    have hKc := hK.sub (tys' := []) [] rfl
    have hFc := va_free (wc := []) hD hS hA [] rfl
    refine vx_callv (vx_runS (As := [.int 0]) (rest := []) ⟨hx, hb, hml, hown, hts⟩ (c_X11_demand l hfl dC dI 0 H.size) (va_cwS 1 hts gX11_fraction_X11_demand rfl rfl rfl (by decide +kernel) ⟨Nat.le_of_ble_eq_true rfl, Nat.le_of_ble_eq_true rfl⟩) (pcSz (zX_ok) hPc hDc hKc hN hZ hS hFc) rfl rfl hl.1 rfl (lv_room (Nat.le_of_ble_eq_true rfl)) dX11_fraction_27 ⟨Nat.le_of_ble_eq_true rfl, Nat.le_of_ble_eq_true rfl⟩) hS (fun q _ h => hFc q h) hFc (fun q _ h => hFc q h) (fun E9 ce9 q9 u9 t9 H9 locs9 ht9 hvm9 hp9 hE9 hz9 hk9 hS9 hc9 hv9 hcl9 => vx_out (fun x h => (hxt x h).elim) hlocks hc9 hv9 hcl9 (fun t1 ht1 ha1 => ⟨(), trivial, ⟨hE9.1, fun h => hn_5 h.1⟩, hS9.F ht1⟩) hS9.2.2 (Nat.le_of_ble_eq_true rfl) (Nat.le_of_ble_eq_true rfl)) (fun u t H1 locs ht hvm hw_6 hB hz1 hk1 hS => ?_)
    obtain ⟨hP1, hK1, hD1⟩ := hB
    rw [ht] at hP1
    try dsimp only at hw_6
    obtain ⟨hP, hD⟩ := va_join (wr := [(ya, .inr (16, [.ref ms, .int 0, .ref ju, .ref li, .ref ct, .ref tg, .ref fw])), (fw, .inr (6, [.int 0, .int sv, .int hv, .long nv, .ref fo, .ref fu])), (fo, .inl (cI, 10, .inl f1)), (fu, .inl (cI, 10, .inl f2))]) (w1 := []) hP hD [] [0, 1, 2, 3] rfl rfl (by decide) (by decide) hk1 hFc hP1 hD1
    generalize H1 = H at hP hS ⊢
    have hP : va_P (dC, dI) vwCl [(ya, .inr (16, [.ref ms, .int 0, .ref ju, .ref li, .ref ct, .ref tg, .ref fw])), (fw, .inr (6, [.int 0, .int sv, .int hv, .long nv, .ref fo, .ref fu])), (fo, .inl (cI, 10, .inl f1)), (fu, .inl (cI, 10, .inl f2))] H := hP
    have hD : va_D A [(ya, .inr (16, [.ref ms, .int 0, .ref ju, .ref li, .ref ct, .ref tg, .ref fw])), (fw, .inr (6, [.int 0, .int sv, .int hv, .long nv, .ref fo, .ref fu])), (fo, .inl (cI, 10, .inl f1)), (fu, .inl (cI, 10, .inl f2))] := hD
    refine W.widen (k := 1) (n := 6) (Nat.le_of_ble_eq_true rfl) (Nat.le_of_ble_eq_true rfl) ?_
    exact absurd rfl hw_6
  · have hn_7 := (hq_3).elim (fun h => h.2) (fun h => absurd h.1 c8_4)
    refine lv_iload_n hx hb dX11_fraction_11 rfl (lv_at hl 2 rfl) ?_
    refine lv_iconst (v := 1) hx hb dX11_fraction_12 (by decide) ?_
    refine lv_sipush (v := 10000) hx hb dX11_fraction_13 (by decide) ?_
    have hPc := hP.sub (ws' := []) [] rfl
    have hDc := hD.sub (ws' := []) [] (by decide) rfl
    have hKc := hK.sub (tys' := []) [] rfl
    have hFc := va_free (wc := []) hD hS hA [] rfl
    refine va_calli (va_runS (As := [.int a2, .int 1, .int 10000]) (rest := []) ⟨hx, hb, hml, hown, hts⟩ (c_X11_isWithin l dC dI a2 1 10000 H.size) (va_cwS 3 hts gX11_fraction_X11_isWithin rfl rfl rfl (by decide +kernel) ⟨Nat.le_of_ble_eq_true rfl, Nat.le_of_ble_eq_true rfl⟩) (pcS hPc hDc hKc hN) rfl rfl hl.1 rfl (lv_room (Nat.le_of_ble_eq_true rfl)) dX11_fraction_16 ⟨Nat.le_of_ble_eq_true rfl, Nat.le_of_ble_eq_true rfl⟩) hS (fun q _ h => hFc q h) hFc (fun r_8 u t H1 locs ht hvm hw_9 hB hz1 hk1 hS => ?_)
    obtain ⟨hP1, hK1, hD1⟩ := hB
    rw [ht] at hP1
    try dsimp only at hw_9
    obtain ⟨hP, hD⟩ := va_join (wr := [(ya, .inr (16, [.ref ms, .int 0, .ref ju, .ref li, .ref ct, .ref tg, .ref fw])), (fw, .inr (6, [.int 0, .int sv, .int hv, .long nv, .ref fo, .ref fu])), (fo, .inl (cI, 10, .inl f1)), (fu, .inl (cI, 10, .inl f2))]) (w1 := []) hP hD [] [0, 1, 2, 3] rfl rfl (by decide) (by decide) hk1 hFc hP1 hD1
    generalize H1 = H at hP hS ⊢
    have hP : va_P (dC, dI) vwCl [(ya, .inr (16, [.ref ms, .int 0, .ref ju, .ref li, .ref ct, .ref tg, .ref fw])), (fw, .inr (6, [.int 0, .int sv, .int hv, .long nv, .ref fo, .ref fu])), (fo, .inl (cI, 10, .inl f1)), (fu, .inl (cI, 10, .inl f2))] H := hP
    have hD : va_D A [(ya, .inr (16, [.ref ms, .int 0, .ref ju, .ref li, .ref ct, .ref tg, .ref fw])), (fw, .inr (6, [.int 0, .int sv, .int hv, .long nv, .ref fo, .ref fu])), (fo, .inl (cI, 10, .inl f1)), (fu, .inl (cI, 10, .inl f2))] := hD
    have hq_10 : (r_8 = 1 ∧ 1 ≤ a2 ∧ a2 ≤ 10000) ∨ (r_8 = 0 ∧ ¬ (1 ≤ a2 ∧ a2 ≤ 10000)) := by rw [hw_9]; exact within_iff
    refine lv_if_eq (tgt := 26) hx hb dX11_fraction_19 (by decide) (fun c19_11 => ?_) (fun c19_11 => ?_)
    · have hn_12 := (hq_10).elim (fun h => absurd (h.1.symm.trans c19_11) (by decide)) (fun h => h.2)
      refine lv_iconst (v := 0) hx hb dX11_fraction_26 (by decide) ?_
      have hPc := hP.sub (ws' := []) [] rfl
      have hDc := hD.sub (ws' := []) [] (by decide) rfl
      have hKc := hK.sub (tys' := []) [] rfl
      have hFc := va_free (wc := []) hD hS hA [] rfl
      refine vx_callv (vx_runS (As := [.int 0]) (rest := []) ⟨hx, hb, hml, hown, hts⟩ (c_X11_demand l hfl dC dI 0 H.size) (va_cwS 1 hts gX11_fraction_X11_demand rfl rfl rfl (by decide +kernel) ⟨Nat.le_of_ble_eq_true rfl, Nat.le_of_ble_eq_true rfl⟩) (pcSz (zX_ok) hPc hDc hKc hN hZ hS hFc) rfl rfl hl.1 rfl (lv_room (Nat.le_of_ble_eq_true rfl)) dX11_fraction_27 ⟨Nat.le_of_ble_eq_true rfl, Nat.le_of_ble_eq_true rfl⟩) hS (fun q _ h => hFc q h) hFc (fun q _ h => hFc q h) (fun E9 ce9 q9 u9 t9 H9 locs9 ht9 hvm9 hp9 hE9 hz9 hk9 hS9 hc9 hv9 hcl9 => vx_out (fun x h => (hxt x h).elim) hlocks hc9 hv9 hcl9 (fun t1 ht1 ha1 => ⟨(), trivial, ⟨hE9.1, fun h => hn_12 h.2⟩, hS9.F ht1⟩) hS9.2.2 (Nat.le_of_ble_eq_true rfl) (Nat.le_of_ble_eq_true rfl)) (fun u t H1 locs ht hvm hw_13 hB hz1 hk1 hS => ?_)
      obtain ⟨hP1, hK1, hD1⟩ := hB
      rw [ht] at hP1
      try dsimp only at hw_13
      obtain ⟨hP, hD⟩ := va_join (wr := [(ya, .inr (16, [.ref ms, .int 0, .ref ju, .ref li, .ref ct, .ref tg, .ref fw])), (fw, .inr (6, [.int 0, .int sv, .int hv, .long nv, .ref fo, .ref fu])), (fo, .inl (cI, 10, .inl f1)), (fu, .inl (cI, 10, .inl f2))]) (w1 := []) hP hD [] [0, 1, 2, 3] rfl rfl (by decide) (by decide) hk1 hFc hP1 hD1
      generalize H1 = H at hP hS ⊢
      have hP : va_P (dC, dI) vwCl [(ya, .inr (16, [.ref ms, .int 0, .ref ju, .ref li, .ref ct, .ref tg, .ref fw])), (fw, .inr (6, [.int 0, .int sv, .int hv, .long nv, .ref fo, .ref fu])), (fo, .inl (cI, 10, .inl f1)), (fu, .inl (cI, 10, .inl f2))] H := hP
      have hD : va_D A [(ya, .inr (16, [.ref ms, .int 0, .ref ju, .ref li, .ref ct, .ref tg, .ref fw])), (fw, .inr (6, [.int 0, .int sv, .int hv, .long nv, .ref fo, .ref fu])), (fo, .inl (cI, 10, .inl f1)), (fu, .inl (cI, 10, .inl f2))] := hD
      refine W.widen (k := 1) (n := 6) (Nat.le_of_ble_eq_true rfl) (Nat.le_of_ble_eq_true rfl) ?_
      exact absurd rfl hw_13
    · have hn_14 := (hq_10).elim (fun h => h.2) (fun h => absurd h.1 c19_11)
      refine lv_iconst (v := 1) hx hb dX11_fraction_22 (by decide) ?_
      refine lv_goto (tgt := 27) hx hb dX11_fraction_23 (by decide) ?_
      have hPc := hP.sub (ws' := []) [] rfl
      have hDc := hD.sub (ws' := []) [] (by decide) rfl
      have hKc := hK.sub (tys' := []) [] rfl
      have hFc := va_free (wc := []) hD hS hA [] rfl
      refine vx_callv (vx_runS (As := [.int 1]) (rest := []) ⟨hx, hb, hml, hown, hts⟩ (c_X11_demand l hfl dC dI 1 H.size) (va_cwS 1 hts gX11_fraction_X11_demand rfl rfl rfl (by decide +kernel) ⟨Nat.le_of_ble_eq_true rfl, Nat.le_of_ble_eq_true rfl⟩) (pcSz (zX_ok) hPc hDc hKc hN hZ hS hFc) rfl rfl hl.1 rfl (lv_room (Nat.le_of_ble_eq_true rfl)) dX11_fraction_27 ⟨Nat.le_of_ble_eq_true rfl, Nat.le_of_ble_eq_true rfl⟩) hS (fun q _ h => hFc q h) hFc (fun q _ h => hFc q h) (fun E9 ce9 q9 u9 t9 H9 locs9 ht9 hvm9 hp9 hE9 hz9 hk9 hS9 hc9 hv9 hcl9 => absurd hE9.2 (by decide)) (fun u t H1 locs ht hvm hw_15 hB hz1 hk1 hS => ?_)
      obtain ⟨hP1, hK1, hD1⟩ := hB
      rw [ht] at hP1
      try dsimp only at hw_15
      obtain ⟨hP, hD⟩ := va_join (wr := [(ya, .inr (16, [.ref ms, .int 0, .ref ju, .ref li, .ref ct, .ref tg, .ref fw])), (fw, .inr (6, [.int 0, .int sv, .int hv, .long nv, .ref fo, .ref fu])), (fo, .inl (cI, 10, .inl f1)), (fu, .inl (cI, 10, .inl f2))]) (w1 := []) hP hD [] [0, 1, 2, 3] rfl rfl (by decide) (by decide) hk1 hFc hP1 hD1
      generalize H1 = H at hP hS ⊢
      have hP : va_P (dC, dI) vwCl [(ya, .inr (16, [.ref ms, .int 0, .ref ju, .ref li, .ref ct, .ref tg, .ref fw])), (fw, .inr (6, [.int 0, .int sv, .int hv, .long nv, .ref fo, .ref fu])), (fo, .inl (cI, 10, .inl f1)), (fu, .inl (cI, 10, .inl f2))] H := hP
      have hD : va_D A [(ya, .inr (16, [.ref ms, .int 0, .ref ju, .ref li, .ref ct, .ref tg, .ref fw])), (fw, .inr (6, [.int 0, .int sv, .int hv, .long nv, .ref fo, .ref fu])), (fo, .inl (cI, 10, .inl f1)), (fu, .inl (cI, 10, .inl f2))] := hD
      refine W.widen (k := 1) (n := 6) (Nat.le_of_ble_eq_true rfl) (Nat.le_of_ble_eq_true rfl) ?_
      refine lv_aload_n hx hb dX11_fraction_30 rfl (lv_at hl 0 rfl) ?_
      refine va_get (D := (dC, dI)) (ci := 16) (v := .ref fw) (C := RX11) (T := TX11) (N := 7) hx hb hts iWX11 hown hK hP 0 rfl rfl 6 (by decide) (hts (.fieldLink RX11 50 "Beaverhall" "fractions" "LBeaverhall$FractionWalk;") (by decide +kernel)) (fun _ h9 => h9) rfl dX11_fraction_31 ?_
      refine va_get (D := (dC, dI)) (ci := 6) (v := .int 0) (C := RX1) (T := TX1) (N := 6) hx hb hts iWX1 hown hK hP 1 rfl rfl 0 (by decide) (hts (.fieldLink RX11 275 "Beaverhall$FractionWalk" "size" "I") (by decide +kernel)) (fun _ h9 => h9) rfl dX11_fraction_34 ?_
      refine lv_bipush (v := 10) hx hb dX11_fraction_37 (by decide) ?_
      refine lv_icmp_lt (tgt := 50) hx hb dX11_fraction_39 (by decide) (fun c39_16 => ?_) (fun c39_16 => ?_)
      · refine lv_aload_n hx hb dX11_fraction_50 rfl (lv_at hl 0 rfl) ?_
        refine va_get (D := (dC, dI)) (ci := 16) (v := .ref fw) (C := RX11) (T := TX11) (N := 7) hx hb hts iWX11 hown hK hP 0 rfl rfl 6 (by decide) (hts (.fieldLink RX11 50 "Beaverhall" "fractions" "LBeaverhall$FractionWalk;") (by decide +kernel)) (fun _ h9 => h9) rfl dX11_fraction_51 ?_
        refine lv_iload_n hx hb dX11_fraction_54 rfl (lv_at hl 1 rfl) ?_
        refine lv_iload_n hx hb dX11_fraction_55 rfl (lv_at hl 2 rfl) ?_
        have hPc := hP.sub (ws' := [(fw, .inr (6, [.int 0, .int sv, .int hv, .long nv, .ref fo, .ref fu])), (fo, .inl (cI, 10, .inl f1)), (fu, .inl (cI, 10, .inl f2))]) [1, 2, 3] rfl
        have hDc := hD.sub (ws' := [(fw, .inr (6, [.int 0, .int sv, .int hv, .long nv, .ref fo, .ref fu])), (fo, .inl (cI, 10, .inl f1)), (fu, .inl (cI, 10, .inl f2))]) [1, 2, 3] (by decide) rfl
        have hKc := hK.sub (tys' := [(cI, .int)]) [0] rfl
        have hFc := va_free (wc := [(fw, .inr (6, [.int 0, .int sv, .int hv, .long nv, .ref fo, .ref fu])), (fo, .inl (cI, 10, .inl f1)), (fu, .inl (cI, 10, .inl f2))]) hD hS hA [1, 2, 3] rfl
        refine va_callv (va_runV (As := [.int a1, .int a2]) (rest := []) ⟨hx, hb, hml, hown, hts⟩ (c_X1_add l dC dI cI fw fo fu sv hv nv f1 f2 a1 a2 (Int32.lt_of_lt_of_le (by decide) hn_7.1) H.size) (cwV 2 hts gX11_fraction_X1_add rfl rfl rfl (by decide +kernel) ⟨Nat.le_of_ble_eq_true rfl, Nat.le_of_ble_eq_true rfl⟩) (pcV hPc hDc hKc hN (ci := 6) (q0 := 0) rfl rfl) rfl rfl hl.1 rfl (lv_room (Nat.le_of_ble_eq_true rfl)) dX11_fraction_56 ⟨Nat.le_of_ble_eq_true rfl, Nat.le_of_ble_eq_true rfl⟩) hS (fun q _ h => hFc q h) hFc (fun u t H1 locs ht hvm hw_17 hB hz1 hk1 hS => ?_)
        obtain ⟨hP1, hK1, hD1⟩ := hB
        rw [ht] at hP1
        try dsimp only at hw_17
        obtain ⟨hP, hD⟩ := va_join (wr := [(ya, .inr (16, [.ref ms, .int 0, .ref ju, .ref li, .ref ct, .ref tg, .ref fw]))]) (w1 := [(fw, .inr (6, [.int 1, .int sv, .int hv, .long nv, .ref fo, .ref fu]))]) hP hD [1, 2, 3] [0] rfl rfl (by decide) (by decide) hk1 hFc hP1 hD1
        generalize H1 = H at hP hS ⊢
        have hP : va_P (dC, dI) vwCl [(ya, .inr (16, [.ref ms, .int 0, .ref ju, .ref li, .ref ct, .ref tg, .ref fw])), (fw, .inr (6, [.int 1, .int sv, .int hv, .long nv, .ref fo, .ref fu]))] H := hP
        have hD : va_D A [(ya, .inr (16, [.ref ms, .int 0, .ref ju, .ref li, .ref ct, .ref tg, .ref fw])), (fw, .inr (6, [.int 1, .int sv, .int hv, .long nv, .ref fo, .ref fu]))] := hD
        refine lv_aload_n hx hb dX11_fraction_59 rfl (lv_at hl 0 rfl) ?_
        refine va_get (D := (dC, dI)) (ci := 16) (v := .ref fw) (C := RX11) (T := TX11) (N := 7) hx hb hts iWX11 hown hK hP 0 rfl rfl 6 (by decide) (hts (.fieldLink RX11 50 "Beaverhall" "fractions" "LBeaverhall$FractionWalk;") (by decide +kernel)) (fun _ h9 => h9) rfl dX11_fraction_60 ?_
        refine va_get (D := (dC, dI)) (ci := 6) (v := .int 1) (C := RX1) (T := TX1) (N := 6) hx hb hts iWX1 hown hK hP 1 rfl rfl 0 (by decide) (hts (.fieldLink RX11 275 "Beaverhall$FractionWalk" "size" "I") (by decide +kernel)) (fun _ h9 => h9) rfl dX11_fraction_63 ?_
        refine vx_ret ?_
        have hP9 := hP.sub (ws' := []) [] rfl
        have hD9 := hD.sub (ws' := []) [] (by decide) rfl
        have hK9 := hK.sub (tys' := [(cI, .int)]) [0] rfl
        exact W.iret (v := 1) hx hb hr (fun t ht hW => ⟨⟨1, (), rfl, ⟨rfl, hn_7, hn_14⟩, ⟨by rw [ht]; exact hP9, va_K.moved hW.alike hK9, hD9⟩⟩, hS.F ht⟩) hS.2.2 dX11_fraction_66
      · exact (c39_16 (by decide)).elim

set_option maxHeartbeats 4000000 in
set_option maxRecDepth 100000 in
/-- X11_unwalk -/
theorem c_X11_unwalk (l : Launch) (hfl : l.stackTraces = false) (dC : Nat → ClassId) (dI : Nat → Nat → Nat) (ya ms ju li ct tg fw : Nat) (fo fu : Nat) (sv hv : Int32) (nv : Int64) (sz : Nat) : vx_Met l yX11_unwalk wsX11_unwalk ({ frames := 0, cells := 0, slots := 0, locals := 0 }) (va_Pc [.ref ya] (cPCz (zX) dC dI [(ya, .inr (16, [.ref ms, .int 0, .ref ju, .ref li, .ref ct, .ref tg, .ref fw])), (fw, .inr (6, [.int 0, .int sv, .int hv, .long nv, .ref fo, .ref fu]))] [] sz)) (va_Qi (fun (r : Int32) (u : Unit) => r = 0) (fun (u : Unit) t => cQB dC dI [] [] (va_A [(ya, .inr (16, [.ref ms, .int 0, .ref ju, .ref li, .ref ct, .ref tg, .ref fw])), (fw, .inr (6, [.int 0, .int sv, .int hv, .long nv, .ref fo, .ref fu]))] sz) t) (va_A [(ya, .inr (16, [.ref ms, .int 0, .ref ju, .ref li, .ref ct, .ref tg, .ref fw])), (fw, .inr (6, [.int 0, .int sv, .int hv, .long nv, .ref fo, .ref fu]))] sz)) (vx_X (fun (_ : Unit) => True) (fun (E9 : String) (_ : Unit) (_ : State) => False) (va_A [(ya, .inr (16, [.ref ms, .int 0, .ref ju, .ref li, .ref ct, .ref tg, .ref fw])), (fw, .inr (6, [.int 0, .int sv, .int hv, .long nv, .ref fo, .ref fu]))] sz)) 0 0 (va_A [(ya, .inr (16, [.ref ms, .int 0, .ref ju, .ref li, .ref ct, .ref tg, .ref fw])), (fw, .inr (6, [.int 0, .int sv, .int hv, .long nv, .ref fo, .ref fu]))] sz) := by
  refine vx_ofW (cc := cX11_unwalk) (maxL := 2) (ret := (some .int)) (by decide) rfl ?_
  intro p e s m args below meth c s₁ B hml hxt hv
  obtain ⟨rfl, ⟨hsz, hP, hK, hD0, hN⟩, hZ⟩ := hv
  have hx := B.exec
  have hb := B.bytes
  have hr := B.returns
  have hts := atoms_spec (ws := wsX11_unwalk) B.pre
  have hown : s.vm.findClass RX11 = some m.cls := findClass_of_methodNamed B.named
  have hlocks := B.notSynchronized
  subst hsz
  have hD := hD0.self (sz := s.heap.size)
  generalize hAe : va_A [(ya, .inr (16, [.ref ms, .int 0, .ref ju, .ref li, .ref ct, .ref tg, .ref fw])), (fw, .inr (6, [.int 0, .int sv, .int hv, .long nv, .ref fo, .ref fu]))] s.heap.size = A at hD hZ ⊢
  have hA : ∀ q : Nat, s.heap.size ≤ q → A q := fun q h => by rw [← hAe]; exact Or.inr h
  have hS : va_S A s.heap s.heap [] := va_S.rf
  have hP : va_P (dC, dI) vwCl [(ya, .inr (16, [.ref ms, .int 0, .ref ju, .ref li, .ref ct, .ref tg, .ref fw])), (fw, .inr (6, [.int 0, .int sv, .int hv, .long nv, .ref fo, .ref fu]))] s.heap := hP
  have hD : va_D A [(ya, .inr (16, [.ref ms, .int 0, .ref ju, .ref li, .ref ct, .ref tg, .ref fw])), (fw, .inr (6, [.int 0, .int sv, .int hv, .long nv, .ref fo, .ref fu]))] := hD
  have hl := lv_entry ([.ref ya]) (n := 2) (Nat.le_of_ble_eq_true rfl)
  rw [lg_entry_eq]
  generalize (lg_sl ([.ref ya]) ++ List.replicate (2 - (lg_sl ([.ref ya])).length) Slot.unset).toArray = ls at hl ⊢
  have hl : lv_has ls 2 [(0, .ref ya)] := hl
  have iWX1 : ∀ w ∈ u_ws RX1 TX1 6, w ∈ wsX11_unwalk := by decide +kernel
  have iWX11 : ∀ w ∈ u_ws RX11 TX11 7, w ∈ wsX11_unwalk := by decide +kernel
  refine lv_aload_n hx hb dX11_unwalk_0 rfl (lv_at hl 0 rfl) ?_
  refine va_get (D := (dC, dI)) (ci := 16) (v := .ref fw) (C := RX11) (T := TX11) (N := 7) hx hb hts iWX11 hown hK hP 0 rfl rfl 6 (by decide) (hts (.fieldLink RX11 50 "Beaverhall" "fractions" "LBeaverhall$FractionWalk;") (by decide +kernel)) (fun _ h9 => h9) rfl dX11_unwalk_1 ?_
  refine va_get (D := (dC, dI)) (ci := 6) (v := .int 0) (C := RX1) (T := TX1) (N := 6) hx hb hts iWX1 hown hK hP 1 rfl rfl 0 (by decide) (hts (.fieldLink RX11 275 "Beaverhall$FractionWalk" "size" "I") (by decide +kernel)) (fun _ h9 => h9) rfl dX11_unwalk_4 ?_
  refine lv_istore_n (lv' := [(1, .int 0), (0, .ref ya)]) hx hb dX11_unwalk_7 rfl hl (by decide) rfl (fun ls hl => ?_)
  refine lv_aload_n hx hb dX11_unwalk_8 rfl (lv_at hl 1 rfl) ?_
  refine va_get (D := (dC, dI)) (ci := 16) (v := .ref fw) (C := RX11) (T := TX11) (N := 7) hx hb hts iWX11 hown hK hP 0 rfl rfl 6 (by decide) (hts (.fieldLink RX11 50 "Beaverhall" "fractions" "LBeaverhall$FractionWalk;") (by decide +kernel)) (fun _ h9 => h9) rfl dX11_unwalk_9 ?_
  refine lv_iconst (v := 0) hx hb dX11_unwalk_12 (by decide) ?_
  refine va_put (D := (dC, dI)) (ci := 6) (v := .int 0) (ty := .int) (C := RX1) (T := TX1) (N := 6) hx hb hts iWX1 tyX1 tyX1_ok nmX1 hown hK hP hD hS 1 rfl rfl 0 (by decide) (hts (.fieldLink RX11 275 "Beaverhall$FractionWalk" "size" "I") (by decide +kernel)) (fun _ h9 => h9) rfl (by decide +kernel) rfl rfl (Nat.le_of_ble_eq_true rfl) dX11_unwalk_13 (fun H locs hP hD hS => ?_)
  have hP : va_P (dC, dI) vwCl [(ya, .inr (16, [.ref ms, .int 0, .ref ju, .ref li, .ref ct, .ref tg, .ref fw])), (fw, .inr (6, [.int 0, .int sv, .int hv, .long nv, .ref fo, .ref fu]))] H := hP
  have hD : va_D A [(ya, .inr (16, [.ref ms, .int 0, .ref ju, .ref li, .ref ct, .ref tg, .ref fw])), (fw, .inr (6, [.int 0, .int sv, .int hv, .long nv, .ref fo, .ref fu]))] := hD
  refine lv_iload_n hx hb dX11_unwalk_16 rfl (lv_at hl 0 rfl) ?_
  refine vx_ret ?_
  have hP9 := hP.sub (ws' := []) [] rfl
  have hD9 := hD.sub (ws' := []) [] (by decide) rfl
  have hK9 := hK.sub (tys' := []) [] rfl
  exact W.iret (v := 0) hx hb hr (fun t ht hW => ⟨⟨0, (), rfl, rfl, ⟨by rw [ht]; exact hP9, va_K.moved hW.alike hK9, hD9⟩⟩, hS.F ht⟩) hS.2.2 dX11_unwalk_17

set_option maxHeartbeats 4000000 in
set_option maxRecDepth 100000 in
/-- X11_walk -/
theorem c_X11_walk (l : Launch) (hfl : l.stackTraces = false) (dC : Nat → ClassId) (dI : Nat → Nat → Nat) (cI : ClassId) (ya ms ju li ct tg fw : Nat) (fo fu : Nat) (sv hv : Int32) (nv : Int64) (f1 f2 : Nat → Int32) (a1 : Int64) (a2 : Int32) (sz : Nat) : vx_Met l yX11_walk wsX11_walk ({ frames := 7, cells := 2, slots := 12, locals := 120 }) (va_Pc [.ref ya, .long a1, .int a2] (cPCz (zX) dC dI [(ya, .inr (16, [.ref ms, .int 0, .ref ju, .ref li, .ref ct, .ref tg, .ref fw])), (fw, .inr (6, [.int 0, .int sv, .int hv, .long nv, .ref fo, .ref fu])), (fo, .inl (cI, 10, .inl f1)), (fu, .inl (cI, 10, .inl f2))] [(cI, .int)] sz)) (va_Ql (fun (r : Int64) (u : Unit) => r = a1 ∧ pWalk a1 a2) (fun (u : Unit) t => cQB dC dI [] [(cI, .int)] (va_A [(ya, .inr (16, [.ref ms, .int 0, .ref ju, .ref li, .ref ct, .ref tg, .ref fw])), (fw, .inr (6, [.int 0, .int sv, .int hv, .long nv, .ref fo, .ref fu])), (fo, .inl (cI, 10, .inl f1)), (fu, .inl (cI, 10, .inl f2))] sz) t) (va_A [(ya, .inr (16, [.ref ms, .int 0, .ref ju, .ref li, .ref ct, .ref tg, .ref fw])), (fw, .inr (6, [.int 0, .int sv, .int hv, .long nv, .ref fo, .ref fu])), (fo, .inl (cI, 10, .inl f1)), (fu, .inl (cI, 10, .inl f2))] sz)) (vx_X (fun (_ : Unit) => True) (fun (E9 : String) (_ : Unit) (_ : State) => E9 = "java/lang/IllegalArgumentException" ∧ ¬ pWalk a1 a2) (va_A [(ya, .inr (16, [.ref ms, .int 0, .ref ju, .ref li, .ref ct, .ref tg, .ref fw])), (fw, .inr (6, [.int 0, .int sv, .int hv, .long nv, .ref fo, .ref fu])), (fo, .inl (cI, 10, .inl f1)), (fu, .inl (cI, 10, .inl f2))] sz)) 2 12 (va_A [(ya, .inr (16, [.ref ms, .int 0, .ref ju, .ref li, .ref ct, .ref tg, .ref fw])), (fw, .inr (6, [.int 0, .int sv, .int hv, .long nv, .ref fo, .ref fu])), (fo, .inl (cI, 10, .inl f1)), (fu, .inl (cI, 10, .inl f2))] sz) := by
  refine vx_ofW (cc := cX11_walk) (maxL := 4) (ret := (some .long)) (by decide) rfl ?_
  intro p e s m args below meth c s₁ B hml hxt hv
  obtain ⟨rfl, ⟨hsz, hP, hK, hD0, hN⟩, hZ⟩ := hv
  have hx := B.exec
  have hb := B.bytes
  have hr := B.returns
  have hts := atoms_spec (ws := wsX11_walk) B.pre
  have hown : s.vm.findClass RX11 = some m.cls := findClass_of_methodNamed B.named
  have hlocks := B.notSynchronized
  subst hsz
  have hD := hD0.self (sz := s.heap.size)
  generalize hAe : va_A [(ya, .inr (16, [.ref ms, .int 0, .ref ju, .ref li, .ref ct, .ref tg, .ref fw])), (fw, .inr (6, [.int 0, .int sv, .int hv, .long nv, .ref fo, .ref fu])), (fo, .inl (cI, 10, .inl f1)), (fu, .inl (cI, 10, .inl f2))] s.heap.size = A at hD hZ ⊢
  have hA : ∀ q : Nat, s.heap.size ≤ q → A q := fun q h => by rw [← hAe]; exact Or.inr h
  have hS : va_S A s.heap s.heap [] := va_S.rf
  have hP : va_P (dC, dI) vwCl [(ya, .inr (16, [.ref ms, .int 0, .ref ju, .ref li, .ref ct, .ref tg, .ref fw])), (fw, .inr (6, [.int 0, .int sv, .int hv, .long nv, .ref fo, .ref fu])), (fo, .inl (cI, 10, .inl f1)), (fu, .inl (cI, 10, .inl f2))] s.heap := hP
  have hD : va_D A [(ya, .inr (16, [.ref ms, .int 0, .ref ju, .ref li, .ref ct, .ref tg, .ref fw])), (fw, .inr (6, [.int 0, .int sv, .int hv, .long nv, .ref fo, .ref fu])), (fo, .inl (cI, 10, .inl f1)), (fu, .inl (cI, 10, .inl f2))] := hD
  have hl := lv_entry ([.ref ya, .long a1, .int a2]) (n := 4) (Nat.le_of_ble_eq_true rfl)
  rw [lg_entry_eq]
  generalize (lg_sl ([.ref ya, .long a1, .int a2]) ++ List.replicate (4 - (lg_sl ([.ref ya, .long a1, .int a2])).length) Slot.unset).toArray = ls at hl ⊢
  have hl : lv_has ls 4 [(0, .ref ya), (1, .long a1), (3, .int a2)] := hl
  have iWX11 : ∀ w ∈ u_ws RX11 TX11 7, w ∈ wsX11_walk := by decide +kernel
  refine lv_lload_n hx hb dX11_walk_0 rfl (lv_at hl 1 rfl) ?_
  refine lv_lconst (v := 1) hx hb dX11_walk_1 (by decide) ?_
  refine W.lcmp hx hb dX11_walk_2 ?_
  refine lv_if_lt (tgt := 18) hx hb dX11_walk_3 (by decide) (fun c3_1 => ?_) (fun c3_1 => ?_)
  · refine lv_iconst (v := 0) hx hb dX11_walk_18 (by decide) ?_
    have hPc := hP.sub (ws' := []) [] rfl
    have hDc := hD.sub (ws' := []) [] (by decide) rfl
    have hKc := hK.sub (tys' := []) [] rfl
    have hFc := va_free (wc := []) hD hS hA [] rfl
    refine vx_callv (vx_runS (As := [.int 0]) (rest := []) ⟨hx, hb, hml, hown, hts⟩ (c_X11_demand l hfl dC dI 0 s.heap.size) (va_cwS 1 hts gX11_walk_X11_demand rfl rfl rfl (by decide +kernel) ⟨Nat.le_of_ble_eq_true rfl, Nat.le_of_ble_eq_true rfl⟩) (pcSz (zX_ok) hPc hDc hKc hN hZ hS hFc) rfl rfl hl.1 rfl (lv_room (Nat.le_of_ble_eq_true rfl)) dX11_walk_19 ⟨Nat.le_of_ble_eq_true rfl, Nat.le_of_ble_eq_true rfl⟩) hS (fun q _ h => hFc q h) hFc (fun q _ h => hFc q h) (fun E9 ce9 q9 u9 t9 H9 locs9 ht9 hvm9 hp9 hE9 hz9 hk9 hS9 hc9 hv9 hcl9 => vx_out (fun x h => (hxt x h).elim) hlocks hc9 hv9 hcl9 (fun t1 ht1 ha1 => ⟨(), trivial, ⟨hE9.1, fun h => absurd ((lg_cmp_lt _ _).mp c3_1) (Int64.not_lt.mpr h.1.1)⟩, hS9.F ht1⟩) hS9.2.2 (Nat.le_of_ble_eq_true rfl) (Nat.le_of_ble_eq_true rfl)) (fun u t H1 locs ht hvm hw_2 hB hz1 hk1 hS => ?_)
    obtain ⟨hP1, hK1, hD1⟩ := hB
    rw [ht] at hP1
    try dsimp only at hw_2
    obtain ⟨hP, hD⟩ := va_join (wr := [(ya, .inr (16, [.ref ms, .int 0, .ref ju, .ref li, .ref ct, .ref tg, .ref fw])), (fw, .inr (6, [.int 0, .int sv, .int hv, .long nv, .ref fo, .ref fu])), (fo, .inl (cI, 10, .inl f1)), (fu, .inl (cI, 10, .inl f2))]) (w1 := []) hP hD [] [0, 1, 2, 3] rfl rfl (by decide) (by decide) hk1 hFc hP1 hD1
    generalize H1 = H at hP hS ⊢
    have hP : va_P (dC, dI) vwCl [(ya, .inr (16, [.ref ms, .int 0, .ref ju, .ref li, .ref ct, .ref tg, .ref fw])), (fw, .inr (6, [.int 0, .int sv, .int hv, .long nv, .ref fo, .ref fu])), (fo, .inl (cI, 10, .inl f1)), (fu, .inl (cI, 10, .inl f2))] H := hP
    have hD : va_D A [(ya, .inr (16, [.ref ms, .int 0, .ref ju, .ref li, .ref ct, .ref tg, .ref fw])), (fw, .inr (6, [.int 0, .int sv, .int hv, .long nv, .ref fo, .ref fu])), (fo, .inl (cI, 10, .inl f1)), (fu, .inl (cI, 10, .inl f2))] := hD
    refine W.widen (k := 1) (n := 6) (Nat.le_of_ble_eq_true rfl) (Nat.le_of_ble_eq_true rfl) ?_
    exact absurd rfl hw_2
  · refine lv_lload_n hx hb dX11_walk_6 rfl (lv_at hl 1 rfl) ?_
    refine lv_ldc2 (v := (1000000000)) hx hb hown (hts (.constantLong RX11 278 (1000000000)) (by decide +kernel)) dX11_walk_7 ?_
    refine W.lcmp hx hb dX11_walk_10 ?_
    refine lv_if_gt (tgt := 18) hx hb dX11_walk_11 (by decide) (fun c11_3 => ?_) (fun c11_3 => ?_)
    · refine lv_iconst (v := 0) hx hb dX11_walk_18 (by decide) ?_
      have hPc := hP.sub (ws' := []) [] rfl
      have hDc := hD.sub (ws' := []) [] (by decide) rfl
      have hKc := hK.sub (tys' := []) [] rfl
      have hFc := va_free (wc := []) hD hS hA [] rfl
      refine vx_callv (vx_runS (As := [.int 0]) (rest := []) ⟨hx, hb, hml, hown, hts⟩ (c_X11_demand l hfl dC dI 0 s.heap.size) (va_cwS 1 hts gX11_walk_X11_demand rfl rfl rfl (by decide +kernel) ⟨Nat.le_of_ble_eq_true rfl, Nat.le_of_ble_eq_true rfl⟩) (pcSz (zX_ok) hPc hDc hKc hN hZ hS hFc) rfl rfl hl.1 rfl (lv_room (Nat.le_of_ble_eq_true rfl)) dX11_walk_19 ⟨Nat.le_of_ble_eq_true rfl, Nat.le_of_ble_eq_true rfl⟩) hS (fun q _ h => hFc q h) hFc (fun q _ h => hFc q h) (fun E9 ce9 q9 u9 t9 H9 locs9 ht9 hvm9 hp9 hE9 hz9 hk9 hS9 hc9 hv9 hcl9 => vx_out (fun x h => (hxt x h).elim) hlocks hc9 hv9 hcl9 (fun t1 ht1 ha1 => ⟨(), trivial, ⟨hE9.1, fun h => absurd ((lg_cmp_gt _ _).mp c11_3) (Int64.not_lt.mpr h.1.2)⟩, hS9.F ht1⟩) hS9.2.2 (Nat.le_of_ble_eq_true rfl) (Nat.le_of_ble_eq_true rfl)) (fun u t H1 locs ht hvm hw_4 hB hz1 hk1 hS => ?_)
      obtain ⟨hP1, hK1, hD1⟩ := hB
      rw [ht] at hP1
      try dsimp only at hw_4
      obtain ⟨hP, hD⟩ := va_join (wr := [(ya, .inr (16, [.ref ms, .int 0, .ref ju, .ref li, .ref ct, .ref tg, .ref fw])), (fw, .inr (6, [.int 0, .int sv, .int hv, .long nv, .ref fo, .ref fu])), (fo, .inl (cI, 10, .inl f1)), (fu, .inl (cI, 10, .inl f2))]) (w1 := []) hP hD [] [0, 1, 2, 3] rfl rfl (by decide) (by decide) hk1 hFc hP1 hD1
      generalize H1 = H at hP hS ⊢
      have hP : va_P (dC, dI) vwCl [(ya, .inr (16, [.ref ms, .int 0, .ref ju, .ref li, .ref ct, .ref tg, .ref fw])), (fw, .inr (6, [.int 0, .int sv, .int hv, .long nv, .ref fo, .ref fu])), (fo, .inl (cI, 10, .inl f1)), (fu, .inl (cI, 10, .inl f2))] H := hP
      have hD : va_D A [(ya, .inr (16, [.ref ms, .int 0, .ref ju, .ref li, .ref ct, .ref tg, .ref fw])), (fw, .inr (6, [.int 0, .int sv, .int hv, .long nv, .ref fo, .ref fu])), (fo, .inl (cI, 10, .inl f1)), (fu, .inl (cI, 10, .inl f2))] := hD
      refine W.widen (k := 1) (n := 6) (Nat.le_of_ble_eq_true rfl) (Nat.le_of_ble_eq_true rfl) ?_
      exact absurd rfl hw_4
    · refine lv_iconst (v := 1) hx hb dX11_walk_14 (by decide) ?_
      refine lv_goto (tgt := 19) hx hb dX11_walk_15 (by decide) ?_
      have hPc := hP.sub (ws' := []) [] rfl
      have hDc := hD.sub (ws' := []) [] (by decide) rfl
      have hKc := hK.sub (tys' := []) [] rfl
      have hFc := va_free (wc := []) hD hS hA [] rfl
      refine vx_callv (vx_runS (As := [.int 1]) (rest := []) ⟨hx, hb, hml, hown, hts⟩ (c_X11_demand l hfl dC dI 1 s.heap.size) (va_cwS 1 hts gX11_walk_X11_demand rfl rfl rfl (by decide +kernel) ⟨Nat.le_of_ble_eq_true rfl, Nat.le_of_ble_eq_true rfl⟩) (pcSz (zX_ok) hPc hDc hKc hN hZ hS hFc) rfl rfl hl.1 rfl (lv_room (Nat.le_of_ble_eq_true rfl)) dX11_walk_19 ⟨Nat.le_of_ble_eq_true rfl, Nat.le_of_ble_eq_true rfl⟩) hS (fun q _ h => hFc q h) hFc (fun q _ h => hFc q h) (fun E9 ce9 q9 u9 t9 H9 locs9 ht9 hvm9 hp9 hE9 hz9 hk9 hS9 hc9 hv9 hcl9 => absurd hE9.2 (by decide)) (fun u t H1 locs ht hvm hw_5 hB hz1 hk1 hS => ?_)
      obtain ⟨hP1, hK1, hD1⟩ := hB
      rw [ht] at hP1
      try dsimp only at hw_5
      obtain ⟨hP, hD⟩ := va_join (wr := [(ya, .inr (16, [.ref ms, .int 0, .ref ju, .ref li, .ref ct, .ref tg, .ref fw])), (fw, .inr (6, [.int 0, .int sv, .int hv, .long nv, .ref fo, .ref fu])), (fo, .inl (cI, 10, .inl f1)), (fu, .inl (cI, 10, .inl f2))]) (w1 := []) hP hD [] [0, 1, 2, 3] rfl rfl (by decide) (by decide) hk1 hFc hP1 hD1
      generalize H1 = H at hP hS ⊢
      have hP : va_P (dC, dI) vwCl [(ya, .inr (16, [.ref ms, .int 0, .ref ju, .ref li, .ref ct, .ref tg, .ref fw])), (fw, .inr (6, [.int 0, .int sv, .int hv, .long nv, .ref fo, .ref fu])), (fo, .inl (cI, 10, .inl f1)), (fu, .inl (cI, 10, .inl f2))] H := hP
      have hD : va_D A [(ya, .inr (16, [.ref ms, .int 0, .ref ju, .ref li, .ref ct, .ref tg, .ref fw])), (fw, .inr (6, [.int 0, .int sv, .int hv, .long nv, .ref fo, .ref fu])), (fo, .inl (cI, 10, .inl f1)), (fu, .inl (cI, 10, .inl f2))] := hD
      refine W.widen (k := 1) (n := 6) (Nat.le_of_ble_eq_true rfl) (Nat.le_of_ble_eq_true rfl) ?_
      refine lv_iload_n hx hb dX11_walk_22 rfl (lv_at hl 2 rfl) ?_
      refine lv_iconst (v := 0) hx hb dX11_walk_23 (by decide) ?_
      refine lv_sipush (v := 5000) hx hb dX11_walk_24 (by decide) ?_
      have hPc := hP.sub (ws' := []) [] rfl
      have hDc := hD.sub (ws' := []) [] (by decide) rfl
      have hKc := hK.sub (tys' := []) [] rfl
      have hFc := va_free (wc := []) hD hS hA [] rfl
      refine va_calli (va_runS (As := [.int a2, .int 0, .int 5000]) (rest := []) ⟨hx, hb, hml, hown, hts⟩ (c_X11_isWithin l dC dI a2 0 5000 H.size) (va_cwS 3 hts gX11_walk_X11_isWithin rfl rfl rfl (by decide +kernel) ⟨Nat.le_of_ble_eq_true rfl, Nat.le_of_ble_eq_true rfl⟩) (pcS hPc hDc hKc hN) rfl rfl hl.1 rfl (lv_room (Nat.le_of_ble_eq_true rfl)) dX11_walk_27 ⟨Nat.le_of_ble_eq_true rfl, Nat.le_of_ble_eq_true rfl⟩) hS (fun q _ h => hFc q h) hFc (fun r_6 u t H1 locs ht hvm hw_7 hB hz1 hk1 hS => ?_)
      obtain ⟨hP1, hK1, hD1⟩ := hB
      rw [ht] at hP1
      try dsimp only at hw_7
      obtain ⟨hP, hD⟩ := va_join (wr := [(ya, .inr (16, [.ref ms, .int 0, .ref ju, .ref li, .ref ct, .ref tg, .ref fw])), (fw, .inr (6, [.int 0, .int sv, .int hv, .long nv, .ref fo, .ref fu])), (fo, .inl (cI, 10, .inl f1)), (fu, .inl (cI, 10, .inl f2))]) (w1 := []) hP hD [] [0, 1, 2, 3] rfl rfl (by decide) (by decide) hk1 hFc hP1 hD1
      generalize H1 = H at hP hS ⊢
      have hP : va_P (dC, dI) vwCl [(ya, .inr (16, [.ref ms, .int 0, .ref ju, .ref li, .ref ct, .ref tg, .ref fw])), (fw, .inr (6, [.int 0, .int sv, .int hv, .long nv, .ref fo, .ref fu])), (fo, .inl (cI, 10, .inl f1)), (fu, .inl (cI, 10, .inl f2))] H := hP
      have hD : va_D A [(ya, .inr (16, [.ref ms, .int 0, .ref ju, .ref li, .ref ct, .ref tg, .ref fw])), (fw, .inr (6, [.int 0, .int sv, .int hv, .long nv, .ref fo, .ref fu])), (fo, .inl (cI, 10, .inl f1)), (fu, .inl (cI, 10, .inl f2))] := hD
      have hq_8 : (r_6 = 1 ∧ 0 ≤ a2 ∧ a2 ≤ 5000) ∨ (r_6 = 0 ∧ ¬ (0 ≤ a2 ∧ a2 ≤ 5000)) := by rw [hw_7]; exact within_iff
      have hPc := hP.sub (ws' := []) [] rfl
      have hDc := hD.sub (ws' := []) [] (by decide) rfl
      have hKc := hK.sub (tys' := []) [] rfl
      have hFc := va_free (wc := []) hD hS hA [] rfl
      refine vx_callv (vx_runS (As := [.int r_6]) (rest := []) ⟨hx, hb, hml, hown, hts⟩ (c_X11_demand l hfl dC dI r_6 H.size) (va_cwS 1 hts gX11_walk_X11_demand rfl rfl rfl (by decide +kernel) ⟨Nat.le_of_ble_eq_true rfl, Nat.le_of_ble_eq_true rfl⟩) (pcSz (zX_ok) hPc hDc hKc hN hZ hS hFc) rfl rfl hl.1 rfl (lv_room (Nat.le_of_ble_eq_true rfl)) dX11_walk_30 ⟨Nat.le_of_ble_eq_true rfl, Nat.le_of_ble_eq_true rfl⟩) hS (fun q _ h => hFc q h) hFc (fun q _ h => hFc q h) (fun E9 ce9 q9 u9 t9 H9 locs9 ht9 hvm9 hp9 hE9 hz9 hk9 hS9 hc9 hv9 hcl9 => vx_out (fun x h => (hxt x h).elim) hlocks hc9 hv9 hcl9 (fun t1 ht1 ha1 => ⟨(), trivial, ⟨hE9.1, fun h => (hq_8).elim (fun h9 => absurd (hE9.2.symm.trans h9.1) (by decide)) (fun h9 => h9.2 h.2)⟩, hS9.F ht1⟩) hS9.2.2 (Nat.le_of_ble_eq_true rfl) (Nat.le_of_ble_eq_true rfl)) (fun u t H1 locs ht hvm hw_9 hB hz1 hk1 hS => ?_)
      obtain ⟨hP1, hK1, hD1⟩ := hB
      rw [ht] at hP1
      try dsimp only at hw_9
      obtain ⟨hP, hD⟩ := va_join (wr := [(ya, .inr (16, [.ref ms, .int 0, .ref ju, .ref li, .ref ct, .ref tg, .ref fw])), (fw, .inr (6, [.int 0, .int sv, .int hv, .long nv, .ref fo, .ref fu])), (fo, .inl (cI, 10, .inl f1)), (fu, .inl (cI, 10, .inl f2))]) (w1 := []) hP hD [] [0, 1, 2, 3] rfl rfl (by decide) (by decide) hk1 hFc hP1 hD1
      generalize H1 = H at hP hS ⊢
      have hP : va_P (dC, dI) vwCl [(ya, .inr (16, [.ref ms, .int 0, .ref ju, .ref li, .ref ct, .ref tg, .ref fw])), (fw, .inr (6, [.int 0, .int sv, .int hv, .long nv, .ref fo, .ref fu])), (fo, .inl (cI, 10, .inl f1)), (fu, .inl (cI, 10, .inl f2))] H := hP
      have hD : va_D A [(ya, .inr (16, [.ref ms, .int 0, .ref ju, .ref li, .ref ct, .ref tg, .ref fw])), (fw, .inr (6, [.int 0, .int sv, .int hv, .long nv, .ref fo, .ref fu])), (fo, .inl (cI, 10, .inl f1)), (fu, .inl (cI, 10, .inl f2))] := hD
      refine W.widen (k := 2) (n := 12) (Nat.le_of_ble_eq_true rfl) (Nat.le_of_ble_eq_true rfl) ?_
      have hn_10 := (hq_8).elim (fun h => h.2) (fun h => absurd h.1 hw_9)
      refine lv_aload_n hx hb dX11_walk_33 rfl (lv_at hl 0 rfl) ?_
      refine va_get (D := (dC, dI)) (ci := 16) (v := .ref fw) (C := RX11) (T := TX11) (N := 7) hx hb hts iWX11 hown hK hP 0 rfl rfl 6 (by decide) (hts (.fieldLink RX11 50 "Beaverhall" "fractions" "LBeaverhall$FractionWalk;") (by decide +kernel)) (fun _ h9 => h9) rfl dX11_walk_34 ?_
      refine lv_lload_n hx hb dX11_walk_37 rfl (lv_at hl 1 rfl) ?_
      refine lv_iload_n hx hb dX11_walk_38 rfl (lv_at hl 2 rfl) ?_
      have hPc := hP.sub (ws' := [(fw, .inr (6, [.int 0, .int sv, .int hv, .long nv, .ref fo, .ref fu])), (fo, .inl (cI, 10, .inl f1)), (fu, .inl (cI, 10, .inl f2))]) [1, 2, 3] rfl
      have hDc := hD.sub (ws' := [(fw, .inr (6, [.int 0, .int sv, .int hv, .long nv, .ref fo, .ref fu])), (fo, .inl (cI, 10, .inl f1)), (fu, .inl (cI, 10, .inl f2))]) [1, 2, 3] (by decide) rfl
      have hKc := hK.sub (tys' := [(cI, .int)]) [0] rfl
      have hFc := va_free (wc := [(fw, .inr (6, [.int 0, .int sv, .int hv, .long nv, .ref fo, .ref fu])), (fo, .inl (cI, 10, .inl f1)), (fu, .inl (cI, 10, .inl f2))]) hD hS hA [1, 2, 3] rfl
      refine va_calll (va_runV (As := [.long a1, .int a2]) (rest := []) ⟨hx, hb, hml, hown, hts⟩ (c_X1_go l dC dI cI fw fo fu sv hv nv f1 f2 a1 a2 H.size) (cwV 2 hts gX11_walk_X1_go rfl rfl rfl (by decide +kernel) ⟨Nat.le_of_ble_eq_true rfl, Nat.le_of_ble_eq_true rfl⟩) (pcV hPc hDc hKc hN (ci := 6) (q0 := 0) rfl rfl) rfl rfl hl.1 rfl (lv_room (Nat.le_of_ble_eq_true rfl)) dX11_walk_39 ⟨Nat.le_of_ble_eq_true rfl, Nat.le_of_ble_eq_true rfl⟩) hS (fun q _ h => hFc q h) hFc (fun r_11 u t H1 locs ht hvm hw_12 hB hz1 hk1 hS => ?_)
      obtain ⟨hP1, hK1, hD1⟩ := hB
      rw [ht] at hP1
      try dsimp only at hw_12
      obtain ⟨hP, hD⟩ := va_join (wr := [(ya, .inr (16, [.ref ms, .int 0, .ref ju, .ref li, .ref ct, .ref tg, .ref fw]))]) (w1 := []) hP hD [1, 2, 3] [0] rfl rfl (by decide) (by decide) hk1 hFc hP1 hD1
      generalize H1 = H at hP hS ⊢
      have hP : va_P (dC, dI) vwCl [(ya, .inr (16, [.ref ms, .int 0, .ref ju, .ref li, .ref ct, .ref tg, .ref fw]))] H := hP
      have hD : va_D A [(ya, .inr (16, [.ref ms, .int 0, .ref ju, .ref li, .ref ct, .ref tg, .ref fw]))] := hD
      refine vx_ret ?_
      have hP9 := hP.sub (ws' := []) [] rfl
      have hD9 := hD.sub (ws' := []) [] (by decide) rfl
      have hK9 := hK.sub (tys' := [(cI, .int)]) [0] rfl
      exact W.lret (v := r_11) hx hb hr (fun t ht hW => ⟨⟨r_11, (), rfl, ⟨hw_12, ⟨Int64.not_lt.mp (mt (lg_cmp_lt _ _).mpr c3_1), Int64.not_lt.mp (mt (lg_cmp_gt _ _).mpr c11_3)⟩, hn_10⟩, ⟨by rw [ht]; exact hP9, va_K.moved hW.alike hK9, hD9⟩⟩, hS.F ht⟩) hS.2.2 dX11_walk_42

set_option maxHeartbeats 4000000 in
set_option maxRecDepth 100000 in
/-- X11_walked -/
theorem c_X11_walked (l : Launch) (hfl : l.stackTraces = false) (dC : Nat → ClassId) (dI : Nat → Nat → Nat) (ya ms ju li ct tg fw : Nat) (fo fu : Nat) (hv : Int32) (nv : Int64) (sz : Nat) : vx_Met l yX11_walked wsX11_walked ({ frames := 0, cells := 0, slots := 0, locals := 0 }) (va_Pc [.ref ya] (cPCz (zX) dC dI [(ya, .inr (16, [.ref ms, .int 0, .ref ju, .ref li, .ref ct, .ref tg, .ref fw])), (fw, .inr (6, [.int 0, .int 0, .int hv, .long nv, .ref fo, .ref fu]))] [] sz)) (va_Qi (fun (r : Int32) (u : Unit) => r = 0) (fun (u : Unit) t => cQB dC dI [] [] (va_A [(ya, .inr (16, [.ref ms, .int 0, .ref ju, .ref li, .ref ct, .ref tg, .ref fw])), (fw, .inr (6, [.int 0, .int 0, .int hv, .long nv, .ref fo, .ref fu]))] sz) t) (va_A [(ya, .inr (16, [.ref ms, .int 0, .ref ju, .ref li, .ref ct, .ref tg, .ref fw])), (fw, .inr (6, [.int 0, .int 0, .int hv, .long nv, .ref fo, .ref fu]))] sz)) (vx_X (fun (_ : Unit) => True) (fun (E9 : String) (_ : Unit) (_ : State) => False) (va_A [(ya, .inr (16, [.ref ms, .int 0, .ref ju, .ref li, .ref ct, .ref tg, .ref fw])), (fw, .inr (6, [.int 0, .int 0, .int hv, .long nv, .ref fo, .ref fu]))] sz)) 0 0 (va_A [(ya, .inr (16, [.ref ms, .int 0, .ref ju, .ref li, .ref ct, .ref tg, .ref fw])), (fw, .inr (6, [.int 0, .int 0, .int hv, .long nv, .ref fo, .ref fu]))] sz) := by
  refine vx_ofW (cc := cX11_walked) (maxL := 1) (ret := (some .int)) (by decide) rfl ?_
  intro p e s m args below meth c s₁ B hml hxt hv
  obtain ⟨rfl, ⟨hsz, hP, hK, hD0, hN⟩, hZ⟩ := hv
  have hx := B.exec
  have hb := B.bytes
  have hr := B.returns
  have hts := atoms_spec (ws := wsX11_walked) B.pre
  have hown : s.vm.findClass RX11 = some m.cls := findClass_of_methodNamed B.named
  have hlocks := B.notSynchronized
  subst hsz
  have hD := hD0.self (sz := s.heap.size)
  generalize hAe : va_A [(ya, .inr (16, [.ref ms, .int 0, .ref ju, .ref li, .ref ct, .ref tg, .ref fw])), (fw, .inr (6, [.int 0, .int 0, .int hv, .long nv, .ref fo, .ref fu]))] s.heap.size = A at hD hZ ⊢
  have hA : ∀ q : Nat, s.heap.size ≤ q → A q := fun q h => by rw [← hAe]; exact Or.inr h
  have hS : va_S A s.heap s.heap [] := va_S.rf
  have hP : va_P (dC, dI) vwCl [(ya, .inr (16, [.ref ms, .int 0, .ref ju, .ref li, .ref ct, .ref tg, .ref fw])), (fw, .inr (6, [.int 0, .int 0, .int hv, .long nv, .ref fo, .ref fu]))] s.heap := hP
  have hD : va_D A [(ya, .inr (16, [.ref ms, .int 0, .ref ju, .ref li, .ref ct, .ref tg, .ref fw])), (fw, .inr (6, [.int 0, .int 0, .int hv, .long nv, .ref fo, .ref fu]))] := hD
  have hl := lv_entry ([.ref ya]) (n := 1) (Nat.le_of_ble_eq_true rfl)
  rw [lg_entry_eq]
  generalize (lg_sl ([.ref ya]) ++ List.replicate (1 - (lg_sl ([.ref ya])).length) Slot.unset).toArray = ls at hl ⊢
  have hl : lv_has ls 1 [(0, .ref ya)] := hl
  have iWX1 : ∀ w ∈ u_ws RX1 TX1 6, w ∈ wsX11_walked := by decide +kernel
  have iWX11 : ∀ w ∈ u_ws RX11 TX11 7, w ∈ wsX11_walked := by decide +kernel
  refine lv_aload_n hx hb dX11_walked_0 rfl (lv_at hl 0 rfl) ?_
  refine va_get (D := (dC, dI)) (ci := 16) (v := .ref fw) (C := RX11) (T := TX11) (N := 7) hx hb hts iWX11 hown hK hP 0 rfl rfl 6 (by decide) (hts (.fieldLink RX11 50 "Beaverhall" "fractions" "LBeaverhall$FractionWalk;") (by decide +kernel)) (fun _ h9 => h9) rfl dX11_walked_1 ?_
  refine va_get (D := (dC, dI)) (ci := 6) (v := .int 0) (C := RX1) (T := TX1) (N := 6) hx hb hts iWX1 hown hK hP 1 rfl rfl 1 (by decide) (hts (.fieldLink RX11 283 "Beaverhall$FractionWalk" "steps" "I") (by decide +kernel)) (fun _ h9 => h9) rfl dX11_walked_4 ?_
  refine vx_ret ?_
  have hP9 := hP.sub (ws' := []) [] rfl
  have hD9 := hD.sub (ws' := []) [] (by decide) rfl
  have hK9 := hK.sub (tys' := []) [] rfl
  exact W.iret (v := 0) hx hb hr (fun t ht hW => ⟨⟨0, (), rfl, rfl, ⟨by rw [ht]; exact hP9, va_K.moved hW.alike hK9, hD9⟩⟩, hS.F ht⟩) hS.2.2 dX11_walked_7

set_option maxHeartbeats 4000000 in
set_option maxRecDepth 100000 in
/-- X11_hasWalked -/
theorem c_X11_hasWalked (l : Launch) (hfl : l.stackTraces = false) (dC : Nat → ClassId) (dI : Nat → Nat → Nat) (ya ms ju li ct tg fw : Nat) (fo fu : Nat) (sv : Int32) (nv : Int64) (sz : Nat) : vx_Met l yX11_hasWalked wsX11_hasWalked ({ frames := 0, cells := 0, slots := 0, locals := 0 }) (va_Pc [.ref ya] (cPCz (zX) dC dI [(ya, .inr (16, [.ref ms, .int 0, .ref ju, .ref li, .ref ct, .ref tg, .ref fw])), (fw, .inr (6, [.int 0, .int sv, .int 0, .long nv, .ref fo, .ref fu]))] [] sz)) (va_Qi (fun (r : Int32) (u : Unit) => r = 0) (fun (u : Unit) t => cQB dC dI [] [] (va_A [(ya, .inr (16, [.ref ms, .int 0, .ref ju, .ref li, .ref ct, .ref tg, .ref fw])), (fw, .inr (6, [.int 0, .int sv, .int 0, .long nv, .ref fo, .ref fu]))] sz) t) (va_A [(ya, .inr (16, [.ref ms, .int 0, .ref ju, .ref li, .ref ct, .ref tg, .ref fw])), (fw, .inr (6, [.int 0, .int sv, .int 0, .long nv, .ref fo, .ref fu]))] sz)) (vx_X (fun (_ : Unit) => True) (fun (E9 : String) (_ : Unit) (_ : State) => False) (va_A [(ya, .inr (16, [.ref ms, .int 0, .ref ju, .ref li, .ref ct, .ref tg, .ref fw])), (fw, .inr (6, [.int 0, .int sv, .int 0, .long nv, .ref fo, .ref fu]))] sz)) 0 0 (va_A [(ya, .inr (16, [.ref ms, .int 0, .ref ju, .ref li, .ref ct, .ref tg, .ref fw])), (fw, .inr (6, [.int 0, .int sv, .int 0, .long nv, .ref fo, .ref fu]))] sz) := by
  refine vx_ofW (cc := cX11_hasWalked) (maxL := 1) (ret := (some .boolean)) (by decide) rfl ?_
  intro p e s m args below meth c s₁ B hml hxt hv
  obtain ⟨rfl, ⟨hsz, hP, hK, hD0, hN⟩, hZ⟩ := hv
  have hx := B.exec
  have hb := B.bytes
  have hr := B.returns
  have hts := atoms_spec (ws := wsX11_hasWalked) B.pre
  have hown : s.vm.findClass RX11 = some m.cls := findClass_of_methodNamed B.named
  have hlocks := B.notSynchronized
  subst hsz
  have hD := hD0.self (sz := s.heap.size)
  generalize hAe : va_A [(ya, .inr (16, [.ref ms, .int 0, .ref ju, .ref li, .ref ct, .ref tg, .ref fw])), (fw, .inr (6, [.int 0, .int sv, .int 0, .long nv, .ref fo, .ref fu]))] s.heap.size = A at hD hZ ⊢
  have hA : ∀ q : Nat, s.heap.size ≤ q → A q := fun q h => by rw [← hAe]; exact Or.inr h
  have hS : va_S A s.heap s.heap [] := va_S.rf
  have hP : va_P (dC, dI) vwCl [(ya, .inr (16, [.ref ms, .int 0, .ref ju, .ref li, .ref ct, .ref tg, .ref fw])), (fw, .inr (6, [.int 0, .int sv, .int 0, .long nv, .ref fo, .ref fu]))] s.heap := hP
  have hD : va_D A [(ya, .inr (16, [.ref ms, .int 0, .ref ju, .ref li, .ref ct, .ref tg, .ref fw])), (fw, .inr (6, [.int 0, .int sv, .int 0, .long nv, .ref fo, .ref fu]))] := hD
  have hl := lv_entry ([.ref ya]) (n := 1) (Nat.le_of_ble_eq_true rfl)
  rw [lg_entry_eq]
  generalize (lg_sl ([.ref ya]) ++ List.replicate (1 - (lg_sl ([.ref ya])).length) Slot.unset).toArray = ls at hl ⊢
  have hl : lv_has ls 1 [(0, .ref ya)] := hl
  have iWX1 : ∀ w ∈ u_ws RX1 TX1 6, w ∈ wsX11_hasWalked := by decide +kernel
  have iWX11 : ∀ w ∈ u_ws RX11 TX11 7, w ∈ wsX11_hasWalked := by decide +kernel
  refine lv_aload_n hx hb dX11_hasWalked_0 rfl (lv_at hl 0 rfl) ?_
  refine va_get (D := (dC, dI)) (ci := 16) (v := .ref fw) (C := RX11) (T := TX11) (N := 7) hx hb hts iWX11 hown hK hP 0 rfl rfl 6 (by decide) (hts (.fieldLink RX11 50 "Beaverhall" "fractions" "LBeaverhall$FractionWalk;") (by decide +kernel)) (fun _ h9 => h9) rfl dX11_hasWalked_1 ?_
  refine va_get (D := (dC, dI)) (ci := 6) (v := .int 0) (C := RX1) (T := TX1) (N := 6) hx hb hts iWX1 hown hK hP 1 rfl rfl 2 (by decide) (hts (.fieldLink RX11 284 "Beaverhall$FractionWalk" "hasEnded" "Z") (by decide +kernel)) (fun _ h9 => h9) rfl dX11_hasWalked_4 ?_
  refine vx_ret ?_
  have hP9 := hP.sub (ws' := []) [] rfl
  have hD9 := hD.sub (ws' := []) [] (by decide) rfl
  have hK9 := hK.sub (tys' := []) [] rfl
  exact W.zret (v := 0) hx hb hr (by rfl) (fun t ht hW => ⟨⟨0, (), rfl, rfl, ⟨by rw [ht]; exact hP9, va_K.moved hW.alike hK9, hD9⟩⟩, hS.F ht⟩) hS.2.2 dX11_hasWalked_7
